/-! THE V LAYER: rows of the G layer that name what they make; the words of the functions that programs are turned into (guards, names, calls) -/
abbrev inr (a : Int) : Prop := -2147483648 ≤ a ∧ a < 2147483648
def gg {β : Type} (p : Prop) [Decidable p] (e : Option β) : Option β := if p then e else none
def gv {α β : Type} (v : α) (k : α → Option β) : Option β := k v
def gc {β : Type} (m : Option (Int × GS)) (k : Int → GS → Option β) : Option β := match m with
  | none => none
  | some q => k q.1 q.2
theorem gg_e {β : Type} {p : Prop} [Decidable p] {e : Option β} {r : β} (h : gg p e = some r) : p ∧ e = some r := by
  unfold gg at h
  split at h
  · rename_i hp; exact ⟨hp, h⟩
  · cases h
theorem gv_e {α β : Type} {v : α} {k : α → Option β} {r : β} (h : gv v k = some r) : ∃ x, v = x ∧ k x = some r := ⟨v, rfl, h⟩
theorem gc_e {β : Type} {m : Option (Int × GS)} {k : Int → GS → Option β} {r : β} (h : gc m k = some r) : ∃ x S1, m = some (x, S1) ∧ k x S1 = some r := by
  cases m with
  | none => cases h
  | some q => exact ⟨q.1, q.2, rfl, h⟩
theorem it_t {β : Type} {p : Prop} [Decidable p] {a b : Option β} {r : β} (h : (if p then a else b) = some r) (hp : p) : a = some r := by rw [if_pos hp] at h; exact h
theorem it_f {β : Type} {p : Prop} [Decidable p] {a b : Option β} {r : β} (h : (if p then a else b) = some r) (hp : ¬ p) : b = some r := by rw [if_neg hp] at h; exact h
theorem gg_i {β : Type} {p : Prop} [Decidable p] {e : Option β} (h : p) : gg p e = e := if_pos h
theorem gv_i {α β : Type} {v : α} {k : α → Option β} : gv v k = k v := rfl
theorem gc_i {β : Type} {m : Option (Int × GS)} {k : Int → GS → Option β} {x : Int} {S1 : GS} (h : m = some (x, S1)) : gc m k = k x S1 := by rw [h]; rfl
def bi (b : Bool) : Int := if b then 1 else 0
theorem bi_J (b : Bool) : J (bi b) = xb b := by cases b <;> rfl
theorem bi_c {z : Int} (h : z = 0 ∨ z = 1) : J z = xb (decide (z = 1)) := by rcases h with rfl | rfl <;> rfl
abbrev K (z : Int) : Int64 := Int64.ofInt z
/-- a tree, by its number; a sheet; a route -/
abbrev gT (c : Nat) : Prop := c % 8 = 0 ∧ c < 424
abbrev gSh (c : Nat) : Prop := c % 2 = 0 ∧ 424 ≤ c ∧ c < 468
abbrev gRo (c : Nat) : Prop := c = 471 ∨ c = 483
def rS (c : Nat) : Nat := if c = 471 then 436 else 448
def rW (c : Nat) : Nat := if c = 471 then 438 else 450
section VS
variable {L : Nat → Nat} {I : Nat → Int} {B : Nat → Bool} {R : Nat → Nat} {c : Nat}
theorem gsT (h : gT c) : gsh L c I B R = some (xO 9 [.ref (L (c + 1)), .ref (L (c + 2)), .ref (L (c + 3)), .ref (L (c + 4)), .ref (L (c + 5)), .ref (L (c + 6)), .ref (L (c + 7)), .int (J (I 7)), .int (xb (B 8))]) := by
  unfold gsh
  rw [if_pos h.2, h.1]
  rfl
theorem gsS (h : gSh c) : gsh L c I B R = some (xO 8 [.ref (L (c + 1)), .int (J (I 1))]) := by
  unfold gsh
  rw [if_neg (by omega), if_pos h.2.2, if_pos h.1]
theorem gsS1 (h : gSh c) : gsh L (c + 1) I B R = some (xJ 2 (g_room (c + 1)) I) := by
  unfold gsh
  rw [if_neg (by omega), if_pos (by omega), if_neg (by omega)]
theorem gsR (h : gRo c) : gsh L c I B R = some (xO 7 [.ref (L (rS c)), .ref (L (rW c)), .ref (L (c + 1)), .int (J (I 3))]) := by rcases h with rfl | rfl <;> rfl
theorem gsR3 (h : gRo c) : gsh L (c + 1) I B R = some (xJ 0 400 I) := by rcases h with rfl | rfl <;> rfl
theorem rS_s (h : gRo c) : gSh (rS c) := by rcases h with rfl | rfl <;> decide
theorem rW_s (h : gRo c) : gSh (rW c) := by rcases h with rfl | rfl <;> decide
theorem gsT1 (h : gT c) : gsh L (c + 1) I B R = some (xJ 0 100 I) := by
  unfold gsh
  rw [if_pos (by omega), show (c + 1) % 8 = 1 by omega]
  rfl
theorem gsT2 (h : gT c) : gsh L (c + 2) I B R = some (xJ 0 100 I) := by
  unfold gsh
  rw [if_pos (by omega), show (c + 2) % 8 = 2 by omega]
  rfl
theorem gsT3 (h : gT c) : gsh L (c + 3) I B R = some (xJ 0 100 I) := by
  unfold gsh
  rw [if_pos (by omega), show (c + 3) % 8 = 3 by omega]
  rfl
theorem gsT4 (h : gT c) : gsh L (c + 4) I B R = some (xJ 0 100 I) := by
  unfold gsh
  rw [if_pos (by omega), show (c + 4) % 8 = 4 by omega]
  rfl
theorem gsT5 (h : gT c) : gsh L (c + 5) I B R = some (xJ 2 4000 I) := by
  unfold gsh
  rw [if_pos (by omega), show (c + 5) % 8 = 5 by omega]
  rfl
theorem gsT6 (h : gT c) : gsh L (c + 6) I B R = some (xJ 0 100 I) := by
  unfold gsh
  rw [if_pos (by omega), show (c + 6) % 8 = 6 by omega]
  rfl
theorem gsT7 (h : gT c) : gsh L (c + 7) I B R = some (xJ 2 1200 I) := by
  unfold gsh
  rw [if_pos (by omega), show (c + 7) % 8 = 7 by omega]
  rfl
end VS
section VR
variable {l : Launch} {Z : XZ} {L : Nat → Nat} {y : MethodName} {cc : ByteArray} {nL : Nat} {ret : Option FieldType} {hh : List (Nat × Nat × Nat × Nat)} {d mc ms : Nat} {q : Option Value → GS → Prop} {qx : String → GS → Prop} {pc : Nat} {f : GL} {st rest : List Value} {S S1 : GS} {nc ns : Nat} {x : Int}
theorem GV.iadd {a b : Int} (hx : a + b = x) (hdg : decode cc pc = .ok (.iadd, 1)) (k : GA l Z L y cc nL ret hh d mc ms q qx (pc + 1) f (.int (J x) :: st) S nc ns) : GA l Z L y cc nL ret hh d mc ms q qx pc f (.int (J b) :: .int (J a) :: st) S nc ns := by subst hx; exact GA.iadd hdg k
theorem GV.isub {a b : Int} (hx : a - b = x) (hdg : decode cc pc = .ok (.isub, 1)) (k : GA l Z L y cc nL ret hh d mc ms q qx (pc + 1) f (.int (J x) :: st) S nc ns) : GA l Z L y cc nL ret hh d mc ms q qx pc f (.int (J b) :: .int (J a) :: st) S nc ns := by subst hx; exact GA.isub hdg k
theorem GV.imul {a b : Int} (hx : a * b = x) (hdg : decode cc pc = .ok (.imul, 1)) (k : GA l Z L y cc nL ret hh d mc ms q qx (pc + 1) f (.int (J x) :: st) S nc ns) : GA l Z L y cc nL ret hh d mc ms q qx pc f (.int (J b) :: .int (J a) :: st) S nc ns := by subst hx; exact GA.imul hdg k
theorem GV.idiv {a b : Int} (hg : (0 ≤ a ∧ a < 2147483648) ∧ (0 < b ∧ b < 2147483648)) (hx : a / b = x) (hdg : decode cc pc = .ok (.idiv, 1)) (k : GA l Z L y cc nL ret hh d mc ms q qx (pc + 1) f (.int (J x) :: st) S nc ns) : GA l Z L y cc nL ret hh d mc ms q qx pc f (.int (J b) :: .int (J a) :: st) S nc ns := by subst hx; exact GA.idiv hdg hg.1 hg.2 k
theorem GV.irem {a b : Int} (hg : (0 ≤ a ∧ a < 2147483648) ∧ (0 < b ∧ b < 2147483648)) (hx : a % b = x) (hdg : decode cc pc = .ok (.irem, 1)) (k : GA l Z L y cc nL ret hh d mc ms q qx (pc + 1) f (.int (J x) :: st) S nc ns) : GA l Z L y cc nL ret hh d mc ms q qx pc f (.int (J b) :: .int (J a) :: st) S nc ns := by subst hx; exact GA.irem hdg hg.1 hg.2 k
theorem GV.ineg {a : Int} (hx : -a = x) (hdg : decode cc pc = .ok (.ineg, 1)) (k : GA l Z L y cc nL ret hh d mc ms q qx (pc + 1) f (.int (J x) :: st) S nc ns) : GA l Z L y cc nL ret hh d mc ms q qx pc f (.int (J a) :: st) S nc ns := by subst hx; exact GA.ineg hdg k
theorem GV.iinc {i : Nat} {n a : Int} (hx : a + n = x) (hdg : decode cc pc = .ok (.iinc i n, 3)) (hk : f i = some (.int (J a))) (hn : i < nL) (k : GA l Z L y cc nL ret hh d mc ms q qx (pc + 3) (gst f i (.int (J x))) st S nc ns) : GA l Z L y cc nL ret hh d mc ms q qx pc f st S nc ns := by subst hx; exact GA.iinc hdg hk hn k
theorem GV.getI {index ci k c j : Nat} {fs : List Value} (hx : S.1 c j = x) (hf9 : XFld y.cls index ci k) (hdg : decode cc pc = .ok (.getfield index, 3)) (hs : gsh L c (S.1 c) (S.2.1 c) (S.2.2 c) = some (xO ci fs)) (hc : c < 700) (hv : fs[k]? = some (.int (J (S.1 c j)))) (k9 : GA l Z L y cc nL ret hh d mc ms q qx (pc + 3) f (.int (J x) :: st) S nc ns) : GA l Z L y cc nL ret hh d mc ms q qx pc f (.ref (L c) :: st) S nc ns := by subst hx; exact GA.get hf9 hdg hs hc hv k9
theorem GV.getB {index ci k c j : Nat} {fs : List Value} (hx : bi (S.2.1 c j) = x) (hf9 : XFld y.cls index ci k) (hdg : decode cc pc = .ok (.getfield index, 3)) (hs : gsh L c (S.1 c) (S.2.1 c) (S.2.2 c) = some (xO ci fs)) (hc : c < 700) (hv : fs[k]? = some (.int (xb (S.2.1 c j)))) (k9 : GA l Z L y cc nL ret hh d mc ms q qx (pc + 3) f (.int (J x) :: st) S nc ns) : GA l Z L y cc nL ret hh d mc ms q qx pc f (.ref (L c) :: st) S nc ns := by subst hx; refine GA.get hf9 hdg hs hc hv ?_; rw [← bi_J]; exact k9
theorem GV.getR {index ci k c j z : Nat} {fs : List Value} (hx : S.2.2 c j = z) (hf9 : XFld y.cls index ci k) (hdg : decode cc pc = .ok (.getfield index, 3)) (hs : gsh L c (S.1 c) (S.2.1 c) (S.2.2 c) = some (xO ci fs)) (hc : c < 700) (hv : fs[k]? = some (.ref (L (S.2.2 c j)))) (k9 : GA l Z L y cc nL ret hh d mc ms q qx (pc + 3) f (.ref (L z) :: st) S nc ns) : GA l Z L y cc nL ret hh d mc ms q qx pc f (.ref (L c) :: st) S nc ns := by subst hx; exact GA.get hf9 hdg hs hc hv k9
theorem GV.putI {index ci k c : Nat} {fs : List Value} {z : Int} (hS : gI S c k z = S1) (hf9 : XPut y.cls y.name index ci k (.int (J z))) (hdg : decode cc pc = .ok (.putfield index, 3)) (hs : gsh L c (S.1 c) (S.2.1 c) (S.2.2 c) = some (xO ci fs)) (hc : c < 700) (hl : k < fs.length) (hs' : gsh L c (xset (S.1 c) k z) (S.2.1 c) (S.2.2 c) = some (xO ci (fs.set k (.int (J z))))) (k9 : GA l Z L y cc nL ret hh d mc ms q qx (pc + 3) f st S1 nc ns) : GA l Z L y cc nL ret hh d mc ms q qx pc f (.int (J z) :: .ref (L c) :: st) S nc ns := by subst hS; exact GA.putI hf9 hdg hs hc hl hs' k9
theorem GV.putB {index ci k c : Nat} {fs : List Value} {z : Int} (hz : z = 0 ∨ z = 1) (hS : gB S c k (decide (z = 1)) = S1) (hf9 : XPut y.cls y.name index ci k (.int (xb (decide (z = 1))))) (hdg : decode cc pc = .ok (.putfield index, 3)) (hs : gsh L c (S.1 c) (S.2.1 c) (S.2.2 c) = some (xO ci fs)) (hc : c < 700) (hl : k < fs.length) (hs' : gsh L c (S.1 c) (xset (S.2.1 c) k (decide (z = 1))) (S.2.2 c) = some (xO ci (fs.set k (.int (xb (decide (z = 1))))))) (k9 : GA l Z L y cc nL ret hh d mc ms q qx (pc + 3) f st S1 nc ns) : GA l Z L y cc nL ret hh d mc ms q qx pc f (.int (J z) :: .ref (L c) :: st) S nc ns := by subst hS; rw [bi_c hz]; exact GA.putB hf9 hdg hs hc hl hs' k9
theorem GV.putR {index ci k c z : Nat} {fs : List Value} (hS : gR S c k z = S1) (hf9 : XPut y.cls y.name index ci k (.ref (L z))) (hdg : decode cc pc = .ok (.putfield index, 3)) (hs : gsh L c (S.1 c) (S.2.1 c) (S.2.2 c) = some (xO ci fs)) (hc : c < 700) (hl : k < fs.length) (hs' : gsh L c (S.1 c) (S.2.1 c) (xset (S.2.2 c) k z) = some (xO ci (fs.set k (.ref (L z))))) (k9 : GA l Z L y cc nL ret hh d mc ms q qx (pc + 3) f st S1 nc ns) : GA l Z L y cc nL ret hh d mc ms q qx pc f (.ref (L z) :: .ref (L c) :: st) S nc ns := by subst hS; exact GA.putR hf9 hdg hs hc hl hs' k9
theorem GV.iald {c n : Nat} {i : Int} (hi : 0 ≤ i ∧ i < (n : Int) ∧ i < 2147483648) (hx : S.1 c i.toNat = x) (hdg : decode cc pc = .ok (.iaload, 1)) (hs : gsh L c (S.1 c) (S.2.1 c) (S.2.2 c) = some (xJ 0 n (S.1 c))) (hc : c < 700) (k : GA l Z L y cc nL ret hh d mc ms q qx (pc + 1) f (.int (J x) :: st) S nc ns) : GA l Z L y cc nL ret hh d mc ms q qx pc f (.int (J i) :: .ref (L c) :: st) S nc ns := by subst hx; exact GA.iald hdg hs hc hi k
theorem GV.cald {c n : Nat} {i : Int} (hi : 0 ≤ i ∧ i < (n : Int) ∧ i < 2147483648) (hx : S.1 c i.toNat = x) (hdg : decode cc pc = .ok (.caload, 1)) (hs : gsh L c (S.1 c) (S.2.1 c) (S.2.2 c) = some (xJ 2 n (S.1 c))) (hc : c < 700) (k : GA l Z L y cc nL ret hh d mc ms q qx (pc + 1) f (.int (J x) :: st) S nc ns) : GA l Z L y cc nL ret hh d mc ms q qx pc f (.int (J i) :: .ref (L c) :: st) S nc ns := by subst hx; exact GA.cald hdg hs hc hi k
theorem GV.zald {c n : Nat} {i : Int} (hi : 0 ≤ i ∧ i < (n : Int) ∧ i < 2147483648) (hx : bi (S.2.1 c i.toNat) = x) (hdg : decode cc pc = .ok (.baload, 1)) (hs : gsh L c (S.1 c) (S.2.1 c) (S.2.2 c) = some (xB n (S.2.1 c))) (hc : c < 700) (k : GA l Z L y cc nL ret hh d mc ms q qx (pc + 1) f (.int (J x) :: st) S nc ns) : GA l Z L y cc nL ret hh d mc ms q qx pc f (.int (J i) :: .ref (L c) :: st) S nc ns := by subst hx; refine GA.zald hdg hs hc hi ?_; rw [← bi_J]; exact k
theorem GV.iast {c n : Nat} {i z : Int} (hi : 0 ≤ i ∧ i < (n : Int) ∧ i < 2147483648) (hS : gI S c i.toNat z = S1) (hdg : decode cc pc = .ok (.iastore, 1)) (hs : ∀ g, gsh L c g (S.2.1 c) (S.2.2 c) = some (xJ 0 n g)) (hc : c < 700) (k : GA l Z L y cc nL ret hh d mc ms q qx (pc + 1) f st S1 nc ns) : GA l Z L y cc nL ret hh d mc ms q qx pc f (.int (J z) :: .int (J i) :: .ref (L c) :: st) S nc ns := by subst hS; exact GA.iast hdg hs hc hi k
theorem GV.cast {c n : Nat} {i z : Int} (hi : 0 ≤ i ∧ i < (n : Int) ∧ i < 2147483648) (hz : 0 ≤ z ∧ z < 65536) (hS : gI S c i.toNat z = S1) (hdg : decode cc pc = .ok (.castore, 1)) (hs : ∀ g, gsh L c g (S.2.1 c) (S.2.2 c) = some (xJ 2 n g)) (hc : c < 700) (k : GA l Z L y cc nL ret hh d mc ms q qx (pc + 1) f st S1 nc ns) : GA l Z L y cc nL ret hh d mc ms q qx pc f (.int (J z) :: .int (J i) :: .ref (L c) :: st) S nc ns := by subst hS; exact GA.cast hdg hs hc hi hz k
theorem GV.zast {c n : Nat} {i z : Int} (hi : 0 ≤ i ∧ i < (n : Int) ∧ i < 2147483648) (hz : z = 0 ∨ z = 1) (hS : gB S c i.toNat (decide (z = 1)) = S1) (hdg : decode cc pc = .ok (.bastore, 1)) (hs : ∀ g, gsh L c (S.1 c) g (S.2.2 c) = some (xB n g)) (hc : c < 700) (k : GA l Z L y cc nL ret hh d mc ms q qx (pc + 1) f st S1 nc ns) : GA l Z L y cc nL ret hh d mc ms q qx pc f (.int (J z) :: .int (J i) :: .ref (L c) :: st) S nc ns := by subst hS; rw [bi_c hz]; exact GA.zast hdg hs hc hi k
theorem GV.if_eq {a : Int} {off : Int} {tgt : Nat} (ha9 : inr a) (hdg : decode cc pc = .ok (.ifCond .eq off, 3)) (ht : (pc : Int) + off = (tgt : Int)) (kt : a = 0 → GA l Z L y cc nL ret hh d mc ms q qx tgt f st S nc ns) (kf : ¬ (a = 0) → GA l Z L y cc nL ret hh d mc ms q qx (pc + 3) f st S nc ns) : GA l Z L y cc nL ret hh d mc ms q qx pc f (.int (J a) :: st) S nc ns := GA.if_eq hdg ht ha9 kt (fun c => kf (by omega))
theorem GV.icmp_eq {a b : Int} {off : Int} {tgt : Nat} (ha9 : inr a) (hb9 : inr b) (hdg : decode cc pc = .ok (.if_icmp .eq off, 3)) (ht : (pc : Int) + off = (tgt : Int)) (kt : a = b → GA l Z L y cc nL ret hh d mc ms q qx tgt f st S nc ns) (kf : ¬ (a = b) → GA l Z L y cc nL ret hh d mc ms q qx (pc + 3) f st S nc ns) : GA l Z L y cc nL ret hh d mc ms q qx pc f (.int (J b) :: .int (J a) :: st) S nc ns := GA.icmp_eq hdg ht ha9 hb9 kt (fun c => kf (by omega))
theorem GV.if_ne {a : Int} {off : Int} {tgt : Nat} (ha9 : inr a) (hdg : decode cc pc = .ok (.ifCond .ne off, 3)) (ht : (pc : Int) + off = (tgt : Int)) (kt : a ≠ 0 → GA l Z L y cc nL ret hh d mc ms q qx tgt f st S nc ns) (kf : ¬ (a ≠ 0) → GA l Z L y cc nL ret hh d mc ms q qx (pc + 3) f st S nc ns) : GA l Z L y cc nL ret hh d mc ms q qx pc f (.int (J a) :: st) S nc ns := GA.if_ne hdg ht ha9 kt (fun c => kf (by omega))
theorem GV.icmp_ne {a b : Int} {off : Int} {tgt : Nat} (ha9 : inr a) (hb9 : inr b) (hdg : decode cc pc = .ok (.if_icmp .ne off, 3)) (ht : (pc : Int) + off = (tgt : Int)) (kt : a ≠ b → GA l Z L y cc nL ret hh d mc ms q qx tgt f st S nc ns) (kf : ¬ (a ≠ b) → GA l Z L y cc nL ret hh d mc ms q qx (pc + 3) f st S nc ns) : GA l Z L y cc nL ret hh d mc ms q qx pc f (.int (J b) :: .int (J a) :: st) S nc ns := GA.icmp_ne hdg ht ha9 hb9 kt (fun c => kf (by omega))
theorem GV.if_lt {a : Int} {off : Int} {tgt : Nat} (ha9 : inr a) (hdg : decode cc pc = .ok (.ifCond .lt off, 3)) (ht : (pc : Int) + off = (tgt : Int)) (kt : a < 0 → GA l Z L y cc nL ret hh d mc ms q qx tgt f st S nc ns) (kf : ¬ (a < 0) → GA l Z L y cc nL ret hh d mc ms q qx (pc + 3) f st S nc ns) : GA l Z L y cc nL ret hh d mc ms q qx pc f (.int (J a) :: st) S nc ns := GA.if_lt hdg ht ha9 kt (fun c => kf (by omega))
theorem GV.icmp_lt {a b : Int} {off : Int} {tgt : Nat} (ha9 : inr a) (hb9 : inr b) (hdg : decode cc pc = .ok (.if_icmp .lt off, 3)) (ht : (pc : Int) + off = (tgt : Int)) (kt : a < b → GA l Z L y cc nL ret hh d mc ms q qx tgt f st S nc ns) (kf : ¬ (a < b) → GA l Z L y cc nL ret hh d mc ms q qx (pc + 3) f st S nc ns) : GA l Z L y cc nL ret hh d mc ms q qx pc f (.int (J b) :: .int (J a) :: st) S nc ns := GA.icmp_lt hdg ht ha9 hb9 kt (fun c => kf (by omega))
theorem GV.if_ge {a : Int} {off : Int} {tgt : Nat} (ha9 : inr a) (hdg : decode cc pc = .ok (.ifCond .ge off, 3)) (ht : (pc : Int) + off = (tgt : Int)) (kt : 0 ≤ a → GA l Z L y cc nL ret hh d mc ms q qx tgt f st S nc ns) (kf : ¬ (0 ≤ a) → GA l Z L y cc nL ret hh d mc ms q qx (pc + 3) f st S nc ns) : GA l Z L y cc nL ret hh d mc ms q qx pc f (.int (J a) :: st) S nc ns := GA.if_ge hdg ht ha9 kt (fun c => kf (by omega))
theorem GV.icmp_ge {a b : Int} {off : Int} {tgt : Nat} (ha9 : inr a) (hb9 : inr b) (hdg : decode cc pc = .ok (.if_icmp .ge off, 3)) (ht : (pc : Int) + off = (tgt : Int)) (kt : b ≤ a → GA l Z L y cc nL ret hh d mc ms q qx tgt f st S nc ns) (kf : ¬ (b ≤ a) → GA l Z L y cc nL ret hh d mc ms q qx (pc + 3) f st S nc ns) : GA l Z L y cc nL ret hh d mc ms q qx pc f (.int (J b) :: .int (J a) :: st) S nc ns := GA.icmp_ge hdg ht ha9 hb9 kt (fun c => kf (by omega))
theorem GV.if_gt {a : Int} {off : Int} {tgt : Nat} (ha9 : inr a) (hdg : decode cc pc = .ok (.ifCond .gt off, 3)) (ht : (pc : Int) + off = (tgt : Int)) (kt : 0 < a → GA l Z L y cc nL ret hh d mc ms q qx tgt f st S nc ns) (kf : ¬ (0 < a) → GA l Z L y cc nL ret hh d mc ms q qx (pc + 3) f st S nc ns) : GA l Z L y cc nL ret hh d mc ms q qx pc f (.int (J a) :: st) S nc ns := GA.if_gt hdg ht ha9 kt (fun c => kf (by omega))
theorem GV.icmp_gt {a b : Int} {off : Int} {tgt : Nat} (ha9 : inr a) (hb9 : inr b) (hdg : decode cc pc = .ok (.if_icmp .gt off, 3)) (ht : (pc : Int) + off = (tgt : Int)) (kt : b < a → GA l Z L y cc nL ret hh d mc ms q qx tgt f st S nc ns) (kf : ¬ (b < a) → GA l Z L y cc nL ret hh d mc ms q qx (pc + 3) f st S nc ns) : GA l Z L y cc nL ret hh d mc ms q qx pc f (.int (J b) :: .int (J a) :: st) S nc ns := GA.icmp_gt hdg ht ha9 hb9 kt (fun c => kf (by omega))
theorem GV.if_le {a : Int} {off : Int} {tgt : Nat} (ha9 : inr a) (hdg : decode cc pc = .ok (.ifCond .le off, 3)) (ht : (pc : Int) + off = (tgt : Int)) (kt : a ≤ 0 → GA l Z L y cc nL ret hh d mc ms q qx tgt f st S nc ns) (kf : ¬ (a ≤ 0) → GA l Z L y cc nL ret hh d mc ms q qx (pc + 3) f st S nc ns) : GA l Z L y cc nL ret hh d mc ms q qx pc f (.int (J a) :: st) S nc ns := GA.if_le hdg ht ha9 kt (fun c => kf (by omega))
theorem GV.icmp_le {a b : Int} {off : Int} {tgt : Nat} (ha9 : inr a) (hb9 : inr b) (hdg : decode cc pc = .ok (.if_icmp .le off, 3)) (ht : (pc : Int) + off = (tgt : Int)) (kt : a ≤ b → GA l Z L y cc nL ret hh d mc ms q qx tgt f st S nc ns) (kf : ¬ (a ≤ b) → GA l Z L y cc nL ret hh d mc ms q qx (pc + 3) f st S nc ns) : GA l Z L y cc nL ret hh d mc ms q qx pc f (.int (J b) :: .int (J a) :: st) S nc ns := GA.icmp_le hdg ht ha9 hb9 kt (fun c => kf (by omega))
theorem GV.mmax {index : Nat} {a b : Int} (ha9 : inr a) (hb9 : inr b) (hx : max a b = x) (hw : Cond.methodLink y.cls index Lib.Math.max.name ∈ xg ∧ Cond.static Lib.Math.max.name ∈ xg ∧ Cond.initialized "java/lang/Math" ∈ xg ∧ Cond.code Lib.Math.max.name Lib.Math.max.code 2 (some .int) ∈ xg) (hdg : decode cc pc = .ok (.invokestatic index, 3)) (hcat : (st.map fun v => v.category).sum ≤ 8) (hc9 : nc ≤ mc) (hs9 : ns ≤ ms) (k : GA l Z L y cc nL ret hh d mc ms q qx (pc + 3) f (.int (J x) :: st) S nc ns) : GA l Z L y cc nL ret hh d mc ms q qx pc f (.int (J b) :: .int (J a) :: st) S nc ns := by subst hx; exact GA.mmax hw hdg ha9 hb9 hcat hc9 hs9 k
theorem GV.mmin {index : Nat} {a b : Int} (ha9 : inr a) (hb9 : inr b) (hx : min a b = x) (hw : Cond.methodLink y.cls index Lib.Math.min.name ∈ xg ∧ Cond.static Lib.Math.min.name ∈ xg ∧ Cond.initialized "java/lang/Math" ∈ xg ∧ Cond.code Lib.Math.min.name Lib.Math.min.code 2 (some .int) ∈ xg) (hdg : decode cc pc = .ok (.invokestatic index, 3)) (hcat : (st.map fun v => v.category).sum ≤ 8) (hc9 : nc ≤ mc) (hs9 : ns ≤ ms) (k : GA l Z L y cc nL ret hh d mc ms q qx (pc + 3) f (.int (J x) :: st) S nc ns) : GA l Z L y cc nL ret hh d mc ms q qx pc f (.int (J b) :: .int (J a) :: st) S nc ns := by subst hx; exact GA.mmin hw hdg ha9 hb9 hcat hc9 hs9 k
theorem GV.mabs {index : Nat} {a : Int} (ha9 : inr a) (hx : max a (-a) = x) (hw : Cond.methodLink y.cls index Lib.Math.abs.name ∈ xg ∧ Cond.static Lib.Math.abs.name ∈ xg ∧ Cond.initialized "java/lang/Math" ∈ xg ∧ Cond.code Lib.Math.abs.name Lib.Math.abs.code 1 (some .int) ∈ xg) (hdg : decode cc pc = .ok (.invokestatic index, 3)) (hcat : (st.map fun v => v.category).sum ≤ 8) (hc9 : nc ≤ mc) (hs9 : ns ≤ ms) (k : GA l Z L y cc nL ret hh d mc ms q qx (pc + 3) f (.int (J x) :: st) S nc ns) : GA l Z L y cc nL ret hh d mc ms q qx pc f (.int (J a) :: st) S nc ns := by subst hx; exact GA.mabs hw hdg ha9 hcat hc9 hs9 k
theorem GV.strLen {index i : Nat} (hi : i < 54) (hx : ((xlen.getD i 0 : Nat) : Int) = x) (hsite : XSiteV y.cls index "java/lang/String" yJ0_length_8abf5 cJ0_length_8abf5 1 (some .int) 0) (hdg : decode cc pc = .ok (.invokevirtual index, 3)) (hd : 2 ≤ d) (hcat : (st.map fun v => v.category).sum ≤ 8) (hc9 : nc ≤ mc) (hs9 : ns ≤ ms) (k : GA l Z L y cc nL ret hh d mc ms q qx (pc + 3) f (.int (J x) :: st) S nc ns) : GA l Z L y cc nL ret hh d mc ms q qx pc f (.ref (Z.2.1 i) :: st) S nc ns := by subst hx; exact GA.strLen hi hsite hdg hd hcat hc9 hs9 k
theorem GV.strChar {index i : Nat} {a : Int} (hi : i < 54) (ha : 0 ≤ a ∧ a < (xlen.getD i 0 : Nat)) (hx : xch i a.toNat = x) (hsite : XSiteV y.cls index "java/lang/String" yJ0_charAt_5068e cJ0_charAt_5068e 2 (some .char) 1) (hdg : decode cc pc = .ok (.invokevirtual index, 3)) (hd : 4 ≤ d) (hcat : (st.map fun v => v.category).sum ≤ 8) (hc9 : nc ≤ mc) (hs9 : ns ≤ ms) (k : GA l Z L y cc nL ret hh d mc ms q qx (pc + 3) f (.int (J x) :: st) S nc ns) : GA l Z L y cc nL ret hh d mc ms q qx pc f (.int (J a) :: .ref (Z.2.1 i) :: st) S nc ns := by subst hx; exact GA.strChar hi hsite hdg ha hd hcat hc9 hs9 k
theorem GV.zret {z : Int} (hz : z = 0 ∨ z = 1) (hr : ret = some .boolean) (hdg : decode cc pc = .ok (.ireturn, 1)) (hc9 : nc ≤ mc) (hs9 : ns ≤ ms) (hq : q (some (.int (J z))) S) : GA l Z L y cc nL ret hh d mc ms q qx pc f [.int (J z)] S nc ns := by rw [bi_c hz] at hq ⊢; exact GA.zret hr hdg hc9 hs9 hq
end VR
