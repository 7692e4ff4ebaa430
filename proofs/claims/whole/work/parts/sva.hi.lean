/-! CELLS that the class never touches -/
def Hi (t : Nat) (S S1 : GS) : Prop := ∀ c, t ≤ c → S1.1 c = S.1 c ∧ S1.2.1 c = S.2.1 c ∧ S1.2.2 c = S.2.2 c
def PH (t : Nat) (S : GS) (o : Option (Int × GS)) : Prop := ∀ x S1, o = some (x, S1) → Hi t S S1
theorem hi_rf {t : Nat} {S : GS} : Hi t S S := fun _ _ => ⟨rfl, rfl, rfl⟩
theorem hi_tr {t : Nat} {S S1 S2 : GS} (h : Hi t S S1) (g : Hi t S1 S2) : Hi t S S2 := fun c hc => ⟨(g c hc).1.trans (h c hc).1, (g c hc).2.1.trans (h c hc).2.1, (g c hc).2.2.trans (h c hc).2.2⟩
theorem ph_none {t : Nat} {S : GS} : PH t S none := fun _ _ h => by cases h
theorem ph_some {t : Nat} {S : GS} {x : Int} : PH t S (some (x, S)) := fun _ _ h => by
  cases h
  exact hi_rf
theorem ph_tr {t : Nat} {S S1 : GS} {o : Option (Int × GS)} (h : Hi t S S1) (g : PH t S1 o) : PH t S o := fun x S2 e => hi_tr h (g x S2 e)
theorem ph_gg {t : Nat} {S : GS} {p : Prop} [Decidable p] {e : Option (Int × GS)} (h : p → PH t S e) : PH t S (gg p e) := by
  unfold gg
  split
  · rename_i c
    exact h c
  · exact ph_none
theorem ph_gv {t : Nat} {S : GS} {α : Type} {v : α} {k : α → Option (Int × GS)} (h : ∀ x, PH t S (k x)) : PH t S (gv v k) := h v
theorem ph_gI {t : Nat} {S : GS} {c k : Nat} {x : Int} {f : GS → Option (Int × GS)} (hc : c < t) (h : ∀ S1, PH t S1 (f S1)) : PH t S (gv (gI S c k x) f) := ph_tr (S1 := gI S c k x) (fun c' hc' => ⟨gI_n (fun e => by omega), rfl, rfl⟩) (h (gI S c k x))
theorem ph_gIs {t : Nat} {S : GS} {c : Nat} {g : Nat → Int} {f : GS → Option (Int × GS)} (hc : c < t) (h : ∀ S1, PH t S1 (f S1)) : PH t S (gv (gIs S c g) f) := ph_tr (S1 := gIs S c g) (fun c' hc' => ⟨gIs_n (fun e => by omega), rfl, rfl⟩) (h (gIs S c g))
theorem ph_gCp {t : Nat} {S : GS} {c1 c0 : Nat} {dp sp n : Int} {f : GS → Option (Int × GS)} (hc : c1 < t) (h : ∀ S1, PH t S1 (f S1)) : PH t S (gv (gCp S c1 c0 dp sp n) f) := ph_tr (S1 := gCp S c1 c0 dp sp n) (fun c' hc' => ⟨gIs_n (fun e => by omega), rfl, rfl⟩) (h _)
theorem ph_gB {t : Nat} {S : GS} {c k : Nat} {x : Bool} {f : GS → Option (Int × GS)} (hc : c < t) (h : ∀ S1, PH t S1 (f S1)) : PH t S (gv (gB S c k x) f) := ph_tr (S1 := gB S c k x) (fun c' hc' => ⟨rfl, gB_n (fun e => by omega), rfl⟩) (h (gB S c k x))
theorem ph_gR {t : Nat} {S : GS} {c k x : Nat} {f : GS → Option (Int × GS)} (hc : c < t) (h : ∀ S1, PH t S1 (f S1)) : PH t S (gv (gR S c k x) f) := ph_tr (S1 := gR S c k x) (fun c' hc' => ⟨rfl, rfl, gR_n (fun e => by omega)⟩) (h (gR S c k x))
theorem ph_gc {t : Nat} {S : GS} {m : Option (Int × GS)} {k : Int → GS → Option (Int × GS)} (hm : PH t S m) (h : ∀ x S1, PH t S1 (k x S1)) : PH t S (gc m k) := by
  intro x S2 e
  unfold gc at e
  cases em : m with
  | none => rw [em] at e; cases e
  | some y =>
    obtain ⟨y1, S1⟩ := y
    rw [em] at e
    exact hi_tr (hm y1 S1 em) (h y1 S1 x S2 e)
theorem ph_ite {t : Nat} {S : GS} {p : Prop} [Decidable p] {a b : Option (Int × GS)} (ha : p → PH t S a) (hb : ¬ p → PH t S b) : PH t S (if p then a else b) := by
  split
  · rename_i c
    exact ha c
  · rename_i c
    exact hb c
theorem kh_X0_begin : ∀ n : Nat, (∀ (d : Nat) (S : GS) (a1 : Nat) (a2 : Nat) (a3 : Int), PH 495 S (f_X0_begin n d 0 S [((a1 : Nat) : Int), ((a2 : Nat) : Int), a3]))
  | 0 => (fun _ _ _ _ _ => ph_none)
  | n + 1 => by
    have h0 := kh_X0_begin n
    · intro _ _ _ _ _
      rw [e_X0_begin_0]
      unfold b_X0_begin_0
      repeat' (with_reducible first
        | exact ph_none
        | exact ph_some
        | refine ph_gI (by first | decide | omega) (fun _ => ?_)
        | refine ph_gCp (by first | decide | omega) (fun _ => ?_)
        | refine ph_gB (by first | decide | omega) (fun _ => ?_)
        | refine ph_gR (by first | decide | omega) (fun _ => ?_)
        | refine ph_gv (fun _ => ?_)
        | refine ph_gg (fun _ => ?_)
        | refine ph_gc ?_ (fun _ _ => ?_)
        | refine ph_ite (fun _ => ?_) (fun _ => ?_))

theorem kh_X10_is : ∀ n : Nat, (∀ (d : Nat) (S : GS) (a0 : Nat) (a1 : Int) (a2 : Int), PH 495 S (f_X10_is n d 0 S [((a0 : Nat) : Int), a1, a2]))
  | 0 => (fun _ _ _ _ _ => ph_none)
  | n + 1 => by
    have h0 := kh_X10_is n
    · intro _ _ _ _ _
      rw [e_X10_is_0]
      unfold b_X10_is_0
      repeat' (with_reducible first
        | exact ph_none
        | exact ph_some
        | refine ph_gI (by first | decide | omega) (fun _ => ?_)
        | refine ph_gCp (by first | decide | omega) (fun _ => ?_)
        | refine ph_gB (by first | decide | omega) (fun _ => ?_)
        | refine ph_gR (by first | decide | omega) (fun _ => ?_)
        | refine ph_gv (fun _ => ?_)
        | refine ph_gg (fun _ => ?_)
        | refine ph_gc ?_ (fun _ _ => ?_)
        | refine ph_ite (fun _ => ?_) (fun _ => ?_))

theorem kh_X10_isTrue : ∀ n : Nat, (∀ (d : Nat) (S : GS) (a0 : Nat) (a1 : Int), PH 495 S (f_X10_isTrue n d 0 S [((a0 : Nat) : Int), a1]))
  | 0 => (fun _ _ _ _ => ph_none)
  | n + 1 => by
    have h0 := kh_X10_isTrue n
    · intro _ _ _ _
      rw [e_X10_isTrue_0]
      unfold b_X10_isTrue_0
      repeat' (with_reducible first
        | exact ph_none
        | exact ph_some
        | refine ph_gI (by first | decide | omega) (fun _ => ?_)
        | refine ph_gCp (by first | decide | omega) (fun _ => ?_)
        | refine ph_gB (by first | decide | omega) (fun _ => ?_)
        | refine ph_gR (by first | decide | omega) (fun _ => ?_)
        | refine ph_gv (fun _ => ?_)
        | refine ph_gg (fun _ => ?_)
        | refine ph_gc ?_ (fun _ _ => ?_)
        | refine ph_ite (fun _ => ?_) (fun _ => ?_)
        | exact (kh_X10_is _) _ _ _ _ _)

theorem kh_X0_complain : ∀ n : Nat, (∀ (d : Nat) (S : GS) (a1 : Int) (a2 : Int) (a3 : Int), PH 495 S (f_X0_complain n d 0 S [a1, a2, a3]))
  | 0 => (fun _ _ _ _ _ => ph_none)
  | n + 1 => by
    have h0 := kh_X0_complain n
    · intro _ _ _ _ _
      rw [e_X0_complain_0]
      unfold b_X0_complain_0
      repeat' (with_reducible first
        | exact ph_none
        | exact ph_some
        | refine ph_gI (by first | decide | omega) (fun _ => ?_)
        | refine ph_gCp (by first | decide | omega) (fun _ => ?_)
        | refine ph_gB (by first | decide | omega) (fun _ => ?_)
        | refine ph_gR (by first | decide | omega) (fun _ => ?_)
        | refine ph_gv (fun _ => ?_)
        | refine ph_gg (fun _ => ?_)
        | refine ph_gc ?_ (fun _ _ => ?_)
        | refine ph_ite (fun _ => ?_) (fun _ => ?_))

theorem kh_X0_wordOf : ∀ n : Nat, (∀ (d : Nat) (S : GS) (a0 : Int), PH 495 S (f_X0_wordOf n d 0 S [a0]))
  | 0 => (fun _ _ _ => ph_none)
  | n + 1 => by
    have h0 := kh_X0_wordOf n
    · intro _ _ _
      rw [e_X0_wordOf_0]
      unfold b_X0_wordOf_0
      repeat' (with_reducible first
        | exact ph_none
        | exact ph_some
        | refine ph_gI (by first | decide | omega) (fun _ => ?_)
        | refine ph_gCp (by first | decide | omega) (fun _ => ?_)
        | refine ph_gB (by first | decide | omega) (fun _ => ?_)
        | refine ph_gR (by first | decide | omega) (fun _ => ?_)
        | refine ph_gv (fun _ => ?_)
        | refine ph_gg (fun _ => ?_)
        | refine ph_gc ?_ (fun _ _ => ?_)
        | refine ph_ite (fun _ => ?_) (fun _ => ?_))

theorem kh_X10_firstOfMap : ∀ n : Nat, (∀ (d : Nat) (S : GS) (a0 : Nat) (a1 : Int), PH 495 S (f_X10_firstOfMap n d 0 S [((a0 : Nat) : Int), a1])) ∧ (∀ (d : Nat) (S : GS) (a0 : Nat) (a1 : Int) (s0 : Int), PH 495 S (f_X10_firstOfMap n d 25 S [((a0 : Nat) : Int), a1, s0]))
  | 0 => ⟨(fun _ _ _ _ => ph_none), (fun _ _ _ _ _ => ph_none)⟩
  | n + 1 => by
    obtain ⟨h0, h25⟩ := kh_X10_firstOfMap n
    refine ⟨?_, ?_⟩
    · intro _ _ _ _
      rw [e_X10_firstOfMap_0]
      unfold b_X10_firstOfMap_0
      repeat' (with_reducible first
        | exact ph_none
        | exact ph_some
        | refine ph_gI (by first | decide | omega) (fun _ => ?_)
        | refine ph_gCp (by first | decide | omega) (fun _ => ?_)
        | refine ph_gB (by first | decide | omega) (fun _ => ?_)
        | refine ph_gR (by first | decide | omega) (fun _ => ?_)
        | refine ph_gv (fun _ => ?_)
        | refine ph_gg (fun _ => ?_)
        | refine ph_gc ?_ (fun _ _ => ?_)
        | refine ph_ite (fun _ => ?_) (fun _ => ?_)
        | exact h25 _ _ _ _ _)
    · intro _ _ _ _ _
      rw [e_X10_firstOfMap_25]
      unfold b_X10_firstOfMap_25
      repeat' (with_reducible first
        | exact ph_none
        | exact ph_some
        | refine ph_gI (by first | decide | omega) (fun _ => ?_)
        | refine ph_gCp (by first | decide | omega) (fun _ => ?_)
        | refine ph_gB (by first | decide | omega) (fun _ => ?_)
        | refine ph_gR (by first | decide | omega) (fun _ => ?_)
        | refine ph_gv (fun _ => ?_)
        | refine ph_gg (fun _ => ?_)
        | refine ph_gc ?_ (fun _ _ => ?_)
        | refine ph_ite (fun _ => ?_) (fun _ => ?_))

theorem kh_X10_keyLength : ∀ n : Nat, (∀ (d : Nat) (S : GS) (a0 : Nat) (a1 : Int), PH 495 S (f_X10_keyLength n d 0 S [((a0 : Nat) : Int), a1]))
  | 0 => (fun _ _ _ _ => ph_none)
  | n + 1 => by
    have h0 := kh_X10_keyLength n
    · intro _ _ _ _
      rw [e_X10_keyLength_0]
      unfold b_X10_keyLength_0
      repeat' (with_reducible first
        | exact ph_none
        | exact ph_some
        | refine ph_gI (by first | decide | omega) (fun _ => ?_)
        | refine ph_gCp (by first | decide | omega) (fun _ => ?_)
        | refine ph_gB (by first | decide | omega) (fun _ => ?_)
        | refine ph_gR (by first | decide | omega) (fun _ => ?_)
        | refine ph_gv (fun _ => ?_)
        | refine ph_gg (fun _ => ?_)
        | refine ph_gc ?_ (fun _ _ => ?_)
        | refine ph_ite (fun _ => ?_) (fun _ => ?_))

theorem kh_X10_keySign : ∀ n : Nat, (∀ (d : Nat) (S : GS) (a0 : Nat) (a1 : Int) (a2 : Int), PH 495 S (f_X10_keySign n d 0 S [((a0 : Nat) : Int), a1, a2])) ∧ (∀ (d : Nat) (S : GS) (a0 : Nat) (a1 : Int) (a2 : Int) (s0 : Int), PH 495 S (f_X10_keySign n d 33 S [((a0 : Nat) : Int), a1, a2, s0]))
  | 0 => ⟨(fun _ _ _ _ _ => ph_none), (fun _ _ _ _ _ _ => ph_none)⟩
  | n + 1 => by
    obtain ⟨h0, h33⟩ := kh_X10_keySign n
    refine ⟨?_, ?_⟩
    · intro _ _ _ _ _
      rw [e_X10_keySign_0]
      unfold b_X10_keySign_0
      repeat' (with_reducible first
        | exact ph_none
        | exact ph_some
        | refine ph_gI (by first | decide | omega) (fun _ => ?_)
        | refine ph_gCp (by first | decide | omega) (fun _ => ?_)
        | refine ph_gB (by first | decide | omega) (fun _ => ?_)
        | refine ph_gR (by first | decide | omega) (fun _ => ?_)
        | refine ph_gv (fun _ => ?_)
        | refine ph_gg (fun _ => ?_)
        | refine ph_gc ?_ (fun _ _ => ?_)
        | refine ph_ite (fun _ => ?_) (fun _ => ?_)
        | exact h33 _ _ _ _ _ _)
    · intro _ _ _ _ _ _
      rw [e_X10_keySign_33]
      unfold b_X10_keySign_33
      repeat' (with_reducible first
        | exact ph_none
        | exact ph_some
        | refine ph_gI (by first | decide | omega) (fun _ => ?_)
        | refine ph_gCp (by first | decide | omega) (fun _ => ?_)
        | refine ph_gB (by first | decide | omega) (fun _ => ?_)
        | refine ph_gR (by first | decide | omega) (fun _ => ?_)
        | refine ph_gv (fun _ => ?_)
        | refine ph_gg (fun _ => ?_)
        | refine ph_gc ?_ (fun _ _ => ?_)
        | refine ph_ite (fun _ => ?_) (fun _ => ?_))

theorem kh_X10_hasKeyWord : ∀ n : Nat, (∀ (d : Nat) (S : GS) (a0 : Nat) (a1 : Int) (a2 : Nat), PH 495 S (f_X10_hasKeyWord n d 0 S [((a0 : Nat) : Int), a1, ((a2 : Nat) : Int)])) ∧ (∀ (d : Nat) (S : GS) (a0 : Nat) (a1 : Int) (a2 : Nat) (a3 : Int) (a4 : Int), PH 495 S (f_X10_hasKeyWord n d 21 S [((a0 : Nat) : Int), a1, ((a2 : Nat) : Int), a3, a4]))
  | 0 => ⟨(fun _ _ _ _ _ => ph_none), (fun _ _ _ _ _ _ _ => ph_none)⟩
  | n + 1 => by
    obtain ⟨h0, h21⟩ := kh_X10_hasKeyWord n
    refine ⟨?_, ?_⟩
    · intro _ _ _ _ _
      rw [e_X10_hasKeyWord_0]
      unfold b_X10_hasKeyWord_0
      repeat' (with_reducible first
        | exact ph_none
        | exact ph_some
        | refine ph_gI (by first | decide | omega) (fun _ => ?_)
        | refine ph_gCp (by first | decide | omega) (fun _ => ?_)
        | refine ph_gB (by first | decide | omega) (fun _ => ?_)
        | refine ph_gR (by first | decide | omega) (fun _ => ?_)
        | refine ph_gv (fun _ => ?_)
        | refine ph_gg (fun _ => ?_)
        | refine ph_gc ?_ (fun _ _ => ?_)
        | refine ph_ite (fun _ => ?_) (fun _ => ?_)
        | exact h21 _ _ _ _ _ _ _
        | exact (kh_X10_keyLength _) _ _ _ _)
    · intro _ _ _ _ _ _ _
      rw [e_X10_hasKeyWord_21]
      unfold b_X10_hasKeyWord_21
      repeat' (with_reducible first
        | exact ph_none
        | exact ph_some
        | refine ph_gI (by first | decide | omega) (fun _ => ?_)
        | refine ph_gCp (by first | decide | omega) (fun _ => ?_)
        | refine ph_gB (by first | decide | omega) (fun _ => ?_)
        | refine ph_gR (by first | decide | omega) (fun _ => ?_)
        | refine ph_gv (fun _ => ?_)
        | refine ph_gg (fun _ => ?_)
        | refine ph_gc ?_ (fun _ _ => ?_)
        | refine ph_ite (fun _ => ?_) (fun _ => ?_)
        | exact h21 _ _ _ _ _ _ _
        | exact (kh_X10_keySign _).1 _ _ _ _ _)

theorem kh_X10_next : ∀ n : Nat, (∀ (d : Nat) (S : GS) (a0 : Nat) (a1 : Int) (a2 : Int), PH 495 S (f_X10_next n d 0 S [((a0 : Nat) : Int), a1, a2]))
  | 0 => (fun _ _ _ _ _ => ph_none)
  | n + 1 => by
    have h0 := kh_X10_next n
    · intro _ _ _ _ _
      rw [e_X10_next_0]
      unfold b_X10_next_0
      repeat' (with_reducible first
        | exact ph_none
        | exact ph_some
        | refine ph_gI (by first | decide | omega) (fun _ => ?_)
        | refine ph_gCp (by first | decide | omega) (fun _ => ?_)
        | refine ph_gB (by first | decide | omega) (fun _ => ?_)
        | refine ph_gR (by first | decide | omega) (fun _ => ?_)
        | refine ph_gv (fun _ => ?_)
        | refine ph_gg (fun _ => ?_)
        | refine ph_gc ?_ (fun _ _ => ?_)
        | refine ph_ite (fun _ => ?_) (fun _ => ?_))

theorem kh_X10_valueNamed : ∀ n : Nat, (∀ (d : Nat) (S : GS) (a0 : Nat) (a1 : Int) (a2 : Nat), PH 495 S (f_X10_valueNamed n d 0 S [((a0 : Nat) : Int), a1, ((a2 : Nat) : Int)])) ∧ (∀ (d : Nat) (S : GS) (a0 : Nat) (a1 : Int) (a2 : Nat) (a3 : Int) (a4 : Int), PH 495 S (f_X10_valueNamed n d 9 S [((a0 : Nat) : Int), a1, ((a2 : Nat) : Int), a3, a4]))
  | 0 => ⟨(fun _ _ _ _ _ => ph_none), (fun _ _ _ _ _ _ _ => ph_none)⟩
  | n + 1 => by
    obtain ⟨h0, h9⟩ := kh_X10_valueNamed n
    refine ⟨?_, ?_⟩
    · intro _ _ _ _ _
      rw [e_X10_valueNamed_0]
      unfold b_X10_valueNamed_0
      repeat' (with_reducible first
        | exact ph_none
        | exact ph_some
        | refine ph_gI (by first | decide | omega) (fun _ => ?_)
        | refine ph_gCp (by first | decide | omega) (fun _ => ?_)
        | refine ph_gB (by first | decide | omega) (fun _ => ?_)
        | refine ph_gR (by first | decide | omega) (fun _ => ?_)
        | refine ph_gv (fun _ => ?_)
        | refine ph_gg (fun _ => ?_)
        | refine ph_gc ?_ (fun _ _ => ?_)
        | refine ph_ite (fun _ => ?_) (fun _ => ?_)
        | exact h9 _ _ _ _ _ _ _
        | exact (kh_X10_firstOfMap _).1 _ _ _ _)
    · intro _ _ _ _ _ _ _
      rw [e_X10_valueNamed_9]
      unfold b_X10_valueNamed_9
      repeat' (with_reducible first
        | exact ph_none
        | exact ph_some
        | refine ph_gI (by first | decide | omega) (fun _ => ?_)
        | refine ph_gCp (by first | decide | omega) (fun _ => ?_)
        | refine ph_gB (by first | decide | omega) (fun _ => ?_)
        | refine ph_gR (by first | decide | omega) (fun _ => ?_)
        | refine ph_gv (fun _ => ?_)
        | refine ph_gg (fun _ => ?_)
        | refine ph_gc ?_ (fun _ _ => ?_)
        | refine ph_ite (fun _ => ?_) (fun _ => ?_)
        | exact h9 _ _ _ _ _ _ _
        | exact (kh_X10_hasKeyWord _).1 _ _ _ _ _
        | exact (kh_X10_next _) _ _ _ _ _)

theorem kh_X10_first : ∀ n : Nat, (∀ (d : Nat) (S : GS) (a0 : Nat) (a1 : Int), PH 495 S (f_X10_first n d 0 S [((a0 : Nat) : Int), a1])) ∧ (∀ (d : Nat) (S : GS) (a0 : Nat) (a1 : Int) (s0 : Int), PH 495 S (f_X10_first n d 25 S [((a0 : Nat) : Int), a1, s0]))
  | 0 => ⟨(fun _ _ _ _ => ph_none), (fun _ _ _ _ _ => ph_none)⟩
  | n + 1 => by
    obtain ⟨h0, h25⟩ := kh_X10_first n
    refine ⟨?_, ?_⟩
    · intro _ _ _ _
      rw [e_X10_first_0]
      unfold b_X10_first_0
      repeat' (with_reducible first
        | exact ph_none
        | exact ph_some
        | refine ph_gI (by first | decide | omega) (fun _ => ?_)
        | refine ph_gCp (by first | decide | omega) (fun _ => ?_)
        | refine ph_gB (by first | decide | omega) (fun _ => ?_)
        | refine ph_gR (by first | decide | omega) (fun _ => ?_)
        | refine ph_gv (fun _ => ?_)
        | refine ph_gg (fun _ => ?_)
        | refine ph_gc ?_ (fun _ _ => ?_)
        | refine ph_ite (fun _ => ?_) (fun _ => ?_)
        | exact h25 _ _ _ _ _)
    · intro _ _ _ _ _
      rw [e_X10_first_25]
      unfold b_X10_first_25
      repeat' (with_reducible first
        | exact ph_none
        | exact ph_some
        | refine ph_gI (by first | decide | omega) (fun _ => ?_)
        | refine ph_gCp (by first | decide | omega) (fun _ => ?_)
        | refine ph_gB (by first | decide | omega) (fun _ => ?_)
        | refine ph_gR (by first | decide | omega) (fun _ => ?_)
        | refine ph_gv (fun _ => ?_)
        | refine ph_gg (fun _ => ?_)
        | refine ph_gc ?_ (fun _ _ => ?_)
        | refine ph_ite (fun _ => ?_) (fun _ => ?_))

theorem kh_X9_clear : ∀ n : Nat, (∀ (d : Nat) (S : GS) (a0 : Nat), PH 495 S (f_X9_clear n d 0 S [((a0 : Nat) : Int)]))
  | 0 => (fun _ _ _ => ph_none)
  | n + 1 => by
    have h0 := kh_X9_clear n
    · intro _ _ _
      rw [e_X9_clear_0]
      unfold b_X9_clear_0
      repeat' (with_reducible first
        | exact ph_none
        | exact ph_some
        | refine ph_gI (by first | decide | omega) (fun _ => ?_)
        | refine ph_gCp (by first | decide | omega) (fun _ => ?_)
        | refine ph_gB (by first | decide | omega) (fun _ => ?_)
        | refine ph_gR (by first | decide | omega) (fun _ => ?_)
        | refine ph_gv (fun _ => ?_)
        | refine ph_gg (fun _ => ?_)
        | refine ph_gc ?_ (fun _ _ => ?_)
        | refine ph_ite (fun _ => ?_) (fun _ => ?_))

theorem kh_X10_lengthOf : ∀ n : Nat, (∀ (d : Nat) (S : GS) (a0 : Nat) (a1 : Int), PH 495 S (f_X10_lengthOf n d 0 S [((a0 : Nat) : Int), a1]))
  | 0 => (fun _ _ _ _ => ph_none)
  | n + 1 => by
    have h0 := kh_X10_lengthOf n
    · intro _ _ _ _
      rw [e_X10_lengthOf_0]
      unfold b_X10_lengthOf_0
      repeat' (with_reducible first
        | exact ph_none
        | exact ph_some
        | refine ph_gI (by first | decide | omega) (fun _ => ?_)
        | refine ph_gCp (by first | decide | omega) (fun _ => ?_)
        | refine ph_gB (by first | decide | omega) (fun _ => ?_)
        | refine ph_gR (by first | decide | omega) (fun _ => ?_)
        | refine ph_gv (fun _ => ?_)
        | refine ph_gg (fun _ => ?_)
        | refine ph_gc ?_ (fun _ _ => ?_)
        | refine ph_ite (fun _ => ?_) (fun _ => ?_))

theorem kh_X10_signAt : ∀ n : Nat, (∀ (d : Nat) (S : GS) (a0 : Nat) (a1 : Int) (a2 : Int), PH 495 S (f_X10_signAt n d 0 S [((a0 : Nat) : Int), a1, a2])) ∧ (∀ (d : Nat) (S : GS) (a0 : Nat) (a1 : Int) (a2 : Int) (s0 : Int), PH 495 S (f_X10_signAt n d 33 S [((a0 : Nat) : Int), a1, a2, s0]))
  | 0 => ⟨(fun _ _ _ _ _ => ph_none), (fun _ _ _ _ _ _ => ph_none)⟩
  | n + 1 => by
    obtain ⟨h0, h33⟩ := kh_X10_signAt n
    refine ⟨?_, ?_⟩
    · intro _ _ _ _ _
      rw [e_X10_signAt_0]
      unfold b_X10_signAt_0
      repeat' (with_reducible first
        | exact ph_none
        | exact ph_some
        | refine ph_gI (by first | decide | omega) (fun _ => ?_)
        | refine ph_gCp (by first | decide | omega) (fun _ => ?_)
        | refine ph_gB (by first | decide | omega) (fun _ => ?_)
        | refine ph_gR (by first | decide | omega) (fun _ => ?_)
        | refine ph_gv (fun _ => ?_)
        | refine ph_gg (fun _ => ?_)
        | refine ph_gc ?_ (fun _ _ => ?_)
        | refine ph_ite (fun _ => ?_) (fun _ => ?_)
        | exact h33 _ _ _ _ _ _)
    · intro _ _ _ _ _ _
      rw [e_X10_signAt_33]
      unfold b_X10_signAt_33
      repeat' (with_reducible first
        | exact ph_none
        | exact ph_some
        | refine ph_gI (by first | decide | omega) (fun _ => ?_)
        | refine ph_gCp (by first | decide | omega) (fun _ => ?_)
        | refine ph_gB (by first | decide | omega) (fun _ => ?_)
        | refine ph_gR (by first | decide | omega) (fun _ => ?_)
        | refine ph_gv (fun _ => ?_)
        | refine ph_gg (fun _ => ?_)
        | refine ph_gc ?_ (fun _ _ => ?_)
        | refine ph_ite (fun _ => ?_) (fun _ => ?_))

theorem kh_X9_add : ∀ n : Nat, (∀ (d : Nat) (S : GS) (a0 : Nat) (a1 : Int), PH 495 S (f_X9_add n d 0 S [((a0 : Nat) : Int), a1]))
  | 0 => (fun _ _ _ _ => ph_none)
  | n + 1 => by
    have h0 := kh_X9_add n
    · intro _ _ _ _
      rw [e_X9_add_0]
      unfold b_X9_add_0
      repeat' (with_reducible first
        | exact ph_none
        | exact ph_some
        | refine ph_gI (by first | decide | omega) (fun _ => ?_)
        | refine ph_gCp (by first | decide | omega) (fun _ => ?_)
        | refine ph_gB (by first | decide | omega) (fun _ => ?_)
        | refine ph_gR (by first | decide | omega) (fun _ => ?_)
        | refine ph_gv (fun _ => ?_)
        | refine ph_gg (fun _ => ?_)
        | refine ph_gc ?_ (fun _ _ => ?_)
        | refine ph_ite (fun _ => ?_) (fun _ => ?_))

theorem kh_X10_signsTo : ∀ n : Nat, (∀ (d : Nat) (S : GS) (a0 : Nat) (a1 : Int) (a2 : Nat), PH 495 S (f_X10_signsTo n d 0 S [((a0 : Nat) : Int), a1, ((a2 : Nat) : Int)])) ∧ (∀ (d : Nat) (S : GS) (a0 : Nat) (a1 : Int) (a2 : Nat) (a3 : Int), PH 495 S (f_X10_signsTo n d 2 S [((a0 : Nat) : Int), a1, ((a2 : Nat) : Int), a3]))
  | 0 => ⟨(fun _ _ _ _ _ => ph_none), (fun _ _ _ _ _ _ => ph_none)⟩
  | n + 1 => by
    obtain ⟨h0, h2⟩ := kh_X10_signsTo n
    refine ⟨?_, ?_⟩
    · intro _ _ _ _ _
      rw [e_X10_signsTo_0]
      unfold b_X10_signsTo_0
      repeat' (with_reducible first
        | exact ph_none
        | exact ph_some
        | refine ph_gI (by first | decide | omega) (fun _ => ?_)
        | refine ph_gCp (by first | decide | omega) (fun _ => ?_)
        | refine ph_gB (by first | decide | omega) (fun _ => ?_)
        | refine ph_gR (by first | decide | omega) (fun _ => ?_)
        | refine ph_gv (fun _ => ?_)
        | refine ph_gg (fun _ => ?_)
        | refine ph_gc ?_ (fun _ _ => ?_)
        | refine ph_ite (fun _ => ?_) (fun _ => ?_)
        | exact h2 _ _ _ _ _ _)
    · intro _ _ _ _ _ _
      rw [e_X10_signsTo_2]
      unfold b_X10_signsTo_2
      repeat' (with_reducible first
        | exact ph_none
        | exact ph_some
        | refine ph_gI (by first | decide | omega) (fun _ => ?_)
        | refine ph_gCp (by first | decide | omega) (fun _ => ?_)
        | refine ph_gB (by first | decide | omega) (fun _ => ?_)
        | refine ph_gR (by first | decide | omega) (fun _ => ?_)
        | refine ph_gv (fun _ => ?_)
        | refine ph_gg (fun _ => ?_)
        | refine ph_gc ?_ (fun _ _ => ?_)
        | refine ph_ite (fun _ => ?_) (fun _ => ?_)
        | exact h2 _ _ _ _ _ _
        | exact (kh_X10_lengthOf _) _ _ _ _
        | exact (kh_X10_signAt _).1 _ _ _ _ _
        | exact (kh_X9_add _) _ _ _ _)

theorem kh_X9_length : ∀ n : Nat, (∀ (d : Nat) (S : GS) (a0 : Nat), PH 495 S (f_X9_length n d 0 S [((a0 : Nat) : Int)]))
  | 0 => (fun _ _ _ => ph_none)
  | n + 1 => by
    have h0 := kh_X9_length n
    · intro _ _ _
      rw [e_X9_length_0]
      unfold b_X9_length_0
      repeat' (with_reducible first
        | exact ph_none
        | exact ph_some
        | refine ph_gI (by first | decide | omega) (fun _ => ?_)
        | refine ph_gCp (by first | decide | omega) (fun _ => ?_)
        | refine ph_gB (by first | decide | omega) (fun _ => ?_)
        | refine ph_gR (by first | decide | omega) (fun _ => ?_)
        | refine ph_gv (fun _ => ?_)
        | refine ph_gg (fun _ => ?_)
        | refine ph_gc ?_ (fun _ _ => ?_)
        | refine ph_ite (fun _ => ?_) (fun _ => ?_))

theorem kh_X9_at : ∀ n : Nat, (∀ (d : Nat) (S : GS) (a0 : Nat) (a1 : Int), PH 495 S (f_X9_at n d 0 S [((a0 : Nat) : Int), a1]))
  | 0 => (fun _ _ _ _ => ph_none)
  | n + 1 => by
    have h0 := kh_X9_at n
    · intro _ _ _ _
      rw [e_X9_at_0]
      unfold b_X9_at_0
      repeat' (with_reducible first
        | exact ph_none
        | exact ph_some
        | refine ph_gI (by first | decide | omega) (fun _ => ?_)
        | refine ph_gCp (by first | decide | omega) (fun _ => ?_)
        | refine ph_gB (by first | decide | omega) (fun _ => ?_)
        | refine ph_gR (by first | decide | omega) (fun _ => ?_)
        | refine ph_gv (fun _ => ?_)
        | refine ph_gg (fun _ => ?_)
        | refine ph_gc ?_ (fun _ _ => ?_)
        | refine ph_ite (fun _ => ?_) (fun _ => ?_))

theorem kh_X10_hasKey : ∀ n : Nat, (∀ (d : Nat) (S : GS) (a0 : Nat) (a1 : Int) (a2 : Nat), PH 495 S (f_X10_hasKey n d 0 S [((a0 : Nat) : Int), a1, ((a2 : Nat) : Int)])) ∧ (∀ (d : Nat) (S : GS) (a0 : Nat) (a1 : Int) (a2 : Nat) (a3 : Int) (a4 : Int), PH 495 S (f_X10_hasKey n d 21 S [((a0 : Nat) : Int), a1, ((a2 : Nat) : Int), a3, a4]))
  | 0 => ⟨(fun _ _ _ _ _ => ph_none), (fun _ _ _ _ _ _ _ => ph_none)⟩
  | n + 1 => by
    obtain ⟨h0, h21⟩ := kh_X10_hasKey n
    refine ⟨?_, ?_⟩
    · intro _ _ _ _ _
      rw [e_X10_hasKey_0]
      unfold b_X10_hasKey_0
      repeat' (with_reducible first
        | exact ph_none
        | exact ph_some
        | refine ph_gI (by first | decide | omega) (fun _ => ?_)
        | refine ph_gCp (by first | decide | omega) (fun _ => ?_)
        | refine ph_gB (by first | decide | omega) (fun _ => ?_)
        | refine ph_gR (by first | decide | omega) (fun _ => ?_)
        | refine ph_gv (fun _ => ?_)
        | refine ph_gg (fun _ => ?_)
        | refine ph_gc ?_ (fun _ _ => ?_)
        | refine ph_ite (fun _ => ?_) (fun _ => ?_)
        | exact h21 _ _ _ _ _ _ _
        | exact (kh_X10_keyLength _) _ _ _ _
        | exact (kh_X9_length _) _ _ _)
    · intro _ _ _ _ _ _ _
      rw [e_X10_hasKey_21]
      unfold b_X10_hasKey_21
      repeat' (with_reducible first
        | exact ph_none
        | exact ph_some
        | refine ph_gI (by first | decide | omega) (fun _ => ?_)
        | refine ph_gCp (by first | decide | omega) (fun _ => ?_)
        | refine ph_gB (by first | decide | omega) (fun _ => ?_)
        | refine ph_gR (by first | decide | omega) (fun _ => ?_)
        | refine ph_gv (fun _ => ?_)
        | refine ph_gg (fun _ => ?_)
        | refine ph_gc ?_ (fun _ _ => ?_)
        | refine ph_ite (fun _ => ?_) (fun _ => ?_)
        | exact h21 _ _ _ _ _ _ _
        | exact (kh_X10_keySign _).1 _ _ _ _ _
        | exact (kh_X9_at _) _ _ _ _
        | exact (kh_X9_length _) _ _ _)

theorem kh_X10_valueOf : ∀ n : Nat, (∀ (d : Nat) (S : GS) (a0 : Nat) (a1 : Int) (a2 : Nat), PH 495 S (f_X10_valueOf n d 0 S [((a0 : Nat) : Int), a1, ((a2 : Nat) : Int)])) ∧ (∀ (d : Nat) (S : GS) (a0 : Nat) (a1 : Int) (a2 : Nat) (a3 : Int) (a4 : Int), PH 495 S (f_X10_valueOf n d 9 S [((a0 : Nat) : Int), a1, ((a2 : Nat) : Int), a3, a4]))
  | 0 => ⟨(fun _ _ _ _ _ => ph_none), (fun _ _ _ _ _ _ _ => ph_none)⟩
  | n + 1 => by
    obtain ⟨h0, h9⟩ := kh_X10_valueOf n
    refine ⟨?_, ?_⟩
    · intro _ _ _ _ _
      rw [e_X10_valueOf_0]
      unfold b_X10_valueOf_0
      repeat' (with_reducible first
        | exact ph_none
        | exact ph_some
        | refine ph_gI (by first | decide | omega) (fun _ => ?_)
        | refine ph_gCp (by first | decide | omega) (fun _ => ?_)
        | refine ph_gB (by first | decide | omega) (fun _ => ?_)
        | refine ph_gR (by first | decide | omega) (fun _ => ?_)
        | refine ph_gv (fun _ => ?_)
        | refine ph_gg (fun _ => ?_)
        | refine ph_gc ?_ (fun _ _ => ?_)
        | refine ph_ite (fun _ => ?_) (fun _ => ?_)
        | exact h9 _ _ _ _ _ _ _
        | exact (kh_X10_firstOfMap _).1 _ _ _ _)
    · intro _ _ _ _ _ _ _
      rw [e_X10_valueOf_9]
      unfold b_X10_valueOf_9
      repeat' (with_reducible first
        | exact ph_none
        | exact ph_some
        | refine ph_gI (by first | decide | omega) (fun _ => ?_)
        | refine ph_gCp (by first | decide | omega) (fun _ => ?_)
        | refine ph_gB (by first | decide | omega) (fun _ => ?_)
        | refine ph_gR (by first | decide | omega) (fun _ => ?_)
        | refine ph_gv (fun _ => ?_)
        | refine ph_gg (fun _ => ?_)
        | refine ph_gc ?_ (fun _ _ => ?_)
        | refine ph_ite (fun _ => ?_) (fun _ => ?_)
        | exact h9 _ _ _ _ _ _ _
        | exact (kh_X10_hasKey _).1 _ _ _ _ _
        | exact (kh_X10_next _) _ _ _ _ _)

theorem kh_X0_hasAll : ∀ n : Nat, (∀ (d : Nat) (S : GS) (a1 : Int) (a2 : Int) (a3 : Int), PH 495 S (f_X0_hasAll n d 0 S [a1, a2, a3])) ∧ (∀ (d : Nat) (S : GS) (a1 : Int) (a2 : Int) (a3 : Int) (a4 : Int) (a5 : Int) (a6 : Int), PH 495 S (f_X0_hasAll n d 16 S [a1, a2, a3, a4, a5, a6])) ∧ (∀ (d : Nat) (S : GS) (a1 : Int) (a2 : Int) (a3 : Int) (a4 : Int) (a5 : Int) (a6 : Int), PH 495 S (f_X0_hasAll n d 88 S [a1, a2, a3, a4, a5, a6]))
  | 0 => ⟨(fun _ _ _ _ _ => ph_none), (fun _ _ _ _ _ _ _ _ => ph_none), (fun _ _ _ _ _ _ _ _ => ph_none)⟩
  | n + 1 => by
    obtain ⟨h0, h16, h88⟩ := kh_X0_hasAll n
    refine ⟨?_, ?_, ?_⟩
    · intro _ _ _ _ _
      rw [e_X0_hasAll_0]
      unfold b_X0_hasAll_0
      repeat' (with_reducible first
        | exact ph_none
        | exact ph_some
        | refine ph_gI (by first | decide | omega) (fun _ => ?_)
        | refine ph_gCp (by first | decide | omega) (fun _ => ?_)
        | refine ph_gB (by first | decide | omega) (fun _ => ?_)
        | refine ph_gR (by first | decide | omega) (fun _ => ?_)
        | refine ph_gv (fun _ => ?_)
        | refine ph_gg (fun _ => ?_)
        | refine ph_gc ?_ (fun _ _ => ?_)
        | refine ph_ite (fun _ => ?_) (fun _ => ?_)
        | exact h16 _ _ _ _ _ _ _ _
        | exact (kh_X10_first _).1 _ _ _ _)
    · intro _ _ _ _ _ _ _ _
      rw [e_X0_hasAll_16]
      unfold b_X0_hasAll_16
      repeat' (with_reducible first
        | exact ph_none
        | exact ph_some
        | refine ph_gI (by first | decide | omega) (fun _ => ?_)
        | refine ph_gCp (by first | decide | omega) (fun _ => ?_)
        | refine ph_gB (by first | decide | omega) (fun _ => ?_)
        | refine ph_gR (by first | decide | omega) (fun _ => ?_)
        | refine ph_gv (fun _ => ?_)
        | refine ph_gg (fun _ => ?_)
        | refine ph_gc ?_ (fun _ _ => ?_)
        | refine ph_ite (fun _ => ?_) (fun _ => ?_)
        | exact h88 _ _ _ _ _ _ _ _
        | exact (kh_X0_complain _) _ _ _ _ _
        | exact (kh_X10_is _) _ _ _ _ _
        | exact (kh_X10_signsTo _).1 _ _ _ _ _
        | exact (kh_X10_valueOf _).1 _ _ _ _ _
        | exact (kh_X9_clear _) _ _ _)
    · intro _ _ _ _ _ _ _ _
      rw [e_X0_hasAll_88]
      unfold b_X0_hasAll_88
      repeat' (with_reducible first
        | exact ph_none
        | exact ph_some
        | refine ph_gI (by first | decide | omega) (fun _ => ?_)
        | refine ph_gCp (by first | decide | omega) (fun _ => ?_)
        | refine ph_gB (by first | decide | omega) (fun _ => ?_)
        | refine ph_gR (by first | decide | omega) (fun _ => ?_)
        | refine ph_gv (fun _ => ?_)
        | refine ph_gg (fun _ => ?_)
        | refine ph_gc ?_ (fun _ _ => ?_)
        | refine ph_ite (fun _ => ?_) (fun _ => ?_)
        | exact h16 _ _ _ _ _ _ _ _
        | exact (kh_X10_next _) _ _ _ _ _)

theorem kh_X10_says : ∀ n : Nat, (∀ (d : Nat) (S : GS) (a0 : Nat) (a1 : Int) (a2 : Nat), PH 495 S (f_X10_says n d 0 S [((a0 : Nat) : Int), a1, ((a2 : Nat) : Int)])) ∧ (∀ (d : Nat) (S : GS) (a0 : Nat) (a1 : Int) (a2 : Nat) (a3 : Int) (a4 : Int), PH 495 S (f_X10_says n d 30 S [((a0 : Nat) : Int), a1, ((a2 : Nat) : Int), a3, a4]))
  | 0 => ⟨(fun _ _ _ _ _ => ph_none), (fun _ _ _ _ _ _ _ => ph_none)⟩
  | n + 1 => by
    obtain ⟨h0, h30⟩ := kh_X10_says n
    refine ⟨?_, ?_⟩
    · intro _ _ _ _ _
      rw [e_X10_says_0]
      unfold b_X10_says_0
      repeat' (with_reducible first
        | exact ph_none
        | exact ph_some
        | refine ph_gI (by first | decide | omega) (fun _ => ?_)
        | refine ph_gCp (by first | decide | omega) (fun _ => ?_)
        | refine ph_gB (by first | decide | omega) (fun _ => ?_)
        | refine ph_gR (by first | decide | omega) (fun _ => ?_)
        | refine ph_gv (fun _ => ?_)
        | refine ph_gg (fun _ => ?_)
        | refine ph_gc ?_ (fun _ _ => ?_)
        | refine ph_ite (fun _ => ?_) (fun _ => ?_)
        | exact h30 _ _ _ _ _ _ _
        | exact (kh_X10_is _) _ _ _ _ _
        | exact (kh_X10_lengthOf _) _ _ _ _)
    · intro _ _ _ _ _ _ _
      rw [e_X10_says_30]
      unfold b_X10_says_30
      repeat' (with_reducible first
        | exact ph_none
        | exact ph_some
        | refine ph_gI (by first | decide | omega) (fun _ => ?_)
        | refine ph_gCp (by first | decide | omega) (fun _ => ?_)
        | refine ph_gB (by first | decide | omega) (fun _ => ?_)
        | refine ph_gR (by first | decide | omega) (fun _ => ?_)
        | refine ph_gv (fun _ => ?_)
        | refine ph_gg (fun _ => ?_)
        | refine ph_gc ?_ (fun _ _ => ?_)
        | refine ph_ite (fun _ => ?_) (fun _ => ?_)
        | exact h30 _ _ _ _ _ _ _
        | exact (kh_X10_signAt _).1 _ _ _ _ _)

theorem kh_X10_power : ∀ n : Nat, (∀ (d : Nat) (S : GS) (a0 : Nat) (a1 : Int), PH 495 S (f_X10_power n d 0 S [((a0 : Nat) : Int), a1]))
  | 0 => (fun _ _ _ _ => ph_none)
  | n + 1 => by
    have h0 := kh_X10_power n
    · intro _ _ _ _
      rw [e_X10_power_0]
      unfold b_X10_power_0
      repeat' (with_reducible first
        | exact ph_none
        | exact ph_some
        | refine ph_gI (by first | decide | omega) (fun _ => ?_)
        | refine ph_gCp (by first | decide | omega) (fun _ => ?_)
        | refine ph_gB (by first | decide | omega) (fun _ => ?_)
        | refine ph_gR (by first | decide | omega) (fun _ => ?_)
        | refine ph_gv (fun _ => ?_)
        | refine ph_gg (fun _ => ?_)
        | refine ph_gc ?_ (fun _ _ => ?_)
        | refine ph_ite (fun _ => ?_) (fun _ => ?_)
        | exact (kh_X10_is _) _ _ _ _ _)

theorem kh_X10_kind : ∀ n : Nat, (∀ (d : Nat) (S : GS) (a0 : Nat) (a1 : Int), PH 495 S (f_X10_kind n d 0 S [((a0 : Nat) : Int), a1]))
  | 0 => (fun _ _ _ _ => ph_none)
  | n + 1 => by
    have h0 := kh_X10_kind n
    · intro _ _ _ _
      rw [e_X10_kind_0]
      unfold b_X10_kind_0
      repeat' (with_reducible first
        | exact ph_none
        | exact ph_some
        | refine ph_gI (by first | decide | omega) (fun _ => ?_)
        | refine ph_gCp (by first | decide | omega) (fun _ => ?_)
        | refine ph_gB (by first | decide | omega) (fun _ => ?_)
        | refine ph_gR (by first | decide | omega) (fun _ => ?_)
        | refine ph_gv (fun _ => ?_)
        | refine ph_gg (fun _ => ?_)
        | refine ph_gc ?_ (fun _ _ => ?_)
        | refine ph_ite (fun _ => ?_) (fun _ => ?_))

