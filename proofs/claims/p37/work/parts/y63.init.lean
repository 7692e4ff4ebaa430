/-! THE CONSTRUCTORS -/
abbrev xz : Nat → Int32 := fun _ => 0
theorem XA.mono {l : Launch} {Z : XZ} {y : MethodName} {cc : ByteArray} {nL : Nat} {ret : Option FieldType} {hh : List (Nat × Nat × Nat × Nat)} {d mc ms : Nat} {Q Q' : Option Value → XH → Prop} {X X' : String → XH → Prop} {pc : Nat} {lv : List (Nat × Value)} {st : List Value} {h : XH} {nc ns : Nat} (hQ : ∀ v h', Q v h' → Q' v h') (hX : ∀ E h', X E h' → X' E h') (k : XA l Z y cc nL ret hh d mc ms Q X pc lv st h nc ns) : XA l Z y cc nL ret hh d mc ms Q' X' pc lv st h nc ns := by
  intro D cA ws0 p e s m args below meth c H locs ws ls C hP hD hC hS hl T hT Xs
  obtain ⟨t, a1, o, b1, b2, b3⟩ := k D cA ws0 p e s m args below meth c H locs ws ls C hP hD hC hS hl T hT Xs
  refine ⟨t, a1, o, b1, b2, ?_⟩
  rcases b3 with ⟨⟨⟨v, h', e1, e2, e3⟩, hF⟩, hL⟩ | ⟨q, e0, E, ce, L, ⟨⟨h', hx, hp⟩, hF⟩, r⟩
  · exact Or.inl ⟨⟨⟨v, h', e1, hQ _ _ e2, e3⟩, hF⟩, hL⟩
  · exact Or.inr ⟨q, e0, E, ce, L, ⟨⟨h', hX _ _ hx, hp⟩, hF⟩, r⟩
/-- b has become o, the things ps are new, nothing else has changed -/
def Cn (h h1 : XH) (b : Nat) (o : XC) (ps : List (Nat × XC)) : Prop := (b :: ps.map Prod.fst).Nodup ∧ h1 b = some o ∧ (∀ p ∈ ps, h p.1 = none) ∧ (∀ p ∈ ps, h1 p.1 = some p.2) ∧ ∀ a, a ≠ b → (∀ p ∈ ps, a ≠ p.1) → h1 a = h a
theorem cn_start {h : XH} {b : Nat} {o : XC} (hb : h b = some o) : Cn h h b o [] := ⟨by simp, hb, fun p hp => (by cases hp), fun p hp => (by cases hp), fun _ _ _ => rfl⟩
theorem cn_ne {h h1 : XH} {b q : Nat} {o : XC} {ps : List (Nat × XC)} (hC : Cn h h1 b o ps) (hq : h1 q = none) : q ≠ b ∧ ∀ p ∈ ps, q ≠ p.1 :=
  ⟨fun e => (by rw [e, hC.2.1] at hq; cases hq), fun p hp e => (by rw [e, hC.2.2.2.1 p hp] at hq; cases hq)⟩
theorem cn_old {h h1 : XH} {b q : Nat} {o : XC} {ps : List (Nat × XC)} (hC : Cn h h1 b o ps) (hq : h1 q = none) : h q = none := by
  obtain ⟨n1, n2⟩ := cn_ne hC hq
  rw [← hC.2.2.2.2 q n1 n2]
  exact hq
theorem cn_put {h h1 : XH} {b : Nat} {o o2 : XC} {ps : List (Nat × XC)} (hC : Cn h h1 b o ps) : Cn h (xup h1 b o2) b o2 ps := by
  obtain ⟨c1, c2, c3, c4, c5⟩ := hC
  have hn : ∀ p ∈ ps, p.1 ≠ b := fun p hp e => (by
    have hm : p.1 ∈ ps.map Prod.fst := List.mem_map_of_mem hp
    rw [e] at hm
    exact (List.nodup_cons.mp c1).1 hm)
  exact ⟨c1, xup_s, c3, fun p hp => by rw [xup_n (hn p hp)]; exact c4 p hp, fun a h1 h2 => by rw [xup_n h1]; exact c5 a h1 h2⟩
theorem cn_app {h h1 h3 : XH} {b : Nat} {o : XC} {ps ps2 : List (Nat × XC)} (hC : Cn h h1 b o ps) (n2 : (ps2.map Prod.fst).Nodup) (f2 : ∀ p ∈ ps2, h1 p.1 = none) (g2 : ∀ p ∈ ps2, h3 p.1 = some p.2) (k2 : ∀ a, (∀ p ∈ ps2, a ≠ p.1) → h3 a = h1 a) : Cn h h3 b o (ps ++ ps2) := by
  obtain ⟨c1, c2, c3, c4, c5⟩ := id hC
  have hb : ∀ p ∈ ps2, p.1 ≠ b := fun p hp => (cn_ne hC (f2 p hp)).1
  have hx : ∀ p ∈ ps2, ∀ r ∈ ps, p.1 ≠ r.1 := fun p hp => (cn_ne hC (f2 p hp)).2
  refine ⟨?_, ?_, ?_, ?_, ?_⟩
  · rw [List.map_append, ← List.cons_append]
    refine List.nodup_append.mpr ⟨c1, n2, ?_⟩
    intro a ha a2 ha2 e
    subst e
    obtain ⟨p, hp, rfl⟩ := List.mem_map.mp ha2
    rcases List.mem_cons.mp ha with e | ha
    · exact hb p hp e
    · obtain ⟨r, hr, e⟩ := List.mem_map.mp ha
      exact hx p hp r hr e.symm
  · rw [k2 b (fun p hp => (hb p hp).symm)]
    exact c2
  · intro p hp
    rcases List.mem_append.mp hp with hp | hp
    · exact c3 p hp
    · exact cn_old hC (f2 p hp)
  · intro p hp
    rcases List.mem_append.mp hp with hp | hp
    · rw [k2 p.1 (fun r hr => (hx r hr p hp).symm)]
      exact c4 p hp
    · exact g2 p hp
  · intro a ha hps
    rw [k2 a (fun p hp => hps p (List.mem_append_right _ hp))]
    exact c5 a ha (fun p hp => hps p (List.mem_append_left _ hp))
theorem cn_new {h h1 : XH} {b q : Nat} {o e : XC} {ps : List (Nat × XC)} (hC : Cn h h1 b o ps) (hq : h1 q = none) : Cn h (xup h1 q e) b o (ps ++ [(q, e)]) :=
  cn_app hC (by simp) (fun p hp => by simp at hp; subst hp; exact hq) (fun p hp => by simp at hp; subst hp; exact xup_s) (fun a ha => xup_n (ha (q, e) (by simp)))
theorem cn_obj {h h1 h3 : XH} {b q : Nat} {o e0 o2 : XC} {ps ps2 : List (Nat × XC)} (hC : Cn h h1 b o ps) (hq : h1 q = none) (h2 : Cn (xup h1 q e0) h3 q o2 ps2) : Cn h h3 b o (ps ++ (q, o2) :: ps2) := by
  obtain ⟨d1, d2, d3, d4, d5⟩ := h2
  refine cn_app hC d1 ?_ ?_ ?_
  · intro p hp
    rcases List.mem_cons.mp hp with rfl | hp
    · exact hq
    · have := d3 p hp
      have hm : p.1 ∈ ps2.map Prod.fst := List.mem_map_of_mem hp
      have hne : p.1 ≠ q := fun e => (by rw [e] at hm; exact (List.nodup_cons.mp d1).1 hm)
      rw [xup_n hne] at this
      exact this
  · intro p hp
    rcases List.mem_cons.mp hp with rfl | hp
    · exact d2
    · exact d4 p hp
  · intro a ha
    rw [d5 a (ha (q, o2) List.mem_cons_self) (fun p hp => ha p (List.mem_cons_of_mem _ hp))]
    exact xup_n (ha (q, o2) List.mem_cons_self)
theorem cn_set {h h1 : XH} {b a : Nat} {o e e2 : XC} {ps pt : List (Nat × XC)} (hC : Cn h h1 b o (ps ++ (a, e) :: pt)) : Cn h (xup h1 a e2) b o (ps ++ (a, e2) :: pt) := by
  obtain ⟨c1, c2, c3, c4, c5⟩ := hC
  have hk : (ps ++ (a, e2) :: pt).map Prod.fst = (ps ++ (a, e) :: pt).map Prod.fst := by simp
  have hnd : (b :: (ps.map Prod.fst ++ a :: pt.map Prod.fst)).Nodup := by simpa using c1
  have hba : b ≠ a := fun e => (List.nodup_cons.mp hnd).1 (by simp [e])
  have hnd2 := (List.nodup_cons.mp hnd).2
  have ha : ∀ p, p ∈ ps ∨ p ∈ pt → p.1 ≠ a := by
    intro p hp e
    rw [List.nodup_append] at hnd2
    rcases hp with hp | hp
    · exact hnd2.2.2 p.1 (List.mem_map_of_mem hp) a List.mem_cons_self e
    · have hm : p.1 ∈ pt.map Prod.fst := List.mem_map_of_mem hp
      rw [e] at hm
      exact (List.nodup_cons.mp hnd2.2.1).1 hm
  refine ⟨by rw [hk]; exact c1, by rw [xup_n hba]; exact c2, ?_, ?_, ?_⟩
  · intro p hp
    rcases List.mem_append.mp hp with hp | hp
    · exact c3 p (List.mem_append_left _ hp)
    · rcases List.mem_cons.mp hp with rfl | hp
      · exact c3 (a, e) (List.mem_append_right _ List.mem_cons_self)
      · exact c3 p (List.mem_append_right _ (List.mem_cons_of_mem _ hp))
  · intro p hp
    rcases List.mem_append.mp hp with hp | hp
    · rw [xup_n (ha p (Or.inl hp))]; exact c4 p (List.mem_append_left _ hp)
    · rcases List.mem_cons.mp hp with rfl | hp
      · exact xup_s
      · rw [xup_n (ha p (Or.inr hp))]; exact c4 p (List.mem_append_right _ (List.mem_cons_of_mem _ hp))
  · intro x hx hps
    have hxa : x ≠ a := hps (a, e2) (List.mem_append_right _ List.mem_cons_self)
    rw [xup_n hxa]
    refine c5 x hx (fun p hp => ?_)
    rcases List.mem_append.mp hp with hp | hp
    · exact hps p (List.mem_append_left _ hp)
    · rcases List.mem_cons.mp hp with rfl | hp
      · exact hxa
      · exact hps p (List.mem_append_right _ (List.mem_cons_of_mem _ hp))
theorem xnd_X9 : ∀ j, j < 2 → defaultValue (tyX9 j) = vp_V [.null, .int 0] j := by
  intro j hj
  match j, hj with
  | 0, _ => rfl
  | 1, _ => rfl
  | j + 2, hj => omega
theorem xnw_X9 {own : String} {ix : Nat} (h : Cond.classLink own ix RX9 ∈ xg) : XNew own ix 8 2 [.null, .int 0] := ⟨_, _, _, xk_X9, h, xin_X9, xit_X9, xnd_X9⟩
theorem xnd_X10 : ∀ j, j < 9 → defaultValue (tyX10 j) = vp_V [.null, .null, .null, .null, .null, .null, .null, .int 0, .int 0] j := by
  intro j hj
  match j, hj with
  | 0, _ => rfl
  | 1, _ => rfl
  | 2, _ => rfl
  | 3, _ => rfl
  | 4, _ => rfl
  | 5, _ => rfl
  | 6, _ => rfl
  | 7, _ => rfl
  | 8, _ => rfl
  | j + 9, hj => omega
theorem xnw_X10 {own : String} {ix : Nat} (h : Cond.classLink own ix RX10 ∈ xg) : XNew own ix 9 9 [.null, .null, .null, .null, .null, .null, .null, .int 0, .int 0] := ⟨_, _, _, xk_X10, h, xin_X10, xit_X10, xnd_X10⟩
theorem xnd_X6 : ∀ j, j < 10 → defaultValue (tyX6 j) = vp_V [.null, .null, .null, .null, .null, .null, .int 0, .int 0, .int 0, .int 0] j := by
  intro j hj
  match j, hj with
  | 0, _ => rfl
  | 1, _ => rfl
  | 2, _ => rfl
  | 3, _ => rfl
  | 4, _ => rfl
  | 5, _ => rfl
  | 6, _ => rfl
  | 7, _ => rfl
  | 8, _ => rfl
  | 9, _ => rfl
  | j + 10, hj => omega
theorem xnw_X6 {own : String} {ix : Nat} (h : Cond.classLink own ix RX6 ∈ xg) : XNew own ix 6 10 [.null, .null, .null, .null, .null, .null, .int 0, .int 0, .int 0, .int 0] := ⟨_, _, _, xk_X6, h, xin_X6, xit_X6, xnd_X6⟩
theorem xnd_X7 : ∀ j, j < 4 → defaultValue (tyX7 j) = vp_V [.null, .null, .null, .int 0] j := by
  intro j hj
  match j, hj with
  | 0, _ => rfl
  | 1, _ => rfl
  | 2, _ => rfl
  | 3, _ => rfl
  | j + 4, hj => omega
theorem xnw_X7 {own : String} {ix : Nat} (h : Cond.classLink own ix RX7 ∈ xg) : XNew own ix 7 4 [.null, .null, .null, .int 0] := ⟨_, _, _, xk_X7, h, xin_X7, xit_X7, xnd_X7⟩
theorem xnd_X2 : ∀ j, j < 7 → defaultValue (tyX2 j) = vp_V [.null, .null, .null, .null, .null, .null, .int 0] j := by
  intro j hj
  match j, hj with
  | 0, _ => rfl
  | 1, _ => rfl
  | 2, _ => rfl
  | 3, _ => rfl
  | 4, _ => rfl
  | 5, _ => rfl
  | 6, _ => rfl
  | j + 7, hj => omega
theorem xnw_X2 {own : String} {ix : Nat} (h : Cond.classLink own ix RX2 ∈ xg) : XNew own ix 2 7 [.null, .null, .null, .null, .null, .null, .int 0] := ⟨_, _, _, xk_X2, h, xin_X2, xit_X2, xnd_X2⟩
theorem xnd_X5 : ∀ j, j < 8 → defaultValue (tyX5 j) = vp_V [.null, .null, .null, .null, .null, .null, .null, .null] j := by
  intro j hj
  match j, hj with
  | 0, _ => rfl
  | 1, _ => rfl
  | 2, _ => rfl
  | 3, _ => rfl
  | 4, _ => rfl
  | 5, _ => rfl
  | 6, _ => rfl
  | 7, _ => rfl
  | j + 8, hj => omega
theorem xnw_X5 {own : String} {ix : Nat} (h : Cond.classLink own ix RX5 ∈ xg) : XNew own ix 5 8 [.null, .null, .null, .null, .null, .null, .null, .null] := ⟨_, _, _, xk_X5, h, xin_X5, xit_X5, xnd_X5⟩
theorem xnd_X1 : ∀ j, j < 12 → defaultValue (tyX1 j) = vp_V [.null, .null, .null, .null, .null, .null, .null, .int 0, .int 0, .int 0, .int 0, .int 0] j := by
  intro j hj
  match j, hj with
  | 0, _ => rfl
  | 1, _ => rfl
  | 2, _ => rfl
  | 3, _ => rfl
  | 4, _ => rfl
  | 5, _ => rfl
  | 6, _ => rfl
  | 7, _ => rfl
  | 8, _ => rfl
  | 9, _ => rfl
  | 10, _ => rfl
  | 11, _ => rfl
  | j + 12, hj => omega
theorem xnw_X1 {own : String} {ix : Nat} (h : Cond.classLink own ix RX1 ∈ xg) : XNew own ix 1 12 [.null, .null, .null, .null, .null, .null, .null, .int 0, .int 0, .int 0, .int 0, .int 0] := ⟨_, _, _, xk_X1, h, xin_X1, xit_X1, xnd_X1⟩
theorem xnd_X4 : ∀ j, j < 9 → defaultValue (tyX4 j) = vp_V [.null, .null, .null, .null, .null, .null, .null, .int 0, .int 0] j := by
  intro j hj
  match j, hj with
  | 0, _ => rfl
  | 1, _ => rfl
  | 2, _ => rfl
  | 3, _ => rfl
  | 4, _ => rfl
  | 5, _ => rfl
  | 6, _ => rfl
  | 7, _ => rfl
  | 8, _ => rfl
  | j + 9, hj => omega
theorem xnw_X4 {own : String} {ix : Nat} (h : Cond.classLink own ix RX4 ∈ xg) : XNew own ix 4 9 [.null, .null, .null, .null, .null, .null, .null, .int 0, .int 0] := ⟨_, _, _, xk_X4, h, xin_X4, xit_X4, xnd_X4⟩
theorem xnd_X0 : ∀ j, j < 17 → defaultValue (tyX0 j) = vp_V [.null, .null, .null, .null, .null, .null, .null, .null, .null, .null, .null, .int 0, .int 0, .int 0, .int 0, .int 0, .int 0] j := by
  intro j hj
  match j, hj with
  | 0, _ => rfl
  | 1, _ => rfl
  | 2, _ => rfl
  | 3, _ => rfl
  | 4, _ => rfl
  | 5, _ => rfl
  | 6, _ => rfl
  | 7, _ => rfl
  | 8, _ => rfl
  | 9, _ => rfl
  | 10, _ => rfl
  | 11, _ => rfl
  | 12, _ => rfl
  | 13, _ => rfl
  | 14, _ => rfl
  | 15, _ => rfl
  | 16, _ => rfl
  | j + 17, hj => omega
theorem xnw_X0 {own : String} {ix : Nat} (h : Cond.classLink own ix RX0 ∈ xg) : XNew own ix 0 17 [.null, .null, .null, .null, .null, .null, .null, .null, .null, .null, .null, .int 0, .int 0, .int 0, .int 0, .int 0, .int 0] := ⟨_, _, _, xk_X0, h, xin_X0, xit_X0, xnd_X0⟩
theorem xnd_X3 : ∀ j, j < 5 → defaultValue (tyX3 j) = vp_V [.null, .null, .null, .null, .int 0] j := by
  intro j hj
  match j, hj with
  | 0, _ => rfl
  | 1, _ => rfl
  | 2, _ => rfl
  | 3, _ => rfl
  | 4, _ => rfl
  | j + 5, hj => omega
theorem xnw_X3 {own : String} {ix : Nat} (h : Cond.classLink own ix RX3 ∈ xg) : XNew own ix 3 5 [.null, .null, .null, .null, .int 0] := ⟨_, _, _, xk_X3, h, xin_X3, xit_X3, xnd_X3⟩
theorem xnd_X11 : ∀ j, j < 16 → defaultValue (tyX11 j) = vp_V [.null, .null, .null, .null, .null, .null, .null, .null, .null, .null, .null, .null, .null, .null, .int 0, .int 0] j := by
  intro j hj
  match j, hj with
  | 0, _ => rfl
  | 1, _ => rfl
  | 2, _ => rfl
  | 3, _ => rfl
  | 4, _ => rfl
  | 5, _ => rfl
  | 6, _ => rfl
  | 7, _ => rfl
  | 8, _ => rfl
  | 9, _ => rfl
  | 10, _ => rfl
  | 11, _ => rfl
  | 12, _ => rfl
  | 13, _ => rfl
  | 14, _ => rfl
  | 15, _ => rfl
  | j + 16, hj => omega
theorem xnw_X11 {own : String} {ix : Nat} (h : Cond.classLink own ix RX11 ∈ xg) : XNew own ix 10 16 [.null, .null, .null, .null, .null, .null, .null, .null, .null, .null, .null, .null, .null, .null, .int 0, .int 0] := ⟨_, _, _, xk_X11, h, xin_X11, xit_X11, xnd_X11⟩
section XN
variable {l : Launch} {Z : XZ} {y : MethodName} {cc : ByteArray} {nL : Nat} {ret : Option FieldType} {hh : List (Nat × Nat × Nat × Nat)} {d mc ms : Nat} {Q : Option Value → XH → Prop} {X : String → XH → Prop} {pc : Nat} {lv : List (Nat × Value)} {st : List Value} {h h1 : XH} {nc ns : Nat} {b : Nat} {o : XC} {ps : List (Nat × XC)}
theorem XN.newI {n : Int32} {N : Nat} (hC : Cn h h1 b o ps) (hw : Cond.arrayClass .int ∈ xg) (hdg : decode cc pc = .ok (.newarray .int, 2)) (hn : ¬ n < 0) (hN : n.toNatClampNeg = N) (hb : N ≤ 100000000) (hc9 : nc + 1 ≤ mc) (hs9 : ns + N ≤ ms) (k : ∀ (q : Nat) (h2 : XH), Cn h h2 b o (ps ++ [(q, xI 0 N xz)]) → XA l Z y cc nL ret hh d mc ms Q X (pc + 2) lv (.ref q :: st) h2 (nc + 1) (ns + N)) : XA l Z y cc nL ret hh d mc ms Q X pc lv (.int n :: st) h1 nc ns := XA.newI hw hdg hn hN hb hc9 hs9 (fun q hq => k q _ (cn_new hC hq))
theorem XN.newC {n : Int32} {N : Nat} (hC : Cn h h1 b o ps) (hw : Cond.arrayClass .char ∈ xg) (hdg : decode cc pc = .ok (.newarray .char, 2)) (hn : ¬ n < 0) (hN : n.toNatClampNeg = N) (hb : N ≤ 100000000) (hc9 : nc + 1 ≤ mc) (hs9 : ns + N ≤ ms) (k : ∀ (q : Nat) (h2 : XH), Cn h h2 b o (ps ++ [(q, xI 2 N xz)]) → XA l Z y cc nL ret hh d mc ms Q X (pc + 2) lv (.ref q :: st) h2 (nc + 1) (ns + N)) : XA l Z y cc nL ret hh d mc ms Q X pc lv (.int n :: st) h1 nc ns := XA.newC hw hdg hn hN hb hc9 hs9 (fun q hq => k q _ (cn_new hC hq))
theorem XN.newZ {n : Int32} {N : Nat} (hC : Cn h h1 b o ps) (hw : Cond.arrayClass .boolean ∈ xg) (hdg : decode cc pc = .ok (.newarray .boolean, 2)) (hn : ¬ n < 0) (hN : n.toNatClampNeg = N) (hb : N ≤ 100000000) (hc9 : nc + 1 ≤ mc) (hs9 : ns + N ≤ ms) (k : ∀ (q : Nat) (h2 : XH), Cn h h2 b o (ps ++ [(q, xI 3 N xz)]) → XA l Z y cc nL ret hh d mc ms Q X (pc + 2) lv (.ref q :: st) h2 (nc + 1) (ns + N)) : XA l Z y cc nL ret hh d mc ms Q X pc lv (.int n :: st) h1 nc ns := XA.newZ hw hdg hn hN hb hc9 hs9 (fun q hq => k q _ (cn_new hC hq))
theorem XN.anew {index : Nat} {n : Int32} {N : Nat} (hC : Cn h h1 b o ps) (hw : Cond.classLink y.cls index RX10 ∈ xg) (hdg : decode cc pc = .ok (.anewarray index, 3)) (hn : ¬ n < 0) (hN : n.toNatClampNeg = N) (hb : N ≤ 100000000) (hc9 : nc + 1 ≤ mc) (hs9 : ns + N ≤ ms) (k : ∀ (q : Nat) (h2 : XH), Cn h h2 b o (ps ++ [(q, xR N (fun _ => none))]) → XA l Z y cc nL ret hh d mc ms Q X (pc + 3) lv (.ref q :: st) h2 (nc + 1) (ns + N)) : XA l Z y cc nL ret hh d mc ms Q X pc lv (.int n :: st) h1 nc ns := XA.anew hw hdg hn hN hb hc9 hs9 (fun q hq => k q _ (cn_new hC hq))
theorem XN.put {index c k9 : Nat} {fs : List Value} {v : Value} (hC : Cn h h1 b (xO c fs) ps) (hf : XPut y.cls y.name index c k9 v) (hdg : decode cc pc = .ok (.putfield index, 3)) (hl9 : k9 < fs.length) (k : ∀ h2 : XH, Cn h h2 b (xO c (fs.set k9 v)) ps → XA l Z y cc nL ret hh d mc ms Q X (pc + 3) lv st h2 nc ns) : XA l Z y cc nL ret hh d mc ms Q X pc lv (v :: .ref b :: st) h1 nc ns := XA.put hf hdg hC.2.1 hl9 (k _ (cn_put hC))
end XN
set_option maxHeartbeats 4000000 in
theorem n_X9 {l : Launch} {Z : XZ} {N d b : Nat} {h : XH} (hN : N ≤ 100000) (hb : h b = some (xO 8 [.null, .int 0])) : XMet l Z yX9_init cX9_init 2 none [] d 1 N [.ref b, .int (J (N : Int))] h (fun v h' => v = none ∧ ∃ v1, Cn h h' b (xO 8 [.ref v1, .int 0]) [(v1, xI 2 N xz)]) (fun _ _ => False) := by
  refine XMet.of (by decide) (Nat.le_of_ble_eq_true rfl) ?_
  have hC := cn_start hb
  refine XA.aload_n dX9_init_0 rfl ?_
  refine XA.objInit ⟨xs_X9_3, xobj.1, xobj.2⟩ dX9_init_1 (Nat.le_of_ble_eq_true rfl) ?_
  refine XA.aload_n dX9_init_4 rfl ?_
  refine XA.iconst (v := J ((0 : Nat) : Int)) dX9_init_5 (by decide) ?_
  refine XA.iload_n dX9_init_6 rfl ?_
  refine XJ.mmax xs_X9_9 dX9_init_7 (by decide) ⟨by omega, by omega⟩ (Nat.le_of_ble_eq_true rfl) (Nat.zero_le _) (Nat.zero_le _) ?_
  rw [show max (((0 : Nat) : Int)) (N : Int) = (N : Int) by omega]
  refine XN.newC (N := N) hC xac_char dX9_init_10 (J_nneg ⟨by omega, by omega⟩) (J_nat (by omega) (by omega)) (by omega) (by omega) (by omega) (fun v1 h9 hC => ?_)
  refine XN.put hC (xp_X9_15 _) dX9_init_12 (Nat.le_of_ble_eq_true rfl) (fun h9 hC => ?_)
  have hC : Cn h h9 b (xO 8 [.ref v1, .int 0]) _ := hC
  exact XA.vret rfl dX9_init_15 (by omega) (by omega) ⟨rfl, v1, hC⟩
set_option maxHeartbeats 4000000 in
set_option maxRecDepth 20000 in
theorem n_X10 {l : Launch} {Z : XZ} {d b : Nat} {h : XH} (hb : h b = some (xO 9 [.null, .null, .null, .null, .null, .null, .null, .int 0, .int 0])) : XMet l Z yX10_init cX10_init 1 none [] d 7 5700 [.ref b] h (fun v h' => v = none ∧ ∃ v1 v2 v3 v4 v5 v6 v7, Cn h h' b (xO 9 [.ref v1, .ref v2, .ref v3, .ref v4, .ref v5, .ref v6, .ref v7, .int 0, .int 0]) [(v1, xI 0 100 xz), (v2, xI 0 100 xz), (v3, xI 0 100 xz), (v4, xI 0 100 xz), (v5, xI 2 4000 xz), (v6, xI 0 100 xz), (v7, xI 2 1200 xz)]) (fun _ _ => False) := by
  refine XMet.of (by decide) (Nat.le_of_ble_eq_true rfl) ?_
  have hC := cn_start hb
  refine XA.aload_n dX10_init_0 rfl ?_
  refine XA.objInit ⟨xs_X10_3, xobj.1, xobj.2⟩ dX10_init_1 (Nat.le_of_ble_eq_true rfl) ?_
  refine XA.aload_n dX10_init_4 rfl ?_
  refine XA.bipush (v := J ((100 : Nat) : Int)) dX10_init_5 (by decide) ?_
  refine XN.newI (N := 100) hC xac_int dX10_init_7 (by decide) (by decide) (Nat.le_of_ble_eq_true rfl) (Nat.le_of_ble_eq_true rfl) (Nat.le_of_ble_eq_true rfl) (fun v1 h9 hC => ?_)
  refine XN.put hC (xp_X10_9 _) dX10_init_9 (Nat.le_of_ble_eq_true rfl) (fun h9 hC => ?_)
  have hC : Cn h h9 b (xO 9 [.ref v1, .null, .null, .null, .null, .null, .null, .int 0, .int 0]) _ := hC
  refine XA.aload_n dX10_init_12 rfl ?_
  refine XA.bipush (v := J ((100 : Nat) : Int)) dX10_init_13 (by decide) ?_
  refine XN.newI (N := 100) hC xac_int dX10_init_15 (by decide) (by decide) (Nat.le_of_ble_eq_true rfl) (Nat.le_of_ble_eq_true rfl) (Nat.le_of_ble_eq_true rfl) (fun v2 h9 hC => ?_)
  refine XN.put hC (xp_X10_15 _) dX10_init_17 (Nat.le_of_ble_eq_true rfl) (fun h9 hC => ?_)
  have hC : Cn h h9 b (xO 9 [.ref v1, .ref v2, .null, .null, .null, .null, .null, .int 0, .int 0]) _ := hC
  refine XA.aload_n dX10_init_20 rfl ?_
  refine XA.bipush (v := J ((100 : Nat) : Int)) dX10_init_21 (by decide) ?_
  refine XN.newI (N := 100) hC xac_int dX10_init_23 (by decide) (by decide) (Nat.le_of_ble_eq_true rfl) (Nat.le_of_ble_eq_true rfl) (Nat.le_of_ble_eq_true rfl) (fun v3 h9 hC => ?_)
  refine XN.put hC (xp_X10_18 _) dX10_init_25 (Nat.le_of_ble_eq_true rfl) (fun h9 hC => ?_)
  have hC : Cn h h9 b (xO 9 [.ref v1, .ref v2, .ref v3, .null, .null, .null, .null, .int 0, .int 0]) _ := hC
  refine XA.aload_n dX10_init_28 rfl ?_
  refine XA.bipush (v := J ((100 : Nat) : Int)) dX10_init_29 (by decide) ?_
  refine XN.newI (N := 100) hC xac_int dX10_init_31 (by decide) (by decide) (Nat.le_of_ble_eq_true rfl) (Nat.le_of_ble_eq_true rfl) (Nat.le_of_ble_eq_true rfl) (fun v4 h9 hC => ?_)
  refine XN.put hC (xp_X10_21 _) dX10_init_33 (Nat.le_of_ble_eq_true rfl) (fun h9 hC => ?_)
  have hC : Cn h h9 b (xO 9 [.ref v1, .ref v2, .ref v3, .ref v4, .null, .null, .null, .int 0, .int 0]) _ := hC
  refine XA.aload_n dX10_init_36 rfl ?_
  refine XA.sipush (v := J ((4000 : Nat) : Int)) dX10_init_37 (by decide) ?_
  refine XN.newC (N := 4000) hC xac_char dX10_init_40 (by decide) (by decide) (Nat.le_of_ble_eq_true rfl) (Nat.le_of_ble_eq_true rfl) (Nat.le_of_ble_eq_true rfl) (fun v5 h9 hC => ?_)
  refine XN.put hC (xp_X10_24 _) dX10_init_42 (Nat.le_of_ble_eq_true rfl) (fun h9 hC => ?_)
  have hC : Cn h h9 b (xO 9 [.ref v1, .ref v2, .ref v3, .ref v4, .ref v5, .null, .null, .int 0, .int 0]) _ := hC
  refine XA.aload_n dX10_init_45 rfl ?_
  refine XA.bipush (v := J ((100 : Nat) : Int)) dX10_init_46 (by decide) ?_
  refine XN.newI (N := 100) hC xac_int dX10_init_48 (by decide) (by decide) (Nat.le_of_ble_eq_true rfl) (Nat.le_of_ble_eq_true rfl) (Nat.le_of_ble_eq_true rfl) (fun v6 h9 hC => ?_)
  refine XN.put hC (xp_X10_28 _) dX10_init_50 (Nat.le_of_ble_eq_true rfl) (fun h9 hC => ?_)
  have hC : Cn h h9 b (xO 9 [.ref v1, .ref v2, .ref v3, .ref v4, .ref v5, .ref v6, .null, .int 0, .int 0]) _ := hC
  refine XA.aload_n dX10_init_53 rfl ?_
  refine XA.sipush (v := J ((1200 : Nat) : Int)) dX10_init_54 (by decide) ?_
  refine XN.newC (N := 1200) hC xac_char dX10_init_57 (by decide) (by decide) (Nat.le_of_ble_eq_true rfl) (Nat.le_of_ble_eq_true rfl) (Nat.le_of_ble_eq_true rfl) (fun v7 h9 hC => ?_)
  refine XN.put hC (xp_X10_31 _) dX10_init_59 (Nat.le_of_ble_eq_true rfl) (fun h9 hC => ?_)
  have hC : Cn h h9 b (xO 9 [.ref v1, .ref v2, .ref v3, .ref v4, .ref v5, .ref v6, .ref v7, .int 0, .int 0]) _ := hC
  exact XA.vret rfl dX10_init_62 (Nat.le_of_ble_eq_true rfl) (Nat.le_of_ble_eq_true rfl) ⟨rfl, v1, v2, v3, v4, v5, v6, v7, hC⟩
set_option maxHeartbeats 4000000 in
set_option maxRecDepth 20000 in
theorem n_X6 {l : Launch} {Z : XZ} {d b : Nat} {h : XH} (hd : 3 ≤ d) (hb : h b = some (xO 6 [.null, .null, .null, .null, .null, .null, .int 0, .int 0, .int 0, .int 0])) : XMet l Z yX6_init cX6_init 1 none [] d 22 11500 [.ref b] h (fun v h' => v = none ∧ ∃ v1 v2 v3 v4 v5 v6 v7 v8 v9 v10 v11 v12 v13 v14 v15 v16 v17 v18 v19 v20 v21 v22, Cn h h' b (xO 6 [.ref v1, .ref v9, .ref v17, .ref v19, .ref v21, .ref v17, .int 0, .int 0, .int 0, .int 0]) [(v1, xO 9 [.ref v2, .ref v3, .ref v4, .ref v5, .ref v6, .ref v7, .ref v8, .int 0, .int 0]), (v2, xI 0 100 xz), (v3, xI 0 100 xz), (v4, xI 0 100 xz), (v5, xI 0 100 xz), (v6, xI 2 4000 xz), (v7, xI 0 100 xz), (v8, xI 2 1200 xz), (v9, xO 9 [.ref v10, .ref v11, .ref v12, .ref v13, .ref v14, .ref v15, .ref v16, .int 0, .int 0]), (v10, xI 0 100 xz), (v11, xI 0 100 xz), (v12, xI 0 100 xz), (v13, xI 0 100 xz), (v14, xI 2 4000 xz), (v15, xI 0 100 xz), (v16, xI 2 1200 xz), (v17, xO 8 [.ref v18, .int 0]), (v18, xI 2 12 xz), (v19, xO 8 [.ref v20, .int 0]), (v20, xI 2 40 xz), (v21, xO 8 [.ref v22, .int 0]), (v22, xI 2 24 xz)]) (fun _ _ => False) := by
  refine XMet.of (by decide) (Nat.le_of_ble_eq_true rfl) ?_
  have hC := cn_start hb
  refine XA.aload_n dX6_init_0 rfl ?_
  refine XA.objInit ⟨xs_X6_3, xobj.1, xobj.2⟩ dX6_init_1 (Nat.le_of_ble_eq_true rfl) ?_
  refine XA.aload_n dX6_init_4 rfl ?_
  refine XA.new (xnw_X10 xcl_X6_9) dX6_init_5 (Nat.le_of_ble_eq_true rfl) (Nat.le_of_ble_eq_true rfl) (fun v1 hq1 => ?_)
  refine XA.dup dX6_init_8 rfl ?_
  refine XA.callI (As := []) (n_X10 (d := d - 1) xup_s) xs_X6_11 dX6_init_9 rfl (by omega) (by decide) rfl (Nat.le_of_ble_eq_true rfl) (Nat.le_of_ble_eq_true rfl) (Nat.le_of_ble_eq_true rfl) (fun E h9 hx => hx.elim) (fun v h9 hq => ?_)
  obtain ⟨rfl, v2, v3, v4, v5, v6, v7, v8, hN⟩ := hq
  have hC := cn_obj hC hq1 hN
  refine XN.put hC (xp_X6_12 _) dX6_init_12 (Nat.le_of_ble_eq_true rfl) (fun h9 hC => ?_)
  have hC : Cn h h9 b (xO 6 [.ref v1, .null, .null, .null, .null, .null, .int 0, .int 0, .int 0, .int 0]) _ := hC
  refine XA.aload_n dX6_init_15 rfl ?_
  refine XA.new (xnw_X10 xcl_X6_9) dX6_init_16 (Nat.le_of_ble_eq_true rfl) (Nat.le_of_ble_eq_true rfl) (fun v9 hq9 => ?_)
  refine XA.dup dX6_init_19 rfl ?_
  refine XA.callI (As := []) (n_X10 (d := d - 1) xup_s) xs_X6_11 dX6_init_20 rfl (by omega) (by decide) rfl (Nat.le_of_ble_eq_true rfl) (Nat.le_of_ble_eq_true rfl) (Nat.le_of_ble_eq_true rfl) (fun E h9 hx => hx.elim) (fun v h9 hq => ?_)
  obtain ⟨rfl, v10, v11, v12, v13, v14, v15, v16, hN⟩ := hq
  have hC := cn_obj hC hq9 hN
  refine XN.put hC (xp_X6_18 _) dX6_init_23 (Nat.le_of_ble_eq_true rfl) (fun h9 hC => ?_)
  have hC : Cn h h9 b (xO 6 [.ref v1, .ref v9, .null, .null, .null, .null, .int 0, .int 0, .int 0, .int 0]) _ := hC
  refine XA.aload_n dX6_init_26 rfl ?_
  refine XA.new (xnw_X9 xcl_X6_21) dX6_init_27 (Nat.le_of_ble_eq_true rfl) (Nat.le_of_ble_eq_true rfl) (fun v17 hq17 => ?_)
  refine XA.dup dX6_init_30 rfl ?_
  refine XA.bipush (v := J ((12 : Nat) : Int)) dX6_init_31 (by decide) ?_
  refine XA.callI (As := [.int (J ((12 : Nat) : Int))]) (n_X9 (N := 12) (d := d - 1) (by decide) xup_s) xs_X6_23 dX6_init_33 rfl (by omega) (by decide) rfl (Nat.le_of_ble_eq_true rfl) (Nat.le_of_ble_eq_true rfl) (Nat.le_of_ble_eq_true rfl) (fun E h9 hx => hx.elim) (fun v h9 hq => ?_)
  obtain ⟨rfl, v18, hN⟩ := hq
  have hC := cn_obj hC hq17 hN
  refine XN.put hC (xp_X6_26 _) dX6_init_36 (Nat.le_of_ble_eq_true rfl) (fun h9 hC => ?_)
  have hC : Cn h h9 b (xO 6 [.ref v1, .ref v9, .ref v17, .null, .null, .null, .int 0, .int 0, .int 0, .int 0]) _ := hC
  refine XA.aload_n dX6_init_39 rfl ?_
  refine XA.new (xnw_X9 xcl_X6_21) dX6_init_40 (Nat.le_of_ble_eq_true rfl) (Nat.le_of_ble_eq_true rfl) (fun v19 hq19 => ?_)
  refine XA.dup dX6_init_43 rfl ?_
  refine XA.bipush (v := J ((40 : Nat) : Int)) dX6_init_44 (by decide) ?_
  refine XA.callI (As := [.int (J ((40 : Nat) : Int))]) (n_X9 (N := 40) (d := d - 1) (by decide) xup_s) xs_X6_23 dX6_init_46 rfl (by omega) (by decide) rfl (Nat.le_of_ble_eq_true rfl) (Nat.le_of_ble_eq_true rfl) (Nat.le_of_ble_eq_true rfl) (fun E h9 hx => hx.elim) (fun v h9 hq => ?_)
  obtain ⟨rfl, v20, hN⟩ := hq
  have hC := cn_obj hC hq19 hN
  refine XN.put hC (xp_X6_30 _) dX6_init_49 (Nat.le_of_ble_eq_true rfl) (fun h9 hC => ?_)
  have hC : Cn h h9 b (xO 6 [.ref v1, .ref v9, .ref v17, .ref v19, .null, .null, .int 0, .int 0, .int 0, .int 0]) _ := hC
  refine XA.aload_n dX6_init_52 rfl ?_
  refine XA.new (xnw_X9 xcl_X6_21) dX6_init_53 (Nat.le_of_ble_eq_true rfl) (Nat.le_of_ble_eq_true rfl) (fun v21 hq21 => ?_)
  refine XA.dup dX6_init_56 rfl ?_
  refine XA.bipush (v := J ((24 : Nat) : Int)) dX6_init_57 (by decide) ?_
  refine XA.callI (As := [.int (J ((24 : Nat) : Int))]) (n_X9 (N := 24) (d := d - 1) (by decide) xup_s) xs_X6_23 dX6_init_59 rfl (by omega) (by decide) rfl (Nat.le_of_ble_eq_true rfl) (Nat.le_of_ble_eq_true rfl) (Nat.le_of_ble_eq_true rfl) (fun E h9 hx => hx.elim) (fun v h9 hq => ?_)
  obtain ⟨rfl, v22, hN⟩ := hq
  have hC := cn_obj hC hq21 hN
  refine XN.put hC (xp_X6_33 _) dX6_init_62 (Nat.le_of_ble_eq_true rfl) (fun h9 hC => ?_)
  have hC : Cn h h9 b (xO 6 [.ref v1, .ref v9, .ref v17, .ref v19, .ref v21, .null, .int 0, .int 0, .int 0, .int 0]) _ := hC
  refine XA.aload_n dX6_init_65 rfl ?_
  refine XA.aload_n dX6_init_66 rfl ?_
  refine XA.get xf_X6_26 dX6_init_67 hC.2.1 rfl ?_
  refine XN.put hC (xp_X6_36 _) dX6_init_70 (Nat.le_of_ble_eq_true rfl) (fun h9 hC => ?_)
  have hC : Cn h h9 b (xO 6 [.ref v1, .ref v9, .ref v17, .ref v19, .ref v21, .ref v17, .int 0, .int 0, .int 0, .int 0]) _ := hC
  exact XA.vret rfl dX6_init_73 (Nat.le_of_ble_eq_true rfl) (Nat.le_of_ble_eq_true rfl) ⟨rfl, v1, v2, v3, v4, v5, v6, v7, v8, v9, v10, v11, v12, v13, v14, v15, v16, v17, v18, v19, v20, v21, v22, hC⟩
set_option maxHeartbeats 4000000 in
set_option maxRecDepth 20000 in
theorem n_X7 {l : Launch} {Z : XZ} {d b : Nat} {h : XH} (hd : 3 ≤ d) (hb : h b = some (xO 7 [.null, .null, .null, .int 0])) : XMet l Z yX7_init cX7_init 1 none [] d 5 1204 [.ref b] h (fun v h' => v = none ∧ ∃ v1 v2 v3 v4 v5, Cn h h' b (xO 7 [.ref v1, .ref v3, .ref v5, .int 0]) [(v1, xO 8 [.ref v2, .int 0]), (v2, xI 2 400 xz), (v3, xO 8 [.ref v4, .int 0]), (v4, xI 2 400 xz), (v5, xI 0 400 xz)]) (fun _ _ => False) := by
  refine XMet.of (by decide) (Nat.le_of_ble_eq_true rfl) ?_
  have hC := cn_start hb
  refine XA.aload_n dX7_init_0 rfl ?_
  refine XA.objInit ⟨xs_X7_3, xobj.1, xobj.2⟩ dX7_init_1 (Nat.le_of_ble_eq_true rfl) ?_
  refine XA.aload_n dX7_init_4 rfl ?_
  refine XA.new (xnw_X9 xcl_X7_9) dX7_init_5 (Nat.le_of_ble_eq_true rfl) (Nat.le_of_ble_eq_true rfl) (fun v1 hq1 => ?_)
  refine XA.dup dX7_init_8 rfl ?_
  refine XA.sipush (v := J ((400 : Nat) : Int)) dX7_init_9 (by decide) ?_
  refine XA.callI (As := [.int (J ((400 : Nat) : Int))]) (n_X9 (N := 400) (d := d - 1) (by decide) xup_s) xs_X7_11 dX7_init_12 rfl (by omega) (by decide) rfl (Nat.le_of_ble_eq_true rfl) (Nat.le_of_ble_eq_true rfl) (Nat.le_of_ble_eq_true rfl) (fun E h9 hx => hx.elim) (fun v h9 hq => ?_)
  obtain ⟨rfl, v2, hN⟩ := hq
  have hC := cn_obj hC hq1 hN
  refine XN.put hC (xp_X7_14 _) dX7_init_15 (Nat.le_of_ble_eq_true rfl) (fun h9 hC => ?_)
  have hC : Cn h h9 b (xO 7 [.ref v1, .null, .null, .int 0]) _ := hC
  refine XA.aload_n dX7_init_18 rfl ?_
  refine XA.new (xnw_X9 xcl_X7_9) dX7_init_19 (Nat.le_of_ble_eq_true rfl) (Nat.le_of_ble_eq_true rfl) (fun v3 hq3 => ?_)
  refine XA.dup dX7_init_22 rfl ?_
  refine XA.sipush (v := J ((400 : Nat) : Int)) dX7_init_23 (by decide) ?_
  refine XA.callI (As := [.int (J ((400 : Nat) : Int))]) (n_X9 (N := 400) (d := d - 1) (by decide) xup_s) xs_X7_11 dX7_init_26 rfl (by omega) (by decide) rfl (Nat.le_of_ble_eq_true rfl) (Nat.le_of_ble_eq_true rfl) (Nat.le_of_ble_eq_true rfl) (fun E h9 hx => hx.elim) (fun v h9 hq => ?_)
  obtain ⟨rfl, v4, hN⟩ := hq
  have hC := cn_obj hC hq3 hN
  refine XN.put hC (xp_X7_20 _) dX7_init_29 (Nat.le_of_ble_eq_true rfl) (fun h9 hC => ?_)
  have hC : Cn h h9 b (xO 7 [.ref v1, .ref v3, .null, .int 0]) _ := hC
  refine XA.aload_n dX7_init_32 rfl ?_
  refine XA.sipush (v := J ((400 : Nat) : Int)) dX7_init_33 (by decide) ?_
  refine XN.newI (N := 400) hC xac_int dX7_init_36 (by decide) (by decide) (Nat.le_of_ble_eq_true rfl) (Nat.le_of_ble_eq_true rfl) (Nat.le_of_ble_eq_true rfl) (fun v5 h9 hC => ?_)
  refine XN.put hC (xp_X7_23 _) dX7_init_38 (Nat.le_of_ble_eq_true rfl) (fun h9 hC => ?_)
  have hC : Cn h h9 b (xO 7 [.ref v1, .ref v3, .ref v5, .int 0]) _ := hC
  exact XA.vret rfl dX7_init_41 (Nat.le_of_ble_eq_true rfl) (Nat.le_of_ble_eq_true rfl) ⟨rfl, v1, v2, v3, v4, v5, hC⟩
set_option maxHeartbeats 4000000 in
set_option maxRecDepth 20000 in
theorem n_X2 {l : Launch} {Z : XZ} {d b : Nat} {h : XH} (hd : 3 ≤ d) (hb : h b = some (xO 2 [.null, .null, .null, .null, .null, .null, .int 0])) : XMet l Z yX2_init cX2_init 1 none [] d 9 37106 [.ref b] h (fun v h' => v = none ∧ ∃ v1 v2 v3 v4 v5 v6 v7 v8 v9, Cn h h' b (xO 2 [.ref v1, .ref v3, .ref v5, .ref v7, .ref v8, .ref v9, .int 0]) [(v1, xO 8 [.ref v2, .int 0]), (v2, xI 2 400 xz), (v3, xO 8 [.ref v4, .int 0]), (v4, xI 2 400 xz), (v5, xO 8 [.ref v6, .int 0]), (v6, xI 2 36000 xz), (v7, xI 0 100 xz), (v8, xI 0 100 xz), (v9, xI 3 100 xz)]) (fun _ _ => False) := by
  refine XMet.of (by decide) (Nat.le_of_ble_eq_true rfl) ?_
  have hC := cn_start hb
  refine XA.aload_n dX2_init_0 rfl ?_
  refine XA.objInit ⟨xs_X2_3, xobj.1, xobj.2⟩ dX2_init_1 (Nat.le_of_ble_eq_true rfl) ?_
  refine XA.aload_n dX2_init_4 rfl ?_
  refine XA.new (xnw_X9 xcl_X2_9) dX2_init_5 (Nat.le_of_ble_eq_true rfl) (Nat.le_of_ble_eq_true rfl) (fun v1 hq1 => ?_)
  refine XA.dup dX2_init_8 rfl ?_
  refine XA.sipush (v := J ((400 : Nat) : Int)) dX2_init_9 (by decide) ?_
  refine XA.callI (As := [.int (J ((400 : Nat) : Int))]) (n_X9 (N := 400) (d := d - 1) (by decide) xup_s) xs_X2_11 dX2_init_12 rfl (by omega) (by decide) rfl (Nat.le_of_ble_eq_true rfl) (Nat.le_of_ble_eq_true rfl) (Nat.le_of_ble_eq_true rfl) (fun E h9 hx => hx.elim) (fun v h9 hq => ?_)
  obtain ⟨rfl, v2, hN⟩ := hq
  have hC := cn_obj hC hq1 hN
  refine XN.put hC (xp_X2_14 _) dX2_init_15 (Nat.le_of_ble_eq_true rfl) (fun h9 hC => ?_)
  have hC : Cn h h9 b (xO 2 [.ref v1, .null, .null, .null, .null, .null, .int 0]) _ := hC
  refine XA.aload_n dX2_init_18 rfl ?_
  refine XA.new (xnw_X9 xcl_X2_9) dX2_init_19 (Nat.le_of_ble_eq_true rfl) (Nat.le_of_ble_eq_true rfl) (fun v3 hq3 => ?_)
  refine XA.dup dX2_init_22 rfl ?_
  refine XA.sipush (v := J ((400 : Nat) : Int)) dX2_init_23 (by decide) ?_
  refine XA.callI (As := [.int (J ((400 : Nat) : Int))]) (n_X9 (N := 400) (d := d - 1) (by decide) xup_s) xs_X2_11 dX2_init_26 rfl (by omega) (by decide) rfl (Nat.le_of_ble_eq_true rfl) (Nat.le_of_ble_eq_true rfl) (Nat.le_of_ble_eq_true rfl) (fun E h9 hx => hx.elim) (fun v h9 hq => ?_)
  obtain ⟨rfl, v4, hN⟩ := hq
  have hC := cn_obj hC hq3 hN
  refine XN.put hC (xp_X2_20 _) dX2_init_29 (Nat.le_of_ble_eq_true rfl) (fun h9 hC => ?_)
  have hC : Cn h h9 b (xO 2 [.ref v1, .ref v3, .null, .null, .null, .null, .int 0]) _ := hC
  refine XA.aload_n dX2_init_32 rfl ?_
  refine XA.new (xnw_X9 xcl_X2_9) dX2_init_33 (Nat.le_of_ble_eq_true rfl) (Nat.le_of_ble_eq_true rfl) (fun v5 hq5 => ?_)
  refine XA.dup dX2_init_36 rfl ?_
  refine XA.ldc (v := J ((36000 : Nat) : Int)) xc_X2_23 dX2_init_37 ?_
  refine XA.callI (As := [.int (J ((36000 : Nat) : Int))]) (n_X9 (N := 36000) (d := d - 1) (by decide) xup_s) xs_X2_11 dX2_init_39 rfl (by omega) (by decide) rfl (Nat.le_of_ble_eq_true rfl) (Nat.le_of_ble_eq_true rfl) (Nat.le_of_ble_eq_true rfl) (fun E h9 hx => hx.elim) (fun v h9 hq => ?_)
  obtain ⟨rfl, v6, hN⟩ := hq
  have hC := cn_obj hC hq5 hN
  refine XN.put hC (xp_X2_24 _) dX2_init_42 (Nat.le_of_ble_eq_true rfl) (fun h9 hC => ?_)
  have hC : Cn h h9 b (xO 2 [.ref v1, .ref v3, .ref v5, .null, .null, .null, .int 0]) _ := hC
  refine XA.aload_n dX2_init_45 rfl ?_
  refine XA.bipush (v := J ((100 : Nat) : Int)) dX2_init_46 (by decide) ?_
  refine XN.newI (N := 100) hC xac_int dX2_init_48 (by decide) (by decide) (Nat.le_of_ble_eq_true rfl) (Nat.le_of_ble_eq_true rfl) (Nat.le_of_ble_eq_true rfl) (fun v7 h9 hC => ?_)
  refine XN.put hC (xp_X2_27 _) dX2_init_50 (Nat.le_of_ble_eq_true rfl) (fun h9 hC => ?_)
  have hC : Cn h h9 b (xO 2 [.ref v1, .ref v3, .ref v5, .ref v7, .null, .null, .int 0]) _ := hC
  refine XA.aload_n dX2_init_53 rfl ?_
  refine XA.bipush (v := J ((100 : Nat) : Int)) dX2_init_54 (by decide) ?_
  refine XN.newI (N := 100) hC xac_int dX2_init_56 (by decide) (by decide) (Nat.le_of_ble_eq_true rfl) (Nat.le_of_ble_eq_true rfl) (Nat.le_of_ble_eq_true rfl) (fun v8 h9 hC => ?_)
  refine XN.put hC (xp_X2_31 _) dX2_init_58 (Nat.le_of_ble_eq_true rfl) (fun h9 hC => ?_)
  have hC : Cn h h9 b (xO 2 [.ref v1, .ref v3, .ref v5, .ref v7, .ref v8, .null, .int 0]) _ := hC
  refine XA.aload_n dX2_init_61 rfl ?_
  refine XA.bipush (v := J ((100 : Nat) : Int)) dX2_init_62 (by decide) ?_
  refine XN.newZ (N := 100) hC xac_boolean dX2_init_64 (by decide) (by decide) (Nat.le_of_ble_eq_true rfl) (Nat.le_of_ble_eq_true rfl) (Nat.le_of_ble_eq_true rfl) (fun v9 h9 hC => ?_)
  refine XN.put hC (xp_X2_34 _) dX2_init_66 (Nat.le_of_ble_eq_true rfl) (fun h9 hC => ?_)
  have hC : Cn h h9 b (xO 2 [.ref v1, .ref v3, .ref v5, .ref v7, .ref v8, .ref v9, .int 0]) _ := hC
  exact XA.vret rfl dX2_init_69 (Nat.le_of_ble_eq_true rfl) (Nat.le_of_ble_eq_true rfl) ⟨rfl, v1, v2, v3, v4, v5, v6, v7, v8, v9, hC⟩
set_option maxHeartbeats 4000000 in
set_option maxRecDepth 20000 in
theorem n_X5 {l : Launch} {Z : XZ} {d b : Nat} {h : XH} (hd : 3 ≤ d) (hb : h b = some (xO 5 [.null, .null, .null, .null, .null, .null, .null, .null])) : XMet l Z yX5_init cX5_init 1 none [] d 14 26311 [.ref b] h (fun v h' => v = none ∧ ∃ v1 v2 v3 v4 v5 v6 v7 v8 v9 v10 v11 v12 v13 v14, Cn h h' b (xO 5 [.ref v1, .ref v3, .ref v4, .ref v5, .ref v6, .ref v7, .ref v7, .ref v7]) [(v1, xO 8 [.ref v2, .int 0]), (v2, xI 2 400 xz), (v3, xI 3 10000 xz), (v4, xI 0 10000 xz), (v5, xI 0 100 xz), (v6, xI 0 100 xz), (v7, xO 9 [.ref v8, .ref v9, .ref v10, .ref v11, .ref v12, .ref v13, .ref v14, .int 0, .int 0]), (v8, xI 0 100 xz), (v9, xI 0 100 xz), (v10, xI 0 100 xz), (v11, xI 0 100 xz), (v12, xI 2 4000 xz), (v13, xI 0 100 xz), (v14, xI 2 1200 xz)]) (fun _ _ => False) := by
  refine XMet.of (by decide) (Nat.le_of_ble_eq_true rfl) ?_
  have hC := cn_start hb
  refine XA.aload_n dX5_init_0 rfl ?_
  refine XA.objInit ⟨xs_X5_3, xobj.1, xobj.2⟩ dX5_init_1 (Nat.le_of_ble_eq_true rfl) ?_
  refine XA.aload_n dX5_init_4 rfl ?_
  refine XA.new (xnw_X9 xcl_X5_9) dX5_init_5 (Nat.le_of_ble_eq_true rfl) (Nat.le_of_ble_eq_true rfl) (fun v1 hq1 => ?_)
  refine XA.dup dX5_init_8 rfl ?_
  refine XA.sipush (v := J ((400 : Nat) : Int)) dX5_init_9 (by decide) ?_
  refine XA.callI (As := [.int (J ((400 : Nat) : Int))]) (n_X9 (N := 400) (d := d - 1) (by decide) xup_s) xs_X5_11 dX5_init_12 rfl (by omega) (by decide) rfl (Nat.le_of_ble_eq_true rfl) (Nat.le_of_ble_eq_true rfl) (Nat.le_of_ble_eq_true rfl) (fun E h9 hx => hx.elim) (fun v h9 hq => ?_)
  obtain ⟨rfl, v2, hN⟩ := hq
  have hC := cn_obj hC hq1 hN
  refine XN.put hC (xp_X5_14 _) dX5_init_15 (Nat.le_of_ble_eq_true rfl) (fun h9 hC => ?_)
  have hC : Cn h h9 b (xO 5 [.ref v1, .null, .null, .null, .null, .null, .null, .null]) _ := hC
  refine XA.aload_n dX5_init_18 rfl ?_
  refine XA.sipush (v := J ((10000 : Nat) : Int)) dX5_init_19 (by decide) ?_
  refine XN.newZ (N := 10000) hC xac_boolean dX5_init_22 (by decide) (by decide) (Nat.le_of_ble_eq_true rfl) (Nat.le_of_ble_eq_true rfl) (Nat.le_of_ble_eq_true rfl) (fun v3 h9 hC => ?_)
  refine XN.put hC (xp_X5_20 _) dX5_init_24 (Nat.le_of_ble_eq_true rfl) (fun h9 hC => ?_)
  have hC : Cn h h9 b (xO 5 [.ref v1, .ref v3, .null, .null, .null, .null, .null, .null]) _ := hC
  refine XA.aload_n dX5_init_27 rfl ?_
  refine XA.sipush (v := J ((10000 : Nat) : Int)) dX5_init_28 (by decide) ?_
  refine XN.newI (N := 10000) hC xac_int dX5_init_31 (by decide) (by decide) (Nat.le_of_ble_eq_true rfl) (Nat.le_of_ble_eq_true rfl) (Nat.le_of_ble_eq_true rfl) (fun v4 h9 hC => ?_)
  refine XN.put hC (xp_X5_24 _) dX5_init_33 (Nat.le_of_ble_eq_true rfl) (fun h9 hC => ?_)
  have hC : Cn h h9 b (xO 5 [.ref v1, .ref v3, .ref v4, .null, .null, .null, .null, .null]) _ := hC
  refine XA.aload_n dX5_init_36 rfl ?_
  refine XA.bipush (v := J ((100 : Nat) : Int)) dX5_init_37 (by decide) ?_
  refine XN.newI (N := 100) hC xac_int dX5_init_39 (by decide) (by decide) (Nat.le_of_ble_eq_true rfl) (Nat.le_of_ble_eq_true rfl) (Nat.le_of_ble_eq_true rfl) (fun v5 h9 hC => ?_)
  refine XN.put hC (xp_X5_28 _) dX5_init_41 (Nat.le_of_ble_eq_true rfl) (fun h9 hC => ?_)
  have hC : Cn h h9 b (xO 5 [.ref v1, .ref v3, .ref v4, .ref v5, .null, .null, .null, .null]) _ := hC
  refine XA.aload_n dX5_init_44 rfl ?_
  refine XA.bipush (v := J ((100 : Nat) : Int)) dX5_init_45 (by decide) ?_
  refine XN.newI (N := 100) hC xac_int dX5_init_47 (by decide) (by decide) (Nat.le_of_ble_eq_true rfl) (Nat.le_of_ble_eq_true rfl) (Nat.le_of_ble_eq_true rfl) (fun v6 h9 hC => ?_)
  refine XN.put hC (xp_X5_31 _) dX5_init_49 (Nat.le_of_ble_eq_true rfl) (fun h9 hC => ?_)
  have hC : Cn h h9 b (xO 5 [.ref v1, .ref v3, .ref v4, .ref v5, .ref v6, .null, .null, .null]) _ := hC
  refine XA.aload_n dX5_init_52 rfl ?_
  refine XA.new (xnw_X10 xcl_X5_34) dX5_init_53 (Nat.le_of_ble_eq_true rfl) (Nat.le_of_ble_eq_true rfl) (fun v7 hq7 => ?_)
  refine XA.dup dX5_init_56 rfl ?_
  refine XA.callI (As := []) (n_X10 (d := d - 1) xup_s) xs_X5_36 dX5_init_57 rfl (by omega) (by decide) rfl (Nat.le_of_ble_eq_true rfl) (Nat.le_of_ble_eq_true rfl) (Nat.le_of_ble_eq_true rfl) (fun E h9 hx => hx.elim) (fun v h9 hq => ?_)
  obtain ⟨rfl, v8, v9, v10, v11, v12, v13, v14, hN⟩ := hq
  have hC := cn_obj hC hq7 hN
  refine XN.put hC (xp_X5_37 _) dX5_init_60 (Nat.le_of_ble_eq_true rfl) (fun h9 hC => ?_)
  have hC : Cn h h9 b (xO 5 [.ref v1, .ref v3, .ref v4, .ref v5, .ref v6, .ref v7, .null, .null]) _ := hC
  refine XA.aload_n dX5_init_63 rfl ?_
  refine XA.aload_n dX5_init_64 rfl ?_
  refine XA.get xf_X5_37 dX5_init_65 hC.2.1 rfl ?_
  refine XN.put hC (xp_X5_41 _) dX5_init_68 (Nat.le_of_ble_eq_true rfl) (fun h9 hC => ?_)
  have hC : Cn h h9 b (xO 5 [.ref v1, .ref v3, .ref v4, .ref v5, .ref v6, .ref v7, .ref v7, .null]) _ := hC
  refine XA.aload_n dX5_init_71 rfl ?_
  refine XA.aload_n dX5_init_72 rfl ?_
  refine XA.get xf_X5_37 dX5_init_73 hC.2.1 rfl ?_
  refine XN.put hC (xp_X5_44 _) dX5_init_76 (Nat.le_of_ble_eq_true rfl) (fun h9 hC => ?_)
  have hC : Cn h h9 b (xO 5 [.ref v1, .ref v3, .ref v4, .ref v5, .ref v6, .ref v7, .ref v7, .ref v7]) _ := hC
  exact XA.vret rfl dX5_init_79 (Nat.le_of_ble_eq_true rfl) (Nat.le_of_ble_eq_true rfl) ⟨rfl, v1, v2, v3, v4, v5, v6, v7, v8, v9, v10, v11, v12, v13, v14, hC⟩
set_option maxHeartbeats 4000000 in
set_option maxRecDepth 20000 in
theorem n_X1 {l : Launch} {Z : XZ} {d b : Nat} {h : XH} (hd : 4 ≤ d) (hb : h b = some (xO 1 [.null, .null, .null, .null, .null, .null, .null, .int 0, .int 0, .int 0, .int 0, .int 0])) : XMet l Z yX1_init cX1_init 1 none [] d 42 24848 [.ref b] h (fun v h' => v = none ∧ ∃ v1 v2 v3 v4 v5 v6 v7 v8 v9 v10 v11 v12 v13 v14 v15 v16 v17 v18 v19 v20 v21 v22 v23 v24 v25 v26 v27 v28 v29 v30 v31 v32 v33 v34 v35 v36 v37 v38 v39 v40 v41 v42, Cn h h' b (xO 1 [.ref v1, .ref v9, .ref v17, .ref v25, .ref v33, .ref v39, .ref v41, .int 0, .int 0, .int 0, .int 0, .int 0]) [(v1, xO 9 [.ref v2, .ref v3, .ref v4, .ref v5, .ref v6, .ref v7, .ref v8, .int 0, .int 0]), (v2, xI 0 100 xz), (v3, xI 0 100 xz), (v4, xI 0 100 xz), (v5, xI 0 100 xz), (v6, xI 2 4000 xz), (v7, xI 0 100 xz), (v8, xI 2 1200 xz), (v9, xO 9 [.ref v10, .ref v11, .ref v12, .ref v13, .ref v14, .ref v15, .ref v16, .int 0, .int 0]), (v10, xI 0 100 xz), (v11, xI 0 100 xz), (v12, xI 0 100 xz), (v13, xI 0 100 xz), (v14, xI 2 4000 xz), (v15, xI 0 100 xz), (v16, xI 2 1200 xz), (v17, xO 9 [.ref v18, .ref v19, .ref v20, .ref v21, .ref v22, .ref v23, .ref v24, .int 0, .int 0]), (v18, xI 0 100 xz), (v19, xI 0 100 xz), (v20, xI 0 100 xz), (v21, xI 0 100 xz), (v22, xI 2 4000 xz), (v23, xI 0 100 xz), (v24, xI 2 1200 xz), (v25, xO 9 [.ref v26, .ref v27, .ref v28, .ref v29, .ref v30, .ref v31, .ref v32, .int 0, .int 0]), (v26, xI 0 100 xz), (v27, xI 0 100 xz), (v28, xI 0 100 xz), (v29, xI 0 100 xz), (v30, xI 2 4000 xz), (v31, xI 0 100 xz), (v32, xI 2 1200 xz), (v33, xO 7 [.ref v34, .ref v36, .ref v38, .int 0]), (v34, xO 8 [.ref v35, .int 0]), (v35, xI 2 400 xz), (v36, xO 8 [.ref v37, .int 0]), (v37, xI 2 400 xz), (v38, xI 0 400 xz), (v39, xO 8 [.ref v40, .int 0]), (v40, xI 2 400 xz), (v41, xO 8 [.ref v42, .int 0]), (v42, xI 2 400 xz)]) (fun _ _ => False) := by
  refine XMet.of (by decide) (Nat.le_of_ble_eq_true rfl) ?_
  have hC := cn_start hb
  refine XA.aload_n dX1_init_0 rfl ?_
  refine XA.objInit ⟨xs_X1_3, xobj.1, xobj.2⟩ dX1_init_1 (Nat.le_of_ble_eq_true rfl) ?_
  refine XA.aload_n dX1_init_4 rfl ?_
  refine XA.new (xnw_X10 xcl_X1_9) dX1_init_5 (Nat.le_of_ble_eq_true rfl) (Nat.le_of_ble_eq_true rfl) (fun v1 hq1 => ?_)
  refine XA.dup dX1_init_8 rfl ?_
  refine XA.callI (As := []) (n_X10 (d := d - 1) xup_s) xs_X1_11 dX1_init_9 rfl (by omega) (by decide) rfl (Nat.le_of_ble_eq_true rfl) (Nat.le_of_ble_eq_true rfl) (Nat.le_of_ble_eq_true rfl) (fun E h9 hx => hx.elim) (fun v h9 hq => ?_)
  obtain ⟨rfl, v2, v3, v4, v5, v6, v7, v8, hN⟩ := hq
  have hC := cn_obj hC hq1 hN
  refine XN.put hC (xp_X1_12 _) dX1_init_12 (Nat.le_of_ble_eq_true rfl) (fun h9 hC => ?_)
  have hC : Cn h h9 b (xO 1 [.ref v1, .null, .null, .null, .null, .null, .null, .int 0, .int 0, .int 0, .int 0, .int 0]) _ := hC
  refine XA.aload_n dX1_init_15 rfl ?_
  refine XA.new (xnw_X10 xcl_X1_9) dX1_init_16 (Nat.le_of_ble_eq_true rfl) (Nat.le_of_ble_eq_true rfl) (fun v9 hq9 => ?_)
  refine XA.dup dX1_init_19 rfl ?_
  refine XA.callI (As := []) (n_X10 (d := d - 1) xup_s) xs_X1_11 dX1_init_20 rfl (by omega) (by decide) rfl (Nat.le_of_ble_eq_true rfl) (Nat.le_of_ble_eq_true rfl) (Nat.le_of_ble_eq_true rfl) (fun E h9 hx => hx.elim) (fun v h9 hq => ?_)
  obtain ⟨rfl, v10, v11, v12, v13, v14, v15, v16, hN⟩ := hq
  have hC := cn_obj hC hq9 hN
  refine XN.put hC (xp_X1_18 _) dX1_init_23 (Nat.le_of_ble_eq_true rfl) (fun h9 hC => ?_)
  have hC : Cn h h9 b (xO 1 [.ref v1, .ref v9, .null, .null, .null, .null, .null, .int 0, .int 0, .int 0, .int 0, .int 0]) _ := hC
  refine XA.aload_n dX1_init_26 rfl ?_
  refine XA.new (xnw_X10 xcl_X1_9) dX1_init_27 (Nat.le_of_ble_eq_true rfl) (Nat.le_of_ble_eq_true rfl) (fun v17 hq17 => ?_)
  refine XA.dup dX1_init_30 rfl ?_
  refine XA.callI (As := []) (n_X10 (d := d - 1) xup_s) xs_X1_11 dX1_init_31 rfl (by omega) (by decide) rfl (Nat.le_of_ble_eq_true rfl) (Nat.le_of_ble_eq_true rfl) (Nat.le_of_ble_eq_true rfl) (fun E h9 hx => hx.elim) (fun v h9 hq => ?_)
  obtain ⟨rfl, v18, v19, v20, v21, v22, v23, v24, hN⟩ := hq
  have hC := cn_obj hC hq17 hN
  refine XN.put hC (xp_X1_21 _) dX1_init_34 (Nat.le_of_ble_eq_true rfl) (fun h9 hC => ?_)
  have hC : Cn h h9 b (xO 1 [.ref v1, .ref v9, .ref v17, .null, .null, .null, .null, .int 0, .int 0, .int 0, .int 0, .int 0]) _ := hC
  refine XA.aload_n dX1_init_37 rfl ?_
  refine XA.new (xnw_X10 xcl_X1_9) dX1_init_38 (Nat.le_of_ble_eq_true rfl) (Nat.le_of_ble_eq_true rfl) (fun v25 hq25 => ?_)
  refine XA.dup dX1_init_41 rfl ?_
  refine XA.callI (As := []) (n_X10 (d := d - 1) xup_s) xs_X1_11 dX1_init_42 rfl (by omega) (by decide) rfl (Nat.le_of_ble_eq_true rfl) (Nat.le_of_ble_eq_true rfl) (Nat.le_of_ble_eq_true rfl) (fun E h9 hx => hx.elim) (fun v h9 hq => ?_)
  obtain ⟨rfl, v26, v27, v28, v29, v30, v31, v32, hN⟩ := hq
  have hC := cn_obj hC hq25 hN
  refine XN.put hC (xp_X1_24 _) dX1_init_45 (Nat.le_of_ble_eq_true rfl) (fun h9 hC => ?_)
  have hC : Cn h h9 b (xO 1 [.ref v1, .ref v9, .ref v17, .ref v25, .null, .null, .null, .int 0, .int 0, .int 0, .int 0, .int 0]) _ := hC
  refine XA.aload_n dX1_init_48 rfl ?_
  refine XA.new (xnw_X7 xcl_X1_27) dX1_init_49 (Nat.le_of_ble_eq_true rfl) (Nat.le_of_ble_eq_true rfl) (fun v33 hq33 => ?_)
  refine XA.dup dX1_init_52 rfl ?_
  refine XA.callI (As := []) (n_X7 (d := d - 1) (by omega) xup_s) xs_X1_29 dX1_init_53 rfl (by omega) (by decide) rfl (Nat.le_of_ble_eq_true rfl) (Nat.le_of_ble_eq_true rfl) (Nat.le_of_ble_eq_true rfl) (fun E h9 hx => hx.elim) (fun v h9 hq => ?_)
  obtain ⟨rfl, v34, v35, v36, v37, v38, hN⟩ := hq
  have hC := cn_obj hC hq33 hN
  refine XN.put hC (xp_X1_30 _) dX1_init_56 (Nat.le_of_ble_eq_true rfl) (fun h9 hC => ?_)
  have hC : Cn h h9 b (xO 1 [.ref v1, .ref v9, .ref v17, .ref v25, .ref v33, .null, .null, .int 0, .int 0, .int 0, .int 0, .int 0]) _ := hC
  refine XA.aload_n dX1_init_59 rfl ?_
  refine XA.new (xnw_X9 xcl_X1_34) dX1_init_60 (Nat.le_of_ble_eq_true rfl) (Nat.le_of_ble_eq_true rfl) (fun v39 hq39 => ?_)
  refine XA.dup dX1_init_63 rfl ?_
  refine XA.sipush (v := J ((400 : Nat) : Int)) dX1_init_64 (by decide) ?_
  refine XA.callI (As := [.int (J ((400 : Nat) : Int))]) (n_X9 (N := 400) (d := d - 1) (by decide) xup_s) xs_X1_36 dX1_init_67 rfl (by omega) (by decide) rfl (Nat.le_of_ble_eq_true rfl) (Nat.le_of_ble_eq_true rfl) (Nat.le_of_ble_eq_true rfl) (fun E h9 hx => hx.elim) (fun v h9 hq => ?_)
  obtain ⟨rfl, v40, hN⟩ := hq
  have hC := cn_obj hC hq39 hN
  refine XN.put hC (xp_X1_39 _) dX1_init_70 (Nat.le_of_ble_eq_true rfl) (fun h9 hC => ?_)
  have hC : Cn h h9 b (xO 1 [.ref v1, .ref v9, .ref v17, .ref v25, .ref v33, .ref v39, .null, .int 0, .int 0, .int 0, .int 0, .int 0]) _ := hC
  refine XA.aload_n dX1_init_73 rfl ?_
  refine XA.new (xnw_X9 xcl_X1_34) dX1_init_74 (Nat.le_of_ble_eq_true rfl) (Nat.le_of_ble_eq_true rfl) (fun v41 hq41 => ?_)
  refine XA.dup dX1_init_77 rfl ?_
  refine XA.sipush (v := J ((400 : Nat) : Int)) dX1_init_78 (by decide) ?_
  refine XA.callI (As := [.int (J ((400 : Nat) : Int))]) (n_X9 (N := 400) (d := d - 1) (by decide) xup_s) xs_X1_36 dX1_init_81 rfl (by omega) (by decide) rfl (Nat.le_of_ble_eq_true rfl) (Nat.le_of_ble_eq_true rfl) (Nat.le_of_ble_eq_true rfl) (fun E h9 hx => hx.elim) (fun v h9 hq => ?_)
  obtain ⟨rfl, v42, hN⟩ := hq
  have hC := cn_obj hC hq41 hN
  refine XN.put hC (xp_X1_43 _) dX1_init_84 (Nat.le_of_ble_eq_true rfl) (fun h9 hC => ?_)
  have hC : Cn h h9 b (xO 1 [.ref v1, .ref v9, .ref v17, .ref v25, .ref v33, .ref v39, .ref v41, .int 0, .int 0, .int 0, .int 0, .int 0]) _ := hC
  exact XA.vret rfl dX1_init_87 (Nat.le_of_ble_eq_true rfl) (Nat.le_of_ble_eq_true rfl) ⟨rfl, v1, v2, v3, v4, v5, v6, v7, v8, v9, v10, v11, v12, v13, v14, v15, v16, v17, v18, v19, v20, v21, v22, v23, v24, v25, v26, v27, v28, v29, v30, v31, v32, v33, v34, v35, v36, v37, v38, v39, v40, v41, v42, hC⟩
set_option maxHeartbeats 4000000 in
set_option maxRecDepth 20000 in
theorem n_X4 {l : Launch} {Z : XZ} {d b : Nat} {h : XH} (hd : 3 ≤ d) (hb : h b = some (xO 4 [.null, .null, .null, .null, .null, .null, .null, .int 0, .int 0])) : XMet l Z yX4_init cX4_init 1 none [] d 13 66313 [.ref b] h (fun v h' => v = none ∧ ∃ v1 v2 v3 v4 v5 v6 v7 v8 v9 v10 v11 v12 v13, Cn h h' b (xO 4 [.ref v1, .ref v9, .ref v11, .ref v13, .ref v1, .ref v1, .ref v1, .int 0, .int 0]) [(v1, xO 9 [.ref v2, .ref v3, .ref v4, .ref v5, .ref v6, .ref v7, .ref v8, .int 0, .int 0]), (v2, xI 0 100 xz), (v3, xI 0 100 xz), (v4, xI 0 100 xz), (v5, xI 0 100 xz), (v6, xI 2 4000 xz), (v7, xI 0 100 xz), (v8, xI 2 1200 xz), (v9, xO 8 [.ref v10, .int 0]), (v10, xI 2 400 xz), (v11, xO 8 [.ref v12, .int 0]), (v12, xI 2 60000 xz), (v13, xI 0 200 xz)]) (fun _ _ => False) := by
  refine XMet.of (by decide) (Nat.le_of_ble_eq_true rfl) ?_
  have hC := cn_start hb
  refine XA.aload_n dX4_init_0 rfl ?_
  refine XA.objInit ⟨xs_X4_3, xobj.1, xobj.2⟩ dX4_init_1 (Nat.le_of_ble_eq_true rfl) ?_
  refine XA.aload_n dX4_init_4 rfl ?_
  refine XA.new (xnw_X10 xcl_X4_9) dX4_init_5 (Nat.le_of_ble_eq_true rfl) (Nat.le_of_ble_eq_true rfl) (fun v1 hq1 => ?_)
  refine XA.dup dX4_init_8 rfl ?_
  refine XA.callI (As := []) (n_X10 (d := d - 1) xup_s) xs_X4_11 dX4_init_9 rfl (by omega) (by decide) rfl (Nat.le_of_ble_eq_true rfl) (Nat.le_of_ble_eq_true rfl) (Nat.le_of_ble_eq_true rfl) (fun E h9 hx => hx.elim) (fun v h9 hq => ?_)
  obtain ⟨rfl, v2, v3, v4, v5, v6, v7, v8, hN⟩ := hq
  have hC := cn_obj hC hq1 hN
  refine XN.put hC (xp_X4_12 _) dX4_init_12 (Nat.le_of_ble_eq_true rfl) (fun h9 hC => ?_)
  have hC : Cn h h9 b (xO 4 [.ref v1, .null, .null, .null, .null, .null, .null, .int 0, .int 0]) _ := hC
  refine XA.aload_n dX4_init_15 rfl ?_
  refine XA.new (xnw_X9 xcl_X4_18) dX4_init_16 (Nat.le_of_ble_eq_true rfl) (Nat.le_of_ble_eq_true rfl) (fun v9 hq9 => ?_)
  refine XA.dup dX4_init_19 rfl ?_
  refine XA.sipush (v := J ((400 : Nat) : Int)) dX4_init_20 (by decide) ?_
  refine XA.callI (As := [.int (J ((400 : Nat) : Int))]) (n_X9 (N := 400) (d := d - 1) (by decide) xup_s) xs_X4_20 dX4_init_23 rfl (by omega) (by decide) rfl (Nat.le_of_ble_eq_true rfl) (Nat.le_of_ble_eq_true rfl) (Nat.le_of_ble_eq_true rfl) (fun E h9 hx => hx.elim) (fun v h9 hq => ?_)
  obtain ⟨rfl, v10, hN⟩ := hq
  have hC := cn_obj hC hq9 hN
  refine XN.put hC (xp_X4_23 _) dX4_init_26 (Nat.le_of_ble_eq_true rfl) (fun h9 hC => ?_)
  have hC : Cn h h9 b (xO 4 [.ref v1, .ref v9, .null, .null, .null, .null, .null, .int 0, .int 0]) _ := hC
  refine XA.aload_n dX4_init_29 rfl ?_
  refine XA.new (xnw_X9 xcl_X4_18) dX4_init_30 (Nat.le_of_ble_eq_true rfl) (Nat.le_of_ble_eq_true rfl) (fun v11 hq11 => ?_)
  refine XA.dup dX4_init_33 rfl ?_
  refine XA.ldc (v := J ((60000 : Nat) : Int)) xc_X4_27 dX4_init_34 ?_
  refine XA.callI (As := [.int (J ((60000 : Nat) : Int))]) (n_X9 (N := 60000) (d := d - 1) (by decide) xup_s) xs_X4_20 dX4_init_36 rfl (by omega) (by decide) rfl (Nat.le_of_ble_eq_true rfl) (Nat.le_of_ble_eq_true rfl) (Nat.le_of_ble_eq_true rfl) (fun E h9 hx => hx.elim) (fun v h9 hq => ?_)
  obtain ⟨rfl, v12, hN⟩ := hq
  have hC := cn_obj hC hq11 hN
  refine XN.put hC (xp_X4_28 _) dX4_init_39 (Nat.le_of_ble_eq_true rfl) (fun h9 hC => ?_)
  have hC : Cn h h9 b (xO 4 [.ref v1, .ref v9, .ref v11, .null, .null, .null, .null, .int 0, .int 0]) _ := hC
  refine XA.aload_n dX4_init_42 rfl ?_
  refine XA.sipush (v := J ((200 : Nat) : Int)) dX4_init_43 (by decide) ?_
  refine XN.newI (N := 200) hC xac_int dX4_init_46 (by decide) (by decide) (Nat.le_of_ble_eq_true rfl) (Nat.le_of_ble_eq_true rfl) (Nat.le_of_ble_eq_true rfl) (fun v13 h9 hC => ?_)
  refine XN.put hC (xp_X4_31 _) dX4_init_48 (Nat.le_of_ble_eq_true rfl) (fun h9 hC => ?_)
  have hC : Cn h h9 b (xO 4 [.ref v1, .ref v9, .ref v11, .ref v13, .null, .null, .null, .int 0, .int 0]) _ := hC
  refine XA.aload_n dX4_init_51 rfl ?_
  refine XA.aload_n dX4_init_52 rfl ?_
  refine XA.get xf_X4_12 dX4_init_53 hC.2.1 rfl ?_
  refine XN.put hC (xp_X4_35 _) dX4_init_56 (Nat.le_of_ble_eq_true rfl) (fun h9 hC => ?_)
  have hC : Cn h h9 b (xO 4 [.ref v1, .ref v9, .ref v11, .ref v13, .ref v1, .null, .null, .int 0, .int 0]) _ := hC
  refine XA.aload_n dX4_init_59 rfl ?_
  refine XA.aload_n dX4_init_60 rfl ?_
  refine XA.get xf_X4_12 dX4_init_61 hC.2.1 rfl ?_
  refine XN.put hC (xp_X4_38 _) dX4_init_64 (Nat.le_of_ble_eq_true rfl) (fun h9 hC => ?_)
  have hC : Cn h h9 b (xO 4 [.ref v1, .ref v9, .ref v11, .ref v13, .ref v1, .ref v1, .null, .int 0, .int 0]) _ := hC
  refine XA.aload_n dX4_init_67 rfl ?_
  refine XA.aload_n dX4_init_68 rfl ?_
  refine XA.get xf_X4_12 dX4_init_69 hC.2.1 rfl ?_
  refine XN.put hC (xp_X4_41 _) dX4_init_72 (Nat.le_of_ble_eq_true rfl) (fun h9 hC => ?_)
  have hC : Cn h h9 b (xO 4 [.ref v1, .ref v9, .ref v11, .ref v13, .ref v1, .ref v1, .ref v1, .int 0, .int 0]) _ := hC
  exact XA.vret rfl dX4_init_75 (Nat.le_of_ble_eq_true rfl) (Nat.le_of_ble_eq_true rfl) ⟨rfl, v1, v2, v3, v4, v5, v6, v7, v8, v9, v10, v11, v12, v13, hC⟩
set_option maxHeartbeats 4000000 in
set_option maxRecDepth 20000 in
theorem n_X0 {l : Launch} {Z : XZ} {d b : Nat} {h : XH} (hd : 3 ≤ d) (hb : h b = some (xO 0 [.null, .null, .null, .null, .null, .null, .null, .null, .null, .null, .null, .int 0, .int 0, .int 0, .int 0, .int 0, .int 0])) : XMet l Z yX0_init cX0_init 1 none [] d 18 9803 [.ref b] h (fun v h' => v = none ∧ ∃ v1 v2 v3 v4 v5 v6 v7 v8 v9 v10 v11 v12 v13 v14 v15 v16 v17 v18, Cn h h' b (xO 0 [.ref v1, .ref v9, .ref v11, .ref v13, .ref v14, .ref v15, .ref v16, .ref v17, .ref v18, .ref v1, .ref v1, .int 0, .int 0, .int 0, .int 0, .int 0, .int 0]) [(v1, xO 9 [.ref v2, .ref v3, .ref v4, .ref v5, .ref v6, .ref v7, .ref v8, .int 0, .int 0]), (v2, xI 0 100 xz), (v3, xI 0 100 xz), (v4, xI 0 100 xz), (v5, xI 0 100 xz), (v6, xI 2 4000 xz), (v7, xI 0 100 xz), (v8, xI 2 1200 xz), (v9, xO 8 [.ref v10, .int 0]), (v10, xI 2 40 xz), (v11, xO 8 [.ref v12, .int 0]), (v12, xI 2 24 xz), (v13, xI 0 13 xz), (v14, xI 0 13 xz), (v15, xI 0 1000 xz), (v16, xI 0 1000 xz), (v17, xI 0 1000 xz), (v18, xI 0 1000 xz)]) (fun _ _ => False) := by
  refine XMet.of (by decide) (Nat.le_of_ble_eq_true rfl) ?_
  have hC := cn_start hb
  refine XA.aload_n dX0_init_0 rfl ?_
  refine XA.objInit ⟨xs_X0_3, xobj.1, xobj.2⟩ dX0_init_1 (Nat.le_of_ble_eq_true rfl) ?_
  refine XA.aload_n dX0_init_4 rfl ?_
  refine XA.new (xnw_X10 xcl_X0_9) dX0_init_5 (Nat.le_of_ble_eq_true rfl) (Nat.le_of_ble_eq_true rfl) (fun v1 hq1 => ?_)
  refine XA.dup dX0_init_8 rfl ?_
  refine XA.callI (As := []) (n_X10 (d := d - 1) xup_s) xs_X0_11 dX0_init_9 rfl (by omega) (by decide) rfl (Nat.le_of_ble_eq_true rfl) (Nat.le_of_ble_eq_true rfl) (Nat.le_of_ble_eq_true rfl) (fun E h9 hx => hx.elim) (fun v h9 hq => ?_)
  obtain ⟨rfl, v2, v3, v4, v5, v6, v7, v8, hN⟩ := hq
  have hC := cn_obj hC hq1 hN
  refine XN.put hC (xp_X0_12 _) dX0_init_12 (Nat.le_of_ble_eq_true rfl) (fun h9 hC => ?_)
  have hC : Cn h h9 b (xO 0 [.ref v1, .null, .null, .null, .null, .null, .null, .null, .null, .null, .null, .int 0, .int 0, .int 0, .int 0, .int 0, .int 0]) _ := hC
  refine XA.aload_n dX0_init_15 rfl ?_
  refine XA.new (xnw_X9 xcl_X0_18) dX0_init_16 (Nat.le_of_ble_eq_true rfl) (Nat.le_of_ble_eq_true rfl) (fun v9 hq9 => ?_)
  refine XA.dup dX0_init_19 rfl ?_
  refine XA.bipush (v := J ((40 : Nat) : Int)) dX0_init_20 (by decide) ?_
  refine XA.callI (As := [.int (J ((40 : Nat) : Int))]) (n_X9 (N := 40) (d := d - 1) (by decide) xup_s) xs_X0_20 dX0_init_22 rfl (by omega) (by decide) rfl (Nat.le_of_ble_eq_true rfl) (Nat.le_of_ble_eq_true rfl) (Nat.le_of_ble_eq_true rfl) (fun E h9 hx => hx.elim) (fun v h9 hq => ?_)
  obtain ⟨rfl, v10, hN⟩ := hq
  have hC := cn_obj hC hq9 hN
  refine XN.put hC (xp_X0_23 _) dX0_init_25 (Nat.le_of_ble_eq_true rfl) (fun h9 hC => ?_)
  have hC : Cn h h9 b (xO 0 [.ref v1, .ref v9, .null, .null, .null, .null, .null, .null, .null, .null, .null, .int 0, .int 0, .int 0, .int 0, .int 0, .int 0]) _ := hC
  refine XA.aload_n dX0_init_28 rfl ?_
  refine XA.new (xnw_X9 xcl_X0_18) dX0_init_29 (Nat.le_of_ble_eq_true rfl) (Nat.le_of_ble_eq_true rfl) (fun v11 hq11 => ?_)
  refine XA.dup dX0_init_32 rfl ?_
  refine XA.bipush (v := J ((24 : Nat) : Int)) dX0_init_33 (by decide) ?_
  refine XA.callI (As := [.int (J ((24 : Nat) : Int))]) (n_X9 (N := 24) (d := d - 1) (by decide) xup_s) xs_X0_20 dX0_init_35 rfl (by omega) (by decide) rfl (Nat.le_of_ble_eq_true rfl) (Nat.le_of_ble_eq_true rfl) (Nat.le_of_ble_eq_true rfl) (fun E h9 hx => hx.elim) (fun v h9 hq => ?_)
  obtain ⟨rfl, v12, hN⟩ := hq
  have hC := cn_obj hC hq11 hN
  refine XN.put hC (xp_X0_27 _) dX0_init_38 (Nat.le_of_ble_eq_true rfl) (fun h9 hC => ?_)
  have hC : Cn h h9 b (xO 0 [.ref v1, .ref v9, .ref v11, .null, .null, .null, .null, .null, .null, .null, .null, .int 0, .int 0, .int 0, .int 0, .int 0, .int 0]) _ := hC
  refine XA.aload_n dX0_init_41 rfl ?_
  refine XA.bipush (v := J ((13 : Nat) : Int)) dX0_init_42 (by decide) ?_
  refine XN.newI (N := 13) hC xac_int dX0_init_44 (by decide) (by decide) (Nat.le_of_ble_eq_true rfl) (Nat.le_of_ble_eq_true rfl) (Nat.le_of_ble_eq_true rfl) (fun v13 h9 hC => ?_)
  refine XN.put hC (xp_X0_30 _) dX0_init_46 (Nat.le_of_ble_eq_true rfl) (fun h9 hC => ?_)
  have hC : Cn h h9 b (xO 0 [.ref v1, .ref v9, .ref v11, .ref v13, .null, .null, .null, .null, .null, .null, .null, .int 0, .int 0, .int 0, .int 0, .int 0, .int 0]) _ := hC
  refine XA.aload_n dX0_init_49 rfl ?_
  refine XA.bipush (v := J ((13 : Nat) : Int)) dX0_init_50 (by decide) ?_
  refine XN.newI (N := 13) hC xac_int dX0_init_52 (by decide) (by decide) (Nat.le_of_ble_eq_true rfl) (Nat.le_of_ble_eq_true rfl) (Nat.le_of_ble_eq_true rfl) (fun v14 h9 hC => ?_)
  refine XN.put hC (xp_X0_34 _) dX0_init_54 (Nat.le_of_ble_eq_true rfl) (fun h9 hC => ?_)
  have hC : Cn h h9 b (xO 0 [.ref v1, .ref v9, .ref v11, .ref v13, .ref v14, .null, .null, .null, .null, .null, .null, .int 0, .int 0, .int 0, .int 0, .int 0, .int 0]) _ := hC
  refine XA.aload_n dX0_init_57 rfl ?_
  refine XA.sipush (v := J ((1000 : Nat) : Int)) dX0_init_58 (by decide) ?_
  refine XN.newI (N := 1000) hC xac_int dX0_init_61 (by decide) (by decide) (Nat.le_of_ble_eq_true rfl) (Nat.le_of_ble_eq_true rfl) (Nat.le_of_ble_eq_true rfl) (fun v15 h9 hC => ?_)
  refine XN.put hC (xp_X0_37 _) dX0_init_63 (Nat.le_of_ble_eq_true rfl) (fun h9 hC => ?_)
  have hC : Cn h h9 b (xO 0 [.ref v1, .ref v9, .ref v11, .ref v13, .ref v14, .ref v15, .null, .null, .null, .null, .null, .int 0, .int 0, .int 0, .int 0, .int 0, .int 0]) _ := hC
  refine XA.aload_n dX0_init_66 rfl ?_
  refine XA.sipush (v := J ((1000 : Nat) : Int)) dX0_init_67 (by decide) ?_
  refine XN.newI (N := 1000) hC xac_int dX0_init_70 (by decide) (by decide) (Nat.le_of_ble_eq_true rfl) (Nat.le_of_ble_eq_true rfl) (Nat.le_of_ble_eq_true rfl) (fun v16 h9 hC => ?_)
  refine XN.put hC (xp_X0_40 _) dX0_init_72 (Nat.le_of_ble_eq_true rfl) (fun h9 hC => ?_)
  have hC : Cn h h9 b (xO 0 [.ref v1, .ref v9, .ref v11, .ref v13, .ref v14, .ref v15, .ref v16, .null, .null, .null, .null, .int 0, .int 0, .int 0, .int 0, .int 0, .int 0]) _ := hC
  refine XA.aload_n dX0_init_75 rfl ?_
  refine XA.sipush (v := J ((1000 : Nat) : Int)) dX0_init_76 (by decide) ?_
  refine XN.newI (N := 1000) hC xac_int dX0_init_79 (by decide) (by decide) (Nat.le_of_ble_eq_true rfl) (Nat.le_of_ble_eq_true rfl) (Nat.le_of_ble_eq_true rfl) (fun v17 h9 hC => ?_)
  refine XN.put hC (xp_X0_43 _) dX0_init_81 (Nat.le_of_ble_eq_true rfl) (fun h9 hC => ?_)
  have hC : Cn h h9 b (xO 0 [.ref v1, .ref v9, .ref v11, .ref v13, .ref v14, .ref v15, .ref v16, .ref v17, .null, .null, .null, .int 0, .int 0, .int 0, .int 0, .int 0, .int 0]) _ := hC
  refine XA.aload_n dX0_init_84 rfl ?_
  refine XA.sipush (v := J ((1000 : Nat) : Int)) dX0_init_85 (by decide) ?_
  refine XN.newI (N := 1000) hC xac_int dX0_init_88 (by decide) (by decide) (Nat.le_of_ble_eq_true rfl) (Nat.le_of_ble_eq_true rfl) (Nat.le_of_ble_eq_true rfl) (fun v18 h9 hC => ?_)
  refine XN.put hC (xp_X0_46 _) dX0_init_90 (Nat.le_of_ble_eq_true rfl) (fun h9 hC => ?_)
  have hC : Cn h h9 b (xO 0 [.ref v1, .ref v9, .ref v11, .ref v13, .ref v14, .ref v15, .ref v16, .ref v17, .ref v18, .null, .null, .int 0, .int 0, .int 0, .int 0, .int 0, .int 0]) _ := hC
  refine XA.aload_n dX0_init_93 rfl ?_
  refine XA.aload_n dX0_init_94 rfl ?_
  refine XA.get xf_X0_12 dX0_init_95 hC.2.1 rfl ?_
  refine XN.put hC (xp_X0_49 _) dX0_init_98 (Nat.le_of_ble_eq_true rfl) (fun h9 hC => ?_)
  have hC : Cn h h9 b (xO 0 [.ref v1, .ref v9, .ref v11, .ref v13, .ref v14, .ref v15, .ref v16, .ref v17, .ref v18, .ref v1, .null, .int 0, .int 0, .int 0, .int 0, .int 0, .int 0]) _ := hC
  refine XA.aload_n dX0_init_101 rfl ?_
  refine XA.aload_n dX0_init_102 rfl ?_
  refine XA.get xf_X0_12 dX0_init_103 hC.2.1 rfl ?_
  refine XN.put hC (xp_X0_52 _) dX0_init_106 (Nat.le_of_ble_eq_true rfl) (fun h9 hC => ?_)
  have hC : Cn h h9 b (xO 0 [.ref v1, .ref v9, .ref v11, .ref v13, .ref v14, .ref v15, .ref v16, .ref v17, .ref v18, .ref v1, .ref v1, .int 0, .int 0, .int 0, .int 0, .int 0, .int 0]) _ := hC
  exact XA.vret rfl dX0_init_109 (Nat.le_of_ble_eq_true rfl) (Nat.le_of_ble_eq_true rfl) ⟨rfl, v1, v2, v3, v4, v5, v6, v7, v8, v9, v10, v11, v12, v13, v14, v15, v16, v17, v18, hC⟩
set_option maxHeartbeats 4000000 in
set_option maxRecDepth 20000 in
theorem n_X3 {l : Launch} {Z : XZ} {d b : Nat} {h : XH} (hd : 3 ≤ d) (hb : h b = some (xO 3 [.null, .null, .null, .null, .int 0])) : XMet l Z yX3_init cX3_init 1 none [] d 20 11458 [.ref b] h (fun v h' => v = none ∧ ∃ v1 v2 v3 v4 v5 v6 v7 v8 v9 v10 v11 v12 v13 v14 v15 v16 v17 v18 v19 v20, Cn h h' b (xO 3 [.ref v1, .ref v9, .ref v17, .ref v19, .int 0]) [(v1, xO 9 [.ref v2, .ref v3, .ref v4, .ref v5, .ref v6, .ref v7, .ref v8, .int 0, .int 0]), (v2, xI 0 100 xz), (v3, xI 0 100 xz), (v4, xI 0 100 xz), (v5, xI 0 100 xz), (v6, xI 2 4000 xz), (v7, xI 0 100 xz), (v8, xI 2 1200 xz), (v9, xO 9 [.ref v10, .ref v11, .ref v12, .ref v13, .ref v14, .ref v15, .ref v16, .int 0, .int 0]), (v10, xI 0 100 xz), (v11, xI 0 100 xz), (v12, xI 0 100 xz), (v13, xI 0 100 xz), (v14, xI 2 4000 xz), (v15, xI 0 100 xz), (v16, xI 2 1200 xz), (v17, xO 8 [.ref v18, .int 0]), (v18, xI 2 24 xz), (v19, xO 8 [.ref v20, .int 0]), (v20, xI 2 12 xz)]) (fun _ _ => False) := by
  refine XMet.of (by decide) (Nat.le_of_ble_eq_true rfl) ?_
  have hC := cn_start hb
  refine XA.aload_n dX3_init_0 rfl ?_
  refine XA.objInit ⟨xs_X3_3, xobj.1, xobj.2⟩ dX3_init_1 (Nat.le_of_ble_eq_true rfl) ?_
  refine XA.aload_n dX3_init_4 rfl ?_
  refine XA.new (xnw_X10 xcl_X3_9) dX3_init_5 (Nat.le_of_ble_eq_true rfl) (Nat.le_of_ble_eq_true rfl) (fun v1 hq1 => ?_)
  refine XA.dup dX3_init_8 rfl ?_
  refine XA.callI (As := []) (n_X10 (d := d - 1) xup_s) xs_X3_11 dX3_init_9 rfl (by omega) (by decide) rfl (Nat.le_of_ble_eq_true rfl) (Nat.le_of_ble_eq_true rfl) (Nat.le_of_ble_eq_true rfl) (fun E h9 hx => hx.elim) (fun v h9 hq => ?_)
  obtain ⟨rfl, v2, v3, v4, v5, v6, v7, v8, hN⟩ := hq
  have hC := cn_obj hC hq1 hN
  refine XN.put hC (xp_X3_12 _) dX3_init_12 (Nat.le_of_ble_eq_true rfl) (fun h9 hC => ?_)
  have hC : Cn h h9 b (xO 3 [.ref v1, .null, .null, .null, .int 0]) _ := hC
  refine XA.aload_n dX3_init_15 rfl ?_
  refine XA.new (xnw_X10 xcl_X3_9) dX3_init_16 (Nat.le_of_ble_eq_true rfl) (Nat.le_of_ble_eq_true rfl) (fun v9 hq9 => ?_)
  refine XA.dup dX3_init_19 rfl ?_
  refine XA.callI (As := []) (n_X10 (d := d - 1) xup_s) xs_X3_11 dX3_init_20 rfl (by omega) (by decide) rfl (Nat.le_of_ble_eq_true rfl) (Nat.le_of_ble_eq_true rfl) (Nat.le_of_ble_eq_true rfl) (fun E h9 hx => hx.elim) (fun v h9 hq => ?_)
  obtain ⟨rfl, v10, v11, v12, v13, v14, v15, v16, hN⟩ := hq
  have hC := cn_obj hC hq9 hN
  refine XN.put hC (xp_X3_18 _) dX3_init_23 (Nat.le_of_ble_eq_true rfl) (fun h9 hC => ?_)
  have hC : Cn h h9 b (xO 3 [.ref v1, .ref v9, .null, .null, .int 0]) _ := hC
  refine XA.aload_n dX3_init_26 rfl ?_
  refine XA.new (xnw_X9 xcl_X3_21) dX3_init_27 (Nat.le_of_ble_eq_true rfl) (Nat.le_of_ble_eq_true rfl) (fun v17 hq17 => ?_)
  refine XA.dup dX3_init_30 rfl ?_
  refine XA.bipush (v := J ((24 : Nat) : Int)) dX3_init_31 (by decide) ?_
  refine XA.callI (As := [.int (J ((24 : Nat) : Int))]) (n_X9 (N := 24) (d := d - 1) (by decide) xup_s) xs_X3_23 dX3_init_33 rfl (by omega) (by decide) rfl (Nat.le_of_ble_eq_true rfl) (Nat.le_of_ble_eq_true rfl) (Nat.le_of_ble_eq_true rfl) (fun E h9 hx => hx.elim) (fun v h9 hq => ?_)
  obtain ⟨rfl, v18, hN⟩ := hq
  have hC := cn_obj hC hq17 hN
  refine XN.put hC (xp_X3_26 _) dX3_init_36 (Nat.le_of_ble_eq_true rfl) (fun h9 hC => ?_)
  have hC : Cn h h9 b (xO 3 [.ref v1, .ref v9, .ref v17, .null, .int 0]) _ := hC
  refine XA.aload_n dX3_init_39 rfl ?_
  refine XA.new (xnw_X9 xcl_X3_21) dX3_init_40 (Nat.le_of_ble_eq_true rfl) (Nat.le_of_ble_eq_true rfl) (fun v19 hq19 => ?_)
  refine XA.dup dX3_init_43 rfl ?_
  refine XA.bipush (v := J ((12 : Nat) : Int)) dX3_init_44 (by decide) ?_
  refine XA.callI (As := [.int (J ((12 : Nat) : Int))]) (n_X9 (N := 12) (d := d - 1) (by decide) xup_s) xs_X3_23 dX3_init_46 rfl (by omega) (by decide) rfl (Nat.le_of_ble_eq_true rfl) (Nat.le_of_ble_eq_true rfl) (Nat.le_of_ble_eq_true rfl) (fun E h9 hx => hx.elim) (fun v h9 hq => ?_)
  obtain ⟨rfl, v20, hN⟩ := hq
  have hC := cn_obj hC hq19 hN
  refine XN.put hC (xp_X3_30 _) dX3_init_49 (Nat.le_of_ble_eq_true rfl) (fun h9 hC => ?_)
  have hC : Cn h h9 b (xO 3 [.ref v1, .ref v9, .ref v17, .ref v19, .int 0]) _ := hC
  exact XA.vret rfl dX3_init_52 (Nat.le_of_ble_eq_true rfl) (Nat.le_of_ble_eq_true rfl) ⟨rfl, v1, v2, v3, v4, v5, v6, v7, v8, v9, v10, v11, v12, v13, v14, v15, v16, v17, v18, v19, v20, hC⟩
