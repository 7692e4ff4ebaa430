/-! THE CLASS: a VALUE comes with a KEY; what is a TABLE by COLUMNS -/
section MTB
variable {S S0 : GS} {c c2 d : Nat} {r : Option (List ND)} {U : List ND}
theorem mt_brings {y : Nat} {j : Int} {k : Nat → GS → Option (Int × GS)} {Q : Int → GS → Prop} (hc : gT c) (hc2 : gT c2) (hne : c2 ≠ c) (hd : 2 ≤ d) (hv : TO c2 (U, false) S0) (hn : c2 + 8 ≤ c) (hU : WF U) (hy : y < U.length) (hj : inr j) (hk : (kI U j).length ≤ 12) (h : MdT c r S0 S) (nx : ∀ S1, MdT c (apM r (kyT (sg U y) (kI U j))) S0 S1 → Ev (fun n => k n S1) Q) : Ev (fun n => gc (f_X10_append n (d - 1) 0 S [((c : Nat) : Int), ((c2 : Nat) : Int), (y : Int)]) fun x25 S_26 => gc (f_X10_setKeyLike n (d - 1) 0 S_26 [((c : Nat) : Int), x25, ((c2 : Nat) : Int), j]) fun _ S_29 => k n S_29) Q := by
  have mt := mt_ty h
  have tS : TO c2 (U, false) S := to_fr hv mt.1 (fun k h1 h2 => by unfold trM; omega)
  have lU : U.length ≤ 100 := tv_l hv.1
  have zU : PZ U := pz_l (nr_pzl hv.1.2.2.2)
  have wy := hU.1 y hy
  have zy := zU y
  have sz : szI U (y : Int) = (nz U y : Int) := szI_c hy
  have stt : ∀ (W : TW) (i : Int), W.2 = true → (stK W i (kI U j)).2 = true := by
    intro W i hw
    cases e : (stK W i (kI U j)).2 with
    | true => rfl
    | false => have := (stK_f e).1; rw [hw] at this; cases this
  have ls : (seg U y (nz U y)).length = nz U y := seg_len wy
  have eg : seg U y (nz U y) = sg U y := rfl
  have step : ∀ (W : TW), TY c S0 W S → (inr (apA W U false (y : Int))) → (∀ S2, TY c S0 (stK (apW W U false (y : Int)) (apA W U false (y : Int)) (kI U j)) S2 → MdT c (apM r (kyT (sg U y) (kI U j))) S0 S2) → Ev (fun n => gc (f_X10_append n (d - 1) 0 S [((c : Nat) : Int), ((c2 : Nat) : Int), (y : Int)]) fun x25 S_26 => gc (f_X10_setKeyLike n (d - 1) 0 S_26 [((c : Nat) : Int), x25, ((c2 : Nat) : Int), j]) fun _ S_29 => k n S_29) Q := by
    intro W hW hx hm
    refine ev_gc (ty_append (U := U) (o := false) (d := d - 1) (f := (y : Int)) hc hc2 hne (by omega) tS.1 tS.2 (by constructor <;> omega) (Or.inl (by omega)) hW) (fun x S1 q1 => ?_)
    obtain ⟨rfl, q1⟩ := q1
    refine ev_gc (ty_setKeyLike (d := d - 1) (U := U) (i := apA W U false (y : Int)) (j := j) hc hc2 hne (by omega) hv.1 hx hj q1) (fun _ S2 q2 => ?_)
    exact nx S2 (hm S2 q2)
  have ir : ∀ W : TW, W.1.length ≤ 100 → inr (apA W U false (y : Int)) := fun W hW => by unfold apA; split <;> constructor <;> omega
  cases r with
  | none =>
    obtain ⟨W, w1, w2⟩ := h
    refine step W w2 (ir _ (tv_l w2.1)) (fun S2 q => ⟨_, stt _ _ ?_, q⟩)
    unfold apW
    split
    · exact w1
    · rfl
  | some V =>
    have hV : TY c S0 (V, false) S := h
    refine step (V, false) hV (ir _ (tv_l hV.1)) (fun S2 q => ?_)
    have l1 : (kyT (sg U y) (kI U j)).length = nz U y := by rw [ky_len (by rw [← eg, ls]; omega), ← eg, ls]
    show MdT c (if V.length + (kyT (sg U y) (kI U j)).length ≤ 100 then some (V ++ kyT (sg U y) (kI U j)) else none) S0 S2
    rw [l1]
    unfold apW apA at q
    rw [sz, Int.toNat_natCast, Int.toNat_natCast] at q
    by_cases cc : V.length + nz U y ≤ 100
    · rw [if_pos ⟨rfl, by omega, by show (V.length : Int) + _ ≤ 100; omega⟩, if_pos ⟨rfl, by omega, by show (V.length : Int) + _ ≤ 100; omega⟩] at q
      rw [if_pos cc]
      have q' : TY c S0 (stK (V ++ sg U y, false) ((V.length : Nat) : Int) (kI U j)) S2 := q
      rw [stK_ok (by rw [List.length_append, ← eg, ls]; omega) hk] at q'
      have e2 : (V ++ sg U y, false).1.set V.length (wQ ((V ++ sg U y, false).1.getD V.length nd0) (kI U j)) = V ++ kyT (sg U y) (kI U j) := by
        show (V ++ sg U y).set V.length (wQ ((V ++ sg U y).getD V.length nd0) (kI U j)) = _
        have e3 : (V ++ sg U y).getD V.length nd0 = (sg U y).getD 0 nd0 := by
          rw [List.getD_eq_getElem?_getD, List.getElem?_append_right (Nat.le_refl _), Nat.sub_self, List.getD_eq_getElem?_getD]
        rw [e3, List.set_append_right _ _ (Nat.le_refl _), Nat.sub_self, ky_eq (by rw [← eg, ls]; omega)]
      rw [e2] at q'
      exact q'
    · rw [if_neg (fun z => cc (by have : (V.length : Int) + _ ≤ 100 := z.2.2; omega))] at q
      rw [if_neg cc]
      exact ⟨_, stt _ _ rfl, q⟩
end MTB
