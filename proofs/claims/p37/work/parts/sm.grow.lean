/-! SCHEMAS: how much asking comes to -/
section GRO
variable {Sc T : List ND}
theorem ask_ext {most : Int} {f : Nat} {refs : List (Int × Int)} {sub nd : Int} {K K1 : RK} (h : askR Sc T most f refs sub nd K = some K1) : ∃ es, K1.2 = K.2 ++ es := by
  have a := ask_ak (Sc := Sc) (T := T) (most := most) f refs sub nd true [] K.2 K.1 (Or.inl rfl)
  have e : (K.1, K.2) = K := rfl
  rw [e, h] at a
  obtain ⟨es, q, _⟩ := a
  exact ⟨es, q⟩
/-- a bound that isn't reached makes no difference -/
theorem lq_mo {g1 g2 : Int → Int → RK → Option RK} {cut : Bool} (hg : ∀ sub nd K K1, g1 sub nd K = some K1 → g2 sub nd K = some K1) : ∀ (L : List (Int × Int)) (a : Int) (K : RK) (r : Int × RK), lqR g1 cut L a K = some r → lqR g2 cut L a K = some r
  | [], a, K, r, h => h
  | (sub, nd) :: L, a, K, r, h => by
    have eR : ∀ g : Int → Int → RK → Option RK, lqR g cut ((sub, nd) :: L) a K = if sub = -1 then lqR g cut L a K else match g sub nd K with
      | none => none
      | some K1 => if cut = true then lqR g cut L (a + if K1.2.length = K.2.length then 1 else 0) (K1.1, K.2) else lqR g cut L a K1 := fun _ => rfl
    rw [eR] at h ⊢
    by_cases c : sub = -1
    · rw [if_pos c] at h ⊢
      exact lq_mo hg L a K r h
    · rw [if_neg c] at h ⊢
      cases e1 : g1 sub nd K with
      | none => rw [e1] at h; cases h
      | some K1 =>
        rw [e1] at h
        rw [hg sub nd K K1 e1]
        cases cut with
        | true => exact lq_mo hg L _ _ r h
        | false => exact lq_mo hg L _ _ r h
theorem wds_mo {g1 g2 : List (Int × Int) → Int → Int → RK → Option RK} (hg : ∀ refs sub nd K K1, g1 refs sub nd K = some K1 → g2 refs sub nd K = some K1) {refs : List (Int × Int)} {by_ node : Nat} : ∀ (m : Nat) (K K1 : RK), wdsR Sc T g1 refs by_ node m K = some K1 → wdsR Sc T g2 refs by_ node m K = some K1
  | 0, K, K1, h => h
  | m + 1, K, K1, h => by
    have eR : ∀ g, wdsR Sc T g refs by_ node (m + 1) K = match wdR Sc T g refs by_ node (15 - m) K with
      | none => none
      | some K1 => wdsR Sc T g refs by_ node m K1 := fun _ => rfl
    rw [eR] at h ⊢
    have ew : ∀ K2, wdR Sc T g1 refs by_ node (15 - m) K = some K2 → wdR Sc T g2 refs by_ node (15 - m) K = some K2 := by
      intro K2 h2
      unfold wdR at h2 ⊢
      split at h2
      · rename_i c
        rw [if_pos c]
        exact h2
      · rename_i c
        rw [if_neg c]
        split at h2
        · rename_i c2
          rw [if_pos c2]
          exact h2
        · rename_i c2
          rw [if_neg c2]
          generalize (15 - m) = w at *
          cases e1 : lqR (fun sub nd K => g1 (if w = 15 then refs ++ [(sub, (node : Int))] else refs) sub nd K) (decide (12 ≤ w ∧ w ≤ 14)) (qsL Sc T refs w by_ (vLk Sc (by_ : Int) (sx (30 + w))).toNat node) 0 K with
          | none => rw [e1] at h2; cases h2
          | some r =>
            rw [e1] at h2
            have := lq_mo (g2 := fun sub nd K => g2 (if w = 15 then refs ++ [(sub, (node : Int))] else refs) sub nd K) (fun sub nd K K1 hh => hg _ sub nd K K1 hh) _ _ _ _ e1
            rw [this]
            exact h2
    cases e1 : wdR Sc T g1 refs by_ node (15 - m) K with
    | none => rw [e1] at h; cases h
    | some K2 =>
      rw [e1] at h
      rw [ew K2 e1]
      exact wds_mo hg m K2 K1 h
theorem ask_mo {m1 m2 : Int} (hm : m1 ≤ m2) : ∀ (f : Nat) (refs : List (Int × Int)) (sub nd : Int) (K K1 : RK), askR Sc T m1 f refs sub nd K = some K1 → askR Sc T m2 f refs sub nd K = some K1
  | 0, _, _, _, _, _, h => by cases h
  | f + 1, refs, sub, nd, K, K1, h => by
    have eR : ∀ most, askR Sc T most (f + 1) refs sub nd K = if most < K.1 + 1 then none else if kdI Sc sub = 5 then wdsR Sc T (askR Sc T most f) refs sub.toNat nd.toNat 15 (K.1 + 1, K.2) else if kdI Sc sub = 1 ∧ np Sc sub.toNat = 1 then some (K.1 + 1, K.2) else some (K.1 + 1, K.2 ++ [(nd, 0)]) := fun _ => rfl
    rw [eR] at h ⊢
    by_cases c1 : m1 < K.1 + 1
    · rw [if_pos c1] at h; cases h
    · rw [if_neg c1] at h
      rw [if_neg (show ¬ m2 < K.1 + 1 by omega)]
      by_cases c2 : kdI Sc sub = 5
      · rw [if_pos c2] at h ⊢
        exact wds_mo (fun refs sub nd K K1 hh => ask_mo hm f refs sub nd K K1 hh) 15 _ _ h
      · rw [if_neg c2] at h ⊢
        exact h
end GRO
