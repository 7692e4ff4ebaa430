/-! SCHEMAS: what asking comes to, of the reference; as of the class -/
abbrev RK : Type := Int × List (Int × Int)
def ndP (Sc T : List ND) (node c : Nat) : Bool := decide (nk T node = 5 ∧ vLk T (node : Int) (tI Sc (c : Int)) = -1)
def plR (Sc T : List ND) (w said node : Nat) : List (Int × Int) :=
  if w = 6 then ((kids Sc said).filter (ndP Sc T node)).map (fun _ => ((node : Int), (6 : Int)))
  else if plB Sc T w said node = true then [] else [((node : Int), (w : Int))]
/-- what is asked, one by one; with cut no COMPLAINT of it stays -/
def lqR (g : Int → Int → RK → Option RK) (cut : Bool) : List (Int × Int) → Int → RK → Option (Int × RK)
  | [], a, K => some (a, K)
  | (sub, nd) :: L, a, K => if sub = -1 then lqR g cut L a K else match g sub nd K with
    | none => none
    | some K1 => if cut = true then lqR g cut L (a + if K1.2.length = K.2.length then 1 else 0) (K1.1, K.2) else lqR g cut L a K1
def wdR (Sc T : List ND) (g : List (Int × Int) → Int → Int → RK → Option RK) (refs : List (Int × Int)) (by_ node : Nat) (w : Nat) (K : RK) : Option RK :=
  if vLk Sc (by_ : Int) (sx (30 + w)) = -1 then some K
  else if w ≤ 6 ∨ w = 10 then some (K.1, K.2 ++ plR Sc T w (vLk Sc (by_ : Int) (sx (30 + w))).toNat node)
  else match lqR (fun sub nd K => g (if w = 15 then refs ++ [(sub, (node : Int))] else refs) sub nd K) (decide (12 ≤ w ∧ w ≤ 14)) (qsL Sc T refs w by_ (vLk Sc (by_ : Int) (sx (30 + w))).toNat node) 0 K with
    | none => none
    | some r => some (r.2.1, r.2.2 ++ if hsB w 0 r.1 (decide (w = 15 ∧ tgF Sc refs (vLk Sc (by_ : Int) (sx (30 + w))).toNat node = -2)) = true then [] else [((node : Int), (w : Int))])
def wdsR (Sc T : List ND) (g : List (Int × Int) → Int → Int → RK → Option RK) (refs : List (Int × Int)) (by_ node : Nat) : Nat → RK → Option RK
  | 0, K => some K
  | m + 1, K => match wdR Sc T g refs by_ node (15 - m) K with
    | none => none
    | some K1 => wdsR Sc T g refs by_ node m K1
def askR (Sc T : List ND) (most : Int) : Nat → List (Int × Int) → Int → Int → RK → Option RK
  | 0, _, _, _, _ => none
  | f + 1, refs, by_, node, K =>
    if most < K.1 + 1 then none
    else if kdI Sc by_ = 5 then wdsR Sc T (askR Sc T most f) refs by_.toNat node.toNat 15 (K.1 + 1, K.2)
    else if kdI Sc by_ = 1 ∧ np Sc by_.toNat = 1 then some (K.1 + 1, K.2)
    else some (K.1 + 1, K.2 ++ [(node, 0)])
/-- how the class's answer stands to the reference's -/
def AK (y0 muted : Bool) (kcs cs0 : List (Int × Int)) (o : Option RK) (y : Bool × CK) : Prop := match o with
  | none => y.2.2.1 = true
  | some K1 => ∃ es, K1.2 = cs0 ++ es ∧ if muted = true ∨ (kcs ++ es).length ≤ 1000 then y = (decide (es = []) && y0, K1.1, false, if muted = true then kcs else kcs ++ es) else y.2.2.1 = true
abbrev AG (g : Int → Int → Bool → CK → Bool × CK) (gR : Int → Int → RK → Option RK) : Prop := ∀ sub nd muted kcs cs0 n, (muted = true ∨ kcs.length ≤ 1000) → AK true muted kcs cs0 (gR sub nd (n, cs0)) (g sub nd muted (n, false, kcs))
theorem ckC_too {K : CK} {muted : Bool} {a b : Int} (h : K.2.1 = true) : (ckC K muted a b).2.1 = true := by
  unfold ckC
  split
  · exact h
  · split
    · exact h
    · rfl
theorem ck_ok {muted : Bool} {kcs : List (Int × Int)} {n a b : Int} : if muted = true ∨ (kcs ++ [(a, b)]).length ≤ 1000 then ckC (n, false, kcs) muted a b = (n, false, if muted = true then kcs else kcs ++ [(a, b)]) else (ckC (n, false, kcs) muted a b).2.1 = true := by
  unfold ckC
  cases muted with
  | true =>
    rw [if_pos (Or.inl rfl), if_pos rfl, if_pos rfl]
  | false =>
    rw [if_neg (show ¬ (false = true) by decide), if_neg (show ¬ (false = true) by decide)]
    have l : (kcs ++ [(a, b)]).length = kcs.length + 1 := by rw [List.length_append]; rfl
    by_cases c : kcs.length < 1000
    · rw [if_pos (Or.inr (by omega))]
      exact if_pos c
    · rw [if_neg (fun z => by
        rcases z with z | z
        · cases z
        · omega)]
      have e : (if (n, false, kcs).2.2.length < 1000 then ((n, false, kcs).1, (n, false, kcs).2.1, (n, false, kcs).2.2 ++ [(a, b)]) else ((n, false, kcs).1, true, (n, false, kcs).2.2) : CK) = (n, true, kcs) := if_neg c
      rw [e]
section L1
variable {Sc T : List ND} {g : List (Int × Int) → Int → Int → Bool → CK → Bool × CK} {gR : List (Int × Int) → Int → Int → RK → Option RK} {g1 : Int → Int → Bool → CK → Bool × CK} {gR1 : Int → Int → RK → Option RK}
theorem lpF_too {f : Int → Int → CK → Bool × CK} {K : CK} (h : K.2.1 = true) : ∀ (L : List (Int × Int)) (s a : Int), lpF f L s a K = (s, a, K)
  | [], _, _ => rfl
  | (sub, nd) :: L, s, a => by
    unfold lpF
    rw [if_pos h]
/-- what is asked and counts -/
theorem lp_nc {muted : Bool} (hg : AG g1 gR1) : ∀ (L : List (Int × Int)) (s a a0 n : Int) (kcs cs0 : List (Int × Int)), (muted = true ∨ kcs.length ≤ 1000) → match lqR gR1 false L a0 (n, cs0) with
    | none => (lpF (fun sub nd K => g1 sub nd muted K) L s a (n, false, kcs)).2.2.2.1 = true
    | some r => ∃ es, r.2.2 = cs0 ++ es ∧ if muted = true ∨ (kcs ++ es).length ≤ 1000 then ∃ s1 a1 : Int, lpF (fun sub nd K => g1 sub nd muted K) L s a (n, false, kcs) = (s1, a1, r.2.1, false, if muted = true then kcs else kcs ++ es) ∧ a1 - s1 ≤ a - s ∧ (a1 - s1 = a - s ↔ es = []) else (lpF (fun sub nd K => g1 sub nd muted K) L s a (n, false, kcs)).2.2.2.1 = true
  | [], s, a, a0, n, kcs, cs0, hk => by
    show ∃ es, cs0 = cs0 ++ es ∧ _
    refine ⟨[], (List.append_nil _).symm, ?_⟩
    rw [List.append_nil, if_pos hk]
    exact ⟨s, a, by cases muted <;> rfl, by omega, ⟨fun _ => rfl, fun _ => rfl⟩⟩
  | (sub, nd) :: L, s, a, a0, n, kcs, cs0, hk => by
    have eR : lqR gR1 false ((sub, nd) :: L) a0 (n, cs0) = if sub = -1 then lqR gR1 false L a0 (n, cs0) else match gR1 sub nd (n, cs0) with
      | none => none
      | some K1 => lqR gR1 false L a0 K1 := rfl
    have eF : lpF (fun sub nd K => g1 sub nd muted K) ((sub, nd) :: L) s a (n, false, kcs) = if sub = -1 then lpF (fun sub nd K => g1 sub nd muted K) L s a (n, false, kcs) else lpF (fun sub nd K => g1 sub nd muted K) L (s + 1) (a + if (g1 sub nd muted (n, false, kcs)).1 = true then 1 else 0) (g1 sub nd muted (n, false, kcs)).2 := rfl
    rw [eR, eF]
    by_cases c : sub = -1
    · rw [if_pos c, if_pos c]
      exact lp_nc hg L s a a0 n kcs cs0 hk
    · rw [if_neg c, if_neg c]
      have h := hg sub nd muted kcs cs0 n hk
      unfold AK at h
      cases e1 : gR1 sub nd (n, cs0) with
      | none =>
        rw [e1] at h
        have h' : (g1 sub nd muted (n, false, kcs)).2.2.1 = true := h
        show (lpF _ L _ _ _).2.2.2.1 = true
        rw [lpF_too h']
        exact h'
      | some K1 =>
        rw [e1] at h
        obtain ⟨es, e2, h⟩ := h
        obtain ⟨n1, cs1⟩ := K1
        have e2 : cs1 = cs0 ++ es := e2
        subst e2
        -- what comes behind adds on
        have ext : ∀ r, lqR gR1 false L a0 (n1, cs0 ++ es) = some r → ∃ es2, r.2.2 = cs0 ++ es ++ es2 := fun r hr => by
          have := lp_nc (muted := true) hg L 0 0 a0 n1 [] (cs0 ++ es) (Or.inl rfl)
          rw [hr] at this
          obtain ⟨es2, q, _⟩ := this
          exact ⟨es2, q⟩
        show match lqR gR1 false L a0 (n1, cs0 ++ es) with
          | none => _
          | some r => _
        by_cases ok : muted = true ∨ (kcs ++ es).length ≤ 1000
        · rw [if_pos ok] at h
          rw [h]
          have ok1 : muted = true ∨ (if muted = true then kcs else kcs ++ es).length ≤ 1000 := by
            cases muted with
            | true => exact Or.inl rfl
            | false =>
              rcases ok with z | z
              · cases z
              · exact Or.inr z
          have ih := lp_nc (muted := muted) hg L (s + 1) (a + if (decide (es = []) && true) = true then 1 else 0) a0 n1 (if muted = true then kcs else kcs ++ es) (cs0 ++ es) ok1
          show match lqR gR1 false L a0 (n1, cs0 ++ es) with
            | none => (lpF (fun sub nd K => g1 sub nd muted K) L (s + 1) (a + if (decide (es = []) && true) = true then 1 else 0) (n1, false, if muted = true then kcs else kcs ++ es)).2.2.2.1 = true
            | some r => ∃ ys, r.2.2 = cs0 ++ ys ∧ if muted = true ∨ (kcs ++ ys).length ≤ 1000 then ∃ s1 a1 : Int, lpF (fun sub nd K => g1 sub nd muted K) L (s + 1) (a + if (decide (es = []) && true) = true then 1 else 0) (n1, false, if muted = true then kcs else kcs ++ es) = (s1, a1, r.2.1, false, if muted = true then kcs else kcs ++ ys) ∧ a1 - s1 ≤ a - s ∧ (a1 - s1 = a - s ↔ ys = []) else (lpF (fun sub nd K => g1 sub nd muted K) L (s + 1) (a + if (decide (es = []) && true) = true then 1 else 0) (n1, false, if muted = true then kcs else kcs ++ es)).2.2.2.1 = true
          have eb : (if (decide (es = []) && true) = true then 1 else 0 : Int) = if es = [] then 1 else 0 := by
            by_cases z : es = []
            · rw [if_pos z, if_pos (by rw [decide_eq_true z]; rfl)]
            · rw [if_neg z, if_neg (by rw [decide_eq_false z]; decide)]
          rw [eb] at ih ⊢
          cases e3 : lqR gR1 false L a0 (n1, cs0 ++ es) with
          | none =>
            rw [e3] at ih
            exact ih
          | some r =>
            rw [e3] at ih
            obtain ⟨es2, q1, q2⟩ := ih
            refine ⟨es ++ es2, by rw [q1, List.append_assoc], ?_⟩
            have oke : (muted = true ∨ ((if muted = true then kcs else kcs ++ es) ++ es2).length ≤ 1000) ↔ (muted = true ∨ (kcs ++ (es ++ es2)).length ≤ 1000) := by
              cases muted with
              | true => exact ⟨fun _ => Or.inl rfl, fun _ => Or.inl rfl⟩
              | false =>
                rw [if_neg (show ¬ (false = true) by decide), List.append_assoc]
            by_cases ok2 : muted = true ∨ (kcs ++ (es ++ es2)).length ≤ 1000
            · rw [if_pos (oke.mpr ok2)] at q2
              rw [if_pos ok2]
              obtain ⟨s1, a1, q3, q4, q5⟩ := q2
              refine ⟨s1, a1, ?_, ?_, ?_⟩
              · rw [q3]
                cases muted with
                | true => rfl
                | false =>
                  rw [if_neg (show ¬ (false = true) by decide), if_neg (show ¬ (false = true) by decide), List.append_assoc]
                  rfl
              · split at q4 <;> omega
              · by_cases z : es = []
                · rw [if_pos z] at q5
                  rw [z, List.nil_append, ← q5]
                  omega
                · rw [if_neg z] at q4
                  exact ⟨fun y => by omega, fun y => absurd (List.append_eq_nil_iff.mp y).1 z⟩
            · rw [if_neg (fun y => ok2 (oke.mp y))] at q2
              rw [if_neg ok2]
              exact q2
        · rw [if_neg ok] at h
          have h' : (g1 sub nd muted (n, false, kcs)).2.2.1 = true := h
          have et := lpF_too (f := fun sub nd K => g1 sub nd muted K) h' L (s + 1) (a + if (g1 sub nd muted (n, false, kcs)).1 = true then 1 else 0)
          rw [et]
          cases e3 : lqR gR1 false L a0 (n1, cs0 ++ es) with
          | none => exact h'
          | some r =>
            obtain ⟨es2, q⟩ := ext r e3
            refine ⟨es ++ es2, by rw [q, List.append_assoc], ?_⟩
            rw [if_neg (fun z => ok (by
              rcases z with z | z
              · exact Or.inl z
              · refine Or.inr ?_
                rw [← List.append_assoc, List.length_append] at z
                omega))]
            exact h'
/-- what is asked and does not count -/
theorem lp_cut (hg : AG g1 gR1) : ∀ (L : List (Int × Int)) (s a n : Int) (kcs cs0 : List (Int × Int)), match lqR gR1 true L a (n, cs0) with
    | none => (lpF (fun sub nd K => g1 sub nd true K) L s a (n, false, kcs)).2.2.2.1 = true
    | some r => r.2.2 = cs0 ∧ ∃ s1 : Int, lpF (fun sub nd K => g1 sub nd true K) L s a (n, false, kcs) = (s1, r.1, r.2.1, false, kcs)
  | [], s, a, n, kcs, cs0 => ⟨rfl, s, rfl⟩
  | (sub, nd) :: L, s, a, n, kcs, cs0 => by
    have eR : lqR gR1 true ((sub, nd) :: L) a (n, cs0) = if sub = -1 then lqR gR1 true L a (n, cs0) else match gR1 sub nd (n, cs0) with
      | none => none
      | some K1 => lqR gR1 true L (a + if K1.2.length = cs0.length then 1 else 0) (K1.1, cs0) := rfl
    have eF : lpF (fun sub nd K => g1 sub nd true K) ((sub, nd) :: L) s a (n, false, kcs) = if sub = -1 then lpF (fun sub nd K => g1 sub nd true K) L s a (n, false, kcs) else lpF (fun sub nd K => g1 sub nd true K) L (s + 1) (a + if (g1 sub nd true (n, false, kcs)).1 = true then 1 else 0) (g1 sub nd true (n, false, kcs)).2 := rfl
    rw [eR, eF]
    by_cases c : sub = -1
    · rw [if_pos c, if_pos c]
      exact lp_cut hg L s a n kcs cs0
    · rw [if_neg c, if_neg c]
      have h := hg sub nd true kcs cs0 n (Or.inl rfl)
      unfold AK at h
      cases e1 : gR1 sub nd (n, cs0) with
      | none =>
        rw [e1] at h
        have h' : (g1 sub nd true (n, false, kcs)).2.2.1 = true := h
        show (lpF _ L _ _ _).2.2.2.1 = true
        rw [lpF_too h']
        exact h'
      | some K1 =>
        rw [e1] at h
        obtain ⟨es, e2, h⟩ := h
        rw [if_pos (Or.inl rfl)] at h
        obtain ⟨n1, cs1⟩ := K1
        have e2 : cs1 = cs0 ++ es := e2
        subst e2
        rw [h]
        have ih := lp_cut hg L (s + 1) (a + if (cs0 ++ es).length = cs0.length then 1 else 0) n1 kcs cs0
        have eb : (if (decide (es = []) && true) = true then 1 else 0 : Int) = if (cs0 ++ es).length = cs0.length then 1 else 0 := by
          by_cases z : es = []
          · rw [if_pos (by rw [decide_eq_true z]; rfl), if_pos (by rw [z, List.append_nil])]
          · rw [if_neg (by rw [decide_eq_false z]; decide), if_neg (fun w => z (List.length_eq_zero_iff.mp (by rw [List.length_append] at w; omega)))]
        show match lqR gR1 true L (a + if (cs0 ++ es).length = cs0.length then 1 else 0) (n1, cs0) with
          | none => (lpF (fun sub nd K => g1 sub nd true K) L (s + 1) (a + if (decide (es = []) && true) = true then 1 else 0) (n1, false, kcs)).2.2.2.1 = true
          | some r => r.2.2 = cs0 ∧ ∃ s1 : Int, lpF (fun sub nd K => g1 sub nd true K) L (s + 1) (a + if (decide (es = []) && true) = true then 1 else 0) (n1, false, kcs) = (s1, r.1, r.2.1, false, kcs)
        rw [eb]
        exact ih
theorem ckH_too {node : Nat} {muted : Bool} : ∀ (L : List Nat) (y : Bool × CK), y.2.2.1 = true → (ckH Sc T node muted L y).2.2.1 = true
  | [], y, h => h
  | c :: L, y, h => by
    unfold ckH
    refine ckH_too L _ ?_
    split
    · exact ckC_too h
    · exact h
theorem wdF_too {refs : List (Int × Int)} {by_ node w : Nat} {muted : Bool} {y : Bool × CK} (h : y.2.2.1 = true) : (wdF Sc T g refs by_ node muted w y).2.2.1 = true := by
  unfold wdF
  split
  · exact h
  · split
    · show (plyF Sc T w (vLk Sc (by_ : Int) (sx (30 + w))).toNat node muted y.2).2.2.1 = true
      unfold plyF
      split
      · exact ckH_too _ _ h
      · show (if plB Sc T w (vLk Sc (by_ : Int) (sx (30 + w))).toNat node = true then y.2 else ckC y.2 muted (node : Int) (w : Int)).2.1 = true
        split
        · exact h
        · exact ckC_too h
    · rw [lpF_too h]
      show (if _ then y.2 else ckC y.2 muted (node : Int) (w : Int)).2.1 = true
      split
      · exact h
      · exact ckC_too h
theorem wdsF_too {refs : List (Int × Int)} {by_ node : Nat} {muted : Bool} : ∀ (m : Nat) (y : Bool × CK), y.2.2.1 = true → (wdsF Sc T g refs by_ node muted m y).2.2.1 = true
  | 0, y, h => h
  | m + 1, y, h => by
    unfold wdsF
    exact wdsF_too m _ (wdF_too h)
theorem ckH_ak {node : Nat} {muted : Bool} {n : Int} : ∀ (L : List Nat) (y0 : Bool) (kcs cs0 : List (Int × Int)), (muted = true ∨ kcs.length ≤ 1000) → AK y0 muted kcs cs0 (some (n, cs0 ++ (L.filter (ndP Sc T node)).map (fun _ => ((node : Int), (6 : Int))))) (ckH Sc T node muted L (y0, n, false, kcs))
  | [], y0, kcs, cs0, hk => by
    refine ⟨[], rfl, ?_⟩
    rw [List.append_nil, if_pos hk]
    cases muted <;> rfl
  | c :: L, y0, kcs, cs0, hk => by
    have e : ckH Sc T node muted (c :: L) (y0, n, false, kcs) = ckH Sc T node muted L (if nk T node = 5 ∧ vLk T (node : Int) (tI Sc (c : Int)) = -1 then (false, ckC (n, false, kcs) muted (node : Int) 6) else (y0, n, false, kcs)) := rfl
    rw [e]
    by_cases q : nk T node = 5 ∧ vLk T (node : Int) (tI Sc (c : Int)) = -1
    · rw [if_pos q, List.filter_cons_of_pos (show ndP Sc T node c = true from decide_eq_true q), List.map_cons]
      have k := ck_ok (muted := muted) (kcs := kcs) (n := n) (a := (node : Int)) (b := 6)
      refine ⟨_, rfl, ?_⟩
      by_cases ok : muted = true ∨ (kcs ++ [((node : Int), (6 : Int))]).length ≤ 1000
      · rw [if_pos ok] at k
        rw [k]
        have ok1 : muted = true ∨ (if muted = true then kcs else kcs ++ [((node : Int), (6 : Int))]).length ≤ 1000 := by
          cases muted with
          | true => exact Or.inl rfl
          | false =>
            rcases ok with z | z
            · cases z
            · exact Or.inr z
        obtain ⟨es, q1, q2⟩ := ckH_ak (node := node) (muted := muted) (n := n) L false (if muted = true then kcs else kcs ++ [((node : Int), (6 : Int))]) cs0 ok1
        have q1 : (L.filter (ndP Sc T node)).map (fun _ => ((node : Int), (6 : Int))) = es := List.append_cancel_left q1
        rw [q1]
        cases muted with
        | true =>
          rw [if_pos (Or.inl rfl)] at q2 ⊢
          rw [q2, Bool.and_false, decide_eq_false (List.cons_ne_nil _ _), Bool.false_and]
          rfl
        | false =>
          rw [if_neg (show ¬ (false = true) by decide), List.append_assoc] at q2
          by_cases ok2 : false = true ∨ (kcs ++ ([((node : Int), (6 : Int))] ++ es)).length ≤ 1000
          · rw [if_pos ok2] at q2
            rw [if_pos (show false = true ∨ (kcs ++ ((node : Int), (6 : Int)) :: es).length ≤ 1000 from ok2), if_neg (show ¬ (false = true) by decide)]
            rw [if_neg (show ¬ (false = true) by decide)] at q2 ⊢
            rw [q2, Bool.and_false, decide_eq_false (List.cons_ne_nil _ _), Bool.false_and]
            rfl
          · rw [if_neg ok2] at q2
            rw [if_neg (show ¬ (false = true ∨ (kcs ++ ((node : Int), (6 : Int)) :: es).length ≤ 1000) from ok2)]
            rw [if_neg (show ¬ (false = true) by decide)]
            exact q2
      · rw [if_neg ok] at k
        rw [if_neg (fun z => ok (by
          rcases z with z | z
          · exact Or.inl z
          · refine Or.inr ?_
            rw [List.length_append, List.length_cons] at z
            rw [List.length_append, List.length_singleton]
            omega))]
        exact ckH_too L _ k
    · rw [if_neg q, List.filter_cons_of_neg (show ¬ ndP Sc T node c = true from fun y => q (of_decide_eq_true y))]
      exact ckH_ak L y0 kcs cs0 hk
theorem wd_ak {refs : List (Int × Int)} {by_ node w : Nat} {muted y0 : Bool} {n : Int} {kcs cs0 : List (Int × Int)} (hg : ∀ refs, AG (g refs) (gR refs)) (hw15 : w ≤ 15) (hk : muted = true ∨ kcs.length ≤ 1000) : AK y0 muted kcs cs0 (wdR Sc T gR refs by_ node w (n, cs0)) (wdF Sc T g refs by_ node muted w (y0, n, false, kcs)) := by
  unfold wdR wdF
  by_cases c1 : vLk Sc (by_ : Int) (sx (30 + w)) = -1
  · rw [if_pos c1, if_pos c1]
    refine ⟨[], (List.append_nil _).symm, ?_⟩
    rw [List.append_nil, if_pos hk]
    cases muted <;> rfl
  · rw [if_neg c1, if_neg c1]
    generalize (vLk Sc (by_ : Int) (sx (30 + w))).toNat = said
    by_cases c2 : w ≤ 6 ∨ w = 10
    · rw [if_pos c2, if_pos c2]
      unfold plyF plR
      by_cases c6 : w = 6
      · rw [if_pos c6, if_pos c6]
        have h := ckH_ak (Sc := Sc) (T := T) (node := node) (muted := muted) (n := n) (kids Sc said) true kcs cs0 hk
        obtain ⟨es, q1, q2⟩ := h
        refine ⟨es, q1, ?_⟩
        show if _ then ((ckH Sc T node muted (kids Sc said) (true, n, false, kcs)).1 && y0, (ckH Sc T node muted (kids Sc said) (true, n, false, kcs)).2) = _ else (ckH Sc T node muted (kids Sc said) (true, n, false, kcs)).2.2.1 = true
        by_cases ok : muted = true ∨ (kcs ++ es).length ≤ 1000
        · rw [if_pos ok] at q2 ⊢
          rw [q2]
          show ((decide (es = []) && true) && y0, _) = _
          rw [Bool.and_true]
        · rw [if_neg ok] at q2 ⊢
          exact q2
      · rw [if_neg c6, if_neg c6]
        show AK y0 muted kcs cs0 _ (plB Sc T w said node && y0, if plB Sc T w said node = true then (n, false, kcs) else ckC (n, false, kcs) muted (node : Int) (w : Int))
        cases pb : plB Sc T w said node with
        | true =>
          rw [if_pos rfl, if_pos rfl]
          refine ⟨[], rfl, ?_⟩
          rw [List.append_nil, if_pos hk]
          cases muted <;> rfl
        | false =>
          rw [if_neg (by decide), if_neg (by decide)]
          refine ⟨[((node : Int), (w : Int))], rfl, ?_⟩
          have k := ck_ok (muted := muted) (kcs := kcs) (n := n) (a := (node : Int)) (b := (w : Int))
          by_cases ok : muted = true ∨ (kcs ++ [((node : Int), (w : Int))]).length ≤ 1000
          · rw [if_pos ok] at k ⊢
            rw [k, decide_eq_false (List.cons_ne_nil _ _)]
          · rw [if_neg ok] at k ⊢
            exact k
    · rw [if_neg c2, if_neg c2]
      generalize eno : decide (w = 15 ∧ tgF Sc refs said node = -2) = no
      generalize eL : qsL Sc T refs w by_ said node = L
      by_cases cw : 12 ≤ w ∧ w ≤ 14
      · have eq : qtB w muted = true := by
          show (muted || decide (12 ≤ w ∧ w ≤ 14)) = true
          rw [decide_eq_true cw, Bool.or_true]
        rw [eq, decide_eq_true cw]
        have h := lp_cut (g1 := fun sub nd m K => g (if w = 15 then refs ++ [(sub, (node : Int))] else refs) sub nd m K) (gR1 := fun sub nd K => gR (if w = 15 then refs ++ [(sub, (node : Int))] else refs) sub nd K) (fun sub nd m k c n hk => hg _ sub nd m k c n hk) L 0 0 n kcs cs0
        generalize lqR (fun sub nd K => gR (if w = 15 then refs ++ [(sub, (node : Int))] else refs) sub nd K) true L 0 (n, cs0) = R at h
        generalize lpF (fun sub nd K => g (if w = 15 then refs ++ [(sub, (node : Int))] else refs) sub nd true K) L 0 0 (n, false, kcs) = F at h
        cases R with
        | none =>
          show (if hsB w F.1 F.2.1 no = true then F.2.2 else ckC F.2.2 muted (node : Int) (w : Int)).2.1 = true
          have h' : F.2.2.2.1 = true := h
          split
          · exact h'
          · exact ckC_too h'
        | some r =>
          obtain ⟨q1, s1, q2⟩ := h
          have hs : ∀ s : Int, hsB w s r.1 no = hdB w 0 r.1 no ∧ hdB w s r.1 no = hdB w 0 r.1 no := fun s => by
            unfold hsB hdB
            rw [if_neg (by omega), if_neg (by omega)]
            rcases (show w = 12 ∨ w = 13 ∨ w = 14 by omega) with z | z | z <;> subst z <;> exact ⟨rfl, rfl⟩
          refine ⟨if hsB w 0 r.1 no = true then [] else [((node : Int), (w : Int))], by rw [← q1], ?_⟩
          rw [q2, (hs 0).1]
          show if _ then (hdB w s1 r.1 no && y0, if hsB w s1 r.1 no = true then (r.2.1, false, kcs) else ckC (r.2.1, false, kcs) muted (node : Int) (w : Int)) = _ else (if hsB w s1 r.1 no = true then (r.2.1, false, kcs) else ckC (r.2.1, false, kcs) muted (node : Int) (w : Int)).2.1 = true
          rw [(hs s1).1, (hs s1).2]
          cases eh : hdB w 0 r.1 no with
          | true =>
            rw [if_pos rfl, if_pos rfl, List.append_nil, if_pos hk]
            cases muted <;> rfl
          | false =>
            rw [if_neg (show ¬ (false = true) by decide), if_neg (show ¬ (false = true) by decide)]
            have k := ck_ok (muted := muted) (kcs := kcs) (n := r.2.1) (a := (node : Int)) (b := (w : Int))
            by_cases ok : muted = true ∨ (kcs ++ [((node : Int), (w : Int))]).length ≤ 1000
            · rw [if_pos ok] at k ⊢
              rw [k, decide_eq_false (List.cons_ne_nil _ _)]
            · rw [if_neg ok] at k ⊢
              exact k
      · have eq : qtB w muted = muted := by
          show (muted || decide (12 ≤ w ∧ w ≤ 14)) = muted
          rw [decide_eq_false cw, Bool.or_false]
        rw [eq, decide_eq_false cw]
        have h := lp_nc (muted := muted) (g1 := fun sub nd m K => g (if w = 15 then refs ++ [(sub, (node : Int))] else refs) sub nd m K) (gR1 := fun sub nd K => gR (if w = 15 then refs ++ [(sub, (node : Int))] else refs) sub nd K) (fun sub nd m k c n hk => hg _ sub nd m k c n hk) L 0 0 0 n kcs cs0 hk
        generalize lqR (fun sub nd K => gR (if w = 15 then refs ++ [(sub, (node : Int))] else refs) sub nd K) false L 0 (n, cs0) = R at h
        generalize lpF (fun sub nd K => g (if w = 15 then refs ++ [(sub, (node : Int))] else refs) sub nd muted K) L 0 0 (n, false, kcs) = F at h
        cases R with
        | none =>
          show (if hsB w F.1 F.2.1 no = true then F.2.2 else ckC F.2.2 muted (node : Int) (w : Int)).2.1 = true
          have h' : F.2.2.2.1 = true := h
          split
          · exact h'
          · exact ckC_too h'
        | some r =>
          obtain ⟨es, q1, q2⟩ := h
          have hs : ∀ s a : Int, hsB w s a no = !no := fun s a => by
            unfold hsB
            by_cases z : w < 12
            · rw [if_pos z]
              have : no = false := by rw [← eno]; exact decide_eq_false (fun y => by omega)
              rw [this]
              rfl
            · rw [if_neg z]
              by_cases z5 : w = 15
              · rw [if_pos z5]
              · rw [if_neg z5]
                exact absurd hw15 (by omega)
          have hh : ∀ s a : Int, hdB w s a no = decide (a = s ∧ no = false) := fun s a => by
            unfold hdB
            rw [if_neg (by omega), if_neg (by omega), if_neg (by omega)]
          show AK y0 muted kcs cs0 (some (r.2.1, r.2.2 ++ if hsB w 0 r.1 no = true then [] else [((node : Int), (w : Int))])) (hdB w F.1 F.2.1 no && y0, if hsB w F.1 F.2.1 no = true then F.2.2 else ckC F.2.2 muted (node : Int) (w : Int))
          rw [hs 0 r.1, hs F.1 F.2.1, hh]
          refine ⟨es ++ if (!no) = true then [] else [((node : Int), (w : Int))], by show r.2.2 ++ _ = _; rw [q1, List.append_assoc], ?_⟩
          by_cases ok : muted = true ∨ (kcs ++ es).length ≤ 1000
          · rw [if_pos ok] at q2
            obtain ⟨s1, a1, q3, q4, q5⟩ := q2
            rw [q3]
            show if _ then (decide (a1 = s1 ∧ no = false) && y0, if (!no) = true then (r.2.1, false, if muted = true then kcs else kcs ++ es) else ckC (r.2.1, false, if muted = true then kcs else kcs ++ es) muted (node : Int) (w : Int)) = _ else (if (!no) = true then (r.2.1, false, if muted = true then kcs else kcs ++ es) else ckC (r.2.1, false, if muted = true then kcs else kcs ++ es) muted (node : Int) (w : Int)).2.1 = true
            cases no with
            | false =>
              rw [if_pos (show (!false) = true from rfl), if_pos (show (!false) = true from rfl), List.append_nil, if_pos ok]
              have : decide (a1 = s1 ∧ (false = false)) = decide (es = []) := by
                by_cases z : es = []
                · rw [decide_eq_true z, decide_eq_true ⟨by have := q5.mpr z; omega, rfl⟩]
                · rw [decide_eq_false z, decide_eq_false (fun y => z (q5.mp (by have := y.1; omega)))]
              rw [this]
            | true =>
              rw [if_neg (show ¬ ((!true) = true) by decide), if_neg (show ¬ ((!true) = true) by decide)]
              have k := ck_ok (muted := muted) (kcs := if muted = true then kcs else kcs ++ es) (n := r.2.1) (a := (node : Int)) (b := (w : Int))
              have nn : es ++ [((node : Int), (w : Int))] ≠ [] := fun z => by
                have := (List.append_eq_nil_iff.mp z).2
                cases this
              rw [decide_eq_false (fun y : a1 = s1 ∧ true = false => by cases y.2), decide_eq_false nn]
              cases muted with
              | true =>
                rw [if_pos (Or.inl rfl)] at k ⊢
                rw [k]
                rfl
              | false =>
                rw [if_neg (show ¬ (false = true) by decide), List.append_assoc] at k
                rw [if_neg (show ¬ (false = true) by decide), if_neg (show ¬ (false = true) by decide)]
                by_cases ok2 : false = true ∨ (kcs ++ (es ++ [((node : Int), (w : Int))])).length ≤ 1000
                · rw [if_pos ok2] at k ⊢
                  rw [k, if_neg (show ¬ (false = true) by decide)]
                · rw [if_neg ok2] at k ⊢
                  exact k
          · rw [if_neg ok] at q2
            rw [if_neg (fun z => ok (by
              rcases z with z | z
              · exact Or.inl z
              · refine Or.inr ?_
                rw [← List.append_assoc, List.length_append] at z
                omega))]
            show (if (!no) = true then F.2.2 else ckC F.2.2 muted (node : Int) (w : Int)).2.1 = true
            have q2' : F.2.2.2.1 = true := q2
            split
            · exact q2'
            · exact ckC_too q2'
theorem wds_ak {refs : List (Int × Int)} {by_ node : Nat} (hg : ∀ refs, AG (g refs) (gR refs)) : ∀ (m : Nat) (muted y0 : Bool) (n : Int) (kcs cs0 : List (Int × Int)), (muted = true ∨ kcs.length ≤ 1000) → AK y0 muted kcs cs0 (wdsR Sc T gR refs by_ node m (n, cs0)) (wdsF Sc T g refs by_ node muted m (y0, n, false, kcs))
  | 0, muted, y0, n, kcs, cs0, hk => by
    refine ⟨[], (List.append_nil _).symm, ?_⟩
    rw [List.append_nil, if_pos hk]
    cases muted <;> rfl
  | m + 1, muted, y0, n, kcs, cs0, hk => by
    have h := wd_ak (Sc := Sc) (T := T) (refs := refs) (by_ := by_) (node := node) (w := 15 - m) (y0 := y0) (n := n) (cs0 := cs0) hg (by omega) hk
    have eR : wdsR Sc T gR refs by_ node (m + 1) (n, cs0) = match wdR Sc T gR refs by_ node (15 - m) (n, cs0) with
      | none => none
      | some K1 => wdsR Sc T gR refs by_ node m K1 := rfl
    have eF : wdsF Sc T g refs by_ node muted (m + 1) (y0, n, false, kcs) = wdsF Sc T g refs by_ node muted m (wdF Sc T g refs by_ node muted (15 - m) (y0, n, false, kcs)) := rfl
    rw [eR, eF]
    cases e1 : wdR Sc T gR refs by_ node (15 - m) (n, cs0) with
    | none =>
      rw [e1] at h
      exact wdsF_too m _ h
    | some K1 =>
      rw [e1] at h
      obtain ⟨es, q1, q2⟩ := h
      obtain ⟨n1, cs1⟩ := K1
      have q1 : cs1 = cs0 ++ es := q1
      subst q1
      show AK y0 muted kcs cs0 (wdsR Sc T gR refs by_ node m (n1, cs0 ++ es)) _
      by_cases ok : muted = true ∨ (kcs ++ es).length ≤ 1000
      · rw [if_pos ok] at q2
        rw [q2]
        have ok1 : muted = true ∨ (if muted = true then kcs else kcs ++ es).length ≤ 1000 := by
          cases muted with
          | true => exact Or.inl rfl
          | false =>
            rcases ok with z | z
            · cases z
            · exact Or.inr z
        have ih := wds_ak (refs := refs) (by_ := by_) (node := node) hg m muted (decide (es = []) && y0) n1 (if muted = true then kcs else kcs ++ es) (cs0 ++ es) ok1
        show AK y0 muted kcs cs0 (wdsR Sc T gR refs by_ node m (n1, cs0 ++ es)) (wdsF Sc T g refs by_ node muted m (decide (es = []) && y0, n1, false, if muted = true then kcs else kcs ++ es))
        cases e3 : wdsR Sc T gR refs by_ node m (n1, cs0 ++ es) with
        | none =>
          rw [e3] at ih
          exact ih
        | some K2 =>
          rw [e3] at ih
          obtain ⟨es2, q3, q4⟩ := ih
          refine ⟨es ++ es2, by rw [q3, List.append_assoc], ?_⟩
          have eb : (decide (es ++ es2 = []) && y0) = (decide (es2 = []) && (decide (es = []) && y0)) := by
            by_cases z1 : es = []
            · by_cases z2 : es2 = []
              · rw [decide_eq_true z1, decide_eq_true z2, decide_eq_true (by rw [z1, z2]; rfl)]
                rfl
              · rw [decide_eq_false z2, decide_eq_false (fun y => z2 (List.append_eq_nil_iff.mp y).2)]
                rfl
            · rw [decide_eq_false z1, decide_eq_false (fun y => z1 (List.append_eq_nil_iff.mp y).1), Bool.false_and, Bool.and_false]
          rw [eb]
          cases muted with
          | true =>
            rw [if_pos (Or.inl rfl)] at q4 ⊢
            exact q4
          | false =>
            rw [if_neg (show ¬ (false = true) by decide)] at q4 ⊢
            rw [if_neg (show ¬ (false = true) by decide), List.append_assoc] at q4
            exact q4
      · rw [if_neg ok] at q2
        have t := wdsF_too (Sc := Sc) (T := T) (g := g) (refs := refs) (by_ := by_) (node := node) (muted := muted) m _ q2
        cases e3 : wdsR Sc T gR refs by_ node m (n1, cs0 ++ es) with
        | none => exact t
        | some K2 =>
          have ih := wds_ak (refs := refs) (by_ := by_) (node := node) hg m true y0 n1 [] (cs0 ++ es) (Or.inl rfl)
          rw [e3] at ih
          obtain ⟨es2, q3, _⟩ := ih
          refine ⟨es ++ es2, by rw [q3, List.append_assoc], ?_⟩
          rw [if_neg (fun z => ok (by
            rcases z with z | z
            · exact Or.inl z
            · refine Or.inr ?_
              rw [← List.append_assoc, List.length_append] at z
              omega))]
          exact t
end L1
theorem ask_ak {Sc T : List ND} {most : Int} : ∀ (f : Nat) (refs : List (Int × Int)), AG (askF Sc T most f refs) (askR Sc T most f refs)
  | 0, refs => fun sub nd muted kcs cs0 n hk => rfl
  | f + 1, refs => fun sub nd muted kcs cs0 n hk => by
    have eR : askR Sc T most (f + 1) refs sub nd (n, cs0) = if most < n + 1 then none else if kdI Sc sub = 5 then wdsR Sc T (askR Sc T most f) refs sub.toNat nd.toNat 15 (n + 1, cs0) else if kdI Sc sub = 1 ∧ np Sc sub.toNat = 1 then some (n + 1, cs0) else some (n + 1, cs0 ++ [(nd, 0)]) := rfl
    have eF : askF Sc T most (f + 1) refs sub nd muted (n, false, kcs) = if false = true ∨ most < n + 1 then (false, (n + 1, true, kcs)) else if kdI Sc sub = 5 then wdsF Sc T (askF Sc T most f) refs sub.toNat nd.toNat muted 15 (true, (n + 1, false, kcs)) else if kdI Sc sub = 1 ∧ np Sc sub.toNat = 1 then (true, (n + 1, false, kcs)) else (false, ckC (n + 1, false, kcs) muted nd 0) := rfl
    rw [eR, eF]
    by_cases c1 : most < n + 1
    · rw [if_pos c1, if_pos (Or.inr c1)]
      rfl
    · rw [if_neg c1, if_neg (show ¬ (false = true ∨ most < n + 1) from fun z => z.elim (fun y => by cases y) c1)]
      by_cases c2 : kdI Sc sub = 5
      · rw [if_pos c2, if_pos c2]
        exact wds_ak (fun refs => ask_ak f refs) 15 muted true (n + 1) kcs cs0 hk
      · rw [if_neg c2, if_neg c2]
        by_cases c3 : kdI Sc sub = 1 ∧ np Sc sub.toNat = 1
        · rw [if_pos c3, if_pos c3]
          refine ⟨[], (List.append_nil _).symm, ?_⟩
          rw [List.append_nil, if_pos hk]
          cases muted <;> rfl
        · rw [if_neg c3, if_neg c3]
          refine ⟨[(nd, 0)], rfl, ?_⟩
          have k := ck_ok (muted := muted) (kcs := kcs) (n := n + 1) (a := nd) (b := 0)
          by_cases ok : muted = true ∨ (kcs ++ [(nd, (0 : Int))]).length ≤ 1000
          · rw [if_pos ok] at k ⊢
            rw [k, decide_eq_false (List.cons_ne_nil _ _)]
            rfl
          · rw [if_neg ok] at k ⊢
            exact k
