/-! SCHEMAS: how much asking comes to -/
theorem words_ne : ∀ a, a < 16 → ∀ b, b < 16 → sx (30 + a) = sx (30 + b) → a = b := by decide +kernel
def wlF : Nat → List Nat
  | 0 => []
  | m + 1 => (15 - m) :: wlF m
/-- what a WORD complains itself, at most -/
def costW (Sc : List ND) (by_ w : Nat) : Nat := if vLk Sc (by_ : Int) (sx (30 + w)) = -1 then 0 else if w = 6 then (kids Sc (vLk Sc (by_ : Int) (sx (30 + w))).toNat).length else 1
def rvW (Sc : List ND) (by_ : Nat) : Nat → Nat
  | 0 => 0
  | m + 1 => costW Sc by_ (15 - m) + rvW Sc by_ m
section GRO
variable {Sc T : List ND}
theorem suF_c {g : Nat → Nat} {k : Nat} {K : List Nat} : suF g (k :: K) = g k + suF g K := rfl
theorem suF_le {f g : Nat → Nat} : ∀ (W : List Nat), (∀ w ∈ W, f w ≤ g w) → suF f W ≤ suF g W
  | [], _ => Nat.le_refl _
  | w :: W, h => by
    rw [suF_c, suF_c]
    have := suF_le (f := f) (g := g) W (fun x hx => h x (List.mem_cons_of_mem _ hx))
    have := h w List.mem_cons_self
    omega
/-- one value is put in place of others once at most -/
theorem suF_one {p : Nat → Prop} [DecidablePred p] {a : Nat} {f : Nat → Nat} : ∀ (W : List Nat), W.Nodup → (∀ x ∈ W, ∀ y ∈ W, p x → p y → x = y) → suF (fun w => if p w then a else f w) W ≤ a + suF f W
  | [], _, _ => Nat.zero_le _
  | w :: W, hn, hp => by
    rw [suF_c, suF_c]
    have hn2 := List.nodup_cons.mp hn
    show (if p w then a else f w) + _ ≤ _
    by_cases c : p w
    · rw [if_pos c]
      have : suF (fun w => if p w then a else f w) W ≤ suF f W := suF_le W (fun x hx => by
        show (if p x then a else f x) ≤ f x
        rw [if_neg (fun z => hn2.1 (by rw [hp w List.mem_cons_self x (List.mem_cons_of_mem _ hx) c z]; exact hx))]
        exact Nat.le_refl _)
      omega
    · rw [if_neg c]
      have := suF_one (p := p) (a := a) (f := f) W hn2.2 (fun x hx y hy => hp x (List.mem_cons_of_mem _ hx) y (List.mem_cons_of_mem _ hy))
      omega
def zfd (Sc : List ND) (K : List Nat) (w : Nat) : Nat := if fdK Sc (sx (30 + w)) K = -1 then 0 else nz Sc (fdK Sc (sx (30 + w)) K).toNat
theorem zfd_sum : ∀ (K : List Nat), suF (zfd Sc K) (wlF 15) ≤ suF (nz Sc) K
  | [] => by
    have : suF (zfd Sc []) (wlF 15) ≤ suF (fun _ => 0) (wlF 15) := suF_le _ (fun w _ => by
      unfold zfd
      rw [if_pos (show fdK Sc (sx (30 + w)) [] = -1 from rfl)]
      exact Nat.le_refl _)
    exact this
  | c :: K => by
    have e : suF (zfd Sc (c :: K)) (wlF 15) ≤ suF (fun w => if nq Sc c = sx (30 + w) then nz Sc c else zfd Sc K w) (wlF 15) := suF_le _ (fun w _ => by
      show zfd Sc (c :: K) w ≤ if nq Sc c = sx (30 + w) then nz Sc c else zfd Sc K w
      have ef : fdK Sc (sx (30 + w)) (c :: K) = if nq Sc c = sx (30 + w) then (c : Int) else fdK Sc (sx (30 + w)) K := rfl
      unfold zfd
      rw [ef]
      by_cases z : nq Sc c = sx (30 + w)
      · rw [if_pos z, if_pos z, if_neg (by omega), Int.toNat_natCast]
        exact Nat.le_refl _
      · rw [if_neg z, if_neg z]
        exact Nat.le_refl _)
    have o := suF_one (p := fun w => nq Sc c = sx (30 + w)) (a := nz Sc c) (f := zfd Sc K) (wlF 15) (by decide) (fun x hx y hy h1 h2 => by
      have lt : ∀ z ∈ wlF 15, z < 16 := by decide
      exact words_ne x (lt x hx) y (lt y hy) (h1.symm.trans h2))
    have ih := zfd_sum K
    rw [suF_c]
    omega
theorem rv_su {by_ : Nat} : ∀ m, rvW Sc by_ m = suF (costW Sc by_) (wlF m)
  | 0 => rfl
  | m + 1 => by
    show costW Sc by_ (15 - m) + rvW Sc by_ m = costW Sc by_ (15 - m) + suF (costW Sc by_) (wlF m)
    rw [rv_su m]
theorem rv_99 (hS : TR Sc ∧ PZL Sc) (hl : Sc.length ≤ 100) (by_ : Nat) : rvW Sc by_ 15 ≤ 99 := by
  have zS := pz_l hS.2
  rw [rv_su]
  by_cases c : by_ < Sc.length ∧ nk Sc by_ = 5
  · have h1 : suF (costW Sc by_) (wlF 15) ≤ suF (zfd Sc (kids Sc by_)) (wlF 15) := suF_le _ (fun w _ => by
      unfold costW zfd
      rw [vLk_c c.1 c.2]
      by_cases z : fdK Sc (sx (30 + w)) (kids Sc by_) = -1
      · rw [if_pos z, if_pos z]
        exact Nat.le_refl _
      · rw [if_neg z, if_neg z]
        have k := kids_le hS.1.1 zS (g := (fdK Sc (sx (30 + w)) (kids Sc by_)).toNat)
        have := zS (fdK Sc (sx (30 + w)) (kids Sc by_)).toNat
        split <;> omega)
    have h2 := zfd_sum (Sc := Sc) (kids Sc by_)
    have h3 := kids_sum hS.1.1 zS (g := by_)
    have h4 := hS.1.1.1 by_ c.1
    omega
  · have h1 : suF (costW Sc by_) (wlF 15) ≤ suF (fun _ => 0) (wlF 15) := suF_le _ (fun w _ => by
      unfold costW
      have : vLk Sc (by_ : Int) (sx (30 + w)) = -1 := by
        unfold vLk
        by_cases z : 0 ≤ (by_ : Int) ∧ (by_ : Int) < (Sc.length : Int)
        · rw [if_pos z, Int.toNat_natCast]
          unfold kidsM
          rw [if_neg (fun y => c ⟨by omega, y⟩)]
          rfl
        · rw [if_neg z]
      rw [if_pos this]
      exact Nat.le_refl _)
    have e0 : suF (fun _ => 0) (wlF 15) = 0 := rfl
    omega
abbrev GrK (most : Int) (K K1 : RK) (c : Nat) : Prop := (K.1 ≤ K1.1 ∧ (K.1 ≤ most → K1.1 ≤ most)) ∧ (K1.2.length : Int) ≤ K.2.length + c + 99 * (K1.1 - K.1)
theorem pl_len {w said node : Nat} : (plR Sc T w said node).length ≤ if w = 6 then (kids Sc said).length else 1 := by
  unfold plR
  by_cases c : w = 6
  · rw [if_pos c, if_pos c, List.length_map]
    exact List.length_filter_le _ _
  · rw [if_neg c, if_neg c]
    split
    · exact Nat.zero_le _
    · exact Nat.le_refl 1
theorem lq_gr {most : Int} {g : Int → Int → RK → Option RK} {cut : Bool} (hg : ∀ sub nd K K1, g sub nd K = some K1 → GrK most K K1 0) : ∀ (L : List (Int × Int)) (a : Int) (K : RK) (r : Int × RK), lqR g cut L a K = some r → GrK most K r.2 0
  | [], a, K, r, h => by
    cases h
    exact ⟨⟨Int.le_refl _, fun z => z⟩, by show (K.2.length : Int) ≤ K.2.length + 0 + 99 * (K.1 - K.1); omega⟩
  | (sub, nd) :: L, a, K, r, h => by
    have eR : lqR g cut ((sub, nd) :: L) a K = if sub = -1 then lqR g cut L a K else match g sub nd K with
      | none => none
      | some K1 => if cut = true then lqR g cut L (a + if K1.2.length = K.2.length then 1 else 0) (K1.1, K.2) else lqR g cut L a K1 := rfl
    rw [eR] at h
    by_cases c : sub = -1
    · rw [if_pos c] at h
      exact lq_gr hg L a K r h
    · rw [if_neg c] at h
      cases e1 : g sub nd K with
      | none => rw [e1] at h; cases h
      | some K1 =>
        rw [e1] at h
        have g1 := hg sub nd K K1 e1
        cases cut with
        | true =>
          have h' : lqR g true L (a + if K1.2.length = K.2.length then 1 else 0) (K1.1, K.2) = some r := h
          have g2 := lq_gr hg L _ _ r h'
          obtain ⟨⟨a1, a2⟩, a3⟩ := g1
          obtain ⟨⟨b1, b2⟩, b3⟩ := g2
          exact ⟨⟨Int.le_trans a1 b1, fun z => b2 (a2 z)⟩, by show (r.2.2.length : Int) ≤ K.2.length + (0 : Nat) + 99 * (r.2.1 - K.1); have b3' : (r.2.2.length : Int) ≤ K.2.length + (0 : Nat) + 99 * (r.2.1 - K1.1) := b3; omega⟩
        | false =>
          have h' : lqR g false L a K1 = some r := h
          have g2 := lq_gr hg L _ _ r h'
          obtain ⟨⟨a1, a2⟩, a3⟩ := g1
          obtain ⟨⟨b1, b2⟩, b3⟩ := g2
          exact ⟨⟨Int.le_trans a1 b1, fun z => b2 (a2 z)⟩, by omega⟩
theorem wd_gr {most : Int} {g : List (Int × Int) → Int → Int → RK → Option RK} (hg : ∀ refs sub nd K K1, g refs sub nd K = some K1 → GrK most K K1 0) {refs : List (Int × Int)} {by_ node w : Nat} {K K1 : RK} (h : wdR Sc T g refs by_ node w K = some K1) : GrK most K K1 (costW Sc by_ w) := by
  unfold wdR at h
  unfold costW
  by_cases c1 : vLk Sc (by_ : Int) (sx (30 + w)) = -1
  · rw [if_pos c1] at h ⊢
    cases h
    exact ⟨⟨Int.le_refl _, fun z => z⟩, by omega⟩
  · rw [if_neg c1] at h ⊢
    by_cases c2 : w ≤ 6 ∨ w = 10
    · rw [if_pos c2] at h
      cases h
      have l := pl_len (Sc := Sc) (T := T) (w := w) (said := (vLk Sc (by_ : Int) (sx (30 + w))).toNat) (node := node)
      exact ⟨⟨Int.le_refl _, fun z => z⟩, by show ((K.2 ++ plR Sc T w (vLk Sc (by_ : Int) (sx (30 + w))).toNat node).length : Int) ≤ _ + 99 * (K.1 - K.1); rw [List.length_append]; omega⟩
    · rw [if_neg c2] at h
      rw [if_neg (show ¬ w = 6 by omega)]
      cases e1 : lqR (fun sub nd K => g (if w = 15 then refs ++ [(sub, (node : Int))] else refs) sub nd K) (decide (12 ≤ w ∧ w ≤ 14)) (qsL Sc T refs w by_ (vLk Sc (by_ : Int) (sx (30 + w))).toNat node) 0 K with
      | none => rw [e1] at h; cases h
      | some r =>
        rw [e1] at h
        have g1 := lq_gr (most := most) (fun sub nd K K1 hh => hg _ sub nd K K1 hh) _ _ _ _ e1
        have h' := Option.some.inj h
        rw [← h']
        obtain ⟨⟨a1, a2⟩, a3⟩ := g1
        refine ⟨⟨a1, a2⟩, ?_⟩
        show ((r.2.2 ++ _).length : Int) ≤ K.2.length + (1 : Nat) + 99 * (r.2.1 - K.1)
        rw [List.length_append]
        split
        · rw [List.length_nil]; omega
        · rw [List.length_singleton]; omega
theorem wds_gr {most : Int} {g : List (Int × Int) → Int → Int → RK → Option RK} (hg : ∀ refs sub nd K K1, g refs sub nd K = some K1 → GrK most K K1 0) {refs : List (Int × Int)} {by_ node : Nat} : ∀ (m : Nat) (K K1 : RK), wdsR Sc T g refs by_ node m K = some K1 → GrK most K K1 (rvW Sc by_ m)
  | 0, K, K1, h => by
    cases h
    exact ⟨⟨Int.le_refl _, fun z => z⟩, by omega⟩
  | m + 1, K, K1, h => by
    have eR : wdsR Sc T g refs by_ node (m + 1) K = match wdR Sc T g refs by_ node (15 - m) K with
      | none => none
      | some K1 => wdsR Sc T g refs by_ node m K1 := rfl
    rw [eR] at h
    cases e1 : wdR Sc T g refs by_ node (15 - m) K with
    | none => rw [e1] at h; cases h
    | some K2 =>
      rw [e1] at h
      obtain ⟨⟨a1, a2⟩, a3⟩ := wd_gr (most := most) hg e1
      obtain ⟨⟨b1, b2⟩, b3⟩ := wds_gr hg m K2 K1 h
      have er : rvW Sc by_ (m + 1) = costW Sc by_ (15 - m) + rvW Sc by_ m := rfl
      rw [er]
      exact ⟨⟨Int.le_trans a1 b1, fun z => b2 (a2 z)⟩, by omega⟩
theorem ask_gr (hS : TR Sc ∧ PZL Sc) (hl : Sc.length ≤ 100) {most : Int} : ∀ (f : Nat) (refs : List (Int × Int)) (sub nd : Int) (K K1 : RK), askR Sc T most f refs sub nd K = some K1 → GrK most K K1 0 ∧ K.1 + 1 ≤ K1.1 ∧ K1.1 ≤ most
  | 0, _, _, _, _, _, h => by cases h
  | f + 1, refs, sub, nd, K, K1, h => by
    have eR : askR Sc T most (f + 1) refs sub nd K = if most < K.1 + 1 then none else if kdI Sc sub = 5 then wdsR Sc T (askR Sc T most f) refs sub.toNat nd.toNat 15 (K.1 + 1, K.2) else if kdI Sc sub = 1 ∧ np Sc sub.toNat = 1 then some (K.1 + 1, K.2) else some (K.1 + 1, K.2 ++ [(nd, 0)]) := rfl
    rw [eR] at h
    by_cases c1 : most < K.1 + 1
    · rw [if_pos c1] at h; cases h
    · rw [if_neg c1] at h
      by_cases c2 : kdI Sc sub = 5
      · rw [if_pos c2] at h
        obtain ⟨⟨b1, b2⟩, b3⟩ := wds_gr (most := most) (fun refs sub nd K K1 hh => (ask_gr hS hl f refs sub nd K K1 hh).1) 15 _ _ h
        have r99 := rv_99 hS hl sub.toNat
        have b1' : K.1 + 1 ≤ K1.1 := b1
        have b2' : K.1 + 1 ≤ most → K1.1 ≤ most := b2
        have b3' : (K1.2.length : Int) ≤ K.2.length + rvW Sc sub.toNat 15 + 99 * (K1.1 - (K.1 + 1)) := b3
        exact ⟨⟨⟨by omega, fun _ => b2' (by omega)⟩, by omega⟩, b1', b2' (by omega)⟩
      · rw [if_neg c2] at h
        by_cases c3 : kdI Sc sub = 1 ∧ np Sc sub.toNat = 1
        · rw [if_pos c3] at h
          cases h
          exact ⟨⟨⟨by show K.1 ≤ K.1 + 1; omega, fun _ => by show K.1 + 1 ≤ most; omega⟩, by show (K.2.length : Int) ≤ K.2.length + (0 : Nat) + 99 * (K.1 + 1 - K.1); omega⟩, Int.le_refl _, by show K.1 + 1 ≤ most; omega⟩
        · rw [if_neg c3] at h
          cases h
          exact ⟨⟨⟨by show K.1 ≤ K.1 + 1; omega, fun _ => by show K.1 + 1 ≤ most; omega⟩, by show ((K.2 ++ [(nd, (0 : Int))]).length : Int) ≤ K.2.length + (0 : Nat) + 99 * (K.1 + 1 - K.1); rw [List.length_append, List.length_singleton]; omega⟩, Int.le_refl _, by show K.1 + 1 ≤ most; omega⟩
theorem ask_ext {most : Int} {f : Nat} {refs : List (Int × Int)} {sub nd : Int} {K K1 : RK} (h : askR Sc T most f refs sub nd K = some K1) : ∃ es, K1.2 = K.2 ++ es := by
  have a := ask_ak (Sc := Sc) (T := T) (most := most) f refs sub nd true [] K.2 K.1 (Or.inl rfl)
  have e : (K.1, K.2) = K := rfl
  rw [e, h] at a
  obtain ⟨es, q, _⟩ := a
  exact ⟨es, q⟩
/-- a bound that isn't reached makes no difference -/
theorem lq_mo {g1 g2 : Int → Int → RK → Option RK} {cut : Bool} (hg : ∀ sub nd K K1, g1 sub nd K = some K1 → g2 sub nd K = some K1) : ∀ (L : List (Int × Int)) (a : Int) (K : RK) (r : Int × RK), lqR g1 cut L a K = some r → lqR g2 cut L a K = some r
  | [], a, K, r, h => h
  | (sub, nd) :: L, a, K, r, h => by
    have eR : ∀ g : Int → Int → RK → Option RK, lqR g cut ((sub, nd) :: L) a K = if sub = -1 then lqR g cut L a K else match g sub nd K with
      | none => none
      | some K1 => if cut = true then lqR g cut L (a + if K1.2.length = K.2.length then 1 else 0) (K1.1, K.2) else lqR g cut L a K1 := fun _ => rfl
    rw [eR] at h ⊢
    by_cases c : sub = -1
    · rw [if_pos c] at h ⊢
      exact lq_mo hg L a K r h
    · rw [if_neg c] at h ⊢
      cases e1 : g1 sub nd K with
      | none => rw [e1] at h; cases h
      | some K1 =>
        rw [e1] at h
        rw [hg sub nd K K1 e1]
        cases cut with
        | true => exact lq_mo hg L _ _ r h
        | false => exact lq_mo hg L _ _ r h
theorem wds_mo {g1 g2 : List (Int × Int) → Int → Int → RK → Option RK} (hg : ∀ refs sub nd K K1, g1 refs sub nd K = some K1 → g2 refs sub nd K = some K1) {refs : List (Int × Int)} {by_ node : Nat} : ∀ (m : Nat) (K K1 : RK), wdsR Sc T g1 refs by_ node m K = some K1 → wdsR Sc T g2 refs by_ node m K = some K1
  | 0, K, K1, h => h
  | m + 1, K, K1, h => by
    have eR : ∀ g, wdsR Sc T g refs by_ node (m + 1) K = match wdR Sc T g refs by_ node (15 - m) K with
      | none => none
      | some K1 => wdsR Sc T g refs by_ node m K1 := fun _ => rfl
    rw [eR] at h ⊢
    have ew : ∀ K2, wdR Sc T g1 refs by_ node (15 - m) K = some K2 → wdR Sc T g2 refs by_ node (15 - m) K = some K2 := by
      intro K2 h2
      unfold wdR at h2 ⊢
      split at h2
      · rename_i c
        rw [if_pos c]
        exact h2
      · rename_i c
        rw [if_neg c]
        split at h2
        · rename_i c2
          rw [if_pos c2]
          exact h2
        · rename_i c2
          rw [if_neg c2]
          generalize (15 - m) = w at *
          cases e1 : lqR (fun sub nd K => g1 (if w = 15 then refs ++ [(sub, (node : Int))] else refs) sub nd K) (decide (12 ≤ w ∧ w ≤ 14)) (qsL Sc T refs w by_ (vLk Sc (by_ : Int) (sx (30 + w))).toNat node) 0 K with
          | none => rw [e1] at h2; cases h2
          | some r =>
            rw [e1] at h2
            have := lq_mo (g2 := fun sub nd K => g2 (if w = 15 then refs ++ [(sub, (node : Int))] else refs) sub nd K) (fun sub nd K K1 hh => hg _ sub nd K K1 hh) _ _ _ _ e1
            rw [this]
            exact h2
    cases e1 : wdR Sc T g1 refs by_ node (15 - m) K with
    | none => rw [e1] at h; cases h
    | some K2 =>
      rw [e1] at h
      rw [ew K2 e1]
      exact wds_mo hg m K2 K1 h
theorem ask_mo {m1 m2 : Int} (hm : m1 ≤ m2) : ∀ (f : Nat) (refs : List (Int × Int)) (sub nd : Int) (K K1 : RK), askR Sc T m1 f refs sub nd K = some K1 → askR Sc T m2 f refs sub nd K = some K1
  | 0, _, _, _, _, _, h => by cases h
  | f + 1, refs, sub, nd, K, K1, h => by
    have eR : ∀ most, askR Sc T most (f + 1) refs sub nd K = if most < K.1 + 1 then none else if kdI Sc sub = 5 then wdsR Sc T (askR Sc T most f) refs sub.toNat nd.toNat 15 (K.1 + 1, K.2) else if kdI Sc sub = 1 ∧ np Sc sub.toNat = 1 then some (K.1 + 1, K.2) else some (K.1 + 1, K.2 ++ [(nd, 0)]) := fun _ => rfl
    rw [eR] at h ⊢
    by_cases c1 : m1 < K.1 + 1
    · rw [if_pos c1] at h; cases h
    · rw [if_neg c1] at h
      rw [if_neg (show ¬ m2 < K.1 + 1 by omega)]
      by_cases c2 : kdI Sc sub = 5
      · rw [if_pos c2] at h ⊢
        exact wds_mo (fun refs sub nd K K1 hh => ask_mo hm f refs sub nd K K1 hh) 15 _ _ h
      · rw [if_neg c2] at h ⊢
        exact h
end GRO
