/-! THE REFERENCE: ORDERS are laid -/
/-- an ORDER, if it leaves a DOCUMENT -/
def loS (U : List ND) (c : Nat) (V : List ND) : Option (List ND) := match lyS U c V with
  | none => none
  | some T => if pOK T then some T else none
theorem doc_ok {V : List ND} (h : DOC V) : pOK V := ⟨h.2.2.1, h.2.1 13⟩
theorem lyP_ky {l : List Int} {V t : List ND} {p : List Int} : lyP l V (kyT t p) = lyP l V t := rfl
/-- what an ORDER does, by its number -/
theorem lyS_op {U V : List ND} {c : Nat} (hU : TR U ∧ PZL U) (hV : DOC V) : loS U c V = if opN U c = -1 then none
    else if opN U c = 0 then lyP (tI U (wyI U c)) V (sg U (vaI U c).toNat)
    else if opN U c = 1 then lyC (tI U (wyI U c)) V
    else if opN U c = 2 then (if ldT (tI U (wyI U c)) V (nW (tI U (wyI U c))) = -1 then none else if pOK (updF (fun t => kyT (sg U (vaI U c).toNat) (rq t)) V.length V (ldT (tI U (wyI U c)) V (nW (tI U (wyI U c)))).toNat) then some (updF (fun t => kyT (sg U (vaI U c).toNat) (rq t)) V.length V (ldT (tI U (wyI U c)) V (nW (tI U (wyI U c)))).toNat) else none)
    else if opN U c = 3 then (if ldT (tI U (frI U c)) V (nW (tI U (frI U c))) = -1 then none else match lyC (tI U (frI U c)) V with
      | none => none
      | some V1 => lyP (tI U (wyI U c)) V1 (sg V (ldT (tI U (frI U c)) V (nW (tI U (frI U c)))).toNat))
    else if opN U c = 4 then (if ldT (tI U (frI U c)) V (nW (tI U (frI U c))) = -1 then none else lyP (tI U (wyI U c)) V (sg V (ldT (tI U (frI U c)) V (nW (tI U (frI U c)))).toNat))
    else (if ldT (tI U (wyI U c)) V (nW (tI U (wyI U c))) = -1 then none else if smJ 13 V (ldT (tI U (wyI U c)) V (nW (tI U (wyI U c)))).toNat U (vaI U c) then some V else none) := by
  have lyPp : ∀ (l : List Int) (V t : List ND), (match lyP l V t with | none => none | some T => if pOK T then some T else none : Option (List ND)) = lyP l V t := by
    intro l V t
    unfold lyP
    cases aimS l V with
    | none => rfl
    | some z =>
      dsimp only
      by_cases c : pOK (putT l V z t)
      · rw [if_pos c]
        dsimp only
        rw [if_pos c]
      · rw [if_neg c]
  have lyCp : ∀ (l : List Int), (match lyC l V with | none => none | some T => if pOK T then some T else none : Option (List ND)) = lyC l V := by
    intro l
    cases e : lyC l V with
    | none => rfl
    | some T =>
      dsimp only
      rw [if_pos (doc_ok (lyC_doc hV e))]
  have kN : ∀ q : List Int, vLk U (c : Int) q = -1 ∨ (c < U.length ∧ nk U c = 5) := fun q => by
    by_cases hc : c < U.length
    · by_cases h5 : nk U c = 5
      · exact Or.inr ⟨hc, h5⟩
      · left
        rw [vLk_n hc, if_neg h5]
    · left
      unfold vLk kidsM
      rw [if_neg (by omega)]
  have s25 : opK (sx 25) = 1 := opK_at 1 (by decide)
  have s26 : opK (sx 26) = 0 := opK_at 0 (by decide)
  have s21 : opK (sx 21) = 2 := opK_at 2 (by decide)
  have s28 : opK (sx 28) = 3 := opK_at 3 (by decide)
  have s29 : opK (sx 29) = 4 := opK_at 4 (by decide)
  have s30 : opK (sx 30) = 5 := opK_at 5 (by decide)
  unfold loS lyS
  by_cases c1 : kdI U (opI U c) ≠ 3 ∨ ¬ (kdI U (wyI U c) = 3 ∧ isP (tI U (wyI U c)))
  · rw [if_pos c1]
    have e : opN U c = -1 := by
      unfold opN
      rw [if_neg (fun z => c1.elim (fun y => y z.2.1) (fun y => y ⟨z.1.2.1, z.1.2.2⟩))]
    rw [e, if_pos (show (-1 : Int) = -1 from rfl)]
  rw [if_neg c1]
  have k1 : kdI U (opI U c) = 3 := by
    by_cases z : kdI U (opI U c) = 3
    · exact z
    · exact absurd (Or.inl z) c1
  have k2 : kdI U (wyI U c) = 3 ∧ isP (tI U (wyI U c)) := by
    by_cases z : kdI U (wyI U c) = 3 ∧ isP (tI U (wyI U c))
    · exact z
    · exact absurd (Or.inr z) c1
  have h5 : nk U c = 5 := by
    have m := kdI_m k1
    rcases kN (sx 22) with z | z
    · have : opI U c = -1 := z
      omega
    · exact z.2
  have eN : ∀ k : Int, opK (tI U (opI U c)) = k → opN U c = if tlQ U c k then k else -1 := fun k hk => by
    unfold opN
    rw [hk]
    by_cases ct : tlQ U c k
    · rw [if_pos ct, if_pos ⟨⟨h5, k2⟩, k1, ct⟩]
    · rw [if_neg ct, if_neg (fun z => ct z.2.2)]
  generalize eo : tI U (opI U c) = t at eN
  by_cases t25 : t = sx 25
  · rw [if_pos t25, lyCp]
    have e := eN 1 (by rw [t25]; exact s25)
    rw [if_pos (show tlQ U c 1 from (if_neg (show ¬ ((1 : Int) = 3 ∨ (1 : Int) = 4) by decide)).mpr (Or.inl rfl))] at e
    rw [e, if_neg (show ¬ ((1 : Int) = -1) by decide), if_neg (show ¬ ((1 : Int) = 0) by decide), if_pos (show (1 : Int) = 1 from rfl)]
  rw [if_neg t25]
  by_cases t28 : t = sx 28
  · rw [if_pos t28]
    have e := eN 3 (by rw [t28]; exact s28)
    have et : tlQ U c 3 = (kdI U (frI U c) = 3 ∧ isP (tI U (frI U c))) := if_pos (Or.inl rfl)
    by_cases ct : kdI U (frI U c) = 3 ∧ isP (tI U (frI U c))
    · rw [if_pos (by rw [et]; exact ct)] at e
      rw [e, if_neg (show ¬ ((3 : Int) = -1) by decide), if_neg (show ¬ ((3 : Int) = 0) by decide), if_neg (show ¬ ((3 : Int) = 1) by decide), if_neg (show ¬ ((3 : Int) = 2) by decide), if_pos (show (3 : Int) = 3 from rfl)]
      by_cases cl : ldT (tI U (frI U c)) V (nW (tI U (frI U c))) = -1
      · rw [if_neg (show ¬ hdOK U V c from fun z => z.2 cl), if_pos cl]
      · rw [if_pos (show hdOK U V c from ⟨ct, cl⟩), if_neg cl]
        cases lyC (tI U (frI U c)) V with
        | none => rfl
        | some V1 => exact lyPp _ V1 _
    · rw [if_neg (by rw [et]; exact ct)] at e
      rw [e, if_pos (show (-1 : Int) = -1 from rfl), if_neg (show ¬ hdOK U V c from fun z => ct z.1)]
  rw [if_neg t28]
  by_cases t29 : t = sx 29
  · rw [if_pos t29]
    have e := eN 4 (by rw [t29]; exact s29)
    have et : tlQ U c 4 = (kdI U (frI U c) = 3 ∧ isP (tI U (frI U c))) := if_pos (Or.inr rfl)
    by_cases ct : kdI U (frI U c) = 3 ∧ isP (tI U (frI U c))
    · rw [if_pos (by rw [et]; exact ct)] at e
      rw [e, if_neg (show ¬ ((4 : Int) = -1) by decide), if_neg (show ¬ ((4 : Int) = 0) by decide), if_neg (show ¬ ((4 : Int) = 1) by decide), if_neg (show ¬ ((4 : Int) = 2) by decide), if_neg (show ¬ ((4 : Int) = 3) by decide), if_pos (show (4 : Int) = 4 from rfl)]
      by_cases cl : ldT (tI U (frI U c)) V (nW (tI U (frI U c))) = -1
      · rw [if_neg (show ¬ hdOK U V c from fun z => z.2 cl), if_pos cl]
      · rw [if_pos (show hdOK U V c from ⟨ct, cl⟩), if_neg cl]
        exact lyPp _ V _
    · rw [if_neg (by rw [et]; exact ct)] at e
      rw [e, if_pos (show (-1 : Int) = -1 from rfl), if_neg (show ¬ hdOK U V c from fun z => ct z.1)]
  rw [if_neg t29]
  have tv : ∀ k : Int, k ≠ 1 → ¬ (k = 3 ∨ k = 4) → (tlQ U c k ↔ vaI U c ≠ -1) := fun k a b => by
    have e : tlQ U c k = (k = 1 ∨ vaI U c ≠ -1) := if_neg b
    rw [e]
    exact ⟨fun z => z.elim (fun y => absurd y a) id, Or.inr⟩
  by_cases cv : vaI U c = -1
  · rw [if_pos cv]
    have e : opN U c = -1 := by
      by_cases t26 : t = sx 26
      · rw [eN 0 (by rw [t26]; exact s26), if_neg (fun z => (tv 0 (by decide) (by decide)).mp z cv)]
      by_cases t21 : t = sx 21
      · rw [eN 2 (by rw [t21]; exact s21), if_neg (fun z => (tv 2 (by decide) (by decide)).mp z cv)]
      by_cases t30 : t = sx 30
      · rw [eN 5 (by rw [t30]; exact s30), if_neg (fun z => (tv 5 (by decide) (by decide)).mp z cv)]
      have en : opK t = -1 := by
        unfold opK
        rw [if_neg t26, if_neg t25, if_neg t21, if_neg t28, if_neg t29, if_neg t30]
      rw [eN (-1) en]
      split <;> rfl
    rw [e, if_pos (show (-1 : Int) = -1 from rfl)]
  rw [if_neg cv]
  by_cases t26 : t = sx 26
  · rw [if_pos t26]
    have e := eN 0 (by rw [t26]; exact s26)
    rw [if_pos ((tv 0 (by decide) (by decide)).mpr cv)] at e
    rw [e, if_neg (show ¬ ((0 : Int) = -1) by decide), if_pos (show (0 : Int) = 0 from rfl)]
    exact lyPp _ V _
  rw [if_neg t26]
  by_cases t21 : t = sx 21
  · rw [if_pos t21]
    have e := eN 2 (by rw [t21]; exact s21)
    rw [if_pos ((tv 2 (by decide) (by decide)).mpr cv)] at e
    rw [e, if_neg (show ¬ ((2 : Int) = -1) by decide), if_neg (show ¬ ((2 : Int) = 0) by decide), if_neg (show ¬ ((2 : Int) = 1) by decide), if_pos (show (2 : Int) = 2 from rfl)]
    by_cases cl : ldT (tI U (wyI U c)) V (nW (tI U (wyI U c))) = -1
    · rw [if_pos cl, if_pos cl]
    · rw [if_neg cl, if_neg cl]
  rw [if_neg t21]
  by_cases t30 : t = sx 30
  · rw [if_pos t30]
    have e := eN 5 (by rw [t30]; exact s30)
    rw [if_pos ((tv 5 (by decide) (by decide)).mpr cv)] at e
    rw [e, if_neg (show ¬ ((5 : Int) = -1) by decide), if_neg (show ¬ ((5 : Int) = 0) by decide), if_neg (show ¬ ((5 : Int) = 1) by decide), if_neg (show ¬ ((5 : Int) = 2) by decide), if_neg (show ¬ ((5 : Int) = 3) by decide), if_neg (show ¬ ((5 : Int) = 4) by decide)]
    by_cases cl : ldT (tI U (wyI U c)) V (nW (tI U (wyI U c))) = -1
    · rw [if_pos cl]
    · rw [if_neg cl]
      by_cases cs : smJ 13 V (ldT (tI U (wyI U c)) V (nW (tI U (wyI U c)))).toNat U (vaI U c) = true
      · rw [if_pos cs]
        dsimp only
        rw [if_pos (doc_ok hV)]
      · rw [if_neg cs]
  rw [if_neg t30]
  have en : opK t = -1 := by
    unfold opK
    rw [if_neg t26, if_neg t25, if_neg t21, if_neg t28, if_neg t29, if_neg t30]
  have e := eN (-1) en
  have e2 : opN U c = -1 := by rw [e]; split <;> rfl
  rw [e2, if_pos (show (-1 : Int) = -1 from rfl)]
/-- what is needed of an ORDER that is told -/
theorem opN_ok {U : List ND} {c : Nat} (h : opN U c ≠ -1) : (nk U c = 5 ∧ kdI U (wyI U c) = 3 ∧ isP (tI U (wyI U c))) ∧ tlQ U c (opN U c) ∧ 0 ≤ opN U c ∧ opN U c ≤ 5 := by
  unfold opN at h ⊢
  by_cases c1 : (nk U c = 5 ∧ kdI U (wyI U c) = 3 ∧ isP (tI U (wyI U c))) ∧ kdI U (opI U c) = 3 ∧ tlQ U c (opK (tI U (opI U c)))
  · rw [if_pos c1] at h ⊢
    have := opK_r (tI U (opI U c))
    exact ⟨c1.1, c1.2.2, by omega, by omega⟩
  · rw [if_neg c1] at h
    exact absurd rfl h
