/-! THE REFERENCE turns one ORDER of a PATCH round -/
theorem opN_t {U : List ND} {c k : Nat} (hk : k < 6) (h : opN U c = (k : Int)) : tI U (opI U c) = sx (opsX k) := by
  unfold opN at h
  by_cases c1 : (nk U c = 5 ∧ kdI U (wyI U c) = 3 ∧ isP (tI U (wyI U c))) ∧ kdI U (opI U c) = 3 ∧ tlQ U c (opK (tI U (opI U c)))
  · rw [if_pos c1] at h
    unfold opK at h
    by_cases e0 : tI U (opI U c) = sx 26
    · rw [if_pos e0] at h
      have k0 : k = 0 := by omega
      subst k0; exact e0
    rw [if_neg e0] at h
    by_cases e1 : tI U (opI U c) = sx 25
    · rw [if_pos e1] at h
      have k0 : k = 1 := by omega
      subst k0; exact e1
    rw [if_neg e1] at h
    by_cases e2 : tI U (opI U c) = sx 21
    · rw [if_pos e2] at h
      have k0 : k = 2 := by omega
      subst k0; exact e2
    rw [if_neg e2] at h
    by_cases e3 : tI U (opI U c) = sx 28
    · rw [if_pos e3] at h
      have k0 : k = 3 := by omega
      subst k0; exact e3
    rw [if_neg e3] at h
    by_cases e4 : tI U (opI U c) = sx 29
    · rw [if_pos e4] at h
      have k0 : k = 4 := by omega
      subst k0; exact e4
    rw [if_neg e4] at h
    by_cases e5 : tI U (opI U c) = sx 30
    · rw [if_pos e5] at h
      have k0 : k = 5 := by omega
      subst k0; exact e5
    rw [if_neg e5] at h
    omega
  · rw [if_neg c1] at h
    omega
/-- what turns an ORDER round, by its number -/
theorem unL_op {U V : List ND} {c k : Nat} (hk : k < 6) (h : opN U c = (k : Int)) : unL U c V =
    if k = 1 then [(26, tI U (wyI U c), [sg V (ldT (tI U (wyI U c)) V (nW (tI U (wyI U c)))).toNat])]
    else if k = 3 then puL (tI U (wyI U c)) (cutT V (ldT (tI U (frI U c)) V (nW (tI U (frI U c)))).toNat) ++ [(26, tI U (frI U c), [sg V (ldT (tI U (frI U c)) V (nW (tI U (frI U c)))).toNat])]
    else if k = 4 ∨ k = 0 then puL (tI U (wyI U c)) V
    else if k = 2 then [(21, tI U (wyI U c), [sg V (ldT (tI U (wyI U c)) V (nW (tI U (wyI U c)))).toNat])]
    else [(30, tI U (wyI U c), [sg U (vaI U c).toNat])] := by
  have e := opN_t hk h
  unfold unL
  rw [e]
  have k6 : k = 0 ∨ k = 1 ∨ k = 2 ∨ k = 3 ∨ k = 4 ∨ k = 5 := by omega
  rcases k6 with z | z | z | z | z | z <;> subst z
  · rw [if_neg (show ¬ sx (opsX 0) = sx 25 by decide), if_neg (show ¬ sx (opsX 0) = sx 28 by decide), if_pos (show sx (opsX 0) = sx 29 ∨ sx (opsX 0) = sx 26 by decide)]
    rfl
  · rw [if_pos (show sx (opsX 1) = sx 25 by decide)]
    rfl
  · rw [if_neg (show ¬ sx (opsX 2) = sx 25 by decide), if_neg (show ¬ sx (opsX 2) = sx 28 by decide), if_neg (show ¬ (sx (opsX 2) = sx 29 ∨ sx (opsX 2) = sx 26) by decide), if_pos (show sx (opsX 2) = sx 21 by decide)]
    rfl
  · rw [if_neg (show ¬ sx (opsX 3) = sx 25 by decide), if_pos (show sx (opsX 3) = sx 28 by decide)]
    rfl
  · rw [if_neg (show ¬ sx (opsX 4) = sx 25 by decide), if_neg (show ¬ sx (opsX 4) = sx 28 by decide), if_pos (show sx (opsX 4) = sx 29 ∨ sx (opsX 4) = sx 26 by decide)]
    rfl
  · rw [if_neg (show ¬ sx (opsX 5) = sx 25 by decide), if_neg (show ¬ sx (opsX 5) = sx 28 by decide), if_neg (show ¬ (sx (opsX 5) = sx 29 ∨ sx (opsX 5) = sx 26) by decide), if_neg (show ¬ sx (opsX 5) = sx 21 by decide)]
    rfl
