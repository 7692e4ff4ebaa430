/-! THE REFERENCE: ORDERS as they are told -/
/-- what an ORDER's TEXT tells -/
def opsX (k : Nat) : Nat := if k = 0 then 26 else if k = 1 then 25 else if k = 2 then 21 else if k = 3 then 28 else if k = 4 then 29 else 30
def opK (t : List Int) : Int := if t = sx 26 then 0 else if t = sx 25 then 1 else if t = sx 21 then 2 else if t = sx 28 then 3 else if t = sx 29 then 4 else if t = sx 30 then 5 else -1
theorem opK_at : ∀ k, k < 6 → opK (sx (opsX k)) = ((k : Nat) : Int) := by decide +kernel
theorem opK_r (t : List Int) : -1 ≤ opK t ∧ opK t ≤ 5 := by
  unfold opK
  repeat' split
  all_goals decide
/-- whether there is what an ORDER needs besides -/
abbrev tlQ (U : List ND) (c : Nat) (k : Int) : Prop := if k = 3 ∨ k = 4 then (kdI U (frI U c) = 3 ∧ isP (tI U (frI U c))) else (k = 1 ∨ vaI U c ≠ -1)
def opN (U : List ND) (c : Nat) : Int := if (nk U c = 5 ∧ kdI U (wyI U c) = 3 ∧ isP (tI U (wyI U c))) ∧ kdI U (opI U c) = 3 ∧ tlQ U c (opK (tI U (opI U c))) then opK (tI U (opI U c)) else -1
section ROO
variable {S : GS} {d K : Nat} {U : List ND} {c : Nat}
theorem vl_at {q : List Int} (hU : TR U ∧ PZL U) (h : vLk U (c : Int) q ≠ -1) : ∃ v : Nat, vLk U (c : Int) q = (v : Int) ∧ v < U.length := by
  have := vLk_lt hU.1.1 (pz_l hU.2) h
  exact ⟨(vLk U (c : Int) q).toNat, by omega, by omega⟩
theorem kdI_m {i : Int} (h : kdI U i = 3) : 0 ≤ i ∧ i < (U.length : Int) := by
  unfold kdI at h
  by_cases c : 0 ≤ i ∧ i < (U.length : Int)
  · exact c
  · rw [if_neg c] at h
    exact absurd h (by decide)
end ROO
