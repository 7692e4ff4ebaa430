/-! THE REFERENCE: places, PLAIN PATHS -/
theorem atK_in : ∀ (L : List Nat) (p : Int), 0 ≤ p → p < (L.length : Int) → atK L p = (L.getD p.toNat 0 : Int)
  | [], p, h1, h2 => by simp at h2; omega
  | k :: r, p, h1, h2 => by
    rw [List.length_cons] at h2
    unfold atK
    by_cases c : p = 0
    · subst c; rw [if_pos rfl]; rfl
    · rw [if_neg c, atK_in r (p - 1) (by omega) (by omega)]
      obtain ⟨q, hq⟩ : ∃ q : Nat, p = (q : Int) + 1 := ⟨(p - 1).toNat, by omega⟩
      rw [show p.toNat = q + 1 by omega, show (p - 1).toNat = q by omega]
      rfl
section RPL1
variable {S : GS} {d : Nat} {w : List Int}
variable {K : Nat} {V : List ND}
theorem kdI_n {g : Nat} (hg : g < V.length) : kdI V (g : Int) = nk V g := by
  unfold kdI
  rw [if_pos (by omega), Int.toNat_natCast]
theorem vLk_n {g : Nat} (hg : g < V.length) : vLk V (g : Int) w = if nk V g = 5 then fdK V w (kids V g) else -1 := by
  unfold vLk kidsM
  rw [if_pos (by omega), Int.toNat_natCast]
  by_cases c : nk V g = 5
  · rw [if_pos c, if_pos c]
  · rw [if_neg c, if_neg c]
    rfl
variable {l : List Int}
end RPL1
