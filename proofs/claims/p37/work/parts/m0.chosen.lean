/-! THE REFERENCE's take, sorted, both -/
section CHS
variable {d F K : Nat} {V : List ND} {w : Int}
theorem wo_dp : ∀ (f : Nat) (T : List ND) (b : Int), SDC T → T.length ≤ 100 → (∀ g, dpS g T ≤ b) → ∀ g, dpS g (woF w f T) ≤ b
  | 0, T, b, _, _, h, g => h g
  | f + 1, T, b, hT, hl, h, g => by
    have b0 : 0 ≤ b := Int.le_trans dp_0 (h 0)
    unfold woF
    by_cases c : 4 ≤ rk T
    · rw [if_pos c]
      have b1 : 1 ≤ b := by
        have := h 0
        unfold dpS at this
        rw [if_pos c] at this
        exact this
      obtain ⟨b', rfl⟩ : ∃ b', b = b' + 1 := ⟨b - 1, by omega⟩
      have kk : ∀ t ∈ koS w T, SDC t ∧ t.length ≤ 100 ∧ ∀ g, dpS g t ≤ b' := fun t ht => by
        have := koS_mem t ht
        have l := mem_len this
        have l2 := len_kd hT.1
        exact ⟨sdc_kd hT this, by omega, dp_kd h c this⟩
      refine dp_gp (by omega) (fun u hu => ?_) (fun u hu => ?_) g
      · obtain ⟨t, ht, rfl⟩ := List.mem_map.mp hu
        exact (wo_sdc f t (kk t ht).1 (kk t ht).2.1).1.1
      · obtain ⟨t, ht, rfl⟩ := List.mem_map.mp hu
        exact wo_dp f t b' (kk t ht).1 (kk t ht).2.1 (kk t ht).2.2
    · rw [if_neg c]
      exact h g
end CHS
