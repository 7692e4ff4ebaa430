/-! THE REFERENCE reads: a NUMBER as it is kept -/
theorem lzF_end : ∀ (l : List Int), lzF l < l.length → l.getD (lzF l) 0 ≠ 48
  | [], h => by cases h
  | x :: l, h => by
    rw [lzF_cons] at h ⊢
    by_cases c : x = 48
    · rw [if_pos c, List.length_cons] at h
      rw [if_pos c]
      exact lzF_end l (by omega)
    · rw [if_neg c]
      exact c
