/-! THE REFERENCE: copies; a linked document told loosely -/
theorem sg_selT {T : List ND} (h : TR T) : sg T 0 = T := by
  unfold sg seg
  have : nz T 0 = T.length := h.2.2
  rw [this, List.drop_zero, List.take_length]
