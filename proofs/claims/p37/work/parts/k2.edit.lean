/-! THE REFERENCE: PUT and CUT -/
theorem apM_some {W : List ND} (h : W.length ≤ 100) : apM (some []) W = some W := by
  unfold apM
  dsimp only
  rw [if_pos (by rw [List.length_nil]; omega)]
  rfl
theorem apM_none {W : List ND} (h : 100 < W.length) : apM (some []) W = none := by
  unfold apM
  dsimp only
  rw [if_neg (by rw [List.length_nil]; omega)]
