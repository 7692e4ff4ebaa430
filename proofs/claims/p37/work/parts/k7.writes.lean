/-! THE REFERENCE: writing VALUES -/
theorem wr_leaf {T : List ND} {f : Nat} {w : Int} {ind : Nat} (h : rk T < 4) : wrF f w ind T = wsc T := by
  cases f with
  | zero => rfl
  | succ f => unfold wrF; rw [if_pos h]
