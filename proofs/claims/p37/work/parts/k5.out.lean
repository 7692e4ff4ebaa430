/-! THE REFERENCE: writing, sign by sign -/
section ROU
variable {S : GS} {d t : Nat} {l : List Int}
theorem wnum_99 {v : Int} (hv : -99 ≤ v ∧ v ≤ 99) : wnum v = (if v < 0 then [45] else []) ++ ((if 9 < max v (-v) then [48 + max v (-v) / 10] else []) ++ [48 + max v (-v) % 10]) := by
  unfold wnum
  rw [if_neg (show ¬ 99 < max v (-v) by omega), List.append_nil]
  by_cases c : 9 < max v (-v)
  · rw [if_pos c, if_pos c, show max v (-v) / 10 % 10 = max v (-v) / 10 by omega, List.append_assoc]
  · rw [if_neg c, if_neg c, List.append_assoc]
end ROU