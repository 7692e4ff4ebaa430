/-! p37: what is owed -/
theorem i_vc : Claimed_1_1 ∧ Claimed_1_2 := vc_of pure_all
