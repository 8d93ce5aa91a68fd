/-! WHAT IS OWED -/
theorem i_vc : Claimed_1_1 ∧ Claimed_1_2 := i_vc_of law_start
