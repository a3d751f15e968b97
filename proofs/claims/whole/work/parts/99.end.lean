/-! the claim -/
theorem i_vc : Claimed_1_1 ∧ Claimed_1_2 := whole_of eq_all rel_0
