/-! the claim -/
theorem i_vc : Claimed_1_1 ∧ Claimed_1_2 := lw_claim (z_pure gr_adH)
