theorem i_vc : Claimed_1_1 ∧ Claimed_1_2 := sa_claim (goal_of_sky sky_ok)
