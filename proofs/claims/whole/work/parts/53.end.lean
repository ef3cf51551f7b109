theorem i_vc : Claimed_1_1 ∧ Claimed_1_2 := zz_i_vc_of pr_pure
