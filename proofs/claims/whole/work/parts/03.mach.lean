theorem zz_try : ab_cn 0 = RX0 := rfl
theorem i_vc : Claimed_1_1 ∧ Claimed_1_2 := sorry
