/-! The end (open). -/
theorem z_law : jm_lawOk := sorry
theorem i_vc : Claimed_1_1 ∧ Claimed_1_2 := i_vc_of dq_dec z_law
