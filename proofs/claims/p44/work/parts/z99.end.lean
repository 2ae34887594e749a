/-! The end. -/
theorem z_law : jm_lawOk := fun L xs hL => law_all (X := (L, xs)) hL
theorem i_vc : Claimed_1_1 ∧ Claimed_1_2 := i_vc_of dq_dec z_law
