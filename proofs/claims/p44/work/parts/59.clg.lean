-- uses 24.zar 25.obj 26.ops 27.ra 29.rc 34.gen 35.byt 36.ser 37.lnd 38.mod 39.mo2 40.mo3 41.bit 42.mo4 43.mo5 44.mo6 52.mof 53.cla 54.clb 55.clc 56.cld 57.cle 58.clf
/-! The class: what only asks, on. -/
theorem i6_lt0 {a : Int} (h1 : -9223372036854775808 ≤ a) (h2 : a < 9223372036854775808) : ((0 : Int64) < i6 a) = (0 < a) := i6_lt (a := 0) (by omega) (by omega) h1 h2
section CLG
variable {d : Nat} {X : Nat × (Nat → Int32)} {v w : Nat → Int → Int} {T c s : Nat}
variable {μ : Nat → Int → Int}
theorem cX11_size {i n q : Int} (h : LO v 14 μ) (hr : 1 ≤ μ 412 2 ∧ μ 412 2 ≤ 500) (hi : isI i) (hn : isI n) (hq : isI q) : cR (jm_env (d + 5) 103 [.ref 0, .int (i3 i), .int (i3 n), .int (i3 q)] (qM X v w T c s)) X v T c s eIB eIA (cd2 ((0 ≤ i ∧ i < μ 412 0) ∧ 0 ≤ n ∧ n < 10) (0 ≤ q ∧ q ≤ 9)) (sizA μ i n q) := by
  obtain ⟨hq0, hq1⟩ := hq
  obtain ⟨hi0, hi1⟩ := hi
  obtain ⟨hn0, hn1⟩ := hn
  obtain ⟨hln, ⟨⟨l0, l1, l2, l3⟩, -⟩, hg, hz⟩ := id h
  obtain ⟨hc0, hc1, he0, he1, -⟩ := id hg
  obtain ⟨hr0, hr1⟩ := hr
  by_cases g : (0 ≤ i ∧ i < μ 412 0) ∧ 0 ≤ n ∧ n < 10
  · obtain ⟨⟨g1, g2⟩, g3, g4⟩ := id g
    obtain ⟨i', rfl⟩ : ∃ i' : Nat, i = i' := ⟨i.toNat, (Int.toNat_of_nonneg g1).symm⟩
    obtain ⟨n', rfl⟩ : ∃ n' : Nat, n = n' := ⟨n.toNat, (Int.toNat_of_nonneg g3).symm⟩
    have g4' : n' < 10 := by omega
    have hkn := hg.k g1 g2 n' g3 g4
    have hsz := szM_b (hg.o g1 g2) n'
    by_cases g' : 0 ≤ q ∧ q ≤ 9
    · rw [cd2_0 g g']
      apply cR_0
      have : q = 0 ∨ q = 1 ∨ q = 2 ∨ q = 3 ∨ q = 4 ∨ q = 5 ∨ q = 6 ∨ q = 7 ∨ q = 8 ∨ q = 9 := by omega
      unfold sizA
      rcases this with rfl | rfl | rfl | rfl | rfl | rfl | rfl | rfl | rfl | rfl
      · simp (disch := first | assumption | omega) only [eX11_size, bX11_size_0, bX11_size_18_0, bX11_size_18_1, bX11_size_18_2, bX11_size_18_3, bX11_size_18_4, bX11_size_18_5, bX11_size_18_6, bX11_size_18_7, bX11_size_18_8, bX11_size_18_9, bX11_size_18_d, bX11_size_72, bX11_size_79, bX11_size_86, bX11_size_93, bX11_size_100, bX11_size_110, bX11_size_127, bX11_size_128, bX11_size_129, bX11_size_136, bX11_size_153, bX11_size_170, bX11_size_177, bX11_size_186, bX11_size_190, bX11_size_191, bX11_size_192, r11_5, r4_3, q4_3, g4_1, g4_0, i3_add, i3_sub, i3_mul, i3_neg, i6_add, i6_sub, i6_mul, i6_neg, i3_lt, i3_le, i3_eq, i6_lt, i6_eq, i3_div, i6_div, i6_i3, i3_i6, c6_lt, c6_ge, c6_gt, c6_le, c6_eq, i3_ite, i6_ite, ib_0, ib_z, ite_not, i1_0, i0_0, jB_1, jB_0, jB_ib, bI_v, bL_v, bD_v, bV_v, ob_s, ob_i, i3_ofNat, jx_e, bI_e, bL_e, bD_e, bV_e, i3_eq0, i6_eq0, if_mx, if_mn, if_true, if_false, not_true_eq_false, not_false_eq_true, Int.reduceEq, Int.reduceLT, Int.reduceLE, tX11_requireSize_0 h, Int.toNat_natCast, tX9_wideAt h]
        exact ⟨_, rfl⟩
      · simp (disch := first | assumption | omega) only [eX11_size, bX11_size_0, bX11_size_18_0, bX11_size_18_1, bX11_size_18_2, bX11_size_18_3, bX11_size_18_4, bX11_size_18_5, bX11_size_18_6, bX11_size_18_7, bX11_size_18_8, bX11_size_18_9, bX11_size_18_d, bX11_size_72, bX11_size_79, bX11_size_86, bX11_size_93, bX11_size_100, bX11_size_110, bX11_size_127, bX11_size_128, bX11_size_129, bX11_size_136, bX11_size_153, bX11_size_170, bX11_size_177, bX11_size_186, bX11_size_190, bX11_size_191, bX11_size_192, r11_5, r4_3, q4_3, g4_1, g4_0, i3_add, i3_sub, i3_mul, i3_neg, i6_add, i6_sub, i6_mul, i6_neg, i3_lt, i3_le, i3_eq, i6_lt, i6_eq, i3_div, i6_div, i6_i3, i3_i6, c6_lt, c6_ge, c6_gt, c6_le, c6_eq, i3_ite, i6_ite, ib_0, ib_z, ite_not, i1_0, i0_0, jB_1, jB_0, jB_ib, bI_v, bL_v, bD_v, bV_v, ob_s, ob_i, i3_ofNat, jx_e, bI_e, bL_e, bD_e, bV_e, i3_eq0, i6_eq0, if_mx, if_mn, if_true, if_false, not_true_eq_false, not_false_eq_true, Int.reduceEq, Int.reduceLT, Int.reduceLE, tX11_requireSize_0 h, Int.toNat_natCast, tX9_highAt h]
        exact ⟨_, rfl⟩
      · simp (disch := first | assumption | omega) only [eX11_size, bX11_size_0, bX11_size_18_0, bX11_size_18_1, bX11_size_18_2, bX11_size_18_3, bX11_size_18_4, bX11_size_18_5, bX11_size_18_6, bX11_size_18_7, bX11_size_18_8, bX11_size_18_9, bX11_size_18_d, bX11_size_72, bX11_size_79, bX11_size_86, bX11_size_93, bX11_size_100, bX11_size_110, bX11_size_127, bX11_size_128, bX11_size_129, bX11_size_136, bX11_size_153, bX11_size_170, bX11_size_177, bX11_size_186, bX11_size_190, bX11_size_191, bX11_size_192, r11_5, r4_3, q4_3, g4_1, g4_0, i3_add, i3_sub, i3_mul, i3_neg, i6_add, i6_sub, i6_mul, i6_neg, i3_lt, i3_le, i3_eq, i6_lt, i6_eq, i3_div, i6_div, i6_i3, i3_i6, c6_lt, c6_ge, c6_gt, c6_le, c6_eq, i3_ite, i6_ite, ib_0, ib_z, ite_not, i1_0, i0_0, jB_1, jB_0, jB_ib, bI_v, bL_v, bD_v, bV_v, ob_s, ob_i, i3_ofNat, jx_e, bI_e, bL_e, bD_e, bV_e, i3_eq0, i6_eq0, if_mx, if_mn, if_true, if_false, not_true_eq_false, not_false_eq_true, Int.reduceEq, Int.reduceLT, Int.reduceLE, tX11_requireSize_0 h, Int.toNat_natCast, tX9_areaAt h]
        exact ⟨_, rfl⟩
      · simp (disch := first | assumption | omega) only [eX11_size, bX11_size_0, bX11_size_18_0, bX11_size_18_1, bX11_size_18_2, bX11_size_18_3, bX11_size_18_4, bX11_size_18_5, bX11_size_18_6, bX11_size_18_7, bX11_size_18_8, bX11_size_18_9, bX11_size_18_d, bX11_size_72, bX11_size_79, bX11_size_86, bX11_size_93, bX11_size_100, bX11_size_110, bX11_size_127, bX11_size_128, bX11_size_129, bX11_size_136, bX11_size_153, bX11_size_170, bX11_size_177, bX11_size_186, bX11_size_190, bX11_size_191, bX11_size_192, r11_5, r4_3, q4_3, g4_1, g4_0, i3_add, i3_sub, i3_mul, i3_neg, i6_add, i6_sub, i6_mul, i6_neg, i3_lt, i3_le, i3_eq, i6_lt, i6_eq, i3_div, i6_div, i6_i3, i3_i6, c6_lt, c6_ge, c6_gt, c6_le, c6_eq, i3_ite, i6_ite, ib_0, ib_z, ite_not, i1_0, i0_0, jB_1, jB_0, jB_ib, bI_v, bL_v, bD_v, bV_v, ob_s, ob_i, i3_ofNat, jx_e, bI_e, bL_e, bD_e, bV_e, i3_eq0, i6_eq0, if_mx, if_mn, if_true, if_false, not_true_eq_false, not_false_eq_true, Int.reduceEq, Int.reduceLT, Int.reduceLE, tX11_requireSize_0 h, Int.toNat_natCast, tX9_sheetsAt h]
        exact ⟨_, rfl⟩
      · simp (disch := first | assumption | omega) only [eX11_size, bX11_size_0, bX11_size_18_0, bX11_size_18_1, bX11_size_18_2, bX11_size_18_3, bX11_size_18_4, bX11_size_18_5, bX11_size_18_6, bX11_size_18_7, bX11_size_18_8, bX11_size_18_9, bX11_size_18_d, bX11_size_72, bX11_size_79, bX11_size_86, bX11_size_93, bX11_size_100, bX11_size_110, bX11_size_127, bX11_size_128, bX11_size_129, bX11_size_136, bX11_size_153, bX11_size_170, bX11_size_177, bX11_size_186, bX11_size_190, bX11_size_191, bX11_size_192, r11_5, r4_3, q4_3, g4_1, g4_0, i3_add, i3_sub, i3_mul, i3_neg, i6_add, i6_sub, i6_mul, i6_neg, i3_lt, i3_le, i3_eq, i6_lt, i6_eq, i3_div, i6_div, i6_i3, i3_i6, c6_lt, c6_ge, c6_gt, c6_le, c6_eq, i3_ite, i6_ite, ib_0, ib_z, ite_not, i1_0, i0_0, jB_1, jB_0, jB_ib, bI_v, bL_v, bD_v, bV_v, ob_s, ob_i, i3_ofNat, jx_e, bI_e, bL_e, bD_e, bV_e, i3_eq0, i6_eq0, if_mx, if_mn, if_true, if_false, not_true_eq_false, not_false_eq_true, Int.reduceEq, Int.reduceLT, Int.reduceLE, tX11_requireSize_0 h, Int.toNat_natCast, tX9_sheetsAt h, l1]
        ((repeat' split) <;> first | exact ⟨_, rfl⟩ | (exfalso; omega))
      · simp (disch := first | assumption | omega) only [eX11_size, bX11_size_0, bX11_size_18_0, bX11_size_18_1, bX11_size_18_2, bX11_size_18_3, bX11_size_18_4, bX11_size_18_5, bX11_size_18_6, bX11_size_18_7, bX11_size_18_8, bX11_size_18_9, bX11_size_18_d, bX11_size_72, bX11_size_79, bX11_size_86, bX11_size_93, bX11_size_100, bX11_size_110, bX11_size_127, bX11_size_128, bX11_size_129, bX11_size_136, bX11_size_153, bX11_size_170, bX11_size_177, bX11_size_186, bX11_size_190, bX11_size_191, bX11_size_192, r11_5, r4_3, q4_3, g4_1, g4_0, i3_add, i3_sub, i3_mul, i3_neg, i6_add, i6_sub, i6_mul, i6_neg, i3_lt, i3_le, i3_eq, i6_lt, i6_eq, i3_div, i6_div, i6_i3, i3_i6, c6_lt, c6_ge, c6_gt, c6_le, c6_eq, i3_ite, i6_ite, ib_0, ib_z, ite_not, i1_0, i0_0, jB_1, jB_0, jB_ib, bI_v, bL_v, bD_v, bV_v, ob_s, ob_i, i3_ofNat, jx_e, bI_e, bL_e, bD_e, bV_e, i3_eq0, i6_eq0, if_mx, if_mn, if_true, if_false, not_true_eq_false, not_false_eq_true, Int.reduceEq, Int.reduceLT, Int.reduceLE, tX11_requireSize_0 h, Int.toNat_natCast, tX9_stripAt h]
        have e : stA μ i' n' = stB μ i' n' := by
          unfold stA stB
          by_cases q1 : 10 ≤ (n' : Int) + 1 ∨ aM μ i' ((n' : Int) + 1) = 0
          · rw [if_pos (Or.inr q1), if_pos q1]
          · rw [if_neg q1, if_neg]
            rintro (q2 | q2)
            · rcases q2 with q2 | q2
              · omega
              · exact q1 (Or.inr (aM_n hz g1 g2 g3 q2))
            · exact q1 q2
        rw [e]
        exact ⟨_, rfl⟩
      · simp (disch := first | assumption | omega) only [eX11_size, bX11_size_0, bX11_size_18_0, bX11_size_18_1, bX11_size_18_2, bX11_size_18_3, bX11_size_18_4, bX11_size_18_5, bX11_size_18_6, bX11_size_18_7, bX11_size_18_8, bX11_size_18_9, bX11_size_18_d, bX11_size_72, bX11_size_79, bX11_size_86, bX11_size_93, bX11_size_100, bX11_size_110, bX11_size_127, bX11_size_128, bX11_size_129, bX11_size_136, bX11_size_153, bX11_size_170, bX11_size_177, bX11_size_186, bX11_size_190, bX11_size_191, bX11_size_192, r11_5, r4_3, q4_3, g4_1, g4_0, i3_add, i3_sub, i3_mul, i3_neg, i6_add, i6_sub, i6_mul, i6_neg, i3_lt, i3_le, i3_eq, i6_lt, i6_eq, i3_div, i6_div, i6_i3, i3_i6, c6_lt, c6_ge, c6_gt, c6_le, c6_eq, i3_ite, i6_ite, ib_0, ib_z, ite_not, i1_0, i0_0, jB_1, jB_0, jB_ib, bI_v, bL_v, bD_v, bV_v, ob_s, ob_i, i3_ofNat, jx_e, bI_e, bL_e, bD_e, bV_e, i3_eq0, i6_eq0, if_mx, if_mn, if_true, if_false, not_true_eq_false, not_false_eq_true, Int.reduceEq, Int.reduceLT, Int.reduceLE, tX11_requireSize_0 h, Int.toNat_natCast, tX9_wideAt h, l0, sX11_usable]
        refine ⟨w, ?_⟩
        apply fin_i
        unfold usE
        split <;> omega
      · simp (disch := first | assumption | omega) only [eX11_size, bX11_size_0, bX11_size_18_0, bX11_size_18_1, bX11_size_18_2, bX11_size_18_3, bX11_size_18_4, bX11_size_18_5, bX11_size_18_6, bX11_size_18_7, bX11_size_18_8, bX11_size_18_9, bX11_size_18_d, bX11_size_72, bX11_size_79, bX11_size_86, bX11_size_93, bX11_size_100, bX11_size_110, bX11_size_127, bX11_size_128, bX11_size_129, bX11_size_136, bX11_size_153, bX11_size_170, bX11_size_177, bX11_size_186, bX11_size_190, bX11_size_191, bX11_size_192, r11_5, r4_3, q4_3, g4_1, g4_0, i3_add, i3_sub, i3_mul, i3_neg, i6_add, i6_sub, i6_mul, i6_neg, i3_lt, i3_le, i3_eq, i6_lt, i6_eq, i3_div, i6_div, i6_i3, i3_i6, c6_lt, c6_ge, c6_gt, c6_le, c6_eq, i3_ite, i6_ite, ib_0, ib_z, ite_not, i1_0, i0_0, jB_1, jB_0, jB_ib, bI_v, bL_v, bD_v, bV_v, ob_s, ob_i, i3_ofNat, jx_e, bI_e, bL_e, bD_e, bV_e, i3_eq0, i6_eq0, if_mx, if_mn, if_true, if_false, not_true_eq_false, not_false_eq_true, Int.reduceEq, Int.reduceLT, Int.reduceLE, tX11_requireSize_0 h, Int.toNat_natCast, tX9_highAt h, l0, sX11_usable]
        refine ⟨w, ?_⟩
        apply fin_i
        unfold usE
        split <;> omega
      · simp (disch := first | assumption | omega) only [eX11_size, bX11_size_0, bX11_size_18_0, bX11_size_18_1, bX11_size_18_2, bX11_size_18_3, bX11_size_18_4, bX11_size_18_5, bX11_size_18_6, bX11_size_18_7, bX11_size_18_8, bX11_size_18_9, bX11_size_18_d, bX11_size_72, bX11_size_79, bX11_size_86, bX11_size_93, bX11_size_100, bX11_size_110, bX11_size_127, bX11_size_128, bX11_size_129, bX11_size_136, bX11_size_153, bX11_size_170, bX11_size_177, bX11_size_186, bX11_size_190, bX11_size_191, bX11_size_192, r11_5, r4_3, q4_3, g4_1, g4_0, i3_add, i3_sub, i3_mul, i3_neg, i6_add, i6_sub, i6_mul, i6_neg, i3_lt, i3_le, i3_eq, i6_lt, i6_eq, i3_div, i6_div, i6_i3, i3_i6, c6_lt, c6_ge, c6_gt, c6_le, c6_eq, i3_ite, i6_ite, ib_0, ib_z, ite_not, i1_0, i0_0, jB_1, jB_0, jB_ib, bI_v, bL_v, bD_v, bV_v, ob_s, ob_i, i3_ofNat, jx_e, bI_e, bL_e, bD_e, bV_e, i3_eq0, i6_eq0, if_mx, if_mn, if_true, if_false, not_true_eq_false, not_false_eq_true, Int.reduceEq, Int.reduceLT, Int.reduceLE, tX11_requireSize_0 h, Int.toNat_natCast, tX9_supplyAt h]
        exact ⟨_, rfl⟩
      · simp (disch := first | assumption | omega) only [eX11_size, bX11_size_0, bX11_size_18_0, bX11_size_18_1, bX11_size_18_2, bX11_size_18_3, bX11_size_18_4, bX11_size_18_5, bX11_size_18_6, bX11_size_18_7, bX11_size_18_8, bX11_size_18_9, bX11_size_18_d, bX11_size_72, bX11_size_79, bX11_size_86, bX11_size_93, bX11_size_100, bX11_size_110, bX11_size_127, bX11_size_128, bX11_size_129, bX11_size_136, bX11_size_153, bX11_size_170, bX11_size_177, bX11_size_186, bX11_size_190, bX11_size_191, bX11_size_192, r11_5, r4_3, q4_3, g4_1, g4_0, i3_add, i3_sub, i3_mul, i3_neg, i6_add, i6_sub, i6_mul, i6_neg, i3_lt, i3_le, i3_eq, i6_lt, i6_eq, i3_div, i6_div, i6_i3, i3_i6, c6_lt, c6_ge, c6_gt, c6_le, c6_eq, i3_ite, i6_ite, ib_0, ib_z, ite_not, i1_0, i0_0, jB_1, jB_0, jB_ib, bI_v, bL_v, bD_v, bV_v, ob_s, ob_i, i3_ofNat, jx_e, bI_e, bL_e, bD_e, bV_e, i3_eq0, i6_eq0, if_mx, if_mn, if_true, if_false, not_true_eq_false, not_false_eq_true, Int.reduceEq, Int.reduceLT, Int.reduceLE, tX11_requireSize_0 h, Int.toNat_natCast, tX9_isVoid h]
        refine ⟨w, ?_⟩
        have ew := aM_w hz g1 g2 n'
        by_cases q1 : (szM μ i' n').1 = 0
        · rw [if_pos q1, if_pos (Or.inr (ew.mpr q1))]
        · rw [if_neg q1, if_neg]
          rintro (q2 | q2)
          · omega
          · exact q1 (ew.mp q2)
    · rw [cd2_2 g g']
      apply cR_2
      have q0 : q < 0 ∨ 9 < q := by omega
      simp (disch := first | assumption | omega) only [eX11_size, bX11_size_0, bX11_size_18_0, bX11_size_18_1, bX11_size_18_2, bX11_size_18_3, bX11_size_18_4, bX11_size_18_5, bX11_size_18_6, bX11_size_18_7, bX11_size_18_8, bX11_size_18_9, bX11_size_18_d, bX11_size_72, bX11_size_79, bX11_size_86, bX11_size_93, bX11_size_100, bX11_size_110, bX11_size_127, bX11_size_128, bX11_size_129, bX11_size_136, bX11_size_153, bX11_size_170, bX11_size_177, bX11_size_186, bX11_size_190, bX11_size_191, bX11_size_192, r11_5, r4_3, q4_3, g4_1, g4_0, i3_add, i3_sub, i3_mul, i3_neg, i6_add, i6_sub, i6_mul, i6_neg, i3_lt, i3_le, i3_eq, i6_lt, i6_eq, i3_div, i6_div, i6_i3, i3_i6, c6_lt, c6_ge, c6_gt, c6_le, c6_eq, i3_ite, i6_ite, ib_0, ib_z, ite_not, i1_0, i0_0, jB_1, jB_0, jB_ib, bI_v, bL_v, bD_v, bV_v, ob_s, ob_i, i3_ofNat, jx_e, bI_e, bL_e, bD_e, bV_e, i3_eq0, i6_eq0, if_mx, if_mn, if_true, if_false, not_true_eq_false, not_false_eq_true, Int.reduceEq, Int.reduceLT, Int.reduceLE, tX11_requireSize_0 h, Int.toNat_natCast, exc_q]
      exact ⟨_, rfl⟩
  · rw [cd2_1 g]
    apply cR_1
    simp (disch := first | assumption | omega) only [eX11_size, bX11_size_0, i3_add, i3_sub, i3_mul, i3_neg, i6_add, i6_sub, i6_mul, i6_neg, i3_lt, i3_le, i3_eq, i6_lt, i6_eq, i3_div, i6_div, i6_i3, i3_i6, c6_lt, c6_ge, c6_gt, c6_le, c6_eq, i3_ite, i6_ite, ib_0, ib_z, ite_not, i1_0, i0_0, jB_1, jB_0, jB_ib, bI_v, bL_v, bD_v, bV_v, ob_s, ob_i, i3_ofNat, jx_e, bI_e, bL_e, bD_e, bV_e, i3_eq0, i6_eq0, if_mx, if_mn, if_true, if_false, not_true_eq_false, not_false_eq_true, Int.reduceEq, Int.reduceLT, Int.reduceLE, tX11_requireSize_1 h]
    exact ⟨_, rfl⟩
theorem cX11_account {q B : Int} (h : LO v 14 μ) (hac : acOk μ B) (hB : B ≤ 1000000000000000000) (hq : isI q) : cR (jm_env (d + 3) 104 [.ref 0, .int (i3 q)] (qM X v w T c s)) X v T c s eIA eIA (cd1 (0 ≤ q ∧ q < 8)) (min 2147483647 (μ 412 (4 + q))) := by
  obtain ⟨hb0, hb1⟩ := hq
  obtain ⟨hln, ⟨-, ha, -⟩, -⟩ := id h
  by_cases g : 0 ≤ q ∧ q < 8
  · obtain ⟨g1, g2⟩ := id g
    have hx := hac q g1 g2
    have he := ha q g1 g2
    rw [cd1_0 g]
    apply cR_0
    simp (disch := first | assumption | omega) only [eX11_account, bX11_account_0, bX11_account_4, bX11_account_10, bX11_account_14, bX11_account_15, r11_5, r4_5, a4_5, w4_5, n4_5, i3_add, i3_sub, i3_mul, i3_neg, i6_add, i6_sub, i6_mul, i6_neg, i3_lt, i3_le, i3_eq, i6_lt, i6_eq, i3_div, i6_div, i6_i3, i3_i6, c6_lt, c6_ge, c6_gt, c6_le, c6_eq, i3_ite, i6_ite, ib_0, ib_z, ite_not, i1_0, i0_0, jB_1, jB_0, jB_ib, bI_v, bL_v, bD_v, bV_v, ob_s, ob_i, i3_ofNat, jx_e, bI_e, bL_e, bD_e, bV_e, i3_eq0, i6_eq0, if_mx, if_mn, if_true, if_false, not_true_eq_false, not_false_eq_true, Int.reduceEq, Int.reduceLT, Int.reduceLE, sX11_require_1, sX11_require_0, he, sX11_capped]
    ((repeat' split) <;> first | exact ⟨_, rfl⟩ | (exfalso; omega))
  · rw [cd1_1 g]
    apply cR_1
    simp (disch := first | assumption | omega) only [eX11_account, bX11_account_0, bX11_account_4, bX11_account_10, bX11_account_14, bX11_account_15, r11_5, r4_5, a4_5, w4_5, n4_5, i3_add, i3_sub, i3_mul, i3_neg, i6_add, i6_sub, i6_mul, i6_neg, i3_lt, i3_le, i3_eq, i6_lt, i6_eq, i3_div, i6_div, i6_i3, i3_i6, c6_lt, c6_ge, c6_gt, c6_le, c6_eq, i3_ite, i6_ite, ib_0, ib_z, ite_not, i1_0, i0_0, jB_1, jB_0, jB_ib, bI_v, bL_v, bD_v, bV_v, ob_s, ob_i, i3_ofNat, jx_e, bI_e, bL_e, bD_e, bV_e, i3_eq0, i6_eq0, if_mx, if_mn, if_true, if_false, not_true_eq_false, not_false_eq_true, Int.reduceEq, Int.reduceLT, Int.reduceLE, sX11_require_1, sX11_require_0, exc_q]
    ((repeat' split) <;> first | exact ⟨_, rfl⟩ | (exfalso; omega))
theorem cX11_gap {B : Int} (h : LO v 14 μ) (hac : acOk μ B) (hB : B ≤ 1000000000000000000) : jm_env (d + 3) 105 [.ref 0] (qM X v w T c s) = some (.inl (some (.long (i6 (if gapA μ < 0 then -gapA μ else gapA μ)))), (qM X v w T c s)) := by
  obtain ⟨hln, ⟨-, ha, -⟩, hg, -⟩ := id h
  have e0 : v (14 + 6) 0 = μ 412 4 := ha 0 (by omega) (by omega)
  have e1 : v (14 + 6) 1 = μ 412 5 := ha 1 (by omega) (by omega)
  have e2 : v (14 + 6) 2 = μ 412 6 := ha 2 (by omega) (by omega)
  have e3 : v (14 + 6) 3 = μ 412 7 := ha 3 (by omega) (by omega)
  have h0 : 0 ≤ μ 412 4 ∧ μ 412 4 ≤ B := hac 0 (by omega) (by omega)
  have h1 : 0 ≤ μ 412 5 ∧ μ 412 5 ≤ B := hac 1 (by omega) (by omega)
  have h2 : 0 ≤ μ 412 6 ∧ μ 412 6 ≤ B := hac 2 (by omega) (by omega)
  have h3 : 0 ≤ μ 412 7 ∧ μ 412 7 ≤ B := hac 3 (by omega) (by omega)
  have h4 := areaG_b hg (μ 412 0).toNat (by have := hg.1; omega)
  simp (disch := first | assumption | omega) only [eX11_gap, bX11_gap_0, r11_5, r4_5, a4_5, w4_5, n4_5, i3_add, i3_sub, i3_mul, i3_neg, i6_add, i6_sub, i6_mul, i6_neg, i3_lt, i3_le, i3_eq, i6_lt, i6_eq, i3_div, i6_div, i6_i3, i3_i6, c6_lt, c6_ge, c6_gt, c6_le, c6_eq, i3_ite, i6_ite, ib_0, ib_z, ite_not, i1_0, i0_0, jB_1, jB_0, jB_ib, bI_v, bL_v, bD_v, bV_v, ob_s, ob_i, i3_ofNat, jx_e, bI_e, bL_e, bD_e, bV_e, i3_eq0, i6_eq0, if_mx, if_mn, if_true, if_false, not_true_eq_false, not_false_eq_true, Int.reduceEq, Int.reduceLT, Int.reduceLE, e0, e1, e2, e3, tX4_areaInAll h, i6_lt0]
  unfold gapA
  (repeat' split) <;> first | (apply fin_l; omega) | (exfalso; omega)
theorem cX11_mostFolds {i n : Int} (h : LO v 14 μ) (hi : isI i) (hn : isI n) : cR (jm_env (d + 3) 106 [.ref 0, .int (i3 i), .int (i3 n)] (qM X v w T c s)) X v T c s eIB eIB (cd1 ((0 ≤ i ∧ i < μ 412 0) ∧ 0 ≤ n ∧ n < 10)) (fdM μ i n) := by
  obtain ⟨hi0, hi1⟩ := hi
  obtain ⟨hn0, hn1⟩ := hn
  obtain ⟨hln, -, hg, hz⟩ := id h
  obtain ⟨hc0, hc1, he0, he1, -⟩ := id hg
  by_cases g : (0 ≤ i ∧ i < μ 412 0) ∧ 0 ≤ n ∧ n < 10
  · obtain ⟨⟨g1, g2⟩, g3, g4⟩ := id g
    obtain ⟨i', rfl⟩ : ∃ i' : Nat, i = i' := ⟨i.toNat, (Int.toNat_of_nonneg g1).symm⟩
    rw [cd1_0 g]
    apply cR_0
    simp (disch := first | assumption | omega) only [eX11_mostFolds, bX11_mostFolds_0, r11_5, r4_3, q4_3, i3_add, i3_sub, i3_mul, i3_neg, i6_add, i6_sub, i6_mul, i6_neg, i3_lt, i3_le, i3_eq, i6_lt, i6_eq, i3_div, i6_div, i6_i3, i3_i6, c6_lt, c6_ge, c6_gt, c6_le, c6_eq, i3_ite, i6_ite, ib_0, ib_z, ite_not, i1_0, i0_0, jB_1, jB_0, jB_ib, bI_v, bL_v, bD_v, bV_v, ob_s, ob_i, i3_ofNat, jx_e, bI_e, bL_e, bD_e, bV_e, i3_eq0, i6_eq0, if_mx, if_mn, if_true, if_false, not_true_eq_false, not_false_eq_true, Int.reduceEq, Int.reduceLT, Int.reduceLE, tX11_requireSize_0 h, Int.toNat_natCast, tX9_foldsAt h]
    exact ⟨_, rfl⟩
  · rw [cd1_1 g]
    apply cR_1
    simp (disch := first | assumption | omega) only [eX11_mostFolds, bX11_mostFolds_0, r11_5, r4_3, q4_3, i3_add, i3_sub, i3_mul, i3_neg, i6_add, i6_sub, i6_mul, i6_neg, i3_lt, i3_le, i3_eq, i6_lt, i6_eq, i3_div, i6_div, i6_i3, i3_i6, c6_lt, c6_ge, c6_gt, c6_le, c6_eq, i3_ite, i6_ite, ib_0, ib_z, ite_not, i1_0, i0_0, jB_1, jB_0, jB_ib, bI_v, bL_v, bD_v, bV_v, ob_s, ob_i, i3_ofNat, jx_e, bI_e, bL_e, bD_e, bV_e, i3_eq0, i6_eq0, if_mx, if_mn, if_true, if_false, not_true_eq_false, not_false_eq_true, Int.reduceEq, Int.reduceLT, Int.reduceLE, tX11_requireSize_1 h]
    exact ⟨_, rfl⟩
theorem cX11_fitting {a b : Int} (h : LO v 14 μ) (ha : isI a) (hb : isI b) : cR (jm_env (d + 5) 111 [.ref 0, .int (i3 a), .int (i3 b)] (qM X v w T c s)) X v T c s eIA eIA (cd1 ((1 ≤ a ∧ a ≤ 2000) ∧ 1 ≤ b ∧ b ≤ 2000)) (fo2 (fitG μ a b) 0 (μ 412 0).toNat) := by
  obtain ⟨ha0, ha1⟩ := ha
  obtain ⟨hb0, hb1⟩ := hb
  by_cases g : (1 ≤ a ∧ a ≤ 2000) ∧ 1 ≤ b ∧ b ≤ 2000
  · obtain ⟨⟨g1, g2⟩, g3, g4⟩ := id g
    obtain ⟨w', e, hp, -⟩ := tX5_make (d := d) (X := X) (T := T) (c := c) (s := s) (w := w) h (num := 1) g1 g2 g3 g4 (by omega) (by omega)
    rw [cd1_0 g]
    apply cR_0
    simp (disch := first | assumption | omega) only [eX11_fitting, bX11_fitting_0, bX11_fitting_7, bX11_fitting_14, bX11_fitting_18, bX11_fitting_19, r11_11, r11_5, g5_8, i3_add, i3_sub, i3_mul, i3_neg, i6_add, i6_sub, i6_mul, i6_neg, i3_lt, i3_le, i3_eq, i6_lt, i6_eq, i3_div, i6_div, i6_i3, i3_i6, c6_lt, c6_ge, c6_gt, c6_le, c6_eq, i3_ite, i6_ite, ib_0, ib_z, ite_not, i1_0, i0_0, jB_1, jB_0, jB_ib, bI_v, bL_v, bD_v, bV_v, ob_s, ob_i, i3_ofNat, jx_e, bI_e, bL_e, bD_e, bV_e, i3_eq0, i6_eq0, if_mx, if_mn, if_true, if_false, not_true_eq_false, not_false_eq_true, Int.reduceEq, Int.reduceLT, Int.reduceLE, sX11_isSide, sX11_require_1, e, hp.2.2.2.2.2.2.1]
    rw [if_pos ⟨g1, g2⟩, if_pos ⟨g3, g4⟩]
    exact ⟨_, rfl⟩
  · rw [cd1_1 g]
    apply cR_1
    simp (disch := first | assumption | omega) only [eX11_fitting, bX11_fitting_0, bX11_fitting_7, bX11_fitting_14, bX11_fitting_18, bX11_fitting_19, i3_add, i3_sub, i3_mul, i3_neg, i6_add, i6_sub, i6_mul, i6_neg, i3_lt, i3_le, i3_eq, i6_lt, i6_eq, i3_div, i6_div, i6_i3, i3_i6, c6_lt, c6_ge, c6_gt, c6_le, c6_eq, i3_ite, i6_ite, ib_0, ib_z, ite_not, i1_0, i0_0, jB_1, jB_0, jB_ib, bI_v, bL_v, bD_v, bV_v, ob_s, ob_i, i3_ofNat, jx_e, bI_e, bL_e, bD_e, bV_e, i3_eq0, i6_eq0, if_mx, if_mn, if_true, if_false, not_true_eq_false, not_false_eq_true, Int.reduceEq, Int.reduceLT, Int.reduceLE, sX11_isSide, sX11_require_0, exc_q]
    by_cases g1 : 1 ≤ a ∧ a ≤ 2000
    · rw [if_pos g1, if_neg (fun q => g ⟨g1, q⟩)]
      exact ⟨_, rfl⟩
    · rw [if_neg g1]
      exact ⟨_, rfl⟩
end CLG
