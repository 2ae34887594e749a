-- uses 24.zar 25.obj 26.ops 27.ra 29.rc 34.gen 35.byt 36.ser 37.lnd 38.mod 39.mo2 40.mo3 44.mo6 45.mo7 46.mo8 47.mo9 48.moa 49.mob 50.moc 51.moe 52.mof 53.cla 54.clb 55.clc 56.cld 57.cle 58.clf 61.cli 62.clj 63.clk 64.okm 65.cll 66.clm 67.okf 68.okg 69.cln 70.clo
/-! The class: the calls that change the land. -/
section CLPP
variable {d : Nat} {X : Nat × (Nat → Int32)} {v w : Nat → Int → Int} {T c s : Nat}
variable {μ : Nat → Int → Int} {m : Int}
theorem cX11_buy (h : LQ v μ m) (hm : 0 ≤ m) {i n r : Int} (hi : isI i) (hn : isI n) (hr : isI r) : cW (jm_env (d + 5) 113 [.ref 0, .int (i3 i), .int (i3 n), .int (i3 r)] (qM X v w T c s)) X v T c s eIB eIA (cd2 ((0 ≤ i ∧ i < μ 412 0) ∧ 0 ≤ n ∧ n < 10) (1 ≤ r ∧ r ≤ 99)) (byR μ i n r) (fun v' => LQ v' (trV μ (byR μ i n r) (byV μ i n r)) (m + 1) ∧ frL v' v) := by
  obtain ⟨hr0, hr1⟩ := hr
  obtain ⟨hi0, hi1⟩ := hi
  obtain ⟨hn0, hn1⟩ := hn
  have hlo := h.lo
  by_cases g : (0 ≤ i ∧ i < μ 412 0) ∧ 0 ≤ n ∧ n < 10
  · obtain ⟨⟨g1, g2⟩, g3, g4⟩ := id g
    by_cases g' : 1 ≤ r ∧ r ≤ 99
    · obtain ⟨g5, g6⟩ := id g'
      obtain ⟨v', e, hq, hf⟩ := tX11_doBuy (d := d) (X := X) (T := T) (c := c) (s := s) (w := w) h hm (z := 1) g1 g2 g3 g4 g5 g6 (Or.inr rfl)
      rw [cd2_0 g g']
      apply cW_0
      refine ⟨v', w, ?_, hq, hf⟩
      simp (disch := first | assumption | omega) only [eX11_buy, bX11_buy_0, bX11_buy_11, bX11_buy_17, bX11_buy_21, bX11_buy_22, i3_add, i3_sub, i3_mul, i3_neg, i6_add, i6_sub, i6_mul, i6_neg, i3_lt, i3_le, i3_eq, i6_lt, i6_eq, i3_div, i6_div, i6_i3, i3_i6, c6_lt, c6_ge, c6_gt, c6_le, c6_eq, i3_ite, i6_ite, ib_0, ib_z, ite_not, i1_0, i0_0, jB_1, jB_0, jB_ib, bI_v, bL_v, bD_v, bV_v, ob_s, ob_i, i3_ofNat, jx_e, bI_e, bL_e, bD_e, bV_e, i3_eq0, i6_eq0, if_mx, if_mn, if_true, if_false, not_true_eq_false, not_false_eq_true, Int.reduceEq, Int.reduceLT, Int.reduceLE, tX11_requireSize_0 hlo, sX11_require_1, sX11_require_0, e]
      (repeat' split) <;> first | rfl | (exfalso; omega)
    · rw [cd2_2 g g']
      apply cW_2
      simp (disch := first | assumption | omega) only [eX11_buy, bX11_buy_0, bX11_buy_11, bX11_buy_17, bX11_buy_21, bX11_buy_22, i3_add, i3_sub, i3_mul, i3_neg, i6_add, i6_sub, i6_mul, i6_neg, i3_lt, i3_le, i3_eq, i6_lt, i6_eq, i3_div, i6_div, i6_i3, i3_i6, c6_lt, c6_ge, c6_gt, c6_le, c6_eq, i3_ite, i6_ite, ib_0, ib_z, ite_not, i1_0, i0_0, jB_1, jB_0, jB_ib, bI_v, bL_v, bD_v, bV_v, ob_s, ob_i, i3_ofNat, jx_e, bI_e, bL_e, bD_e, bV_e, i3_eq0, i6_eq0, if_mx, if_mn, if_true, if_false, not_true_eq_false, not_false_eq_true, Int.reduceEq, Int.reduceLT, Int.reduceLE, tX11_requireSize_0 hlo, sX11_require_0, exc_q]
      ((repeat' split) <;> first | exact ⟨_, rfl⟩ | (exfalso; omega))
  · rw [cd2_1 g]
    apply cW_1
    simp (disch := first | assumption | omega) only [eX11_buy, bX11_buy_0, i3_add, i3_sub, i3_mul, i3_neg, i6_add, i6_sub, i6_mul, i6_neg, i3_lt, i3_le, i3_eq, i6_lt, i6_eq, i3_div, i6_div, i6_i3, i3_i6, c6_lt, c6_ge, c6_gt, c6_le, c6_eq, i3_ite, i6_ite, ib_0, ib_z, ite_not, i1_0, i0_0, jB_1, jB_0, jB_ib, bI_v, bL_v, bD_v, bV_v, ob_s, ob_i, i3_ofNat, jx_e, bI_e, bL_e, bD_e, bV_e, i3_eq0, i6_eq0, if_mx, if_mn, if_true, if_false, not_true_eq_false, not_false_eq_true, Int.reduceEq, Int.reduceLT, Int.reduceLE, tX11_requireSize_1 hlo]
    exact ⟨_, rfl⟩
theorem cX11_cut (h : LQ v μ m) (hm : 0 ≤ m) {i n r : Int} (hi : isI i) (hn : isI n) (hr : isI r) : cW (jm_env (d + 5) 114 [.ref 0, .int (i3 i), .int (i3 n), .int (i3 r)] (qM X v w T c s)) X v T c s eIB eIA (cd2 ((0 ≤ i ∧ i < μ 412 0) ∧ 0 ≤ n ∧ n < 10) (1 ≤ r ∧ r ≤ 9999)) (ctR μ i n r) (fun v' => LQ v' (trV μ (ctR μ i n r) (ctV μ i n r)) (m + 1) ∧ frL v' v) := by
  obtain ⟨hr0, hr1⟩ := hr
  obtain ⟨hi0, hi1⟩ := hi
  obtain ⟨hn0, hn1⟩ := hn
  have hlo := h.lo
  by_cases g : (0 ≤ i ∧ i < μ 412 0) ∧ 0 ≤ n ∧ n < 10
  · obtain ⟨⟨g1, g2⟩, g3, g4⟩ := id g
    by_cases g' : 1 ≤ r ∧ r ≤ 9999
    · obtain ⟨g5, g6⟩ := id g'
      obtain ⟨v', e, hq, hf⟩ := tX11_doCut (d := d) (X := X) (T := T) (c := c) (s := s) (w := w) h hm (z := 1) g1 g2 g3 g4 g5 g6 (Or.inr rfl)
      rw [cd2_0 g g']
      apply cW_0
      refine ⟨v', w, ?_, hq, hf⟩
      simp (disch := first | assumption | omega) only [eX11_cut, bX11_cut_0, bX11_cut_11, bX11_cut_18, bX11_cut_22, bX11_cut_23, i3_add, i3_sub, i3_mul, i3_neg, i6_add, i6_sub, i6_mul, i6_neg, i3_lt, i3_le, i3_eq, i6_lt, i6_eq, i3_div, i6_div, i6_i3, i3_i6, c6_lt, c6_ge, c6_gt, c6_le, c6_eq, i3_ite, i6_ite, ib_0, ib_z, ite_not, i1_0, i0_0, jB_1, jB_0, jB_ib, bI_v, bL_v, bD_v, bV_v, ob_s, ob_i, i3_ofNat, jx_e, bI_e, bL_e, bD_e, bV_e, i3_eq0, i6_eq0, if_mx, if_mn, if_true, if_false, not_true_eq_false, not_false_eq_true, Int.reduceEq, Int.reduceLT, Int.reduceLE, tX11_requireSize_0 hlo, sX11_require_1, sX11_require_0, e]
      (repeat' split) <;> first | rfl | (exfalso; omega)
    · rw [cd2_2 g g']
      apply cW_2
      simp (disch := first | assumption | omega) only [eX11_cut, bX11_cut_0, bX11_cut_11, bX11_cut_18, bX11_cut_22, bX11_cut_23, i3_add, i3_sub, i3_mul, i3_neg, i6_add, i6_sub, i6_mul, i6_neg, i3_lt, i3_le, i3_eq, i6_lt, i6_eq, i3_div, i6_div, i6_i3, i3_i6, c6_lt, c6_ge, c6_gt, c6_le, c6_eq, i3_ite, i6_ite, ib_0, ib_z, ite_not, i1_0, i0_0, jB_1, jB_0, jB_ib, bI_v, bL_v, bD_v, bV_v, ob_s, ob_i, i3_ofNat, jx_e, bI_e, bL_e, bD_e, bV_e, i3_eq0, i6_eq0, if_mx, if_mn, if_true, if_false, not_true_eq_false, not_false_eq_true, Int.reduceEq, Int.reduceLT, Int.reduceLE, tX11_requireSize_0 hlo, sX11_require_0, exc_q]
      ((repeat' split) <;> first | exact ⟨_, rfl⟩ | (exfalso; omega))
  · rw [cd2_1 g]
    apply cW_1
    simp (disch := first | assumption | omega) only [eX11_cut, bX11_cut_0, i3_add, i3_sub, i3_mul, i3_neg, i6_add, i6_sub, i6_mul, i6_neg, i3_lt, i3_le, i3_eq, i6_lt, i6_eq, i3_div, i6_div, i6_i3, i3_i6, c6_lt, c6_ge, c6_gt, c6_le, c6_eq, i3_ite, i6_ite, ib_0, ib_z, ite_not, i1_0, i0_0, jB_1, jB_0, jB_ib, bI_v, bL_v, bD_v, bV_v, ob_s, ob_i, i3_ofNat, jx_e, bI_e, bL_e, bD_e, bV_e, i3_eq0, i6_eq0, if_mx, if_mn, if_true, if_false, not_true_eq_false, not_false_eq_true, Int.reduceEq, Int.reduceLT, Int.reduceLE, tX11_requireSize_1 hlo]
    exact ⟨_, rfl⟩
theorem cX11_order (h : LQ v μ m) (hm : 0 ≤ m) {a b q : Int} (hai : isI a) (hbi : isI b) (hqi : isI q) : cW (jm_env (d + 6) 115 [.ref 0, .int (i3 a), .int (i3 b), .int (i3 q)] (qM X v w T c s)) X v T c s eIA eIA (cd1 (((1 ≤ a ∧ a ≤ 2000) ∧ 1 ≤ b ∧ b ≤ 2000) ∧ 1 ≤ q ∧ q ≤ 999)) (flR μ a b q) (fun v' => LQ v' (trV μ (flR μ a b q) (flV μ a b q)) (m + 1) ∧ frL v' v) := by
  obtain ⟨ha0, ha1⟩ := hai
  obtain ⟨hb0, hb1⟩ := hbi
  obtain ⟨hq0, hq1⟩ := hqi
  by_cases g : ((1 ≤ a ∧ a ≤ 2000) ∧ 1 ≤ b ∧ b ≤ 2000) ∧ 1 ≤ q ∧ q ≤ 999
  · obtain ⟨⟨⟨g1, g2⟩, g3, g4⟩, g5, g6⟩ := id g
    obtain ⟨v', w', e, hq, hf, -⟩ := tX11_doPrintOrder (d := d) (X := X) (T := T) (c := c) (s := s) (w := w) h hm (z := 1) g1 g2 g3 g4 g5 g6 (Or.inr rfl)
    rw [cd1_0 g]
    apply cW_0
    refine ⟨v', w', ?_, hq, hf⟩
    simp (disch := first | assumption | omega) only [eX11_order, bX11_order_0, i3_add, i3_sub, i3_mul, i3_neg, i6_add, i6_sub, i6_mul, i6_neg, i3_lt, i3_le, i3_eq, i6_lt, i6_eq, i3_div, i6_div, i6_i3, i3_i6, c6_lt, c6_ge, c6_gt, c6_le, c6_eq, i3_ite, i6_ite, ib_0, ib_z, ite_not, i1_0, i0_0, jB_1, jB_0, jB_ib, bI_v, bL_v, bD_v, bV_v, ob_s, ob_i, i3_ofNat, jx_e, bI_e, bL_e, bD_e, bV_e, i3_eq0, i6_eq0, if_mx, if_mn, if_true, if_false, not_true_eq_false, not_false_eq_true, Int.reduceEq, Int.reduceLT, Int.reduceLE, tX11_requireOrder_0, e]
  · rw [cd1_1 g]
    apply cW_1
    simp (disch := first | assumption | omega) only [eX11_order, bX11_order_0, i3_add, i3_sub, i3_mul, i3_neg, i6_add, i6_sub, i6_mul, i6_neg, i3_lt, i3_le, i3_eq, i6_lt, i6_eq, i3_div, i6_div, i6_i3, i3_i6, c6_lt, c6_ge, c6_gt, c6_le, c6_eq, i3_ite, i6_ite, ib_0, ib_z, ite_not, i1_0, i0_0, jB_1, jB_0, jB_ib, bI_v, bL_v, bD_v, bV_v, ob_s, ob_i, i3_ofNat, jx_e, bI_e, bL_e, bD_e, bV_e, i3_eq0, i6_eq0, if_mx, if_mn, if_true, if_false, not_true_eq_false, not_false_eq_true, Int.reduceEq, Int.reduceLT, Int.reduceLE, tX11_requireOrder_1, exc_q]
    exact ⟨_, rfl⟩
theorem cX11_setEdge (h : LQ v μ m) (hm : 0 ≤ m) {e : Int} (he : isI e) : cW (jm_env (d + 5) 116 [.ref 0, .int (i3 e)] (qM X v w T c s)) X v T c s eIA eIA (cd1 (0 ≤ e ∧ e ≤ 50)) (μ 412 1) (fun v' => LQ v' (kpV (up μ 412 1 e) (μ 412)) (m + 1) ∧ frL v' v) := by
  obtain ⟨h0, h1⟩ := he
  by_cases g : 0 ≤ e ∧ e ≤ 50
  · obtain ⟨v', e2, hq, hf⟩ := tX11_doSetEdge (d := d) (X := X) (T := T) (c := c) (s := s) (w := w) h hm (z := 1) g.1 g.2 (Or.inr rfl)
    rw [cd1_0 g]
    apply cW_0
    rw [if_pos rfl] at hq
    refine ⟨v', w, ?_, hq, hf⟩
    simp (disch := first | assumption | omega) only [eX11_setEdge, bX11_setEdge_0, bX11_setEdge_4, bX11_setEdge_10, bX11_setEdge_14, bX11_setEdge_15, i3_add, i3_sub, i3_mul, i3_neg, i6_add, i6_sub, i6_mul, i6_neg, i3_lt, i3_le, i3_eq, i6_lt, i6_eq, i3_div, i6_div, i6_i3, i3_i6, c6_lt, c6_ge, c6_gt, c6_le, c6_eq, i3_ite, i6_ite, ib_0, ib_z, ite_not, i1_0, i0_0, jB_1, jB_0, jB_ib, bI_v, bL_v, bD_v, bV_v, ob_s, ob_i, i3_ofNat, jx_e, bI_e, bL_e, bD_e, bV_e, i3_eq0, i6_eq0, if_mx, if_mn, if_true, if_false, not_true_eq_false, not_false_eq_true, Int.reduceEq, Int.reduceLT, Int.reduceLE, sX11_require_1, sX11_require_0, e2]
    (repeat' split) <;> first | rfl | (exfalso; omega)
  · rw [cd1_1 g]
    apply cW_1
    simp (disch := first | assumption | omega) only [eX11_setEdge, bX11_setEdge_0, bX11_setEdge_4, bX11_setEdge_10, bX11_setEdge_14, bX11_setEdge_15, i3_add, i3_sub, i3_mul, i3_neg, i6_add, i6_sub, i6_mul, i6_neg, i3_lt, i3_le, i3_eq, i6_lt, i6_eq, i3_div, i6_div, i6_i3, i3_i6, c6_lt, c6_ge, c6_gt, c6_le, c6_eq, i3_ite, i6_ite, ib_0, ib_z, ite_not, i1_0, i0_0, jB_1, jB_0, jB_ib, bI_v, bL_v, bD_v, bV_v, ob_s, ob_i, i3_ofNat, jx_e, bI_e, bL_e, bD_e, bV_e, i3_eq0, i6_eq0, if_mx, if_mn, if_true, if_false, not_true_eq_false, not_false_eq_true, Int.reduceEq, Int.reduceLT, Int.reduceLE, sX11_require_0, exc_q]
    ((repeat' split) <;> first | exact ⟨_, rfl⟩ | (exfalso; omega))
end CLPP
