-- uses 24.zar 25.obj 26.ops 30.rd 31.re 34.gen 38.mod 39.mo2 40.mo3 41.bit
/-! The reference: arguments; what only asks. -/
/-- the answer of a call of the reference that changes nothing that lasts -/
def mR (x : Option jm_Res) (X : Nat × (Nat → Int32)) (v : Nat → Int → Int) (T c s : Nat) (cd ans : Int) : Prop := ∃ w' b, x = some (.inl (some (.int (i3 (b)))), qM X v w' T c s) ∧ w' 411 8 = cd ∧ (cd = 0 → b = ans)
theorem if_ok {α : Type} {P : Prop} [Decidable P] {x y z : α} (h1 : P → x = z) (h2 : ¬ P → y = z) : (if P then x else y) = z := by
  split
  · exact h1 (by assumption)
  · exact h2 (by assumption)
section MO4
variable {d : Nat} {X : Nat × (Nat → Int32)} {v w : Nat → Int → Int} {T c s : Nat}
theorem sX12_stops_0 {z : Int} (hT : 18 ≤ T) : jm_env (d + 1) 211 [.ref 411, .int (i3 0), .int (i3 z)] (qM X v (up w 411 8 0) T c s) = some (.inl (some (.int (i3 (0)))), qM X v (up w 411 8 0) T c s) := by
  simp (disch := first | assumption | omega) only [eX12_stops, bX12_stops_0, bX12_stops_7, bX12_stops_11, bX12_stops_16, bX12_stops_23, bX12_stops_27, bX12_stops_28, g12_8, p12_8, i3_add, i3_sub, i3_mul, i3_neg, i6_add, i6_sub, i6_mul, i6_neg, i3_lt, i3_le, i3_eq, i6_lt, i6_eq, i3_div, i6_div, i6_i3, i3_i6, c6_lt, c6_ge, c6_gt, c6_le, c6_eq, i3_ite, i6_ite, ib_0, ib_z, ite_not, i1_0, i0_0, jB_1, jB_0, jB_ib, bI_v, bL_v, bD_v, bV_v, ob_s, ob_i, i3_ofNat, jx_e, bI_e, bL_e, bD_e, bV_e, i3_eq0, i6_eq0, if_mx, if_mn, if_true, if_false, not_true_eq_false, not_false_eq_true, Int.reduceEq, Int.reduceLT, Int.reduceLE, up_eq]
theorem sX12_stops_1 {z : Int} (hT : 18 ≤ T) (h0 : 0 < z) (h1 : z < 10) : jm_env (d + 1) 211 [.ref 411, .int (i3 1), .int (i3 z)] (qM X v (up w 411 8 0) T c s) = some (.inl (some (.int (i3 (1)))), qM X v (up w 411 8 z) T c s) := by
  simp (disch := first | assumption | omega) only [eX12_stops, bX12_stops_0, bX12_stops_7, bX12_stops_11, bX12_stops_16, bX12_stops_23, bX12_stops_27, bX12_stops_28, g12_8, p12_8, i3_add, i3_sub, i3_mul, i3_neg, i6_add, i6_sub, i6_mul, i6_neg, i3_lt, i3_le, i3_eq, i6_lt, i6_eq, i3_div, i6_div, i6_i3, i3_i6, c6_lt, c6_ge, c6_gt, c6_le, c6_eq, i3_ite, i6_ite, ib_0, ib_z, ite_not, i1_0, i0_0, jB_1, jB_0, jB_ib, bI_v, bL_v, bD_v, bV_v, ob_s, ob_i, i3_ofNat, jx_e, bI_e, bL_e, bD_e, bV_e, i3_eq0, i6_eq0, if_mx, if_mn, if_true, if_false, not_true_eq_false, not_false_eq_true, Int.reduceEq, Int.reduceLT, Int.reduceLE, up_eq, up_up]
  rw [if_neg (by omega)]
theorem sX12_stops_0f {z : Int} {p : Int × Int} (hT : 18 ≤ T) : jm_env (d + 1) 211 [.ref 411, .int (i3 0), .int (i3 z)] (qM X v (fw (up w 411 8 0) p) T c s) = some (.inl (some (.int (i3 (0)))), qM X v (fw (up w 411 8 0) p) T c s) := by
  simp (disch := first | assumption | omega) only [eX12_stops, bX12_stops_0, bX12_stops_7, bX12_stops_11, bX12_stops_16, bX12_stops_23, bX12_stops_27, bX12_stops_28, g12_8, p12_8, i3_add, i3_sub, i3_mul, i3_neg, i6_add, i6_sub, i6_mul, i6_neg, i3_lt, i3_le, i3_eq, i6_lt, i6_eq, i3_div, i6_div, i6_i3, i3_i6, c6_lt, c6_ge, c6_gt, c6_le, c6_eq, i3_ite, i6_ite, ib_0, ib_z, ite_not, i1_0, i0_0, jB_1, jB_0, jB_ib, bI_v, bL_v, bD_v, bV_v, ob_s, ob_i, i3_ofNat, jx_e, bI_e, bL_e, bD_e, bV_e, i3_eq0, i6_eq0, if_mx, if_mn, if_true, if_false, not_true_eq_false, not_false_eq_true, Int.reduceEq, Int.reduceLT, Int.reduceLE, up_eq, fw_ne]
theorem sX12_stops_1f {z : Int} {p : Int × Int} (hT : 18 ≤ T) (h0 : 0 < z) (h1 : z < 10) : jm_env (d + 1) 211 [.ref 411, .int (i3 1), .int (i3 z)] (qM X v (fw (up w 411 8 0) p) T c s) = some (.inl (some (.int (i3 (1)))), qM X v (fw (up w 411 8 z) p) T c s) := by
  simp (disch := first | assumption | omega) only [eX12_stops, bX12_stops_0, bX12_stops_7, bX12_stops_11, bX12_stops_16, bX12_stops_23, bX12_stops_27, bX12_stops_28, g12_8, p12_8, i3_add, i3_sub, i3_mul, i3_neg, i6_add, i6_sub, i6_mul, i6_neg, i3_lt, i3_le, i3_eq, i6_lt, i6_eq, i3_div, i6_div, i6_i3, i3_i6, c6_lt, c6_ge, c6_gt, c6_le, c6_eq, i3_ite, i6_ite, ib_0, ib_z, ite_not, i1_0, i0_0, jB_1, jB_0, jB_ib, bI_v, bL_v, bD_v, bV_v, ob_s, ob_i, i3_ofNat, jx_e, bI_e, bL_e, bD_e, bV_e, i3_eq0, i6_eq0, if_mx, if_mn, if_true, if_false, not_true_eq_false, not_false_eq_true, Int.reduceEq, Int.reduceLT, Int.reduceLE, up_eq, fw_ne, fw_up, up_up]
  rw [if_neg (by omega)]
theorem sX12_noSeries_0 {i : Int} (hT : 18 ≤ T) (hc0 : 0 ≤ v 412 0) (hc1 : v 412 0 ≤ 5) (h0 : 0 ≤ i) (h1 : i < v 412 0) : jm_env (d + 2) 279 [.ref 411, .int (i3 i)] (qM X v (up w 411 8 0) T c s) = some (.inl (some (.int (i3 (0)))), qM X v (up w 411 8 0) T c s) := by
  simp (disch := first | assumption | omega) only [eX12_noSeries, bX12_noSeries_0, bX12_noSeries_18, bX12_noSeries_22, bX12_noSeries_23, r12_0, a12_0, w12_0, n12_0, i3_add, i3_sub, i3_mul, i3_neg, i6_add, i6_sub, i6_mul, i6_neg, i3_lt, i3_le, i3_eq, i6_lt, i6_eq, i3_div, i6_div, i6_i3, i3_i6, c6_lt, c6_ge, c6_gt, c6_le, c6_eq, i3_ite, i6_ite, ib_0, ib_z, ite_not, i1_0, i0_0, jB_1, jB_0, jB_ib, bI_v, bL_v, bD_v, bV_v, ob_s, ob_i, i3_ofNat, jx_e, bI_e, bL_e, bD_e, bV_e, i3_eq0, i6_eq0, if_mx, if_mn, if_true, if_false, not_true_eq_false, not_false_eq_true, Int.reduceEq, Int.reduceLT, Int.reduceLE, sX12_in, sX12_stops_0, sX12_stops_1]
  rw [if_pos (by omega)]
theorem sX12_noSeries_1 {i : Int} (hT : 18 ≤ T) (hc0 : 0 ≤ v 412 0) (hc1 : v 412 0 ≤ 5) (hi0 : -2147483648 ≤ i) (hi1 : i < 2147483648) (h : i < 0 ∨ v 412 0 ≤ i) : jm_env (d + 2) 279 [.ref 411, .int (i3 i)] (qM X v (up w 411 8 0) T c s) = some (.inl (some (.int (i3 (1)))), qM X v (up w 411 8 1) T c s) := by
  simp (disch := first | assumption | omega) only [eX12_noSeries, bX12_noSeries_0, bX12_noSeries_18, bX12_noSeries_22, bX12_noSeries_23, r12_0, a12_0, w12_0, n12_0, i3_add, i3_sub, i3_mul, i3_neg, i6_add, i6_sub, i6_mul, i6_neg, i3_lt, i3_le, i3_eq, i6_lt, i6_eq, i3_div, i6_div, i6_i3, i3_i6, c6_lt, c6_ge, c6_gt, c6_le, c6_eq, i3_ite, i6_ite, ib_0, ib_z, ite_not, i1_0, i0_0, jB_1, jB_0, jB_ib, bI_v, bL_v, bD_v, bV_v, ob_s, ob_i, i3_ofNat, jx_e, bI_e, bL_e, bD_e, bV_e, i3_eq0, i6_eq0, if_mx, if_mn, if_true, if_false, not_true_eq_false, not_false_eq_true, Int.reduceEq, Int.reduceLT, Int.reduceLE, sX12_in, sX12_stops_0, sX12_stops_1]
  rw [if_neg (by omega)]
theorem sX12_noSize_0 {i n : Int} (hT : 18 ≤ T) (hc0 : 0 ≤ v 412 0) (hc1 : v 412 0 ≤ 5) (h0 : 0 ≤ i) (h1 : i < v 412 0) (h2 : 0 ≤ n) (h3 : n < 10) : jm_env (d + 3) 280 [.ref 411, .int (i3 i), .int (i3 n)] (qM X v (up w 411 8 0) T c s) = some (.inl (some (.int (i3 (0)))), qM X v (up w 411 8 0) T c s) := by
  simp (disch := first | assumption | omega) only [eX12_noSize, bX12_noSize_0, bX12_noSize_8, bX12_noSize_21, bX12_noSize_25, bX12_noSize_26, bX12_noSize_33, bX12_noSize_37, bX12_noSize_38, i3_add, i3_sub, i3_mul, i3_neg, i6_add, i6_sub, i6_mul, i6_neg, i3_lt, i3_le, i3_eq, i6_lt, i6_eq, i3_div, i6_div, i6_i3, i3_i6, c6_lt, c6_ge, c6_gt, c6_le, c6_eq, i3_ite, i6_ite, ib_0, ib_z, ite_not, i1_0, i0_0, jB_1, jB_0, jB_ib, bI_v, bL_v, bD_v, bV_v, ob_s, ob_i, i3_ofNat, jx_e, bI_e, bL_e, bD_e, bV_e, i3_eq0, i6_eq0, if_mx, if_mn, if_true, if_false, not_true_eq_false, not_false_eq_true, Int.reduceEq, Int.reduceLT, Int.reduceLE, sX12_in, sX12_noSeries_0, sX12_stops_0, sX12_stops_1]
  rw [if_pos (by omega)]
theorem sX12_noSize_1 {i n : Int} (hT : 18 ≤ T) (hc0 : 0 ≤ v 412 0) (hc1 : v 412 0 ≤ 5) (hi0 : -2147483648 ≤ i) (hi1 : i < 2147483648) (hn0 : -2147483648 ≤ n) (hn1 : n < 2147483648) (h : ¬ ((0 ≤ i ∧ i < v 412 0) ∧ 0 ≤ n ∧ n < 10)) : jm_env (d + 3) 280 [.ref 411, .int (i3 i), .int (i3 n)] (qM X v (up w 411 8 0) T c s) = some (.inl (some (.int (i3 (1)))), qM X v (up w 411 8 1) T c s) := by
  by_cases g : 0 ≤ i ∧ i < v 412 0
  · obtain ⟨g1, g2⟩ := g
    simp (disch := first | assumption | omega) only [eX12_noSize, bX12_noSize_0, bX12_noSize_8, bX12_noSize_21, bX12_noSize_25, bX12_noSize_26, bX12_noSize_33, bX12_noSize_37, bX12_noSize_38, i3_add, i3_sub, i3_mul, i3_neg, i6_add, i6_sub, i6_mul, i6_neg, i3_lt, i3_le, i3_eq, i6_lt, i6_eq, i3_div, i6_div, i6_i3, i3_i6, c6_lt, c6_ge, c6_gt, c6_le, c6_eq, i3_ite, i6_ite, ib_0, ib_z, ite_not, i1_0, i0_0, jB_1, jB_0, jB_ib, bI_v, bL_v, bD_v, bV_v, ob_s, ob_i, i3_ofNat, jx_e, bI_e, bL_e, bD_e, bV_e, i3_eq0, i6_eq0, if_mx, if_mn, if_true, if_false, not_true_eq_false, not_false_eq_true, Int.reduceEq, Int.reduceLT, Int.reduceLE, sX12_in, sX12_noSeries_0, sX12_stops_0, sX12_stops_1]
    rw [if_neg (by omega)]
  · have g : i < 0 ∨ v 412 0 ≤ i := by omega
    simp (disch := first | assumption | omega) only [eX12_noSize, bX12_noSize_0, bX12_noSize_8, bX12_noSize_21, bX12_noSize_25, bX12_noSize_26, bX12_noSize_33, bX12_noSize_37, bX12_noSize_38, i3_add, i3_sub, i3_mul, i3_neg, i6_add, i6_sub, i6_mul, i6_neg, i3_lt, i3_le, i3_eq, i6_lt, i6_eq, i3_div, i6_div, i6_i3, i3_i6, c6_lt, c6_ge, c6_gt, c6_le, c6_eq, i3_ite, i6_ite, ib_0, ib_z, ite_not, i1_0, i0_0, jB_1, jB_0, jB_ib, bI_v, bL_v, bD_v, bV_v, ob_s, ob_i, i3_ofNat, jx_e, bI_e, bL_e, bD_e, bV_e, i3_eq0, i6_eq0, if_mx, if_mn, if_true, if_false, not_true_eq_false, not_false_eq_true, Int.reduceEq, Int.reduceLT, Int.reduceLE, sX12_in, sX12_noSeries_1, sX12_stops_0, sX12_stops_1]
theorem sX12_noSides_0 {a b z : Int} (hT : 18 ≤ T) (h0 : 1 ≤ a) (h1 : a ≤ 2000) (h2 : 1 ≤ b) (h3 : b ≤ 2000) : jm_env (d + 2) 281 [.ref 411, .int (i3 a), .int (i3 b), .int (i3 z)] (qM X v (up w 411 8 0) T c s) = some (.inl (some (.int (i3 (0)))), qM X v (up w 411 8 0) T c s) := by
  simp (disch := first | assumption | omega) only [eX12_noSides, bX12_noSides_0, bX12_noSides_13, bX12_noSides_25, bX12_noSides_29, bX12_noSides_30, i3_add, i3_sub, i3_mul, i3_neg, i6_add, i6_sub, i6_mul, i6_neg, i3_lt, i3_le, i3_eq, i6_lt, i6_eq, i3_div, i6_div, i6_i3, i3_i6, c6_lt, c6_ge, c6_gt, c6_le, c6_eq, i3_ite, i6_ite, ib_0, ib_z, ite_not, i1_0, i0_0, jB_1, jB_0, jB_ib, bI_v, bL_v, bD_v, bV_v, ob_s, ob_i, i3_ofNat, jx_e, bI_e, bL_e, bD_e, bV_e, i3_eq0, i6_eq0, if_mx, if_mn, if_true, if_false, not_true_eq_false, not_false_eq_true, Int.reduceEq, Int.reduceLT, Int.reduceLE, sX12_in, sX12_stops_0, sX12_stops_1]
  rw [if_pos (by omega), if_pos (by omega)]
theorem sX12_noSides_1 {a b z : Int} (hT : 18 ≤ T) (hz0 : 0 < z) (hz1 : z < 10) (ha0 : -2147483648 ≤ a) (ha1 : a < 2147483648) (hb0 : -2147483648 ≤ b) (hb1 : b < 2147483648) (h : ¬ ((1 ≤ a ∧ a ≤ 2000) ∧ 1 ≤ b ∧ b ≤ 2000)) : jm_env (d + 2) 281 [.ref 411, .int (i3 a), .int (i3 b), .int (i3 z)] (qM X v (up w 411 8 0) T c s) = some (.inl (some (.int (i3 (1)))), qM X v (up w 411 8 z) T c s) := by
  simp (disch := first | assumption | omega) only [eX12_noSides, bX12_noSides_0, bX12_noSides_13, bX12_noSides_25, bX12_noSides_29, bX12_noSides_30, i3_add, i3_sub, i3_mul, i3_neg, i6_add, i6_sub, i6_mul, i6_neg, i3_lt, i3_le, i3_eq, i6_lt, i6_eq, i3_div, i6_div, i6_i3, i3_i6, c6_lt, c6_ge, c6_gt, c6_le, c6_eq, i3_ite, i6_ite, ib_0, ib_z, ite_not, i1_0, i0_0, jB_1, jB_0, jB_ib, bI_v, bL_v, bD_v, bV_v, ob_s, ob_i, i3_ofNat, jx_e, bI_e, bL_e, bD_e, bV_e, i3_eq0, i6_eq0, if_mx, if_mn, if_true, if_false, not_true_eq_false, not_false_eq_true, Int.reduceEq, Int.reduceLT, Int.reduceLE, sX12_in, sX12_stops_0, sX12_stops_1]
  (repeat' split) <;> first | rfl | (exfalso; omega)
theorem sX12_noOrder_0 {a b q : Int} (hT : 18 ≤ T) (h0 : 1 ≤ a) (h1 : a ≤ 2000) (h2 : 1 ≤ b) (h3 : b ≤ 2000) (h4 : 1 ≤ q) (h5 : q ≤ 999) : jm_env (d + 3) 286 [.ref 411, .int (i3 a), .int (i3 b), .int (i3 q)] (qM X v (up w 411 8 0) T c s) = some (.inl (some (.int (i3 (0)))), qM X v (up w 411 8 0) T c s) := by
  simp (disch := first | assumption | omega) only [eX12_noOrder, bX12_noOrder_0, bX12_noOrder_10, bX12_noOrder_23, bX12_noOrder_27, bX12_noOrder_28, bX12_noOrder_35, bX12_noOrder_39, bX12_noOrder_40, i3_add, i3_sub, i3_mul, i3_neg, i6_add, i6_sub, i6_mul, i6_neg, i3_lt, i3_le, i3_eq, i6_lt, i6_eq, i3_div, i6_div, i6_i3, i3_i6, c6_lt, c6_ge, c6_gt, c6_le, c6_eq, i3_ite, i6_ite, ib_0, ib_z, ite_not, i1_0, i0_0, jB_1, jB_0, jB_ib, bI_v, bL_v, bD_v, bV_v, ob_s, ob_i, i3_ofNat, jx_e, bI_e, bL_e, bD_e, bV_e, i3_eq0, i6_eq0, if_mx, if_mn, if_true, if_false, not_true_eq_false, not_false_eq_true, Int.reduceEq, Int.reduceLT, Int.reduceLE, sX12_in, sX12_noSides_0, sX12_stops_0, sX12_stops_1]
  rw [if_pos (by omega)]
theorem sX12_noOrder_1 {a b q : Int} (hT : 18 ≤ T) (ha0 : -2147483648 ≤ a) (ha1 : a < 2147483648) (hb0 : -2147483648 ≤ b) (hb1 : b < 2147483648) (hq0 : -2147483648 ≤ q) (hq1 : q < 2147483648) (h : ¬ (((1 ≤ a ∧ a ≤ 2000) ∧ 1 ≤ b ∧ b ≤ 2000) ∧ 1 ≤ q ∧ q ≤ 999)) : jm_env (d + 3) 286 [.ref 411, .int (i3 a), .int (i3 b), .int (i3 q)] (qM X v (up w 411 8 0) T c s) = some (.inl (some (.int (i3 (1)))), qM X v (up w 411 8 1) T c s) := by
  by_cases g : (1 ≤ a ∧ a ≤ 2000) ∧ 1 ≤ b ∧ b ≤ 2000
  · obtain ⟨⟨g1, g2⟩, g3, g4⟩ := g
    simp (disch := first | assumption | omega) only [eX12_noOrder, bX12_noOrder_0, bX12_noOrder_10, bX12_noOrder_23, bX12_noOrder_27, bX12_noOrder_28, bX12_noOrder_35, bX12_noOrder_39, bX12_noOrder_40, i3_add, i3_sub, i3_mul, i3_neg, i6_add, i6_sub, i6_mul, i6_neg, i3_lt, i3_le, i3_eq, i6_lt, i6_eq, i3_div, i6_div, i6_i3, i3_i6, c6_lt, c6_ge, c6_gt, c6_le, c6_eq, i3_ite, i6_ite, ib_0, ib_z, ite_not, i1_0, i0_0, jB_1, jB_0, jB_ib, bI_v, bL_v, bD_v, bV_v, ob_s, ob_i, i3_ofNat, jx_e, bI_e, bL_e, bD_e, bV_e, i3_eq0, i6_eq0, if_mx, if_mn, if_true, if_false, not_true_eq_false, not_false_eq_true, Int.reduceEq, Int.reduceLT, Int.reduceLE, sX12_in, sX12_noSides_0, sX12_stops_0, sX12_stops_1]
    rw [if_neg (by omega)]
  · simp (disch := first | assumption | omega) only [eX12_noOrder, bX12_noOrder_0, bX12_noOrder_10, bX12_noOrder_23, bX12_noOrder_27, bX12_noOrder_28, bX12_noOrder_35, bX12_noOrder_39, bX12_noOrder_40, i3_add, i3_sub, i3_mul, i3_neg, i6_add, i6_sub, i6_mul, i6_neg, i3_lt, i3_le, i3_eq, i6_lt, i6_eq, i3_div, i6_div, i6_i3, i3_i6, c6_lt, c6_ge, c6_gt, c6_le, c6_eq, i3_ite, i6_ite, ib_0, ib_z, ite_not, i1_0, i0_0, jB_1, jB_0, jB_ib, bI_v, bL_v, bD_v, bV_v, ob_s, ob_i, i3_ofNat, jx_e, bI_e, bL_e, bD_e, bV_e, i3_eq0, i6_eq0, if_mx, if_mn, if_true, if_false, not_true_eq_false, not_false_eq_true, Int.reduceEq, Int.reduceLT, Int.reduceLE, sX12_in, sX12_noSides_1, sX12_stops_0, sX12_stops_1]
theorem sX12_noSlot_0 {i : Int} (hT : 18 ≤ T) (h0 : 0 ≤ i) (h1 : i < 2) : jm_env (d + 2) 291 [.ref 411, .int (i3 i)] (qM X v (up w 411 8 0) T c s) = some (.inl (some (.int (i3 (0)))), qM X v (up w 411 8 0) T c s) := by
  simp (disch := first | assumption | omega) only [eX12_noSlot, bX12_noSlot_0, bX12_noSlot_11, bX12_noSlot_15, bX12_noSlot_16, i3_add, i3_sub, i3_mul, i3_neg, i6_add, i6_sub, i6_mul, i6_neg, i3_lt, i3_le, i3_eq, i6_lt, i6_eq, i3_div, i6_div, i6_i3, i3_i6, c6_lt, c6_ge, c6_gt, c6_le, c6_eq, i3_ite, i6_ite, ib_0, ib_z, ite_not, i1_0, i0_0, jB_1, jB_0, jB_ib, bI_v, bL_v, bD_v, bV_v, ob_s, ob_i, i3_ofNat, jx_e, bI_e, bL_e, bD_e, bV_e, i3_eq0, i6_eq0, if_mx, if_mn, if_true, if_false, not_true_eq_false, not_false_eq_true, Int.reduceEq, Int.reduceLT, Int.reduceLE, sX12_in, sX12_stops_0, sX12_stops_1]
  rw [if_pos (by omega)]
theorem sX12_noSlot_1 {i : Int} (hT : 18 ≤ T) (hi0 : -2147483648 ≤ i) (hi1 : i < 2147483648) (h : i < 0 ∨ 2 ≤ i) : jm_env (d + 2) 291 [.ref 411, .int (i3 i)] (qM X v (up w 411 8 0) T c s) = some (.inl (some (.int (i3 (1)))), qM X v (up w 411 8 1) T c s) := by
  simp (disch := first | assumption | omega) only [eX12_noSlot, bX12_noSlot_0, bX12_noSlot_11, bX12_noSlot_15, bX12_noSlot_16, i3_add, i3_sub, i3_mul, i3_neg, i6_add, i6_sub, i6_mul, i6_neg, i3_lt, i3_le, i3_eq, i6_lt, i6_eq, i3_div, i6_div, i6_i3, i3_i6, c6_lt, c6_ge, c6_gt, c6_le, c6_eq, i3_ite, i6_ite, ib_0, ib_z, ite_not, i1_0, i0_0, jB_1, jB_0, jB_ib, bI_v, bL_v, bD_v, bV_v, ob_s, ob_i, i3_ofNat, jx_e, bI_e, bL_e, bD_e, bV_e, i3_eq0, i6_eq0, if_mx, if_mn, if_true, if_false, not_true_eq_false, not_false_eq_true, Int.reduceEq, Int.reduceLT, Int.reduceLE, sX12_in, sX12_stops_0, sX12_stops_1]
  rw [if_neg (by omega)]
/-- how often a size may be folded -/
def fdM (v : Nat → Int → Int) (i n : Int) : Int := if 10 ≤ n ∨ aM v i n = 0 then -1 else fnd (fun k : Nat => 10 ≤ n + k + 1 ∨ aM v i (n + k + 1) = 0) (fun k => (k : Int)) 5 0 5
theorem fdM_b {i n : Int} : -1 ≤ fdM v i n ∧ fdM v i n ≤ 5 := by
  unfold fdM
  split
  · omega
  · exact fnd_P (P := fun z => -1 ≤ z ∧ z ≤ 5) 5 0 (by omega) (fun j h1 h2 _ => by omega)
theorem ch_fp {α π : Type} {p : Nat → Prop} [DecidablePred p] (F : Nat → π → α) (G : Nat → π → α) (e : π → α) (Y : Nat → π → α) (n : Nat) (h : ∀ k, k < n → ∀ x, ∃ y, F k x = if p k then G k y else F (k + 1) y) (he : ∀ x, ∃ y, F n x = e y) (x : π) : ∃ y, F 0 x = fnd p (fun k => G k y) (e y) 0 n := by
  have : ∀ r k x, k + r = n → ∃ y, F k x = fnd p (fun k => G k y) (e y) k r := by
    intro r
    induction r with
    | zero => intro k x hk; obtain ⟨y, hy⟩ := he x; exact ⟨y, by rw [show k = n by omega, hy]; rfl⟩
    | succ r ih =>
      intro k x hk
      obtain ⟨y, hy⟩ := h k (by omega) x
      by_cases hp : p k
      · exact ⟨y, by rw [hy, if_pos hp]; unfold fnd; rw [if_pos hp]⟩
      · obtain ⟨z, hz⟩ := ih (k + 1) y (by omega)
        exact ⟨z, by rw [hy, if_neg hp, hz]; conv => rhs; unfold fnd; rw [if_neg hp]⟩
  exact this n 0 x (by omega)
theorem sX12_foldsOf_p {i n : Int} (hT : 18 ≤ T) (hi0 : 0 ≤ i) (hi1 : i < 5) (hn0 : 0 ≤ n) (hn1 : n < 10) (ho : oM v i) : ∃ p, jm_env (d + 5) 313 [.ref 411, .int (i3 i), .int (i3 n)] (qM X v w T c s) = some (.inl (some (.int (i3 (fdM v i n)))), qM X v (fw w p) T c s) := by
  have hl := ch_fp (p := fun k : Nat => 10 ≤ n + k + 1 ∨ aM v i (n + k + 1) = 0) (fun (k : Nat) (p : Int × Int) => jm_R (jm_env (d + 4)) jmM_X12_foldsOf 13 [some (.ref 411), some (.int (i3 i)), some (.int (i3 n)), some (.int (i3 k))] [] (qM X v (fw w p) T c s)) (fun (k : Nat) p => some (.inl (some (.int (i3 (k)))), qM X v (fw w p) T c s)) (fun p => some (.inl (some (.int (i3 (5)))), qM X v (fw w p) T c s)) (fun (k : Nat) p => some (.inl (some (.int (i3 (k)))), qM X v (fw w p) T c s)) 5 (fun k hk p => by
    rw [bX12_foldsOf_13]
    simp (disch := first | assumption | omega) only [eX12_foldsOf, bX12_foldsOf_0, bX12_foldsOf_9, bX12_foldsOf_11, bX12_foldsOf_18, bX12_foldsOf_31, bX12_foldsOf_37, i3_add, i3_sub, i3_mul, i3_neg, i6_add, i6_sub, i6_mul, i6_neg, i3_lt, i3_le, i3_eq, i6_lt, i6_eq, i3_div, i6_div, i6_i3, i3_i6, c6_lt, c6_ge, c6_gt, c6_le, c6_eq, i3_ite, i6_ite, ib_0, ib_z, ite_not, i1_0, i0_0, jB_1, jB_0, jB_ib, bI_v, bL_v, bD_v, bV_v, ob_s, ob_i, i3_ofNat, jx_e, bI_e, bL_e, bD_e, bV_e, i3_eq0, i6_eq0, if_mx, if_mn, if_true, if_false, not_true_eq_false, not_false_eq_true, Int.reduceEq, Int.reduceLT, Int.reduceLE, sX12_isVoid, fw_fw]
    rw [if_neg (by omega)]
    by_cases q : 10 ≤ n + k + 1 ∨ aM v i (n + k + 1) = 0
    · simp only [if_pos q]
      exact ⟨_, rfl⟩
    · simp only [if_neg q]
      exact ⟨_, rfl⟩) (fun p => by
    rw [bX12_foldsOf_13]
    simp (disch := first | assumption | omega) only [eX12_foldsOf, bX12_foldsOf_0, bX12_foldsOf_9, bX12_foldsOf_11, bX12_foldsOf_18, bX12_foldsOf_31, bX12_foldsOf_37, i3_add, i3_sub, i3_mul, i3_neg, i6_add, i6_sub, i6_mul, i6_neg, i3_lt, i3_le, i3_eq, i6_lt, i6_eq, i3_div, i6_div, i6_i3, i3_i6, c6_lt, c6_ge, c6_gt, c6_le, c6_eq, i3_ite, i6_ite, ib_0, ib_z, ite_not, i1_0, i0_0, jB_1, jB_0, jB_ib, bI_v, bL_v, bD_v, bV_v, ob_s, ob_i, i3_ofNat, jx_e, bI_e, bL_e, bD_e, bV_e, i3_eq0, i6_eq0, if_mx, if_mn, if_true, if_false, not_true_eq_false, not_false_eq_true, Int.reduceEq, Int.reduceLT, Int.reduceLE]
    rw [if_pos (by omega)]
    exact ⟨p, rfl⟩)
  simp (disch := first | assumption | omega) only [eX12_foldsOf, bX12_foldsOf_0, bX12_foldsOf_9, bX12_foldsOf_11, bX12_foldsOf_18, bX12_foldsOf_31, bX12_foldsOf_37, i3_add, i3_sub, i3_mul, i3_neg, i6_add, i6_sub, i6_mul, i6_neg, i3_lt, i3_le, i3_eq, i6_lt, i6_eq, i3_div, i6_div, i6_i3, i3_i6, c6_lt, c6_ge, c6_gt, c6_le, c6_eq, i3_ite, i6_ite, ib_0, ib_z, ite_not, i1_0, i0_0, jB_1, jB_0, jB_ib, bI_v, bL_v, bD_v, bV_v, ob_s, ob_i, i3_ofNat, jx_e, bI_e, bL_e, bD_e, bV_e, i3_eq0, i6_eq0, if_mx, if_mn, if_true, if_false, not_true_eq_false, not_false_eq_true, Int.reduceEq, Int.reduceLT, Int.reduceLE, sX12_isVoid]
  unfold fdM
  by_cases q : 10 ≤ n ∨ aM v i n = 0
  · simp only [if_pos q]
    exact ⟨_, rfl⟩
  · simp only [if_neg q]
    obtain ⟨y, hy⟩ := hl (pq (hid (d + 4) 220 [.ref 411, .int (i3 i), .int (i3 n)] (qM X v w T c s)) X v w T c s)
    refine ⟨y, ?_⟩
    rw [fnd_map (fun z : Int => (some (.inl (some (.int (i3 (z)))), qM X v (fw w y) T c s) : Option jm_Res))] at hy
    exact hy
theorem sX12_foldsOf {i n : Int} (hT : 18 ≤ T) (hi0 : 0 ≤ i) (hi1 : i < 5) (hn0 : 0 ≤ n) (hn1 : n < 10) (ho : oM v i) : jm_env (d + 5) 313 [.ref 411, .int (i3 i), .int (i3 n)] (qM X v w T c s) = some (.inl (some (.int (i3 (fdM v i n)))), qM X v (fw w (pq (hid (d + 5) 313 [.ref 411, .int (i3 i), .int (i3 n)] (qM X v w T c s)) X v w T c s)) T c s) := pq_eq (sX12_foldsOf_p hT hi0 hi1 hn0 hn1 ho)

end MO4
