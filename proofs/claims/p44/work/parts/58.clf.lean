-- uses 24.zar 25.obj 26.ops 27.ra 29.rc 34.gen 35.byt 36.ser 37.lnd 38.mod 39.mo2 40.mo3 41.bit 42.mo4 43.mo5 44.mo6 52.mof 53.cla 54.clb 55.clc 56.cld 57.cle
/-! The class: what only asks. -/
abbrev eIA : String := "java/lang/IllegalArgumentException"
abbrev eIB : String := "java/lang/IndexOutOfBoundsException"
abbrev eIS : String := "java/lang/IllegalStateException"
/-- the answer of a call of the class that changes nothing that lasts -/
def cR (x : Option jm_Res) (X : Nat × (Nat → Int32)) (v : Nat → Int → Int) (T c s : Nat) (E1 E2 : String) (cd ans : Int) : Prop :=
  (cd = 0 → ∃ w', x = some (.inl (some (.int (i3 (ans)))), qM X v w' T c s)) ∧ (cd = 1 → ∃ w', x = some (.inr E1, qM X v w' T (c + 1) (s + 6))) ∧ (cd = 2 → ∃ w', x = some (.inr E2, qM X v w' T (c + 1) (s + 6)))
section CRS
variable {x : Option jm_Res} {X : Nat × (Nat → Int32)} {v : Nat → Int → Int} {T c s : Nat} {E1 E2 : String} {ans : Int}
theorem cR_0 (h : ∃ w', x = some (.inl (some (.int (i3 (ans)))), qM X v w' T c s)) : cR x X v T c s E1 E2 0 ans := ⟨fun _ => h, fun h => absurd h (by decide), fun h => absurd h (by decide)⟩
theorem cR_1 (h : ∃ w', x = some (.inr E1, qM X v w' T (c + 1) (s + 6))) : cR x X v T c s E1 E2 1 ans := ⟨fun h => absurd h (by decide), fun _ => h, fun h => absurd h (by decide)⟩
theorem cR_2 (h : ∃ w', x = some (.inr E2, qM X v w' T (c + 1) (s + 6))) : cR x X v T c s E1 E2 2 ans := ⟨fun h => absurd h (by decide), fun h => absurd h (by decide), fun _ => h⟩
theorem exc_q {w : Nat → Int → Int} : jm_exc (qM X v w T c s) = qM X v w T (c + 1) (s + 6) := rfl
end CRS
section CLF
variable {d : Nat} {X : Nat × (Nat → Int32)} {v w : Nat → Int → Int} {T c s : Nat}
variable {μ : Nat → Int → Int}
theorem sX11_require_1 {m : jm_Mem} : jm_env (d + 1) 122 [.int (i3 1)] m = some (.inl none, m) := by
  simp (disch := first | assumption | omega) only [eX11_require, bX11_require_0, bX11_require_4, bX11_require_15, i3_add, i3_sub, i3_mul, i3_neg, i6_add, i6_sub, i6_mul, i6_neg, i3_lt, i3_le, i3_eq, i6_lt, i6_eq, i3_div, i6_div, i6_i3, i3_i6, c6_lt, c6_ge, c6_gt, c6_le, c6_eq, i3_ite, i6_ite, ib_0, ib_z, ite_not, i1_0, i0_0, jB_1, jB_0, jB_ib, bI_v, bL_v, bD_v, bV_v, ob_s, ob_i, i3_ofNat, jx_e, bI_e, bL_e, bD_e, bV_e, i3_eq0, i6_eq0, if_mx, if_mn, if_true, if_false, not_true_eq_false, not_false_eq_true, Int.reduceEq, Int.reduceLT, Int.reduceLE]
theorem sX11_require_0 {m : jm_Mem} : jm_env (d + 1) 122 [.int (i3 0)] m = some (.inr eIA, jm_exc m) := by
  simp (disch := first | assumption | omega) only [eX11_require, bX11_require_0, bX11_require_4, bX11_require_15, i3_add, i3_sub, i3_mul, i3_neg, i6_add, i6_sub, i6_mul, i6_neg, i3_lt, i3_le, i3_eq, i6_lt, i6_eq, i3_div, i6_div, i6_i3, i3_i6, c6_lt, c6_ge, c6_gt, c6_le, c6_eq, i3_ite, i6_ite, ib_0, ib_z, ite_not, i1_0, i0_0, jB_1, jB_0, jB_ib, bI_v, bL_v, bD_v, bV_v, ob_s, ob_i, i3_ofNat, jx_e, bI_e, bL_e, bD_e, bV_e, i3_eq0, i6_eq0, if_mx, if_mn, if_true, if_false, not_true_eq_false, not_false_eq_true, Int.reduceEq, Int.reduceLT, Int.reduceLE]
theorem sX11_isSide {a : Int} {m : jm_Mem} (h0 : -2147483648 ≤ a) (h1 : a < 2147483648) : jm_env (d + 1) 125 [.int (i3 a)] m = some (.inl (some (.int (i3 (if 1 ≤ a ∧ a ≤ 2000 then 1 else 0)))), m) := by
  simp (disch := first | assumption | omega) only [eX11_isSide, bX11_isSide_0, bX11_isSide_5, bX11_isSide_12, bX11_isSide_16, bX11_isSide_17, i3_add, i3_sub, i3_mul, i3_neg, i6_add, i6_sub, i6_mul, i6_neg, i3_lt, i3_le, i3_eq, i6_lt, i6_eq, i3_div, i6_div, i6_i3, i3_i6, c6_lt, c6_ge, c6_gt, c6_le, c6_eq, i3_ite, i6_ite, ib_0, ib_z, ite_not, i1_0, i0_0, jB_1, jB_0, jB_ib, bI_v, bL_v, bD_v, bV_v, ob_s, ob_i, i3_ofNat, jx_e, bI_e, bL_e, bD_e, bV_e, i3_eq0, i6_eq0, if_mx, if_mn, if_true, if_false, not_true_eq_false, not_false_eq_true, Int.reduceEq, Int.reduceLT, Int.reduceLE]
  all_goals ((repeat' split) <;> first | rfl | (apply fin_i; omega) | (exfalso; omega))
theorem sX11_capped {a : Int} {m : jm_Mem} (h0 : -9223372036854775808 ≤ a) (h1 : a < 9223372036854775808) : jm_env (d + 1) 127 [.long (i6 a)] m = some (.inl (some (.int (i3 (min 2147483647 a)))), m) := by
  simp (disch := first | assumption | omega) only [eX11_capped, bX11_capped_0, i3_add, i3_sub, i3_mul, i3_neg, i6_add, i6_sub, i6_mul, i6_neg, i3_lt, i3_le, i3_eq, i6_lt, i6_eq, i3_div, i6_div, i6_i3, i3_i6, c6_lt, c6_ge, c6_gt, c6_le, c6_eq, i3_ite, i6_ite, ib_0, ib_z, ite_not, i1_0, i0_0, jB_1, jB_0, jB_ib, bI_v, bL_v, bD_v, bV_v, ob_s, ob_i, i3_ofNat, jx_e, bI_e, bL_e, bD_e, bV_e, i3_eq0, i6_eq0, if_mx, if_mn, if_true, if_false, not_true_eq_false, not_false_eq_true, Int.reduceEq, Int.reduceLT, Int.reduceLE]
theorem tX4_hasSeries (h : LO v 14 μ) {i : Int} (h0 : -2147483648 ≤ i) (h1 : i < 2147483648) : jm_env (d + 1) 43 [.ref 14, .int (i3 i)] (qM X v w T c s) = some (.inl (some (.int (i3 (if 0 ≤ i ∧ i < μ 412 0 then 1 else 0)))), (qM X v w T c s)) := by
  obtain ⟨hln, ⟨⟨-, -, hcn, -⟩, -⟩, hg, -⟩ := id h
  obtain ⟨hc0, hc1, -⟩ := id hg
  rw [sX4_hasSeries hln (by omega) (by omega) h0 h1, hcn]
theorem tX11_requireSize_0 (h : LO v 14 μ) {i n : Int} (h0 : 0 ≤ i) (h1 : i < μ 412 0) (h2 : 0 ≤ n) (h3 : n < 10) : jm_env (d + 2) 124 [.ref 0, .int (i3 i), .int (i3 n)] (qM X v w T c s) = some (.inl none, (qM X v w T c s)) := by
  have hc1 := h.2.2.1.2.1
  simp (disch := first | assumption | omega) only [eX11_requireSize, bX11_requireSize_0, bX11_requireSize_11, bX11_requireSize_15, bX11_requireSize_21, bX11_requireSize_32, r11_5, i3_add, i3_sub, i3_mul, i3_neg, i6_add, i6_sub, i6_mul, i6_neg, i3_lt, i3_le, i3_eq, i6_lt, i6_eq, i3_div, i6_div, i6_i3, i3_i6, c6_lt, c6_ge, c6_gt, c6_le, c6_eq, i3_ite, i6_ite, ib_0, ib_z, ite_not, i1_0, i0_0, jB_1, jB_0, jB_ib, bI_v, bL_v, bD_v, bV_v, ob_s, ob_i, i3_ofNat, jx_e, bI_e, bL_e, bD_e, bV_e, i3_eq0, i6_eq0, if_mx, if_mn, if_true, if_false, not_true_eq_false, not_false_eq_true, Int.reduceEq, Int.reduceLT, Int.reduceLE, tX4_hasSeries h]
  rw [if_pos ⟨h0, h1⟩, if_neg (by omega), if_pos (by omega)]
theorem tX11_requireSize_1 (h : LO v 14 μ) {i n : Int} (h0 : -2147483648 ≤ i) (h1 : i < 2147483648) (h2 : -2147483648 ≤ n) (h3 : n < 2147483648) (g : ¬ ((0 ≤ i ∧ i < μ 412 0) ∧ 0 ≤ n ∧ n < 10)) : jm_env (d + 2) 124 [.ref 0, .int (i3 i), .int (i3 n)] (qM X v w T c s) = some (.inr eIB, qM X v w T (c + 1) (s + 6)) := by
  simp (disch := first | assumption | omega) only [eX11_requireSize, bX11_requireSize_0, bX11_requireSize_11, bX11_requireSize_15, bX11_requireSize_21, bX11_requireSize_32, r11_5, i3_add, i3_sub, i3_mul, i3_neg, i6_add, i6_sub, i6_mul, i6_neg, i3_lt, i3_le, i3_eq, i6_lt, i6_eq, i3_div, i6_div, i6_i3, i3_i6, c6_lt, c6_ge, c6_gt, c6_le, c6_eq, i3_ite, i6_ite, ib_0, ib_z, ite_not, i1_0, i0_0, jB_1, jB_0, jB_ib, bI_v, bL_v, bD_v, bV_v, ob_s, ob_i, i3_ofNat, jx_e, bI_e, bL_e, bD_e, bV_e, i3_eq0, i6_eq0, if_mx, if_mn, if_true, if_false, not_true_eq_false, not_false_eq_true, Int.reduceEq, Int.reduceLT, Int.reduceLE, tX4_hasSeries h]
  (repeat' split) <;> first | rfl | (exfalso; omega)
theorem tX11_requireOrder_0 {a b q : Int} {m : jm_Mem} (h0 : 1 ≤ a) (h1 : a ≤ 2000) (h2 : 1 ≤ b) (h3 : b ≤ 2000) (h4 : 1 ≤ q) (h5 : q ≤ 999) : jm_env (d + 2) 123 [.int (i3 a), .int (i3 b), .int (i3 q)] m = some (.inl none, m) := by
  simp (disch := first | assumption | omega) only [eX11_requireOrder, bX11_requireOrder_0, bX11_requireOrder_7, bX11_requireOrder_14, bX11_requireOrder_19, bX11_requireOrder_26, bX11_requireOrder_30, bX11_requireOrder_31, i3_add, i3_sub, i3_mul, i3_neg, i6_add, i6_sub, i6_mul, i6_neg, i3_lt, i3_le, i3_eq, i6_lt, i6_eq, i3_div, i6_div, i6_i3, i3_i6, c6_lt, c6_ge, c6_gt, c6_le, c6_eq, i3_ite, i6_ite, ib_0, ib_z, ite_not, i1_0, i0_0, jB_1, jB_0, jB_ib, bI_v, bL_v, bD_v, bV_v, ob_s, ob_i, i3_ofNat, jx_e, bI_e, bL_e, bD_e, bV_e, i3_eq0, i6_eq0, if_mx, if_mn, if_true, if_false, not_true_eq_false, not_false_eq_true, Int.reduceEq, Int.reduceLT, Int.reduceLE, sX11_isSide, sX11_require_1, sX11_require_0]
  rw [if_pos ⟨h0, h1⟩, if_pos ⟨h2, h3⟩]
  (repeat' split) <;> first | rfl | (exfalso; omega)
theorem tX11_requireOrder_1 {a b q : Int} {m : jm_Mem} (ha0 : -2147483648 ≤ a) (ha1 : a < 2147483648) (hb0 : -2147483648 ≤ b) (hb1 : b < 2147483648) (hq0 : -2147483648 ≤ q) (hq1 : q < 2147483648) (h : ¬ (((1 ≤ a ∧ a ≤ 2000) ∧ 1 ≤ b ∧ b ≤ 2000) ∧ 1 ≤ q ∧ q ≤ 999)) : jm_env (d + 2) 123 [.int (i3 a), .int (i3 b), .int (i3 q)] m = some (.inr eIA, jm_exc m) := by
  simp (disch := first | assumption | omega) only [eX11_requireOrder, bX11_requireOrder_0, bX11_requireOrder_7, bX11_requireOrder_14, bX11_requireOrder_19, bX11_requireOrder_26, bX11_requireOrder_30, bX11_requireOrder_31, i3_add, i3_sub, i3_mul, i3_neg, i6_add, i6_sub, i6_mul, i6_neg, i3_lt, i3_le, i3_eq, i6_lt, i6_eq, i3_div, i6_div, i6_i3, i3_i6, c6_lt, c6_ge, c6_gt, c6_le, c6_eq, i3_ite, i6_ite, ib_0, ib_z, ite_not, i1_0, i0_0, jB_1, jB_0, jB_ib, bI_v, bL_v, bD_v, bV_v, ob_s, ob_i, i3_ofNat, jx_e, bI_e, bL_e, bD_e, bV_e, i3_eq0, i6_eq0, if_mx, if_mn, if_true, if_false, not_true_eq_false, not_false_eq_true, Int.reduceEq, Int.reduceLT, Int.reduceLE, sX11_isSide, sX11_require_1, sX11_require_0]
  (repeat' split) <;> first | rfl | (exfalso; omega)
theorem cX11_count {q : Int} (h : LO v 14 μ) (hu : v 78 2 = μ 411 7) (hq : isI q) : cR (jm_env (d + 3) 102 [.ref 0, .int (i3 q)] (qM X v w T c s)) X v T c s eIA eIA (cd1 (0 ≤ q ∧ q ≤ 6)) (cntA μ q) := by
  obtain ⟨hq0, hq1⟩ := hq
  obtain ⟨hln, ⟨⟨l0, l1, l2, l3⟩, -⟩, hg, -⟩ := id h
  have hpi := oPri_of hln
  by_cases g : 0 ≤ q ∧ q ≤ 6
  · rw [cd1_0 g]
    apply cR_0
    have : q = 0 ∨ q = 1 ∨ q = 2 ∨ q = 3 ∨ q = 4 ∨ q = 5 ∨ q = 6 := by omega
    unfold cntA
    rcases this with rfl | rfl | rfl | rfl | rfl | rfl | rfl <;> simp (disch := first | assumption | omega) only [eX11_count, bX11_count_0, bX11_count_1_0, bX11_count_1_1, bX11_count_1_2, bX11_count_1_3, bX11_count_1_4, bX11_count_1_5, bX11_count_1_6, bX11_count_1_d, bX11_count_44, bX11_count_52, bX11_count_60, bX11_count_68, bX11_count_76, bX11_count_84, bX11_count_95, bX11_count_103, r11_5, g4_2, g4_0, g4_1, r4_4, g6_3, r11_7, g3_2, i3_add, i3_sub, i3_mul, i3_neg, i6_add, i6_sub, i6_mul, i6_neg, i3_lt, i3_le, i3_eq, i6_lt, i6_eq, i3_div, i6_div, i6_i3, i3_i6, c6_lt, c6_ge, c6_gt, c6_le, c6_eq, i3_ite, i6_ite, ib_0, ib_z, ite_not, i1_0, i0_0, jB_1, jB_0, jB_ib, bI_v, bL_v, bD_v, bV_v, ob_s, ob_i, i3_ofNat, jx_e, bI_e, bL_e, bD_e, bV_e, i3_eq0, i6_eq0, if_mx, if_mn, if_true, if_false, not_true_eq_false, not_false_eq_true, Int.reduceEq, Int.reduceLT, Int.reduceLE, tX4_sheetsInAll h, tX4_stacksInAll h, l0, l1, l2, l3, hu] <;> exact ⟨_, rfl⟩
  · rw [cd1_1 g]
    apply cR_1
    simp (disch := first | assumption | omega) only [eX11_count, bX11_count_0, bX11_count_1_0, bX11_count_1_1, bX11_count_1_2, bX11_count_1_3, bX11_count_1_4, bX11_count_1_5, bX11_count_1_6, bX11_count_1_d, bX11_count_44, bX11_count_52, bX11_count_60, bX11_count_68, bX11_count_76, bX11_count_84, bX11_count_95, bX11_count_103, r11_5, g4_2, g4_0, g4_1, r4_4, g6_3, r11_7, g3_2, i3_add, i3_sub, i3_mul, i3_neg, i6_add, i6_sub, i6_mul, i6_neg, i3_lt, i3_le, i3_eq, i6_lt, i6_eq, i3_div, i6_div, i6_i3, i3_i6, c6_lt, c6_ge, c6_gt, c6_le, c6_eq, i3_ite, i6_ite, ib_0, ib_z, ite_not, i1_0, i0_0, jB_1, jB_0, jB_ib, bI_v, bL_v, bD_v, bV_v, ob_s, ob_i, i3_ofNat, jx_e, bI_e, bL_e, bD_e, bV_e, i3_eq0, i6_eq0, if_mx, if_mn, if_true, if_false, not_true_eq_false, not_false_eq_true, Int.reduceEq, Int.reduceLT, Int.reduceLE, exc_q]
    exact ⟨_, rfl⟩
end CLF
