-- uses 24.zar 25.obj 26.ops 27.ra 29.rc 34.gen 35.byt
/-! Series. -/
def sOk (v : Nat → Int → Int) (a : Nat) : Prop := ∀ n : Int, 0 ≤ n → n < 10 → 0 ≤ v (a + 2) n ∧ v (a + 2) n ≤ 2000 ∧ 0 ≤ v (a + 3) n ∧ v (a + 3) n ≤ 2000 ∧ 0 ≤ v (a + 4) n ∧ v (a + 4) n ≤ 20000
theorem sOk.b {v : Nat → Int → Int} {a : Nat} (h : sOk v a) (n : Int) : 0 ≤ tr (v (a + 2)) n ∧ tr (v (a + 2)) n ≤ 2000 ∧ 0 ≤ tr (v (a + 3)) n ∧ tr (v (a + 3)) n ≤ 2000 ∧ 0 ≤ tr (v (a + 4)) n ∧ tr (v (a + 4)) n ≤ 20000 := by
  have := h n
  unfold tr
  split <;> omega
section SER
variable {d : Nat} {X : Nat × (Nat → Int32)} {v w : Nat → Int → Int} {T c s : Nat}
theorem sX11_usable {x e : Int} (h0 : 0 ≤ x) (h1 : x ≤ 2000) (h2 : 0 ≤ e) (h3 : e ≤ 100) : jm_env (d + 1) 126 [.int (i3 x), .int (i3 e)] (qM X v w T c s) = some (.inl (some (.int (i3 (if x ≤ 2 * e then 0 else x - 2 * e)))), (qM X v w T c s)) := by
  simp (disch := first | assumption | omega) only [eX11_usable, bX11_usable_0, bX11_usable_7, bX11_usable_15, bX11_usable_16, i3_add, i3_sub, i3_mul, i3_neg, i6_add, i6_sub, i6_mul, i6_neg, i3_lt, i3_le, i3_eq, i6_lt, i6_eq, i3_div, i6_div, i6_i3, i3_i6, c6_lt, c6_ge, c6_gt, c6_le, c6_eq, i3_ite, i6_ite, ib_0, ib_z, ite_not, i1_0, i0_0, jB_1, jB_0, jB_ib, bI_v, bL_v, bD_v, bV_v, ob_s, ob_i, i3_ofNat, jx_e, bI_e, bL_e, bD_e, bV_e, i3_eq0, i6_eq0, if_mx, if_mn, if_true, if_false, not_true_eq_false, not_false_eq_true, Int.reduceEq, Int.reduceLT, Int.reduceLE]
  all_goals ((repeat' split) <;> first | rfl | (apply fin_i; omega) | (exfalso; omega))
theorem sX9_isVoid {a : Nat} {n : Int} (h : oSer a) (hs : sOk v a) (h0 : -2147483648 ≤ n) (h1 : n < 2147483648) :
    jm_env (d + 1) 79 [.ref a, .int (i3 n)] (qM X v w T c s) = some (.inl (some (.int (i3 (if tr (v (a + 2)) n = 0 then 1 else 0)))), (qM X v w T c s)) := by
  have hr := hs n
  simp (disch := first | assumption | omega) only [eX9_isVoid, bX9_isVoid_0, bX9_isVoid_4, bX9_isVoid_10, bX9_isVoid_19, bX9_isVoid_23, bX9_isVoid_24, r9_2, a9_2, w9_2, n9_2, i3_add, i3_sub, i3_mul, i3_neg, i6_add, i6_sub, i6_mul, i6_neg, i3_lt, i3_le, i3_eq, i6_lt, i6_eq, i3_div, i6_div, i6_i3, i3_i6, c6_lt, c6_ge, c6_gt, c6_le, c6_eq, i3_ite, i6_ite, ib_0, ib_z, ite_not, i1_0, i0_0, jB_1, jB_0, jB_ib, bI_v, bL_v, bD_v, bV_v, ob_s, ob_i, i3_ofNat, jx_e, bI_e, bL_e, bD_e, bV_e, i3_eq0, i6_eq0, if_mx, if_mn, if_true, if_false, not_true_eq_false, not_false_eq_true, Int.reduceEq, Int.reduceLT, Int.reduceLE]
  unfold tr
  all_goals ((repeat' split) <;> first | rfl | (apply fin_i; omega) | (exfalso; omega))
theorem sX9_wideAt {a : Nat} {n : Int} (h : oSer a) (h0 : -2147483648 ≤ n) (h1 : n < 2147483648) :
    jm_env (d + 1) 80 [.ref a, .int (i3 n)] (qM X v w T c s) = some (.inl (some (.int (i3 (tr (v (a + 2)) n)))), (qM X v w T c s)) := by
  simp (disch := first | assumption | omega) only [eX9_wideAt, bX9_wideAt_0, bX9_wideAt_4, bX9_wideAt_10, bX9_wideAt_19, bX9_wideAt_20, r9_2, a9_2, w9_2, n9_2, i3_add, i3_sub, i3_mul, i3_neg, i6_add, i6_sub, i6_mul, i6_neg, i3_lt, i3_le, i3_eq, i6_lt, i6_eq, i3_div, i6_div, i6_i3, i3_i6, c6_lt, c6_ge, c6_gt, c6_le, c6_eq, i3_ite, i6_ite, ib_0, ib_z, ite_not, i1_0, i0_0, jB_1, jB_0, jB_ib, bI_v, bL_v, bD_v, bV_v, ob_s, ob_i, i3_ofNat, jx_e, bI_e, bL_e, bD_e, bV_e, i3_eq0, i6_eq0, if_mx, if_mn, if_true, if_false, not_true_eq_false, not_false_eq_true, Int.reduceEq, Int.reduceLT, Int.reduceLE]
  unfold tr
  all_goals ((repeat' split) <;> first | rfl | (apply fin_i; omega) | (exfalso; omega))
theorem sX9_highAt {a : Nat} {n : Int} (h : oSer a) (h0 : -2147483648 ≤ n) (h1 : n < 2147483648) :
    jm_env (d + 1) 81 [.ref a, .int (i3 n)] (qM X v w T c s) = some (.inl (some (.int (i3 (tr (v (a + 3)) n)))), (qM X v w T c s)) := by
  simp (disch := first | assumption | omega) only [eX9_highAt, bX9_highAt_0, bX9_highAt_4, bX9_highAt_10, bX9_highAt_19, bX9_highAt_20, r9_3, a9_3, w9_3, n9_3, i3_add, i3_sub, i3_mul, i3_neg, i6_add, i6_sub, i6_mul, i6_neg, i3_lt, i3_le, i3_eq, i6_lt, i6_eq, i3_div, i6_div, i6_i3, i3_i6, c6_lt, c6_ge, c6_gt, c6_le, c6_eq, i3_ite, i6_ite, ib_0, ib_z, ite_not, i1_0, i0_0, jB_1, jB_0, jB_ib, bI_v, bL_v, bD_v, bV_v, ob_s, ob_i, i3_ofNat, jx_e, bI_e, bL_e, bD_e, bV_e, i3_eq0, i6_eq0, if_mx, if_mn, if_true, if_false, not_true_eq_false, not_false_eq_true, Int.reduceEq, Int.reduceLT, Int.reduceLE]
  unfold tr
  all_goals ((repeat' split) <;> first | rfl | (apply fin_i; omega) | (exfalso; omega))
theorem sX9_sheetsAt {a : Nat} {n : Int} (h : oSer a) (h0 : -2147483648 ≤ n) (h1 : n < 2147483648) :
    jm_env (d + 1) 83 [.ref a, .int (i3 n)] (qM X v w T c s) = some (.inl (some (.int (i3 (tr (v (a + 4)) n)))), (qM X v w T c s)) := by
  simp (disch := first | assumption | omega) only [eX9_sheetsAt, bX9_sheetsAt_0, bX9_sheetsAt_4, bX9_sheetsAt_10, bX9_sheetsAt_19, bX9_sheetsAt_20, r9_4, a9_4, w9_4, n9_4, i3_add, i3_sub, i3_mul, i3_neg, i6_add, i6_sub, i6_mul, i6_neg, i3_lt, i3_le, i3_eq, i6_lt, i6_eq, i3_div, i6_div, i6_i3, i3_i6, c6_lt, c6_ge, c6_gt, c6_le, c6_eq, i3_ite, i6_ite, ib_0, ib_z, ite_not, i1_0, i0_0, jB_1, jB_0, jB_ib, bI_v, bL_v, bD_v, bV_v, ob_s, ob_i, i3_ofNat, jx_e, bI_e, bL_e, bD_e, bV_e, i3_eq0, i6_eq0, if_mx, if_mn, if_true, if_false, not_true_eq_false, not_false_eq_true, Int.reduceEq, Int.reduceLT, Int.reduceLE]
  unfold tr
  all_goals ((repeat' split) <;> first | rfl | (apply fin_i; omega) | (exfalso; omega))
theorem sX9_areaAt {a : Nat} {n : Int} (h : oSer a) (h0 : -2147483648 ≤ n) (h1 : n < 2147483648) :
    jm_env (d + 1) 82 [.ref a, .int (i3 n)] (qM X v w T c s) = some (.inl (some (.int (i3 (tr (v (a + 2)) n * tr (v (a + 3)) n)))), (qM X v w T c s)) := by
  simp (disch := first | assumption | omega) only [eX9_areaAt, bX9_areaAt_0, bX9_areaAt_4, bX9_areaAt_10, bX9_areaAt_26, bX9_areaAt_27, r9_2, a9_2, w9_2, n9_2, r9_3, a9_3, w9_3, n9_3, i3_add, i3_sub, i3_mul, i3_neg, i6_add, i6_sub, i6_mul, i6_neg, i3_lt, i3_le, i3_eq, i6_lt, i6_eq, i3_div, i6_div, i6_i3, i3_i6, c6_lt, c6_ge, c6_gt, c6_le, c6_eq, i3_ite, i6_ite, ib_0, ib_z, ite_not, i1_0, i0_0, jB_1, jB_0, jB_ib, bI_v, bL_v, bD_v, bV_v, ob_s, ob_i, i3_ofNat, jx_e, bI_e, bL_e, bD_e, bV_e, i3_eq0, i6_eq0, if_mx, if_mn, if_true, if_false, not_true_eq_false, not_false_eq_true, Int.reduceEq, Int.reduceLT, Int.reduceLE]
  unfold tr
  (repeat' split) <;> first | rfl | (apply fin_i; simp; done) | (exfalso; omega)
theorem sX9_addSheets {a : Nat} {n z : Int} (h : oSer a) (h0 : 0 ≤ n) (h1 : n < 10) :
    jm_env (d + 1) 84 [.ref a, .int (i3 n), .int (i3 z)] (qM X v w T c s) = some (.inl none, qM X (up v (a + 4) n (v (a + 4) n + z)) w T c s) := by
  simp (disch := first | assumption | omega) only [eX9_addSheets, bX9_addSheets_0, bX9_addSheets_4, bX9_addSheets_10, bX9_addSheets_20, r9_4, a9_4, w9_4, n9_4, i3_add, i3_sub, i3_mul, i3_neg, i6_add, i6_sub, i6_mul, i6_neg, i3_lt, i3_le, i3_eq, i6_lt, i6_eq, i3_div, i6_div, i6_i3, i3_i6, c6_lt, c6_ge, c6_gt, c6_le, c6_eq, i3_ite, i6_ite, ib_0, ib_z, ite_not, i1_0, i0_0, jB_1, jB_0, jB_ib, bI_v, bL_v, bD_v, bV_v, ob_s, ob_i, i3_ofNat, jx_e, bI_e, bL_e, bD_e, bV_e, i3_eq0, i6_eq0, if_mx, if_mn, if_true, if_false, not_true_eq_false, not_false_eq_true, Int.reduceEq, Int.reduceLT, Int.reduceLE]
  all_goals ((repeat' split) <;> first | rfl | (apply fin_i; omega) | (exfalso; omega))
/-- the strip of a cut -/
def stripF (W H : Int → Int) (n : Int) : Int := if W (n + 1) = 0 then -1 else W n * H n - 2 * (W (n + 1) * H (n + 1))
theorem sX9_stripAt {a : Nat} {n : Int} (h : oSer a) (hs : sOk v a) (h0 : -2147483647 ≤ n) (h1 : n < 2147483647) :
    jm_env (d + 2) 85 [.ref a, .int (i3 n)] (qM X v w T c s) = some (.inl (some (.int (i3 (stripF (tr (v (a + 2))) (tr (v (a + 3))) n)))), (qM X v w T c s)) := by
  simp (disch := first | assumption | omega) only [eX9_stripAt, bX9_stripAt_0, bX9_stripAt_10, bX9_stripAt_14, bX9_stripAt_29, i3_add, i3_sub, i3_mul, i3_neg, i6_add, i6_sub, i6_mul, i6_neg, i3_lt, i3_le, i3_eq, i6_lt, i6_eq, i3_div, i6_div, i6_i3, i3_i6, c6_lt, c6_ge, c6_gt, c6_le, c6_eq, i3_ite, i6_ite, ib_0, ib_z, ite_not, i1_0, i0_0, jB_1, jB_0, jB_ib, bI_v, bL_v, bD_v, bV_v, ob_s, ob_i, i3_ofNat, jx_e, bI_e, bL_e, bD_e, bV_e, i3_eq0, i6_eq0, if_mx, if_mn, if_true, if_false, not_true_eq_false, not_false_eq_true, Int.reduceEq, Int.reduceLT, Int.reduceLE, sX9_isVoid, sX9_areaAt]
  unfold stripF
  all_goals ((repeat' split) <;> first | rfl | (apply fin_i; omega) | (exfalso; omega))
def supF (K : Int → Int) : Nat → Int
  | 0 => 0
  | n + 1 => min 9999 (K n + 2 * supF K n)
theorem supF_b {K : Int → Int} (hK : ∀ n, 0 ≤ K n) (n : Nat) : 0 ≤ supF K n ∧ supF K n ≤ 9999 := by
  induction n with
  | zero => unfold supF; omega
  | succ n ih => have := hK n; unfold supF; omega
theorem sX9_supplyAt {a : Nat} {n : Nat} (h : oSer a) (hs : sOk v a) (h1 : n < 10) :
    jm_env (d + 2) 86 [.ref a, .int (i3 n)] (qM X v w T c s) = some (.inl (some (.int (i3 (if tr (v (a + 2)) n = 0 then 0 else supF (tr (v (a + 4))) (n + 1))))), (qM X v w T c s)) := by
  have hb := hs.b n
  simp (disch := first | assumption | omega) only [eX9_supplyAt, bX9_supplyAt_0, bX9_supplyAt_8, bX9_supplyAt_10, bX9_supplyAt_19, bX9_supplyAt_41, i3_add, i3_sub, i3_mul, i3_neg, i6_add, i6_sub, i6_mul, i6_neg, i3_lt, i3_le, i3_eq, i6_lt, i6_eq, i3_div, i6_div, i6_i3, i3_i6, c6_lt, c6_ge, c6_gt, c6_le, c6_eq, i3_ite, i6_ite, ib_0, ib_z, ite_not, i1_0, i0_0, jB_1, jB_0, jB_ib, bI_v, bL_v, bD_v, bV_v, ob_s, ob_i, i3_ofNat, jx_e, bI_e, bL_e, bD_e, bV_e, i3_eq0, i6_eq0, if_mx, if_mn, if_true, if_false, not_true_eq_false, not_false_eq_true, Int.reduceEq, Int.reduceLT, Int.reduceLE, sX9_isVoid]
  have hl := ch_n (fun k : Nat => jm_R (jm_env (d + 1)) jmM_X9_supplyAt 14 [some (.ref a), some (.int (i3 n)), some (.int (i3 (supF (tr (v (a + 4))) k))), some (.int (i3 k))] [] (qM X v w T c s)) (n + 1) (fun k hk => by
    have h2 := supF_b (K := tr (v (a + 4))) (fun n => (hs.b n).2.2.2.2.1) k
    have h3 := hs.b k
    rw [bX9_supplyAt_14]
    simp (disch := first | assumption | omega) only [eX9_supplyAt, bX9_supplyAt_0, bX9_supplyAt_8, bX9_supplyAt_10, bX9_supplyAt_19, bX9_supplyAt_41, i3_add, i3_sub, i3_mul, i3_neg, i6_add, i6_sub, i6_mul, i6_neg, i3_lt, i3_le, i3_eq, i6_lt, i6_eq, i3_div, i6_div, i6_i3, i3_i6, c6_lt, c6_ge, c6_gt, c6_le, c6_eq, i3_ite, i6_ite, ib_0, ib_z, ite_not, i1_0, i0_0, jB_1, jB_0, jB_ib, bI_v, bL_v, bD_v, bV_v, ob_s, ob_i, i3_ofNat, jx_e, bI_e, bL_e, bD_e, bV_e, i3_eq0, i6_eq0, if_mx, if_mn, if_true, if_false, not_true_eq_false, not_false_eq_true, Int.reduceEq, Int.reduceLT, Int.reduceLE, sX9_sheetsAt]
    rw [if_neg (by omega)]
    grind [supF])
  split
  · rfl
  · refine hl.trans ?_
    rw [bX9_supplyAt_14]
    simp (disch := first | assumption | omega) only [eX9_supplyAt, bX9_supplyAt_0, bX9_supplyAt_8, bX9_supplyAt_10, bX9_supplyAt_19, bX9_supplyAt_41, i3_add, i3_sub, i3_mul, i3_neg, i6_add, i6_sub, i6_mul, i6_neg, i3_lt, i3_le, i3_eq, i6_lt, i6_eq, i3_div, i6_div, i6_i3, i3_i6, c6_lt, c6_ge, c6_gt, c6_le, c6_eq, i3_ite, i6_ite, ib_0, ib_z, ite_not, i1_0, i0_0, jB_1, jB_0, jB_ib, bI_v, bL_v, bD_v, bV_v, ob_s, ob_i, i3_ofNat, jx_e, bI_e, bL_e, bD_e, bV_e, i3_eq0, i6_eq0, if_mx, if_mn, if_true, if_false, not_true_eq_false, not_false_eq_true, Int.reduceEq, Int.reduceLT, Int.reduceLE]
    rw [if_pos (by omega)]
theorem sX9_foldsAt {a : Nat} {n : Int} (h : oSer a) (hs : sOk v a) (h0 : 0 ≤ n) (h1 : n < 10) :
    jm_env (d + 2) 87 [.ref a, .int (i3 n)] (qM X v w T c s) = some (.inl (some (.int (i3 (if tr (v (a + 2)) n = 0 then -1 else fnd (fun k : Nat => tr (v (a + 2)) (n + k + 1) = 0) (fun k => (k : Int)) 5 0 5)))), (qM X v w T c s)) := by
  have hl := ch_f (p := fun k : Nat => tr (v (a + 2)) (n + k + 1) = 0) (fun k : Nat => jm_R (jm_env (d + 1)) jmM_X9_foldsAt 12 [some (.ref a), some (.int (i3 n)), some (.int (i3 k))] [] (qM X v w T c s)) (fun k : Nat => some (.inl (some (.int (i3 k))), (qM X v w T c s))) (some (.inl (some (.int (i3 5))), (qM X v w T c s))) 5 (fun k hk => by
    rw [bX9_foldsAt_12]
    simp (disch := first | assumption | omega) only [eX9_foldsAt, bX9_foldsAt_0, bX9_foldsAt_8, bX9_foldsAt_10, bX9_foldsAt_17, bX9_foldsAt_29, bX9_foldsAt_35, i3_add, i3_sub, i3_mul, i3_neg, i6_add, i6_sub, i6_mul, i6_neg, i3_lt, i3_le, i3_eq, i6_lt, i6_eq, i3_div, i6_div, i6_i3, i3_i6, c6_lt, c6_ge, c6_gt, c6_le, c6_eq, i3_ite, i6_ite, ib_0, ib_z, ite_not, i1_0, i0_0, jB_1, jB_0, jB_ib, bI_v, bL_v, bD_v, bV_v, ob_s, ob_i, i3_ofNat, jx_e, bI_e, bL_e, bD_e, bV_e, i3_eq0, i6_eq0, if_mx, if_mn, if_true, if_false, not_true_eq_false, not_false_eq_true, Int.reduceEq, Int.reduceLT, Int.reduceLE, sX9_isVoid]
    rw [if_neg (by omega)]
    rfl) (by
    rw [bX9_foldsAt_12]
    simp (disch := first | assumption | omega) only [eX9_foldsAt, bX9_foldsAt_0, bX9_foldsAt_8, bX9_foldsAt_10, bX9_foldsAt_17, bX9_foldsAt_29, bX9_foldsAt_35, i3_add, i3_sub, i3_mul, i3_neg, i6_add, i6_sub, i6_mul, i6_neg, i3_lt, i3_le, i3_eq, i6_lt, i6_eq, i3_div, i6_div, i6_i3, i3_i6, c6_lt, c6_ge, c6_gt, c6_le, c6_eq, i3_ite, i6_ite, ib_0, ib_z, ite_not, i1_0, i0_0, jB_1, jB_0, jB_ib, bI_v, bL_v, bD_v, bV_v, ob_s, ob_i, i3_ofNat, jx_e, bI_e, bL_e, bD_e, bV_e, i3_eq0, i6_eq0, if_mx, if_mn, if_true, if_false, not_true_eq_false, not_false_eq_true, Int.reduceEq, Int.reduceLT, Int.reduceLE]
    rw [if_pos (by omega)]; rfl)
  rw [fnd_map (fun z : Int => (some (.inl (some (.int (i3 z))), (qM X v w T c s)) : Option jm_Res))] at hl
  simp (disch := first | assumption | omega) only [eX9_foldsAt, bX9_foldsAt_0, bX9_foldsAt_8, bX9_foldsAt_10, bX9_foldsAt_17, bX9_foldsAt_29, bX9_foldsAt_35, i3_add, i3_sub, i3_mul, i3_neg, i6_add, i6_sub, i6_mul, i6_neg, i3_lt, i3_le, i3_eq, i6_lt, i6_eq, i3_div, i6_div, i6_i3, i3_i6, c6_lt, c6_ge, c6_gt, c6_le, c6_eq, i3_ite, i6_ite, ib_0, ib_z, ite_not, i1_0, i0_0, jB_1, jB_0, jB_ib, bI_v, bL_v, bD_v, bV_v, ob_s, ob_i, i3_ofNat, jx_e, bI_e, bL_e, bD_e, bV_e, i3_eq0, i6_eq0, if_mx, if_mn, if_true, if_false, not_true_eq_false, not_false_eq_true, Int.reduceEq, Int.reduceLT, Int.reduceLE, sX9_isVoid]
  push_cast at hl
  rw [hl]
  all_goals ((repeat' split) <;> first | rfl | (apply fin_i; omega) | (exfalso; omega))
/-- whether a print fits a size with an edge -/
def usF (x e : Int) : Int := if x ≤ 2 * e then 0 else x - 2 * e
def fitF (W H : Int → Int) (e w h : Int) (n : Int) : Prop := (w ≤ usF (W n) e ∧ h ≤ usF (H n) e) ∨ (w ≤ usF (H n) e ∧ h ≤ usF (W n) e)
def fitD (W H : Int → Int) (e w h : Int) (n : Int) : Decidable (fitF W H e w h n) := by unfold fitF; exact instDecidableOr
theorem usF_b {x e : Int} (h0 : 0 ≤ x) (h1 : x ≤ 2000) (h2 : 0 ≤ e) : 0 ≤ usF x e ∧ usF x e ≤ 2000 := by unfold usF; split <;> omega
theorem sX9_fits {a : Nat} {n pw ph e : Int} (h : oSer a) (hs : sOk v a) (h0 : -2147483648 ≤ n) (h1 : n < 2147483648) (h2 : 0 ≤ pw) (h3 : pw ≤ 2000) (h4 : 0 ≤ ph) (h5 : ph ≤ 2000) (h6 : 0 ≤ e) (h7 : e ≤ 100) :
    jm_env (d + 2) 88 [.ref a, .int (i3 n), .int (i3 pw), .int (i3 ph), .int (i3 e)] (qM X v w T c s) = some (.inl (some (.int (i3 (if (pw ≤ usF (tr (v (a + 2)) n) e ∧ ph ≤ usF (tr (v (a + 3)) n) e) ∨ (pw ≤ usF (tr (v (a + 3)) n) e ∧ ph ≤ usF (tr (v (a + 2)) n) e) then 1 else 0)))), (qM X v w T c s)) := by
  have hb := hs.b n
  simp (disch := first | assumption | omega) only [eX9_fits, bX9_fits_0, bX9_fits_30, bX9_fits_36, bX9_fits_42, bX9_fits_48, bX9_fits_52, bX9_fits_53, i3_add, i3_sub, i3_mul, i3_neg, i6_add, i6_sub, i6_mul, i6_neg, i3_lt, i3_le, i3_eq, i6_lt, i6_eq, i3_div, i6_div, i6_i3, i3_i6, c6_lt, c6_ge, c6_gt, c6_le, c6_eq, i3_ite, i6_ite, ib_0, ib_z, ite_not, i1_0, i0_0, jB_1, jB_0, jB_ib, bI_v, bL_v, bD_v, bV_v, ob_s, ob_i, i3_ofNat, jx_e, bI_e, bL_e, bD_e, bV_e, i3_eq0, i6_eq0, if_mx, if_mn, if_true, if_false, not_true_eq_false, not_false_eq_true, Int.reduceEq, Int.reduceLT, Int.reduceLE, sX9_wideAt, sX9_highAt, sX11_usable]
  unfold usF
  all_goals ((repeat' split) <;> first | rfl | (apply fin_i; omega) | (exfalso; omega))
/-- the greatest edge with which a size fits a print -/
def edgF (W H w h : Int) : Int := if max (min (W - w) (H - h)) (min (H - w) (W - h)) < 0 then -1 else min 50 (max (min (W - w) (H - h)) (min (H - w) (W - h)) / 2)
/-- the sides of a series, told by its first ones; its stacks are empty -/
def sidV (v : Nat → Int → Int) (a : Nat) (p : Int × Int) (m : Int) : Nat → Int → Int := fil (fil (fil v (a + 2) (fun k => (hv p k.toNat).1) m) (a + 3) (fun k => (hv p k.toNat).2) m) (a + 4) (fun _ => 0) m
theorem sX9_setSides {a : Nat} {p : Int × Int} (h : oSer a) (hp : 0 ≤ p.1 ∧ p.1 ≤ 2000 ∧ 0 ≤ p.2 ∧ p.2 ≤ 2000) :
    jm_env (d + 1) 78 [.ref a, .int (i3 p.1), .int (i3 p.2)] (qM X v w T c s) = some (.inl none, qM X (sidV v a p 10) w T c s) := by
  have hl := ch_n (fun j : Nat => jm_R (jm_env d) jmM_X9_setSides 8 [some (.ref a), some (.int (i3 p.1)), some (.int (i3 p.2)), some (.int (i3 (hv p j).1)), some (.int (i3 (hv p j).2)), some (.int (i3 j))] [] (qM X (sidV v a p j) w T c s)) 10 (fun j hj => by
    have hq := hv_b hp j
    have e : sidV v a p ((j + 1 : Nat) : Int) = up (up (up (sidV v a p j) (a + 2) j (hv p j).1) (a + 3) j (hv p j).2) (a + 4) j 0 :=
      (fil3_up (by omega) (by omega) (by omega) (Int.natCast_nonneg j) rfl rfl rfl).symm
    have e2 : hv p (j + 1) = hf (hv p j) := rfl
    rw [e, e2]
    rw [bX9_setSides_8]
    simp (disch := first | assumption | omega) only [eX9_setSides, bX9_setSides_0, bX9_setSides_15, bX9_setSides_46, bX9_setSides_55, bX9_setSides_59, bX9_setSides_63, bX9_setSides_68, bX9_setSides_73, bX9_setSides_79, r9_2, a9_2, w9_2, n9_2, r9_3, a9_3, w9_3, n9_3, r9_4, a9_4, w9_4, n9_4, i3_add, i3_sub, i3_mul, i3_neg, i6_add, i6_sub, i6_mul, i6_neg, i3_lt, i3_le, i3_eq, i6_lt, i6_eq, i3_div, i6_div, i6_i3, i3_i6, c6_lt, c6_ge, c6_gt, c6_le, c6_eq, i3_ite, i6_ite, ib_0, ib_z, ite_not, i1_0, i0_0, jB_1, jB_0, jB_ib, bI_v, bL_v, bD_v, bV_v, ob_s, ob_i, i3_ofNat, jx_e, bI_e, bL_e, bD_e, bV_e, i3_eq0, i6_eq0, if_mx, if_mn, if_true, if_false, not_true_eq_false, not_false_eq_true, Int.reduceEq, Int.reduceLT, Int.reduceLE]
    rw [if_neg (by omega)]
    unfold hf hf1
    (repeat' split) <;> first | rfl | (exfalso; omega) | (simp_all; done) | (exfalso; simp_all; omega))
  simp (disch := first | assumption | omega) only [eX9_setSides, bX9_setSides_0, bX9_setSides_15, bX9_setSides_46, bX9_setSides_55, bX9_setSides_59, bX9_setSides_63, bX9_setSides_68, bX9_setSides_73, bX9_setSides_79, r9_2, a9_2, w9_2, n9_2, r9_3, a9_3, w9_3, n9_3, r9_4, a9_4, w9_4, n9_4, i3_add, i3_sub, i3_mul, i3_neg, i6_add, i6_sub, i6_mul, i6_neg, i3_lt, i3_le, i3_eq, i6_lt, i6_eq, i3_div, i6_div, i6_i3, i3_i6, c6_lt, c6_ge, c6_gt, c6_le, c6_eq, i3_ite, i6_ite, ib_0, ib_z, ite_not, i1_0, i0_0, jB_1, jB_0, jB_ib, bI_v, bL_v, bD_v, bV_v, ob_s, ob_i, i3_ofNat, jx_e, bI_e, bL_e, bD_e, bV_e, i3_eq0, i6_eq0, if_mx, if_mn, if_true, if_false, not_true_eq_false, not_false_eq_true, Int.reduceEq, Int.reduceLT, Int.reduceLE]
  have e0 : sidV v a p ((0 : Nat) : Int) = v := by
    unfold sidV
    rw [show ((0 : Nat) : Int) = 0 from rfl, fil_0, fil_0, fil_0]
  rw [e0] at hl
  refine Eq.trans ?_ (hl.trans ?_)
  · rfl
  · rw [bX9_setSides_8]
    simp (disch := first | assumption | omega) only [eX9_setSides, bX9_setSides_0, bX9_setSides_15, bX9_setSides_46, bX9_setSides_55, bX9_setSides_59, bX9_setSides_63, bX9_setSides_68, bX9_setSides_73, bX9_setSides_79, r9_2, a9_2, w9_2, n9_2, r9_3, a9_3, w9_3, n9_3, r9_4, a9_4, w9_4, n9_4, i3_add, i3_sub, i3_mul, i3_neg, i6_add, i6_sub, i6_mul, i6_neg, i3_lt, i3_le, i3_eq, i6_lt, i6_eq, i3_div, i6_div, i6_i3, i3_i6, c6_lt, c6_ge, c6_gt, c6_le, c6_eq, i3_ite, i6_ite, ib_0, ib_z, ite_not, i1_0, i0_0, jB_1, jB_0, jB_ib, bI_v, bL_v, bD_v, bV_v, ob_s, ob_i, i3_ofNat, jx_e, bI_e, bL_e, bD_e, bV_e, i3_eq0, i6_eq0, if_mx, if_mn, if_true, if_false, not_true_eq_false, not_false_eq_true, Int.reduceEq, Int.reduceLT, Int.reduceLE]
    rw [if_pos (by omega)]
    rfl
end SER
