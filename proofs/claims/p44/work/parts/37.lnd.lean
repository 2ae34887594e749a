-- uses 24.zar 25.obj 26.ops 27.ra 29.rc 34.gen 35.byt 36.ser
/-! A land: what is asked of it. -/
def lOk (v : Nat → Int → Int) (b : Nat) : Prop := 0 ≤ v b 2 ∧ v b 2 ≤ 5 ∧ ∀ i : Nat, (i : Int) < v b 2 → sOk v (b + 7 + 5 * i)
section LND
variable {d : Nat} {X : Nat × (Nat → Int32)} {v w : Nat → Int → Int} {T c s : Nat}
theorem sX4_hasSeries {b : Nat} {i : Int} (h : oLnd b) (hc0 : 0 ≤ v b 2) (hc1 : v b 2 ≤ 5) (h0 : -2147483648 ≤ i) (h1 : i < 2147483648) :
    jm_env (d + 1) 43 [.ref b, .int (i3 i)] (qM X v w T c s) = some (.inl (some (.int (i3 (if 0 ≤ i ∧ i < v b 2 then 1 else 0)))), (qM X v w T c s)) := by
  simp (disch := first | assumption | omega) only [eX4_hasSeries, bX4_hasSeries_0, bX4_hasSeries_4, bX4_hasSeries_12, bX4_hasSeries_17, bX4_hasSeries_21, bX4_hasSeries_22, g4_2, i3_add, i3_sub, i3_mul, i3_neg, i6_add, i6_sub, i6_mul, i6_neg, i3_lt, i3_le, i3_eq, i6_lt, i6_eq, i3_div, i6_div, i6_i3, i3_i6, c6_lt, c6_ge, c6_gt, c6_le, c6_eq, i3_ite, i6_ite, ib_0, ib_z, ite_not, i1_0, i0_0, jB_1, jB_0, jB_ib, bI_v, bL_v, bD_v, bV_v, ob_s, ob_i, i3_ofNat, jx_e, bI_e, bL_e, bD_e, bV_e, i3_eq0, i6_eq0, if_mx, if_mn, if_true, if_false, not_true_eq_false, not_false_eq_true, Int.reduceEq, Int.reduceLT, Int.reduceLE]
  all_goals ((repeat' split) <;> first | rfl | (apply fin_i; omega) | (exfalso; omega))
theorem sX4_sheetsInAll {b : Nat} (h : oLnd b) (hl : lOk v b) :
    jm_env (d + 2) 46 [.ref b] (qM X v w T c s) = some (.inl (some (.int (i3 (fo2 (fun a k n => a + v (b + 7 + 5 * k + 4) n) 0 (v b 2).toNat)))), (qM X v w T c s)) := by
  obtain ⟨hc0, hc1, hsr⟩ := hl
  obtain ⟨⟨q, x, e⟩, -⟩ := lq2 (fun _ => True) (fun (k : Nat) (a : Int) (_ : Unit) x => jm_R (jm_env (d + 1)) jmM_X4_sheetsInAll 4 [some (.ref b), some (.int (i3 a)), some (.int (i3 k)), x] [] (qM X v w T c s)) (fun (k n : Nat) a _ => jm_R (jm_env (d + 1)) jmM_X4_sheetsInAll 19 [some (.ref b), some (.int (i3 a)), some (.int (i3 k)), some (.int (i3 n))] [] (qM X v w T c s)) (fun a k n => a + v (b + 7 + 5 * k + 4) n) (v b 2).toNat
    (fun k a p x hk _ => ⟨(), by
      rw [bX4_sheetsInAll_4]
      simp (disch := first | assumption | omega) only [eX4_sheetsInAll, bX4_sheetsInAll_0, bX4_sheetsInAll_9, bX4_sheetsInAll_17, bX4_sheetsInAll_25, bX4_sheetsInAll_44, bX4_sheetsInAll_50, g4_2, r4_3, q4_3, i3_add, i3_sub, i3_mul, i3_neg, i6_add, i6_sub, i6_mul, i6_neg, i3_lt, i3_le, i3_eq, i6_lt, i6_eq, i3_div, i6_div, i6_i3, i3_i6, c6_lt, c6_ge, c6_gt, c6_le, c6_eq, i3_ite, i6_ite, ib_0, ib_z, ite_not, i1_0, i0_0, jB_1, jB_0, jB_ib, bI_v, bL_v, bD_v, bV_v, ob_s, ob_i, i3_ofNat, jx_e, bI_e, bL_e, bD_e, bV_e, i3_eq0, i6_eq0, if_mx, if_mn, if_true, if_false, not_true_eq_false, not_false_eq_true, Int.reduceEq, Int.reduceLT, Int.reduceLE]
      rw [if_neg (by omega), if_neg (by omega)]
      rfl⟩)
    (fun k n a p hk hn _ => ⟨(), by
      have hs := oSer_of h (show k < 5 by omega)
      rw [bX4_sheetsInAll_19]
      simp (disch := first | assumption | omega) only [eX4_sheetsInAll, bX4_sheetsInAll_0, bX4_sheetsInAll_9, bX4_sheetsInAll_17, bX4_sheetsInAll_25, bX4_sheetsInAll_44, bX4_sheetsInAll_50, g4_2, r4_3, q4_3, i3_add, i3_sub, i3_mul, i3_neg, i6_add, i6_sub, i6_mul, i6_neg, i3_lt, i3_le, i3_eq, i6_lt, i6_eq, i3_div, i6_div, i6_i3, i3_i6, c6_lt, c6_ge, c6_gt, c6_le, c6_eq, i3_ite, i6_ite, ib_0, ib_z, ite_not, i1_0, i0_0, jB_1, jB_0, jB_ib, bI_v, bL_v, bD_v, bV_v, ob_s, ob_i, i3_ofNat, jx_e, bI_e, bL_e, bD_e, bV_e, i3_eq0, i6_eq0, if_mx, if_mn, if_true, if_false, not_true_eq_false, not_false_eq_true, Int.reduceEq, Int.reduceLT, Int.reduceLE, Int.toNat_natCast, sX9_sheetsAt, tr_in]
      rw [if_neg (by omega)]
      rfl⟩)
    (fun k a p hk _ => ⟨(), some (.int (i3 10)), by
      rw [bX4_sheetsInAll_19]
      simp (disch := first | assumption | omega) only [eX4_sheetsInAll, bX4_sheetsInAll_0, bX4_sheetsInAll_9, bX4_sheetsInAll_17, bX4_sheetsInAll_25, bX4_sheetsInAll_44, bX4_sheetsInAll_50, g4_2, r4_3, q4_3, i3_add, i3_sub, i3_mul, i3_neg, i6_add, i6_sub, i6_mul, i6_neg, i3_lt, i3_le, i3_eq, i6_lt, i6_eq, i3_div, i6_div, i6_i3, i3_i6, c6_lt, c6_ge, c6_gt, c6_le, c6_eq, i3_ite, i6_ite, ib_0, ib_z, ite_not, i1_0, i0_0, jB_1, jB_0, jB_ib, bI_v, bL_v, bD_v, bV_v, ob_s, ob_i, i3_ofNat, jx_e, bI_e, bL_e, bD_e, bV_e, i3_eq0, i6_eq0, if_mx, if_mn, if_true, if_false, not_true_eq_false, not_false_eq_true, Int.reduceEq, Int.reduceLT, Int.reduceLE]
      rfl⟩)
    (fun _ _ _ _ _ _ => trivial) 0 () none trivial
  simp (disch := first | assumption | omega) only [eX4_sheetsInAll, bX4_sheetsInAll_0, bX4_sheetsInAll_9, bX4_sheetsInAll_17, bX4_sheetsInAll_25, bX4_sheetsInAll_44, bX4_sheetsInAll_50, g4_2, r4_3, q4_3, i3_add, i3_sub, i3_mul, i3_neg, i6_add, i6_sub, i6_mul, i6_neg, i3_lt, i3_le, i3_eq, i6_lt, i6_eq, i3_div, i6_div, i6_i3, i3_i6, c6_lt, c6_ge, c6_gt, c6_le, c6_eq, i3_ite, i6_ite, ib_0, ib_z, ite_not, i1_0, i0_0, jB_1, jB_0, jB_ib, bI_v, bL_v, bD_v, bV_v, ob_s, ob_i, i3_ofNat, jx_e, bI_e, bL_e, bD_e, bV_e, i3_eq0, i6_eq0, if_mx, if_mn, if_true, if_false, not_true_eq_false, not_false_eq_true, Int.reduceEq, Int.reduceLT, Int.reduceLE]
  refine Eq.trans e ?_
  rw [bX4_sheetsInAll_4]
  simp (disch := first | assumption | omega) only [eX4_sheetsInAll, bX4_sheetsInAll_0, bX4_sheetsInAll_9, bX4_sheetsInAll_17, bX4_sheetsInAll_25, bX4_sheetsInAll_44, bX4_sheetsInAll_50, g4_2, r4_3, q4_3, i3_add, i3_sub, i3_mul, i3_neg, i6_add, i6_sub, i6_mul, i6_neg, i3_lt, i3_le, i3_eq, i6_lt, i6_eq, i3_div, i6_div, i6_i3, i3_i6, c6_lt, c6_ge, c6_gt, c6_le, c6_eq, i3_ite, i6_ite, ib_0, ib_z, ite_not, i1_0, i0_0, jB_1, jB_0, jB_ib, bI_v, bL_v, bD_v, bV_v, ob_s, ob_i, i3_ofNat, jx_e, bI_e, bL_e, bD_e, bV_e, i3_eq0, i6_eq0, if_mx, if_mn, if_true, if_false, not_true_eq_false, not_false_eq_true, Int.reduceEq, Int.reduceLT, Int.reduceLE]
  by_cases h5 : (5 : Int) ≤ ((v b 2).toNat : Nat)
  · rw [if_pos (by omega)]
  · rw [if_neg (by omega), if_pos (by omega)]
end LND
