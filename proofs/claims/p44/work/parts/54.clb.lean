-- uses 24.zar 25.obj 26.ops 27.ra 29.rc 34.gen 35.byt 36.ser 37.lnd 38.mod 39.mo2 40.mo3 41.bit 42.mo4 43.mo5 53.cla
/-! The class's land: sums, prints. -/
section CLB
variable {d : Nat} {X : Nat × (Nat → Int32)} {v w : Nat → Int → Int} {T c s : Nat}
variable {b : Nat} {μ : Nat → Int → Int}
theorem tX4_sheetsInAll (h : LO v b μ) : jm_env (d + 2) 46 [.ref b] (qM X v w T c s) = some (.inl (some (.int (i3 (fo2 (fun a k n => a + kM μ k n) 0 (μ 412 0).toNat)))), (qM X v w T c s)) := by
  obtain ⟨hln, ⟨⟨-, -, hcn, -⟩, -⟩, hg, -⟩ := id h
  obtain ⟨hc0, hc1, -⟩ := id hg
  obtain ⟨⟨q, x, e⟩, -⟩ := lq2 (fun _ => True) (fun (k : Nat) (a : Int) (_ : Unit) x => jm_R (jm_env (d + 1)) jmM_X4_sheetsInAll 4 [some (.ref b), some (.int (i3 a)), some (.int (i3 k)), x] [] (qM X v w T c s)) (fun (k n : Nat) a _ => jm_R (jm_env (d + 1)) jmM_X4_sheetsInAll 19 [some (.ref b), some (.int (i3 a)), some (.int (i3 k)), some (.int (i3 n))] [] (qM X v w T c s)) (fun a k n => a + kM μ k n) (μ 412 0).toNat
    (fun k a p x hk ha => ⟨(), by
      rw [bX4_sheetsInAll_4]
      simp (disch := first | assumption | omega) only [eX4_sheetsInAll, bX4_sheetsInAll_0, bX4_sheetsInAll_9, bX4_sheetsInAll_17, bX4_sheetsInAll_25, bX4_sheetsInAll_44, bX4_sheetsInAll_50, g4_2, r4_3, q4_3, i3_add, i3_sub, i3_mul, i3_neg, i6_add, i6_sub, i6_mul, i6_neg, i3_lt, i3_le, i3_eq, i6_lt, i6_eq, i3_div, i6_div, i6_i3, i3_i6, c6_lt, c6_ge, c6_gt, c6_le, c6_eq, i3_ite, i6_ite, ib_0, ib_z, ite_not, i1_0, i0_0, jB_1, jB_0, jB_ib, bI_v, bL_v, bD_v, bV_v, ob_s, ob_i, i3_ofNat, jx_e, bI_e, bL_e, bD_e, bV_e, i3_eq0, i6_eq0, if_mx, if_mn, if_true, if_false, not_true_eq_false, not_false_eq_true, Int.reduceEq, Int.reduceLT, Int.reduceLE, hcn]
      rw [if_neg (by omega), if_neg (by omega)]
      rfl⟩)
    (fun k n a p hk hn ha => ⟨(), by
      have hk2 : (k : Int) < μ 412 0 := by omega
      rw [bX4_sheetsInAll_19]
      simp (disch := first | assumption | omega) only [eX4_sheetsInAll, bX4_sheetsInAll_0, bX4_sheetsInAll_9, bX4_sheetsInAll_17, bX4_sheetsInAll_25, bX4_sheetsInAll_44, bX4_sheetsInAll_50, g4_2, r4_3, q4_3, i3_add, i3_sub, i3_mul, i3_neg, i6_add, i6_sub, i6_mul, i6_neg, i3_lt, i3_le, i3_eq, i6_lt, i6_eq, i3_div, i6_div, i6_i3, i3_i6, c6_lt, c6_ge, c6_gt, c6_le, c6_eq, i3_ite, i6_ite, ib_0, ib_z, ite_not, i1_0, i0_0, jB_1, jB_0, jB_ib, bI_v, bL_v, bD_v, bV_v, ob_s, ob_i, i3_ofNat, jx_e, bI_e, bL_e, bD_e, bV_e, i3_eq0, i6_eq0, if_mx, if_mn, if_true, if_false, not_true_eq_false, not_false_eq_true, Int.reduceEq, Int.reduceLT, Int.reduceLE, Int.toNat_natCast, tX9_sheetsAt h]
      rw [if_neg (by omega)]
      rfl⟩)
    (fun k a p hk ha => ⟨(), some (.int (i3 10)), by
      rw [bX4_sheetsInAll_19]
      simp (disch := first | assumption | omega) only [eX4_sheetsInAll, bX4_sheetsInAll_0, bX4_sheetsInAll_9, bX4_sheetsInAll_17, bX4_sheetsInAll_25, bX4_sheetsInAll_44, bX4_sheetsInAll_50, g4_2, r4_3, q4_3, i3_add, i3_sub, i3_mul, i3_neg, i6_add, i6_sub, i6_mul, i6_neg, i3_lt, i3_le, i3_eq, i6_lt, i6_eq, i3_div, i6_div, i6_i3, i3_i6, c6_lt, c6_ge, c6_gt, c6_le, c6_eq, i3_ite, i6_ite, ib_0, ib_z, ite_not, i1_0, i0_0, jB_1, jB_0, jB_ib, bI_v, bL_v, bD_v, bV_v, ob_s, ob_i, i3_ofNat, jx_e, bI_e, bL_e, bD_e, bV_e, i3_eq0, i6_eq0, if_mx, if_mn, if_true, if_false, not_true_eq_false, not_false_eq_true, Int.reduceEq, Int.reduceLT, Int.reduceLE]
      rfl⟩)
    (fun _ _ _ _ _ _ => trivial) 0 () none (trivial)
  simp (disch := first | assumption | omega) only [eX4_sheetsInAll, bX4_sheetsInAll_0, bX4_sheetsInAll_9, bX4_sheetsInAll_17, bX4_sheetsInAll_25, bX4_sheetsInAll_44, bX4_sheetsInAll_50, g4_2, r4_3, q4_3, i3_add, i3_sub, i3_mul, i3_neg, i6_add, i6_sub, i6_mul, i6_neg, i3_lt, i3_le, i3_eq, i6_lt, i6_eq, i3_div, i6_div, i6_i3, i3_i6, c6_lt, c6_ge, c6_gt, c6_le, c6_eq, i3_ite, i6_ite, ib_0, ib_z, ite_not, i1_0, i0_0, jB_1, jB_0, jB_ib, bI_v, bL_v, bD_v, bV_v, ob_s, ob_i, i3_ofNat, jx_e, bI_e, bL_e, bD_e, bV_e, i3_eq0, i6_eq0, if_mx, if_mn, if_true, if_false, not_true_eq_false, not_false_eq_true, Int.reduceEq, Int.reduceLT, Int.reduceLE]
  refine Eq.trans e ?_
  rw [bX4_sheetsInAll_4]
  simp (disch := first | assumption | omega) only [eX4_sheetsInAll, bX4_sheetsInAll_0, bX4_sheetsInAll_9, bX4_sheetsInAll_17, bX4_sheetsInAll_25, bX4_sheetsInAll_44, bX4_sheetsInAll_50, g4_2, r4_3, q4_3, i3_add, i3_sub, i3_mul, i3_neg, i6_add, i6_sub, i6_mul, i6_neg, i3_lt, i3_le, i3_eq, i6_lt, i6_eq, i3_div, i6_div, i6_i3, i3_i6, c6_lt, c6_ge, c6_gt, c6_le, c6_eq, i3_ite, i6_ite, ib_0, ib_z, ite_not, i1_0, i0_0, jB_1, jB_0, jB_ib, bI_v, bL_v, bD_v, bV_v, ob_s, ob_i, i3_ofNat, jx_e, bI_e, bL_e, bD_e, bV_e, i3_eq0, i6_eq0, if_mx, if_mn, if_true, if_false, not_true_eq_false, not_false_eq_true, Int.reduceEq, Int.reduceLT, Int.reduceLE, hcn]
  by_cases h5' : (5 : Int) ≤ ((μ 412 0).toNat : Nat)
  · rw [if_pos (by omega)]
  · rw [if_neg (by omega), if_pos (by omega)]
theorem tX4_stacksInAll (h : LO v b μ) : jm_env (d + 2) 47 [.ref b] (qM X v w T c s) = some (.inl (some (.int (i3 (fo2 (fun a k n => a + if 0 < kM μ k n then 1 else 0) 0 (μ 412 0).toNat)))), (qM X v w T c s)) := by
  obtain ⟨hln, ⟨⟨-, -, hcn, -⟩, -⟩, hg, -⟩ := id h
  obtain ⟨hc0, hc1, -⟩ := id hg
  obtain ⟨⟨q, x, e⟩, -⟩ := lq2 (fun _ => True) (fun (k : Nat) (a : Int) (_ : Unit) x => jm_R (jm_env (d + 1)) jmM_X4_stacksInAll 4 [some (.ref b), some (.int (i3 a)), some (.int (i3 k)), x] [] (qM X v w T c s)) (fun (k n : Nat) a _ => jm_R (jm_env (d + 1)) jmM_X4_stacksInAll 19 [some (.ref b), some (.int (i3 a)), some (.int (i3 k)), some (.int (i3 n))] [] (qM X v w T c s)) (fun a k n => a + if 0 < kM μ k n then 1 else 0) (μ 412 0).toNat
    (fun k a p x hk ha => ⟨(), by
      rw [bX4_stacksInAll_4]
      simp (disch := first | assumption | omega) only [eX4_stacksInAll, bX4_stacksInAll_0, bX4_stacksInAll_9, bX4_stacksInAll_17, bX4_stacksInAll_25, bX4_stacksInAll_39, bX4_stacksInAll_43, bX4_stacksInAll_44, bX4_stacksInAll_52, bX4_stacksInAll_58, g4_2, r4_3, q4_3, i3_add, i3_sub, i3_mul, i3_neg, i6_add, i6_sub, i6_mul, i6_neg, i3_lt, i3_le, i3_eq, i6_lt, i6_eq, i3_div, i6_div, i6_i3, i3_i6, c6_lt, c6_ge, c6_gt, c6_le, c6_eq, i3_ite, i6_ite, ib_0, ib_z, ite_not, i1_0, i0_0, jB_1, jB_0, jB_ib, bI_v, bL_v, bD_v, bV_v, ob_s, ob_i, i3_ofNat, jx_e, bI_e, bL_e, bD_e, bV_e, i3_eq0, i6_eq0, if_mx, if_mn, if_true, if_false, not_true_eq_false, not_false_eq_true, Int.reduceEq, Int.reduceLT, Int.reduceLE, hcn]
      rw [if_neg (by omega), if_neg (by omega)]
      rfl⟩)
    (fun k n a p hk hn ha => ⟨(), by
      have hk2 : (k : Int) < μ 412 0 := by omega
      have hb := hg.k (i := k) (by omega) hk2 n (by omega) (by omega)
      rw [bX4_stacksInAll_19]
      simp (disch := first | assumption | omega) only [eX4_stacksInAll, bX4_stacksInAll_0, bX4_stacksInAll_9, bX4_stacksInAll_17, bX4_stacksInAll_25, bX4_stacksInAll_39, bX4_stacksInAll_43, bX4_stacksInAll_44, bX4_stacksInAll_52, bX4_stacksInAll_58, g4_2, r4_3, q4_3, i3_add, i3_sub, i3_mul, i3_neg, i6_add, i6_sub, i6_mul, i6_neg, i3_lt, i3_le, i3_eq, i6_lt, i6_eq, i3_div, i6_div, i6_i3, i3_i6, c6_lt, c6_ge, c6_gt, c6_le, c6_eq, i3_ite, i6_ite, ib_0, ib_z, ite_not, i1_0, i0_0, jB_1, jB_0, jB_ib, bI_v, bL_v, bD_v, bV_v, ob_s, ob_i, i3_ofNat, jx_e, bI_e, bL_e, bD_e, bV_e, i3_eq0, i6_eq0, if_mx, if_mn, if_true, if_false, not_true_eq_false, not_false_eq_true, Int.reduceEq, Int.reduceLT, Int.reduceLE, Int.toNat_natCast, tX9_sheetsAt h]
      rw [if_neg (by omega)]
      show _ = jm_R _ _ _ [_, some (.int (i3 (a + if 0 < kM μ k n then 1 else 0))), _, _] _ _
      by_cases q : 0 < kM μ k n
      · rw [if_neg (by omega), if_pos q]; rfl
      · rw [if_pos (by omega), if_neg q]; rfl⟩)
    (fun k a p hk ha => ⟨(), some (.int (i3 10)), by
      rw [bX4_stacksInAll_19]
      simp (disch := first | assumption | omega) only [eX4_stacksInAll, bX4_stacksInAll_0, bX4_stacksInAll_9, bX4_stacksInAll_17, bX4_stacksInAll_25, bX4_stacksInAll_39, bX4_stacksInAll_43, bX4_stacksInAll_44, bX4_stacksInAll_52, bX4_stacksInAll_58, g4_2, r4_3, q4_3, i3_add, i3_sub, i3_mul, i3_neg, i6_add, i6_sub, i6_mul, i6_neg, i3_lt, i3_le, i3_eq, i6_lt, i6_eq, i3_div, i6_div, i6_i3, i3_i6, c6_lt, c6_ge, c6_gt, c6_le, c6_eq, i3_ite, i6_ite, ib_0, ib_z, ite_not, i1_0, i0_0, jB_1, jB_0, jB_ib, bI_v, bL_v, bD_v, bV_v, ob_s, ob_i, i3_ofNat, jx_e, bI_e, bL_e, bD_e, bV_e, i3_eq0, i6_eq0, if_mx, if_mn, if_true, if_false, not_true_eq_false, not_false_eq_true, Int.reduceEq, Int.reduceLT, Int.reduceLE]
      rfl⟩)
    (fun _ _ _ _ _ _ => trivial) 0 () none (trivial)
  simp (disch := first | assumption | omega) only [eX4_stacksInAll, bX4_stacksInAll_0, bX4_stacksInAll_9, bX4_stacksInAll_17, bX4_stacksInAll_25, bX4_stacksInAll_39, bX4_stacksInAll_43, bX4_stacksInAll_44, bX4_stacksInAll_52, bX4_stacksInAll_58, g4_2, r4_3, q4_3, i3_add, i3_sub, i3_mul, i3_neg, i6_add, i6_sub, i6_mul, i6_neg, i3_lt, i3_le, i3_eq, i6_lt, i6_eq, i3_div, i6_div, i6_i3, i3_i6, c6_lt, c6_ge, c6_gt, c6_le, c6_eq, i3_ite, i6_ite, ib_0, ib_z, ite_not, i1_0, i0_0, jB_1, jB_0, jB_ib, bI_v, bL_v, bD_v, bV_v, ob_s, ob_i, i3_ofNat, jx_e, bI_e, bL_e, bD_e, bV_e, i3_eq0, i6_eq0, if_mx, if_mn, if_true, if_false, not_true_eq_false, not_false_eq_true, Int.reduceEq, Int.reduceLT, Int.reduceLE]
  refine Eq.trans e ?_
  rw [bX4_stacksInAll_4]
  simp (disch := first | assumption | omega) only [eX4_stacksInAll, bX4_stacksInAll_0, bX4_stacksInAll_9, bX4_stacksInAll_17, bX4_stacksInAll_25, bX4_stacksInAll_39, bX4_stacksInAll_43, bX4_stacksInAll_44, bX4_stacksInAll_52, bX4_stacksInAll_58, g4_2, r4_3, q4_3, i3_add, i3_sub, i3_mul, i3_neg, i6_add, i6_sub, i6_mul, i6_neg, i3_lt, i3_le, i3_eq, i6_lt, i6_eq, i3_div, i6_div, i6_i3, i3_i6, c6_lt, c6_ge, c6_gt, c6_le, c6_eq, i3_ite, i6_ite, ib_0, ib_z, ite_not, i1_0, i0_0, jB_1, jB_0, jB_ib, bI_v, bL_v, bD_v, bV_v, ob_s, ob_i, i3_ofNat, jx_e, bI_e, bL_e, bD_e, bV_e, i3_eq0, i6_eq0, if_mx, if_mn, if_true, if_false, not_true_eq_false, not_false_eq_true, Int.reduceEq, Int.reduceLT, Int.reduceLE, hcn]
  by_cases h5' : (5 : Int) ≤ ((μ 412 0).toNat : Nat)
  · rw [if_pos (by omega)]
  · rw [if_neg (by omega), if_pos (by omega)]
theorem tX4_areaInAll (h : LO v b μ) : jm_env (d + 2) 48 [.ref b] (qM X v w T c s) = some (.inl (some (.long (i6 (fo2 (areaG μ) 0 (μ 412 0).toNat)))), (qM X v w T c s)) := by
  obtain ⟨hln, ⟨⟨-, -, hcn, -⟩, -⟩, hg, -⟩ := id h
  obtain ⟨hc0, hc1, -⟩ := id hg
  obtain ⟨⟨q, x, e⟩, -⟩ := lq2 (fun _ => True) (fun (k : Nat) (a : Int) (_ : Unit) x => jm_R (jm_env (d + 1)) jmM_X4_areaInAll 4 [some (.ref b), some (.long (i6 a)), none, some (.int (i3 k)), x] [] (qM X v w T c s)) (fun (k n : Nat) a _ => jm_R (jm_env (d + 1)) jmM_X4_areaInAll 20 [some (.ref b), some (.long (i6 a)), none, some (.int (i3 k)), some (.int (i3 n))] [] (qM X v w T c s)) (areaG μ) (μ 412 0).toNat
    (fun k a p x hk ha => ⟨(), by
      rw [bX4_areaInAll_4]
      simp (disch := first | assumption | omega) only [eX4_areaInAll, bX4_areaInAll_0, bX4_areaInAll_9, bX4_areaInAll_17, bX4_areaInAll_27, bX4_areaInAll_61, bX4_areaInAll_67, g4_2, r4_3, q4_3, i3_add, i3_sub, i3_mul, i3_neg, i6_add, i6_sub, i6_mul, i6_neg, i3_lt, i3_le, i3_eq, i6_lt, i6_eq, i3_div, i6_div, i6_i3, i3_i6, c6_lt, c6_ge, c6_gt, c6_le, c6_eq, i3_ite, i6_ite, ib_0, ib_z, ite_not, i1_0, i0_0, jB_1, jB_0, jB_ib, bI_v, bL_v, bD_v, bV_v, ob_s, ob_i, i3_ofNat, jx_e, bI_e, bL_e, bD_e, bV_e, i3_eq0, i6_eq0, if_mx, if_mn, if_true, if_false, not_true_eq_false, not_false_eq_true, Int.reduceEq, Int.reduceLT, Int.reduceLE, hcn]
      rw [if_neg (by omega), if_neg (by omega)]
      rfl⟩)
    (fun k n a p hk hn ha => ⟨(), by
      have hk2 : (k : Int) < μ 412 0 := by omega
      have hb := hg.k (i := k) (by omega) hk2 n (by omega) (by omega)
      have ha2 := aM_b (hg.o (i := k) (by omega) hk2) n
      rw [bX4_areaInAll_20]
      simp (disch := first | assumption | omega) only [eX4_areaInAll, bX4_areaInAll_0, bX4_areaInAll_9, bX4_areaInAll_17, bX4_areaInAll_27, bX4_areaInAll_61, bX4_areaInAll_67, g4_2, r4_3, q4_3, i3_add, i3_sub, i3_mul, i3_neg, i6_add, i6_sub, i6_mul, i6_neg, i3_lt, i3_le, i3_eq, i6_lt, i6_eq, i3_div, i6_div, i6_i3, i3_i6, c6_lt, c6_ge, c6_gt, c6_le, c6_eq, i3_ite, i6_ite, ib_0, ib_z, ite_not, i1_0, i0_0, jB_1, jB_0, jB_ib, bI_v, bL_v, bD_v, bV_v, ob_s, ob_i, i3_ofNat, jx_e, bI_e, bL_e, bD_e, bV_e, i3_eq0, i6_eq0, if_mx, if_mn, if_true, if_false, not_true_eq_false, not_false_eq_true, Int.reduceEq, Int.reduceLT, Int.reduceLE, Int.toNat_natCast, tX9_sheetsAt h, tX9_areaAt h]
      rw [if_neg (by omega), Int.mul_comm (aM μ k n) (kM μ k n)]
      rfl⟩)
    (fun k a p hk ha => ⟨(), some (.int (i3 10)), by
      rw [bX4_areaInAll_20]
      simp (disch := first | assumption | omega) only [eX4_areaInAll, bX4_areaInAll_0, bX4_areaInAll_9, bX4_areaInAll_17, bX4_areaInAll_27, bX4_areaInAll_61, bX4_areaInAll_67, g4_2, r4_3, q4_3, i3_add, i3_sub, i3_mul, i3_neg, i6_add, i6_sub, i6_mul, i6_neg, i3_lt, i3_le, i3_eq, i6_lt, i6_eq, i3_div, i6_div, i6_i3, i3_i6, c6_lt, c6_ge, c6_gt, c6_le, c6_eq, i3_ite, i6_ite, ib_0, ib_z, ite_not, i1_0, i0_0, jB_1, jB_0, jB_ib, bI_v, bL_v, bD_v, bV_v, ob_s, ob_i, i3_ofNat, jx_e, bI_e, bL_e, bD_e, bV_e, i3_eq0, i6_eq0, if_mx, if_mn, if_true, if_false, not_true_eq_false, not_false_eq_true, Int.reduceEq, Int.reduceLT, Int.reduceLE]
      rfl⟩)
    (fun _ _ _ _ _ _ => trivial) 0 () none (trivial)
  simp (disch := first | assumption | omega) only [eX4_areaInAll, bX4_areaInAll_0, bX4_areaInAll_9, bX4_areaInAll_17, bX4_areaInAll_27, bX4_areaInAll_61, bX4_areaInAll_67, g4_2, r4_3, q4_3, i3_add, i3_sub, i3_mul, i3_neg, i6_add, i6_sub, i6_mul, i6_neg, i3_lt, i3_le, i3_eq, i6_lt, i6_eq, i3_div, i6_div, i6_i3, i3_i6, c6_lt, c6_ge, c6_gt, c6_le, c6_eq, i3_ite, i6_ite, ib_0, ib_z, ite_not, i1_0, i0_0, jB_1, jB_0, jB_ib, bI_v, bL_v, bD_v, bV_v, ob_s, ob_i, i3_ofNat, jx_e, bI_e, bL_e, bD_e, bV_e, i3_eq0, i6_eq0, if_mx, if_mn, if_true, if_false, not_true_eq_false, not_false_eq_true, Int.reduceEq, Int.reduceLT, Int.reduceLE]
  refine Eq.trans e ?_
  rw [bX4_areaInAll_4]
  simp (disch := first | assumption | omega) only [eX4_areaInAll, bX4_areaInAll_0, bX4_areaInAll_9, bX4_areaInAll_17, bX4_areaInAll_27, bX4_areaInAll_61, bX4_areaInAll_67, g4_2, r4_3, q4_3, i3_add, i3_sub, i3_mul, i3_neg, i6_add, i6_sub, i6_mul, i6_neg, i3_lt, i3_le, i3_eq, i6_lt, i6_eq, i3_div, i6_div, i6_i3, i3_i6, c6_lt, c6_ge, c6_gt, c6_le, c6_eq, i3_ite, i6_ite, ib_0, ib_z, ite_not, i1_0, i0_0, jB_1, jB_0, jB_ib, bI_v, bL_v, bD_v, bV_v, ob_s, ob_i, i3_ofNat, jx_e, bI_e, bL_e, bD_e, bV_e, i3_eq0, i6_eq0, if_mx, if_mn, if_true, if_false, not_true_eq_false, not_false_eq_true, Int.reduceEq, Int.reduceLT, Int.reduceLE, hcn]
  by_cases h5' : (5 : Int) ≤ ((μ 412 0).toNat : Nat)
  · rw [if_pos (by omega)]
  · rw [if_neg (by omega), if_pos (by omega)]
def edgG (μ : Nat → Int → Int) (pw ph : Int) (a : Int) (k n : Nat) : Int := max a (edgF (szM μ k n).1 (szM μ k n).2 pw ph)
theorem edgF_b {x y a b : Int} : -1 ≤ edgF x y a b ∧ edgF x y a b ≤ 50 := by
  unfold edgF
  split <;> omega
theorem v6_0 {a : Nat} {z : Int} (h : oPri a) (z0 : 0 ≤ z) (z1 : z < 30) : jm_env (d + 1) 131 [.ref (a + 1), .int (i3 z)] (qM X v w T c s) = some (.inl (some (.int (i3 (v (a + 1) z)))), (qM X v w T c s)) := tX11_valueAt (k := 30) (n6_0 h) (by decide) z0 z1 (a6_0 h z0 z1)
theorem v6_1 {a : Nat} {z : Int} (h : oPri a) (z0 : 0 ≤ z) (z1 : z < 30) : jm_env (d + 1) 131 [.ref (a + 2), .int (i3 z)] (qM X v w T c s) = some (.inl (some (.int (i3 (v (a + 2) z)))), (qM X v w T c s)) := tX11_valueAt (k := 30) (n6_1 h) (by decide) z0 z1 (a6_1 h z0 z1)
theorem v6_2 {a : Nat} {z : Int} (h : oPri a) (z0 : 0 ≤ z) (z1 : z < 30) : jm_env (d + 1) 131 [.ref (a + 3), .int (i3 z)] (qM X v w T c s) = some (.inl (some (.int (i3 (v (a + 3) z)))), (qM X v w T c s)) := tX11_valueAt (k := 30) (n6_2 h) (by decide) z0 z1 (a6_2 h z0 z1)
theorem s6_0 {a : Nat} {z y : Int} (h : oPri a) (z0 : 0 ≤ z) (z1 : z < 30) : jm_env (d + 1) 132 [.ref (a + 1), .int (i3 z), .int (i3 y)] (qM X v w T c s) = some (.inl none, qM X (up v (a + 1) z y) w T c s) := tX11_setAt (k := 30) (n6_0 h) (by decide) z0 z1 (w6_0 h z0 z1)
theorem s6_1 {a : Nat} {z y : Int} (h : oPri a) (z0 : 0 ≤ z) (z1 : z < 30) : jm_env (d + 1) 132 [.ref (a + 2), .int (i3 z), .int (i3 y)] (qM X v w T c s) = some (.inl none, qM X (up v (a + 2) z y) w T c s) := tX11_setAt (k := 30) (n6_1 h) (by decide) z0 z1 (w6_1 h z0 z1)
theorem s6_2 {a : Nat} {z y : Int} (h : oPri a) (z0 : 0 ≤ z) (z1 : z < 30) : jm_env (d + 1) 132 [.ref (a + 3), .int (i3 z), .int (i3 y)] (qM X v w T c s) = some (.inl none, qM X (up v (a + 3) z y) w T c s) := tX11_setAt (k := 30) (n6_2 h) (by decide) z0 z1 (w6_2 h z0 z1)
theorem tX6_placeOf (h : LO v b μ) (hp : prOk μ) {pw ph : Int} (h2 : 0 ≤ pw) (h3 : pw ≤ 2000) (h4 : 0 ≤ ph) (h5 : ph ≤ 2000) :
    jm_env (d + 2) 62 [.ref (b + 2), .int (i3 pw), .int (i3 ph)] (qM X v w T c s) = some (.inl (some (.int (i3 (prF μ pw ph)))), (qM X v w T c s)) := by
  obtain ⟨hln, ⟨⟨-, -, -, hcn⟩, -, hpr, -⟩, -, -⟩ := id h
  obtain ⟨hc0, hc1, hp⟩ := hp
  have hpi := oPri_of hln
  have hl := ch_f (p := fun k : Nat => μ 412 (77 + 3 * k) = pw ∧ μ 412 (77 + 3 * k + 1) = ph) (fun k : Nat => jm_R (jm_env (d + 1)) jmM_X6_placeOf 2 [some (.ref (b + 2)), some (.int (i3 pw)), some (.int (i3 ph)), some (.int (i3 k))] [] (qM X v w T c s)) (fun k : Nat => some (.inl (some (.int (i3 (k)))), (qM X v w T c s))) (some (.inl (some (.int (i3 (-1)))), (qM X v w T c s))) (μ 412 3).toNat (fun k hk => by
    obtain ⟨b0, b1, b2, b3⟩ := hp k (by omega) (by omega)
    obtain ⟨e1, e2, e3⟩ := hpr k (by omega) (by omega)
    have e1' : v (b + 2 + 1) k = μ 412 (77 + 3 * k) := e1
    have e2' : v (b + 2 + 2) k = μ 412 (77 + 3 * k + 1) := e2
    rw [bX6_placeOf_2]
    simp (disch := first | assumption | omega) only [eX6_placeOf, bX6_placeOf_0, bX6_placeOf_10, bX6_placeOf_22, bX6_placeOf_34, bX6_placeOf_36, bX6_placeOf_42, g6_3, r6_0, a6_0, w6_0, n6_0, r6_1, a6_1, w6_1, n6_1, i3_add, i3_sub, i3_mul, i3_neg, i6_add, i6_sub, i6_mul, i6_neg, i3_lt, i3_le, i3_eq, i6_lt, i6_eq, i3_div, i6_div, i6_i3, i3_i6, c6_lt, c6_ge, c6_gt, c6_le, c6_eq, i3_ite, i6_ite, ib_0, ib_z, ite_not, i1_0, i0_0, jB_1, jB_0, jB_ib, bI_v, bL_v, bD_v, bV_v, ob_s, ob_i, i3_ofNat, jx_e, bI_e, bL_e, bD_e, bV_e, i3_eq0, i6_eq0, if_mx, if_mn, if_true, if_false, not_true_eq_false, not_false_eq_true, Int.reduceEq, Int.reduceLT, Int.reduceLE, hcn, v6_0, v6_1, e1', e2']
    rw [if_neg (by omega)]
    by_cases q1 : μ 412 (77 + 3 * k) = pw
    · by_cases q2 : μ 412 (77 + 3 * k + 1) = ph
      · rw [if_pos q1, if_pos q2, if_pos ⟨q1, q2⟩]
      · rw [if_pos q1, if_neg q2, if_neg (fun q => q2 q.2)]; rfl
    · rw [if_neg q1, if_neg (fun q => q1 q.1)]; rfl) (by
    rw [bX6_placeOf_2]
    simp (disch := first | assumption | omega) only [eX6_placeOf, bX6_placeOf_0, bX6_placeOf_10, bX6_placeOf_22, bX6_placeOf_34, bX6_placeOf_36, bX6_placeOf_42, g6_3, r6_0, a6_0, w6_0, n6_0, r6_1, a6_1, w6_1, n6_1, i3_add, i3_sub, i3_mul, i3_neg, i6_add, i6_sub, i6_mul, i6_neg, i3_lt, i3_le, i3_eq, i6_lt, i6_eq, i3_div, i6_div, i6_i3, i3_i6, c6_lt, c6_ge, c6_gt, c6_le, c6_eq, i3_ite, i6_ite, ib_0, ib_z, ite_not, i1_0, i0_0, jB_1, jB_0, jB_ib, bI_v, bL_v, bD_v, bV_v, ob_s, ob_i, i3_ofNat, jx_e, bI_e, bL_e, bD_e, bV_e, i3_eq0, i6_eq0, if_mx, if_mn, if_true, if_false, not_true_eq_false, not_false_eq_true, Int.reduceEq, Int.reduceLT, Int.reduceLE, hcn]
    rw [if_pos (by omega)])
  rw [fnd_map (fun z : Int => (some (.inl (some (.int (i3 (z)))), (qM X v w T c s)) : Option jm_Res))] at hl
  simp (disch := first | assumption | omega) only [eX6_placeOf, bX6_placeOf_0, bX6_placeOf_10, bX6_placeOf_22, bX6_placeOf_34, bX6_placeOf_36, bX6_placeOf_42, g6_3, r6_0, a6_0, w6_0, n6_0, r6_1, a6_1, w6_1, n6_1, i3_add, i3_sub, i3_mul, i3_neg, i6_add, i6_sub, i6_mul, i6_neg, i3_lt, i3_le, i3_eq, i6_lt, i6_eq, i3_div, i6_div, i6_i3, i3_i6, c6_lt, c6_ge, c6_gt, c6_le, c6_eq, i3_ite, i6_ite, ib_0, ib_z, ite_not, i1_0, i0_0, jB_1, jB_0, jB_ib, bI_v, bL_v, bD_v, bV_v, ob_s, ob_i, i3_ofNat, jx_e, bI_e, bL_e, bD_e, bV_e, i3_eq0, i6_eq0, if_mx, if_mn, if_true, if_false, not_true_eq_false, not_false_eq_true, Int.reduceEq, Int.reduceLT, Int.reduceLE]
  exact hl
end CLB
