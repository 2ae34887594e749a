-- uses 24.zar 25.obj 26.ops 30.rd 31.re 34.gen 38.mod 39.mo2 40.mo3 41.bit 42.mo4
/-! The reference: what is asked of stacks, names, sizes, prints, accounts. -/
def cd1 (P : Prop) [Decidable P] : Int := if P then 0 else 1
def cd2 (P Q : Prop) [Decidable P] [Decidable Q] : Int := if P then (if Q then 0 else 2) else 1
theorem cd1_0 {P : Prop} [Decidable P] (h : P) : cd1 P = 0 := if_pos h
theorem cd1_1 {P : Prop} [Decidable P] (h : ¬ P) : cd1 P = 1 := if_neg h
theorem cd2_0 {P Q : Prop} [Decidable P] [Decidable Q] (h : P) (g : Q) : cd2 P Q = 0 := (if_pos h).trans (if_pos g)
theorem cd2_2 {P Q : Prop} [Decidable P] [Decidable Q] (h : P) (g : ¬ Q) : cd2 P Q = 2 := (if_pos h).trans (if_neg g)
theorem cd2_1 {P Q : Prop} [Decidable P] [Decidable Q] (h : ¬ P) : cd2 P Q = 1 := if_neg h
/-- a number of the machine -/
def isI (z : Int) : Prop := -2147483648 ≤ z ∧ z < 2147483648
theorem mR_0 {x : Option jm_Res} {X : Nat × (Nat → Int32)} {v : Nat → Int → Int} {T c s : Nat} {ans : Int} (h : ∃ w', x = some (.inl (some (.int (i3 (ans)))), qM X v w' T c s) ∧ w' 411 8 = 0) : mR x X v T c s 0 ans := by
  obtain ⟨w', h1, h2⟩ := h
  exact ⟨w', ans, h1, h2, fun _ => rfl⟩
theorem mR_1 {x : Option jm_Res} {X : Nat × (Nat → Int32)} {v : Nat → Int → Int} {T c s : Nat} {cd ans : Int} (h0 : cd ≠ 0) (h : ∃ w' b, x = some (.inl (some (.int (i3 (b)))), qM X v w' T c s) ∧ w' 411 8 = cd) : mR x X v T c s cd ans := by
  obtain ⟨w', b, h1, h2⟩ := h
  exact ⟨w', b, h1, h2, fun e => absurd e h0⟩
section MO5
variable {d : Nat} {X : Nat × (Nat → Int32)} {v w : Nat → Int → Int} {T c s : Nat}
theorem sX12_sheetsOfAll (hT : 18 ≤ T) (hc0 : 0 ≤ v 412 0) (hc1 : v 412 0 ≤ 5) :
    jm_env (d + 2) 294 [.ref 411] (qM X v w T c s) = some (.inl (some (.long (i6 (fo2 (fun a k n => a + kM v k n) 0 (v 412 0).toNat)))), (qM X v w T c s)) := by
  obtain ⟨⟨q, x, e⟩, -⟩ := lq2 (fun _ => True) (fun (k : Nat) (a : Int) (_ : Unit) x => jm_R (jm_env (d + 1)) jmM_X12_sheetsOfAll 4 [some (.ref 411), some (.long (i6 a)), none, some (.int (i3 k)), x] [] (qM X v w T c s)) (fun (k n : Nat) a _ => jm_R (jm_env (d + 1)) jmM_X12_sheetsOfAll 19 [some (.ref 411), some (.long (i6 a)), none, some (.int (i3 k)), some (.int (i3 n))] [] (qM X v w T c s)) (fun a k n => a + kM v k n) (v 412 0).toNat
    (fun k a p x hk _ => ⟨(), by
      rw [bX12_sheetsOfAll_4]
      simp (disch := first | assumption | omega) only [eX12_sheetsOfAll, bX12_sheetsOfAll_0, bX12_sheetsOfAll_16, bX12_sheetsOfAll_26, bX12_sheetsOfAll_46, bX12_sheetsOfAll_52, r12_0, a12_0, w12_0, n12_0, i3_add, i3_sub, i3_mul, i3_neg, i6_add, i6_sub, i6_mul, i6_neg, i3_lt, i3_le, i3_eq, i6_lt, i6_eq, i3_div, i6_div, i6_i3, i3_i6, c6_lt, c6_ge, c6_gt, c6_le, c6_eq, i3_ite, i6_ite, ib_0, ib_z, ite_not, i1_0, i0_0, jB_1, jB_0, jB_ib, bI_v, bL_v, bD_v, bV_v, ob_s, ob_i, i3_ofNat, jx_e, bI_e, bL_e, bD_e, bV_e, i3_eq0, i6_eq0, if_mx, if_mn, if_true, if_false, not_true_eq_false, not_false_eq_true, Int.reduceEq, Int.reduceLT, Int.reduceLE]
      rw [if_neg (by omega)]
      rfl⟩)
    (fun k n a p hk hn _ => ⟨(), by
      rw [bX12_sheetsOfAll_19]
      simp (disch := first | assumption | omega) only [eX12_sheetsOfAll, bX12_sheetsOfAll_0, bX12_sheetsOfAll_16, bX12_sheetsOfAll_26, bX12_sheetsOfAll_46, bX12_sheetsOfAll_52, r12_0, a12_0, w12_0, n12_0, i3_add, i3_sub, i3_mul, i3_neg, i6_add, i6_sub, i6_mul, i6_neg, i3_lt, i3_le, i3_eq, i6_lt, i6_eq, i3_div, i6_div, i6_i3, i3_i6, c6_lt, c6_ge, c6_gt, c6_le, c6_eq, i3_ite, i6_ite, ib_0, ib_z, ite_not, i1_0, i0_0, jB_1, jB_0, jB_ib, bI_v, bL_v, bD_v, bV_v, ob_s, ob_i, i3_ofNat, jx_e, bI_e, bL_e, bD_e, bV_e, i3_eq0, i6_eq0, if_mx, if_mn, if_true, if_false, not_true_eq_false, not_false_eq_true, Int.reduceEq, Int.reduceLT, Int.reduceLE, sX12_stackAt]
      rw [if_neg (by omega)]
      rfl⟩)
    (fun k a p hk _ => ⟨(), some (.int (i3 10)), by
      rw [bX12_sheetsOfAll_19]
      simp (disch := first | assumption | omega) only [eX12_sheetsOfAll, bX12_sheetsOfAll_0, bX12_sheetsOfAll_16, bX12_sheetsOfAll_26, bX12_sheetsOfAll_46, bX12_sheetsOfAll_52, r12_0, a12_0, w12_0, n12_0, i3_add, i3_sub, i3_mul, i3_neg, i6_add, i6_sub, i6_mul, i6_neg, i3_lt, i3_le, i3_eq, i6_lt, i6_eq, i3_div, i6_div, i6_i3, i3_i6, c6_lt, c6_ge, c6_gt, c6_le, c6_eq, i3_ite, i6_ite, ib_0, ib_z, ite_not, i1_0, i0_0, jB_1, jB_0, jB_ib, bI_v, bL_v, bD_v, bV_v, ob_s, ob_i, i3_ofNat, jx_e, bI_e, bL_e, bD_e, bV_e, i3_eq0, i6_eq0, if_mx, if_mn, if_true, if_false, not_true_eq_false, not_false_eq_true, Int.reduceEq, Int.reduceLT, Int.reduceLE]
      rfl⟩)
    (fun _ _ _ _ _ _ => trivial) 0 () none trivial
  simp (disch := first | assumption | omega) only [eX12_sheetsOfAll, bX12_sheetsOfAll_0, bX12_sheetsOfAll_16, bX12_sheetsOfAll_26, bX12_sheetsOfAll_46, bX12_sheetsOfAll_52, r12_0, a12_0, w12_0, n12_0, i3_add, i3_sub, i3_mul, i3_neg, i6_add, i6_sub, i6_mul, i6_neg, i3_lt, i3_le, i3_eq, i6_lt, i6_eq, i3_div, i6_div, i6_i3, i3_i6, c6_lt, c6_ge, c6_gt, c6_le, c6_eq, i3_ite, i6_ite, ib_0, ib_z, ite_not, i1_0, i0_0, jB_1, jB_0, jB_ib, bI_v, bL_v, bD_v, bV_v, ob_s, ob_i, i3_ofNat, jx_e, bI_e, bL_e, bD_e, bV_e, i3_eq0, i6_eq0, if_mx, if_mn, if_true, if_false, not_true_eq_false, not_false_eq_true, Int.reduceEq, Int.reduceLT, Int.reduceLE]
  refine Eq.trans e ?_
  rw [bX12_sheetsOfAll_4]
  simp (disch := first | assumption | omega) only [eX12_sheetsOfAll, bX12_sheetsOfAll_0, bX12_sheetsOfAll_16, bX12_sheetsOfAll_26, bX12_sheetsOfAll_46, bX12_sheetsOfAll_52, r12_0, a12_0, w12_0, n12_0, i3_add, i3_sub, i3_mul, i3_neg, i6_add, i6_sub, i6_mul, i6_neg, i3_lt, i3_le, i3_eq, i6_lt, i6_eq, i3_div, i6_div, i6_i3, i3_i6, c6_lt, c6_ge, c6_gt, c6_le, c6_eq, i3_ite, i6_ite, ib_0, ib_z, ite_not, i1_0, i0_0, jB_1, jB_0, jB_ib, bI_v, bL_v, bD_v, bV_v, ob_s, ob_i, i3_ofNat, jx_e, bI_e, bL_e, bD_e, bV_e, i3_eq0, i6_eq0, if_mx, if_mn, if_true, if_false, not_true_eq_false, not_false_eq_true, Int.reduceEq, Int.reduceLT, Int.reduceLE]
  rw [if_pos (by omega)]
theorem sX12_stacks (hT : 18 ≤ T) (hg : gM v) :
    jm_env (d + 2) 295 [.ref 411] (qM X v w T c s) = some (.inl (some (.int (i3 (fo2 (fun a k n => a + if 0 < kM v k n then 1 else 0) 0 (v 412 0).toNat)))), (qM X v w T c s)) := by
  obtain ⟨hc0, hc1, -⟩ := id hg
  obtain ⟨⟨q, x, e⟩, -⟩ := lq2 (fun _ => True) (fun (k : Nat) (a : Int) (_ : Unit) x => jm_R (jm_env (d + 1)) jmM_X12_stacks 4 [some (.ref 411), some (.int (i3 a)), some (.int (i3 k)), x] [] (qM X v w T c s)) (fun (k n : Nat) a _ => jm_R (jm_env (d + 1)) jmM_X12_stacks 18 [some (.ref 411), some (.int (i3 a)), some (.int (i3 k)), some (.int (i3 n))] [] (qM X v w T c s)) (fun a k n => a + if 0 < kM v k n then 1 else 0) (v 412 0).toNat
    (fun k a p x hk _ => ⟨(), by
      rw [bX12_stacks_4]
      simp (disch := first | assumption | omega) only [eX12_stacks, bX12_stacks_0, bX12_stacks_16, bX12_stacks_24, bX12_stacks_40, bX12_stacks_44, bX12_stacks_45, bX12_stacks_56, bX12_stacks_62, r12_0, a12_0, w12_0, n12_0, i3_add, i3_sub, i3_mul, i3_neg, i6_add, i6_sub, i6_mul, i6_neg, i3_lt, i3_le, i3_eq, i6_lt, i6_eq, i3_div, i6_div, i6_i3, i3_i6, c6_lt, c6_ge, c6_gt, c6_le, c6_eq, i3_ite, i6_ite, ib_0, ib_z, ite_not, i1_0, i0_0, jB_1, jB_0, jB_ib, bI_v, bL_v, bD_v, bV_v, ob_s, ob_i, i3_ofNat, jx_e, bI_e, bL_e, bD_e, bV_e, i3_eq0, i6_eq0, if_mx, if_mn, if_true, if_false, not_true_eq_false, not_false_eq_true, Int.reduceEq, Int.reduceLT, Int.reduceLE]
      rw [if_neg (by omega)]
      rfl⟩)
    (fun k n a p hk hn _ => ⟨(), by
      have hb : 0 ≤ v 412 (12 + 13 * k + 3 + n) ∧ v 412 (12 + 13 * k + 3 + n) ≤ 20000 := hg.k (i := k) (by omega) (by omega) n (by omega) (by omega)
      rw [bX12_stacks_18]
      simp (disch := first | assumption | omega) only [eX12_stacks, bX12_stacks_0, bX12_stacks_16, bX12_stacks_24, bX12_stacks_40, bX12_stacks_44, bX12_stacks_45, bX12_stacks_56, bX12_stacks_62, r12_0, a12_0, w12_0, n12_0, i3_add, i3_sub, i3_mul, i3_neg, i6_add, i6_sub, i6_mul, i6_neg, i3_lt, i3_le, i3_eq, i6_lt, i6_eq, i3_div, i6_div, i6_i3, i3_i6, c6_lt, c6_ge, c6_gt, c6_le, c6_eq, i3_ite, i6_ite, ib_0, ib_z, ite_not, i1_0, i0_0, jB_1, jB_0, jB_ib, bI_v, bL_v, bD_v, bV_v, ob_s, ob_i, i3_ofNat, jx_e, bI_e, bL_e, bD_e, bV_e, i3_eq0, i6_eq0, if_mx, if_mn, if_true, if_false, not_true_eq_false, not_false_eq_true, Int.reduceEq, Int.reduceLT, Int.reduceLE, sX12_stackAt, sX12_flag_1, sX12_flag_0]
      rw [if_neg (by omega)]
      show _ = jm_R _ _ _ [_, some (.int (i3 (a + if 0 < v 412 (12 + 13 * k + 3 + n) then 1 else 0))), _, _] _ _
      by_cases q : 0 < v 412 (12 + 13 * k + 3 + n)
      · rw [if_neg (by omega), if_pos q]; rfl
      · rw [if_pos (by omega), if_neg q]; rfl⟩)
    (fun k a p hk _ => ⟨(), some (.int (i3 10)), by
      rw [bX12_stacks_18]
      simp (disch := first | assumption | omega) only [eX12_stacks, bX12_stacks_0, bX12_stacks_16, bX12_stacks_24, bX12_stacks_40, bX12_stacks_44, bX12_stacks_45, bX12_stacks_56, bX12_stacks_62, r12_0, a12_0, w12_0, n12_0, i3_add, i3_sub, i3_mul, i3_neg, i6_add, i6_sub, i6_mul, i6_neg, i3_lt, i3_le, i3_eq, i6_lt, i6_eq, i3_div, i6_div, i6_i3, i3_i6, c6_lt, c6_ge, c6_gt, c6_le, c6_eq, i3_ite, i6_ite, ib_0, ib_z, ite_not, i1_0, i0_0, jB_1, jB_0, jB_ib, bI_v, bL_v, bD_v, bV_v, ob_s, ob_i, i3_ofNat, jx_e, bI_e, bL_e, bD_e, bV_e, i3_eq0, i6_eq0, if_mx, if_mn, if_true, if_false, not_true_eq_false, not_false_eq_true, Int.reduceEq, Int.reduceLT, Int.reduceLE]
      rfl⟩)
    (fun _ _ _ _ _ _ => trivial) 0 () none trivial
  simp (disch := first | assumption | omega) only [eX12_stacks, bX12_stacks_0, bX12_stacks_16, bX12_stacks_24, bX12_stacks_40, bX12_stacks_44, bX12_stacks_45, bX12_stacks_56, bX12_stacks_62, r12_0, a12_0, w12_0, n12_0, i3_add, i3_sub, i3_mul, i3_neg, i6_add, i6_sub, i6_mul, i6_neg, i3_lt, i3_le, i3_eq, i6_lt, i6_eq, i3_div, i6_div, i6_i3, i3_i6, c6_lt, c6_ge, c6_gt, c6_le, c6_eq, i3_ite, i6_ite, ib_0, ib_z, ite_not, i1_0, i0_0, jB_1, jB_0, jB_ib, bI_v, bL_v, bD_v, bV_v, ob_s, ob_i, i3_ofNat, jx_e, bI_e, bL_e, bD_e, bV_e, i3_eq0, i6_eq0, if_mx, if_mn, if_true, if_false, not_true_eq_false, not_false_eq_true, Int.reduceEq, Int.reduceLT, Int.reduceLE]
  refine Eq.trans e ?_
  rw [bX12_stacks_4]
  simp (disch := first | assumption | omega) only [eX12_stacks, bX12_stacks_0, bX12_stacks_16, bX12_stacks_24, bX12_stacks_40, bX12_stacks_44, bX12_stacks_45, bX12_stacks_56, bX12_stacks_62, r12_0, a12_0, w12_0, n12_0, i3_add, i3_sub, i3_mul, i3_neg, i6_add, i6_sub, i6_mul, i6_neg, i3_lt, i3_le, i3_eq, i6_lt, i6_eq, i3_div, i6_div, i6_i3, i3_i6, c6_lt, c6_ge, c6_gt, c6_le, c6_eq, i3_ite, i6_ite, ib_0, ib_z, ite_not, i1_0, i0_0, jB_1, jB_0, jB_ib, bI_v, bL_v, bD_v, bV_v, ob_s, ob_i, i3_ofNat, jx_e, bI_e, bL_e, bD_e, bV_e, i3_eq0, i6_eq0, if_mx, if_mn, if_true, if_false, not_true_eq_false, not_false_eq_true, Int.reduceEq, Int.reduceLT, Int.reduceLE]
  rw [if_pos (by omega)]
def cntA (v : Nat → Int → Int) (q : Int) : Int := if q = 0 then v 412 0 else if q = 1 then fo2 (fun a k n => a + kM v k n) 0 (v 412 0).toNat else if q = 2 then fo2 (fun a k n => a + if 0 < kM v k n then 1 else 0) 0 (v 412 0).toNat else if q = 3 then v 412 1 else if q = 4 then v 412 2 else if q = 5 then v 412 3 else v 411 7
theorem mX12_count {q : Int} (hT : 18 ≤ T) (hg : gM v) (hq : isI q) : mR (jm_env (d + 3) 296 [.ref 411, .int (i3 q)] (qM X v w T c s)) X v T c s (cd1 (0 ≤ q ∧ q ≤ 6)) (cntA v q) := by
  obtain ⟨hq0, hq1⟩ := hq
  obtain ⟨hc0, hc1, -⟩ := id hg
  by_cases g : 0 ≤ q ∧ q ≤ 6
  · rw [cd1_0 g]
    apply mR_0
    have : q = 0 ∨ q = 1 ∨ q = 2 ∨ q = 3 ∨ q = 4 ∨ q = 5 ∨ q = 6 := by omega
    unfold cntA
    rcases this with rfl | rfl | rfl | rfl | rfl | rfl | rfl <;> simp (disch := first | assumption | omega) only [eX12_count, bX12_count_0, bX12_count_18, bX12_count_22, bX12_count_23, bX12_count_30, bX12_count_32, bX12_count_33_0, bX12_count_33_1, bX12_count_33_2, bX12_count_33_3, bX12_count_33_4, bX12_count_33_5, bX12_count_33_d, bX12_count_72, bX12_count_80, bX12_count_86, bX12_count_91, bX12_count_99, bX12_count_107, bX12_count_115, p12_8, r12_0, a12_0, w12_0, n12_0, g12_7, i3_add, i3_sub, i3_mul, i3_neg, i6_add, i6_sub, i6_mul, i6_neg, i3_lt, i3_le, i3_eq, i6_lt, i6_eq, i3_div, i6_div, i6_i3, i3_i6, c6_lt, c6_ge, c6_gt, c6_le, c6_eq, i3_ite, i6_ite, ib_0, ib_z, ite_not, i1_0, i0_0, jB_1, jB_0, jB_ib, bI_v, bL_v, bD_v, bV_v, ob_s, ob_i, i3_ofNat, jx_e, bI_e, bL_e, bD_e, bV_e, i3_eq0, i6_eq0, if_mx, if_mn, if_true, if_false, not_true_eq_false, not_false_eq_true, Int.reduceEq, Int.reduceLT, Int.reduceLE, sX12_in, sX12_stops_0, sX12_sheetsOfAll, sX12_stacks, and_self, and_true, true_and] <;> exact ⟨_, rfl, up_eq⟩
  · rw [cd1_1 g]
    apply mR_1 (by decide)
    simp (disch := first | assumption | omega) only [eX12_count, bX12_count_0, bX12_count_18, bX12_count_22, bX12_count_23, bX12_count_30, bX12_count_32, bX12_count_33_0, bX12_count_33_1, bX12_count_33_2, bX12_count_33_3, bX12_count_33_4, bX12_count_33_5, bX12_count_33_d, bX12_count_72, bX12_count_80, bX12_count_86, bX12_count_91, bX12_count_99, bX12_count_107, bX12_count_115, p12_8, r12_0, a12_0, w12_0, n12_0, g12_7, i3_add, i3_sub, i3_mul, i3_neg, i6_add, i6_sub, i6_mul, i6_neg, i3_lt, i3_le, i3_eq, i6_lt, i6_eq, i3_div, i6_div, i6_i3, i3_i6, c6_lt, c6_ge, c6_gt, c6_le, c6_eq, i3_ite, i6_ite, ib_0, ib_z, ite_not, i1_0, i0_0, jB_1, jB_0, jB_ib, bI_v, bL_v, bD_v, bV_v, ob_s, ob_i, i3_ofNat, jx_e, bI_e, bL_e, bD_e, bV_e, i3_eq0, i6_eq0, if_mx, if_mn, if_true, if_false, not_true_eq_false, not_false_eq_true, Int.reduceEq, Int.reduceLT, Int.reduceLE, sX12_in, sX12_stops_1]
    rw [if_neg g]
    exact ⟨_, _, rfl, up_eq⟩
theorem sX12_lettersOf {f : Int → Int} {n : Nat} {m : jm_Mem} (h : ltOk f n) (hn : n ≤ 6) : jm_env (d + 1) 297 [.int (i3 (nk f n))] m = some (.inl (some (.int (i3 (n)))), m) := by
  have hp : (32 : Int) ^ n ≤ 1073741824 := by
    have : ∀ n : Nat, n ≤ 6 → (32 : Int) ^ n ≤ 1073741824 := by decide
    exact this n hn
  have hb := nk_b h
  have hl := ch_n (fun k : Nat => jm_R (jm_env d) jmM_X12_lettersOf 4 [some (.int (i3 (nk f n))), some (.int (i3 k)), some (.int (i3 (nk f (n - k))))] [] m) n (fun k hk => by
    have hk2 : ltOk f (n - k) := fun j a b => h j a (by omega)
    have hb2 := nk_b hk2
    have hp2 : (32 : Int) ^ (n - k) ≤ 1073741824 := by
      have : ∀ n : Nat, n ≤ 6 → (32 : Int) ^ n ≤ 1073741824 := by decide
      exact this _ (by omega)
    have hz := hb2.2.2 (by omega)
    have e : nk f (n - k) / 2 ^ 5 = nk f (n - (k + 1)) := by
      have := nk_div (f := f) (n := n - (k + 1)) (fun j a b => h j a (by omega))
      rw [show n - (k + 1) + 1 = n - k by omega] at this
      exact this
    have e2 := i3_sar (a := nk f (n - k)) (by omega) (by omega) (n := 5) (by decide)
    rw [e] at e2
    rw [bX12_lettersOf_4]
    simp (disch := first | assumption | omega) only [eX12_lettersOf, bX12_lettersOf_0, bX12_lettersOf_8, bX12_lettersOf_18, i3_add, i3_sub, i3_mul, i3_neg, i6_add, i6_sub, i6_mul, i6_neg, i3_lt, i3_le, i3_eq, i6_lt, i6_eq, i3_div, i6_div, i6_i3, i3_i6, c6_lt, c6_ge, c6_gt, c6_le, c6_eq, i3_ite, i6_ite, ib_0, ib_z, ite_not, i1_0, i0_0, jB_1, jB_0, jB_ib, bI_v, bL_v, bD_v, bV_v, ob_s, ob_i, i3_ofNat, jx_e, bI_e, bL_e, bD_e, bV_e, i3_eq0, i6_eq0, if_mx, if_mn, if_true, if_false, not_true_eq_false, not_false_eq_true, Int.reduceEq, Int.reduceLT, Int.reduceLE]
    rw [if_neg (by omega), show i3 (nk f (n - k)) >>> (i3 5 &&& 31) = i3 (nk f (n - (k + 1))) from e2]
    rfl)
  simp (disch := first | assumption | omega) only [eX12_lettersOf, bX12_lettersOf_0, bX12_lettersOf_8, bX12_lettersOf_18, i3_add, i3_sub, i3_mul, i3_neg, i6_add, i6_sub, i6_mul, i6_neg, i3_lt, i3_le, i3_eq, i6_lt, i6_eq, i3_div, i6_div, i6_i3, i3_i6, c6_lt, c6_ge, c6_gt, c6_le, c6_eq, i3_ite, i6_ite, ib_0, ib_z, ite_not, i1_0, i0_0, jB_1, jB_0, jB_ib, bI_v, bL_v, bD_v, bV_v, ob_s, ob_i, i3_ofNat, jx_e, bI_e, bL_e, bD_e, bV_e, i3_eq0, i6_eq0, if_mx, if_mn, if_true, if_false, not_true_eq_false, not_false_eq_true, Int.reduceEq, Int.reduceLT, Int.reduceLE]
  refine Eq.trans hl ?_
  rw [bX12_lettersOf_4, Nat.sub_self]
  simp (disch := first | assumption | omega) only [eX12_lettersOf, bX12_lettersOf_0, bX12_lettersOf_8, bX12_lettersOf_18, i3_add, i3_sub, i3_mul, i3_neg, i6_add, i6_sub, i6_mul, i6_neg, i3_lt, i3_le, i3_eq, i6_lt, i6_eq, i3_div, i6_div, i6_i3, i3_i6, c6_lt, c6_ge, c6_gt, c6_le, c6_eq, i3_ite, i6_ite, ib_0, ib_z, ite_not, i1_0, i0_0, jB_1, jB_0, jB_ib, bI_v, bL_v, bD_v, bV_v, ob_s, ob_i, i3_ofNat, jx_e, bI_e, bL_e, bD_e, bV_e, i3_eq0, i6_eq0, if_mx, if_mn, if_true, if_false, not_true_eq_false, not_false_eq_true, Int.reduceEq, Int.reduceLT, Int.reduceLE, show nk f 0 = 0 from rfl, Int.le_refl]
theorem sX12_letterOf {f : Int → Int} {n : Nat} {k : Int} {m : jm_Mem} (h : ltOk f n) (hn : n ≤ 6) (hk : isI k) : jm_env (d + 2) 298 [.int (i3 (nk f n)), .int (i3 k)] m = some (.inl (some (.int (i3 (if 0 ≤ k ∧ k < n then f k else -1)))), m) := by
  obtain ⟨hk0, hk1⟩ := hk
  have hp : (32 : Int) ^ n ≤ 1073741824 := by
    have : ∀ n : Nat, n ≤ 6 → (32 : Int) ^ n ≤ 1073741824 := by decide
    exact this n hn
  have hb := nk_b h
  simp (disch := first | assumption | omega) only [eX12_letterOf, bX12_letterOf_0, bX12_letterOf_18, bX12_letterOf_36, bX12_letterOf_37, i3_add, i3_sub, i3_mul, i3_neg, i6_add, i6_sub, i6_mul, i6_neg, i3_lt, i3_le, i3_eq, i6_lt, i6_eq, i3_div, i6_div, i6_i3, i3_i6, c6_lt, c6_ge, c6_gt, c6_le, c6_eq, i3_ite, i6_ite, ib_0, ib_z, ite_not, i1_0, i0_0, jB_1, jB_0, jB_ib, bI_v, bL_v, bD_v, bV_v, ob_s, ob_i, i3_ofNat, jx_e, bI_e, bL_e, bD_e, bV_e, i3_eq0, i6_eq0, if_mx, if_mn, if_true, if_false, not_true_eq_false, not_false_eq_true, Int.reduceEq, Int.reduceLT, Int.reduceLE, sX12_lettersOf, sX12_in]
  by_cases g : 0 ≤ k ∧ k < n
  · rw [if_pos (by omega), if_pos g]
    have e1 : 5 * ((n : Int) - 1 - k) = ((5 * (n - 1 - k.toNat) : Nat) : Int) := by omega
    rw [e1, i3_sar (by omega) (by omega) (by omega), i3_a31]
    have e2 := nk_sub (f := f) (n := k.toNat + 1) (j := n - 1 - k.toNat) (fun j a b => h j a (by omega))
    rw [show k.toNat + 1 + (n - 1 - k.toNat) = n by omega] at e2
    have e3 := nk_mod (f := f) (n := k.toNat) (fun j a b => h j a (by omega))
    rw [e2, e3, i3_add, bX12_letterOf_37]
    apply fin_i
    rw [Int.toNat_of_nonneg g.1]
    omega
  · rw [if_neg (by omega), if_neg g]
theorem mX12_letter {i k : Int} {f : Int → Int} {n : Nat} (hT : 18 ≤ T) (hc0 : 0 ≤ v 412 0) (hc1 : v 412 0 ≤ 5) (hi : isI i) (hk : isI k) (hf : 0 ≤ i ∧ i < v 412 0 → ltOk f n ∧ n ≤ 6 ∧ v 412 (12 + 13 * i + 0) = nk f n) : mR (jm_env (d + 3) 299 [.ref 411, .int (i3 i), .int (i3 k)] (qM X v w T c s)) X v T c s (cd1 (0 ≤ i ∧ i < v 412 0)) (if 0 ≤ k ∧ k < n then f k else -1) := by
  obtain ⟨hi0, hi1⟩ := hi
  by_cases g : 0 ≤ i ∧ i < v 412 0
  · obtain ⟨f1, f2, f3⟩ := hf g
    obtain ⟨g1, g2⟩ := id g
    rw [cd1_0 g]
    apply mR_0
    simp (disch := first | assumption | omega) only [eX12_letter, bX12_letter_0, bX12_letter_13, bX12_letter_17, bX12_letter_32, p12_8, r12_0, a12_0, w12_0, n12_0, i3_add, i3_sub, i3_mul, i3_neg, i6_add, i6_sub, i6_mul, i6_neg, i3_lt, i3_le, i3_eq, i6_lt, i6_eq, i3_div, i6_div, i6_i3, i3_i6, c6_lt, c6_ge, c6_gt, c6_le, c6_eq, i3_ite, i6_ite, ib_0, ib_z, ite_not, i1_0, i0_0, jB_1, jB_0, jB_ib, bI_v, bL_v, bD_v, bV_v, ob_s, ob_i, i3_ofNat, jx_e, bI_e, bL_e, bD_e, bV_e, i3_eq0, i6_eq0, if_mx, if_mn, if_true, if_false, not_true_eq_false, not_false_eq_true, Int.reduceEq, Int.reduceLT, Int.reduceLE, sX12_noSeries_0, sX12_seriesAt, f3, sX12_letterOf]
    exact ⟨_, rfl, up_eq⟩
  · rw [cd1_1 g]
    apply mR_1 (by decide)
    have g' : i < 0 ∨ v 412 0 ≤ i := by omega
    simp (disch := first | assumption | omega) only [eX12_letter, bX12_letter_0, bX12_letter_13, bX12_letter_17, bX12_letter_32, p12_8, r12_0, a12_0, w12_0, n12_0, i3_add, i3_sub, i3_mul, i3_neg, i6_add, i6_sub, i6_mul, i6_neg, i3_lt, i3_le, i3_eq, i6_lt, i6_eq, i3_div, i6_div, i6_i3, i3_i6, c6_lt, c6_ge, c6_gt, c6_le, c6_eq, i3_ite, i6_ite, ib_0, ib_z, ite_not, i1_0, i0_0, jB_1, jB_0, jB_ib, bI_v, bL_v, bD_v, bV_v, ob_s, ob_i, i3_ofNat, jx_e, bI_e, bL_e, bD_e, bV_e, i3_eq0, i6_eq0, if_mx, if_mn, if_true, if_false, not_true_eq_false, not_false_eq_true, Int.reduceEq, Int.reduceLT, Int.reduceLE, sX12_noSeries_1]
    exact ⟨_, _, rfl, up_eq⟩
/-- the strip of a cut; -1 if it can't be cut -/
def stA (v : Nat → Int → Int) (i n : Int) : Int := if (10 ≤ n ∨ aM v i n = 0) ∨ (10 ≤ n + 1 ∨ aM v i (n + 1) = 0) then -1 else aM v i n - 2 * aM v i (n + 1)
def sizA (v : Nat → Int → Int) (i n q : Int) : Int := if q = 0 then (szM v i n).1 else if q = 1 then (szM v i n).2 else if q = 2 then aM v i n else if q = 3 then kM v i n else if q = 4 then kM v i n / v 412 2 else if q = 5 then stA v i n else if q = 6 then usE (szM v i n).1 (v 412 1) else if q = 7 then usE (szM v i n).2 (v 412 1) else if q = 8 then supM v i (n.toNat + 1) else if (szM v i n).1 = 0 then 1 else 0
theorem mX12_size {i n q : Int} (hT : 18 ≤ T) (hg : gM v) (hr : 1 ≤ v 412 2 ∧ v 412 2 ≤ 500) (hi : isI i) (hn : isI n) (hq : isI q) : mR (jm_env (d + 8) 301 [.ref 411, .int (i3 i), .int (i3 n), .int (i3 q)] (qM X v w T c s)) X v T c s (cd2 ((0 ≤ i ∧ i < v 412 0) ∧ 0 ≤ n ∧ n < 10) (0 ≤ q ∧ q ≤ 9)) (sizA v i n q) := by
  obtain ⟨hq0, hq1⟩ := hq
  obtain ⟨hi0, hi1⟩ := hi
  obtain ⟨hn0, hn1⟩ := hn
  obtain ⟨hc0, hc1, he0, he1, -⟩ := id hg
  obtain ⟨hr0, hr1⟩ := hr
  by_cases g : (0 ≤ i ∧ i < v 412 0) ∧ 0 ≤ n ∧ n < 10
  · obtain ⟨⟨g1, g2⟩, g3, g4⟩ := id g
    have ho := hg.o g1 g2
    have hk := hg.k g1 g2
    have hkn : 0 ≤ v 412 (12 + 13 * i + 3 + n) ∧ v 412 (12 + 13 * i + 3 + n) ≤ 20000 := hk n g3 g4
    have hsz := szM_b ho n
    have hu := hg.s g1 g2 (n := n.toNat + 1) (by omega)
    have hu0 := usE_b hsz.1 hsz.2.1 he0
    have hu1 := usE_b hsz.2.2.1 hsz.2.2.2 he0
    obtain ⟨p8, hsup⟩ : ∃ p, jm_env (d + 6) 225 [.ref 411, .int (i3 i), .int (i3 n)] (qM X v (fw (up w 411 8 0) (szM v i n)) T c s) = some (.inl (some (.long (i6 (supM v i (n.toNat + 1))))), qM X v (fw (fw (up w 411 8 0) (szM v i n)) p) T c s) := by
      have h := sX12_supplyOf_p (d := d + 1) (X := X) (c := c) (s := s) (w := fw (up w 411 8 0) (szM v i n)) (n := n.toNat) hT g1 (by omega) (by omega) ho hk
      rw [Int.toNat_of_nonneg g3] at h
      exact h
    by_cases g' : 0 ≤ q ∧ q ≤ 9
    · rw [cd2_0 g g']
      apply mR_0
      have : q = 0 ∨ q = 1 ∨ q = 2 ∨ q = 3 ∨ q = 4 ∨ q = 5 ∨ q = 6 ∨ q = 7 ∨ q = 8 ∨ q = 9 := by omega
      unfold sizA
      rcases this with rfl | rfl | rfl | rfl | rfl | rfl | rfl | rfl | rfl | rfl
      · simp (disch := first | assumption | omega) only [eX12_size, bX12_size_0, bX12_size_14, bX12_size_27, bX12_size_31, bX12_size_32, bX12_size_39, bX12_size_43, bX12_size_51, p12_8, i3_add, i3_sub, i3_mul, i3_neg, i6_add, i6_sub, i6_mul, i6_neg, i3_lt, i3_le, i3_eq, i6_lt, i6_eq, i3_div, i6_div, i6_i3, i3_i6, c6_lt, c6_ge, c6_gt, c6_le, c6_eq, i3_ite, i6_ite, ib_0, ib_z, ite_not, i1_0, i0_0, jB_1, jB_0, jB_ib, bI_v, bL_v, bD_v, bV_v, ob_s, ob_i, i3_ofNat, jx_e, bI_e, bL_e, bD_e, bV_e, i3_eq0, i6_eq0, if_mx, if_mn, if_true, if_false, not_true_eq_false, not_false_eq_true, Int.reduceEq, Int.reduceLT, Int.reduceLE, eX12_sizeOf, bX12_sizeOf_0, bX12_sizeOf_7_0, bX12_sizeOf_7_1, bX12_sizeOf_7_2, bX12_sizeOf_7_3, bX12_sizeOf_7_4, bX12_sizeOf_7_5, bX12_sizeOf_7_6, bX12_sizeOf_7_7, bX12_sizeOf_7_8, bX12_sizeOf_7_d, bX12_sizeOf_56, bX12_sizeOf_62, bX12_sizeOf_68, bX12_sizeOf_80, bX12_sizeOf_91, bX12_sizeOf_109, bX12_sizeOf_118, bX12_sizeOf_124, bX12_sizeOf_130, bX12_sizeOf_131, bX12_sizeOf_141, bX12_sizeOf_151, bX12_sizeOf_158, bX12_sizeOf_165, bX12_sizeOf_169, bX12_sizeOf_170, g12_9, g12_10, r12_0, a12_0, w12_0, n12_0, i3_add, i3_sub, i3_mul, i3_neg, i6_add, i6_sub, i6_mul, i6_neg, i3_lt, i3_le, i3_eq, i6_lt, i6_eq, i3_div, i6_div, i6_i3, i3_i6, c6_lt, c6_ge, c6_gt, c6_le, c6_eq, i3_ite, i6_ite, ib_0, ib_z, ite_not, i1_0, i0_0, jB_1, jB_0, jB_ib, bI_v, bL_v, bD_v, bV_v, ob_s, ob_i, i3_ofNat, jx_e, bI_e, bL_e, bD_e, bV_e, i3_eq0, i6_eq0, if_mx, if_mn, if_true, if_false, not_true_eq_false, not_false_eq_true, Int.reduceEq, Int.reduceLT, Int.reduceLE, sX12_noSize_0, sX12_in, sX12_stops_0, sX12_finds, fw_9, fw_10, and_self]
        exact ⟨_, rfl, by rw [fw_ne (by omega), up_eq]⟩
      · simp (disch := first | assumption | omega) only [eX12_size, bX12_size_0, bX12_size_14, bX12_size_27, bX12_size_31, bX12_size_32, bX12_size_39, bX12_size_43, bX12_size_51, p12_8, i3_add, i3_sub, i3_mul, i3_neg, i6_add, i6_sub, i6_mul, i6_neg, i3_lt, i3_le, i3_eq, i6_lt, i6_eq, i3_div, i6_div, i6_i3, i3_i6, c6_lt, c6_ge, c6_gt, c6_le, c6_eq, i3_ite, i6_ite, ib_0, ib_z, ite_not, i1_0, i0_0, jB_1, jB_0, jB_ib, bI_v, bL_v, bD_v, bV_v, ob_s, ob_i, i3_ofNat, jx_e, bI_e, bL_e, bD_e, bV_e, i3_eq0, i6_eq0, if_mx, if_mn, if_true, if_false, not_true_eq_false, not_false_eq_true, Int.reduceEq, Int.reduceLT, Int.reduceLE, eX12_sizeOf, bX12_sizeOf_0, bX12_sizeOf_7_0, bX12_sizeOf_7_1, bX12_sizeOf_7_2, bX12_sizeOf_7_3, bX12_sizeOf_7_4, bX12_sizeOf_7_5, bX12_sizeOf_7_6, bX12_sizeOf_7_7, bX12_sizeOf_7_8, bX12_sizeOf_7_d, bX12_sizeOf_56, bX12_sizeOf_62, bX12_sizeOf_68, bX12_sizeOf_80, bX12_sizeOf_91, bX12_sizeOf_109, bX12_sizeOf_118, bX12_sizeOf_124, bX12_sizeOf_130, bX12_sizeOf_131, bX12_sizeOf_141, bX12_sizeOf_151, bX12_sizeOf_158, bX12_sizeOf_165, bX12_sizeOf_169, bX12_sizeOf_170, g12_9, g12_10, r12_0, a12_0, w12_0, n12_0, i3_add, i3_sub, i3_mul, i3_neg, i6_add, i6_sub, i6_mul, i6_neg, i3_lt, i3_le, i3_eq, i6_lt, i6_eq, i3_div, i6_div, i6_i3, i3_i6, c6_lt, c6_ge, c6_gt, c6_le, c6_eq, i3_ite, i6_ite, ib_0, ib_z, ite_not, i1_0, i0_0, jB_1, jB_0, jB_ib, bI_v, bL_v, bD_v, bV_v, ob_s, ob_i, i3_ofNat, jx_e, bI_e, bL_e, bD_e, bV_e, i3_eq0, i6_eq0, if_mx, if_mn, if_true, if_false, not_true_eq_false, not_false_eq_true, Int.reduceEq, Int.reduceLT, Int.reduceLE, sX12_noSize_0, sX12_in, sX12_stops_0, sX12_finds, fw_9, fw_10, and_self]
        exact ⟨_, rfl, by rw [fw_ne (by omega), up_eq]⟩
      · simp (disch := first | assumption | omega) only [eX12_size, bX12_size_0, bX12_size_14, bX12_size_27, bX12_size_31, bX12_size_32, bX12_size_39, bX12_size_43, bX12_size_51, p12_8, i3_add, i3_sub, i3_mul, i3_neg, i6_add, i6_sub, i6_mul, i6_neg, i3_lt, i3_le, i3_eq, i6_lt, i6_eq, i3_div, i6_div, i6_i3, i3_i6, c6_lt, c6_ge, c6_gt, c6_le, c6_eq, i3_ite, i6_ite, ib_0, ib_z, ite_not, i1_0, i0_0, jB_1, jB_0, jB_ib, bI_v, bL_v, bD_v, bV_v, ob_s, ob_i, i3_ofNat, jx_e, bI_e, bL_e, bD_e, bV_e, i3_eq0, i6_eq0, if_mx, if_mn, if_true, if_false, not_true_eq_false, not_false_eq_true, Int.reduceEq, Int.reduceLT, Int.reduceLE, eX12_sizeOf, bX12_sizeOf_0, bX12_sizeOf_7_0, bX12_sizeOf_7_1, bX12_sizeOf_7_2, bX12_sizeOf_7_3, bX12_sizeOf_7_4, bX12_sizeOf_7_5, bX12_sizeOf_7_6, bX12_sizeOf_7_7, bX12_sizeOf_7_8, bX12_sizeOf_7_d, bX12_sizeOf_56, bX12_sizeOf_62, bX12_sizeOf_68, bX12_sizeOf_80, bX12_sizeOf_91, bX12_sizeOf_109, bX12_sizeOf_118, bX12_sizeOf_124, bX12_sizeOf_130, bX12_sizeOf_131, bX12_sizeOf_141, bX12_sizeOf_151, bX12_sizeOf_158, bX12_sizeOf_165, bX12_sizeOf_169, bX12_sizeOf_170, g12_9, g12_10, r12_0, a12_0, w12_0, n12_0, i3_add, i3_sub, i3_mul, i3_neg, i6_add, i6_sub, i6_mul, i6_neg, i3_lt, i3_le, i3_eq, i6_lt, i6_eq, i3_div, i6_div, i6_i3, i3_i6, c6_lt, c6_ge, c6_gt, c6_le, c6_eq, i3_ite, i6_ite, ib_0, ib_z, ite_not, i1_0, i0_0, jB_1, jB_0, jB_ib, bI_v, bL_v, bD_v, bV_v, ob_s, ob_i, i3_ofNat, jx_e, bI_e, bL_e, bD_e, bV_e, i3_eq0, i6_eq0, if_mx, if_mn, if_true, if_false, not_true_eq_false, not_false_eq_true, Int.reduceEq, Int.reduceLT, Int.reduceLE, sX12_noSize_0, sX12_in, sX12_stops_0, sX12_finds, fw_9, fw_10, and_self]
        exact ⟨_, rfl, by rw [fw_ne (by omega), up_eq]⟩
      · simp (disch := first | assumption | omega) only [eX12_size, bX12_size_0, bX12_size_14, bX12_size_27, bX12_size_31, bX12_size_32, bX12_size_39, bX12_size_43, bX12_size_51, p12_8, i3_add, i3_sub, i3_mul, i3_neg, i6_add, i6_sub, i6_mul, i6_neg, i3_lt, i3_le, i3_eq, i6_lt, i6_eq, i3_div, i6_div, i6_i3, i3_i6, c6_lt, c6_ge, c6_gt, c6_le, c6_eq, i3_ite, i6_ite, ib_0, ib_z, ite_not, i1_0, i0_0, jB_1, jB_0, jB_ib, bI_v, bL_v, bD_v, bV_v, ob_s, ob_i, i3_ofNat, jx_e, bI_e, bL_e, bD_e, bV_e, i3_eq0, i6_eq0, if_mx, if_mn, if_true, if_false, not_true_eq_false, not_false_eq_true, Int.reduceEq, Int.reduceLT, Int.reduceLE, eX12_sizeOf, bX12_sizeOf_0, bX12_sizeOf_7_0, bX12_sizeOf_7_1, bX12_sizeOf_7_2, bX12_sizeOf_7_3, bX12_sizeOf_7_4, bX12_sizeOf_7_5, bX12_sizeOf_7_6, bX12_sizeOf_7_7, bX12_sizeOf_7_8, bX12_sizeOf_7_d, bX12_sizeOf_56, bX12_sizeOf_62, bX12_sizeOf_68, bX12_sizeOf_80, bX12_sizeOf_91, bX12_sizeOf_109, bX12_sizeOf_118, bX12_sizeOf_124, bX12_sizeOf_130, bX12_sizeOf_131, bX12_sizeOf_141, bX12_sizeOf_151, bX12_sizeOf_158, bX12_sizeOf_165, bX12_sizeOf_169, bX12_sizeOf_170, g12_9, g12_10, r12_0, a12_0, w12_0, n12_0, i3_add, i3_sub, i3_mul, i3_neg, i6_add, i6_sub, i6_mul, i6_neg, i3_lt, i3_le, i3_eq, i6_lt, i6_eq, i3_div, i6_div, i6_i3, i3_i6, c6_lt, c6_ge, c6_gt, c6_le, c6_eq, i3_ite, i6_ite, ib_0, ib_z, ite_not, i1_0, i0_0, jB_1, jB_0, jB_ib, bI_v, bL_v, bD_v, bV_v, ob_s, ob_i, i3_ofNat, jx_e, bI_e, bL_e, bD_e, bV_e, i3_eq0, i6_eq0, if_mx, if_mn, if_true, if_false, not_true_eq_false, not_false_eq_true, Int.reduceEq, Int.reduceLT, Int.reduceLE, sX12_noSize_0, sX12_in, sX12_stops_0, sX12_finds, sX12_stackAt, and_self]
        exact ⟨_, rfl, by rw [fw_ne (by omega), up_eq]⟩
      · simp (disch := first | assumption | omega) only [eX12_size, bX12_size_0, bX12_size_14, bX12_size_27, bX12_size_31, bX12_size_32, bX12_size_39, bX12_size_43, bX12_size_51, p12_8, i3_add, i3_sub, i3_mul, i3_neg, i6_add, i6_sub, i6_mul, i6_neg, i3_lt, i3_le, i3_eq, i6_lt, i6_eq, i3_div, i6_div, i6_i3, i3_i6, c6_lt, c6_ge, c6_gt, c6_le, c6_eq, i3_ite, i6_ite, ib_0, ib_z, ite_not, i1_0, i0_0, jB_1, jB_0, jB_ib, bI_v, bL_v, bD_v, bV_v, ob_s, ob_i, i3_ofNat, jx_e, bI_e, bL_e, bD_e, bV_e, i3_eq0, i6_eq0, if_mx, if_mn, if_true, if_false, not_true_eq_false, not_false_eq_true, Int.reduceEq, Int.reduceLT, Int.reduceLE, eX12_sizeOf, bX12_sizeOf_0, bX12_sizeOf_7_0, bX12_sizeOf_7_1, bX12_sizeOf_7_2, bX12_sizeOf_7_3, bX12_sizeOf_7_4, bX12_sizeOf_7_5, bX12_sizeOf_7_6, bX12_sizeOf_7_7, bX12_sizeOf_7_8, bX12_sizeOf_7_d, bX12_sizeOf_56, bX12_sizeOf_62, bX12_sizeOf_68, bX12_sizeOf_80, bX12_sizeOf_91, bX12_sizeOf_109, bX12_sizeOf_118, bX12_sizeOf_124, bX12_sizeOf_130, bX12_sizeOf_131, bX12_sizeOf_141, bX12_sizeOf_151, bX12_sizeOf_158, bX12_sizeOf_165, bX12_sizeOf_169, bX12_sizeOf_170, g12_9, g12_10, r12_0, a12_0, w12_0, n12_0, i3_add, i3_sub, i3_mul, i3_neg, i6_add, i6_sub, i6_mul, i6_neg, i3_lt, i3_le, i3_eq, i6_lt, i6_eq, i3_div, i6_div, i6_i3, i3_i6, c6_lt, c6_ge, c6_gt, c6_le, c6_eq, i3_ite, i6_ite, ib_0, ib_z, ite_not, i1_0, i0_0, jB_1, jB_0, jB_ib, bI_v, bL_v, bD_v, bV_v, ob_s, ob_i, i3_ofNat, jx_e, bI_e, bL_e, bD_e, bV_e, i3_eq0, i6_eq0, if_mx, if_mn, if_true, if_false, not_true_eq_false, not_false_eq_true, Int.reduceEq, Int.reduceLT, Int.reduceLE, sX12_noSize_0, sX12_in, sX12_stops_0, sX12_finds, sX12_stackAt, and_self]
        rw [if_neg (by omega)]
        exact ⟨_, rfl, by rw [fw_ne (by omega), up_eq]⟩
      · simp (disch := first | assumption | omega) only [eX12_size, bX12_size_0, bX12_size_14, bX12_size_27, bX12_size_31, bX12_size_32, bX12_size_39, bX12_size_43, bX12_size_51, p12_8, i3_add, i3_sub, i3_mul, i3_neg, i6_add, i6_sub, i6_mul, i6_neg, i3_lt, i3_le, i3_eq, i6_lt, i6_eq, i3_div, i6_div, i6_i3, i3_i6, c6_lt, c6_ge, c6_gt, c6_le, c6_eq, i3_ite, i6_ite, ib_0, ib_z, ite_not, i1_0, i0_0, jB_1, jB_0, jB_ib, bI_v, bL_v, bD_v, bV_v, ob_s, ob_i, i3_ofNat, jx_e, bI_e, bL_e, bD_e, bV_e, i3_eq0, i6_eq0, if_mx, if_mn, if_true, if_false, not_true_eq_false, not_false_eq_true, Int.reduceEq, Int.reduceLT, Int.reduceLE, eX12_sizeOf, bX12_sizeOf_0, bX12_sizeOf_7_0, bX12_sizeOf_7_1, bX12_sizeOf_7_2, bX12_sizeOf_7_3, bX12_sizeOf_7_4, bX12_sizeOf_7_5, bX12_sizeOf_7_6, bX12_sizeOf_7_7, bX12_sizeOf_7_8, bX12_sizeOf_7_d, bX12_sizeOf_56, bX12_sizeOf_62, bX12_sizeOf_68, bX12_sizeOf_80, bX12_sizeOf_91, bX12_sizeOf_109, bX12_sizeOf_118, bX12_sizeOf_124, bX12_sizeOf_130, bX12_sizeOf_131, bX12_sizeOf_141, bX12_sizeOf_151, bX12_sizeOf_158, bX12_sizeOf_165, bX12_sizeOf_169, bX12_sizeOf_170, g12_9, g12_10, r12_0, a12_0, w12_0, n12_0, i3_add, i3_sub, i3_mul, i3_neg, i6_add, i6_sub, i6_mul, i6_neg, i3_lt, i3_le, i3_eq, i6_lt, i6_eq, i3_div, i6_div, i6_i3, i3_i6, c6_lt, c6_ge, c6_gt, c6_le, c6_eq, i3_ite, i6_ite, ib_0, ib_z, ite_not, i1_0, i0_0, jB_1, jB_0, jB_ib, bI_v, bL_v, bD_v, bV_v, ob_s, ob_i, i3_ofNat, jx_e, bI_e, bL_e, bD_e, bV_e, i3_eq0, i6_eq0, if_mx, if_mn, if_true, if_false, not_true_eq_false, not_false_eq_true, Int.reduceEq, Int.reduceLT, Int.reduceLE, sX12_noSize_0, sX12_in, sX12_stops_0, sX12_finds, sX12_isVoidToCut, sX12_stripOf, fw_fw, and_self]
        unfold stA
        by_cases g5 : (10 ≤ n ∨ aM v i n = 0) ∨ (10 ≤ n + 1 ∨ aM v i (n + 1) = 0)
        · simp only [if_pos g5]
          exact ⟨_, rfl, by rw [fw_ne (by omega), up_eq]⟩
        · simp only [if_neg g5]
          exact ⟨_, rfl, by rw [fw_ne (by omega), up_eq]⟩
      · simp (disch := first | assumption | omega) only [eX12_size, bX12_size_0, bX12_size_14, bX12_size_27, bX12_size_31, bX12_size_32, bX12_size_39, bX12_size_43, bX12_size_51, p12_8, i3_add, i3_sub, i3_mul, i3_neg, i6_add, i6_sub, i6_mul, i6_neg, i3_lt, i3_le, i3_eq, i6_lt, i6_eq, i3_div, i6_div, i6_i3, i3_i6, c6_lt, c6_ge, c6_gt, c6_le, c6_eq, i3_ite, i6_ite, ib_0, ib_z, ite_not, i1_0, i0_0, jB_1, jB_0, jB_ib, bI_v, bL_v, bD_v, bV_v, ob_s, ob_i, i3_ofNat, jx_e, bI_e, bL_e, bD_e, bV_e, i3_eq0, i6_eq0, if_mx, if_mn, if_true, if_false, not_true_eq_false, not_false_eq_true, Int.reduceEq, Int.reduceLT, Int.reduceLE, eX12_sizeOf, bX12_sizeOf_0, bX12_sizeOf_7_0, bX12_sizeOf_7_1, bX12_sizeOf_7_2, bX12_sizeOf_7_3, bX12_sizeOf_7_4, bX12_sizeOf_7_5, bX12_sizeOf_7_6, bX12_sizeOf_7_7, bX12_sizeOf_7_8, bX12_sizeOf_7_d, bX12_sizeOf_56, bX12_sizeOf_62, bX12_sizeOf_68, bX12_sizeOf_80, bX12_sizeOf_91, bX12_sizeOf_109, bX12_sizeOf_118, bX12_sizeOf_124, bX12_sizeOf_130, bX12_sizeOf_131, bX12_sizeOf_141, bX12_sizeOf_151, bX12_sizeOf_158, bX12_sizeOf_165, bX12_sizeOf_169, bX12_sizeOf_170, g12_9, g12_10, r12_0, a12_0, w12_0, n12_0, i3_add, i3_sub, i3_mul, i3_neg, i6_add, i6_sub, i6_mul, i6_neg, i3_lt, i3_le, i3_eq, i6_lt, i6_eq, i3_div, i6_div, i6_i3, i3_i6, c6_lt, c6_ge, c6_gt, c6_le, c6_eq, i3_ite, i6_ite, ib_0, ib_z, ite_not, i1_0, i0_0, jB_1, jB_0, jB_ib, bI_v, bL_v, bD_v, bV_v, ob_s, ob_i, i3_ofNat, jx_e, bI_e, bL_e, bD_e, bV_e, i3_eq0, i6_eq0, if_mx, if_mn, if_true, if_false, not_true_eq_false, not_false_eq_true, Int.reduceEq, Int.reduceLT, Int.reduceLE, sX12_noSize_0, sX12_in, sX12_stops_0, sX12_finds, sX12_usable, fw_9, fw_10, and_self]
        exact ⟨_, rfl, by rw [fw_ne (by omega), up_eq]⟩
      · simp (disch := first | assumption | omega) only [eX12_size, bX12_size_0, bX12_size_14, bX12_size_27, bX12_size_31, bX12_size_32, bX12_size_39, bX12_size_43, bX12_size_51, p12_8, i3_add, i3_sub, i3_mul, i3_neg, i6_add, i6_sub, i6_mul, i6_neg, i3_lt, i3_le, i3_eq, i6_lt, i6_eq, i3_div, i6_div, i6_i3, i3_i6, c6_lt, c6_ge, c6_gt, c6_le, c6_eq, i3_ite, i6_ite, ib_0, ib_z, ite_not, i1_0, i0_0, jB_1, jB_0, jB_ib, bI_v, bL_v, bD_v, bV_v, ob_s, ob_i, i3_ofNat, jx_e, bI_e, bL_e, bD_e, bV_e, i3_eq0, i6_eq0, if_mx, if_mn, if_true, if_false, not_true_eq_false, not_false_eq_true, Int.reduceEq, Int.reduceLT, Int.reduceLE, eX12_sizeOf, bX12_sizeOf_0, bX12_sizeOf_7_0, bX12_sizeOf_7_1, bX12_sizeOf_7_2, bX12_sizeOf_7_3, bX12_sizeOf_7_4, bX12_sizeOf_7_5, bX12_sizeOf_7_6, bX12_sizeOf_7_7, bX12_sizeOf_7_8, bX12_sizeOf_7_d, bX12_sizeOf_56, bX12_sizeOf_62, bX12_sizeOf_68, bX12_sizeOf_80, bX12_sizeOf_91, bX12_sizeOf_109, bX12_sizeOf_118, bX12_sizeOf_124, bX12_sizeOf_130, bX12_sizeOf_131, bX12_sizeOf_141, bX12_sizeOf_151, bX12_sizeOf_158, bX12_sizeOf_165, bX12_sizeOf_169, bX12_sizeOf_170, g12_9, g12_10, r12_0, a12_0, w12_0, n12_0, i3_add, i3_sub, i3_mul, i3_neg, i6_add, i6_sub, i6_mul, i6_neg, i3_lt, i3_le, i3_eq, i6_lt, i6_eq, i3_div, i6_div, i6_i3, i3_i6, c6_lt, c6_ge, c6_gt, c6_le, c6_eq, i3_ite, i6_ite, ib_0, ib_z, ite_not, i1_0, i0_0, jB_1, jB_0, jB_ib, bI_v, bL_v, bD_v, bV_v, ob_s, ob_i, i3_ofNat, jx_e, bI_e, bL_e, bD_e, bV_e, i3_eq0, i6_eq0, if_mx, if_mn, if_true, if_false, not_true_eq_false, not_false_eq_true, Int.reduceEq, Int.reduceLT, Int.reduceLE, sX12_noSize_0, sX12_in, sX12_stops_0, sX12_finds, sX12_usable, fw_9, fw_10, and_self]
        exact ⟨_, rfl, by rw [fw_ne (by omega), up_eq]⟩
      · simp (disch := first | assumption | omega) only [eX12_size, bX12_size_0, bX12_size_14, bX12_size_27, bX12_size_31, bX12_size_32, bX12_size_39, bX12_size_43, bX12_size_51, p12_8, i3_add, i3_sub, i3_mul, i3_neg, i6_add, i6_sub, i6_mul, i6_neg, i3_lt, i3_le, i3_eq, i6_lt, i6_eq, i3_div, i6_div, i6_i3, i3_i6, c6_lt, c6_ge, c6_gt, c6_le, c6_eq, i3_ite, i6_ite, ib_0, ib_z, ite_not, i1_0, i0_0, jB_1, jB_0, jB_ib, bI_v, bL_v, bD_v, bV_v, ob_s, ob_i, i3_ofNat, jx_e, bI_e, bL_e, bD_e, bV_e, i3_eq0, i6_eq0, if_mx, if_mn, if_true, if_false, not_true_eq_false, not_false_eq_true, Int.reduceEq, Int.reduceLT, Int.reduceLE, eX12_sizeOf, bX12_sizeOf_0, bX12_sizeOf_7_0, bX12_sizeOf_7_1, bX12_sizeOf_7_2, bX12_sizeOf_7_3, bX12_sizeOf_7_4, bX12_sizeOf_7_5, bX12_sizeOf_7_6, bX12_sizeOf_7_7, bX12_sizeOf_7_8, bX12_sizeOf_7_d, bX12_sizeOf_56, bX12_sizeOf_62, bX12_sizeOf_68, bX12_sizeOf_80, bX12_sizeOf_91, bX12_sizeOf_109, bX12_sizeOf_118, bX12_sizeOf_124, bX12_sizeOf_130, bX12_sizeOf_131, bX12_sizeOf_141, bX12_sizeOf_151, bX12_sizeOf_158, bX12_sizeOf_165, bX12_sizeOf_169, bX12_sizeOf_170, g12_9, g12_10, r12_0, a12_0, w12_0, n12_0, i3_add, i3_sub, i3_mul, i3_neg, i6_add, i6_sub, i6_mul, i6_neg, i3_lt, i3_le, i3_eq, i6_lt, i6_eq, i3_div, i6_div, i6_i3, i3_i6, c6_lt, c6_ge, c6_gt, c6_le, c6_eq, i3_ite, i6_ite, ib_0, ib_z, ite_not, i1_0, i0_0, jB_1, jB_0, jB_ib, bI_v, bL_v, bD_v, bV_v, ob_s, ob_i, i3_ofNat, jx_e, bI_e, bL_e, bD_e, bV_e, i3_eq0, i6_eq0, if_mx, if_mn, if_true, if_false, not_true_eq_false, not_false_eq_true, Int.reduceEq, Int.reduceLT, Int.reduceLE, sX12_noSize_0, sX12_in, sX12_stops_0, sX12_finds, hsup, fw_fw, and_self]
        exact ⟨_, rfl, by rw [fw_ne (by omega), up_eq]⟩
      · simp (disch := first | assumption | omega) only [eX12_size, bX12_size_0, bX12_size_14, bX12_size_27, bX12_size_31, bX12_size_32, bX12_size_39, bX12_size_43, bX12_size_51, p12_8, i3_add, i3_sub, i3_mul, i3_neg, i6_add, i6_sub, i6_mul, i6_neg, i3_lt, i3_le, i3_eq, i6_lt, i6_eq, i3_div, i6_div, i6_i3, i3_i6, c6_lt, c6_ge, c6_gt, c6_le, c6_eq, i3_ite, i6_ite, ib_0, ib_z, ite_not, i1_0, i0_0, jB_1, jB_0, jB_ib, bI_v, bL_v, bD_v, bV_v, ob_s, ob_i, i3_ofNat, jx_e, bI_e, bL_e, bD_e, bV_e, i3_eq0, i6_eq0, if_mx, if_mn, if_true, if_false, not_true_eq_false, not_false_eq_true, Int.reduceEq, Int.reduceLT, Int.reduceLE, eX12_sizeOf, bX12_sizeOf_0, bX12_sizeOf_7_0, bX12_sizeOf_7_1, bX12_sizeOf_7_2, bX12_sizeOf_7_3, bX12_sizeOf_7_4, bX12_sizeOf_7_5, bX12_sizeOf_7_6, bX12_sizeOf_7_7, bX12_sizeOf_7_8, bX12_sizeOf_7_d, bX12_sizeOf_56, bX12_sizeOf_62, bX12_sizeOf_68, bX12_sizeOf_80, bX12_sizeOf_91, bX12_sizeOf_109, bX12_sizeOf_118, bX12_sizeOf_124, bX12_sizeOf_130, bX12_sizeOf_131, bX12_sizeOf_141, bX12_sizeOf_151, bX12_sizeOf_158, bX12_sizeOf_165, bX12_sizeOf_169, bX12_sizeOf_170, g12_9, g12_10, r12_0, a12_0, w12_0, n12_0, i3_add, i3_sub, i3_mul, i3_neg, i6_add, i6_sub, i6_mul, i6_neg, i3_lt, i3_le, i3_eq, i6_lt, i6_eq, i3_div, i6_div, i6_i3, i3_i6, c6_lt, c6_ge, c6_gt, c6_le, c6_eq, i3_ite, i6_ite, ib_0, ib_z, ite_not, i1_0, i0_0, jB_1, jB_0, jB_ib, bI_v, bL_v, bD_v, bV_v, ob_s, ob_i, i3_ofNat, jx_e, bI_e, bL_e, bD_e, bV_e, i3_eq0, i6_eq0, if_mx, if_mn, if_true, if_false, not_true_eq_false, not_false_eq_true, Int.reduceEq, Int.reduceLT, Int.reduceLE, sX12_noSize_0, sX12_in, sX12_stops_0, sX12_finds, fw_9, fw_10, sX12_flag_1, sX12_flag_0, and_self]
        by_cases g5 : (szM v i n).1 = 0
        · simp only [if_pos g5]
          exact ⟨_, rfl, by rw [fw_ne (by omega), up_eq]⟩
        · simp only [if_neg g5]
          exact ⟨_, rfl, by rw [fw_ne (by omega), up_eq]⟩
    · rw [cd2_2 g g']
      apply mR_1 (by decide)
      simp (disch := first | assumption | omega) only [eX12_size, bX12_size_0, bX12_size_14, bX12_size_27, bX12_size_31, bX12_size_32, bX12_size_39, bX12_size_43, bX12_size_51, p12_8, i3_add, i3_sub, i3_mul, i3_neg, i6_add, i6_sub, i6_mul, i6_neg, i3_lt, i3_le, i3_eq, i6_lt, i6_eq, i3_div, i6_div, i6_i3, i3_i6, c6_lt, c6_ge, c6_gt, c6_le, c6_eq, i3_ite, i6_ite, ib_0, ib_z, ite_not, i1_0, i0_0, jB_1, jB_0, jB_ib, bI_v, bL_v, bD_v, bV_v, ob_s, ob_i, i3_ofNat, jx_e, bI_e, bL_e, bD_e, bV_e, i3_eq0, i6_eq0, if_mx, if_mn, if_true, if_false, not_true_eq_false, not_false_eq_true, Int.reduceEq, Int.reduceLT, Int.reduceLE, sX12_noSize_0, sX12_in, sX12_stops_1]
      rw [if_neg g']
      exact ⟨_, _, rfl, up_eq⟩
  · rw [cd2_1 g]
    apply mR_1 (by decide)
    simp (disch := first | assumption | omega) only [eX12_size, bX12_size_0, bX12_size_14, bX12_size_27, bX12_size_31, bX12_size_32, bX12_size_39, bX12_size_43, bX12_size_51, p12_8, i3_add, i3_sub, i3_mul, i3_neg, i6_add, i6_sub, i6_mul, i6_neg, i3_lt, i3_le, i3_eq, i6_lt, i6_eq, i3_div, i6_div, i6_i3, i3_i6, c6_lt, c6_ge, c6_gt, c6_le, c6_eq, i3_ite, i6_ite, ib_0, ib_z, ite_not, i1_0, i0_0, jB_1, jB_0, jB_ib, bI_v, bL_v, bD_v, bV_v, ob_s, ob_i, i3_ofNat, jx_e, bI_e, bL_e, bD_e, bV_e, i3_eq0, i6_eq0, if_mx, if_mn, if_true, if_false, not_true_eq_false, not_false_eq_true, Int.reduceEq, Int.reduceLT, Int.reduceLE, sX12_noSize_1]
    exact ⟨_, _, rfl, up_eq⟩
end MO5
