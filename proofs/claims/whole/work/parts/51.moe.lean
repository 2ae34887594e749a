-- uses 24.zar 25.obj 26.ops 30.rd 31.re 34.gen 38.mod 39.mo2 40.mo3 41.bit 42.mo4 43.mo5 44.mo6 45.mo7 46.mo8 47.mo9 48.moa 49.mob 50.moc
/-! The reference: order, whyNot, ifOrder, found. -/
theorem flU_b {v : Nat → Int → Int} {i a b q : Int} {n m : Nat} (h : m ≠ 412) : flU v i n a b q m = v m := by
  unfold flU
  rw [up_b h, up_b h, up_b h, up_b h, flo_b h, up_b h, up_b h]
theorem kpsV_b {v : Nat → Int → Int} {a b q : Int} {m : Nat} (h : m ≠ 412) : kpsV v a b q m = v m := by
  unfold kpsV
  split
  · split
    · rfl
    · rw [up_b h, up_b h, up_b h, up_b h]
  · rw [up_b h]
theorem flV_b {v : Nat → Int → Int} {a b q : Int} {m : Nat} (h : m ≠ 412) : flV v a b q m = v m := by
  unfold flV
  split
  · rfl
  · rw [kpsV_b h, flU_b h]
theorem fil_414 {w : Nat → Int → Int} {g : Int → Int} (h : ∀ k, 0 ≤ k → k < 167 → w 414 k = g k) : fil w 414 g 167 = w := by
  funext n k
  unfold fil
  by_cases q : n = 414 ∧ 0 ≤ k ∧ k < 167
  · rw [if_pos q, ← h k q.2.1 q.2.2, q.1]
  · rw [if_neg q]
def cmV (u : Nat → Int → Int) (nm a b : Int) : Nat → Int → Int := up (up (up (up u 412 0 (u 412 0 + 1)) 412 (12 + 13 * u 412 0 + 0) nm) 412 (12 + 13 * u 412 0 + 1) a) 412 (12 + 13 * u 412 0 + 2) b
def whF (v : Nat → Int → Int) : Int := fnd (fun k : Nat => ¬ (97 ≤ v 420 k ∧ v 420 k ≤ 122) ∨ k = 6) (fun _ => 0) (nk (v 420) (v 411 16).toNat) 0 (v 411 16).toNat
def fdA (v : Nat → Int → Int) : Int := if v 412 0 = 5 ∨ whF v = 0 ∨ nmF v (whF v) ≠ -1 then -1 else v 412 0
def fdV (v : Nat → Int → Int) (a b : Int) : Nat → Int → Int := if v 412 0 = 5 ∨ whF v = 0 ∨ nmF v (whF v) ≠ -1 then v else up (cmV (kpV v (v 412)) (whF v) a b) 411 16 0
section MOE
variable {d : Nat} {X : Nat × (Nat → Int32)} {v w : Nat → Int → Int} {T c s : Nat}
theorem mX12_order {a b q : Int} (hT : 18 ≤ T) (hg : gM v) (hp : prOk v) (hu0 : 0 ≤ v 411 7) (hu1 : v 411 7 ≤ 8) (ha : isI a) (hb : isI b) (hq : isI q) : mR (jm_env (d + 8) 287 [.ref 411, .int (i3 a), .int (i3 b), .int (i3 q)] (qM X v w T c s)) X (if ((1 ≤ a ∧ a ≤ 2000) ∧ 1 ≤ b ∧ b ≤ 2000) ∧ 1 ≤ q ∧ q ≤ 999 then trV v (flR v a b q) (flV v a b q) else v) T c s (cd1 (((1 ≤ a ∧ a ≤ 2000) ∧ 1 ≤ b ∧ b ≤ 2000) ∧ 1 ≤ q ∧ q ≤ 999)) (flR v a b q) := by
  obtain ⟨ha0, ha1⟩ := ha
  obtain ⟨hb0, hb1⟩ := hb
  obtain ⟨hq0, hq1⟩ := hq
  obtain ⟨hc0, hc1, -⟩ := id hg
  by_cases g : ((1 ≤ a ∧ a ≤ 2000) ∧ 1 ≤ b ∧ b ≤ 2000) ∧ 1 ≤ q ∧ q ≤ 999
  · obtain ⟨⟨⟨g1, g2⟩, g3, g4⟩, g5, g6⟩ := id g
    rw [cd1_0 g, if_pos g]
    apply mR_0
    obtain ⟨w', e1, e2, e3⟩ := sX12_fills (d := d) (X := X) (c := c) (s := s) (w := fil (up w 411 8 0) 414 (v 412) 167) (a := a) (b := b) (q := q) hT hg hp g1 g2 g3 g4 g5 g6
    simp (disch := first | assumption | omega) only [eX12_order, bX12_order_0, bX12_order_15, bX12_order_17, p12_8, i3_add, i3_sub, i3_mul, i3_neg, i6_add, i6_sub, i6_mul, i6_neg, i3_lt, i3_le, i3_eq, i6_lt, i6_eq, i3_div, i6_div, i6_i3, i3_i6, c6_lt, c6_ge, c6_gt, c6_le, c6_eq, i3_ite, i6_ite, ib_0, ib_z, ite_not, i1_0, i0_0, jB_1, jB_0, jB_ib, bI_v, bL_v, bD_v, bV_v, ob_s, ob_i, i3_ofNat, jx_e, bI_e, bL_e, bD_e, bV_e, i3_eq0, i6_eq0, if_mx, if_mn, if_true, if_false, not_true_eq_false, not_false_eq_true, Int.reduceEq, Int.reduceLT, Int.reduceLE, sX12_noOrder_0, sX12_tries, e1]
    rw [← fil_414 (w := w') (g := v 412) (fun k k0 k1 => by rw [e2 k, fil_in k0 k1])]
    have h8 : fil w' 414 (v 412) 167 411 8 = 0 := by rw [fil_ne (by omega), e3, fil_ne (by omega), up_eq]
    have hr : (flR v a b q < -1 ∧ -7 ≤ flR v a b q ∧ (nrA v a b q).1 = -1) ∨ (0 ≤ flR v a b q ∧ flR v a b q < 1000) := by
      unfold flR
      rcases nrA_c (v := v) a b q 0 with ⟨h1, -⟩ | ⟨-, h3, h4, h5, h6⟩
      · rw [if_pos h1]
        split <;> omega
      · rw [if_neg (by omega)]
        omega
    unfold trV
    by_cases k : flR v a b q < -1
    · have hn : flV v a b q = v := if_pos (by omega)
      rw [if_pos k, hn, sX12_tried_1 hT k (by omega)]
      simp (disch := first | assumption | omega) only [eX12_order, bX12_order_0, bX12_order_15, bX12_order_17, p12_8, i3_add, i3_sub, i3_mul, i3_neg, i6_add, i6_sub, i6_mul, i6_neg, i3_lt, i3_le, i3_eq, i6_lt, i6_eq, i3_div, i6_div, i6_i3, i3_i6, c6_lt, c6_ge, c6_gt, c6_le, c6_eq, i3_ite, i6_ite, ib_0, ib_z, ite_not, i1_0, i0_0, jB_1, jB_0, jB_ib, bI_v, bL_v, bD_v, bV_v, ob_s, ob_i, i3_ofNat, jx_e, bI_e, bL_e, bD_e, bV_e, i3_eq0, i6_eq0, if_mx, if_mn, if_true, if_false, not_true_eq_false, not_false_eq_true, Int.reduceEq, Int.reduceLT, Int.reduceLE]
      exact ⟨_, rfl, h8⟩
    · rw [if_neg k, sX12_tried_0 hT (by rw [flV_b (by omega)]; exact hu0) (by rw [flV_b (by omega)]; exact hu1) (by omega) (by omega)]
      simp (disch := first | assumption | omega) only [eX12_order, bX12_order_0, bX12_order_15, bX12_order_17, p12_8, i3_add, i3_sub, i3_mul, i3_neg, i6_add, i6_sub, i6_mul, i6_neg, i3_lt, i3_le, i3_eq, i6_lt, i6_eq, i3_div, i6_div, i6_i3, i3_i6, c6_lt, c6_ge, c6_gt, c6_le, c6_eq, i3_ite, i6_ite, ib_0, ib_z, ite_not, i1_0, i0_0, jB_1, jB_0, jB_ib, bI_v, bL_v, bD_v, bV_v, ob_s, ob_i, i3_ofNat, jx_e, bI_e, bL_e, bD_e, bV_e, i3_eq0, i6_eq0, if_mx, if_mn, if_true, if_false, not_true_eq_false, not_false_eq_true, Int.reduceEq, Int.reduceLT, Int.reduceLE]
      exact ⟨_, rfl, h8⟩
  · rw [cd1_1 g, if_neg g]
    apply mR_1 (by decide)
    simp (disch := first | assumption | omega) only [eX12_order, bX12_order_0, bX12_order_15, bX12_order_17, p12_8, i3_add, i3_sub, i3_mul, i3_neg, i6_add, i6_sub, i6_mul, i6_neg, i3_lt, i3_le, i3_eq, i6_lt, i6_eq, i3_div, i6_div, i6_i3, i3_i6, c6_lt, c6_ge, c6_gt, c6_le, c6_eq, i3_ite, i6_ite, ib_0, ib_z, ite_not, i1_0, i0_0, jB_1, jB_0, jB_ib, bI_v, bL_v, bD_v, bV_v, ob_s, ob_i, i3_ofNat, jx_e, bI_e, bL_e, bD_e, bV_e, i3_eq0, i6_eq0, if_mx, if_mn, if_true, if_false, not_true_eq_false, not_false_eq_true, Int.reduceEq, Int.reduceLT, Int.reduceLE, sX12_noOrder_1]
    exact ⟨_, _, rfl, up_eq⟩
theorem sX12_comes {nm a b : Int} (hT : 18 ≤ T) (hc0 : 0 ≤ v 412 0) (hc1 : v 412 0 < 5) (hn0 : -2147483648 ≤ nm) (hn1 : nm < 2147483648) (ha0 : -2147483648 ≤ a) (ha1 : a < 2147483648) (hb0 : -2147483648 ≤ b) (hb1 : b < 2147483648) : jm_env (d + 2) 215 [.ref 411, .int (i3 nm), .int (i3 a), .int (i3 b)] (qM X v w T c s) = some (.inl none, qM X (cmV v nm a b) w T c s) := by
  simp (disch := first | assumption | omega) only [eX12_comes, bX12_comes_0, r12_0, a12_0, w12_0, n12_0, i3_add, i3_sub, i3_mul, i3_neg, i6_add, i6_sub, i6_mul, i6_neg, i3_lt, i3_le, i3_eq, i6_lt, i6_eq, i3_div, i6_div, i6_i3, i3_i6, c6_lt, c6_ge, c6_gt, c6_le, c6_eq, i3_ite, i6_ite, ib_0, ib_z, ite_not, i1_0, i0_0, jB_1, jB_0, jB_ib, bI_v, bL_v, bD_v, bV_v, ob_s, ob_i, i3_ofNat, jx_e, bI_e, bL_e, bD_e, bV_e, i3_eq0, i6_eq0, if_mx, if_mn, if_true, if_false, not_true_eq_false, not_false_eq_true, Int.reduceEq, Int.reduceLT, Int.reduceLE, sX12_seriesAt]
  rfl
theorem sX12_isSmall {z : Int} {m : jm_Mem} (h0 : -2147483648 ≤ z) (h1 : z < 2147483648) : jm_env (d + 2) 243 [.int (i3 z)] m = some (.inl (some (.int (i3 (if 97 ≤ z ∧ z ≤ 122 then 1 else 0)))), m) := by
  simp (disch := first | assumption | omega) only [eX12_isSmall, bX12_isSmall_0, i3_add, i3_sub, i3_mul, i3_neg, i6_add, i6_sub, i6_mul, i6_neg, i3_lt, i3_le, i3_eq, i6_lt, i6_eq, i3_div, i6_div, i6_i3, i3_i6, c6_lt, c6_ge, c6_gt, c6_le, c6_eq, i3_ite, i6_ite, ib_0, ib_z, ite_not, i1_0, i0_0, jB_1, jB_0, jB_ib, bI_v, bL_v, bD_v, bV_v, ob_s, ob_i, i3_ofNat, jx_e, bI_e, bL_e, bD_e, bV_e, i3_eq0, i6_eq0, if_mx, if_mn, if_true, if_false, not_true_eq_false, not_false_eq_true, Int.reduceEq, Int.reduceLT, Int.reduceLE, sX12_in]
theorem sX12_isDigit {z : Int} {m : jm_Mem} (h0 : -2147483648 ≤ z) (h1 : z < 2147483648) : jm_env (d + 2) 244 [.int (i3 z)] m = some (.inl (some (.int (i3 (if 48 ≤ z ∧ z ≤ 57 then 1 else 0)))), m) := by
  simp (disch := first | assumption | omega) only [eX12_isDigit, bX12_isDigit_0, i3_add, i3_sub, i3_mul, i3_neg, i6_add, i6_sub, i6_mul, i6_neg, i3_lt, i3_le, i3_eq, i6_lt, i6_eq, i3_div, i6_div, i6_i3, i3_i6, c6_lt, c6_ge, c6_gt, c6_le, c6_eq, i3_ite, i6_ite, ib_0, ib_z, ite_not, i1_0, i0_0, jB_1, jB_0, jB_ib, bI_v, bL_v, bD_v, bV_v, ob_s, ob_i, i3_ofNat, jx_e, bI_e, bL_e, bD_e, bV_e, i3_eq0, i6_eq0, if_mx, if_mn, if_true, if_false, not_true_eq_false, not_false_eq_true, Int.reduceEq, Int.reduceLT, Int.reduceLE, sX12_in]
theorem sX12_wholeName (hT : 18 ≤ T) (hb0 : 0 ≤ v 411 16) (hb1 : v 411 16 ≤ 600) (hb : ∀ k : Int, 0 ≤ k → k < v 411 16 → 0 ≤ v 420 k ∧ v 420 k ≤ 255) : jm_env (d + 3) 282 [.ref 411] (qM X v w T c s) = some (.inl (some (.int (i3 (whF v)))), (qM X v w T c s)) := by
  have hl := ch_f (p := fun k : Nat => ¬ (97 ≤ v 420 k ∧ v 420 k ≤ 122) ∨ k = 6) (fun k : Nat => jm_R (jm_env (d + 2)) jmM_X12_wholeName 4 [some (.ref 411), some (.int (i3 (nk (v 420) k))), some (.int (i3 k))] [] (qM X v w T c s)) (fun _ => some (.inl (some (.int (i3 (0)))), (qM X v w T c s))) (some (.inl (some (.int (i3 (nk (v 420) (v 411 16).toNat)))), (qM X v w T c s))) (v 411 16).toNat (fun k hk => by
    have h1 := hb k (by omega) (by omega)
    rw [bX12_wholeName_4]
    simp (disch := first | assumption | omega) only [eX12_wholeName, bX12_wholeName_0, bX12_wholeName_12, bX12_wholeName_24, bX12_wholeName_30, bX12_wholeName_32, bX12_wholeName_53, g12_16, r12_14, a12_14, w12_14, n12_14, i3_add, i3_sub, i3_mul, i3_neg, i6_add, i6_sub, i6_mul, i6_neg, i3_lt, i3_le, i3_eq, i6_lt, i6_eq, i3_div, i6_div, i6_i3, i3_i6, c6_lt, c6_ge, c6_gt, c6_le, c6_eq, i3_ite, i6_ite, ib_0, ib_z, ite_not, i1_0, i0_0, jB_1, jB_0, jB_ib, bI_v, bL_v, bD_v, bV_v, ob_s, ob_i, i3_ofNat, jx_e, bI_e, bL_e, bD_e, bV_e, i3_eq0, i6_eq0, if_mx, if_mn, if_true, if_false, not_true_eq_false, not_false_eq_true, Int.reduceEq, Int.reduceLT, Int.reduceLE, sX12_isSmall]
    rw [if_neg (by omega)]
    by_cases g : 97 ≤ v 420 k ∧ v 420 k ≤ 122
    · by_cases g2 : k = 6
      · rw [if_pos g, if_pos (Or.inr g2), if_pos (by omega)]
      · rw [if_pos g, if_neg (by omega), if_neg (by omega)]
        rw [show nk (v 420) (k + 1) = 32 * nk (v 420) k + (v 420 k - 96) from rfl, show 32 * nk (v 420) k + (v 420 k - 96) = 32 * nk (v 420) k + v 420 k - 96 by omega]
        rfl
    · rw [if_neg g, if_pos (Or.inl g)]) (by
    rw [bX12_wholeName_4]
    simp (disch := first | assumption | omega) only [eX12_wholeName, bX12_wholeName_0, bX12_wholeName_12, bX12_wholeName_24, bX12_wholeName_30, bX12_wholeName_32, bX12_wholeName_53, g12_16, r12_14, a12_14, w12_14, n12_14, i3_add, i3_sub, i3_mul, i3_neg, i6_add, i6_sub, i6_mul, i6_neg, i3_lt, i3_le, i3_eq, i6_lt, i6_eq, i3_div, i6_div, i6_i3, i3_i6, c6_lt, c6_ge, c6_gt, c6_le, c6_eq, i3_ite, i6_ite, ib_0, ib_z, ite_not, i1_0, i0_0, jB_1, jB_0, jB_ib, bI_v, bL_v, bD_v, bV_v, ob_s, ob_i, i3_ofNat, jx_e, bI_e, bL_e, bD_e, bV_e, i3_eq0, i6_eq0, if_mx, if_mn, if_true, if_false, not_true_eq_false, not_false_eq_true, Int.reduceEq, Int.reduceLT, Int.reduceLE]
    rw [if_pos (by omega)])
  rw [show (fun _ : Nat => (some (.inl (some (.int (i3 (0)))), (qM X v w T c s)) : Option jm_Res)) = (fun j : Nat => (fun z : Int => (some (.inl (some (.int (i3 (z)))), (qM X v w T c s)) : Option jm_Res)) ((fun _ : Nat => (0 : Int)) j)) from rfl, fnd_map (fun z : Int => (some (.inl (some (.int (i3 (z)))), (qM X v w T c s)) : Option jm_Res))] at hl
  simp (disch := first | assumption | omega) only [eX12_wholeName, bX12_wholeName_0, bX12_wholeName_12, bX12_wholeName_24, bX12_wholeName_30, bX12_wholeName_32, bX12_wholeName_53, g12_16, r12_14, a12_14, w12_14, n12_14, i3_add, i3_sub, i3_mul, i3_neg, i6_add, i6_sub, i6_mul, i6_neg, i3_lt, i3_le, i3_eq, i6_lt, i6_eq, i3_div, i6_div, i6_i3, i3_i6, c6_lt, c6_ge, c6_gt, c6_le, c6_eq, i3_ite, i6_ite, ib_0, ib_z, ite_not, i1_0, i0_0, jB_1, jB_0, jB_ib, bI_v, bL_v, bD_v, bV_v, ob_s, ob_i, i3_ofNat, jx_e, bI_e, bL_e, bD_e, bV_e, i3_eq0, i6_eq0, if_mx, if_mn, if_true, if_false, not_true_eq_false, not_false_eq_true, Int.reduceEq, Int.reduceLT, Int.reduceLE]
  exact hl
theorem mX12_found {a b : Int} (hT : 18 ≤ T) (hc0 : 0 ≤ v 412 0) (hc1 : v 412 0 ≤ 5) (hn : nmOk v) (hu0 : 0 ≤ v 411 7) (hu1 : v 411 7 ≤ 8) (hb0 : 0 ≤ v 411 16) (hb1 : v 411 16 ≤ 600) (hb : ∀ k : Int, 0 ≤ k → k < v 411 16 → 0 ≤ v 420 k ∧ v 420 k ≤ 255) (hw0 : 0 ≤ whF v) (hw1 : whF v < 2147483648) (hai : isI a) (hbi : isI b) : mR (jm_env (d + 4) 283 [.ref 411, .int (i3 a), .int (i3 b)] (qM X v w T c s)) X (if (1 ≤ a ∧ a ≤ 2000) ∧ 1 ≤ b ∧ b ≤ 2000 then fdV v a b else v) T c s (cd1 ((1 ≤ a ∧ a ≤ 2000) ∧ 1 ≤ b ∧ b ≤ 2000)) (fdA v) := by
  obtain ⟨ha0, ha1⟩ := hai
  obtain ⟨hi0, hi1⟩ := hbi
  by_cases g : (1 ≤ a ∧ a ≤ 2000) ∧ 1 ≤ b ∧ b ≤ 2000
  · obtain ⟨⟨g1, g2⟩, g3, g4⟩ := id g
    rw [cd1_0 g, if_pos g]
    apply mR_0
    have hnf : nmF v (whF v) = -1 ∨ (0 ≤ nmF v (whF v) ∧ nmF v (whF v) < 5) := fnd_P (P := fun z => z = -1 ∨ (0 ≤ z ∧ z < 5)) _ 0 (Or.inl rfl) (fun j h1 h2 _ => Or.inr (by omega))
    have hkp := sX12_keepsPast (d := d + 1) (X := X) (v := v) (w := up w 411 8 0) (c := c) (s := s) (a := 412) (g := v 412) hT hu0 hu1 (fun v' e k k0 k1 => by rw [a12_0 hT k0 k1, e])
    have hk0 : kpV v (v 412) 412 = v 412 := kpV_b (by omega) (by omega)
    unfold fdA fdV
    simp (disch := first | assumption | omega) only [eX12_found, bX12_found_0, bX12_found_15, bX12_found_17, bX12_found_35, bX12_found_39, bX12_found_48, bX12_found_50, p12_8, r12_0, a12_0, w12_0, n12_0, p12_16, i3_add, i3_sub, i3_mul, i3_neg, i6_add, i6_sub, i6_mul, i6_neg, i3_lt, i3_le, i3_eq, i6_lt, i6_eq, i3_div, i6_div, i6_i3, i3_i6, c6_lt, c6_ge, c6_gt, c6_le, c6_eq, i3_ite, i6_ite, ib_0, ib_z, ite_not, i1_0, i0_0, jB_1, jB_0, jB_ib, bI_v, bL_v, bD_v, bV_v, ob_s, ob_i, i3_ofNat, jx_e, bI_e, bL_e, bD_e, bV_e, i3_eq0, i6_eq0, if_mx, if_mn, if_true, if_false, not_true_eq_false, not_false_eq_true, Int.reduceEq, Int.reduceLT, Int.reduceLE, sX12_noSides_0, sX12_wholeName, sX12_seriesNamed]
    by_cases k1 : v 412 0 = 5
    · rw [if_pos k1, if_pos (Or.inl k1), if_pos (Or.inl k1)]
      exact ⟨_, rfl, up_eq⟩
    · by_cases k2 : whF v = 0
      · rw [if_neg k1, if_pos k2, if_pos (Or.inr (Or.inl k2)), if_pos (Or.inr (Or.inl k2))]
        exact ⟨_, rfl, up_eq⟩
      · by_cases k3 : nmF v (whF v) = -1
        · rw [if_neg k1, if_neg k2, if_pos k3, if_neg (by omega), if_neg (by omega)]
          have c0 : 0 ≤ kpV v (v 412) 412 0 := by rw [hk0]; exact hc0
          have c1 : kpV v (v 412) 412 0 < 5 := by rw [hk0]; omega
          have c2 : cmV (kpV v (v 412)) (whF v) a b 412 0 = v 412 0 + 1 := by
            unfold cmV
            rw [up_ne (by omega), up_ne (by omega), up_ne (by omega), up_eq, hk0]
          rw [show d + 3 = d + 1 + 2 from rfl, hkp]
          simp (disch := first | assumption | omega) only [eX12_found, bX12_found_0, bX12_found_15, bX12_found_17, bX12_found_35, bX12_found_39, bX12_found_48, bX12_found_50, p12_8, r12_0, a12_0, w12_0, n12_0, p12_16, i3_add, i3_sub, i3_mul, i3_neg, i6_add, i6_sub, i6_mul, i6_neg, i3_lt, i3_le, i3_eq, i6_lt, i6_eq, i3_div, i6_div, i6_i3, i3_i6, c6_lt, c6_ge, c6_gt, c6_le, c6_eq, i3_ite, i6_ite, ib_0, ib_z, ite_not, i1_0, i0_0, jB_1, jB_0, jB_ib, bI_v, bL_v, bD_v, bV_v, ob_s, ob_i, i3_ofNat, jx_e, bI_e, bL_e, bD_e, bV_e, i3_eq0, i6_eq0, if_mx, if_mn, if_true, if_false, not_true_eq_false, not_false_eq_true, Int.reduceEq, Int.reduceLT, Int.reduceLE, sX12_comes, up_ne, c2]
          rw [show v 412 0 + 1 - 1 = v 412 0 by omega]
          exact ⟨_, rfl, up_eq⟩
        · rw [if_neg k1, if_neg k2, if_neg k3, if_pos (Or.inr (Or.inr k3)), if_pos (Or.inr (Or.inr k3))]
          exact ⟨_, rfl, up_eq⟩
  · rw [cd1_1 g, if_neg g]
    apply mR_1 (by decide)
    simp (disch := first | assumption | omega) only [eX12_found, bX12_found_0, bX12_found_15, bX12_found_17, bX12_found_35, bX12_found_39, bX12_found_48, bX12_found_50, p12_8, r12_0, a12_0, w12_0, n12_0, p12_16, i3_add, i3_sub, i3_mul, i3_neg, i6_add, i6_sub, i6_mul, i6_neg, i3_lt, i3_le, i3_eq, i6_lt, i6_eq, i3_div, i6_div, i6_i3, i3_i6, c6_lt, c6_ge, c6_gt, c6_le, c6_eq, i3_ite, i6_ite, ib_0, ib_z, ite_not, i1_0, i0_0, jB_1, jB_0, jB_ib, bI_v, bL_v, bD_v, bV_v, ob_s, ob_i, i3_ofNat, jx_e, bI_e, bL_e, bD_e, bV_e, i3_eq0, i6_eq0, if_mx, if_mn, if_true, if_false, not_true_eq_false, not_false_eq_true, Int.reduceEq, Int.reduceLT, Int.reduceLE, sX12_noSides_1]
    exact ⟨_, _, rfl, up_eq⟩
end MOE
