-- uses 24.zar 25.obj 26.ops 30.rd 31.re 34.gen 38.mod 39.mo2 40.mo3 41.bit 42.mo4 43.mo5 44.mo6 45.mo7 46.mo8
/-! The reference: calls that change. -/
/-- the state behind a change that is refused (its number is below -1), or kept for undo -/
def trV (v : Nat → Int → Int) (r : Int) (u : Nat → Int → Int) : Nat → Int → Int := if r < -1 then up v 418 (r + 7) (v 418 (r + 7) + 1) else kpV u (v 412)
theorem if_V {P : Prop} [Decidable P] {α : Type} {x y : α} (h : P) : (if P then x else y) = x := if_pos h
section MO9
variable {d : Nat} {X : Nat × (Nat → Int32)} {v w : Nat → Int → Int} {T c s : Nat}
theorem sX12_tries (hT : 18 ≤ T) : jm_env (d + 2) 277 [.ref 411] (qM X v w T c s) = some (.inl none, qM X v (fil w 414 (v 412) 167) T c s) := by
  simp (disch := first | assumption | omega) only [eX12_tries, bX12_tries_0, r12_0, a12_0, w12_0, n12_0, r12_2, a12_2, w12_2, n12_2, i3_add, i3_sub, i3_mul, i3_neg, i6_add, i6_sub, i6_mul, i6_neg, i3_lt, i3_le, i3_eq, i6_lt, i6_eq, i3_div, i6_div, i6_i3, i3_i6, c6_lt, c6_ge, c6_gt, c6_le, c6_eq, i3_ite, i6_ite, ib_0, ib_z, ite_not, i1_0, i0_0, jB_1, jB_0, jB_ib, bI_v, bL_v, bD_v, bV_v, ob_s, ob_i, i3_ofNat, jx_e, bI_e, bL_e, bD_e, bV_e, i3_eq0, i6_eq0, if_mx, if_mn, if_true, if_false, not_true_eq_false, not_false_eq_true, Int.reduceEq, Int.reduceLT, Int.reduceLE, cX12_tries]
theorem sX12_tried_0 {a : Int} {g : Int → Int} (hT : 18 ≤ T) (hu0 : 0 ≤ v 411 7) (hu1 : v 411 7 ≤ 8) (h0 : -1 ≤ a) (h1 : a < 2147483648) : jm_env (d + 3) 278 [.ref 411, .int (i3 a)] (qM X v (fil w 414 g 167) T c s) = some (.inl (some (.int (i3 (a)))), qM X (kpV v g) (fil w 414 g 167) T c s) := by
  simp (disch := first | assumption | omega) only [eX12_tried, bX12_tried_0, bX12_tried_5, bX12_tried_21, bX12_tried_29, r12_6, a12_6, w12_6, n12_6, r12_2, a12_2, w12_2, n12_2, i3_add, i3_sub, i3_mul, i3_neg, i6_add, i6_sub, i6_mul, i6_neg, i3_lt, i3_le, i3_eq, i6_lt, i6_eq, i3_div, i6_div, i6_i3, i3_i6, c6_lt, c6_ge, c6_gt, c6_le, c6_eq, i3_ite, i6_ite, ib_0, ib_z, ite_not, i1_0, i0_0, jB_1, jB_0, jB_ib, bI_v, bL_v, bD_v, bV_v, ob_s, ob_i, i3_ofNat, jx_e, bI_e, bL_e, bD_e, bV_e, i3_eq0, i6_eq0, if_mx, if_mn, if_true, if_false, not_true_eq_false, not_false_eq_true, Int.reduceEq, Int.reduceLT, Int.reduceLE]
  rw [if_pos h0, sX12_keepsPast (g := g) hT hu0 hu1 (fun v' _ k k0 k1 => by rw [a12_2 hT k0 k1, fil_in k0 k1])]
  simp (disch := first | assumption | omega) only [eX12_tried, bX12_tried_0, bX12_tried_5, bX12_tried_21, bX12_tried_29, r12_6, a12_6, w12_6, n12_6, r12_2, a12_2, w12_2, n12_2, i3_add, i3_sub, i3_mul, i3_neg, i6_add, i6_sub, i6_mul, i6_neg, i3_lt, i3_le, i3_eq, i6_lt, i6_eq, i3_div, i6_div, i6_i3, i3_i6, c6_lt, c6_ge, c6_gt, c6_le, c6_eq, i3_ite, i6_ite, ib_0, ib_z, ite_not, i1_0, i0_0, jB_1, jB_0, jB_ib, bI_v, bL_v, bD_v, bV_v, ob_s, ob_i, i3_ofNat, jx_e, bI_e, bL_e, bD_e, bV_e, i3_eq0, i6_eq0, if_mx, if_mn, if_true, if_false, not_true_eq_false, not_false_eq_true, Int.reduceEq, Int.reduceLT, Int.reduceLE]
theorem sX12_tried_1 {a : Int} (hT : 18 ≤ T) (h0 : a < -1) (h1 : -7 ≤ a) : jm_env (d + 3) 278 [.ref 411, .int (i3 a)] (qM X v w T c s) = some (.inl (some (.int (i3 (a)))), qM X (up v 418 (a + 7) (v 418 (a + 7) + 1)) w T c s) := by
  simp (disch := first | assumption | omega) only [eX12_tried, bX12_tried_0, bX12_tried_5, bX12_tried_21, bX12_tried_29, r12_6, a12_6, w12_6, n12_6, r12_2, a12_2, w12_2, n12_2, i3_add, i3_sub, i3_mul, i3_neg, i6_add, i6_sub, i6_mul, i6_neg, i3_lt, i3_le, i3_eq, i6_lt, i6_eq, i3_div, i6_div, i6_i3, i3_i6, c6_lt, c6_ge, c6_gt, c6_le, c6_eq, i3_ite, i6_ite, ib_0, ib_z, ite_not, i1_0, i0_0, jB_1, jB_0, jB_ib, bI_v, bL_v, bD_v, bV_v, ob_s, ob_i, i3_ofNat, jx_e, bI_e, bL_e, bD_e, bV_e, i3_eq0, i6_eq0, if_mx, if_mn, if_true, if_false, not_true_eq_false, not_false_eq_true, Int.reduceEq, Int.reduceLT, Int.reduceLE]
  rw [if_neg (by omega)]
theorem byR_b {i n r : Int} (hg : gM v) (hi0 : 0 ≤ i) (hi1 : i < v 412 0) (hn0 : 0 ≤ n) (hn1 : n < 10) (hr : 0 ≤ r * v 412 2) : (byR v i n r < -1 ∧ -7 ≤ byR v i n r) ∨ (0 ≤ byR v i n r ∧ byR v i n r ≤ 9999) := by
  have hk := (hg.2.2.2.2 i hi0 hi1).2 n hn0 hn1
  unfold byR
  (repeat' split) <;> omega
theorem ctR_b {i n q : Int} (hg : gM v) (hi0 : 0 ≤ i) (hi1 : i < v 412 0) (hn0 : 0 ≤ n) (hn1 : n < 10) (hr : 0 ≤ q) : (ctR v i n q < -1 ∧ -7 ≤ ctR v i n q) ∨ (0 ≤ ctR v i n q ∧ ctR v i n q ≤ 9999) := by
  unfold ctR
  split
  · omega
  · have hk := (hg.2.2.2.2 i hi0 hi1).2 (n + 1) (by omega) (by omega)
    (repeat' split) <;> omega
theorem byV_b {i n r : Int} {m : Nat} (h : m ≠ 412) : byV v i n r m = v m := by
  unfold byV
  split
  · rfl
  · rw [up_b h, up_b h, up_b h]
theorem ctV_b {i n r : Int} {m : Nat} (h : m ≠ 412) : ctV v i n r m = v m := by
  unfold ctV
  split
  · rfl
  · rw [up_b h, up_b h, up_b h, up_b h]
theorem mX12_buy {i n r : Int} (hT : 18 ≤ T) (hg : gM v) (hm0 : 1 ≤ v 412 2) (hm1 : v 412 2 ≤ 500) (hu0 : 0 ≤ v 411 7) (hu1 : v 411 7 ≤ 8) (hi : isI i) (hn : isI n) (hr : isI r) : mR (jm_env (d + 6) 284 [.ref 411, .int (i3 i), .int (i3 n), .int (i3 r)] (qM X v w T c s)) X (if ((0 ≤ i ∧ i < v 412 0) ∧ 0 ≤ n ∧ n < 10) ∧ 1 ≤ r ∧ r ≤ 99 then trV v (byR v i n r) (byV v i n r) else v) T c s (cd2 ((0 ≤ i ∧ i < v 412 0) ∧ 0 ≤ n ∧ n < 10) (1 ≤ r ∧ r ≤ 99)) (byR v i n r) := by
  obtain ⟨hr0, hr1⟩ := hr
  obtain ⟨hi0, hi1⟩ := hi
  obtain ⟨hn0, hn1⟩ := hn
  obtain ⟨hc0, hc1, he0, he1, -⟩ := id hg
  by_cases g : (0 ≤ i ∧ i < v 412 0) ∧ 0 ≤ n ∧ n < 10
  · obtain ⟨⟨g1, g2⟩, g3, g4⟩ := id g
    by_cases g' : 1 ≤ r ∧ r ≤ 99
    · obtain ⟨g5, g6⟩ := id g'
      have hx : 0 ≤ r * v 412 2 ∧ r * v 412 2 ≤ 4000000 := mul_b (by omega) (by omega) (by omega) (by omega)
      have hb := byR_b hg g1 g2 g3 g4 hx.1
      rw [cd2_0 g g', if_pos ⟨g, g'⟩]
      apply mR_0
      simp (disch := first | assumption | omega) only [eX12_buy, bX12_buy_0, bX12_buy_14, bX12_buy_27, bX12_buy_31, bX12_buy_32, bX12_buy_39, bX12_buy_41, p12_8, i3_add, i3_sub, i3_mul, i3_neg, i6_add, i6_sub, i6_mul, i6_neg, i3_lt, i3_le, i3_eq, i6_lt, i6_eq, i3_div, i6_div, i6_i3, i3_i6, c6_lt, c6_ge, c6_gt, c6_le, c6_eq, i3_ite, i6_ite, ib_0, ib_z, ite_not, i1_0, i0_0, jB_1, jB_0, jB_ib, bI_v, bL_v, bD_v, bV_v, ob_s, ob_i, i3_ofNat, jx_e, bI_e, bL_e, bD_e, bV_e, i3_eq0, i6_eq0, if_mx, if_mn, if_true, if_false, not_true_eq_false, not_false_eq_true, Int.reduceEq, Int.reduceLT, Int.reduceLE, sX12_noSize_0, sX12_in, sX12_stops_0, sX12_tries, sX12_buys]
      rw [if_pos g', ← fw_fil (by omega)]
      unfold trV
      by_cases q : byR v i n r < -1
      · rw [if_pos q, sX12_tried_1 hT q (by omega)]
        simp (disch := first | assumption | omega) only [eX12_buy, bX12_buy_0, bX12_buy_14, bX12_buy_27, bX12_buy_31, bX12_buy_32, bX12_buy_39, bX12_buy_41, p12_8, i3_add, i3_sub, i3_mul, i3_neg, i6_add, i6_sub, i6_mul, i6_neg, i3_lt, i3_le, i3_eq, i6_lt, i6_eq, i3_div, i6_div, i6_i3, i3_i6, c6_lt, c6_ge, c6_gt, c6_le, c6_eq, i3_ite, i6_ite, ib_0, ib_z, ite_not, i1_0, i0_0, jB_1, jB_0, jB_ib, bI_v, bL_v, bD_v, bV_v, ob_s, ob_i, i3_ofNat, jx_e, bI_e, bL_e, bD_e, bV_e, i3_eq0, i6_eq0, if_mx, if_mn, if_true, if_false, not_true_eq_false, not_false_eq_true, Int.reduceEq, Int.reduceLT, Int.reduceLE]
        rw [show byV v i n r = v from if_pos q]
        exact ⟨_, rfl, by rw [fil_ne (by omega), fw_ne (by omega), up_eq]⟩
      · rw [if_neg q, sX12_tried_0 hT (by rw [byV_b (by omega)]; exact hu0) (by rw [byV_b (by omega)]; exact hu1) (by omega) (by omega)]
        simp (disch := first | assumption | omega) only [eX12_buy, bX12_buy_0, bX12_buy_14, bX12_buy_27, bX12_buy_31, bX12_buy_32, bX12_buy_39, bX12_buy_41, p12_8, i3_add, i3_sub, i3_mul, i3_neg, i6_add, i6_sub, i6_mul, i6_neg, i3_lt, i3_le, i3_eq, i6_lt, i6_eq, i3_div, i6_div, i6_i3, i3_i6, c6_lt, c6_ge, c6_gt, c6_le, c6_eq, i3_ite, i6_ite, ib_0, ib_z, ite_not, i1_0, i0_0, jB_1, jB_0, jB_ib, bI_v, bL_v, bD_v, bV_v, ob_s, ob_i, i3_ofNat, jx_e, bI_e, bL_e, bD_e, bV_e, i3_eq0, i6_eq0, if_mx, if_mn, if_true, if_false, not_true_eq_false, not_false_eq_true, Int.reduceEq, Int.reduceLT, Int.reduceLE]
        exact ⟨_, rfl, by rw [fil_ne (by omega), fw_ne (by omega), up_eq]⟩
    · rw [cd2_2 g g', if_neg (fun q => g' q.2)]
      apply mR_1 (by decide)
      simp (disch := first | assumption | omega) only [eX12_buy, bX12_buy_0, bX12_buy_14, bX12_buy_27, bX12_buy_31, bX12_buy_32, bX12_buy_39, bX12_buy_41, p12_8, i3_add, i3_sub, i3_mul, i3_neg, i6_add, i6_sub, i6_mul, i6_neg, i3_lt, i3_le, i3_eq, i6_lt, i6_eq, i3_div, i6_div, i6_i3, i3_i6, c6_lt, c6_ge, c6_gt, c6_le, c6_eq, i3_ite, i6_ite, ib_0, ib_z, ite_not, i1_0, i0_0, jB_1, jB_0, jB_ib, bI_v, bL_v, bD_v, bV_v, ob_s, ob_i, i3_ofNat, jx_e, bI_e, bL_e, bD_e, bV_e, i3_eq0, i6_eq0, if_mx, if_mn, if_true, if_false, not_true_eq_false, not_false_eq_true, Int.reduceEq, Int.reduceLT, Int.reduceLE, sX12_noSize_0, sX12_in, sX12_stops_1]
      rw [if_neg g']
      exact ⟨_, _, rfl, up_eq⟩
  · rw [cd2_1 g, if_neg (fun q => g q.1)]
    apply mR_1 (by decide)
    simp (disch := first | assumption | omega) only [eX12_buy, bX12_buy_0, bX12_buy_14, bX12_buy_27, bX12_buy_31, bX12_buy_32, bX12_buy_39, bX12_buy_41, p12_8, i3_add, i3_sub, i3_mul, i3_neg, i6_add, i6_sub, i6_mul, i6_neg, i3_lt, i3_le, i3_eq, i6_lt, i6_eq, i3_div, i6_div, i6_i3, i3_i6, c6_lt, c6_ge, c6_gt, c6_le, c6_eq, i3_ite, i6_ite, ib_0, ib_z, ite_not, i1_0, i0_0, jB_1, jB_0, jB_ib, bI_v, bL_v, bD_v, bV_v, ob_s, ob_i, i3_ofNat, jx_e, bI_e, bL_e, bD_e, bV_e, i3_eq0, i6_eq0, if_mx, if_mn, if_true, if_false, not_true_eq_false, not_false_eq_true, Int.reduceEq, Int.reduceLT, Int.reduceLE, sX12_noSize_1]
    exact ⟨_, _, rfl, up_eq⟩
theorem mX12_cut {i n r : Int} (hT : 18 ≤ T) (hg : gM v) (hu0 : 0 ≤ v 411 7) (hu1 : v 411 7 ≤ 8) (hi : isI i) (hn : isI n) (hr : isI r) : mR (jm_env (d + 7) 285 [.ref 411, .int (i3 i), .int (i3 n), .int (i3 r)] (qM X v w T c s)) X (if ((0 ≤ i ∧ i < v 412 0) ∧ 0 ≤ n ∧ n < 10) ∧ 1 ≤ r ∧ r ≤ 9999 then trV v (ctR v i n r) (ctV v i n r) else v) T c s (cd2 ((0 ≤ i ∧ i < v 412 0) ∧ 0 ≤ n ∧ n < 10) (1 ≤ r ∧ r ≤ 9999)) (ctR v i n r) := by
  obtain ⟨hr0, hr1⟩ := hr
  obtain ⟨hi0, hi1⟩ := hi
  obtain ⟨hn0, hn1⟩ := hn
  obtain ⟨hc0, hc1, he0, he1, -⟩ := id hg
  by_cases g : (0 ≤ i ∧ i < v 412 0) ∧ 0 ≤ n ∧ n < 10
  · obtain ⟨⟨g1, g2⟩, g3, g4⟩ := id g
    by_cases g' : 1 ≤ r ∧ r ≤ 9999
    · obtain ⟨g5, g6⟩ := id g'
      have hb := ctR_b (q := r) hg g1 g2 g3 g4 (by omega)
      rw [cd2_0 g g', if_pos ⟨g, g'⟩]
      apply mR_0
      simp (disch := first | assumption | omega) only [eX12_cut, bX12_cut_0, bX12_cut_14, bX12_cut_27, bX12_cut_31, bX12_cut_32, bX12_cut_39, bX12_cut_41, p12_8, i3_add, i3_sub, i3_mul, i3_neg, i6_add, i6_sub, i6_mul, i6_neg, i3_lt, i3_le, i3_eq, i6_lt, i6_eq, i3_div, i6_div, i6_i3, i3_i6, c6_lt, c6_ge, c6_gt, c6_le, c6_eq, i3_ite, i6_ite, ib_0, ib_z, ite_not, i1_0, i0_0, jB_1, jB_0, jB_ib, bI_v, bL_v, bD_v, bV_v, ob_s, ob_i, i3_ofNat, jx_e, bI_e, bL_e, bD_e, bV_e, i3_eq0, i6_eq0, if_mx, if_mn, if_true, if_false, not_true_eq_false, not_false_eq_true, Int.reduceEq, Int.reduceLT, Int.reduceLE, sX12_noSize_0, sX12_in, sX12_stops_0, sX12_tries, sX12_cuts]
      rw [if_pos g', ← fw_fil (by omega)]
      unfold trV
      by_cases q : ctR v i n r < -1
      · rw [if_pos q, sX12_tried_1 hT q (by omega)]
        simp (disch := first | assumption | omega) only [eX12_cut, bX12_cut_0, bX12_cut_14, bX12_cut_27, bX12_cut_31, bX12_cut_32, bX12_cut_39, bX12_cut_41, p12_8, i3_add, i3_sub, i3_mul, i3_neg, i6_add, i6_sub, i6_mul, i6_neg, i3_lt, i3_le, i3_eq, i6_lt, i6_eq, i3_div, i6_div, i6_i3, i3_i6, c6_lt, c6_ge, c6_gt, c6_le, c6_eq, i3_ite, i6_ite, ib_0, ib_z, ite_not, i1_0, i0_0, jB_1, jB_0, jB_ib, bI_v, bL_v, bD_v, bV_v, ob_s, ob_i, i3_ofNat, jx_e, bI_e, bL_e, bD_e, bV_e, i3_eq0, i6_eq0, if_mx, if_mn, if_true, if_false, not_true_eq_false, not_false_eq_true, Int.reduceEq, Int.reduceLT, Int.reduceLE]
        rw [show ctV v i n r = v from if_pos q]
        exact ⟨_, rfl, by rw [fil_ne (by omega), fw_ne (by omega), up_eq]⟩
      · rw [if_neg q, sX12_tried_0 hT (by rw [ctV_b (by omega)]; exact hu0) (by rw [ctV_b (by omega)]; exact hu1) (by omega) (by omega)]
        simp (disch := first | assumption | omega) only [eX12_cut, bX12_cut_0, bX12_cut_14, bX12_cut_27, bX12_cut_31, bX12_cut_32, bX12_cut_39, bX12_cut_41, p12_8, i3_add, i3_sub, i3_mul, i3_neg, i6_add, i6_sub, i6_mul, i6_neg, i3_lt, i3_le, i3_eq, i6_lt, i6_eq, i3_div, i6_div, i6_i3, i3_i6, c6_lt, c6_ge, c6_gt, c6_le, c6_eq, i3_ite, i6_ite, ib_0, ib_z, ite_not, i1_0, i0_0, jB_1, jB_0, jB_ib, bI_v, bL_v, bD_v, bV_v, ob_s, ob_i, i3_ofNat, jx_e, bI_e, bL_e, bD_e, bV_e, i3_eq0, i6_eq0, if_mx, if_mn, if_true, if_false, not_true_eq_false, not_false_eq_true, Int.reduceEq, Int.reduceLT, Int.reduceLE]
        exact ⟨_, rfl, by rw [fil_ne (by omega), fw_ne (by omega), up_eq]⟩
    · rw [cd2_2 g g', if_neg (fun q => g' q.2)]
      apply mR_1 (by decide)
      simp (disch := first | assumption | omega) only [eX12_cut, bX12_cut_0, bX12_cut_14, bX12_cut_27, bX12_cut_31, bX12_cut_32, bX12_cut_39, bX12_cut_41, p12_8, i3_add, i3_sub, i3_mul, i3_neg, i6_add, i6_sub, i6_mul, i6_neg, i3_lt, i3_le, i3_eq, i6_lt, i6_eq, i3_div, i6_div, i6_i3, i3_i6, c6_lt, c6_ge, c6_gt, c6_le, c6_eq, i3_ite, i6_ite, ib_0, ib_z, ite_not, i1_0, i0_0, jB_1, jB_0, jB_ib, bI_v, bL_v, bD_v, bV_v, ob_s, ob_i, i3_ofNat, jx_e, bI_e, bL_e, bD_e, bV_e, i3_eq0, i6_eq0, if_mx, if_mn, if_true, if_false, not_true_eq_false, not_false_eq_true, Int.reduceEq, Int.reduceLT, Int.reduceLE, sX12_noSize_0, sX12_in, sX12_stops_1]
      rw [if_neg g']
      exact ⟨_, _, rfl, up_eq⟩
  · rw [cd2_1 g, if_neg (fun q => g q.1)]
    apply mR_1 (by decide)
    simp (disch := first | assumption | omega) only [eX12_cut, bX12_cut_0, bX12_cut_14, bX12_cut_27, bX12_cut_31, bX12_cut_32, bX12_cut_39, bX12_cut_41, p12_8, i3_add, i3_sub, i3_mul, i3_neg, i6_add, i6_sub, i6_mul, i6_neg, i3_lt, i3_le, i3_eq, i6_lt, i6_eq, i3_div, i6_div, i6_i3, i3_i6, c6_lt, c6_ge, c6_gt, c6_le, c6_eq, i3_ite, i6_ite, ib_0, ib_z, ite_not, i1_0, i0_0, jB_1, jB_0, jB_ib, bI_v, bL_v, bD_v, bV_v, ob_s, ob_i, i3_ofNat, jx_e, bI_e, bL_e, bD_e, bV_e, i3_eq0, i6_eq0, if_mx, if_mn, if_true, if_false, not_true_eq_false, not_false_eq_true, Int.reduceEq, Int.reduceLT, Int.reduceLE, sX12_noSize_1]
    exact ⟨_, _, rfl, up_eq⟩
theorem mX12_setEdge {e : Int} (hT : 18 ≤ T) (he0 : 0 ≤ v 412 1) (he1 : v 412 1 ≤ 50) (hu0 : 0 ≤ v 411 7) (hu1 : v 411 7 ≤ 8) (he : isI e) : mR (jm_env (d + 4) 288 [.ref 411, .int (i3 e)] (qM X v w T c s)) X (if 0 ≤ e ∧ e ≤ 50 then kpV (up v 412 1 e) (v 412) else v) T c s (cd1 (0 ≤ e ∧ e ≤ 50)) (v 412 1) := by
  obtain ⟨h0, h1⟩ := he
  by_cases g : 0 ≤ e ∧ e ≤ 50
  · rw [cd1_0 g, if_pos g]
    apply mR_0
    have e0 : 0 ≤ up v 412 1 e 411 7 := by rw [up_ne (by omega)]; exact hu0
    have e1 : up v 412 1 e 411 7 ≤ 8 := by rw [up_ne (by omega)]; exact hu1
    simp (disch := first | assumption | omega) only [eX12_setEdge, bX12_setEdge_0, bX12_setEdge_18, bX12_setEdge_22, bX12_setEdge_23, bX12_setEdge_30, bX12_setEdge_32, p12_8, i3_add, i3_sub, i3_mul, i3_neg, i6_add, i6_sub, i6_mul, i6_neg, i3_lt, i3_le, i3_eq, i6_lt, i6_eq, i3_div, i6_div, i6_i3, i3_i6, c6_lt, c6_ge, c6_gt, c6_le, c6_eq, i3_ite, i6_ite, ib_0, ib_z, ite_not, i1_0, i0_0, jB_1, jB_0, jB_ib, bI_v, bL_v, bD_v, bV_v, ob_s, ob_i, i3_ofNat, jx_e, bI_e, bL_e, bD_e, bV_e, i3_eq0, i6_eq0, if_mx, if_mn, if_true, if_false, not_true_eq_false, not_false_eq_true, Int.reduceEq, Int.reduceLT, Int.reduceLE, sX12_in, sX12_stops_0, sX12_tries, sX12_sets, sX12_tried_0]
    rw [if_pos g]
    exact ⟨_, rfl, by rw [fil_ne (by omega), up_eq]⟩
  · rw [cd1_1 g, if_neg g]
    apply mR_1 (by decide)
    simp (disch := first | assumption | omega) only [eX12_setEdge, bX12_setEdge_0, bX12_setEdge_18, bX12_setEdge_22, bX12_setEdge_23, bX12_setEdge_30, bX12_setEdge_32, p12_8, i3_add, i3_sub, i3_mul, i3_neg, i6_add, i6_sub, i6_mul, i6_neg, i3_lt, i3_le, i3_eq, i6_lt, i6_eq, i3_div, i6_div, i6_i3, i3_i6, c6_lt, c6_ge, c6_gt, c6_le, c6_eq, i3_ite, i6_ite, ib_0, ib_z, ite_not, i1_0, i0_0, jB_1, jB_0, jB_ib, bI_v, bL_v, bD_v, bV_v, ob_s, ob_i, i3_ofNat, jx_e, bI_e, bL_e, bD_e, bV_e, i3_eq0, i6_eq0, if_mx, if_mn, if_true, if_false, not_true_eq_false, not_false_eq_true, Int.reduceEq, Int.reduceLT, Int.reduceLE, sX12_in, sX12_stops_1]
    rw [if_neg g]
    exact ⟨_, _, rfl, up_eq⟩
theorem mX12_setReam {e : Int} (hT : 18 ≤ T) (he0 : 1 ≤ v 412 2) (he1 : v 412 2 ≤ 500) (hu0 : 0 ≤ v 411 7) (hu1 : v 411 7 ≤ 8) (he : isI e) : mR (jm_env (d + 4) 289 [.ref 411, .int (i3 e)] (qM X v w T c s)) X (if 1 ≤ e ∧ e ≤ 500 then kpV (up v 412 2 e) (v 412) else v) T c s (cd1 (1 ≤ e ∧ e ≤ 500)) (v 412 2) := by
  obtain ⟨h0, h1⟩ := he
  by_cases g : 1 ≤ e ∧ e ≤ 500
  · rw [cd1_0 g, if_pos g]
    apply mR_0
    have e0 : 0 ≤ up v 412 2 e 411 7 := by rw [up_ne (by omega)]; exact hu0
    have e1 : up v 412 2 e 411 7 ≤ 8 := by rw [up_ne (by omega)]; exact hu1
    simp (disch := first | assumption | omega) only [eX12_setReam, bX12_setReam_0, bX12_setReam_18, bX12_setReam_22, bX12_setReam_23, bX12_setReam_30, bX12_setReam_32, p12_8, i3_add, i3_sub, i3_mul, i3_neg, i6_add, i6_sub, i6_mul, i6_neg, i3_lt, i3_le, i3_eq, i6_lt, i6_eq, i3_div, i6_div, i6_i3, i3_i6, c6_lt, c6_ge, c6_gt, c6_le, c6_eq, i3_ite, i6_ite, ib_0, ib_z, ite_not, i1_0, i0_0, jB_1, jB_0, jB_ib, bI_v, bL_v, bD_v, bV_v, ob_s, ob_i, i3_ofNat, jx_e, bI_e, bL_e, bD_e, bV_e, i3_eq0, i6_eq0, if_mx, if_mn, if_true, if_false, not_true_eq_false, not_false_eq_true, Int.reduceEq, Int.reduceLT, Int.reduceLE, sX12_in, sX12_stops_0, sX12_tries, sX12_sets, sX12_tried_0]
    rw [if_pos g]
    exact ⟨_, rfl, by rw [fil_ne (by omega), up_eq]⟩
  · rw [cd1_1 g, if_neg g]
    apply mR_1 (by decide)
    simp (disch := first | assumption | omega) only [eX12_setReam, bX12_setReam_0, bX12_setReam_18, bX12_setReam_22, bX12_setReam_23, bX12_setReam_30, bX12_setReam_32, p12_8, i3_add, i3_sub, i3_mul, i3_neg, i6_add, i6_sub, i6_mul, i6_neg, i3_lt, i3_le, i3_eq, i6_lt, i6_eq, i3_div, i6_div, i6_i3, i3_i6, c6_lt, c6_ge, c6_gt, c6_le, c6_eq, i3_ite, i6_ite, ib_0, ib_z, ite_not, i1_0, i0_0, jB_1, jB_0, jB_ib, bI_v, bL_v, bD_v, bV_v, ob_s, ob_i, i3_ofNat, jx_e, bI_e, bL_e, bD_e, bV_e, i3_eq0, i6_eq0, if_mx, if_mn, if_true, if_false, not_true_eq_false, not_false_eq_true, Int.reduceEq, Int.reduceLT, Int.reduceLE, sX12_in, sX12_stops_1]
    rw [if_neg g]
    exact ⟨_, _, rfl, up_eq⟩
theorem mX12_truncate {k : Int} (hT : 18 ≤ T) (hb0 : 0 ≤ v 411 16) (hb1 : v 411 16 ≤ 600) (hk : isI k) : mR (jm_env (d + 2) 241 [.ref 411, .int (i3 k)] (qM X v w T c s)) X (if 0 ≤ k ∧ k ≤ v 411 16 then up v 411 16 k else v) T c s (cd1 (0 ≤ k ∧ k ≤ v 411 16)) k := by
  obtain ⟨h0, h1⟩ := hk
  by_cases g : 0 ≤ k ∧ k ≤ v 411 16
  · rw [cd1_0 g, if_pos g]
    apply mR_0
    simp (disch := first | assumption | omega) only [eX12_truncate, bX12_truncate_0, bX12_truncate_20, bX12_truncate_24, bX12_truncate_25, bX12_truncate_32, bX12_truncate_34, p12_8, g12_16, p12_16, i3_add, i3_sub, i3_mul, i3_neg, i6_add, i6_sub, i6_mul, i6_neg, i3_lt, i3_le, i3_eq, i6_lt, i6_eq, i3_div, i6_div, i6_i3, i3_i6, c6_lt, c6_ge, c6_gt, c6_le, c6_eq, i3_ite, i6_ite, ib_0, ib_z, ite_not, i1_0, i0_0, jB_1, jB_0, jB_ib, bI_v, bL_v, bD_v, bV_v, ob_s, ob_i, i3_ofNat, jx_e, bI_e, bL_e, bD_e, bV_e, i3_eq0, i6_eq0, if_mx, if_mn, if_true, if_false, not_true_eq_false, not_false_eq_true, Int.reduceEq, Int.reduceLT, Int.reduceLE, sX12_in, sX12_stops_0]
    rw [if_pos g]
    exact ⟨_, rfl, up_eq⟩
  · rw [cd1_1 g, if_neg g]
    apply mR_1 (by decide)
    simp (disch := first | assumption | omega) only [eX12_truncate, bX12_truncate_0, bX12_truncate_20, bX12_truncate_24, bX12_truncate_25, bX12_truncate_32, bX12_truncate_34, p12_8, g12_16, p12_16, i3_add, i3_sub, i3_mul, i3_neg, i6_add, i6_sub, i6_mul, i6_neg, i3_lt, i3_le, i3_eq, i6_lt, i6_eq, i3_div, i6_div, i6_i3, i3_i6, c6_lt, c6_ge, c6_gt, c6_le, c6_eq, i3_ite, i6_ite, ib_0, ib_z, ite_not, i1_0, i0_0, jB_1, jB_0, jB_ib, bI_v, bL_v, bD_v, bV_v, ob_s, ob_i, i3_ofNat, jx_e, bI_e, bL_e, bD_e, bV_e, i3_eq0, i6_eq0, if_mx, if_mn, if_true, if_false, not_true_eq_false, not_false_eq_true, Int.reduceEq, Int.reduceLT, Int.reduceLE, sX12_in, sX12_stops_1]
    rw [if_neg g]
    exact ⟨_, _, rfl, up_eq⟩
/-- a byte behind the buffer -/
def apV (v : Nat → Int → Int) (z : Int) : Nat → Int → Int := up (up v 420 (v 411 16) z) 411 16 (v 411 16 + 1)
def fourV (v : Nat → Int → Int) (z : Int) : Nat → Int → Int := apV (apV (apV (apV v (by8 z 24)) (by8 z 16)) (by8 z 8)) (by8 z 0)
theorem apV_n (z : Int) : apV v z 411 16 = v 411 16 + 1 := up_eq
theorem fourV_n (z : Int) : fourV v z 411 16 = v 411 16 + 4 := by
  unfold fourV
  rw [apV_n, apV_n, apV_n, apV_n]
  omega
theorem sX12_four {z : Int} (hT : 18 ≤ T) (h0 : -2147483648 ≤ z) (h1 : z < 2147483648) (hb0 : 0 ≤ v 411 16) (hb1 : v 411 16 ≤ 596) : jm_env (d + 1) 239 [.ref 411, .int (i3 z)] (qM X v w T c s) = some (.inl none, qM X (fourV v z) w T c s) := by
  have hs : ∀ (n : Nat) (u : Nat → Int → Int), n < 25 → 0 ≤ u 411 16 → u 411 16 ≤ 599 → jm_R (jm_env d) jmM_X12_four 3 [some (.ref 411), some (.int (i3 z)), some (.int (i3 n))] [] (qM X u w T c s) = jm_R (jm_env d) jmM_X12_four 3 [some (.ref 411), some (.int (i3 z)), some (.int (i3 ((n : Int) - 8)))] [] (qM X (apV u (by8 z n)) w T c s) := by
    intro n u hn hu0 hu1
    rw [bX12_four_3]
    simp (disch := first | assumption | omega) only [eX12_four, bX12_four_0, bX12_four_7, bX12_four_39, r12_14, a12_14, w12_14, n12_14, g12_16, p12_16, i3_add, i3_sub, i3_mul, i3_neg, i6_add, i6_sub, i6_mul, i6_neg, i3_lt, i3_le, i3_eq, i6_lt, i6_eq, i3_div, i6_div, i6_i3, i3_i6, c6_lt, c6_ge, c6_gt, c6_le, c6_eq, i3_ite, i6_ite, ib_0, ib_z, ite_not, i1_0, i0_0, jB_1, jB_0, jB_ib, bI_v, bL_v, bD_v, bV_v, ob_s, ob_i, i3_ofNat, jx_e, bI_e, bL_e, bD_e, bV_e, i3_eq0, i6_eq0, if_mx, if_mn, if_true, if_false, not_true_eq_false, not_false_eq_true, Int.reduceEq, Int.reduceLT, Int.reduceLE, i3_s8, up_ne]
    rw [if_neg (by omega)]
    rfl
  simp (disch := first | assumption | omega) only [eX12_four, bX12_four_0, bX12_four_7, bX12_four_39, r12_14, a12_14, w12_14, n12_14, g12_16, p12_16, i3_add, i3_sub, i3_mul, i3_neg, i6_add, i6_sub, i6_mul, i6_neg, i3_lt, i3_le, i3_eq, i6_lt, i6_eq, i3_div, i6_div, i6_i3, i3_i6, c6_lt, c6_ge, c6_gt, c6_le, c6_eq, i3_ite, i6_ite, ib_0, ib_z, ite_not, i1_0, i0_0, jB_1, jB_0, jB_ib, bI_v, bL_v, bD_v, bV_v, ob_s, ob_i, i3_ofNat, jx_e, bI_e, bL_e, bD_e, bV_e, i3_eq0, i6_eq0, if_mx, if_mn, if_true, if_false, not_true_eq_false, not_false_eq_true, Int.reduceEq, Int.reduceLT, Int.reduceLE]
  refine Eq.trans (hs 24 v (by omega) hb0 (by omega)) ?_
  refine Eq.trans (hs 16 _ (by omega) (by rw [apV_n]; omega) (by rw [apV_n]; omega)) ?_
  refine Eq.trans (hs 8 _ (by omega) (by rw [apV_n, apV_n]; omega) (by rw [apV_n, apV_n]; omega)) ?_
  refine Eq.trans (hs 0 _ (by omega) (by rw [apV_n, apV_n, apV_n]; omega) (by rw [apV_n, apV_n, apV_n]; omega)) ?_
  rw [bX12_four_3]
  simp (disch := first | assumption | omega) only [eX12_four, bX12_four_0, bX12_four_7, bX12_four_39, r12_14, a12_14, w12_14, n12_14, g12_16, p12_16, i3_add, i3_sub, i3_mul, i3_neg, i6_add, i6_sub, i6_mul, i6_neg, i3_lt, i3_le, i3_eq, i6_lt, i6_eq, i3_div, i6_div, i6_i3, i3_i6, c6_lt, c6_ge, c6_gt, c6_le, c6_eq, i3_ite, i6_ite, ib_0, ib_z, ite_not, i1_0, i0_0, jB_1, jB_0, jB_ib, bI_v, bL_v, bD_v, bV_v, ob_s, ob_i, i3_ofNat, jx_e, bI_e, bL_e, bD_e, bV_e, i3_eq0, i6_eq0, if_mx, if_mn, if_true, if_false, not_true_eq_false, not_false_eq_true, Int.reduceEq, Int.reduceLT, Int.reduceLE]
  rw [if_pos (by omega)]
  rfl
def twV (v : Nat → Int → Int) (a b e f g : Int) : Nat → Int → Int := fourV (fourV (fourV (fourV (fourV v a) b) e) f) g
theorem mX12_append {a b e f g : Int} (hT : 18 ≤ T) (hb0 : 0 ≤ v 411 16) (hb1 : v 411 16 ≤ 600) (ha : isI a) (hb : isI b) (he : isI e) (hf : isI f) (hg : isI g) : mR (jm_env (d + 2) 240 [.ref 411, .int (i3 a), .int (i3 b), .int (i3 e), .int (i3 f), .int (i3 g)] (qM X v w T c s)) X (if v 411 16 ≤ 580 then twV v a b e f g else v) T c s (cd1 (v 411 16 ≤ 580)) (v 411 16 + 20) := by
  obtain ⟨a0, a1⟩ := ha
  obtain ⟨b0, b1⟩ := hb
  obtain ⟨e0, e1⟩ := he
  obtain ⟨f0, f1⟩ := hf
  obtain ⟨g0, g1⟩ := hg
  by_cases q : v 411 16 ≤ 580
  · rw [cd1_0 q, if_pos q]
    apply mR_0
    have q1 : ¬ 600 < v 411 16 + 20 := by omega
    have k1 : fourV v a 411 16 = v 411 16 + 4 := fourV_n a
    have k2 : fourV (fourV v a) b 411 16 = v 411 16 + 8 := by rw [fourV_n, k1]; omega
    have k3 : fourV (fourV (fourV v a) b) e 411 16 = v 411 16 + 12 := by rw [fourV_n, k2]; omega
    have k4 : fourV (fourV (fourV (fourV v a) b) e) f 411 16 = v 411 16 + 16 := by rw [fourV_n, k3]; omega
    have k5 : fourV (fourV (fourV (fourV (fourV v a) b) e) f) g 411 16 = v 411 16 + 20 := by rw [fourV_n, k4]; omega
    simp (disch := first | assumption | omega) only [eX12_append, bX12_append_0, bX12_append_19, bX12_append_23, bX12_append_24, bX12_append_31, bX12_append_33, p12_8, g12_16, i3_add, i3_sub, i3_mul, i3_neg, i6_add, i6_sub, i6_mul, i6_neg, i3_lt, i3_le, i3_eq, i6_lt, i6_eq, i3_div, i6_div, i6_i3, i3_i6, c6_lt, c6_ge, c6_gt, c6_le, c6_eq, i3_ite, i6_ite, ib_0, ib_z, ite_not, i1_0, i0_0, jB_1, jB_0, jB_ib, bI_v, bL_v, bD_v, bV_v, ob_s, ob_i, i3_ofNat, jx_e, bI_e, bL_e, bD_e, bV_e, i3_eq0, i6_eq0, if_mx, if_mn, if_true, if_false, not_true_eq_false, not_false_eq_true, Int.reduceEq, Int.reduceLT, Int.reduceLE, sX12_stops_0, sX12_four, k5]
    rw [if_pos (by omega)]
    exact ⟨_, rfl, up_eq⟩
  · rw [cd1_1 q, if_neg q]
    apply mR_1 (by decide)
    simp (disch := first | assumption | omega) only [eX12_append, bX12_append_0, bX12_append_19, bX12_append_23, bX12_append_24, bX12_append_31, bX12_append_33, p12_8, g12_16, i3_add, i3_sub, i3_mul, i3_neg, i6_add, i6_sub, i6_mul, i6_neg, i3_lt, i3_le, i3_eq, i6_lt, i6_eq, i3_div, i6_div, i6_i3, i3_i6, c6_lt, c6_ge, c6_gt, c6_le, c6_eq, i3_ite, i6_ite, ib_0, ib_z, ite_not, i1_0, i0_0, jB_1, jB_0, jB_ib, bI_v, bL_v, bD_v, bV_v, ob_s, ob_i, i3_ofNat, jx_e, bI_e, bL_e, bD_e, bV_e, i3_eq0, i6_eq0, if_mx, if_mn, if_true, if_false, not_true_eq_false, not_false_eq_true, Int.reduceEq, Int.reduceLT, Int.reduceLE, sX12_stops_1]
    rw [if_neg (by omega)]
    exact ⟨_, _, rfl, up_eq⟩
end MO9
