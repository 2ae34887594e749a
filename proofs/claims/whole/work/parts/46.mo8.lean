-- uses 24.zar 25.obj 26.ops 30.rd 31.re 34.gen 38.mod 39.mo2 40.mo3 41.bit 42.mo4 43.mo5 45.mo7
/-! The reference: changes. -/
theorem szM_up {v : Nat → Int → Int} {k z i n : Int} (h : k ≠ 12 + 13 * i + 1 ∧ k ≠ 12 + 13 * i + 2) : szM (up v 412 k z) i n = szM v i n := by
  unfold szM
  rw [up_ne (by omega), up_ne (by omega)]
theorem aM_up {v : Nat → Int → Int} {k z i n : Int} (h : k ≠ 12 + 13 * i + 1 ∧ k ≠ 12 + 13 * i + 2) : aM (up v 412 k z) i n = aM v i n := by
  unfold aM
  rw [szM_up h]
theorem oM_up {v : Nat → Int → Int} {k z i : Int} (h : oM v i) (h2 : k ≠ 12 + 13 * i + 1 ∧ k ≠ 12 + 13 * i + 2) : oM (up v 412 k z) i := by
  unfold oM at h ⊢
  rw [up_ne (by omega), up_ne (by omega)]
  exact h
/-- the reference's answer, and its numbers behind it, of a change -/
def byR (v : Nat → Int → Int) (i n r : Int) : Int := if 10 ≤ n ∨ aM v i n = 0 then -3 else if 9999 < kM v i n + r * v 412 2 then -5 else kM v i n + r * v 412 2
def byV (v : Nat → Int → Int) (i n r : Int) : Nat → Int → Int := if byR v i n r < -1 then v else up (up (up v 412 (12 + 13 * i + 3 + n) (kM v i n + r * v 412 2)) 412 4 (v 412 4 + r * v 412 2 * aM v i n)) 412 11 (v 412 11 + r)
def ctR (v : Nat → Int → Int) (i n q : Int) : Int := if (10 ≤ n ∨ aM v i n = 0) ∨ (10 ≤ n + 1 ∨ aM v i (n + 1) = 0) then -3 else if kM v i n < q then -4 else if 9999 < kM v i (n + 1) + 2 * q then -5 else kM v i (n + 1) + 2 * q
def ctV (v : Nat → Int → Int) (i n q : Int) : Nat → Int → Int := if ctR v i n q < -1 then v else up (up (up (up v 412 (12 + 13 * i + 3 + n) (kM v i n - q)) 412 (12 + 13 * i + 3 + (n + 1)) (kM v i (n + 1) + 2 * q)) 412 7 (v 412 7 + q * (aM v i n - 2 * aM v i (n + 1)))) 412 8 (v 412 8 + q)
section MO8
variable {d : Nat} {X : Nat × (Nat → Int32)} {v w : Nat → Int → Int} {T c s : Nat}
theorem sX12_buys_p {i n r : Int} (hT : 18 ≤ T) (hg : gM v) (hi0 : 0 ≤ i) (hi1 : i < v 412 0) (hn0 : 0 ≤ n) (hn1 : n < 10) (hr0 : 1 ≤ r) (hr1 : r ≤ 99) (hm0 : 1 ≤ v 412 2) (hm1 : v 412 2 ≤ 500) : ∃ p, jm_env (d + 5) 236 [.ref 411, .int (i3 i), .int (i3 n), .int (i3 r)] (qM X v w T c s) = some (.inl (some (.int (i3 (byR v i n r)))), qM X (byV v i n r) (fw w p) T c s) := by
  obtain ⟨hc0, hc1, he0, he1, -⟩ := id hg
  have hi2 : i < 5 := by omega
  have ho := hg.o hi0 hi1
  have hk : 0 ≤ v 412 (12 + 13 * i + 3 + n) ∧ v 412 (12 + 13 * i + 3 + n) ≤ 9999 := (hg.2.2.2.2 i hi0 hi1).2 n hn0 hn1
  have hx : 0 ≤ r * v 412 2 ∧ r * v 412 2 ≤ 4000000 := mul_b (by omega) (by omega) (by omega) (by omega)
  have hn2 : n < 2147483647 := by omega
  simp (disch := first | assumption | omega | (repeat (first | assumption | refine oM_up ?_ (by omega)))) only [eX12_buys, bX12_buys_0, bX12_buys_9, bX12_buys_12, bX12_buys_43, bX12_buys_46, r12_0, a12_0, w12_0, n12_0, i3_add, i3_sub, i3_mul, i3_neg, i6_add, i6_sub, i6_mul, i6_neg, i3_lt, i3_le, i3_eq, i6_lt, i6_eq, i3_div, i6_div, i6_i3, i3_i6, c6_lt, c6_ge, c6_gt, c6_le, c6_eq, i3_ite, i6_ite, ib_0, ib_z, ite_not, i1_0, i0_0, jB_1, jB_0, jB_ib, bI_v, bL_v, bD_v, bV_v, ob_s, ob_i, i3_ofNat, jx_e, bI_e, bL_e, bD_e, bV_e, i3_eq0, i6_eq0, if_mx, if_mn, if_true, if_false, not_true_eq_false, not_false_eq_true, Int.reduceEq, Int.reduceLT, Int.reduceLE, sX12_isVoid, sX12_stackAt, sX12_areaOf, up_ne, up_eq, aM_up, szM_up, fw_fw]
  by_cases q : 10 ≤ n ∨ aM v i n = 0
  · have e : byR v i n r = -3 := if_pos q
    rw [if_pos q, e, show byV v i n r = v from if_pos (by omega)]
    exact ⟨_, rfl⟩
  · rw [if_neg q]
    by_cases q2 : 9999 < kM v i n + r * v 412 2
    · have e : byR v i n r = -5 := (if_neg q).trans (if_pos q2)
      rw [if_neg (by unfold kM at q2; omega), e, show byV v i n r = v from if_pos (by omega)]
      exact ⟨_, rfl⟩
    · have e : byR v i n r = kM v i n + r * v 412 2 := (if_neg q).trans (if_neg q2)
      rw [if_pos (by unfold kM at q2; omega), e, show byV v i n r = _ from if_neg (by unfold kM at e; omega)]
      exact ⟨_, rfl⟩
theorem sX12_buys {i n r : Int} (hT : 18 ≤ T) (hg : gM v) (hi0 : 0 ≤ i) (hi1 : i < v 412 0) (hn0 : 0 ≤ n) (hn1 : n < 10) (hr0 : 1 ≤ r) (hr1 : r ≤ 99) (hm0 : 1 ≤ v 412 2) (hm1 : v 412 2 ≤ 500) : jm_env (d + 5) 236 [.ref 411, .int (i3 i), .int (i3 n), .int (i3 r)] (qM X v w T c s) = some (.inl (some (.int (i3 (byR v i n r)))), qM X (byV v i n r) (fw w (pq (hid (d + 5) 236 [.ref 411, .int (i3 i), .int (i3 n), .int (i3 r)] (qM X v w T c s)) X (byV v i n r) w T c s)) T c s) := pq_eq (sX12_buys_p hT hg hi0 hi1 hn0 hn1 hr0 hr1 hm0 hm1)

theorem sX12_cuts_p {i n q : Int} (hT : 18 ≤ T) (hg : gM v) (hi0 : 0 ≤ i) (hi1 : i < v 412 0) (hn0 : 0 ≤ n) (hn1 : n < 10) (hr0 : 1 ≤ q) (hr1 : q ≤ 9999) : ∃ p, jm_env (d + 6) 237 [.ref 411, .int (i3 i), .int (i3 n), .int (i3 q)] (qM X v w T c s) = some (.inl (some (.int (i3 (ctR v i n q)))), qM X (ctV v i n q) (fw w p) T c s) := by
  obtain ⟨hc0, hc1, he0, he1, -⟩ := id hg
  have hi2 : i < 5 := by omega
  have ho := hg.o hi0 hi1
  have hk : 0 ≤ v 412 (12 + 13 * i + 3 + n) ∧ v 412 (12 + 13 * i + 3 + n) ≤ 9999 := (hg.2.2.2.2 i hi0 hi1).2 n hn0 hn1
  have hn2 : n < 2147483646 := by omega
  simp (disch := first | assumption | omega | (repeat (first | assumption | refine oM_up ?_ (by omega)))) only [eX12_cuts, bX12_cuts_0, bX12_cuts_9, bX12_cuts_12, bX12_cuts_28, bX12_cuts_31, bX12_cuts_57, bX12_cuts_60, r12_0, a12_0, w12_0, n12_0, i3_add, i3_sub, i3_mul, i3_neg, i6_add, i6_sub, i6_mul, i6_neg, i3_lt, i3_le, i3_eq, i6_lt, i6_eq, i3_div, i6_div, i6_i3, i3_i6, c6_lt, c6_ge, c6_gt, c6_le, c6_eq, i3_ite, i6_ite, ib_0, ib_z, ite_not, i1_0, i0_0, jB_1, jB_0, jB_ib, bI_v, bL_v, bD_v, bV_v, ob_s, ob_i, i3_ofNat, jx_e, bI_e, bL_e, bD_e, bV_e, i3_eq0, i6_eq0, if_mx, if_mn, if_true, if_false, not_true_eq_false, not_false_eq_true, Int.reduceEq, Int.reduceLT, Int.reduceLE, sX12_isVoidToCut, fw_fw]
  by_cases g : (10 ≤ n ∨ aM v i n = 0) ∨ (10 ≤ n + 1 ∨ aM v i (n + 1) = 0)
  · have e : ctR v i n q = -3 := if_pos g
    simp only [if_pos g, e, show ctV v i n q = v from if_pos (by omega)]
    exact ⟨_, rfl⟩
  · simp only [if_neg g]
    have hk2 : 0 ≤ v 412 (12 + 13 * i + 3 + (n + 1)) ∧ v 412 (12 + 13 * i + 3 + (n + 1)) ≤ 9999 := (hg.2.2.2.2 i hi0 hi1).2 (n + 1) (by omega) (by omega)
    simp (disch := first | assumption | omega | (repeat (first | assumption | refine oM_up ?_ (by omega)))) only [eX12_cuts, bX12_cuts_0, bX12_cuts_9, bX12_cuts_12, bX12_cuts_28, bX12_cuts_31, bX12_cuts_57, bX12_cuts_60, r12_0, a12_0, w12_0, n12_0, i3_add, i3_sub, i3_mul, i3_neg, i6_add, i6_sub, i6_mul, i6_neg, i3_lt, i3_le, i3_eq, i6_lt, i6_eq, i3_div, i6_div, i6_i3, i3_i6, c6_lt, c6_ge, c6_gt, c6_le, c6_eq, i3_ite, i6_ite, ib_0, ib_z, ite_not, i1_0, i0_0, jB_1, jB_0, jB_ib, bI_v, bL_v, bD_v, bV_v, ob_s, ob_i, i3_ofNat, jx_e, bI_e, bL_e, bD_e, bV_e, i3_eq0, i6_eq0, if_mx, if_mn, if_true, if_false, not_true_eq_false, not_false_eq_true, Int.reduceEq, Int.reduceLT, Int.reduceLE, sX12_stackAt, sX12_stripOf, up_ne, up_eq, aM_up, szM_up, fw_fw]
    by_cases q1 : kM v i n < q
    · have e : ctR v i n q = -4 := (if_neg g).trans (if_pos q1)
      rw [if_neg (by unfold kM at q1; omega), e, show ctV v i n q = v from if_pos (by omega)]
      exact ⟨_, rfl⟩
    · rw [if_pos (by unfold kM at q1; omega)]
      by_cases q2 : 9999 < kM v i (n + 1) + 2 * q
      · have e : ctR v i n q = -5 := (if_neg g).trans ((if_neg q1).trans (if_pos q2))
        rw [if_neg (by unfold kM at q2; omega), e, show ctV v i n q = v from if_pos (by omega)]
        exact ⟨_, rfl⟩
      · have e : ctR v i n q = kM v i (n + 1) + 2 * q := (if_neg g).trans ((if_neg q1).trans (if_neg q2))
        rw [if_pos (by unfold kM at q2; omega), e, show ctV v i n q = _ from if_neg (by unfold kM at e; omega)]
        exact ⟨_, rfl⟩
theorem sX12_cuts {i n q : Int} (hT : 18 ≤ T) (hg : gM v) (hi0 : 0 ≤ i) (hi1 : i < v 412 0) (hn0 : 0 ≤ n) (hn1 : n < 10) (hr0 : 1 ≤ q) (hr1 : q ≤ 9999) : jm_env (d + 6) 237 [.ref 411, .int (i3 i), .int (i3 n), .int (i3 q)] (qM X v w T c s) = some (.inl (some (.int (i3 (ctR v i n q)))), qM X (ctV v i n q) (fw w (pq (hid (d + 6) 237 [.ref 411, .int (i3 i), .int (i3 n), .int (i3 q)] (qM X v w T c s)) X (ctV v i n q) w T c s)) T c s) := pq_eq (sX12_cuts_p hT hg hi0 hi1 hn0 hn1 hr0 hr1)

theorem sX12_sets {k z : Int} (hT : 18 ≤ T) (hk0 : 0 ≤ k) (hk1 : k < 167) (hz0 : -2147483648 ≤ z) (hz1 : z < 2147483648) : jm_env (d + 1) 238 [.ref 411, .int (i3 k), .int (i3 z)] (qM X v w T c s) = some (.inl (some (.int (i3 (v 412 k)))), qM X (up v 412 k z) w T c s) := by
  simp (disch := first | assumption | omega) only [eX12_sets, bX12_sets_0, r12_0, a12_0, w12_0, n12_0, i3_add, i3_sub, i3_mul, i3_neg, i6_add, i6_sub, i6_mul, i6_neg, i3_lt, i3_le, i3_eq, i6_lt, i6_eq, i3_div, i6_div, i6_i3, i3_i6, c6_lt, c6_ge, c6_gt, c6_le, c6_eq, i3_ite, i6_ite, ib_0, ib_z, ite_not, i1_0, i0_0, jB_1, jB_0, jB_ib, bI_v, bL_v, bD_v, bV_v, ob_s, ob_i, i3_ofNat, jx_e, bI_e, bL_e, bD_e, bV_e, i3_eq0, i6_eq0, if_mx, if_mn, if_true, if_false, not_true_eq_false, not_false_eq_true, Int.reduceEq, Int.reduceLT, Int.reduceLE]
end MO8
