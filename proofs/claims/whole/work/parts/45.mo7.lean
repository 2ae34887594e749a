-- uses 24.zar 25.obj 26.ops 30.rd 31.re 34.gen 38.mod 39.mo2 40.mo3 41.bit 42.mo4 43.mo5
/-! The reference: what is kept for undo; changes. -/
def flo (v : Nat → Int → Int) (b : Nat) (to : Int) (g : Int → Int) (m : Int) : Nat → Int → Int := fun n k => if n = b ∧ to ≤ k ∧ k < to + m then g (k - to) else v n k
section FLO
variable {v : Nat → Int → Int} {a b : Nat} {to m k z : Int} {f g : Int → Int}
theorem flo_0 : flo v b to g 0 = v := by
  funext n j
  exact if_neg (by omega)
theorem flo_up (h : 0 ≤ m) (hz : z = g m) : up (flo v b to g m) b (to + m) z = flo v b to g (m + 1) := by
  funext n j
  unfold up flo
  by_cases e : n = b ∧ j = to + m
  · rw [if_pos e, if_pos (by omega), hz, e.2, show to + m - to = m by omega]
  · rw [if_neg e]
    by_cases q : n = b ∧ to ≤ j ∧ j < to + m
    · rw [if_pos q, if_pos (by omega)]
    · rw [if_neg q, if_neg (by omega)]
theorem flo_ne {n : Nat} (h : n ≠ b ∨ k < to ∨ to + m ≤ k) : flo v b to g m n k = v n k := if_neg (by omega)
theorem flo_b {n : Nat} (h : n ≠ b) : flo v b to g m n = v n := by funext j; exact flo_ne (Or.inl h)
theorem flo_in (h0 : to ≤ k) (h1 : k < to + m) : flo v b to g m b k = g (k - to) := if_pos ⟨rfl, h0, h1⟩
theorem flo_cg {h : Int → Int} (hh : ∀ k, 0 ≤ k → k < m → g k = h k) : flo v b to g m = flo v b to h m := by
  funext n j
  unfold flo
  by_cases q : n = b ∧ to ≤ j ∧ j < to + m
  · rw [if_pos q, if_pos q, hh _ (by omega) (by omega)]
  · rw [if_neg q, if_neg q]
end FLO
/-- the states kept: the oldest one goes where there are eight -/
def shV (v : Nat → Int → Int) : Nat → Int → Int := if v 411 7 = 8 then up (fil v 415 (fun k => v 415 (k + 167)) 1169) 411 7 7 else v
def kpV (v : Nat → Int → Int) (g : Int → Int) : Nat → Int → Int := up (flo (shV v) 415 (167 * shV v 411 7) g 167) 411 7 (shV v 411 7 + 1)
theorem shV_b {v : Nat → Int → Int} {n : Nat} (h : n ≠ 411) (h2 : n ≠ 415) : shV v n = v n := by
  unfold shV
  split
  · rw [up_b h, fil_b h2]
  · rfl
theorem kpV_b {v : Nat → Int → Int} {g : Int → Int} {n : Nat} (h : n ≠ 411) (h2 : n ≠ 415) : kpV v g n = v n := by
  unfold kpV
  rw [up_b h, flo_b h2, shV_b h h2]
theorem shV_u {v : Nat → Int → Int} (h0 : 0 ≤ v 411 7) (h1 : v 411 7 ≤ 8) : 0 ≤ shV v 411 7 ∧ shV v 411 7 ≤ 7 ∧ shV v 411 7 = min 7 (v 411 7) := by
  unfold shV
  split
  · rw [up_eq]; omega
  · omega
theorem shV_o {v : Nat → Int → Int} {k : Int} (h : k ≠ 7) : shV v 411 k = v 411 k := by
  unfold shV
  split
  · rw [up_ne (by omega), fil_ne (by omega)]
  · rfl
theorem kpV_o {v : Nat → Int → Int} {g : Int → Int} {k : Int} (h : k ≠ 7) : kpV v g 411 k = v 411 k := by
  unfold kpV
  rw [up_ne (by omega), flo_ne (by omega), shV_o h]
theorem kpV_cg {v : Nat → Int → Int} {g h : Int → Int} (hh : ∀ k, 0 ≤ k → k < 167 → g k = h k) : kpV v g = kpV v h := by
  unfold kpV
  rw [flo_cg hh]
section MO7
variable {d : Nat} {X : Nat × (Nat → Int32)} {v w : Nat → Int → Int} {T c s : Nat}
theorem cX12_tries (hT : 18 ≤ T) : jm_env (d + 1) 212 [.ref 412, .int (i3 0), .ref 414, .int (i3 0)] (qM X v w T c s) = some (.inl none, qM X v (fil w 414 (v 412) 167) T c s) := by
  have h := sX12_copies (d := d) (a := 412) (b := 414) (fr := 0) (to := 0) (fun k => qM X v (fil w 414 (v 412) k) T c s) (v 412)
    (fun k hk => by rw [Int.zero_add]; exact a12_0 hT (by omega) (by omega))
    (fun k hk => by
      show _ = some (qM X v (fil w 414 (v 412) ((k : Int) + 1)) T c s)
      rw [Int.zero_add, w12_2 hT (by omega) (by omega), fil_up (by omega) rfl])
  rw [show fil w 414 (v 412) ((0 : Nat) : Int) = w from fil_0] at h
  exact h
theorem cX12_past {a : Nat} {g : Int → Int} (hT : 18 ≤ T) (u : Int) (hu0 : 0 ≤ u) (hu1 : u < 8) (hg : ∀ v', v' 412 = v 412 → ∀ k : Int, 0 ≤ k → k < 167 → jm_aL (qM X v' w T c s) a (i3 k) = some (i6 (g k))) :
    jm_env (d + 1) 212 [.ref a, .int (i3 0), .ref 415, .int (i3 (167 * u))] (qM X v w T c s) = some (.inl none, qM X (flo v 415 (167 * u) g 167) w T c s) := by
  have h := sX12_copies (d := d) (a := a) (b := 415) (fr := 0) (to := 167 * u) (fun k => qM X (flo v 415 (167 * u) g k) w T c s) g
    (fun k hk => by rw [Int.zero_add]; exact hg _ (flo_b (by omega)) k (by omega) (by omega))
    (fun k hk => by
      show _ = some (qM X (flo v 415 (167 * u) g ((k : Int) + 1)) w T c s)
      rw [w12_3 hT (by omega) (by omega), flo_up (by omega) rfl])
  rw [show flo v 415 (167 * u) g ((0 : Nat) : Int) = v from flo_0] at h
  exact h
theorem sX12_keepsPast {a : Nat} {g : Int → Int} (hT : 18 ≤ T) (hu0 : 0 ≤ v 411 7) (hu1 : v 411 7 ≤ 8) (hg : ∀ v', v' 412 = v 412 → ∀ k : Int, 0 ≤ k → k < 167 → jm_aL (qM X v' w T c s) a (i3 k) = some (i6 (g k))) :
    jm_env (d + 2) 276 [.ref 411, .ref a] (qM X v w T c s) = some (.inl none, qM X (kpV v g) w T c s) := by
  simp (disch := first | assumption | omega) only [eX12_keepsPast, bX12_keepsPast_0, bX12_keepsPast_9, bX12_keepsPast_18, bX12_keepsPast_40, bX12_keepsPast_50, g12_7, r12_3, a12_3, w12_3, n12_3, p12_7, i3_add, i3_sub, i3_mul, i3_neg, i6_add, i6_sub, i6_mul, i6_neg, i3_lt, i3_le, i3_eq, i6_lt, i6_eq, i3_div, i6_div, i6_i3, i3_i6, c6_lt, c6_ge, c6_gt, c6_le, c6_eq, i3_ite, i6_ite, ib_0, ib_z, ite_not, i1_0, i0_0, jB_1, jB_0, jB_ib, bI_v, bL_v, bD_v, bV_v, ob_s, ob_i, i3_ofNat, jx_e, bI_e, bL_e, bD_e, bV_e, i3_eq0, i6_eq0, if_mx, if_mn, if_true, if_false, not_true_eq_false, not_false_eq_true, Int.reduceEq, Int.reduceLT, Int.reduceLE]
  by_cases q : v 411 7 = 8
  · rw [if_pos q]
    have hl := ch_n (fun k : Nat => jm_R (jm_env (d + 1)) jmM_X12_keepsPast 11 [some (.ref 411), some (.ref a), some (.int (i3 k))] [] (qM X (fil v 415 (fun k => v 415 (k + 167)) k) w T c s)) 1169 (fun k hk => by
      have e : fil v 415 (fun k => v 415 (k + 167)) ((k + 1 : Nat) : Int) = up (fil v 415 (fun k => v 415 (k + 167)) k) 415 k (v 415 (k + 167)) := (fil_up (Int.natCast_nonneg k) rfl).symm
      rw [e, bX12_keepsPast_11]
      simp (disch := first | assumption | omega) only [eX12_keepsPast, bX12_keepsPast_0, bX12_keepsPast_9, bX12_keepsPast_18, bX12_keepsPast_40, bX12_keepsPast_50, g12_7, r12_3, a12_3, w12_3, n12_3, p12_7, i3_add, i3_sub, i3_mul, i3_neg, i6_add, i6_sub, i6_mul, i6_neg, i3_lt, i3_le, i3_eq, i6_lt, i6_eq, i3_div, i6_div, i6_i3, i3_i6, c6_lt, c6_ge, c6_gt, c6_le, c6_eq, i3_ite, i6_ite, ib_0, ib_z, ite_not, i1_0, i0_0, jB_1, jB_0, jB_ib, bI_v, bL_v, bD_v, bV_v, ob_s, ob_i, i3_ofNat, jx_e, bI_e, bL_e, bD_e, bV_e, i3_eq0, i6_eq0, if_mx, if_mn, if_true, if_false, not_true_eq_false, not_false_eq_true, Int.reduceEq, Int.reduceLT, Int.reduceLE, fil_ne]
      rw [if_neg (by omega)]
      rfl)
    rw [show fil v 415 (fun k => v 415 (k + 167)) ((0 : Nat) : Int) = v from fil_0] at hl
    refine Eq.trans hl ?_
    rw [bX12_keepsPast_11]
    simp (disch := first | assumption | omega) only [eX12_keepsPast, bX12_keepsPast_0, bX12_keepsPast_9, bX12_keepsPast_18, bX12_keepsPast_40, bX12_keepsPast_50, g12_7, r12_3, a12_3, w12_3, n12_3, p12_7, i3_add, i3_sub, i3_mul, i3_neg, i6_add, i6_sub, i6_mul, i6_neg, i3_lt, i3_le, i3_eq, i6_lt, i6_eq, i3_div, i6_div, i6_i3, i3_i6, c6_lt, c6_ge, c6_gt, c6_le, c6_eq, i3_ite, i6_ite, ib_0, ib_z, ite_not, i1_0, i0_0, jB_1, jB_0, jB_ib, bI_v, bL_v, bD_v, bV_v, ob_s, ob_i, i3_ofNat, jx_e, bI_e, bL_e, bD_e, bV_e, i3_eq0, i6_eq0, if_mx, if_mn, if_true, if_false, not_true_eq_false, not_false_eq_true, Int.reduceEq, Int.reduceLT, Int.reduceLE, fil_ne]
    rw [if_pos (by omega)]
    have e8 : shV v = up (fil v 415 (fun k => v 415 (k + 167)) ((1169 : Nat) : Int)) 411 7 (v 411 7 - 1) := by
      unfold shV
      rw [if_pos q, q]
      rfl
    have e9 : shV v 411 7 = 7 := by rw [e8, up_eq, q]; rfl
    rw [← e8]
    simp (disch := first | assumption | omega) only [eX12_keepsPast, bX12_keepsPast_0, bX12_keepsPast_9, bX12_keepsPast_18, bX12_keepsPast_40, bX12_keepsPast_50, g12_7, r12_3, a12_3, w12_3, n12_3, p12_7, i3_add, i3_sub, i3_mul, i3_neg, i6_add, i6_sub, i6_mul, i6_neg, i3_lt, i3_le, i3_eq, i6_lt, i6_eq, i3_div, i6_div, i6_i3, i3_i6, c6_lt, c6_ge, c6_gt, c6_le, c6_eq, i3_ite, i6_ite, ib_0, ib_z, ite_not, i1_0, i0_0, jB_1, jB_0, jB_ib, bI_v, bL_v, bD_v, bV_v, ob_s, ob_i, i3_ofNat, jx_e, bI_e, bL_e, bD_e, bV_e, i3_eq0, i6_eq0, if_mx, if_mn, if_true, if_false, not_true_eq_false, not_false_eq_true, Int.reduceEq, Int.reduceLT, Int.reduceLE, e9]
    rw [cX12_past hT 7 (by omega) (by omega) (fun v' hv => hg v' (hv.trans (by rw [shV_b (by omega) (by omega)])))]
    simp (disch := first | assumption | omega) only [eX12_keepsPast, bX12_keepsPast_0, bX12_keepsPast_9, bX12_keepsPast_18, bX12_keepsPast_40, bX12_keepsPast_50, g12_7, r12_3, a12_3, w12_3, n12_3, p12_7, i3_add, i3_sub, i3_mul, i3_neg, i6_add, i6_sub, i6_mul, i6_neg, i3_lt, i3_le, i3_eq, i6_lt, i6_eq, i3_div, i6_div, i6_i3, i3_i6, c6_lt, c6_ge, c6_gt, c6_le, c6_eq, i3_ite, i6_ite, ib_0, ib_z, ite_not, i1_0, i0_0, jB_1, jB_0, jB_ib, bI_v, bL_v, bD_v, bV_v, ob_s, ob_i, i3_ofNat, jx_e, bI_e, bL_e, bD_e, bV_e, i3_eq0, i6_eq0, if_mx, if_mn, if_true, if_false, not_true_eq_false, not_false_eq_true, Int.reduceEq, Int.reduceLT, Int.reduceLE, flo_ne, e9]
    unfold kpV
    rw [e9]
  · rw [if_neg q]
    have e8 : shV v = v := if_neg q
    rw [cX12_past hT (v 411 7) (by omega) (by omega) hg]
    simp (disch := first | assumption | omega) only [eX12_keepsPast, bX12_keepsPast_0, bX12_keepsPast_9, bX12_keepsPast_18, bX12_keepsPast_40, bX12_keepsPast_50, g12_7, r12_3, a12_3, w12_3, n12_3, p12_7, i3_add, i3_sub, i3_mul, i3_neg, i6_add, i6_sub, i6_mul, i6_neg, i3_lt, i3_le, i3_eq, i6_lt, i6_eq, i3_div, i6_div, i6_i3, i3_i6, c6_lt, c6_ge, c6_gt, c6_le, c6_eq, i3_ite, i6_ite, ib_0, ib_z, ite_not, i1_0, i0_0, jB_1, jB_0, jB_ib, bI_v, bL_v, bD_v, bV_v, ob_s, ob_i, i3_ofNat, jx_e, bI_e, bL_e, bD_e, bV_e, i3_eq0, i6_eq0, if_mx, if_mn, if_true, if_false, not_true_eq_false, not_false_eq_true, Int.reduceEq, Int.reduceLT, Int.reduceLE, flo_ne]
    unfold kpV
    rw [e8]
end MO7
