-- uses 24.zar 25.obj 26.ops 30.rd 31.re 34.gen 38.mod 39.mo2 40.mo3 41.bit 42.mo4 43.mo5 44.mo6 45.mo7 46.mo8 47.mo9
/-! The reference: undo, saved states, orders, what would be. -/
def unV (v : Nat → Int → Int) : Nat → Int → Int := fil (up v 411 7 (v 411 7 - 1)) 412 (fun k => v 415 (167 * (v 411 7 - 1) + k)) 167
def svV (v : Nat → Int → Int) (q : Int) : Nat → Int → Int := up (flo v 416 (167 * q) (v 412) 167) 417 q 1
def rsV (v : Nat → Int → Int) (q : Int) : Nat → Int → Int := up (fil v 412 (fun k => v 416 (167 * q + k)) 167) 411 7 0
section MOA
variable {d : Nat} {X : Nat × (Nat → Int32)} {v w : Nat → Int → Int} {T c s : Nat}
theorem cX12_undo {u : Int} (hT : 18 ≤ T) (hu0 : 0 ≤ u) (hu1 : u < 8) : jm_env (d + 1) 212 [.ref 415, .int (i3 (167 * u)), .ref 412, .int (i3 0)] (qM X v w T c s) = some (.inl none, qM X (fil v 412 (fun k => v 415 (167 * u + k)) 167) w T c s) := by
  have h := sX12_copies (d := d) (a := 415) (b := 412) (fr := 167 * u) (to := 0) (fun k => qM X (fil v 412 (fun k => v 415 (167 * u + k)) k) w T c s) (fun k => v 415 (167 * u + k))
    (fun k hk => by rw [a12_3 hT (by omega) (by omega), fil_b (by omega)])
    (fun k hk => by
      show _ = some (qM X (fil v 412 (fun k => v 415 (167 * u + k)) ((k : Int) + 1)) w T c s)
      rw [Int.zero_add, w12_0 hT (by omega) (by omega), fil_up (by omega) rfl])
  rw [show fil v 412 (fun k => v 415 (167 * u + k)) ((0 : Nat) : Int) = v from fil_0] at h
  exact h
theorem cX12_save {q : Int} (hT : 18 ≤ T) (hu0 : 0 ≤ q) (hu1 : q < 2) : jm_env (d + 1) 212 [.ref 412, .int (i3 0), .ref 416, .int (i3 (167 * q))] (qM X v w T c s) = some (.inl none, qM X (flo v 416 (167 * q) (v 412) 167) w T c s) := by
  have h := sX12_copies (d := d) (a := 412) (b := 416) (fr := 0) (to := 167 * q) (fun k => qM X (flo v 416 (167 * q) (v 412) k) w T c s) (v 412)
    (fun k hk => by rw [Int.zero_add, a12_0 hT (by omega) (by omega), flo_b (by omega)])
    (fun k hk => by
      show _ = some (qM X (flo v 416 (167 * q) (v 412) ((k : Int) + 1)) w T c s)
      rw [w12_4 hT (by omega) (by omega), flo_up (by omega) rfl])
  rw [show flo v 416 (167 * q) (v 412) ((0 : Nat) : Int) = v from flo_0] at h
  exact h
theorem cX12_restore {q : Int} (hT : 18 ≤ T) (hu0 : 0 ≤ q) (hu1 : q < 2) : jm_env (d + 1) 212 [.ref 416, .int (i3 (167 * q)), .ref 412, .int (i3 0)] (qM X v w T c s) = some (.inl none, qM X (fil v 412 (fun k => v 416 (167 * q + k)) 167) w T c s) := by
  have h := sX12_copies (d := d) (a := 416) (b := 412) (fr := 167 * q) (to := 0) (fun k => qM X (fil v 412 (fun k => v 416 (167 * q + k)) k) w T c s) (fun k => v 416 (167 * q + k))
    (fun k hk => by rw [a12_4 hT (by omega) (by omega), fil_b (by omega)])
    (fun k hk => by
      show _ = some (qM X (fil v 412 (fun k => v 416 (167 * q + k)) ((k : Int) + 1)) w T c s)
      rw [Int.zero_add, w12_0 hT (by omega) (by omega), fil_up (by omega) rfl])
  rw [show fil v 412 (fun k => v 416 (167 * q + k)) ((0 : Nat) : Int) = v from fil_0] at h
  exact h
theorem mX12_undo (hT : 18 ≤ T) (hu0 : 0 ≤ v 411 7) (hu1 : v 411 7 ≤ 8) : ∃ w', jm_env (d + 2) 290 [.ref 411] (qM X v w T c s) = some (.inl (some (.int (i3 (if v 411 7 = 0 then -1 else v 411 7 - 1)))), qM X (if v 411 7 = 0 then v else unV v) w' T c s) := by
  simp (disch := first | assumption | omega) only [eX12_undo, bX12_undo_0, bX12_undo_12, bX12_undo_14, p12_8, g12_7, p12_7, r12_3, a12_3, w12_3, n12_3, r12_0, a12_0, w12_0, n12_0, i3_add, i3_sub, i3_mul, i3_neg, i6_add, i6_sub, i6_mul, i6_neg, i3_lt, i3_le, i3_eq, i6_lt, i6_eq, i3_div, i6_div, i6_i3, i3_i6, c6_lt, c6_ge, c6_gt, c6_le, c6_eq, i3_ite, i6_ite, ib_0, ib_z, ite_not, i1_0, i0_0, jB_1, jB_0, jB_ib, bI_v, bL_v, bD_v, bV_v, ob_s, ob_i, i3_ofNat, jx_e, bI_e, bL_e, bD_e, bV_e, i3_eq0, i6_eq0, if_mx, if_mn, if_true, if_false, not_true_eq_false, not_false_eq_true, Int.reduceEq, Int.reduceLT, Int.reduceLE]
  by_cases q : v 411 7 = 0
  · simp only [if_pos q]
    exact ⟨_, rfl⟩
  · simp only [if_neg q]
    have e : up v 411 7 (v 411 7 - 1) 411 7 = v 411 7 - 1 := up_eq
    simp only [e]
    rw [cX12_undo hT (by omega) (by omega)]
    simp (disch := first | assumption | omega) only [eX12_undo, bX12_undo_0, bX12_undo_12, bX12_undo_14, p12_8, g12_7, p12_7, r12_3, a12_3, w12_3, n12_3, r12_0, a12_0, w12_0, n12_0, i3_add, i3_sub, i3_mul, i3_neg, i6_add, i6_sub, i6_mul, i6_neg, i3_lt, i3_le, i3_eq, i6_lt, i6_eq, i3_div, i6_div, i6_i3, i3_i6, c6_lt, c6_ge, c6_gt, c6_le, c6_eq, i3_ite, i6_ite, ib_0, ib_z, ite_not, i1_0, i0_0, jB_1, jB_0, jB_ib, bI_v, bL_v, bD_v, bV_v, ob_s, ob_i, i3_ofNat, jx_e, bI_e, bL_e, bD_e, bV_e, i3_eq0, i6_eq0, if_mx, if_mn, if_true, if_false, not_true_eq_false, not_false_eq_true, Int.reduceEq, Int.reduceLT, Int.reduceLE, fil_ne, e]
    exact ⟨_, by unfold unV; rw [up_b (show (415 : Nat) ≠ 411 by omega)]⟩
theorem mX12_save {q : Int} (hT : 18 ≤ T) (hq : isI q) : mR (jm_env (d + 3) 292 [.ref 411, .int (i3 q)] (qM X v w T c s)) X (if 0 ≤ q ∧ q < 2 then svV v q else v) T c s (cd1 (0 ≤ q ∧ q < 2)) (v 412 0) := by
  obtain ⟨h0, h1⟩ := hq
  by_cases g : 0 ≤ q ∧ q < 2
  · obtain ⟨g0, g1⟩ := id g
    rw [cd1_0 g, if_pos g]
    apply mR_0
    simp (disch := first | assumption | omega) only [eX12_save, bX12_save_0, bX12_save_13, bX12_save_15, p12_8, r12_0, a12_0, w12_0, n12_0, r12_4, a12_4, w12_4, n12_4, r12_5, a12_5, w12_5, n12_5, i3_add, i3_sub, i3_mul, i3_neg, i6_add, i6_sub, i6_mul, i6_neg, i3_lt, i3_le, i3_eq, i6_lt, i6_eq, i3_div, i6_div, i6_i3, i3_i6, c6_lt, c6_ge, c6_gt, c6_le, c6_eq, i3_ite, i6_ite, ib_0, ib_z, ite_not, i1_0, i0_0, jB_1, jB_0, jB_ib, bI_v, bL_v, bD_v, bV_v, ob_s, ob_i, i3_ofNat, jx_e, bI_e, bL_e, bD_e, bV_e, i3_eq0, i6_eq0, if_mx, if_mn, if_true, if_false, not_true_eq_false, not_false_eq_true, Int.reduceEq, Int.reduceLT, Int.reduceLE, sX12_noSlot_0, cX12_save, up_ne, flo_ne]
    exact ⟨_, rfl, up_eq⟩
  · rw [cd1_1 g, if_neg g]
    apply mR_1 (by decide)
    have g' : q < 0 ∨ 2 ≤ q := by omega
    simp (disch := first | assumption | omega) only [eX12_save, bX12_save_0, bX12_save_13, bX12_save_15, p12_8, r12_0, a12_0, w12_0, n12_0, r12_4, a12_4, w12_4, n12_4, r12_5, a12_5, w12_5, n12_5, i3_add, i3_sub, i3_mul, i3_neg, i6_add, i6_sub, i6_mul, i6_neg, i3_lt, i3_le, i3_eq, i6_lt, i6_eq, i3_div, i6_div, i6_i3, i3_i6, c6_lt, c6_ge, c6_gt, c6_le, c6_eq, i3_ite, i6_ite, ib_0, ib_z, ite_not, i1_0, i0_0, jB_1, jB_0, jB_ib, bI_v, bL_v, bD_v, bV_v, ob_s, ob_i, i3_ofNat, jx_e, bI_e, bL_e, bD_e, bV_e, i3_eq0, i6_eq0, if_mx, if_mn, if_true, if_false, not_true_eq_false, not_false_eq_true, Int.reduceEq, Int.reduceLT, Int.reduceLE, sX12_noSlot_1]
    exact ⟨_, _, rfl, up_eq⟩
theorem mX12_restore {q : Int} (hT : 18 ≤ T) (hq : isI q) (hk : 0 ≤ q ∧ q < 2 → v 417 q = 0 ∨ v 417 q = 1) : mR (jm_env (d + 3) 293 [.ref 411, .int (i3 q)] (qM X v w T c s)) X (if (0 ≤ q ∧ q < 2) ∧ v 417 q = 1 then rsV v q else v) T c s (cd2 (0 ≤ q ∧ q < 2) (v 417 q = 1)) (v 416 (167 * q + 0)) := by
  obtain ⟨h0, h1⟩ := hq
  by_cases g : 0 ≤ q ∧ q < 2
  · obtain ⟨g0, g1⟩ := id g
    have hk := hk g
    by_cases k : v 417 q = 1
    · rw [cd2_0 g k, if_pos ⟨g, k⟩]
      apply mR_0
      simp (disch := first | assumption | omega) only [eX12_restore, bX12_restore_0, bX12_restore_13, bX12_restore_23, bX12_restore_27, bX12_restore_28, bX12_restore_35, bX12_restore_37, p12_8, r12_5, a12_5, w12_5, n12_5, r12_4, a12_4, w12_4, n12_4, r12_0, a12_0, w12_0, n12_0, p12_7, i3_add, i3_sub, i3_mul, i3_neg, i6_add, i6_sub, i6_mul, i6_neg, i3_lt, i3_le, i3_eq, i6_lt, i6_eq, i3_div, i6_div, i6_i3, i3_i6, c6_lt, c6_ge, c6_gt, c6_le, c6_eq, i3_ite, i6_ite, ib_0, ib_z, ite_not, i1_0, i0_0, jB_1, jB_0, jB_ib, bI_v, bL_v, bD_v, bV_v, ob_s, ob_i, i3_ofNat, jx_e, bI_e, bL_e, bD_e, bV_e, i3_eq0, i6_eq0, if_mx, if_mn, if_true, if_false, not_true_eq_false, not_false_eq_true, Int.reduceEq, Int.reduceLT, Int.reduceLE, sX12_noSlot_0, sX12_stops_0, k, cX12_restore, up_ne, fil_in]
      exact ⟨_, rfl, up_eq⟩
    · have k0 : v 417 q = 0 := by omega
      rw [cd2_2 g k, if_neg (fun h => k h.2)]
      apply mR_1 (by decide)
      simp (disch := first | assumption | omega) only [eX12_restore, bX12_restore_0, bX12_restore_13, bX12_restore_23, bX12_restore_27, bX12_restore_28, bX12_restore_35, bX12_restore_37, p12_8, r12_5, a12_5, w12_5, n12_5, r12_4, a12_4, w12_4, n12_4, r12_0, a12_0, w12_0, n12_0, p12_7, i3_add, i3_sub, i3_mul, i3_neg, i6_add, i6_sub, i6_mul, i6_neg, i3_lt, i3_le, i3_eq, i6_lt, i6_eq, i3_div, i6_div, i6_i3, i3_i6, c6_lt, c6_ge, c6_gt, c6_le, c6_eq, i3_ite, i6_ite, ib_0, ib_z, ite_not, i1_0, i0_0, jB_1, jB_0, jB_ib, bI_v, bL_v, bD_v, bV_v, ob_s, ob_i, i3_ofNat, jx_e, bI_e, bL_e, bD_e, bV_e, i3_eq0, i6_eq0, if_mx, if_mn, if_true, if_false, not_true_eq_false, not_false_eq_true, Int.reduceEq, Int.reduceLT, Int.reduceLE, sX12_noSlot_0, sX12_stops_1, k0]
      exact ⟨_, _, rfl, up_eq⟩
  · rw [cd2_1 g, if_neg (fun h => g h.1)]
    apply mR_1 (by decide)
    have g' : q < 0 ∨ 2 ≤ q := by omega
    simp (disch := first | assumption | omega) only [eX12_restore, bX12_restore_0, bX12_restore_13, bX12_restore_23, bX12_restore_27, bX12_restore_28, bX12_restore_35, bX12_restore_37, p12_8, r12_5, a12_5, w12_5, n12_5, r12_4, a12_4, w12_4, n12_4, r12_0, a12_0, w12_0, n12_0, p12_7, i3_add, i3_sub, i3_mul, i3_neg, i6_add, i6_sub, i6_mul, i6_neg, i3_lt, i3_le, i3_eq, i6_lt, i6_eq, i3_div, i6_div, i6_i3, i3_i6, c6_lt, c6_ge, c6_gt, c6_le, c6_eq, i3_ite, i6_ite, ib_0, ib_z, ite_not, i1_0, i0_0, jB_1, jB_0, jB_ib, bI_v, bL_v, bD_v, bV_v, ob_s, ob_i, i3_ofNat, jx_e, bI_e, bL_e, bD_e, bV_e, i3_eq0, i6_eq0, if_mx, if_mn, if_true, if_false, not_true_eq_false, not_false_eq_true, Int.reduceEq, Int.reduceLT, Int.reduceLE, sX12_noSlot_1]
    exact ⟨_, _, rfl, up_eq⟩
theorem mX12_errorCode (hT : 18 ≤ T) : ∃ w', jm_env (d + 1) 274 [.ref 411] (qM X v w T c s) = some (.inl (some (.int (i3 (v 411 24)))), qM X v w' T c s) := by
  simp (disch := first | assumption | omega) only [eX12_errorCode, bX12_errorCode_0, p12_8, g12_24, i3_add, i3_sub, i3_mul, i3_neg, i6_add, i6_sub, i6_mul, i6_neg, i3_lt, i3_le, i3_eq, i6_lt, i6_eq, i3_div, i6_div, i6_i3, i3_i6, c6_lt, c6_ge, c6_gt, c6_le, c6_eq, i3_ite, i6_ite, ib_0, ib_z, ite_not, i1_0, i0_0, jB_1, jB_0, jB_ib, bI_v, bL_v, bD_v, bV_v, ob_s, ob_i, i3_ofNat, jx_e, bI_e, bL_e, bD_e, bV_e, i3_eq0, i6_eq0, if_mx, if_mn, if_true, if_false, not_true_eq_false, not_false_eq_true, Int.reduceEq, Int.reduceLT, Int.reduceLE]
  exact ⟨_, rfl⟩
theorem mX12_errorPosition (hT : 18 ≤ T) : ∃ w', jm_env (d + 1) 275 [.ref 411] (qM X v w T c s) = some (.inl (some (.int (i3 (v 411 25)))), qM X v w' T c s) := by
  simp (disch := first | assumption | omega) only [eX12_errorPosition, bX12_errorPosition_0, p12_8, g12_25, i3_add, i3_sub, i3_mul, i3_neg, i6_add, i6_sub, i6_mul, i6_neg, i3_lt, i3_le, i3_eq, i6_lt, i6_eq, i3_div, i6_div, i6_i3, i3_i6, c6_lt, c6_ge, c6_gt, c6_le, c6_eq, i3_ite, i6_ite, ib_0, ib_z, ite_not, i1_0, i0_0, jB_1, jB_0, jB_ib, bI_v, bL_v, bD_v, bV_v, ob_s, ob_i, i3_ofNat, jx_e, bI_e, bL_e, bD_e, bV_e, i3_eq0, i6_eq0, if_mx, if_mn, if_true, if_false, not_true_eq_false, not_false_eq_true, Int.reduceEq, Int.reduceLT, Int.reduceLE]
  exact ⟨_, rfl⟩
theorem mX12_outputByte {k : Int} (hT : 18 ≤ T) (hk : isI k) (h0 : 0 ≤ v 411 43) (h1 : v 411 43 ≤ 800) : ∃ w', jm_env (d + 2) 339 [.ref 411, .int (i3 k)] (qM X v w T c s) = some (.inl (some (.int (i3 (if 0 ≤ k ∧ k < v 411 43 then v 428 k else -1)))), qM X v w' T c s) := by
  obtain ⟨k0, k1⟩ := hk
  simp (disch := first | assumption | omega) only [eX12_outputByte, bX12_outputByte_0, bX12_outputByte_21, bX12_outputByte_30, bX12_outputByte_31, p12_8, g12_43, r12_42, a12_42, w12_42, n12_42, i3_add, i3_sub, i3_mul, i3_neg, i6_add, i6_sub, i6_mul, i6_neg, i3_lt, i3_le, i3_eq, i6_lt, i6_eq, i3_div, i6_div, i6_i3, i3_i6, c6_lt, c6_ge, c6_gt, c6_le, c6_eq, i3_ite, i6_ite, ib_0, ib_z, ite_not, i1_0, i0_0, jB_1, jB_0, jB_ib, bI_v, bL_v, bD_v, bV_v, ob_s, ob_i, i3_ofNat, jx_e, bI_e, bL_e, bD_e, bV_e, i3_eq0, i6_eq0, if_mx, if_mn, if_true, if_false, not_true_eq_false, not_false_eq_true, Int.reduceEq, Int.reduceLT, Int.reduceLE, sX12_in]
  by_cases g : 0 ≤ k ∧ k < v 411 43
  · rw [if_pos (by omega), if_pos g]
    exact ⟨_, rfl⟩
  · rw [if_neg (by omega), if_neg g]
    exact ⟨_, rfl⟩
/-- a print's number, told anew -/
def kpsV (v : Nat → Int → Int) (a b q : Int) : Nat → Int → Int := if prF v a b = -1 then (if v 412 3 = 30 then v else up (up (up (up v 412 3 (v 412 3 + 1)) 412 (77 + 3 * v 412 3) a) 412 (77 + 3 * v 412 3 + 1) b) 412 (77 + 3 * v 412 3 + 2) q) else up v 412 (77 + 3 * prF v a b + 2) (v 412 (77 + 3 * prF v a b + 2) + q)
theorem prF_c (a b : Int) : prF v a b = -1 ∨ (0 ≤ prF v a b ∧ prF v a b < v 412 3) := fnd_P (P := fun z => z = -1 ∨ (0 ≤ z ∧ z < v 412 3)) _ 0 (Or.inl rfl) (fun j h1 h2 _ => Or.inr (by omega))
theorem sX12_keeps {a b q : Int} (hT : 18 ≤ T) (hp : prOk v) (h2 : 0 ≤ a) (h3 : a ≤ 2000) (h4 : 0 ≤ b) (h5 : b ≤ 2000) (h6 : 0 ≤ q) (h7 : q ≤ 1000) : jm_env (d + 2) 234 [.ref 411, .int (i3 a), .int (i3 b), .int (i3 q)] (qM X v w T c s) = some (.inl none, qM X (kpsV v a b q) w T c s) := by
  obtain ⟨hp0, hp1, -⟩ := id hp
  unfold kpsV
  rcases prF_c (v := v) a b with hf | ⟨hf, hf1⟩
  · simp (disch := first | assumption | omega) only [eX12_keeps, bX12_keeps_0, bX12_keeps_14, bX12_keeps_27, bX12_keeps_28, bX12_keeps_34, bX12_keeps_98, r12_0, a12_0, w12_0, n12_0, i3_add, i3_sub, i3_mul, i3_neg, i6_add, i6_sub, i6_mul, i6_neg, i3_lt, i3_le, i3_eq, i6_lt, i6_eq, i3_div, i6_div, i6_i3, i3_i6, c6_lt, c6_ge, c6_gt, c6_le, c6_eq, i3_ite, i6_ite, ib_0, ib_z, ite_not, i1_0, i0_0, jB_1, jB_0, jB_ib, bI_v, bL_v, bD_v, bV_v, ob_s, ob_i, i3_ofNat, jx_e, bI_e, bL_e, bD_e, bV_e, i3_eq0, i6_eq0, if_mx, if_mn, if_true, if_false, not_true_eq_false, not_false_eq_true, Int.reduceEq, Int.reduceLT, Int.reduceLE, sX12_printOf, hf]
    by_cases g : v 412 3 = 30
    · simp only [if_pos g]
    · simp only [if_neg g]
      simp (disch := first | assumption | omega) only [eX12_keeps, bX12_keeps_0, bX12_keeps_14, bX12_keeps_27, bX12_keeps_28, bX12_keeps_34, bX12_keeps_98, r12_0, a12_0, w12_0, n12_0, i3_add, i3_sub, i3_mul, i3_neg, i6_add, i6_sub, i6_mul, i6_neg, i3_lt, i3_le, i3_eq, i6_lt, i6_eq, i3_div, i6_div, i6_i3, i3_i6, c6_lt, c6_ge, c6_gt, c6_le, c6_eq, i3_ite, i6_ite, ib_0, ib_z, ite_not, i1_0, i0_0, jB_1, jB_0, jB_ib, bI_v, bL_v, bD_v, bV_v, ob_s, ob_i, i3_ofNat, jx_e, bI_e, bL_e, bD_e, bV_e, i3_eq0, i6_eq0, if_mx, if_mn, if_true, if_false, not_true_eq_false, not_false_eq_true, Int.reduceEq, Int.reduceLT, Int.reduceLE, up_ne, up_eq, up_up, Int.zero_add]
  · simp (disch := first | assumption | omega) only [eX12_keeps, bX12_keeps_0, bX12_keeps_14, bX12_keeps_27, bX12_keeps_28, bX12_keeps_34, bX12_keeps_98, r12_0, a12_0, w12_0, n12_0, i3_add, i3_sub, i3_mul, i3_neg, i6_add, i6_sub, i6_mul, i6_neg, i3_lt, i3_le, i3_eq, i6_lt, i6_eq, i3_div, i6_div, i6_i3, i3_i6, c6_lt, c6_ge, c6_gt, c6_le, c6_eq, i3_ite, i6_ite, ib_0, ib_z, ite_not, i1_0, i0_0, jB_1, jB_0, jB_ib, bI_v, bL_v, bD_v, bV_v, ob_s, ob_i, i3_ofNat, jx_e, bI_e, bL_e, bD_e, bV_e, i3_eq0, i6_eq0, if_mx, if_mn, if_true, if_false, not_true_eq_false, not_false_eq_true, Int.reduceEq, Int.reduceLT, Int.reduceLE, sX12_printOf]
    simp only [if_neg (show ¬ prF v a b = -1 by omega)]
end MOA
