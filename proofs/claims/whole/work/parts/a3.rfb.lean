-- uses 24.zar 25.obj 26.ops 30.rd 31.re 32.rf 34.gen 35.byt 38.mod 41.bit 43.mo5 51.moe 93.tka 97.srp a2.rfa
/-! The reference's reading: what must be, goes on, words, signs, numbers. -/
section RFB
variable {d : Nat} {X : Nat × (Nat → Int32)} {v w : Nat → Int → Int} {T c s : Nat}
variable {b : Int → Int} {n : Nat}
/-- a token read -/
theorem sX12_scan {e : Nat} (hT : 18 ≤ T) (h : txW w b n) (he : e ≤ n) (h18 : w 411 18 = e) (h21 : isI (w 411 21)) : ∃ w', jm_env (d + 3) 245 [.ref 411] (qM X v w T c s) = some (.inl none, qM X v w' T c s) ∧ SC w' b n (sk b e) ∧ w' 411 22 = w 411 22 ∧ w' 411 23 = w 411 23 ∧ frT w' w := by
  have ho := h.1
  have hn := ho.1
  have e0 := sX12_scan_0 (d := d) (X := X) (v := v) (w := w) (T := T) (c := c) (s := s) hT h he
  rw [← h18, up_same] at e0
  rw [eX12_scan (h := hT), e0]
  obtain ⟨⟨s1, s2⟩, -, s3⟩ := sk_s ho he
  generalize hp : sk b e = p at *
  have hbb := b_b ho p
  have hs := fun v' => sX12_see (d := d + 1) (X := X) (v := v') (w := up (up w 411 18 (p : Nat)) 411 19 p) (T := T) (c := c) (s := s) (k := p) hT (txW_u (txW_u h (by omega)) (by omega)) (by omega) (by omega)
  have h2 : txW (up w 411 19 p) b n := txW_u h (by omega)
  have e18 : up (up w 411 18 (p : Nat)) 411 19 p 411 18 = p := by rw [up_ne (by omega), up_eq]
  have h219 : up w 411 19 (p : Int) 411 19 = p := up_eq
  have esw : up (up w 411 18 (p : Nat)) 411 19 p = up (up w 411 19 p) 411 18 (p : Nat) := up_sw (by omega)
  have hfr : ∀ u : Nat → Int → Int, (∀ (m : Nat) (k : Int), (m ≠ 411 ∨ (k ≠ 18 ∧ k ≠ 19 ∧ k ≠ 20 ∧ k ≠ 21 ∧ k ≠ 26)) → u m k = w m k) → txW u b n ∧ u 411 22 = w 411 22 ∧ u 411 23 = w 411 23 ∧ frT u w := fun u hu => by
    have hf : frT u w := fun m k hk => hu m k (by omega)
    exact ⟨txW_fr h hf, hu 411 22 (by omega), hu 411 23 (by omega), hf⟩
  rcases kd_c b p with ⟨k1, k2⟩ | ⟨k1, k2⟩ | ⟨k1, k2⟩ | ⟨k1, k2, k3, k4⟩
  · refine ⟨up (up (up w 411 18 (p : Nat)) 411 19 p) 411 20 0, ?_, ?_⟩
    · simp (disch := first | assumption | omega) only [g12_18, p12_18, p12_19, p12_20, p12_26, g12_19, g12_26, p12_21, g12_21, i3_add, i3_sub, i3_mul, i3_neg, i6_add, i6_sub, i6_mul, i6_neg, i3_lt, i3_le, i3_eq, i6_lt, i6_eq, i3_div, i6_div, i6_i3, i3_i6, c6_lt, c6_ge, c6_gt, c6_le, c6_eq, i3_ite, i6_ite, ib_0, ib_z, ite_not, i1_0, i0_0, jB_1, jB_0, jB_ib, bI_v, bL_v, bD_v, bV_v, ob_s, ob_i, i3_ofNat, jx_e, bI_e, bL_e, bD_e, bV_e, i3_eq0, i6_eq0, if_mx, if_mn, if_true, if_false, not_true_eq_false, not_false_eq_true, Int.reduceEq, Int.reduceLT, Int.reduceLE, bX12_scan_39, bX12_scan_61, bX12_scan_286, up_eq, e18, hs, k2]
    · obtain ⟨f1, f2, f3, f4⟩ := hfr (up (up (up w 411 18 (p : Nat)) 411 19 p) 411 20 0) (fun m k hk => by rw [up_ne (by omega), up_ne (by omega), up_ne (by omega)])
      refine ⟨⟨f1, s2, ?_, ?_, ?_, ?_, fun q => by omega, fun q => by omega⟩, f2, f3, f4⟩
      · rw [up_ne (by omega), up_ne (by omega), up_eq, en_0 k2]
      · rw [up_ne (by omega), up_eq]
      · rw [up_eq, tkM_e.2.2.mpr k1]
      · rw [up_ne (by omega), up_ne (by omega), up_ne (by omega)]; exact h21
  · refine ⟨up (up (up (up w 411 19 p) 411 18 (en b p)) 411 26 (wd b p)) 411 20 1, ?_, ?_⟩
    · have q1 : (b p = -1) = False := eq_false (by omega)
      have q2 : (97 ≤ b p ∧ b p ≤ 122) = True := eq_true k2
      have e3 := sX12_scan_81 (d := d) (X := X) (v := v) (T := T) (c := c) (s := s) (x1 := b p) hT h2 s2 k2 h219
      simp (disch := first | assumption | omega) only [g12_18, p12_18, p12_19, p12_20, p12_26, g12_19, g12_26, p12_21, g12_21, i3_add, i3_sub, i3_mul, i3_neg, i6_add, i6_sub, i6_mul, i6_neg, i3_lt, i3_le, i3_eq, i6_lt, i6_eq, i3_div, i6_div, i6_i3, i3_i6, c6_lt, c6_ge, c6_gt, c6_le, c6_eq, i3_ite, i6_ite, ib_0, ib_z, ite_not, i1_0, i0_0, jB_1, jB_0, jB_ib, bI_v, bL_v, bD_v, bV_v, ob_s, ob_i, i3_ofNat, jx_e, bI_e, bL_e, bD_e, bV_e, i3_eq0, i6_eq0, if_mx, if_mn, if_true, if_false, not_true_eq_false, not_false_eq_true, Int.reduceEq, Int.reduceLT, Int.reduceLE, bX12_scan_39, bX12_scan_69, bX12_scan_76, up_eq, e18, hs, q1, q2, sX12_isSmall]
      rw [esw]
      exact e3
    · obtain ⟨f1, f2, f3, f4⟩ := hfr (up (up (up (up w 411 19 p) 411 18 (en b p)) 411 26 (wd b p)) 411 20 1) (fun m k hk => by rw [up_ne (by omega), up_ne (by omega), up_ne (by omega), up_ne (by omega)])
      refine ⟨⟨f1, s2, ?_, ?_, ?_, ?_, fun q => by omega, fun _ => ?_⟩, f2, f3, f4⟩
      · rw [up_ne (by omega), up_ne (by omega), up_eq]
      · rw [up_ne (by omega), up_ne (by omega), up_ne (by omega), up_eq]
      · rw [up_eq, tkM_e.1.mpr k1]
      · rw [up_ne (by omega), up_ne (by omega), up_ne (by omega), up_ne (by omega)]; exact h21
      · rw [up_ne (by omega), up_eq]
  · have hnb := nv_b ho s2 k1
    refine ⟨up (up (up (up w 411 19 p) 411 18 (en b p)) 411 21 (nv b p)) 411 20 2, ?_, ?_⟩
    · have q1 : (b p = -1) = False := eq_false (by omega)
      have q2 : (97 ≤ b p ∧ b p ≤ 122) = False := eq_false (by omega)
      have q3 : (48 ≤ b p ∧ b p ≤ 57) = True := eq_true k2
      have e3 := sX12_scan_175 (d := d) (X := X) (v := v) (T := T) (c := c) (s := s) (x1 := b p) hT h2 s2 k2
      simp (disch := first | assumption | omega) only [g12_18, p12_18, p12_19, p12_20, p12_26, g12_19, g12_26, p12_21, g12_21, i3_add, i3_sub, i3_mul, i3_neg, i6_add, i6_sub, i6_mul, i6_neg, i3_lt, i3_le, i3_eq, i6_lt, i6_eq, i3_div, i6_div, i6_i3, i3_i6, c6_lt, c6_ge, c6_gt, c6_le, c6_eq, i3_ite, i6_ite, ib_0, ib_z, ite_not, i1_0, i0_0, jB_1, jB_0, jB_ib, bI_v, bL_v, bD_v, bV_v, ob_s, ob_i, i3_ofNat, jx_e, bI_e, bL_e, bD_e, bV_e, i3_eq0, i6_eq0, if_mx, if_mn, if_true, if_false, not_true_eq_false, not_false_eq_true, Int.reduceEq, Int.reduceLT, Int.reduceLE, bX12_scan_39, bX12_scan_69, bX12_scan_163, bX12_scan_170, up_eq, e18, hs, q1, q2, q3, sX12_isSmall, sX12_isDigit]
      rw [esw]
      exact e3
    · obtain ⟨f1, f2, f3, f4⟩ := hfr (up (up (up (up w 411 19 p) 411 18 (en b p)) 411 21 (nv b p)) 411 20 2) (fun m k hk => by rw [up_ne (by omega), up_ne (by omega), up_ne (by omega), up_ne (by omega)])
      refine ⟨⟨f1, s2, ?_, ?_, ?_, ?_, fun q => ?_, fun q => by omega⟩, f2, f3, f4⟩
      · rw [up_ne (by omega), up_ne (by omega), up_eq]
      · rw [up_ne (by omega), up_ne (by omega), up_ne (by omega), up_eq]
      · rw [up_eq, tkM_e.2.1.mpr k1]
      · rw [up_ne (by omega), up_eq]; exact ⟨by omega, by omega⟩
      · rw [up_ne (by omega), up_eq]
  · refine ⟨up (up (up w 411 19 p) 411 20 (tkM b p)) 411 18 (p + 1), ?_, ?_⟩
    · have q1 : (b p = -1) = False := eq_false k2
      have q2 : (97 ≤ b p ∧ b p ≤ 122) = False := eq_false k3
      have q3 : (48 ≤ b p ∧ b p ≤ 57) = False := eq_false k4
      simp (disch := first | assumption | omega) only [g12_18, p12_18, p12_19, p12_20, p12_26, g12_19, g12_26, p12_21, g12_21, i3_add, i3_sub, i3_mul, i3_neg, i6_add, i6_sub, i6_mul, i6_neg, i3_lt, i3_le, i3_eq, i6_lt, i6_eq, i3_div, i6_div, i6_i3, i3_i6, c6_lt, c6_ge, c6_gt, c6_le, c6_eq, i3_ite, i6_ite, ib_0, ib_z, ite_not, i1_0, i0_0, jB_1, jB_0, jB_ib, bI_v, bL_v, bD_v, bV_v, ob_s, ob_i, i3_ofNat, jx_e, bI_e, bL_e, bD_e, bV_e, i3_eq0, i6_eq0, if_mx, if_mn, if_true, if_false, not_true_eq_false, not_false_eq_true, Int.reduceEq, Int.reduceLT, Int.reduceLE, bX12_scan_39, bX12_scan_69, bX12_scan_163, bX12_scan_249, bX12_scan_256, bX12_scan_262, bX12_scan_268, bX12_scan_272, bX12_scan_273, bX12_scan_286, up_eq, e18, hs, q1, q2, q3, sX12_isSmall, sX12_isDigit]
      unfold tkM
      rw [if_pos k1, esw]
      by_cases g1 : b p = 59
      · rw [if_pos g1, if_pos (Or.inl g1)]
        rw [up_ne (by omega), up_eq, up_sw (i := 18) (j := 20) (by omega), up_up]
      · by_cases g2 : b p = 40
        · rw [if_neg g1, if_pos g2, if_pos (Or.inr (Or.inl g2))]
          rw [up_ne (by omega), up_eq, up_sw (i := 18) (j := 20) (by omega), up_up]
        · by_cases g3 : b p = 41
          · rw [if_neg g1, if_neg g2, if_pos g3, if_pos (Or.inr (Or.inr g3))]
            rw [up_ne (by omega), up_eq, up_sw (i := 18) (j := 20) (by omega), up_up]
          · rw [if_neg g1, if_neg g2, if_neg g3, if_neg (by omega)]
            rw [up_ne (by omega), up_eq, up_sw (i := 18) (j := 20) (by omega), up_up]
    · obtain ⟨f1, f2, f3, f4⟩ := hfr (up (up (up w 411 19 p) 411 20 (tkM b p)) 411 18 (p + 1)) (fun m k hk => by rw [up_ne (by omega), up_ne (by omega), up_ne (by omega)])
      refine ⟨⟨f1, s2, ?_, ?_, ?_, ?_, fun q => by omega, fun q => by omega⟩, f2, f3, f4⟩
      · rw [up_eq, en_3 k2 k3 k4]; omega
      · rw [up_ne (by omega), up_ne (by omega), up_eq]
      · rw [up_ne (by omega), up_eq]
      · rw [up_ne (by omega), up_ne (by omega), up_ne (by omega)]; exact h21
theorem SC_u {p : Nat} {k z : Int} (h : SC w b n p) (hk : k = 22 ∨ k = 23) : SC (up w 411 k z) b n p := by
  obtain ⟨a, b, c, d, e, f, g, i⟩ := h
  refine ⟨txW_u a (by omega), b, ?_, ?_, ?_, ?_, ?_, ?_⟩
  all_goals rw [up_ne (by omega)]; assumption
theorem frT_u {k z : Int} (h : 18 ≤ k ∧ k ≤ 23) : frT (up w 411 k z) w := fun m j hj => up_ne (by omega)
theorem BD_b {cd : Int} {q : Nat} (h : BD w b n cd q) : w 411 22 = cd ∧ 1 ≤ cd ∧ cd ≤ 4 := ⟨h.2.1, h.2.2.2⟩
theorem sX12_must_bad {cd z x : Int} (hT : 18 ≤ T) (h22 : w 411 22 = cd) (h1 : 1 ≤ cd) (h4 : cd ≤ 4) (hx : x = 0 ∨ x = 1) : jm_env (d + 1) 247 [.ref 411, .int (i3 x), .int (i3 z)] (qM X v w T c s) = some (.inl none, (qM X v w T c s)) := by
  have q : (cd = 0) = False := eq_false (by omega)
  rcases hx with rfl | rfl <;> simp (disch := first | assumption | omega) only [↓reduceIte, eX12_must, bX12_must_0, bX12_must_7, bX12_must_11, bX12_must_24, g12_22, p12_22, g12_19, p12_23, i3_add, i3_sub, i3_mul, i3_neg, i6_add, i6_sub, i6_mul, i6_neg, i3_lt, i3_le, i3_eq, i6_lt, i6_eq, i3_div, i6_div, i6_i3, i3_i6, c6_lt, c6_ge, c6_gt, c6_le, c6_eq, i3_ite, i6_ite, ib_0, ib_z, ite_not, i1_0, i0_0, jB_1, jB_0, jB_ib, bI_v, bL_v, bD_v, bV_v, ob_s, ob_i, i3_ofNat, jx_e, bI_e, bL_e, bD_e, bV_e, i3_eq0, i6_eq0, if_mx, if_mn, if_true, if_false, not_true_eq_false, not_false_eq_true, Int.reduceEq, Int.reduceLT, Int.reduceLE, h22, q]
theorem sX12_must_1 {z : Int} (hT : 18 ≤ T) (h22 : w 411 22 = 0) : jm_env (d + 1) 247 [.ref 411, .int (i3 1), .int (i3 z)] (qM X v w T c s) = some (.inl none, (qM X v w T c s)) := by
  simp (disch := first | assumption | omega) only [↓reduceIte, eX12_must, bX12_must_0, bX12_must_7, bX12_must_11, bX12_must_24, g12_22, p12_22, g12_19, p12_23, i3_add, i3_sub, i3_mul, i3_neg, i6_add, i6_sub, i6_mul, i6_neg, i3_lt, i3_le, i3_eq, i6_lt, i6_eq, i3_div, i6_div, i6_i3, i3_i6, c6_lt, c6_ge, c6_gt, c6_le, c6_eq, i3_ite, i6_ite, ib_0, ib_z, ite_not, i1_0, i0_0, jB_1, jB_0, jB_ib, bI_v, bL_v, bD_v, bV_v, ob_s, ob_i, i3_ofNat, jx_e, bI_e, bL_e, bD_e, bV_e, i3_eq0, i6_eq0, if_mx, if_mn, if_true, if_false, not_true_eq_false, not_false_eq_true, Int.reduceEq, Int.reduceLT, Int.reduceLE, h22]
theorem sX12_must_0 {z : Int} {p : Nat} (hT : 18 ≤ T) (h22 : w 411 22 = 0) (h : SC w b n p) : jm_env (d + 1) 247 [.ref 411, .int (i3 0), .int (i3 z)] (qM X v w T c s) = some (.inl none, qM X v (up (up w 411 22 z) 411 23 p) T c s) := by
  have h19 := h.2.2.2.1
  simp (disch := first | assumption | omega) only [↓reduceIte, eX12_must, bX12_must_0, bX12_must_7, bX12_must_11, bX12_must_24, g12_22, p12_22, g12_19, p12_23, i3_add, i3_sub, i3_mul, i3_neg, i6_add, i6_sub, i6_mul, i6_neg, i3_lt, i3_le, i3_eq, i6_lt, i6_eq, i3_div, i6_div, i6_i3, i3_i6, c6_lt, c6_ge, c6_gt, c6_le, c6_eq, i3_ite, i6_ite, ib_0, ib_z, ite_not, i1_0, i0_0, jB_1, jB_0, jB_ib, bI_v, bL_v, bD_v, bV_v, ob_s, ob_i, i3_ofNat, jx_e, bI_e, bL_e, bD_e, bV_e, i3_eq0, i6_eq0, if_mx, if_mn, if_true, if_false, not_true_eq_false, not_false_eq_true, Int.reduceEq, Int.reduceLT, Int.reduceLE, h22, up_ne, h19]
theorem BD_mk {z : Int} {p : Nat} (h : SC w b n p) (z1 : 1 ≤ z) (z4 : z ≤ 4) : BD (up (up w 411 22 z) 411 23 p) b n z p ∧ frT (up (up w 411 22 z) 411 23 p) w := by
  refine ⟨⟨⟨p, SC_u (SC_u h (Or.inl rfl)) (Or.inr rfl)⟩, by rw [up_ne (by omega), up_eq], up_eq, z1, z4⟩, frT_tr (frT_u (by omega)) (frT_u (by omega))⟩
theorem sX12_goesOn_1 {p : Nat} (hT : 18 ≤ T) (h : GD w b n p) : ∃ w', jm_env (d + 4) 248 [.ref 411] (qM X v w T c s) = some (.inl none, qM X v w' T c s) ∧ GD w' b n (nx b p) ∧ frT w' w := by
  obtain ⟨⟨h1, h2, h3, h4, h5, h6, h7, h8⟩, h22⟩ := h
  have hen := en_b h1.1 h2
  obtain ⟨w', e, hs, x22, x23, hf⟩ := sX12_scan (d := d) (X := X) (v := v) (T := T) (c := c) (s := s) hT h1 hen.2 h3 h6
  refine ⟨w', ?_, ⟨hs, x22.trans h22⟩, hf⟩
  simp (disch := first | assumption | omega) only [↓reduceIte, eX12_goesOn, bX12_goesOn_0, bX12_goesOn_7, bX12_goesOn_11, i3_add, i3_sub, i3_mul, i3_neg, i6_add, i6_sub, i6_mul, i6_neg, i3_lt, i3_le, i3_eq, i6_lt, i6_eq, i3_div, i6_div, i6_i3, i3_i6, c6_lt, c6_ge, c6_gt, c6_le, c6_eq, i3_ite, i6_ite, ib_0, ib_z, ite_not, i1_0, i0_0, jB_1, jB_0, jB_ib, bI_v, bL_v, bD_v, bV_v, ob_s, ob_i, i3_ofNat, jx_e, bI_e, bL_e, bD_e, bV_e, i3_eq0, i6_eq0, if_mx, if_mn, if_true, if_false, not_true_eq_false, not_false_eq_true, Int.reduceEq, Int.reduceLT, Int.reduceLE, g12_22, h22, e]
theorem sX12_goesOn_0 {cd : Int} {q : Nat} (hT : 18 ≤ T) (h : BD w b n cd q) : jm_env (d + 4) 248 [.ref 411] (qM X v w T c s) = some (.inl none, (qM X v w T c s)) := by
  obtain ⟨h22, h1, h4⟩ := BD_b h
  have q : (cd = 0) = False := eq_false (by omega)
  simp (disch := first | assumption | omega) only [↓reduceIte, eX12_goesOn, bX12_goesOn_0, bX12_goesOn_7, bX12_goesOn_11, i3_add, i3_sub, i3_mul, i3_neg, i6_add, i6_sub, i6_mul, i6_neg, i3_lt, i3_le, i3_eq, i6_lt, i6_eq, i3_div, i6_div, i6_i3, i3_i6, c6_lt, c6_ge, c6_gt, c6_le, c6_eq, i3_ite, i6_ite, ib_0, ib_z, ite_not, i1_0, i0_0, jB_1, jB_0, jB_ib, bI_v, bL_v, bD_v, bV_v, ob_s, ob_i, i3_ofNat, jx_e, bI_e, bL_e, bD_e, bV_e, i3_eq0, i6_eq0, if_mx, if_mn, if_true, if_false, not_true_eq_false, not_false_eq_true, Int.reduceEq, Int.reduceLT, Int.reduceLE, g12_22, h22, q]
theorem sX12_isGood_1 (hT : 18 ≤ T) (h22 : w 411 22 = 0) : jm_env (d + 1) 246 [.ref 411] (qM X v w T c s) = some (.inl (some (.int (i3 (1)))), (qM X v w T c s)) := by
  simp (disch := first | assumption | omega) only [↓reduceIte, eX12_isGood, bX12_isGood_0, bX12_isGood_7, bX12_isGood_11, bX12_isGood_12, g12_22, i3_add, i3_sub, i3_mul, i3_neg, i6_add, i6_sub, i6_mul, i6_neg, i3_lt, i3_le, i3_eq, i6_lt, i6_eq, i3_div, i6_div, i6_i3, i3_i6, c6_lt, c6_ge, c6_gt, c6_le, c6_eq, i3_ite, i6_ite, ib_0, ib_z, ite_not, i1_0, i0_0, jB_1, jB_0, jB_ib, bI_v, bL_v, bD_v, bV_v, ob_s, ob_i, i3_ofNat, jx_e, bI_e, bL_e, bD_e, bV_e, i3_eq0, i6_eq0, if_mx, if_mn, if_true, if_false, not_true_eq_false, not_false_eq_true, Int.reduceEq, Int.reduceLT, Int.reduceLE, h22]
theorem sX12_isGood_0 {cd : Int} {q : Nat} (hT : 18 ≤ T) (h : BD w b n cd q) : jm_env (d + 1) 246 [.ref 411] (qM X v w T c s) = some (.inl (some (.int (i3 (0)))), (qM X v w T c s)) := by
  obtain ⟨h22, h1, h4⟩ := BD_b h
  have q : (cd = 0) = False := eq_false (by omega)
  simp (disch := first | assumption | omega) only [↓reduceIte, eX12_isGood, bX12_isGood_0, bX12_isGood_7, bX12_isGood_11, bX12_isGood_12, g12_22, i3_add, i3_sub, i3_mul, i3_neg, i6_add, i6_sub, i6_mul, i6_neg, i3_lt, i3_le, i3_eq, i6_lt, i6_eq, i3_div, i6_div, i6_i3, i3_i6, c6_lt, c6_ge, c6_gt, c6_le, c6_eq, i3_ite, i6_ite, ib_0, ib_z, ite_not, i1_0, i0_0, jB_1, jB_0, jB_ib, bI_v, bL_v, bD_v, bV_v, ob_s, ob_i, i3_ofNat, jx_e, bI_e, bL_e, bD_e, bV_e, i3_eq0, i6_eq0, if_mx, if_mn, if_true, if_false, not_true_eq_false, not_false_eq_true, Int.reduceEq, Int.reduceLT, Int.reduceLE, h22, q]
theorem sX12_isWord {p : Nat} {W : Int} (hT : 18 ≤ T) (h : GD w b n p) (W0 : 0 ≤ W) (W1 : W < 1152921504606846976) : jm_env (d + 1) 250 [.ref 411, .long (i6 W)] (qM X v w T c s) = some (.inl (some (.int (i3 (if isW b p W then 1 else 0)))), (qM X v w T c s)) := by
  obtain ⟨⟨h1, h2, h3, h4, h5, h6, h7, h8⟩, h22⟩ := h
  have ho := h1.1
  have hn := ho.1
  have hen := en_b ho h2
  have htk := tkM_b b p
  by_cases g : kd b p = 1
  · have hwb := wd_b ho h2 g
    have e26 := h8 g
    have q1 : (tkM b p = 1) = True := eq_true (tkM_e.1.mpr g)
    by_cases g2 : en b p - p < 12
    · have q2 : ((12 : Int) ≤ (en b p : Int) - p) = False := eq_false (by omega)
      simp (disch := first | assumption | omega) only [↓reduceIte, eX12_isWord, bX12_isWord_0, bX12_isWord_7, bX12_isWord_15, bX12_isWord_29, bX12_isWord_38, bX12_isWord_42, bX12_isWord_43, g12_22, g12_20, g12_18, g12_19, g12_26, i3_add, i3_sub, i3_mul, i3_neg, i6_add, i6_sub, i6_mul, i6_neg, i3_lt, i3_le, i3_eq, i6_lt, i6_eq, i3_div, i6_div, i6_i3, i3_i6, c6_lt, c6_ge, c6_gt, c6_le, c6_eq, i3_ite, i6_ite, ib_0, ib_z, ite_not, i1_0, i0_0, jB_1, jB_0, jB_ib, bI_v, bL_v, bD_v, bV_v, ob_s, ob_i, i3_ofNat, jx_e, bI_e, bL_e, bD_e, bV_e, i3_eq0, i6_eq0, if_mx, if_mn, if_true, if_false, not_true_eq_false, not_false_eq_true, Int.reduceEq, Int.reduceLT, Int.reduceLE, h22, h5, q1, h3, h4, q2, e26]
      by_cases g3 : wd b p = W
      · rw [if_pos g3, if_pos ⟨g, g2, g3⟩]
      · rw [if_neg g3, if_neg (fun q => g3 q.2.2)]
    · have q2 : ((12 : Int) ≤ (en b p : Int) - p) = True := eq_true (by omega)
      rw [if_neg (fun q => g2 q.2.1)]
      simp (disch := first | assumption | omega) only [↓reduceIte, eX12_isWord, bX12_isWord_0, bX12_isWord_7, bX12_isWord_15, bX12_isWord_29, bX12_isWord_38, bX12_isWord_42, bX12_isWord_43, g12_22, g12_20, g12_18, g12_19, g12_26, i3_add, i3_sub, i3_mul, i3_neg, i6_add, i6_sub, i6_mul, i6_neg, i3_lt, i3_le, i3_eq, i6_lt, i6_eq, i3_div, i6_div, i6_i3, i3_i6, c6_lt, c6_ge, c6_gt, c6_le, c6_eq, i3_ite, i6_ite, ib_0, ib_z, ite_not, i1_0, i0_0, jB_1, jB_0, jB_ib, bI_v, bL_v, bD_v, bV_v, ob_s, ob_i, i3_ofNat, jx_e, bI_e, bL_e, bD_e, bV_e, i3_eq0, i6_eq0, if_mx, if_mn, if_true, if_false, not_true_eq_false, not_false_eq_true, Int.reduceEq, Int.reduceLT, Int.reduceLE, h22, h5, q1, h3, h4, q2]
  · have q1 : (tkM b p = 1) = False := eq_false (fun q => g (tkM_e.1.mp q))
    rw [if_neg (fun q => g q.1)]
    simp (disch := first | assumption | omega) only [↓reduceIte, eX12_isWord, bX12_isWord_0, bX12_isWord_7, bX12_isWord_15, bX12_isWord_29, bX12_isWord_38, bX12_isWord_42, bX12_isWord_43, g12_22, g12_20, g12_18, g12_19, g12_26, i3_add, i3_sub, i3_mul, i3_neg, i6_add, i6_sub, i6_mul, i6_neg, i3_lt, i3_le, i3_eq, i6_lt, i6_eq, i3_div, i6_div, i6_i3, i3_i6, c6_lt, c6_ge, c6_gt, c6_le, c6_eq, i3_ite, i6_ite, ib_0, ib_z, ite_not, i1_0, i0_0, jB_1, jB_0, jB_ib, bI_v, bL_v, bD_v, bV_v, ob_s, ob_i, i3_ofNat, jx_e, bI_e, bL_e, bD_e, bV_e, i3_eq0, i6_eq0, if_mx, if_mn, if_true, if_false, not_true_eq_false, not_false_eq_true, Int.reduceEq, Int.reduceLT, Int.reduceLE, h22, h5, q1]
theorem sX12_isWord_bad {cd W : Int} {q : Nat} (hT : 18 ≤ T) (h : BD w b n cd q) : jm_env (d + 1) 250 [.ref 411, .long (i6 W)] (qM X v w T c s) = some (.inl (some (.int (i3 (0)))), (qM X v w T c s)) := by
  obtain ⟨h22, h1, h4⟩ := BD_b h
  have q : (cd = 0) = False := eq_false (by omega)
  simp (disch := first | assumption | omega) only [↓reduceIte, eX12_isWord, bX12_isWord_0, bX12_isWord_7, bX12_isWord_15, bX12_isWord_29, bX12_isWord_38, bX12_isWord_42, bX12_isWord_43, g12_22, g12_20, g12_18, g12_19, g12_26, i3_add, i3_sub, i3_mul, i3_neg, i6_add, i6_sub, i6_mul, i6_neg, i3_lt, i3_le, i3_eq, i6_lt, i6_eq, i3_div, i6_div, i6_i3, i3_i6, c6_lt, c6_ge, c6_gt, c6_le, c6_eq, i3_ite, i6_ite, ib_0, ib_z, ite_not, i1_0, i0_0, jB_1, jB_0, jB_ib, bI_v, bL_v, bD_v, bV_v, ob_s, ob_i, i3_ofNat, jx_e, bI_e, bL_e, bD_e, bV_e, i3_eq0, i6_eq0, if_mx, if_mn, if_true, if_false, not_true_eq_false, not_false_eq_true, Int.reduceEq, Int.reduceLT, Int.reduceLE, h22, q]
theorem sX12_isSign {p : Nat} {z : Int} (hT : 18 ≤ T) (h : GD w b n p) (hz : z = 59 ∨ z = 40 ∨ z = 41) : jm_env (d + 1) 251 [.ref 411, .int (i3 z)] (qM X v w T c s) = some (.inl (some (.int (i3 (if isG b p z then 1 else 0)))), (qM X v w T c s)) := by
  obtain ⟨⟨h1, h2, h3, h4, h5, h6, h7, h8⟩, h22⟩ := h
  have ho := h1.1
  have hn := ho.1
  have htk := tkM_b b p
  have hbb := b_b ho p
  by_cases g : kd b p = 3
  · have hpn : p < n := by
      by_cases k : p < n
      · exact k
      · have : p = n := by omega
        rcases kd_c b p with ⟨k1, -⟩ | ⟨k1, -⟩ | ⟨k1, -⟩ | ⟨k1, k2, -, -⟩ <;> first | omega | exact absurd ((b_end ho h2).mpr this) k2
    have e21 := h1.2.2 p (by omega) (by omega)
    have etk : tkM b p = if b p = 59 ∨ b p = 40 ∨ b p = 41 then 3 else 4 := if_pos g
    by_cases g2 : b p = 59 ∨ b p = 40 ∨ b p = 41
    · rw [if_pos g2] at etk
      simp (disch := first | assumption | omega) only [↓reduceIte, eX12_isSign, bX12_isSign_0, bX12_isSign_7, bX12_isSign_15, bX12_isSign_28, bX12_isSign_32, bX12_isSign_33, g12_22, g12_20, r12_15, a12_15, w12_15, n12_15, g12_19, i3_add, i3_sub, i3_mul, i3_neg, i6_add, i6_sub, i6_mul, i6_neg, i3_lt, i3_le, i3_eq, i6_lt, i6_eq, i3_div, i6_div, i6_i3, i3_i6, c6_lt, c6_ge, c6_gt, c6_le, c6_eq, i3_ite, i6_ite, ib_0, ib_z, ite_not, i1_0, i0_0, jB_1, jB_0, jB_ib, bI_v, bL_v, bD_v, bV_v, ob_s, ob_i, i3_ofNat, jx_e, bI_e, bL_e, bD_e, bV_e, i3_eq0, i6_eq0, if_mx, if_mn, if_true, if_false, not_true_eq_false, not_false_eq_true, Int.reduceEq, Int.reduceLT, Int.reduceLE, h22, h5, etk, h4, e21]
      by_cases g3 : b p = z
      · rw [if_pos g3, if_pos ⟨g, g3⟩]
      · rw [if_neg g3, if_neg (fun q => g3 q.2)]
    · rw [if_neg g2] at etk
      rw [if_neg (fun q => g2 (by rw [q.2]; exact hz))]
      simp (disch := first | assumption | omega) only [↓reduceIte, eX12_isSign, bX12_isSign_0, bX12_isSign_7, bX12_isSign_15, bX12_isSign_28, bX12_isSign_32, bX12_isSign_33, g12_22, g12_20, r12_15, a12_15, w12_15, n12_15, g12_19, i3_add, i3_sub, i3_mul, i3_neg, i6_add, i6_sub, i6_mul, i6_neg, i3_lt, i3_le, i3_eq, i6_lt, i6_eq, i3_div, i6_div, i6_i3, i3_i6, c6_lt, c6_ge, c6_gt, c6_le, c6_eq, i3_ite, i6_ite, ib_0, ib_z, ite_not, i1_0, i0_0, jB_1, jB_0, jB_ib, bI_v, bL_v, bD_v, bV_v, ob_s, ob_i, i3_ofNat, jx_e, bI_e, bL_e, bD_e, bV_e, i3_eq0, i6_eq0, if_mx, if_mn, if_true, if_false, not_true_eq_false, not_false_eq_true, Int.reduceEq, Int.reduceLT, Int.reduceLE, h22, h5, etk, show ((4 : Int) = 3) = False from by decide]
  · have q1 : (tkM b p = 3) = False := eq_false (fun q => g (by
      unfold tkM at q
      split at q
      · assumption
      · omega))
    rw [if_neg (fun q => g q.1)]
    simp (disch := first | assumption | omega) only [↓reduceIte, eX12_isSign, bX12_isSign_0, bX12_isSign_7, bX12_isSign_15, bX12_isSign_28, bX12_isSign_32, bX12_isSign_33, g12_22, g12_20, r12_15, a12_15, w12_15, n12_15, g12_19, i3_add, i3_sub, i3_mul, i3_neg, i6_add, i6_sub, i6_mul, i6_neg, i3_lt, i3_le, i3_eq, i6_lt, i6_eq, i3_div, i6_div, i6_i3, i3_i6, c6_lt, c6_ge, c6_gt, c6_le, c6_eq, i3_ite, i6_ite, ib_0, ib_z, ite_not, i1_0, i0_0, jB_1, jB_0, jB_ib, bI_v, bL_v, bD_v, bV_v, ob_s, ob_i, i3_ofNat, jx_e, bI_e, bL_e, bD_e, bV_e, i3_eq0, i6_eq0, if_mx, if_mn, if_true, if_false, not_true_eq_false, not_false_eq_true, Int.reduceEq, Int.reduceLT, Int.reduceLE, h22, h5, q1]
theorem sX12_isSign_bad {cd z : Int} {q : Nat} (hT : 18 ≤ T) (h : BD w b n cd q) : jm_env (d + 1) 251 [.ref 411, .int (i3 z)] (qM X v w T c s) = some (.inl (some (.int (i3 (0)))), (qM X v w T c s)) := by
  obtain ⟨h22, h1, h4⟩ := BD_b h
  have q : (cd = 0) = False := eq_false (by omega)
  simp (disch := first | assumption | omega) only [↓reduceIte, eX12_isSign, bX12_isSign_0, bX12_isSign_7, bX12_isSign_15, bX12_isSign_28, bX12_isSign_32, bX12_isSign_33, g12_22, g12_20, r12_15, a12_15, w12_15, n12_15, g12_19, i3_add, i3_sub, i3_mul, i3_neg, i6_add, i6_sub, i6_mul, i6_neg, i3_lt, i3_le, i3_eq, i6_lt, i6_eq, i3_div, i6_div, i6_i3, i3_i6, c6_lt, c6_ge, c6_gt, c6_le, c6_eq, i3_ite, i6_ite, ib_0, ib_z, ite_not, i1_0, i0_0, jB_1, jB_0, jB_ib, bI_v, bL_v, bD_v, bV_v, ob_s, ob_i, i3_ofNat, jx_e, bI_e, bL_e, bD_e, bV_e, i3_eq0, i6_eq0, if_mx, if_mn, if_true, if_false, not_true_eq_false, not_false_eq_true, Int.reduceEq, Int.reduceLT, Int.reduceLE, h22, q]
theorem sX12_sign_1 {p : Nat} {z : Int} (hT : 18 ≤ T) (h : GD w b n p) (hz : z = 59 ∨ z = 40 ∨ z = 41) (g : isG b p z) : ∃ w', jm_env (d + 5) 252 [.ref 411, .int (i3 z)] (qM X v w T c s) = some (.inl none, qM X v w' T c s) ∧ GD w' b n (nx b p) ∧ frT w' w := by
  obtain ⟨w', e, hg, hf⟩ := sX12_goesOn_1 (d := d) (X := X) (v := v) (T := T) (c := c) (s := s) hT h
  have e1 := sX12_isSign (d := d + 3) (X := X) (v := v) (T := T) (c := c) (s := s) hT h hz
  rw [if_pos g] at e1
  have e2 := sX12_must_1 (d := d + 3) (X := X) (v := v) (T := T) (c := c) (s := s) (z := 1) hT h.2
  refine ⟨w', ?_, hg, hf⟩
  simp (disch := first | assumption | omega) only [eX12_sign, bX12_sign_0, i3_add, i3_sub, i3_mul, i3_neg, i6_add, i6_sub, i6_mul, i6_neg, i3_lt, i3_le, i3_eq, i6_lt, i6_eq, i3_div, i6_div, i6_i3, i3_i6, c6_lt, c6_ge, c6_gt, c6_le, c6_eq, i3_ite, i6_ite, ib_0, ib_z, ite_not, i1_0, i0_0, jB_1, jB_0, jB_ib, bI_v, bL_v, bD_v, bV_v, ob_s, ob_i, i3_ofNat, jx_e, bI_e, bL_e, bD_e, bV_e, i3_eq0, i6_eq0, if_mx, if_mn, if_true, if_false, not_true_eq_false, not_false_eq_true, Int.reduceEq, Int.reduceLT, Int.reduceLE, e1, e2, e]
theorem sX12_sign_0 {p : Nat} {z : Int} (hT : 18 ≤ T) (h : GD w b n p) (hz : z = 59 ∨ z = 40 ∨ z = 41) (g : ¬ isG b p z) : ∃ w', jm_env (d + 5) 252 [.ref 411, .int (i3 z)] (qM X v w T c s) = some (.inl none, qM X v w' T c s) ∧ BD w' b n 1 p ∧ frT w' w := by
  obtain ⟨hb, hf⟩ := BD_mk (z := 1) h.1 (by omega) (by omega)
  have e1 := sX12_isSign (d := d + 3) (X := X) (v := v) (T := T) (c := c) (s := s) hT h hz
  rw [if_neg g] at e1
  have e2 := sX12_must_0 (d := d + 3) (X := X) (v := v) (T := T) (c := c) (s := s) (z := 1) hT h.2 h.1
  have e3 := sX12_goesOn_0 (d := d) (X := X) (v := v) (T := T) (c := c) (s := s) hT hb
  refine ⟨_, ?_, hb, hf⟩
  simp (disch := first | assumption | omega) only [eX12_sign, bX12_sign_0, i3_add, i3_sub, i3_mul, i3_neg, i6_add, i6_sub, i6_mul, i6_neg, i3_lt, i3_le, i3_eq, i6_lt, i6_eq, i3_div, i6_div, i6_i3, i3_i6, c6_lt, c6_ge, c6_gt, c6_le, c6_eq, i3_ite, i6_ite, ib_0, ib_z, ite_not, i1_0, i0_0, jB_1, jB_0, jB_ib, bI_v, bL_v, bD_v, bV_v, ob_s, ob_i, i3_ofNat, jx_e, bI_e, bL_e, bD_e, bV_e, i3_eq0, i6_eq0, if_mx, if_mn, if_true, if_false, not_true_eq_false, not_false_eq_true, Int.reduceEq, Int.reduceLT, Int.reduceLE, e1, e2, e3]
theorem sX12_sign_bad {cd z : Int} {q : Nat} (hT : 18 ≤ T) (h : BD w b n cd q) : jm_env (d + 5) 252 [.ref 411, .int (i3 z)] (qM X v w T c s) = some (.inl none, (qM X v w T c s)) := by
  have e1 := sX12_isSign_bad (d := d + 3) (X := X) (v := v) (T := T) (c := c) (s := s) (z := z) hT h
  obtain ⟨h22, h1, h4⟩ := BD_b h
  have e2 := sX12_must_bad (d := d + 3) (X := X) (v := v) (T := T) (c := c) (s := s) (z := 1) (x := 0) hT h22 h1 h4 (Or.inl rfl)
  have e3 := sX12_goesOn_0 (d := d) (X := X) (v := v) (T := T) (c := c) (s := s) hT h
  simp (disch := first | assumption | omega) only [eX12_sign, bX12_sign_0, i3_add, i3_sub, i3_mul, i3_neg, i6_add, i6_sub, i6_mul, i6_neg, i3_lt, i3_le, i3_eq, i6_lt, i6_eq, i3_div, i6_div, i6_i3, i3_i6, c6_lt, c6_ge, c6_gt, c6_le, c6_eq, i3_ite, i6_ite, ib_0, ib_z, ite_not, i1_0, i0_0, jB_1, jB_0, jB_ib, bI_v, bL_v, bD_v, bV_v, ob_s, ob_i, i3_ofNat, jx_e, bI_e, bL_e, bD_e, bV_e, i3_eq0, i6_eq0, if_mx, if_mn, if_true, if_false, not_true_eq_false, not_false_eq_true, Int.reduceEq, Int.reduceLT, Int.reduceLE, e1, e2, e3]
theorem sX12_reads_1 {p : Nat} {x y : Int} (hT : 18 ≤ T) (h : GD w b n p) (x0 : 0 ≤ x) (y1 : y ≤ 9999) (g : isN b p x y) : ∃ w', jm_env (d + 5) 253 [.ref 411, .int (i3 x), .int (i3 y)] (qM X v w T c s) = some (.inl (some (.int (i3 (nv b p)))), qM X v w' T c s) ∧ GD w' b n (nx b p) ∧ frT w' w := by
  obtain ⟨w', e, hg, hf⟩ := sX12_goesOn_1 (d := d) (X := X) (v := v) (T := T) (c := c) (s := s) hT h
  obtain ⟨⟨h1, h2, h3, h4, h5, h6, h7, h8⟩, h22⟩ := id h
  obtain ⟨g1, g2, g3⟩ := id g
  have htk := tkM_b b p
  have q1 : (tkM b p = 2) = True := eq_true (tkM_e.2.1.mpr g1)
  have e21 := h7 g1
  have hin : (x ≤ nv b p ∧ nv b p ≤ y) = True := eq_true ⟨g2, g3⟩
  have e2 := fun z => sX12_must_1 (d := d + 3) (X := X) (v := v) (T := T) (c := c) (s := s) (z := z) hT h22
  have x22 := hg.2
  refine ⟨w', ?_, hg, hf⟩
  simp (disch := first | assumption | omega) only [↓reduceIte, eX12_reads, bX12_reads_0, bX12_reads_9, bX12_reads_13, bX12_reads_14, bX12_reads_51, bX12_reads_55, bX12_reads_56, i3_add, i3_sub, i3_mul, i3_neg, i6_add, i6_sub, i6_mul, i6_neg, i3_lt, i3_le, i3_eq, i6_lt, i6_eq, i3_div, i6_div, i6_i3, i3_i6, c6_lt, c6_ge, c6_gt, c6_le, c6_eq, i3_ite, i6_ite, ib_0, ib_z, ite_not, i1_0, i0_0, jB_1, jB_0, jB_ib, bI_v, bL_v, bD_v, bV_v, ob_s, ob_i, i3_ofNat, jx_e, bI_e, bL_e, bD_e, bV_e, i3_eq0, i6_eq0, if_mx, if_mn, if_true, if_false, not_true_eq_false, not_false_eq_true, Int.reduceEq, Int.reduceLT, Int.reduceLE, g12_20, g12_21, g12_22, h5, q1, e21, e2, sX12_in, hin, e, x22]
/-- .. whatever number it is -/
theorem sX12_in_u {z x y : Int} {m : jm_Mem} (hz : isI z) (x0 : 0 ≤ x) (x1 : x ≤ 9999) (y0 : 0 ≤ y) (y1 : y ≤ 9999) : ∃ r : Int, (r = 0 ∨ r = 1) ∧ jm_env (d + 1) 206 [.long (i6 z), .long (i6 x), .long (i6 y)] m = some (.inl (some (.int (i3 (r)))), m) := by
  obtain ⟨z0, z1⟩ := hz
  have e := sX12_in (d := d) (m := m) (a := z) (b := x) (e := y) (by omega) (by omega) (by omega) (by omega) (by omega) (by omega)
  exact ⟨_, by split <;> omega, e⟩
theorem sX12_reads_0 {p : Nat} {x y : Int} (hT : 18 ≤ T) (h : GD w b n p) (x0 : 0 ≤ x) (xy : x ≤ y) (y1 : y ≤ 9999) (g : ¬ isN b p x y) : ∃ w', jm_env (d + 5) 253 [.ref 411, .int (i3 x), .int (i3 y)] (qM X v w T c s) = some (.inl (some (.int (i3 (x)))), qM X v w' T c s) ∧ BD w' b n (ecN b p) p ∧ frT w' w := by
  obtain ⟨⟨h1, h2, h3, h4, h5, h6, h7, h8⟩, h22⟩ := id h
  have htk := tkM_b b p
  unfold ecN
  by_cases k : kd b p = 2
  · rw [if_pos k]
    obtain ⟨hb, hf⟩ := BD_mk (z := 2) h.1 (by omega) (by omega)
    have hnb := nv_b h1.1 h2 k
    have q1 : (tkM b p = 2) = True := eq_true (tkM_e.2.1.mpr k)
    have e21 := h7 k
    have hin : (x ≤ nv b p ∧ nv b p ≤ y) = False := eq_false (fun q => g ⟨k, q⟩)
    have e2 := sX12_must_1 (d := d + 3) (X := X) (v := v) (T := T) (c := c) (s := s) (z := 1) hT h22
    have e3 := sX12_must_0 (d := d + 3) (X := X) (v := v) (T := T) (c := c) (s := s) (z := 2) hT h22 h.1
    have e4 := sX12_goesOn_0 (d := d) (X := X) (v := v) (T := T) (c := c) (s := s) hT hb
    have x21 : up (up w 411 22 2) 411 23 p 411 21 = nv b p := by rw [up_ne (by omega), up_ne (by omega), e21]
    have x22 : up (up w 411 22 2) 411 23 p 411 22 = 2 := hb.2.1
    refine ⟨_, ?_, hb, hf⟩
    simp (disch := first | assumption | omega) only [↓reduceIte, eX12_reads, bX12_reads_0, bX12_reads_9, bX12_reads_13, bX12_reads_14, bX12_reads_51, bX12_reads_55, bX12_reads_56, i3_add, i3_sub, i3_mul, i3_neg, i6_add, i6_sub, i6_mul, i6_neg, i3_lt, i3_le, i3_eq, i6_lt, i6_eq, i3_div, i6_div, i6_i3, i3_i6, c6_lt, c6_ge, c6_gt, c6_le, c6_eq, i3_ite, i6_ite, ib_0, ib_z, ite_not, i1_0, i0_0, jB_1, jB_0, jB_ib, bI_v, bL_v, bD_v, bV_v, ob_s, ob_i, i3_ofNat, jx_e, bI_e, bL_e, bD_e, bV_e, i3_eq0, i6_eq0, if_mx, if_mn, if_true, if_false, not_true_eq_false, not_false_eq_true, Int.reduceEq, Int.reduceLT, Int.reduceLE, g12_20, g12_21, g12_22, h5, q1, e21, e2, sX12_in, hin, e3, e4, x21, x22, show ((2 : Int) = 0) = False from by decide]
  · rw [if_neg k]
    obtain ⟨hb, hf⟩ := BD_mk (z := 1) h.1 (by omega) (by omega)
    have q1 : (tkM b p = 2) = False := eq_false (fun q => k (tkM_e.2.1.mp q))
    have e3 := sX12_must_0 (d := d + 3) (X := X) (v := v) (T := T) (c := c) (s := s) (z := 1) hT h22 h.1
    have e4 := sX12_goesOn_0 (d := d) (X := X) (v := v) (T := T) (c := c) (s := s) hT hb
    have x21 : up (up w 411 22 1) 411 23 p 411 21 = w 411 21 := by rw [up_ne (by omega), up_ne (by omega)]
    have x22 : up (up w 411 22 1) 411 23 p 411 22 = 1 := hb.2.1
    obtain ⟨r, hr, er⟩ := sX12_in_u (d := d + 3) (m := qM X v (up (up w 411 22 1) 411 23 p) T c s) (z := w 411 21) (x := x) (y := y) h6 x0 (by omega) (by omega) y1
    have e5 := sX12_must_bad (d := d + 3) (X := X) (v := v) (T := T) (c := c) (s := s) (z := 2) (x := r) hT x22 (by omega) (by omega) hr
    obtain ⟨z0, z1⟩ := h6
    refine ⟨_, ?_, hb, hf⟩
    simp (disch := first | assumption | omega) only [↓reduceIte, eX12_reads, bX12_reads_0, bX12_reads_9, bX12_reads_13, bX12_reads_14, bX12_reads_51, bX12_reads_55, bX12_reads_56, i3_add, i3_sub, i3_mul, i3_neg, i6_add, i6_sub, i6_mul, i6_neg, i3_lt, i3_le, i3_eq, i6_lt, i6_eq, i3_div, i6_div, i6_i3, i3_i6, c6_lt, c6_ge, c6_gt, c6_le, c6_eq, i3_ite, i6_ite, ib_0, ib_z, ite_not, i1_0, i0_0, jB_1, jB_0, jB_ib, bI_v, bL_v, bD_v, bV_v, ob_s, ob_i, i3_ofNat, jx_e, bI_e, bL_e, bD_e, bV_e, i3_eq0, i6_eq0, if_mx, if_mn, if_true, if_false, not_true_eq_false, not_false_eq_true, Int.reduceEq, Int.reduceLT, Int.reduceLE, g12_20, g12_21, g12_22, h5, q1, e3, x21, x22, er, e5, e4, show ((1 : Int) = 0) = False from by decide]
theorem sX12_reads_bad {cd x y : Int} {q : Nat} (hT : 18 ≤ T) (h : BD w b n cd q) (x0 : 0 ≤ x) (xy : x ≤ y) (y1 : y ≤ 9999) : jm_env (d + 5) 253 [.ref 411, .int (i3 x), .int (i3 y)] (qM X v w T c s) = some (.inl (some (.int (i3 (x)))), (qM X v w T c s)) := by
  obtain ⟨h22, c1, c4⟩ := BD_b h
  obtain ⟨⟨p, h1, h2, h3, h4, h5, h6, h7, h8⟩, -⟩ := id h
  have htk := tkM_b b p
  have hq : (cd = 0) = False := eq_false (by omega)
  have e5 := fun (r z : Int) (hr : r = 0 ∨ r = 1) => sX12_must_bad (d := d + 3) (X := X) (v := v) (T := T) (c := c) (s := s) (z := z) (x := r) hT h22 c1 c4 hr
  have e4 := sX12_goesOn_0 (d := d) (X := X) (v := v) (T := T) (c := c) (s := s) hT h
  obtain ⟨r, hr, er⟩ := sX12_in_u (d := d + 3) (m := (qM X v w T c s)) (z := w 411 21) (x := x) (y := y) h6 x0 (by omega) (by omega) y1
  obtain ⟨z0, z1⟩ := h6
  by_cases k : tkM b p = 2
  · have k' : (tkM b p = 2) = True := eq_true k
    simp (disch := first | assumption | omega) only [↓reduceIte, eX12_reads, bX12_reads_0, bX12_reads_9, bX12_reads_13, bX12_reads_14, bX12_reads_51, bX12_reads_55, bX12_reads_56, i3_add, i3_sub, i3_mul, i3_neg, i6_add, i6_sub, i6_mul, i6_neg, i3_lt, i3_le, i3_eq, i6_lt, i6_eq, i3_div, i6_div, i6_i3, i3_i6, c6_lt, c6_ge, c6_gt, c6_le, c6_eq, i3_ite, i6_ite, ib_0, ib_z, ite_not, i1_0, i0_0, jB_1, jB_0, jB_ib, bI_v, bL_v, bD_v, bV_v, ob_s, ob_i, i3_ofNat, jx_e, bI_e, bL_e, bD_e, bV_e, i3_eq0, i6_eq0, if_mx, if_mn, if_true, if_false, not_true_eq_false, not_false_eq_true, Int.reduceEq, Int.reduceLT, Int.reduceLE, g12_20, g12_21, g12_22, h5, k', e5 1 1 (Or.inr rfl), er, e5 r 2 hr, e4, h22, hq]
  · have k' : (tkM b p = 2) = False := eq_false k
    simp (disch := first | assumption | omega) only [↓reduceIte, eX12_reads, bX12_reads_0, bX12_reads_9, bX12_reads_13, bX12_reads_14, bX12_reads_51, bX12_reads_55, bX12_reads_56, i3_add, i3_sub, i3_mul, i3_neg, i6_add, i6_sub, i6_mul, i6_neg, i3_lt, i3_le, i3_eq, i6_lt, i6_eq, i3_div, i6_div, i6_i3, i3_i6, c6_lt, c6_ge, c6_gt, c6_le, c6_eq, i3_ite, i6_ite, ib_0, ib_z, ite_not, i1_0, i0_0, jB_1, jB_0, jB_ib, bI_v, bL_v, bD_v, bV_v, ob_s, ob_i, i3_ofNat, jx_e, bI_e, bL_e, bD_e, bV_e, i3_eq0, i6_eq0, if_mx, if_mn, if_true, if_false, not_true_eq_false, not_false_eq_true, Int.reduceEq, Int.reduceLT, Int.reduceLE, g12_20, g12_21, g12_22, h5, k', e5 0 1 (Or.inl rfl), er, e5 r 2 hr, e4, h22, hq]
theorem sX12_nameHere_1 {p : Nat} (hT : 18 ≤ T) (h : GD w b n p) (g : isM b p) : jm_env (d + 2) 254 [.ref 411] (qM X v w T c s) = some (.inl none, (qM X v w T c s)) := by
  obtain ⟨⟨h1, h2, h3, h4, h5, h6, h7, h8⟩, h22⟩ := id h
  have htk := tkM_b b p
  have hn := h1.1.1
  have hen := en_b h1.1 h2
  obtain ⟨g1, g2⟩ := g
  have q1 : (tkM b p = 1) = True := eq_true (tkM_e.1.mpr g1)
  have q2 : ((6 : Int) < (en b p : Int) - p) = False := eq_false (by omega)
  have e2 := fun z => sX12_must_1 (d := d) (X := X) (v := v) (T := T) (c := c) (s := s) (z := z) hT h22
  simp (disch := first | assumption | omega) only [↓reduceIte, eX12_nameHere, bX12_nameHere_0, bX12_nameHere_9, bX12_nameHere_13, bX12_nameHere_14, bX12_nameHere_33, bX12_nameHere_37, bX12_nameHere_38, g12_20, g12_18, g12_19, i3_add, i3_sub, i3_mul, i3_neg, i6_add, i6_sub, i6_mul, i6_neg, i3_lt, i3_le, i3_eq, i6_lt, i6_eq, i3_div, i6_div, i6_i3, i3_i6, c6_lt, c6_ge, c6_gt, c6_le, c6_eq, i3_ite, i6_ite, ib_0, ib_z, ite_not, i1_0, i0_0, jB_1, jB_0, jB_ib, bI_v, bL_v, bD_v, bV_v, ob_s, ob_i, i3_ofNat, jx_e, bI_e, bL_e, bD_e, bV_e, i3_eq0, i6_eq0, if_mx, if_mn, if_true, if_false, not_true_eq_false, not_false_eq_true, Int.reduceEq, Int.reduceLT, Int.reduceLE, h5, q1, e2, h3, h4, q2]
theorem sX12_nameHere_0 {p : Nat} (hT : 18 ≤ T) (h : GD w b n p) (g : ¬ isM b p) : ∃ w', jm_env (d + 2) 254 [.ref 411] (qM X v w T c s) = some (.inl none, qM X v w' T c s) ∧ BD w' b n (ecM b p) p ∧ frT w' w := by
  obtain ⟨⟨h1, h2, h3, h4, h5, h6, h7, h8⟩, h22⟩ := id h
  have htk := tkM_b b p
  have hn := h1.1.1
  have hen := en_b h1.1 h2
  unfold ecM
  by_cases k : kd b p = 1
  · rw [if_pos k]
    obtain ⟨hb, hf⟩ := BD_mk (z := 2) h.1 (by omega) (by omega)
    have q1 : (tkM b p = 1) = True := eq_true (tkM_e.1.mpr k)
    have q2 : ((6 : Int) < (en b p : Int) - p) = True := eq_true (by
      by_cases k2 : en b p - p ≤ 6
      · exact absurd ⟨k, k2⟩ g
      · omega)
    have e2 := sX12_must_1 (d := d) (X := X) (v := v) (T := T) (c := c) (s := s) (z := 1) hT h22
    have e3 := sX12_must_0 (d := d) (X := X) (v := v) (T := T) (c := c) (s := s) (z := 2) hT h22 h.1
    refine ⟨_, ?_, hb, hf⟩
    simp (disch := first | assumption | omega) only [↓reduceIte, eX12_nameHere, bX12_nameHere_0, bX12_nameHere_9, bX12_nameHere_13, bX12_nameHere_14, bX12_nameHere_33, bX12_nameHere_37, bX12_nameHere_38, g12_20, g12_18, g12_19, i3_add, i3_sub, i3_mul, i3_neg, i6_add, i6_sub, i6_mul, i6_neg, i3_lt, i3_le, i3_eq, i6_lt, i6_eq, i3_div, i6_div, i6_i3, i3_i6, c6_lt, c6_ge, c6_gt, c6_le, c6_eq, i3_ite, i6_ite, ib_0, ib_z, ite_not, i1_0, i0_0, jB_1, jB_0, jB_ib, bI_v, bL_v, bD_v, bV_v, ob_s, ob_i, i3_ofNat, jx_e, bI_e, bL_e, bD_e, bV_e, i3_eq0, i6_eq0, if_mx, if_mn, if_true, if_false, not_true_eq_false, not_false_eq_true, Int.reduceEq, Int.reduceLT, Int.reduceLE, h5, q1, e2, h3, h4, q2, e3]
  · rw [if_neg k]
    obtain ⟨hb, hf⟩ := BD_mk (z := 1) h.1 (by omega) (by omega)
    have q1 : (tkM b p = 1) = False := eq_false (fun q => k (tkM_e.1.mp q))
    have e3 := sX12_must_0 (d := d) (X := X) (v := v) (T := T) (c := c) (s := s) (z := 1) hT h22 h.1
    have x22 : up (up w 411 22 1) 411 23 p 411 22 = 1 := hb.2.1
    have e5 := fun (r : Int) (hr : r = 0 ∨ r = 1) => sX12_must_bad (d := d) (X := X) (v := v) (T := T) (c := c) (s := s) (z := 2) (x := r) hT x22 (by omega) (by omega) hr
    have x18 : up (up w 411 22 1) 411 23 p 411 18 = en b p := by rw [up_ne (by omega), up_ne (by omega), h3]
    have x19 : up (up w 411 22 1) 411 23 p 411 19 = p := by rw [up_ne (by omega), up_ne (by omega), h4]
    refine ⟨_, ?_, hb, hf⟩
    simp (disch := first | assumption | omega) only [↓reduceIte, eX12_nameHere, bX12_nameHere_0, bX12_nameHere_9, bX12_nameHere_13, bX12_nameHere_14, bX12_nameHere_33, bX12_nameHere_37, bX12_nameHere_38, g12_20, g12_18, g12_19, i3_add, i3_sub, i3_mul, i3_neg, i6_add, i6_sub, i6_mul, i6_neg, i3_lt, i3_le, i3_eq, i6_lt, i6_eq, i3_div, i6_div, i6_i3, i3_i6, c6_lt, c6_ge, c6_gt, c6_le, c6_eq, i3_ite, i6_ite, ib_0, ib_z, ite_not, i1_0, i0_0, jB_1, jB_0, jB_ib, bI_v, bL_v, bD_v, bV_v, ob_s, ob_i, i3_ofNat, jx_e, bI_e, bL_e, bD_e, bV_e, i3_eq0, i6_eq0, if_mx, if_mn, if_true, if_false, not_true_eq_false, not_false_eq_true, Int.reduceEq, Int.reduceLT, Int.reduceLE, h5, q1, e3, x18, x19, e5 0 (Or.inl rfl), e5 1 (Or.inr rfl)]
    split <;> rfl
theorem sX12_nameHere_bad {cd : Int} {q : Nat} (hT : 18 ≤ T) (h : BD w b n cd q) : jm_env (d + 2) 254 [.ref 411] (qM X v w T c s) = some (.inl none, (qM X v w T c s)) := by
  obtain ⟨h22, c1, c4⟩ := BD_b h
  obtain ⟨⟨p, h1, h2, h3, h4, h5, h6, h7, h8⟩, -⟩ := id h
  have htk := tkM_b b p
  have hn := h1.1.1
  have hen := en_b h1.1 h2
  have e5 := fun (r z : Int) (hr : r = 0 ∨ r = 1) => sX12_must_bad (d := d) (X := X) (v := v) (T := T) (c := c) (s := s) (z := z) (x := r) hT h22 c1 c4 hr
  simp (disch := first | assumption | omega) only [eX12_nameHere, bX12_nameHere_0, bX12_nameHere_9, bX12_nameHere_13, bX12_nameHere_14, bX12_nameHere_33, bX12_nameHere_37, bX12_nameHere_38, g12_20, g12_18, g12_19, i3_add, i3_sub, i3_mul, i3_neg, i6_add, i6_sub, i6_mul, i6_neg, i3_lt, i3_le, i3_eq, i6_lt, i6_eq, i3_div, i6_div, i6_i3, i3_i6, c6_lt, c6_ge, c6_gt, c6_le, c6_eq, i3_ite, i6_ite, ib_0, ib_z, ite_not, i1_0, i0_0, jB_1, jB_0, jB_ib, bI_v, bL_v, bD_v, bV_v, ob_s, ob_i, i3_ofNat, jx_e, bI_e, bL_e, bD_e, bV_e, i3_eq0, i6_eq0, if_mx, if_mn, if_true, if_false, not_true_eq_false, not_false_eq_true, Int.reduceEq, Int.reduceLT, Int.reduceLE, h5, h3, h4, e5 0 1 (Or.inl rfl), e5 1 1 (Or.inr rfl), e5 0 2 (Or.inl rfl), e5 1 2 (Or.inr rfl)]
  (repeat' split) <;> rfl
theorem sX12_name_1 {p : Nat} (hT : 18 ≤ T) (h : GD w b n p) (g : isM b p) : ∃ w', jm_env (d + 5) 255 [.ref 411] (qM X v w T c s) = some (.inl (some (.int (i3 (wd b p)))), qM X v w' T c s) ∧ GD w' b n (nx b p) ∧ frT w' w := by
  obtain ⟨w', e, hg, hf⟩ := sX12_goesOn_1 (d := d) (X := X) (v := v) (T := T) (c := c) (s := s) hT h
  have e1 := sX12_nameHere_1 (d := d + 2) (X := X) (v := v) (T := T) (c := c) (s := s) hT h g
  have e2 := sX12_isGood_1 (d := d + 3) (X := X) (v := v) (w := w) (T := T) (c := c) (s := s) hT h.2
  have e26 := h.1.2.2.2.2.2.2.2 g.1
  refine ⟨w', ?_, hg, hf⟩
  simp (disch := first | assumption | omega) only [eX12_name, bX12_name_0, bX12_name_11, bX12_name_19, bX12_name_20, i3_add, i3_sub, i3_mul, i3_neg, i6_add, i6_sub, i6_mul, i6_neg, i3_lt, i3_le, i3_eq, i6_lt, i6_eq, i3_div, i6_div, i6_i3, i3_i6, c6_lt, c6_ge, c6_gt, c6_le, c6_eq, i3_ite, i6_ite, ib_0, ib_z, ite_not, i1_0, i0_0, jB_1, jB_0, jB_ib, bI_v, bL_v, bD_v, bV_v, ob_s, ob_i, i3_ofNat, jx_e, bI_e, bL_e, bD_e, bV_e, i3_eq0, i6_eq0, if_mx, if_mn, if_true, if_false, not_true_eq_false, not_false_eq_true, Int.reduceEq, Int.reduceLT, Int.reduceLE, e1, e2, g12_26, e26, e]
theorem sX12_name_0 {p : Nat} (hT : 18 ≤ T) (h : GD w b n p) (g : ¬ isM b p) : ∃ w', jm_env (d + 5) 255 [.ref 411] (qM X v w T c s) = some (.inl (some (.int (i3 (0)))), qM X v w' T c s) ∧ BD w' b n (ecM b p) p ∧ frT w' w := by
  obtain ⟨w', e1, hb, hf⟩ := sX12_nameHere_0 (d := d + 2) (X := X) (v := v) (T := T) (c := c) (s := s) hT h g
  have e2 := sX12_isGood_0 (d := d + 3) (X := X) (v := v) (T := T) (c := c) (s := s) hT hb
  have e4 := sX12_goesOn_0 (d := d) (X := X) (v := v) (T := T) (c := c) (s := s) hT hb
  refine ⟨w', ?_, hb, hf⟩
  simp (disch := first | assumption | omega) only [eX12_name, bX12_name_0, bX12_name_11, bX12_name_19, bX12_name_20, i3_add, i3_sub, i3_mul, i3_neg, i6_add, i6_sub, i6_mul, i6_neg, i3_lt, i3_le, i3_eq, i6_lt, i6_eq, i3_div, i6_div, i6_i3, i3_i6, c6_lt, c6_ge, c6_gt, c6_le, c6_eq, i3_ite, i6_ite, ib_0, ib_z, ite_not, i1_0, i0_0, jB_1, jB_0, jB_ib, bI_v, bL_v, bD_v, bV_v, ob_s, ob_i, i3_ofNat, jx_e, bI_e, bL_e, bD_e, bV_e, i3_eq0, i6_eq0, if_mx, if_mn, if_true, if_false, not_true_eq_false, not_false_eq_true, Int.reduceEq, Int.reduceLT, Int.reduceLE, e1, e2, e4]
theorem sX12_name_bad {cd : Int} {q : Nat} (hT : 18 ≤ T) (h : BD w b n cd q) : jm_env (d + 5) 255 [.ref 411] (qM X v w T c s) = some (.inl (some (.int (i3 (0)))), (qM X v w T c s)) := by
  have e1 := sX12_nameHere_bad (d := d + 2) (X := X) (v := v) (T := T) (c := c) (s := s) hT h
  have e2 := sX12_isGood_0 (d := d + 3) (X := X) (v := v) (T := T) (c := c) (s := s) hT h
  have e4 := sX12_goesOn_0 (d := d) (X := X) (v := v) (T := T) (c := c) (s := s) hT h
  simp (disch := first | assumption | omega) only [eX12_name, bX12_name_0, bX12_name_11, bX12_name_19, bX12_name_20, i3_add, i3_sub, i3_mul, i3_neg, i6_add, i6_sub, i6_mul, i6_neg, i3_lt, i3_le, i3_eq, i6_lt, i6_eq, i3_div, i6_div, i6_i3, i3_i6, c6_lt, c6_ge, c6_gt, c6_le, c6_eq, i3_ite, i6_ite, ib_0, ib_z, ite_not, i1_0, i0_0, jB_1, jB_0, jB_ib, bI_v, bL_v, bD_v, bV_v, ob_s, ob_i, i3_ofNat, jx_e, bI_e, bL_e, bD_e, bV_e, i3_eq0, i6_eq0, if_mx, if_mn, if_true, if_false, not_true_eq_false, not_false_eq_true, Int.reduceEq, Int.reduceLT, Int.reduceLE, e1, e2, e4]
end RFB
