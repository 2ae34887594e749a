-- uses 24.zar 25.obj 26.ops 30.rd 31.re 32.rf 34.gen 35.byt 38.mod 39.mo2 40.mo3 41.bit 43.mo5 46.mo8 51.moe 53.cla 55.clc 62.clj 64.okm 74.cls 93.tka 97.srp a2.rfa a3.rfb
/-! The reference: a setup's text. -/
/-- only the reading, and the two sides found last, changed -/
def frS (w' w : Nat → Int → Int) : Prop := ∀ (m : Nat) (k : Int), (m ≠ 411 ∨ (k ≠ 9 ∧ k ≠ 10 ∧ (k < 18 ∨ (23 < k ∧ k ≠ 26)))) → w' m k = w m k
theorem frS_id {w : Nat → Int → Int} : frS w w := fun _ _ _ => rfl
theorem frS_tr {w w' w'' : Nat → Int → Int} (h : frS w'' w') (g : frS w' w) : frS w'' w := fun m k hk => (h m k hk).trans (g m k hk)
theorem frT.s {w w' : Nat → Int → Int} (h : frT w' w) : frS w' w := fun m k hk => h m k (by omega)
theorem frS_fw {w : Nat → Int → Int} {p : Int × Int} : frS (fw w p) w := fun m k hk => fw_ne (by omega)
theorem SC_fw {w : Nat → Int → Int} {b : Int → Int} {n q : Nat} {p : Int × Int} (h : SC w b n q) : SC (fw w p) b n q := by
  obtain ⟨⟨a1, a2, a3⟩, b, c, d, e, f, g, i⟩ := h
  refine ⟨⟨a1, by rw [fw_ne (by omega)]; exact a2, fun k k0 k1 => by rw [fw_ne (by omega)]; exact a3 k k0 k1⟩, b, ?_, ?_, ?_, ?_, ?_, ?_⟩
  all_goals rw [fw_ne (by omega)]; assumption
theorem GD_fw {w : Nat → Int → Int} {b : Int → Int} {n q : Nat} {p : Int × Int} (h : GD w b n q) : GD (fw w p) b n q := ⟨SC_fw h.1, by rw [fw_ne (by omega)]; exact h.2⟩
theorem BD_fw {w : Nat → Int → Int} {b : Int → Int} {n q : Nat} {z : Int} {p : Int × Int} (h : BD w b n z q) : BD (fw w p) b n z q := by
  obtain ⟨⟨r, h1⟩, h2, h3, h4⟩ := h
  exact ⟨⟨r, SC_fw h1⟩, by rw [fw_ne (by omega)]; exact h2, by rw [fw_ne (by omega)]; exact h3, h4⟩
theorem hi_sh {n : Nat} (h : 431 ≤ n) : pl_sh n = .inl (1, 10, []) := if_neg (by omega)
theorem hi_sc {n : Nat} (h : 431 ≤ n) (k : Int) : pl_scr n k = true := by
  unfold pl_scr
  rw [if_neg (by omega), if_neg (by omega), if_neg (by omega), if_neg (by omega)]
section RFC
variable {d : Nat} {X : Nat × (Nat → Int32)} {v w : Nat → Int → Int} {T c s : Nat}
variable {b : Int → Int} {n : Nat}
theorem hi_a {a : Nat} {z : Int} (h0 : 431 ≤ a) (h1 : a < 411 + T) (z0 : 0 ≤ z) (z1 : z < 10) : jm_aZ (qM X v w T c s) a (i3 z) = some (i3 (w a z)) := (a_Z h1 (hi_sh h0) (by decide) z0 z1).trans (by rw [qq_w (hi_sc h0 z)])
theorem hi_w {a : Nat} {z y : Int} (h0 : 431 ≤ a) (h1 : a < 411 + T) (z0 : 0 ≤ z) (z1 : z < 10) (hy : y = 0 ∨ y = 1) : jm_wZ (qM X v w T c s) a (i3 z) (i3 y) = some (qM X v (up w a z y) T c s) := w_z h1 (hi_sh h0) (by decide) (hi_sc h0) z0 z1 hy
/-- ten flags made -/
theorem hi_mk {f : jm_Mem → Option jm_Res} (h0 : 20 ≤ T) (h1 : T < 900000) : jm_mk (qM X v w T c s) (.inl (1, 10, .inl fun _ => 0)) 10 f = f (qM X v (ov w (411 + T) (fun _ => 0)) (T + 1) (c + 1) (s + 10)) := by
  unfold jm_mk
  rw [if_pos (show (qM X v w T c s).1 < 1000000 by show 411 + T < 1000000; omega)]
  congr 1
  show (411 + T + 1, va_up (pl_H X v w (411 + T)) (411 + T) _, c + 1, s + 10) = (411 + (T + 1), pl_H X v (ov w (411 + T) (fun _ => 0)) (411 + (T + 1)), c + 1, s + 10)
  rw [show 411 + (T + 1) = 411 + T + 1 by omega]
  congr 2
  funext m
  unfold va_up pl_H
  by_cases g : m = 411 + T
  · rw [if_pos g, if_pos (by omega), g, hi_sh (by omega)]
    show Sum.inl (1, 10, Sum.inl fun _ => 0) = Sum.inl (1, 10, Sum.inl fun k : Nat => i3 (pl_q v (ov w (411 + T) fun _ => 0) (411 + T) k))
    congr 4
    funext k
    rw [qq_w (hi_sc (by omega) _), ov_in]
    rfl
  · rw [if_neg g]
    by_cases g2 : m < 411 + T
    · rw [if_pos g2, if_pos (by omega)]
      congr 1
      funext k
      unfold pl_q
      rw [ov_b g]
    · rw [if_neg g2, if_neg (by omega)]
/-- the number read last is one of the machine's -/
theorem qM_nm (hT : 18 ≤ T) : ∃ w', (qM X v w T c s) = qM X v w' T c s ∧ isI (w' 411 21) ∧ ∀ (m : Nat) (k : Int), (m ≠ 411 ∨ k ≠ 21) → w' m k = w m k := by
  refine ⟨up w 411 21 (i3 (w 411 21)).toInt, ?_, ?_, fun m k hk => up_ne hk⟩
  · have e1 := p12_21 (X := X) (v := v) (w := w) (c := c) (s := s) (z := w 411 21) hT
    have e2 := p12_21 (X := X) (v := v) (w := w) (c := c) (s := s) (z := (i3 (w 411 21)).toInt) hT
    have e3 : i3 (i3 (w 411 21)).toInt = i3 (w 411 21) := Int32.ofInt_toInt _
    rw [e3, e1, up_same] at e2
    exact Option.some.inj e2
  · rw [up_eq]
    exact ⟨Int32.le_toInt _, Int32.toInt_lt _⟩
theorem sX12_takesText (hT : 18 ≤ T) (h : okB b n) (h16 : v 411 16 = n) (h420 : ∀ k : Int, 0 ≤ k → k < n → v 420 k = b k) : ∃ w', jm_env (d + 1) 259 [.ref 411] (qM X v w T c s) = some (.inl none, qM X (up v 411 16 0) w' T c s) ∧ txW w' b n ∧ ∀ (m : Nat) (k : Int), m ≠ 421 → (m ≠ 411 ∨ k ≠ 17) → w' m k = w m k := by
  have hn := h.1
  have hl := ch_n (fun k : Nat => jm_R (jm_env d) jmM_X12_takesText 2 [some (.ref 411), some (.int (i3 k))] [] (qM X v (fil w 421 (v 420) k) T c s)) n (fun k hk => by
    rw [bX12_takesText_2]
    simp (disch := first | assumption | omega) only [g12_16, r12_15, a12_15, w12_15, n12_15, r12_14, a12_14, w12_14, n12_14, p12_17, p12_16, i3_add, i3_sub, i3_mul, i3_neg, i6_add, i6_sub, i6_mul, i6_neg, i3_lt, i3_le, i3_eq, i6_lt, i6_eq, i3_div, i6_div, i6_i3, i3_i6, c6_lt, c6_ge, c6_gt, c6_le, c6_eq, i3_ite, i6_ite, ib_0, ib_z, ite_not, i1_0, i0_0, jB_1, jB_0, jB_ib, bI_v, bL_v, bD_v, bV_v, ob_s, ob_i, i3_ofNat, jx_e, bI_e, bL_e, bD_e, bV_e, i3_eq0, i6_eq0, if_mx, if_mn, if_true, if_false, not_true_eq_false, not_false_eq_true, Int.reduceEq, Int.reduceLT, Int.reduceLE, bX12_takesText_10, h16, fil_up]
    rw [if_neg (by omega)]
    rfl)
  rw [show ((0 : Nat) : Int) = 0 from rfl, fil_0] at hl
  refine ⟨up (fil w 421 (v 420) n) 411 17 n, ?_, ⟨h, up_eq, fun k k0 k1 => ?_⟩, fun m k h1 h2 => ?_⟩
  · rw [eX12_takesText (h := hT), bX12_takesText_0]
    refine hl.trans ?_
    rw [bX12_takesText_2]
    simp (disch := first | assumption | omega) only [g12_16, r12_15, a12_15, w12_15, n12_15, r12_14, a12_14, w12_14, n12_14, p12_17, p12_16, i3_add, i3_sub, i3_mul, i3_neg, i6_add, i6_sub, i6_mul, i6_neg, i3_lt, i3_le, i3_eq, i6_lt, i6_eq, i3_div, i6_div, i6_i3, i3_i6, c6_lt, c6_ge, c6_gt, c6_le, c6_eq, i3_ite, i6_ite, ib_0, ib_z, ite_not, i1_0, i0_0, jB_1, jB_0, jB_ib, bI_v, bL_v, bD_v, bV_v, ob_s, ob_i, i3_ofNat, jx_e, bI_e, bL_e, bD_e, bV_e, i3_eq0, i6_eq0, if_mx, if_mn, if_true, if_false, not_true_eq_false, not_false_eq_true, Int.reduceEq, Int.reduceLT, Int.reduceLE, bX12_takesText_28, h16]
    rw [if_pos (by omega)]
  · rw [up_ne (by omega), fil_in k0 k1, h420 k k0 k1]
  · rw [up_ne (by omega), fil_b h1]
theorem sX12_starts (hT : 18 ≤ T) (h : txW w b n) (h21 : isI (w 411 21)) : ∃ w', jm_env (d + 4) 249 [.ref 411] (qM X v w T c s) = some (.inl none, qM X v w' T c s) ∧ GD w' b n (sk b 0) ∧ frT w' w := by
  obtain ⟨w', e, hs, h22, -, hf⟩ := sX12_scan (d := d) (X := X) (v := v) (w := up (up w 411 18 0) 411 22 0) (T := T) (c := c) (s := s) (e := 0) hT (txW_u (txW_u h (by omega)) (by omega)) (Nat.zero_le n) (by rw [up_ne (by omega), up_eq]; rfl) (by rw [up_ne (by omega), up_ne (by omega)]; exact h21)
  refine ⟨w', ?_, ⟨hs, by rw [h22, up_eq]⟩, frT_tr hf (frT_tr (frT_u (by omega)) (frT_u (by omega)))⟩
  simp (disch := first | assumption | omega) only [eX12_starts, bX12_starts_0, i3_add, i3_sub, i3_mul, i3_neg, i6_add, i6_sub, i6_mul, i6_neg, i3_lt, i3_le, i3_eq, i6_lt, i6_eq, i3_div, i6_div, i6_i3, i3_i6, c6_lt, c6_ge, c6_gt, c6_le, c6_eq, i3_ite, i6_ite, ib_0, ib_z, ite_not, i1_0, i0_0, jB_1, jB_0, jB_ib, bI_v, bL_v, bD_v, bV_v, ob_s, ob_i, i3_ofNat, jx_e, bI_e, bL_e, bD_e, bV_e, i3_eq0, i6_eq0, if_mx, if_mn, if_true, if_false, not_true_eq_false, not_false_eq_true, Int.reduceEq, Int.reduceLT, Int.reduceLE, p12_18, p12_22, e]
/-- one size: it fails -/
theorem sX12_stackText_0 {p a i : Nat} {to : Int → Int} (hT : 18 ≤ T) (h : GD w b n p) (ha0 : 431 ≤ a) (ha1 : a < 411 + T) (hi : i < 5) (ho : oM v i) (hto : ∀ k : Int, 0 ≤ k → k < 10 → w a k = to k ∧ (to k = 0 ∨ to k = 1))
    {z : Int} {q : Nat} (hz : (¬ isN b p 0 9 ∧ z = ecN b p ∧ q = p) ∨ (isN b p 0 9 ∧ (to (nv b p) ≠ 0 ∨ aM v i (nv b p) = 0) ∧ z = 3 ∧ q = p) ∨ (isN b p 0 9 ∧ ¬ (to (nv b p) ≠ 0 ∨ aM v i (nv b p) = 0) ∧ ¬ isN b (nx b p) 0 9999 ∧ z = ecN b (nx b p) ∧ q = nx b p)) :
    ∃ w', jm_env (d + 6) 256 [.ref 411, .int (i3 i), .ref a] (qM X v w T c s) = some (.inl none, qM X v w' T c s) ∧ BD w' b n z q ∧ frS w' w := by
  obtain ⟨⟨h1, h2, h3, h4, h5, h6, h7, h8⟩, h22⟩ := id h
  have htk := tkM_b b p
  rcases hz with ⟨g, rfl, rfl⟩ | ⟨g, g2, rfl, rfl⟩ | ⟨g, g2, g3, rfl, rfl⟩
  · unfold ecN
    by_cases k : kd b q = 2
    · rw [if_pos k]
      obtain ⟨hb, hf⟩ := BD_mk (z := 2) h.1 (by omega) (by omega)
      have hnb := nv_b h1.1 h2 k
      have q1 : (tkM b q = 2) = True := eq_true (tkM_e.2.1.mpr k)
      have e21 := h7 k
      have hin : (0 ≤ nv b q ∧ nv b q ≤ 9) = False := eq_false (fun g' => g ⟨k, g'⟩)
      have e2 := sX12_must_1 (d := d + 4) (X := X) (v := v) (T := T) (c := c) (s := s) (z := 1) hT h22
      have e3 := sX12_must_0 (d := d + 4) (X := X) (v := v) (T := T) (c := c) (s := s) (z := 2) hT h22 h.1
      have x22 : up (up w 411 22 2) 411 23 q 411 22 = 2 := hb.2.1
      have e5 := sX12_must_bad (d := d + 4) (X := X) (v := v) (T := T) (c := c) (s := s) (z := 3) (x := 1) hT x22 (by omega) (by omega) (Or.inr rfl)
      have e6 := sX12_isGood_0 (d := d + 4) (X := X) (v := v) (T := T) (c := c) (s := s) hT hb
      have e7 := sX12_goesOn_0 (d := d + 1) (X := X) (v := v) (T := T) (c := c) (s := s) hT hb
      have e8 := sX12_reads_bad (d := d) (X := X) (v := v) (T := T) (c := c) (s := s) (x := 0) (y := 9999) hT hb (by omega) (by omega) (by omega)
      refine ⟨_, ?_, hb, hf.s⟩
      simp (disch := first | assumption | omega) only [↓reduceIte, eX12_stackText, bX12_stackText_0, bX12_stackText_9, bX12_stackText_13, bX12_stackText_14, bX12_stackText_43, bX12_stackText_52, i3_add, i3_sub, i3_mul, i3_neg, i6_add, i6_sub, i6_mul, i6_neg, i3_lt, i3_le, i3_eq, i6_lt, i6_eq, i3_div, i6_div, i6_i3, i3_i6, c6_lt, c6_ge, c6_gt, c6_le, c6_eq, i3_ite, i6_ite, ib_0, ib_z, ite_not, i1_0, i0_0, jB_1, jB_0, jB_ib, bI_v, bL_v, bD_v, bV_v, ob_s, ob_i, i3_ofNat, jx_e, bI_e, bL_e, bD_e, bV_e, i3_eq0, i6_eq0, if_mx, if_mn, if_true, if_false, not_true_eq_false, not_false_eq_true, Int.reduceEq, Int.reduceLT, Int.reduceLE, g12_20, g12_21, h5, q1, e21, e2, sX12_in, hin, e3, e5, e6, e7, e8]
      simp (disch := first | assumption | omega) only [↓reduceIte, bX12_stackText_64, bX12_stackText_68, bX12_stackText_69, i3_add, i3_sub, i3_mul, i3_neg, i6_add, i6_sub, i6_mul, i6_neg, i3_lt, i3_le, i3_eq, i6_lt, i6_eq, i3_div, i6_div, i6_i3, i3_i6, c6_lt, c6_ge, c6_gt, c6_le, c6_eq, i3_ite, i6_ite, ib_0, ib_z, ite_not, i1_0, i0_0, jB_1, jB_0, jB_ib, bI_v, bL_v, bD_v, bV_v, ob_s, ob_i, i3_ofNat, jx_e, bI_e, bL_e, bD_e, bV_e, i3_eq0, i6_eq0, if_mx, if_mn, if_true, if_false, not_true_eq_false, not_false_eq_true, Int.reduceEq, Int.reduceLT, Int.reduceLE, g12_20, g12_21, h5, q1, e21, e2, sX12_in, hin, e3, e5, e6, e7, e8]
      simp (disch := first | assumption | omega) only [↓reduceIte, bX12_stackText_80, bX12_stackText_87, bX12_stackText_88, bX12_stackText_110, bX12_stackText_127, i3_add, i3_sub, i3_mul, i3_neg, i6_add, i6_sub, i6_mul, i6_neg, i3_lt, i3_le, i3_eq, i6_lt, i6_eq, i3_div, i6_div, i6_i3, i3_i6, c6_lt, c6_ge, c6_gt, c6_le, c6_eq, i3_ite, i6_ite, ib_0, ib_z, ite_not, i1_0, i0_0, jB_1, jB_0, jB_ib, bI_v, bL_v, bD_v, bV_v, ob_s, ob_i, i3_ofNat, jx_e, bI_e, bL_e, bD_e, bV_e, i3_eq0, i6_eq0, if_mx, if_mn, if_true, if_false, not_true_eq_false, not_false_eq_true, Int.reduceEq, Int.reduceLT, Int.reduceLE, g12_20, g12_21, h5, q1, e21, e2, sX12_in, hin, e3, e5, e6, e7, e8]
    · rw [if_neg k]
      obtain ⟨hb, hf⟩ := BD_mk (z := 1) h.1 (by omega) (by omega)
      have q1 : (tkM b q = 2) = False := eq_false (fun g' => k (tkM_e.2.1.mp g'))
      have e3 := sX12_must_0 (d := d + 4) (X := X) (v := v) (T := T) (c := c) (s := s) (z := 1) hT h22 h.1
      have x21 : up (up w 411 22 1) 411 23 q 411 21 = w 411 21 := by rw [up_ne (by omega), up_ne (by omega)]
      have x22 : up (up w 411 22 1) 411 23 q 411 22 = 1 := hb.2.1
      obtain ⟨r, hr, er⟩ := sX12_in_u (d := d + 4) (m := qM X v (up (up w 411 22 1) 411 23 q) T c s) (z := w 411 21) (x := 0) (y := 9) h6 (by omega) (by omega) (by omega) (by omega)
      have e5 := fun (r z : Int) (hr : r = 0 ∨ r = 1) => sX12_must_bad (d := d + 4) (X := X) (v := v) (T := T) (c := c) (s := s) (z := z) (x := r) hT x22 (by omega) (by omega) hr
      have e6 := sX12_isGood_0 (d := d + 4) (X := X) (v := v) (T := T) (c := c) (s := s) hT hb
      have e7 := sX12_goesOn_0 (d := d + 1) (X := X) (v := v) (T := T) (c := c) (s := s) hT hb
      have e8 := sX12_reads_bad (d := d) (X := X) (v := v) (T := T) (c := c) (s := s) (x := 0) (y := 9999) hT hb (by omega) (by omega) (by omega)
      obtain ⟨z0, z1⟩ := h6
      refine ⟨_, ?_, hb, hf.s⟩
      simp (disch := first | assumption | omega) only [↓reduceIte, eX12_stackText, bX12_stackText_0, bX12_stackText_9, bX12_stackText_13, bX12_stackText_14, bX12_stackText_43, bX12_stackText_52, i3_add, i3_sub, i3_mul, i3_neg, i6_add, i6_sub, i6_mul, i6_neg, i3_lt, i3_le, i3_eq, i6_lt, i6_eq, i3_div, i6_div, i6_i3, i3_i6, c6_lt, c6_ge, c6_gt, c6_le, c6_eq, i3_ite, i6_ite, ib_0, ib_z, ite_not, i1_0, i0_0, jB_1, jB_0, jB_ib, bI_v, bL_v, bD_v, bV_v, ob_s, ob_i, i3_ofNat, jx_e, bI_e, bL_e, bD_e, bV_e, i3_eq0, i6_eq0, if_mx, if_mn, if_true, if_false, not_true_eq_false, not_false_eq_true, Int.reduceEq, Int.reduceLT, Int.reduceLE, g12_20, g12_21, h5, q1, e3, x21, er, e5 r 2 hr, e5 1 3 (Or.inr rfl), e6, e7, e8]
      simp (disch := first | assumption | omega) only [↓reduceIte, bX12_stackText_64, bX12_stackText_68, bX12_stackText_69, i3_add, i3_sub, i3_mul, i3_neg, i6_add, i6_sub, i6_mul, i6_neg, i3_lt, i3_le, i3_eq, i6_lt, i6_eq, i3_div, i6_div, i6_i3, i3_i6, c6_lt, c6_ge, c6_gt, c6_le, c6_eq, i3_ite, i6_ite, ib_0, ib_z, ite_not, i1_0, i0_0, jB_1, jB_0, jB_ib, bI_v, bL_v, bD_v, bV_v, ob_s, ob_i, i3_ofNat, jx_e, bI_e, bL_e, bD_e, bV_e, i3_eq0, i6_eq0, if_mx, if_mn, if_true, if_false, not_true_eq_false, not_false_eq_true, Int.reduceEq, Int.reduceLT, Int.reduceLE, g12_20, g12_21, h5, q1, e3, x21, er, e5 r 2 hr, e5 1 3 (Or.inr rfl), e6, e7, e8]
      simp (disch := first | assumption | omega) only [↓reduceIte, bX12_stackText_80, bX12_stackText_87, bX12_stackText_88, bX12_stackText_110, bX12_stackText_127, i3_add, i3_sub, i3_mul, i3_neg, i6_add, i6_sub, i6_mul, i6_neg, i3_lt, i3_le, i3_eq, i6_lt, i6_eq, i3_div, i6_div, i6_i3, i3_i6, c6_lt, c6_ge, c6_gt, c6_le, c6_eq, i3_ite, i6_ite, ib_0, ib_z, ite_not, i1_0, i0_0, jB_1, jB_0, jB_ib, bI_v, bL_v, bD_v, bV_v, ob_s, ob_i, i3_ofNat, jx_e, bI_e, bL_e, bD_e, bV_e, i3_eq0, i6_eq0, if_mx, if_mn, if_true, if_false, not_true_eq_false, not_false_eq_true, Int.reduceEq, Int.reduceLT, Int.reduceLE, g12_20, g12_21, h5, q1, e3, x21, er, e5 r 2 hr, e5 1 3 (Or.inr rfl), e6, e7, e8]
  · have q1 : (tkM b q = 2) = True := eq_true (tkM_e.2.1.mpr g.1)
    have e21 := h7 g.1
    have hin : (0 ≤ nv b q ∧ nv b q ≤ 9) = True := eq_true g.2
    obtain ⟨-, y0, y1⟩ := g
    obtain ⟨t1, t2⟩ := hto (nv b q) y0 (by omega)
    have e2 := fun z => sX12_must_1 (d := d + 4) (X := X) (v := v) (T := T) (c := c) (s := s) (z := z) hT h22
    have e6 := sX12_isGood_1 (d := d + 4) (X := X) (v := v) (T := T) (c := c) (s := s) hT h22
    have z10 : nv b q < 10 := by omega
    by_cases k : to (nv b q) = 0
    · have k2 : 10 ≤ nv b q ∨ aM v i (nv b q) = 0 := by rcases g2 with g2 | g2; exact absurd k g2; exact Or.inr g2
      obtain ⟨pp, ev⟩ := sX12_isVoid_p (d := d + 1) (X := X) (v := v) (w := w) (T := T) (c := c) (s := s) (i := i) (n := nv b q) hT (by omega) (by omega) y0 (by omega) ho
      rw [if_pos k2, show d + 1 + 4 = d + 5 from rfl] at ev
      have h' := GD_fw (p := pp) h
      obtain ⟨hb, hf⟩ := BD_mk (z := 3) h'.1 (by omega) (by omega)
      have e3 := sX12_must_0 (d := d + 4) (X := X) (v := v) (T := T) (c := c) (s := s) (z := 3) hT h'.2 h'.1
      have e66 := sX12_isGood_0 (d := d + 4) (X := X) (v := v) (T := T) (c := c) (s := s) hT hb
      have e7 := sX12_goesOn_0 (d := d + 1) (X := X) (v := v) (T := T) (c := c) (s := s) hT hb
      have e8 := sX12_reads_bad (d := d) (X := X) (v := v) (T := T) (c := c) (s := s) (x := 0) (y := 9999) hT hb (by omega) (by omega) (by omega)
      refine ⟨_, ?_, hb, frS_tr hf.s frS_fw⟩
      simp (disch := first | assumption | omega) only [↓reduceIte, eX12_stackText, bX12_stackText_0, bX12_stackText_9, bX12_stackText_13, bX12_stackText_14, bX12_stackText_43, bX12_stackText_52, i3_add, i3_sub, i3_mul, i3_neg, i6_add, i6_sub, i6_mul, i6_neg, i3_lt, i3_le, i3_eq, i6_lt, i6_eq, i3_div, i6_div, i6_i3, i3_i6, c6_lt, c6_ge, c6_gt, c6_le, c6_eq, i3_ite, i6_ite, ib_0, ib_z, ite_not, i1_0, i0_0, jB_1, jB_0, jB_ib, bI_v, bL_v, bD_v, bV_v, ob_s, ob_i, i3_ofNat, jx_e, bI_e, bL_e, bD_e, bV_e, i3_eq0, i6_eq0, if_mx, if_mn, if_true, if_false, not_true_eq_false, not_false_eq_true, Int.reduceEq, Int.reduceLT, Int.reduceLE, g12_20, g12_21, h5, q1, e21, e2, sX12_in, hin, e6, hi_a, t1, k, ev, e3, e66, e7, e8]
      simp (disch := first | assumption | omega) only [↓reduceIte, bX12_stackText_64, bX12_stackText_68, bX12_stackText_69, i3_add, i3_sub, i3_mul, i3_neg, i6_add, i6_sub, i6_mul, i6_neg, i3_lt, i3_le, i3_eq, i6_lt, i6_eq, i3_div, i6_div, i6_i3, i3_i6, c6_lt, c6_ge, c6_gt, c6_le, c6_eq, i3_ite, i6_ite, ib_0, ib_z, ite_not, i1_0, i0_0, jB_1, jB_0, jB_ib, bI_v, bL_v, bD_v, bV_v, ob_s, ob_i, i3_ofNat, jx_e, bI_e, bL_e, bD_e, bV_e, i3_eq0, i6_eq0, if_mx, if_mn, if_true, if_false, not_true_eq_false, not_false_eq_true, Int.reduceEq, Int.reduceLT, Int.reduceLE, g12_20, g12_21, h5, q1, e21, e2, sX12_in, hin, e6, hi_a, t1, k, ev, e3, e66, e7, e8]
      simp (disch := first | assumption | omega) only [↓reduceIte, bX12_stackText_80, bX12_stackText_87, bX12_stackText_88, bX12_stackText_110, bX12_stackText_127, i3_add, i3_sub, i3_mul, i3_neg, i6_add, i6_sub, i6_mul, i6_neg, i3_lt, i3_le, i3_eq, i6_lt, i6_eq, i3_div, i6_div, i6_i3, i3_i6, c6_lt, c6_ge, c6_gt, c6_le, c6_eq, i3_ite, i6_ite, ib_0, ib_z, ite_not, i1_0, i0_0, jB_1, jB_0, jB_ib, bI_v, bL_v, bD_v, bV_v, ob_s, ob_i, i3_ofNat, jx_e, bI_e, bL_e, bD_e, bV_e, i3_eq0, i6_eq0, if_mx, if_mn, if_true, if_false, not_true_eq_false, not_false_eq_true, Int.reduceEq, Int.reduceLT, Int.reduceLE, g12_20, g12_21, h5, q1, e21, e2, sX12_in, hin, e6, hi_a, t1, k, ev, e3, e66, e7, e8]
    · have k2 : (to (nv b q) = 0) = False := eq_false k
      obtain ⟨hb, hf⟩ := BD_mk (z := 3) h.1 (by omega) (by omega)
      have e3 := sX12_must_0 (d := d + 4) (X := X) (v := v) (T := T) (c := c) (s := s) (z := 3) hT h22 h.1
      have e66 := sX12_isGood_0 (d := d + 4) (X := X) (v := v) (T := T) (c := c) (s := s) hT hb
      have e7 := sX12_goesOn_0 (d := d + 1) (X := X) (v := v) (T := T) (c := c) (s := s) hT hb
      have e8 := sX12_reads_bad (d := d) (X := X) (v := v) (T := T) (c := c) (s := s) (x := 0) (y := 9999) hT hb (by omega) (by omega) (by omega)
      refine ⟨_, ?_, hb, hf.s⟩
      simp (disch := first | assumption | omega) only [↓reduceIte, eX12_stackText, bX12_stackText_0, bX12_stackText_9, bX12_stackText_13, bX12_stackText_14, bX12_stackText_43, bX12_stackText_52, i3_add, i3_sub, i3_mul, i3_neg, i6_add, i6_sub, i6_mul, i6_neg, i3_lt, i3_le, i3_eq, i6_lt, i6_eq, i3_div, i6_div, i6_i3, i3_i6, c6_lt, c6_ge, c6_gt, c6_le, c6_eq, i3_ite, i6_ite, ib_0, ib_z, ite_not, i1_0, i0_0, jB_1, jB_0, jB_ib, bI_v, bL_v, bD_v, bV_v, ob_s, ob_i, i3_ofNat, jx_e, bI_e, bL_e, bD_e, bV_e, i3_eq0, i6_eq0, if_mx, if_mn, if_true, if_false, not_true_eq_false, not_false_eq_true, Int.reduceEq, Int.reduceLT, Int.reduceLE, g12_20, g12_21, h5, q1, e21, e2, sX12_in, hin, e6, hi_a, t1, k2, e3, e66, e7, e8]
      simp (disch := first | assumption | omega) only [↓reduceIte, bX12_stackText_64, bX12_stackText_68, bX12_stackText_69, i3_add, i3_sub, i3_mul, i3_neg, i6_add, i6_sub, i6_mul, i6_neg, i3_lt, i3_le, i3_eq, i6_lt, i6_eq, i3_div, i6_div, i6_i3, i3_i6, c6_lt, c6_ge, c6_gt, c6_le, c6_eq, i3_ite, i6_ite, ib_0, ib_z, ite_not, i1_0, i0_0, jB_1, jB_0, jB_ib, bI_v, bL_v, bD_v, bV_v, ob_s, ob_i, i3_ofNat, jx_e, bI_e, bL_e, bD_e, bV_e, i3_eq0, i6_eq0, if_mx, if_mn, if_true, if_false, not_true_eq_false, not_false_eq_true, Int.reduceEq, Int.reduceLT, Int.reduceLE, g12_20, g12_21, h5, q1, e21, e2, sX12_in, hin, e6, hi_a, t1, k2, e3, e66, e7, e8]
      simp (disch := first | assumption | omega) only [↓reduceIte, bX12_stackText_80, bX12_stackText_87, bX12_stackText_88, bX12_stackText_110, bX12_stackText_127, i3_add, i3_sub, i3_mul, i3_neg, i6_add, i6_sub, i6_mul, i6_neg, i3_lt, i3_le, i3_eq, i6_lt, i6_eq, i3_div, i6_div, i6_i3, i3_i6, c6_lt, c6_ge, c6_gt, c6_le, c6_eq, i3_ite, i6_ite, ib_0, ib_z, ite_not, i1_0, i0_0, jB_1, jB_0, jB_ib, bI_v, bL_v, bD_v, bV_v, ob_s, ob_i, i3_ofNat, jx_e, bI_e, bL_e, bD_e, bV_e, i3_eq0, i6_eq0, if_mx, if_mn, if_true, if_false, not_true_eq_false, not_false_eq_true, Int.reduceEq, Int.reduceLT, Int.reduceLE, g12_20, g12_21, h5, q1, e21, e2, sX12_in, hin, e6, hi_a, t1, k2, e3, e66, e7, e8]
  · have q1 : (tkM b p = 2) = True := eq_true (tkM_e.2.1.mpr g.1)
    have e21 := h7 g.1
    have hin : (0 ≤ nv b p ∧ nv b p ≤ 9) = True := eq_true g.2
    obtain ⟨-, y0, y1⟩ := g
    obtain ⟨t1, t2⟩ := hto (nv b p) y0 (by omega)
    have k : to (nv b p) = 0 := by
      by_cases k : to (nv b p) = 0
      · exact k
      · exact absurd (Or.inl k) g2
    have k2 : ¬ (10 ≤ nv b p ∨ aM v i (nv b p) = 0) := fun q => by rcases q with q | q; omega; exact g2 (Or.inr q)
    obtain ⟨pp, ev⟩ := sX12_isVoid_p (d := d + 1) (X := X) (v := v) (w := w) (T := T) (c := c) (s := s) (i := i) (n := nv b p) hT (by omega) (by omega) y0 (by omega) ho
    rw [if_neg k2, show d + 1 + 4 = d + 5 from rfl] at ev
    have h' := GD_fw (p := pp) h
    have e21' : fw w pp 411 21 = nv b p := by rw [fw_ne (by omega), e21]
    have e2 := fun z => sX12_must_1 (d := d + 4) (X := X) (v := v) (T := T) (c := c) (s := s) (z := z) hT h22
    have e2' := fun z => sX12_must_1 (d := d + 4) (X := X) (v := v) (T := T) (c := c) (s := s) (z := z) hT h'.2
    have e6 := sX12_isGood_1 (d := d + 4) (X := X) (v := v) (T := T) (c := c) (s := s) hT h22
    have e6' := sX12_isGood_1 (d := d + 4) (X := X) (v := v) (T := T) (c := c) (s := s) hT h'.2
    obtain ⟨w1, e7, hg, hf⟩ := sX12_goesOn_1 (d := d + 1) (X := X) (v := v) (T := T) (c := c) (s := s) hT h'
    obtain ⟨w2, e8, hb, hf2⟩ := sX12_reads_0 (d := d) (X := X) (v := v) (T := T) (c := c) (s := s) hT hg (by omega) (by omega) (by omega) g3
    have e9 := sX12_isGood_0 (d := d + 4) (X := X) (v := v) (T := T) (c := c) (s := s) hT hb
    have z10 : nv b p < 10 := by omega
    refine ⟨w2, ?_, hb, frS_tr hf2.s (frS_tr hf.s frS_fw)⟩
    simp (disch := first | assumption | omega) only [↓reduceIte, eX12_stackText, bX12_stackText_0, bX12_stackText_9, bX12_stackText_13, bX12_stackText_14, bX12_stackText_43, bX12_stackText_52, i3_add, i3_sub, i3_mul, i3_neg, i6_add, i6_sub, i6_mul, i6_neg, i3_lt, i3_le, i3_eq, i6_lt, i6_eq, i3_div, i6_div, i6_i3, i3_i6, c6_lt, c6_ge, c6_gt, c6_le, c6_eq, i3_ite, i6_ite, ib_0, ib_z, ite_not, i1_0, i0_0, jB_1, jB_0, jB_ib, bI_v, bL_v, bD_v, bV_v, ob_s, ob_i, i3_ofNat, jx_e, bI_e, bL_e, bD_e, bV_e, i3_eq0, i6_eq0, if_mx, if_mn, if_true, if_false, not_true_eq_false, not_false_eq_true, Int.reduceEq, Int.reduceLT, Int.reduceLE, g12_20, g12_21, h5, q1, e21, e2, sX12_in, hin, e6, hi_a, t1, k, ev, e2', e6', e21', e7, e8, e9]
    simp (disch := first | assumption | omega) only [↓reduceIte, bX12_stackText_64, bX12_stackText_68, bX12_stackText_69, i3_add, i3_sub, i3_mul, i3_neg, i6_add, i6_sub, i6_mul, i6_neg, i3_lt, i3_le, i3_eq, i6_lt, i6_eq, i3_div, i6_div, i6_i3, i3_i6, c6_lt, c6_ge, c6_gt, c6_le, c6_eq, i3_ite, i6_ite, ib_0, ib_z, ite_not, i1_0, i0_0, jB_1, jB_0, jB_ib, bI_v, bL_v, bD_v, bV_v, ob_s, ob_i, i3_ofNat, jx_e, bI_e, bL_e, bD_e, bV_e, i3_eq0, i6_eq0, if_mx, if_mn, if_true, if_false, not_true_eq_false, not_false_eq_true, Int.reduceEq, Int.reduceLT, Int.reduceLE, g12_20, g12_21, h5, q1, e21, e2, sX12_in, hin, e6, hi_a, t1, k, ev, e2', e6', e21', e7, e8, e9]
    simp (disch := first | assumption | omega) only [↓reduceIte, bX12_stackText_80, bX12_stackText_87, bX12_stackText_88, bX12_stackText_110, bX12_stackText_127, i3_add, i3_sub, i3_mul, i3_neg, i6_add, i6_sub, i6_mul, i6_neg, i3_lt, i3_le, i3_eq, i6_lt, i6_eq, i3_div, i6_div, i6_i3, i3_i6, c6_lt, c6_ge, c6_gt, c6_le, c6_eq, i3_ite, i6_ite, ib_0, ib_z, ite_not, i1_0, i0_0, jB_1, jB_0, jB_ib, bI_v, bL_v, bD_v, bV_v, ob_s, ob_i, i3_ofNat, jx_e, bI_e, bL_e, bD_e, bV_e, i3_eq0, i6_eq0, if_mx, if_mn, if_true, if_false, not_true_eq_false, not_false_eq_true, Int.reduceEq, Int.reduceLT, Int.reduceLE, g12_20, g12_21, h5, q1, e21, e2, sX12_in, hin, e6, hi_a, t1, k, ev, e2', e6', e21', e7, e8, e9]
/-- one size -/
theorem sX12_stackText_1 {p a i : Nat} {to : Int → Int} (hT : 18 ≤ T) (h : GD w b n p) (ha0 : 431 ≤ a) (ha1 : a < 411 + T) (hi : i < 5) (ho : oM v i) (hto : ∀ k : Int, 0 ≤ k → k < 10 → w a k = to k ∧ (to k = 0 ∨ to k = 1))
    (g : isN b p 0 9) (g2 : ¬ (to (nv b p) ≠ 0 ∨ aM v i (nv b p) = 0)) (g3 : isN b (nx b p) 0 9999) :
    ∃ w', jm_env (d + 6) 256 [.ref 411, .int (i3 i), .ref a] (qM X v w T c s) = some (.inl none, qM X (up v 412 (12 + 13 * i + 3 + nv b p) (nv b (nx b p))) w' T c s) ∧ GD w' b n (nx b (nx b p)) ∧ (∀ k : Int, w' a k = if k = nv b p then 1 else w a k) ∧ ∀ (m : Nat) (k : Int), m ≠ a → (m ≠ 411 ∨ (k ≠ 9 ∧ k ≠ 10 ∧ (k < 18 ∨ (23 < k ∧ k ≠ 26)))) → w' m k = w m k := by
  obtain ⟨⟨h1, h2, h3, h4, h5, h6, h7, h8⟩, h22⟩ := id h
  have htk := tkM_b b p
  have q1 : (tkM b p = 2) = True := eq_true (tkM_e.2.1.mpr g.1)
  have e21 := h7 g.1
  have hin : (0 ≤ nv b p ∧ nv b p ≤ 9) = True := eq_true g.2
  obtain ⟨-, y0, y1⟩ := g
  obtain ⟨t1, t2⟩ := hto (nv b p) y0 (by omega)
  have k : to (nv b p) = 0 := by
    by_cases k : to (nv b p) = 0
    · exact k
    · exact absurd (Or.inl k) g2
  have k2 : ¬ (10 ≤ nv b p ∨ aM v i (nv b p) = 0) := fun q => by rcases q with q | q; omega; exact g2 (Or.inr q)
  obtain ⟨pp, ev⟩ := sX12_isVoid_p (d := d + 1) (X := X) (v := v) (w := w) (T := T) (c := c) (s := s) (i := i) (n := nv b p) hT (by omega) (by omega) y0 (by omega) ho
  rw [if_neg k2, show d + 1 + 4 = d + 5 from rfl] at ev
  have h' := GD_fw (p := pp) h
  have e21' : fw w pp 411 21 = nv b p := by rw [fw_ne (by omega), e21]
  have e2 := fun z => sX12_must_1 (d := d + 4) (X := X) (v := v) (T := T) (c := c) (s := s) (z := z) hT h22
  have e2' := fun z => sX12_must_1 (d := d + 4) (X := X) (v := v) (T := T) (c := c) (s := s) (z := z) hT h'.2
  have e6 := sX12_isGood_1 (d := d + 4) (X := X) (v := v) (T := T) (c := c) (s := s) hT h22
  have e6' := sX12_isGood_1 (d := d + 4) (X := X) (v := v) (T := T) (c := c) (s := s) hT h'.2
  obtain ⟨w1, e7, hg, hf⟩ := sX12_goesOn_1 (d := d + 1) (X := X) (v := v) (T := T) (c := c) (s := s) hT h'
  obtain ⟨w2, e8, hg2, hf2⟩ := sX12_reads_1 (d := d) (X := X) (v := v) (T := T) (c := c) (s := s) hT hg (by omega) (by omega) g3
  obtain ⟨-, u0, u1⟩ := g3
  have e9 := sX12_isGood_1 (d := d + 4) (X := X) (v := v) (T := T) (c := c) (s := s) hT hg2.2
  have z10 : nv b p < 10 := by omega
  have hfr : frS w2 w := frS_tr hf2.s (frS_tr hf.s frS_fw)
  refine ⟨up w2 a (nv b p) 1, ?_, ?_, fun k => ?_, fun m k m1 m2 => ?_⟩
  · simp (disch := first | assumption | omega) only [↓reduceIte, eX12_stackText, bX12_stackText_0, bX12_stackText_9, bX12_stackText_13, bX12_stackText_14, bX12_stackText_43, bX12_stackText_52, i3_add, i3_sub, i3_mul, i3_neg, i6_add, i6_sub, i6_mul, i6_neg, i3_lt, i3_le, i3_eq, i6_lt, i6_eq, i3_div, i6_div, i6_i3, i3_i6, c6_lt, c6_ge, c6_gt, c6_le, c6_eq, i3_ite, i6_ite, ib_0, ib_z, ite_not, i1_0, i0_0, jB_1, jB_0, jB_ib, bI_v, bL_v, bD_v, bV_v, ob_s, ob_i, i3_ofNat, jx_e, bI_e, bL_e, bD_e, bV_e, i3_eq0, i6_eq0, if_mx, if_mn, if_true, if_false, not_true_eq_false, not_false_eq_true, Int.reduceEq, Int.reduceLT, Int.reduceLE, g12_20, g12_21, h5, q1, e21, e2, sX12_in, hin, e6, hi_a, t1, k, ev, e2', e6', e21', e7, e8, e9, hi_w, r12_0, sX12_stackAt, w12_0]
    simp (disch := first | assumption | omega) only [↓reduceIte, bX12_stackText_64, bX12_stackText_68, bX12_stackText_69, i3_add, i3_sub, i3_mul, i3_neg, i6_add, i6_sub, i6_mul, i6_neg, i3_lt, i3_le, i3_eq, i6_lt, i6_eq, i3_div, i6_div, i6_i3, i3_i6, c6_lt, c6_ge, c6_gt, c6_le, c6_eq, i3_ite, i6_ite, ib_0, ib_z, ite_not, i1_0, i0_0, jB_1, jB_0, jB_ib, bI_v, bL_v, bD_v, bV_v, ob_s, ob_i, i3_ofNat, jx_e, bI_e, bL_e, bD_e, bV_e, i3_eq0, i6_eq0, if_mx, if_mn, if_true, if_false, not_true_eq_false, not_false_eq_true, Int.reduceEq, Int.reduceLT, Int.reduceLE, g12_20, g12_21, h5, q1, e21, e2, sX12_in, hin, e6, hi_a, t1, k, ev, e2', e6', e21', e7, e8, e9, hi_w, r12_0, sX12_stackAt, w12_0]
    simp (disch := first | assumption | omega) only [↓reduceIte, bX12_stackText_80, bX12_stackText_87, bX12_stackText_88, bX12_stackText_110, bX12_stackText_127, i3_add, i3_sub, i3_mul, i3_neg, i6_add, i6_sub, i6_mul, i6_neg, i3_lt, i3_le, i3_eq, i6_lt, i6_eq, i3_div, i6_div, i6_i3, i3_i6, c6_lt, c6_ge, c6_gt, c6_le, c6_eq, i3_ite, i6_ite, ib_0, ib_z, ite_not, i1_0, i0_0, jB_1, jB_0, jB_ib, bI_v, bL_v, bD_v, bV_v, ob_s, ob_i, i3_ofNat, jx_e, bI_e, bL_e, bD_e, bV_e, i3_eq0, i6_eq0, if_mx, if_mn, if_true, if_false, not_true_eq_false, not_false_eq_true, Int.reduceEq, Int.reduceLT, Int.reduceLE, g12_20, g12_21, h5, q1, e21, e2, sX12_in, hin, e6, hi_a, t1, k, ev, e2', e6', e21', e7, e8, e9, hi_w, r12_0, sX12_stackAt, w12_0]
  · obtain ⟨⟨⟨a1, a2, a3⟩, b1, b2, b3, b4, b5, b6, b7⟩, b8⟩ := hg2
    refine ⟨⟨⟨a1, by rw [up_ne (by omega)]; exact a2, fun k k0 k1 => by rw [up_ne (by omega)]; exact a3 k k0 k1⟩, b1, ?_, ?_, ?_, ?_, ?_, ?_⟩, ?_⟩
    all_goals rw [up_ne (by omega)]; assumption
  · by_cases e : k = nv b p
    · rw [e, up_eq, if_pos rfl]
    · rw [up_ne (by omega), if_neg e]
      exact hfr a k (by omega)
  · rw [up_ne (by omega)]
    exact hfr m k m2
end RFC
