-- uses 24.zar 25.obj 26.ops 27.ra 28.rb 29.rc 34.gen 35.byt 36.ser 37.lnd 38.mod 39.mo2 40.mo3 41.bit 44.mo6 45.mo7 46.mo8 47.mo9 48.moa 49.mob 50.moc 51.moe 53.cla 57.cle 58.clf 61.cli 62.clj 63.clk 64.okm 65.cll 66.clm 67.okf 68.okg 69.cln 70.clo 73.clr 74.cls 93.tka 94.tkb 97.srp b0.pla b1.plb b2.plc b3.pld b4.ple
/-! The class plays. -/
section PLF
variable {d : Nat} {X : Nat × (Nat → Int32)} {v w : Nat → Int → Int} {T c s : Nat}
variable {b : Int → Int} {n : Nat} {μ : Nat → Int → Int}
theorem tX8_readFrom (h : TB v b n) (hlo : LO v 14 μ) (hT : T < 1000000000) :
    (∀ e, pO b (nmF μ) 31 0 0 (sk b 0) = .inl e → ∃ w', jm_env (d + 17) 103 [.ref 8, .ref 5, .ref 14] (qM X v w T c s) = some (.inl (some (.int (i3 (0)))), qM X (up (up v 5 5 e.1) 5 6 e.2) w' T c s)) ∧
    (∀ u, pO b (nmF μ) 31 0 0 (sk b 0) = .inr u → ∃ w', jm_env (d + 17) 103 [.ref 8, .ref 5, .ref 14] (qM X v w T c s) = some (.inl (some (.int (i3 (1)))), qM X (up (up v 5 5 0) 5 6 (-1)) w' T c s) ∧ w' 8 5 = (u.2.length : Int) ∧ tbW w' 0 u.2) := by
  have hv0 : ∀ m : Nat, m ≠ 5 → up (up v 5 5 0) 5 6 (-1) m = v m := fun m hm => by rw [up_b hm, up_b hm]
  have e1 := tX7_begin (d := d + 13) (X := X) (w := up w 8 5 0) (T := T) (c := c) (s := s) h
  have hlo' : LO (up (up v 5 5 0) 5 6 (-1)) 14 μ := ⟨hlo.1, lr_fr (fun m m0 m1 => hv0 m (by omega)) hlo.2.2.1.2.1 hlo.2.1, hlo.2.2⟩
  have hTB : TB (up (up v 5 5 0) 5 6 (-1)) b n := TB_5 (TB_5 h)
  have hp : sk b 0 ≤ n := (sk_s h.ok (Nat.zero_le _)).1.2
  have e2 := tX8_orders (d := d) (X := X) (T := T) (c := c) (s := s) (v := up (up v 5 5 0) 5 6 (-1)) 31 3 0 0 0 (sk b 0) (up w 8 5 0) rfl hTB hp hlo' hT (by omega) (by omega) (by omega) up_eq
  have head2 : ∀ z m, (z = 0 ∨ z = 1) → jm_R (jm_env (d + 15)) jmM_X8_readOrders 3 [some (.ref 8), some (.ref 5), some (.ref 14), some (.int (i3 ((0 : Nat) : Int))), some (.int (i3 ((0 : Nat) : Int)))] [] (qM X (up (up v 5 5 0) 5 6 (-1)) (RD (up w 8 5 0) b (sk b 0)) T c s) = some (.inl (some (.int (i3 (z)))), m) → jm_env (d + 17) 103 [.ref 8, .ref 5, .ref 14] (qM X v w T c s) = some (.inl (some (.int (i3 (z)))), m) := by
    intro z m hz0 hz
    have hz' : jm_env (d + 16) 104 [.ref 8, .ref 5, .ref 14, .int (i3 0)] (qM X (up (up v 5 5 0) 5 6 (-1)) (RD (up w 8 5 0) b (sk b 0)) T c s) = some (.inl (some (.int (i3 (z)))), m) := by
      rw [eX8_readOrders, bX8_readOrders_0]
      exact hz
    rcases hz0 with rfl | rfl <;> simp (disch := first | assumption | omega) only [eX8_readFrom, bX8_readFrom_0, p8_5, i3_add, i3_sub, i3_mul, i3_neg, i6_add, i6_sub, i6_mul, i6_neg, i3_lt, i3_le, i3_eq, i6_lt, i6_eq, i3_div, i6_div, i6_i3, i3_i6, c6_lt, c6_ge, c6_gt, c6_le, c6_eq, i3_ite, i6_ite, ib_0, ib_z, ite_not, i1_0, i0_0, jB_1, jB_0, jB_ib, bI_v, bL_v, bD_v, bV_v, ob_s, ob_i, i3_ofNat, jx_e, bI_e, bL_e, bD_e, bV_e, i3_eq0, i6_eq0, if_mx, if_mn, if_true, if_false, not_true_eq_false, not_false_eq_true, Int.reduceEq, Int.reduceLT, Int.reduceLE, i3_add, i3_sub, i3_mul, i3_neg, i6_add, i6_sub, i6_mul, i6_neg, i3_lt, i3_le, i3_eq, i6_lt, i6_eq, i3_div, i6_div, i6_i3, i3_i6, c6_lt, c6_ge, c6_gt, c6_le, c6_eq, i3_ite, i6_ite, ib_0, ib_z, ite_not, i1_0, i0_0, jB_1, jB_0, jB_ib, bI_v, bL_v, bD_v, bV_v, ob_s, ob_i, i3_ofNat, jx_e, bI_e, bL_e, bD_e, bV_e, i3_eq0, i6_eq0, if_mx, if_mn, if_true, if_false, not_true_eq_false, not_false_eq_true, Int.reduceEq, Int.reduceLT, Int.reduceLE, e1, hz']
  refine ⟨fun e he => ?_, fun u hu => ?_⟩
  · obtain ⟨w', x1⟩ := e2.1 e he
    refine ⟨w', (head2 _ _ (Or.inl rfl) x1).trans ?_⟩
    have ev : up (up (up (up v 5 5 0) 5 6 (-1)) 5 5 e.1) 5 6 e.2 = up (up v 5 5 e.1) 5 6 (e.2 : Int) := by
      funext m k
      unfold up
      (repeat' split) <;> first | rfl | (exfalso; omega)
    rw [ev]
  · obtain ⟨w', x1, x2, x3, -⟩ := e2.2 u hu
    refine ⟨RD w' b u.1, head2 _ _ (Or.inr rfl) x1, ?_, ?_⟩
    · rw [RD_b (by omega), x2]; omega
    · exact tbW_fr x3 (fun m j m1 m2 _ _ => by rw [RD_b (by omega)])
theorem tX11_play {m : Int} (hq : LQ v μ m) (hm : 0 ≤ m) (h : TB v b n) (hT : T < 1000000000) :
    (∀ e, pO b (nmF μ) 31 0 0 (sk b 0) = .inl e → ∃ w', jm_env (d + 18) 140 [.ref 0] (qM X v w T c s) = some (.inl (some (.int (i3 (-1)))), qM X (up (up (up v 5 5 e.1) 5 6 e.2) 1 1 0) w' T c s)) ∧
    (∀ u, pO b (nmF μ) 31 0 0 (sk b 0) = .inr u → ∃ v' w', jm_env (d + 18) 140 [.ref 0] (qM X v w T c s) = some (.inl (some (.int (i3 ((rnL 31 0 u.2 (kpV μ (μ 412), 0)).1.2)))), qM X v' w' T c s) ∧ LQ v' (rnL 31 0 u.2 (kpV μ (μ 412), 0)).1.1 (m + 42) ∧ v' 5 5 = 0 ∧ v' 5 6 = -1 ∧ v' 1 1 = 0 ∧ (0 ≤ (rnL 31 0 u.2 (kpV μ (μ 412), 0)).1.2 ∧ (rnL 31 0 u.2 (kpV μ (μ 412), 0)).1.2 ≤ 40) ∧ ∀ k : Nat, k ≠ 1 → k ≠ 5 → k < 14 ∨ (46 ≤ k ∧ k < 78) ∨ (336 ≤ k ∧ k ≠ 338) → v' k = v k) := by
  have o1 := oByt_1
  have o14 := oLnd_14
  obtain ⟨hi, hj⟩ := tX8_readFrom (d := d) (X := X) (w := w) (c := c) (s := s) h hq.lo hT
  refine ⟨fun e he => ?_, fun u hu => ?_⟩
  · obtain ⟨w', x1⟩ := hi e he
    refine ⟨w', ?_⟩
    simp (disch := first | assumption | omega) only [eX11_play, bX11_play_0, bX11_play_28, bX11_play_30, r11_4, r11_2, r11_5, r11_0, r11_7, p11_13, g8_5, g11_13, i3_add, i3_sub, i3_mul, i3_neg, i6_add, i6_sub, i6_mul, i6_neg, i3_lt, i3_le, i3_eq, i6_lt, i6_eq, i3_div, i6_div, i6_i3, i3_i6, c6_lt, c6_ge, c6_gt, c6_le, c6_eq, i3_ite, i6_ite, ib_0, ib_z, ite_not, i1_0, i0_0, jB_1, jB_0, jB_ib, bI_v, bL_v, bD_v, bV_v, ob_s, ob_i, i3_ofNat, jx_e, bI_e, bL_e, bD_e, bV_e, i3_eq0, i6_eq0, if_mx, if_mn, if_true, if_false, not_true_eq_false, not_false_eq_true, Int.reduceEq, Int.reduceLT, Int.reduceLE, i3_add, i3_sub, i3_mul, i3_neg, i6_add, i6_sub, i6_mul, i6_neg, i3_lt, i3_le, i3_eq, i6_lt, i6_eq, i3_div, i6_div, i6_i3, i3_i6, c6_lt, c6_ge, c6_gt, c6_le, c6_eq, i3_ite, i6_ite, ib_0, ib_z, ite_not, i1_0, i0_0, jB_1, jB_0, jB_ib, bI_v, bL_v, bD_v, bV_v, ob_s, ob_i, i3_ofNat, jx_e, bI_e, bL_e, bD_e, bV_e, i3_eq0, i6_eq0, if_mx, if_mn, if_true, if_false, not_true_eq_false, not_false_eq_true, Int.reduceEq, Int.reduceLT, Int.reduceLE, x1, sX0_shorten, ↓reduceIte]
  · obtain ⟨w', x1, x2, x3⟩ := hj u hu
    have hp : sk b 0 ≤ n := (sk_s h.ok (Nat.zero_le _)).1.2
    have hc0 := hq.2.1.1.1
    obtain ⟨u1, u2, u3, u4⟩ := pO_s h.ok (nmF_c hc0) _ _ _ _ _ hp (by omega) hu
    generalize hv1 : up (up (up v 5 5 0) 5 6 (-1)) 1 1 0 = v1
    have f1 : ∀ k : Nat, k ≠ 1 → k ≠ 5 → v1 k = v k := fun k k1 k5 => by rw [← hv1, up_b k1, up_b k5, up_b k5]
    have hq1 : LQ v1 μ m := ⟨lr_fr (fun k k0 k1 => f1 k (by omega) (by omega)) hq.2.1.1.2.1 hq.1, hq.2.1, hR_fr hq.2.2.1 (fun k k0 k1 => f1 k (by omega) (by omega)), fun k k0 k1 => by rw [f1 338 (by omega) (by omega)]; exact hq.2.2.2 k k0 k1⟩
    obtain ⟨v2, e2, hh2, hf2⟩ := tX3_keep (d := d + 14) (X := X) (T := T) (c := c) (s := s) (w := w') (b := 14) hq1.2.2.1 rfl hq1.1 hq1.2.1
    have hq2 : LQ v2 (kpV μ (μ 412)) (m + 1) := LQ_keep hq1 hh2 hf2 (lr_fr (fun k k0 k1 => hf2 k (by omega)) hq.2.1.1.2.1 hq1.1) (okM_le hq.2.1 (by omega)) (fun _ _ => rfl) (fun _ _ => rfl)
    have hlen : u.2.length ≤ 30 := by omega
    obtain ⟨v3, w3, e3, y1, y2, y3, y4, y5, y6, y7, y8⟩ := tX11_run (d := d + 3) (X := X) (T := T) (c := c) (s := s) (B := m + 1) (c0 := μ 412 0) (t := u.2.length) (by omega) hlen 31 3 0 u.2 0 0 rfl (by omega) u3 v2 (up w' 0 13 0) (kpV μ (μ 412)) 0 ⟨by rw [Int.add_zero]; exact hq2, by rw [kpV_b (by omega) (by omega)], by rw [up_b (by omega)]; exact x2, up_eq, by omega, by omega⟩ (tbW_fr x3 (fun k j k1 k2 _ _ => by rw [up_b (by omega)]))
    have e3' : jm_env (d + 17) 145 [.ref 0, .int (i3 0), .int (i3 (u.2.length : Int)), .int (i3 0)] (qM X v2 (up w' 0 13 0) T c s) = some (.inl (some (.int (i3 (if (rnL 31 0 u.2 (kpV μ (μ 412), 0)).2 = true then 1 else 0)))), qM X v3 w3 T c s) := by
      rw [show d + 17 = d + 16 + 1 from rfl, eX11_runOrders, bX11_runOrders_0]
      rw [Nat.zero_add] at e3
      exact e3
    refine ⟨v3, w3, ?_, LQ_le y1 ?_, ?_, ?_, ?_, ⟨y6, y7⟩, fun k k1 k5 hk => ?_⟩
    · have r7 : jm_gR (qM X v1 w' T c s) 0 11 7 = some 78 := r11_7
      have e85 : up w' 0 13 0 8 5 = (u.2.length : Int) := by rw [up_b (by omega)]; exact x2
      simp (disch := first | assumption | omega) only [eX11_play, bX11_play_0, bX11_play_28, bX11_play_30, r11_4, r11_2, r11_5, r11_0, r11_7, p11_13, g8_5, g11_13, i3_add, i3_sub, i3_mul, i3_neg, i6_add, i6_sub, i6_mul, i6_neg, i3_lt, i3_le, i3_eq, i6_lt, i6_eq, i3_div, i6_div, i6_i3, i3_i6, c6_lt, c6_ge, c6_gt, c6_le, c6_eq, i3_ite, i6_ite, ib_0, ib_z, ite_not, i1_0, i0_0, jB_1, jB_0, jB_ib, bI_v, bL_v, bD_v, bV_v, ob_s, ob_i, i3_ofNat, jx_e, bI_e, bL_e, bD_e, bV_e, i3_eq0, i6_eq0, if_mx, if_mn, if_true, if_false, not_true_eq_false, not_false_eq_true, Int.reduceEq, Int.reduceLT, Int.reduceLE, i3_add, i3_sub, i3_mul, i3_neg, i6_add, i6_sub, i6_mul, i6_neg, i3_lt, i3_le, i3_eq, i6_lt, i6_eq, i3_div, i6_div, i6_i3, i3_i6, c6_lt, c6_ge, c6_gt, c6_le, c6_eq, i3_ite, i6_ite, ib_0, ib_z, ite_not, i1_0, i0_0, jB_1, jB_0, jB_ib, bI_v, bL_v, bD_v, bV_v, ob_s, ob_i, i3_ofNat, jx_e, bI_e, bL_e, bD_e, bV_e, i3_eq0, i6_eq0, if_mx, if_mn, if_true, if_false, not_true_eq_false, not_false_eq_true, Int.reduceEq, Int.reduceLT, Int.reduceLE, x1, sX0_shorten, ↓reduceIte, hv1, e2, e85, e3', y4]
    · split <;> omega
    · rw [y3 5 (by omega), hf2 5 (by omega), ← hv1, up_b (by omega), up_ne (by omega), up_eq]
    · rw [y3 5 (by omega), hf2 5 (by omega), ← hv1, up_b (by omega), up_eq]
    · rw [y3 1 (by omega), hf2 1 (by omega), ← hv1, up_eq]
    · rw [y3 k hk, hf2 k (by omega), f1 k k1 k5]
end PLF
