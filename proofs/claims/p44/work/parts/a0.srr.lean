-- uses 24.zar 25.obj 26.ops 27.ra 28.rb 29.rc 34.gen 35.byt 36.ser 37.lnd 38.mod 39.mo2 40.mo3 41.bit 44.mo6 45.mo7 46.mo8 47.mo9 48.moa 51.moe 53.cla 54.clb 55.clc 58.clf 61.cli 62.clj 63.clk 64.okm 73.clr 74.cls 93.tka 94.tkb 95.drf 96.srd 97.srp 98.srq
/-! The class's reading of a setup: series, head, all. -/
section SRR
variable {d : Nat} {X : Nat × (Nat → Int32)} {v w : Nat → Int → Int} {T c s : Nat}
variable {b : Int → Int} {n : Nat} {μ : Nat → Int → Int}
/-- the ten flags taken back -/
theorem tX10_flags {a : Nat} : jm_R (jm_env (d + 1)) jmM_X10_readSizes 0 [some (.ref 6), some (.ref a), none] [] (qM X v w T c s) = jm_R (jm_env (d + 1)) jmM_X10_readSizes 23 [some (.ref 6), some (.ref a), some (.int (i3 0))] [] (qM X v (fil w 7 (fun _ => 0) 10) T c s) := by
  have hl := ch_n (fun k : Nat => jm_R (jm_env (d + 1)) jmM_X10_readSizes 2 [some (.ref 6), some (.ref a), some (.int (i3 k))] [] (qM X v (fil w 7 (fun _ => 0) k) T c s)) 10 (fun k hk => by
    show jm_R _ _ _ [_, _, some (.int (i3 k))] _ _ = jm_R _ _ _ _ _ _
    rw [bX10_readSizes_2]
    simp (disch := first | assumption | omega) only [i3_add, i3_sub, i3_mul, i3_neg, i6_add, i6_sub, i6_mul, i6_neg, i3_lt, i3_le, i3_eq, i6_lt, i6_eq, i3_div, i6_div, i6_i3, i3_i6, c6_lt, c6_ge, c6_gt, c6_le, c6_eq, i3_ite, i6_ite, ib_0, ib_z, ite_not, i1_0, i0_0, jB_1, jB_0, jB_ib, bI_v, bL_v, bD_v, bV_v, ob_s, ob_i, i3_ofNat, jx_e, bI_e, bL_e, bD_e, bV_e, i3_eq0, i6_eq0, if_mx, if_mn, if_true, if_false, not_true_eq_false, not_false_eq_true, Int.reduceEq, Int.reduceLT, Int.reduceLE, bX10_readSizes_8, r10_1, w10_1, fil_up]
    rw [if_neg (by omega)]
    rfl)
  rw [show ((0 : Nat) : Int) = 0 from rfl, fil_0] at hl
  rw [bX10_readSizes_0]
  refine hl.trans ?_
  show jm_R _ _ _ [_, _, some (.int (i3 10))] _ _ = _
  rw [bX10_readSizes_2]
  simp (disch := first | assumption | omega) only [i3_add, i3_sub, i3_mul, i3_neg, i6_add, i6_sub, i6_mul, i6_neg, i3_lt, i3_le, i3_eq, i6_lt, i6_eq, i3_div, i6_div, i6_i3, i3_i6, c6_lt, c6_ge, c6_gt, c6_le, c6_eq, i3_ite, i6_ite, ib_0, ib_z, ite_not, i1_0, i0_0, jB_1, jB_0, jB_ib, bI_v, bL_v, bD_v, bV_v, ob_s, ob_i, i3_ofNat, jx_e, bI_e, bL_e, bD_e, bV_e, i3_eq0, i6_eq0, if_mx, if_mn, if_true, if_false, not_true_eq_false, not_false_eq_true, Int.reduceEq, Int.reduceLT, Int.reduceLE, bX10_readSizes_21]
  rfl
theorem RD_fil {p m : Nat} {g : Int → Int} {z : Int} (h : m ≠ 5) : fil (RD w b p) m g z = RD (fil w m g z) b p := by
  unfold RD rdU
  rw [up_fil (by omega), up_fil (by omega), up_fil (by omega), up_fil (by omega)]
theorem tX10_readSizes {i p : Nat} (h : TB v b n) (hp : p ≤ n) (hl : lr v 46 μ) (hs : suM μ) (hi : (i : Int) < μ 412 0) (hk0 : ∀ k : Int, 0 ≤ k → k < 10 → kM μ i k = 0) (hT : T < 1000000000) :
    oC (jm_env (d + 5) 93 [.ref 6, .ref (46 + 7 + 5 * i)] (qM X v (RD w b p) T c s)) X v T c s b (szP b i 11 μ (fun _ => 0) p) := by
  rw [eX10_readSizes, tX10_flags, RD_fil (by omega)]
  exact tX10_sizes 11 0 v (fil w 7 (fun _ => 0) 10) μ (fun _ => 0) p rfl h hp hl hs hi (fun k k0 k1 => ⟨fil_in k0 k1, Or.inl rfl⟩) (fun k k0 k1 _ => hk0 k k0 k1) hT
theorem tb_v (h : TB v b n) {k : Int} (k0 : 0 ≤ k) (k1 : k < n) : v 2 k = b k := by
  have := h.2.1
  rw [← h.1]
  unfold bat
  rw [if_pos (by omega)]
theorem oC_fail {p q : Nat} {z : Int} {r : pR} {x : Option jm_Res} (hr : r = .inl (z, q)) (h : ∃ w', x = some (.inl (some (.int (i3 (0)))), qM X (up (up v 5 5 z) 5 6 q) w' T c s)) : oC x X v T c s b r := by
  obtain ⟨w', hw⟩ := h
  exact oC_l hr ⟨_, w', hw, by rw [up_ne (by omega), up_eq], up_eq, frD_e⟩
/-- one series -/
theorem tX10_readSeries {p : Nat} (h : TB v b n) (hp : p ≤ n) (hl : lr v 46 μ) (hs : suM μ) (hT : T < 1000000000) :
    oC (jm_env (d + 7) 92 [.ref 6, .ref 46] (qM X v (RD w b p) T c s)) X v T c s b (seP b μ p) := by
  have ho := h.ok
  have hn6 := ho.1
  have b1 := (nx_b ho hp).2
  have b2 := (nx_b ho b1).2
  have b3 := (nx_b ho b2).2
  have b4 := (nx_b ho b3).2
  have hlo : LO v 46 μ := ⟨oLnd_46, hl, hs.1, hs.2.2.1⟩
  have o1 := oByt_1
  have l46 := oLnd_46
  obtain ⟨c', hc'⟩ : ∃ c' : Nat, μ 412 0 = c' := ⟨(μ 412 0).toNat, (Int.toNat_of_nonneg hs.1.1).symm⟩
  have hv2 : v 46 2 = c' := hl.1.2.2.1.trans hc'
  have hc5 := hs.1.2.1
  unfold seP
  by_cases q1 : isW b p 643376307
  · have q1' : isW b p (wNo 2) := by rw [wNo_2]; exact q1
    have e1 := tX7_isW_1 (d := d + 4) (X := X) (w := w) (c := c) (s := s) h hp hT (by omega) (by omega) q1'
    rw [if_pos q1]
    by_cases q2 : 5 ≤ μ 412 0
    · rw [if_pos q2]
      refine oC_fail (p := p) rfl ⟨RD w b p, ?_⟩
      have ef := tX7_fail (d := d + 5) (X := X) (v := v) (w := w) (T := T) (c := c) (s := s) (b := b) (p := p) (z := 4)
      simp (disch := first | assumption | omega) only [eX10_readSeries, bX10_readSeries_0, bX10_readSeries_12, bX10_readSeries_21, bX10_readSeries_29, bX10_readSeries_38, bX10_readSeries_65, bX10_readSeries_67, bX10_readSeries_104, bX10_readSeries_113, bX10_readSeries_134, bX10_readSeries_136, bX10_readSeries_166, bX10_readSeries_168, i3_add, i3_sub, i3_mul, i3_neg, i6_add, i6_sub, i6_mul, i6_neg, i3_lt, i3_le, i3_eq, i6_lt, i6_eq, i3_div, i6_div, i6_i3, i3_i6, c6_lt, c6_ge, c6_gt, c6_le, c6_eq, i3_ite, i6_ite, ib_0, ib_z, ite_not, i1_0, i0_0, jB_1, jB_0, jB_ib, bI_v, bL_v, bD_v, bV_v, ob_s, ob_i, i3_ofNat, jx_e, bI_e, bL_e, bD_e, bV_e, i3_eq0, i6_eq0, if_mx, if_mn, if_true, if_false, not_true_eq_false, not_false_eq_true, Int.reduceEq, Int.reduceLT, Int.reduceLE, r10_0, show (1099511627778 : Nat) = 1099511627776 + 2 from rfl, e1, g4_2, hv2]
      rw [if_neg (by omega)]
      simp (disch := first | assumption | omega) only [i3_add, i3_sub, i3_mul, i3_neg, i6_add, i6_sub, i6_mul, i6_neg, i3_lt, i3_le, i3_eq, i6_lt, i6_eq, i3_div, i6_div, i6_i3, i3_i6, c6_lt, c6_ge, c6_gt, c6_le, c6_eq, i3_ite, i6_ite, ib_0, ib_z, ite_not, i1_0, i0_0, jB_1, jB_0, jB_ib, bI_v, bL_v, bD_v, bV_v, ob_s, ob_i, i3_ofNat, jx_e, bI_e, bL_e, bD_e, bV_e, i3_eq0, i6_eq0, if_mx, if_mn, if_true, if_false, not_true_eq_false, not_false_eq_true, Int.reduceEq, Int.reduceLT, Int.reduceLE, ef]
    · rw [if_neg q2]
      have q2' : ((c' : Int) < 5) = True := eq_true (by omega)
      have ea := tX7_advance (d := d + 4) (X := X) (w := w) (T := T) (c := c) (s := s) h hp
      by_cases q3 : isM b (nx b p)
      · rw [if_pos q3]
        have e3 := tX7_seesName_1 (d := d + 4) (X := X) (v := v) (w := w) (T := T) (c := c) (s := s) q3.1 q3.2 ho b1
        have hb1 := en_b ho b1
        have hlt := wd_ok ho b1 q3.1 (Nat.le_refl _)
        have ln6 := q3.2
        have hbat : ∀ k : Int, 0 ≤ k → k < ((en b (nx b p) - nx b p : Nat) : Int) → bat v 1 ((nx b p : Nat) + k) = v 2 ((nx b p : Nat) + k) := fun k k0 k1 => by
          rw [tb_v h (by omega) (by omega), h.1]
        have hwd : wd b (nx b p) = nk (fun k => v 2 ((nx b p : Nat) + k)) (en b (nx b p) - nx b p) := by
          unfold wd
          rw [show min (en b (nx b p) - nx b p) 12 = en b (nx b p) - nx b p by omega]
          exact nk_cg (fun k k0 k1 => (tb_v h (by omega) (by omega)).symm)
        have hlt2 : ltOk (fun k => v 2 ((nx b p : Nat) + k)) (en b (nx b p) - nx b p) := fun k k0 k1 => by
          have := hlt k k0 k1
          dsimp only at this ⊢
          rw [tb_v h (by omega) (by omega)]
          exact this
        have e4 := tX4_seriesNamed (d := d + 3) (X := X) (w := RD w b (nx b p)) (T := T) (c := c) (s := s) (st := (nx b p : Nat)) (n := en b (nx b p) - nx b p) hlo h.2.2 (by omega) (by omega) hbat hlt2
        rw [← hwd, show d + 3 + 3 = d + 6 from rfl] at e4
        have hsub : ((en b (nx b p) : Int) - (nx b p : Nat)) = ((en b (nx b p) - nx b p : Nat) : Int) := by omega
        have hnb := nmF_b (u := μ) hs.1.1 hs.1.2.1 (wd b (nx b p))
        by_cases q4 : nmF μ (wd b (nx b p)) ≠ -1
        · rw [if_pos q4]
          refine oC_fail (p := p) rfl ⟨RD w b (nx b p), ?_⟩
          have ef := tX7_fail (d := d + 5) (X := X) (v := v) (w := w) (T := T) (c := c) (s := s) (b := b) (p := nx b p) (z := 3)
          simp (disch := first | assumption | omega) only [↓reduceIte, eX10_readSeries, bX10_readSeries_0, bX10_readSeries_12, bX10_readSeries_21, bX10_readSeries_29, bX10_readSeries_38, bX10_readSeries_65, bX10_readSeries_67, bX10_readSeries_104, bX10_readSeries_113, bX10_readSeries_134, bX10_readSeries_136, bX10_readSeries_166, bX10_readSeries_168, i3_add, i3_sub, i3_mul, i3_neg, i6_add, i6_sub, i6_mul, i6_neg, i3_lt, i3_le, i3_eq, i6_lt, i6_eq, i3_div, i6_div, i6_i3, i3_i6, c6_lt, c6_ge, c6_gt, c6_le, c6_eq, i3_ite, i6_ite, ib_0, ib_z, ite_not, i1_0, i0_0, jB_1, jB_0, jB_ib, bI_v, bL_v, bD_v, bV_v, ob_s, ob_i, i3_ofNat, jx_e, bI_e, bL_e, bD_e, bV_e, i3_eq0, i6_eq0, if_mx, if_mn, if_true, if_false, not_true_eq_false, not_false_eq_true, Int.reduceEq, Int.reduceLT, Int.reduceLE, r10_0, show (1099511627778 : Nat) = 1099511627776 + 2 from rfl, e1, g4_2, hv2, q2', r4_3, q4_3, ea, e3, g7_2, g7_3, RD_2, RD_3, r7_0, hsub, e4]
          rw [if_neg q4]
          simp (disch := first | assumption | omega) only [i3_add, i3_sub, i3_mul, i3_neg, i6_add, i6_sub, i6_mul, i6_neg, i3_lt, i3_le, i3_eq, i6_lt, i6_eq, i3_div, i6_div, i6_i3, i3_i6, c6_lt, c6_ge, c6_gt, c6_le, c6_eq, i3_ite, i6_ite, ib_0, ib_z, ite_not, i1_0, i0_0, jB_1, jB_0, jB_ib, bI_v, bL_v, bD_v, bV_v, ob_s, ob_i, i3_ofNat, jx_e, bI_e, bL_e, bD_e, bV_e, i3_eq0, i6_eq0, if_mx, if_mn, if_true, if_false, not_true_eq_false, not_false_eq_true, Int.reduceEq, Int.reduceLT, Int.reduceLE, ef]
        · rw [if_neg q4]
          have q4' : nmF μ (wd b (nx b p)) = -1 := by
            by_cases g : nmF μ (wd b (nx b p)) = -1
            · exact g
            · exact absurd g q4
          have ea2 := tX7_advance (d := d + 4) (X := X) (w := w) (T := T) (c := c) (s := s) h b1
          by_cases q5 : isN b (nx b (nx b p)) 1 2000
          · rw [if_pos q5]
            have e5 := tX7_seesNo_1 (d := d + 4) (X := X) (v := v) (w := w) (T := T) (c := c) (s := s) h b2 (by omega) (by omega) q5
            have e54 := RD_4 (w := w) ho b2 q5 (by omega)
            have ea3 := tX7_advance (d := d + 4) (X := X) (w := w) (T := T) (c := c) (s := s) h b2
            by_cases q6 : isN b (nx b (nx b (nx b p))) 1 2000
            · rw [if_pos q6]
              have e6 := tX7_seesNo_1 (d := d + 4) (X := X) (v := v) (w := w) (T := T) (c := c) (s := s) h b3 (by omega) (by omega) q6
              have e64 := RD_4 (w := w) ho b3 q6 (by omega)
              obtain ⟨-, y0, y1⟩ := id q5
              obtain ⟨-, z0, z1⟩ := id q6
              have e7 := tX4_adS (d := d + 3) (X := X) (v := v) (w := RD w b (nx b (nx b (nx b p)))) (T := T) (c := c) (s := s) (st := (nx b p : Nat)) (n := en b (nx b p) - nx b p) (a := nv b (nx b (nx b p))) (b := nv b (nx b (nx b (nx b p)))) hv2 (by omega) h.2.2 (by omega) (by omega) ln6 hbat (by omega) (by omega) (by omega) (by omega)
              rw [show d + 3 + 3 = d + 6 from rfl] at e7
              have hn1 := wd_n b1 ho q3.1
              have hl2 := lr_adD (a := nv b (nx b (nx b p))) (b := nv b (nx b (nx b (nx b p)))) (n := en b (nx b p) - nx b p) (f := fun k => v 2 ((nx b p : Nat) + k)) hl hc' (by omega) (by rw [hs.2.2.2.2 3 (by omega) (by omega)]; omega) hs.2.2.2.1 hn1 ln6 hlt2
              rw [← hwd] at hl2
              have hs2 := suM_cm (x := wd b (nx b p)) hs (by omega) y0 y1 z0 z1
              have hf : frD (adV v c' (fun k => v 2 ((nx b p : Nat) + k)) ((en b (nx b p) - nx b p : Nat) : Int) (nv b (nx b (nx b p))) (nv b (nx b (nx b (nx b p))))) v := fun m m1 _ => adV_b (by omega) (by omega)
              have h2 := TB_fr h hf
              have ea4 := tX7_advance (d := d + 4) (X := X) (w := w) (T := T) (c := c) (s := s) h2 b3
              have c0 := hs.1.1
              have e0 := cm_0 (x := wd b (nx b p)) (a := nv b (nx b (nx b p))) (b := nv b (nx b (nx b (nx b p)))) c0
              have hz := tX10_readSizes (d := d + 1) (X := X) (w := w) (T := T) (c := c) (s := s) (i := c') h2 b4 hl2 hs2 (by rw [e0]; omega) (fun k k0 k1 => by rw [cm_k c0 (by omega) k0 k1]; exact hs.2.2.2.1 _ _ (by omega) (by omega) k0 k1) hT
              rw [show d + 1 + 5 = d + 6 from rfl] at hz
              rw [hc']
              refine oC_fr (v := adV v c' (fun k => v 2 ((nx b p : Nat) + k)) ((en b (nx b p) - nx b p : Nat) : Int) (nv b (nx b (nx b p))) (nv b (nx b (nx b (nx b p))))) ?_ (adV_b (by omega) (by omega)) hf
              refine ⟨fun e he => ?_, fun u hu => ?_⟩
              · obtain ⟨v', w', x1, x2⟩ := hz.1 e he
                refine ⟨v', w', ?_, x2⟩
                simp (disch := first | assumption | omega) only [↓reduceIte, eX10_readSeries, bX10_readSeries_0, bX10_readSeries_12, bX10_readSeries_21, bX10_readSeries_29, bX10_readSeries_38, bX10_readSeries_65, bX10_readSeries_67, bX10_readSeries_104, bX10_readSeries_113, bX10_readSeries_134, bX10_readSeries_136, bX10_readSeries_166, bX10_readSeries_168, i3_add, i3_sub, i3_mul, i3_neg, i6_add, i6_sub, i6_mul, i6_neg, i3_lt, i3_le, i3_eq, i6_lt, i6_eq, i3_div, i6_div, i6_i3, i3_i6, c6_lt, c6_ge, c6_gt, c6_le, c6_eq, i3_ite, i6_ite, ib_0, ib_z, ite_not, i1_0, i0_0, jB_1, jB_0, jB_ib, bI_v, bL_v, bD_v, bV_v, ob_s, ob_i, i3_ofNat, jx_e, bI_e, bL_e, bD_e, bV_e, i3_eq0, i6_eq0, if_mx, if_mn, if_true, if_false, not_true_eq_false, not_false_eq_true, Int.reduceEq, Int.reduceLT, Int.reduceLE, r10_0, show (1099511627778 : Nat) = 1099511627776 + 2 from rfl, e1, g4_2, hv2, q2', r4_3, q4_3, ea, e3, g7_2, g7_3, g7_4, RD_2, RD_3, r7_0, hsub, e4, q4', ea2, e5, e54, ea3, e6, e64, e7, ea4, Int.toNat_natCast, x1]
              · obtain ⟨v', w', x1, x2⟩ := hz.2 u hu
                refine ⟨v', w', ?_, x2⟩
                simp (disch := first | assumption | omega) only [↓reduceIte, eX10_readSeries, bX10_readSeries_0, bX10_readSeries_12, bX10_readSeries_21, bX10_readSeries_29, bX10_readSeries_38, bX10_readSeries_65, bX10_readSeries_67, bX10_readSeries_104, bX10_readSeries_113, bX10_readSeries_134, bX10_readSeries_136, bX10_readSeries_166, bX10_readSeries_168, i3_add, i3_sub, i3_mul, i3_neg, i6_add, i6_sub, i6_mul, i6_neg, i3_lt, i3_le, i3_eq, i6_lt, i6_eq, i3_div, i6_div, i6_i3, i3_i6, c6_lt, c6_ge, c6_gt, c6_le, c6_eq, i3_ite, i6_ite, ib_0, ib_z, ite_not, i1_0, i0_0, jB_1, jB_0, jB_ib, bI_v, bL_v, bD_v, bV_v, ob_s, ob_i, i3_ofNat, jx_e, bI_e, bL_e, bD_e, bV_e, i3_eq0, i6_eq0, if_mx, if_mn, if_true, if_false, not_true_eq_false, not_false_eq_true, Int.reduceEq, Int.reduceLT, Int.reduceLE, r10_0, show (1099511627778 : Nat) = 1099511627776 + 2 from rfl, e1, g4_2, hv2, q2', r4_3, q4_3, ea, e3, g7_2, g7_3, g7_4, RD_2, RD_3, r7_0, hsub, e4, q4', ea2, e5, e54, ea3, e6, e64, e7, ea4, Int.toNat_natCast, x1]
            · rw [if_neg q6]
              refine oC_fail (p := p) rfl ⟨RD w b (nx b (nx b (nx b p))), ?_⟩
              have e6 := tX7_seesNo_0 (d := d + 4) (X := X) (v := v) (w := w) (T := T) (c := c) (s := s) h b3 (by omega) (by omega) (by omega) q6
              simp (disch := first | assumption | omega) only [↓reduceIte, eX10_readSeries, bX10_readSeries_0, bX10_readSeries_12, bX10_readSeries_21, bX10_readSeries_29, bX10_readSeries_38, bX10_readSeries_65, bX10_readSeries_67, bX10_readSeries_104, bX10_readSeries_113, bX10_readSeries_134, bX10_readSeries_136, bX10_readSeries_166, bX10_readSeries_168, i3_add, i3_sub, i3_mul, i3_neg, i6_add, i6_sub, i6_mul, i6_neg, i3_lt, i3_le, i3_eq, i6_lt, i6_eq, i3_div, i6_div, i6_i3, i3_i6, c6_lt, c6_ge, c6_gt, c6_le, c6_eq, i3_ite, i6_ite, ib_0, ib_z, ite_not, i1_0, i0_0, jB_1, jB_0, jB_ib, bI_v, bL_v, bD_v, bV_v, ob_s, ob_i, i3_ofNat, jx_e, bI_e, bL_e, bD_e, bV_e, i3_eq0, i6_eq0, if_mx, if_mn, if_true, if_false, not_true_eq_false, not_false_eq_true, Int.reduceEq, Int.reduceLT, Int.reduceLE, r10_0, show (1099511627778 : Nat) = 1099511627776 + 2 from rfl, e1, g4_2, hv2, q2', r4_3, q4_3, ea, e3, g7_2, g7_3, g7_4, RD_2, RD_3, r7_0, hsub, e4, q4', ea2, e5, e54, ea3, e6]
          · rw [if_neg q5]
            refine oC_fail (p := p) rfl ⟨RD w b (nx b (nx b p)), ?_⟩
            have e5 := tX7_seesNo_0 (d := d + 4) (X := X) (v := v) (w := w) (T := T) (c := c) (s := s) h b2 (by omega) (by omega) (by omega) q5
            simp (disch := first | assumption | omega) only [↓reduceIte, eX10_readSeries, bX10_readSeries_0, bX10_readSeries_12, bX10_readSeries_21, bX10_readSeries_29, bX10_readSeries_38, bX10_readSeries_65, bX10_readSeries_67, bX10_readSeries_104, bX10_readSeries_113, bX10_readSeries_134, bX10_readSeries_136, bX10_readSeries_166, bX10_readSeries_168, i3_add, i3_sub, i3_mul, i3_neg, i6_add, i6_sub, i6_mul, i6_neg, i3_lt, i3_le, i3_eq, i6_lt, i6_eq, i3_div, i6_div, i6_i3, i3_i6, c6_lt, c6_ge, c6_gt, c6_le, c6_eq, i3_ite, i6_ite, ib_0, ib_z, ite_not, i1_0, i0_0, jB_1, jB_0, jB_ib, bI_v, bL_v, bD_v, bV_v, ob_s, ob_i, i3_ofNat, jx_e, bI_e, bL_e, bD_e, bV_e, i3_eq0, i6_eq0, if_mx, if_mn, if_true, if_false, not_true_eq_false, not_false_eq_true, Int.reduceEq, Int.reduceLT, Int.reduceLE, r10_0, show (1099511627778 : Nat) = 1099511627776 + 2 from rfl, e1, g4_2, hv2, q2', r4_3, q4_3, ea, e3, g7_2, g7_3, RD_2, RD_3, r7_0, hsub, e4, q4', ea2, e5]
      · rw [if_neg q3]
        refine oC_fail (p := p) rfl ⟨RD w b (nx b p), ?_⟩
        have e3 := tX7_seesNa_0 (d := d + 4) (X := X) (v := v) (w := w) (T := T) (c := c) (s := s) h b1 q3
        simp (disch := first | assumption | omega) only [↓reduceIte, eX10_readSeries, bX10_readSeries_0, bX10_readSeries_12, bX10_readSeries_21, bX10_readSeries_29, bX10_readSeries_38, bX10_readSeries_65, bX10_readSeries_67, bX10_readSeries_104, bX10_readSeries_113, bX10_readSeries_134, bX10_readSeries_136, bX10_readSeries_166, bX10_readSeries_168, i3_add, i3_sub, i3_mul, i3_neg, i6_add, i6_sub, i6_mul, i6_neg, i3_lt, i3_le, i3_eq, i6_lt, i6_eq, i3_div, i6_div, i6_i3, i3_i6, c6_lt, c6_ge, c6_gt, c6_le, c6_eq, i3_ite, i6_ite, ib_0, ib_z, ite_not, i1_0, i0_0, jB_1, jB_0, jB_ib, bI_v, bL_v, bD_v, bV_v, ob_s, ob_i, i3_ofNat, jx_e, bI_e, bL_e, bD_e, bV_e, i3_eq0, i6_eq0, if_mx, if_mn, if_true, if_false, not_true_eq_false, not_false_eq_true, Int.reduceEq, Int.reduceLT, Int.reduceLE, r10_0, show (1099511627778 : Nat) = 1099511627776 + 2 from rfl, e1, g4_2, hv2, q2', r4_3, q4_3, ea, e3]
  · have q1' : ¬ isW b p (wNo 2) := by rw [wNo_2]; exact q1
    have e1 := tX7_isW_0 (d := d + 4) (X := X) (w := w) (c := c) (s := s) h hp hT (by omega) (by omega) q1'
    rw [if_neg q1]
    refine oC_fail (p := p) rfl ⟨RD w b p, ?_⟩
    have ef := tX7_fail (d := d + 5) (X := X) (v := v) (w := w) (T := T) (c := c) (s := s) (b := b) (p := p) (z := 1)
    simp (disch := first | assumption | omega) only [↓reduceIte, eX10_readSeries, bX10_readSeries_0, bX10_readSeries_12, bX10_readSeries_21, bX10_readSeries_29, bX10_readSeries_38, bX10_readSeries_65, bX10_readSeries_67, bX10_readSeries_104, bX10_readSeries_113, bX10_readSeries_134, bX10_readSeries_136, bX10_readSeries_166, bX10_readSeries_168, i3_add, i3_sub, i3_mul, i3_neg, i6_add, i6_sub, i6_mul, i6_neg, i3_lt, i3_le, i3_eq, i6_lt, i6_eq, i3_div, i6_div, i6_i3, i3_i6, c6_lt, c6_ge, c6_gt, c6_le, c6_eq, i3_ite, i6_ite, ib_0, ib_z, ite_not, i1_0, i0_0, jB_1, jB_0, jB_ib, bI_v, bL_v, bD_v, bV_v, ob_s, ob_i, i3_ofNat, jx_e, bI_e, bL_e, bD_e, bV_e, i3_eq0, i6_eq0, if_mx, if_mn, if_true, if_false, not_true_eq_false, not_false_eq_true, Int.reduceEq, Int.reduceLT, Int.reduceLE, r10_0, show (1099511627778 : Nat) = 1099511627776 + 2 from rfl, e1, ef]
end SRR
