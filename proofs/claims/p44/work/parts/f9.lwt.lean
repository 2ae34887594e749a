-- uses 24.zar 25.obj 26.ops 30.rd 31.re 34.gen 38.mod 39.mo2 41.bit 42.mo4 43.mo5 44.mo6 58.clf 59.clg 60.clh 62.clj 65.cll 07.rel c0.foa c5.fof d8.frm d9.frn e0.lwa e1.lwb e2.lwc e3.lwd e4.lwe e8.lwi e9.lwj f0.lwk f1.lwl f8.lws
/-! All that is asked ahead of an act. -/
section LWT
variable {m m' : jm_Mem} {X : Nat × (Nat → Int32)} {P : Nat → Nat} {g d : Nat} {v w μ : Nat → Int → Int} {n : Int}
theorem sL_still_a (h : ST m X P g v w μ n) (hm : m.1 ≤ 1000000) : ∀ t : Nat, (t : Int) ≤ μ 412 0 → ∃ m' w', jm_R (jm_env (d + 13)) jmM_L_still 30 [some (.ref 0), some (.ref (P 0)), some (.ref g), some (.int (i3 0)), none, none, none, none, none] [] m = jm_R (jm_env (d + 13)) jmM_L_still 30 [some (.ref 0), some (.ref (P 0)), some (.ref g), some (.int (i3 t)), none, none, none, none, none] [] m' ∧ ST m' X P g v w' μ n ∧ frC m m' := by
  have h5 := (ST_g_ok h).2.2.2.2
  intro t
  induction t with
  | zero => intro _; exact ⟨m, w, rfl, h, rfl, rfl, fun _ _ => rfl⟩
  | succ t ih =>
    intro ht
    obtain ⟨m1, w1, e1, h1, f1⟩ := ih (by omega)
    obtain ⟨m2, w2, e2, h2, f2⟩ := sL_isSeries (d := d) h1 (by rw [f1.1]; exact hm) (k := t) (by omega)
    refine ⟨m2, w2, ?_, h2, frC_t f1 f2⟩
    rw [e1, bL_still_30, q_gR h1.2.2.1.1 (k := 0) rfl, ob_s, LH_sz (d := d + 12) h1.2.2.1, ob_s, bI_v, ie_le (by omega) (by omega) (by omega) (by omega), if_neg (by omega), bL_still_43, e2, ob_s, bI_v, ie_eq (by omega) (by omega) (by omega) (by omega), if_neg (by omega), bL_still_54, i3_add]
    rfl
theorem sL_still_b (h : ST m X P g v w μ n) (hm : m.1 ≤ 1000000) : ∀ t : Nat, t ≤ 8 → ∃ m' w', jm_R (jm_env (d + 13)) jmM_L_still 62 [some (.ref 0), some (.ref (P 0)), some (.ref g), some (.int (i3 0)), none, none, none, none, none] [] m = jm_R (jm_env (d + 13)) jmM_L_still 62 [some (.ref 0), some (.ref (P 0)), some (.ref g), some (.int (i3 t)), none, none, none, none, none] [] m' ∧ ST m' X P g v w' μ n ∧ frC m m' := by
  intro t
  induction t with
  | zero => intro _; exact ⟨m, w, rfl, h, rfl, rfl, fun _ _ => rfl⟩
  | succ t ih =>
    intro ht
    obtain ⟨m1, w1, e1, h1, f1⟩ := ih (by omega)
    have hac := h1.2.1.2.1.2.2.2.2.2.1
    have hn0 := h1.2.2.2.2.2.2.2.2.2.1
    have hn1 := h1.2.2.2.2.2.2.2.2.2.2.1
    obtain ⟨m2, w2, e2, h2, f2⟩ := ST_R h1 (by rw [f1.1]; exact hm) fS_i1 (cX11_account (d := d + 10) (q := (t : Int)) (ST_g_ok h1).2.1 hac (by omega) ⟨by omega, by omega⟩) (cd1_t ⟨by omega, by omega⟩)
    have hA := hac (t : Int) (by omega) (by omega)
    refine ⟨m2, w2, ?_, h2, frC_t f1 f2⟩
    rw [e1, bL_still_62, ie_le (by omega) (by omega) (by omega) (by omega), if_neg (by omega), bL_still_68, e2, ob_s, bI_v, q_gR h2.2.2.1.1 (k := 1) rfl, ob_s, q_aL h2.2.2.1.2.2.1 (z := (t : Int)) (by omega) (by omega) (by omega), ob_s]
    have e3 : Int64.toInt32 (if i6 (μ 412 (4 + t)) < i6 2147483647 then i6 (μ 412 (4 + t)) else i6 2147483647) = i3 (min 2147483647 (μ 412 (4 + t))) := by
      simp only [i6_lt (show -9223372036854775808 ≤ μ 412 (4 + t) by omega) (show μ 412 (4 + t) < 9223372036854775808 by omega) (show (-9223372036854775808 : Int) ≤ 2147483647 by omega) (show (2147483647 : Int) < 9223372036854775808 by omega)]
      rw [i6_ite, i6_i3]
      congr 1
      split <;> omega
    rw [e3, if_pos rfl, bL_still_91, i3_add]
    rfl
theorem sL_still (h : ST m X P g v w μ n) (hm : m.1 < 400000) : ∃ m' w', jm_env (d + 14) 16 [.ref 0, .ref (P 0), .ref g] m = some (.inl (some (.int (i3 1))), m') ∧ ST m' X P g v w' μ n ∧ bd m m' 450 := by
  have hk := h.2.2.2.2.1
  have h5 := (ST_g_ok h).2.2.2.2
  have hn0 := h.2.2.2.2.2.2.2.2.2.1
  have hn1 := h.2.2.2.2.2.2.2.2.2.2.1
  have hac := h.2.1.2.1.2.2.2.2.2.1
  have hgap : gapA μ = 0 := by
    have := h.2.1.2.1.2.2.2.2.2.2.2
    unfold csM at this
    unfold gapA
    omega
  have eg := cX11_gap (d := d + 10) (X := X) (v := v) (w := w) (T := 0) (c := 0) (s := 0) (ST_g_ok h).2.1 hac (by omega)
  rw [hgap, if_neg (by omega)] at eg
  obtain ⟨m1, e1, c1, f1⟩ := cr_call h.1 fS_i0 eg
  have h1 := ST_C h (by omega) c1 f1
  have hm1 : m1.1 = m.1 := f1.1
  obtain ⟨m2, w2, e2, h2, f2⟩ := ST_R h1 (by omega) fS_i1 (cX11_count (d := d + 10) (q := 0) (ST_g_ok h1).2.1 h1.2.1.2.2.1.1.1 ⟨by omega, by omega⟩) (cd1_t ⟨by omega, by omega⟩)
  have hm2 : m2.1 = m.1 := f2.1.trans hm1
  obtain ⟨m3, w3, e3, h3, f3⟩ := sL_still_a (d := d) h2 (by omega) (μ 412 0).toNat (by omega)
  have hm3 : m3.1 = m.1 := f3.1.trans hm2
  obtain ⟨m4, w4, e4, h4, f4⟩ := sL_still_b (d := d) h3 (by omega) 8 (by omega)
  have hm4 : m4.1 = m.1 := f4.1.trans hm3
  obtain ⟨x, m5, e5, x0, x1, h5', f5⟩ := ST_side (d := d + 11) h4 (by omega)
  have hm5 : m5.1 = m.1 := f5.1.trans hm4
  obtain ⟨y, m6, e6, y0, y1, h6, f6⟩ := ST_side (d := d + 11) h5' (by omega)
  have hm6 : m6.1 = m.1 := f6.1.trans hm5
  obtain ⟨q, m7, e7, q0, q1, h7, f7⟩ := ST_draw (d := d + 12) h6 (by omega) (k := 40) (by omega) (by omega)
  have hm7 : m7.1 = m.1 := f7.1.trans hm6
  obtain ⟨m8, w8, e8, h8, f8⟩ := ST_R h7 (by omega) fS_i3 (cX11_nearest (d := d + 8) (a := x) (b := y) (q := 1 + q) (ST_g_ok h7).2.1 ⟨by omega, by omega⟩ ⟨by omega, by omega⟩ ⟨by omega, by omega⟩) (cd1_t ⟨⟨⟨by omega, by omega⟩, by omega, by omega⟩, by omega, by omega⟩)
  have hm8 : m8.1 = m.1 := f8.1.trans hm7
  have e9 := sL_nearest (d := d + 1) h8.2.2.1 (LM_o (ST_g_ok h8).1 (ST_g_ok h8).2.2.1) (x := x) (y := y) (q := 1 + q) (by omega) (by omega) (by omega) (by omega) (by omega) (by omega)
  rw [ne_same (ST_g_ok h8).1 x0 y0] at e9
  obtain ⟨m10, w10, e10, h10, f10⟩ := ST_R h8 (by omega) fS_i2 (cX11_fitting (d := d + 8) (a := x) (b := y) (ST_g_ok h8).2.1 ⟨by omega, by omega⟩ ⟨by omega, by omega⟩) (cd1_t ⟨⟨by omega, by omega⟩, by omega, by omega⟩)
  have hm10 : m10.1 = m.1 := f10.1.trans hm8
  have e11 := sL_fitting (d := d + 10) h10.2.2.1 (LM_o (ST_g_ok h10).1 (ST_g_ok h10).2.2.1) (x := x) (y := y) (by omega) (by omega) (by omega) (by omega)
  have hft : fo2 (fun (a : Int) k n => a + ftL (wM μ) (hM μ) (μ 412 1) x y k n) 0 (μ 412 0).toNat = fo2 (fitG μ x y) 0 (μ 412 0).toNat := fo2_congr _ fun k n a hk hn => by rw [ft_I (by omega) (by omega)]; rfl
  rw [hft] at e11
  obtain ⟨kk, m12, e12, k0, k1, h12, f12⟩ := ST_draw (d := d + 12) h10 (by omega) (k := ((μ 412 0).toNat : Int)) (by omega) (by omega)
  have hm12 : m12.1 = m.1 := f12.1.trans hm10
  obtain ⟨k, rfl⟩ : ∃ k : Nat, kk = k := ⟨kk.toNat, by omega⟩
  obtain ⟨t, m13, e13, t0, t1, h13, f13⟩ := ST_draw (d := d + 12) h12 (by omega) (k := 10) (by omega) (by omega)
  have hm13 : m13.1 = m.1 := f13.1.trans hm12
  obtain ⟨m14, w14, e14, h14, f14⟩ := ST_R h13 (by omega) fS_i2 (cX11_mostFolds (d := d + 10) (i := (k : Int)) (n := t) (ST_g_ok h13).2.1 ⟨by omega, by omega⟩ ⟨by omega, by omega⟩) (cd1_t ⟨⟨by omega, by omega⟩, by omega, by omega⟩)
  have hm14 : m14.1 = m.1 := f14.1.trans hm13
  have hfb := fdM_b (v := μ) (i := (k : Int)) (n := t)
  have b14 : bd m m14 0 := bd_t (k := 0) (j := 0) (bd_C f1) (bd_t (k := 0) (j := 0) (bd_C f2) (bd_t (k := 0) (j := 0) (bd_C f3) (bd_t (k := 0) (j := 0) (bd_C f4) (bd_t (k := 0) (j := 0) (bd_1 f5) (bd_t (k := 0) (j := 0) (bd_1 f6) (bd_t (k := 0) (j := 0) (bd_1 f7) (bd_t (k := 0) (j := 0) (bd_C f8) (bd_t (k := 0) (j := 0) (bd_C f10) (bd_t (k := 0) (j := 0) (bd_1 f12) (bd_t (k := 0) (j := 0) (bd_1 f13) (bd_C f14)))))))))))
  have key : jm_env (d + 14) 16 [.ref 0, .ref (P 0), .ref g] m = (if fdM μ k t < 0 then jm_R (jm_env (d + 13)) jmM_L_still 229 [some (.ref 0), some (.ref (P 0)), some (.ref g), some (.int (i3 x)), some (.int (i3 y)), some (.int (i3 (1 + q))), some (.int (i3 k)), some (.int (i3 t)), some (.int (i3 (fdM μ k t)))] [] m14 else jm_R (jm_env (d + 13)) jmM_L_still 196 [some (.ref 0), some (.ref (P 0)), some (.ref g), some (.int (i3 x)), some (.int (i3 y)), some (.int (i3 (1 + q))), some (.int (i3 k)), some (.int (i3 t)), some (.int (i3 (fdM μ k t)))] [] m14) := by
    have z0 : cntA μ 0 = ((μ 412 0).toNat : Int) := by
      show μ 412 0 = _
      omega
    rw [z0] at e2
    rw [eL_still, bL_still_0, e1, ob_s, bL_v, le6_eq (by omega) (by omega) (by omega) (by omega), if_pos rfl, bL_still_9, e2, ob_s, bI_v, q_gR h2.2.2.1.1 (k := 0) rfl, ob_s, LH_sz (d := d + 12) h2.2.2.1, ob_s, bI_v, if_pos rfl, bL_still_28, e3]
    rw [bL_still_30, q_gR h3.2.2.1.1 (k := 0) rfl, ob_s, LH_sz (d := d + 12) h3.2.2.1, ob_s, bI_v, if_pos (by rw [i3_le (by omega) (by omega) (by omega) (by omega)]; omega), bL_still_60, e4]
    rw [bL_still_62, ie_le (by omega) (by omega) (by omega) (by omega), if_pos (by omega), bL_still_97, e5, ob_s, bI_v, e6, ob_s, bI_v, e7, ob_s, bI_v, i3_add, e8, ob_s, bI_v, e9, ob_s, bI_v, if_pos rfl]
    rw [bL_still_139, e10, ob_s, bI_v, e11, ob_s, bI_v, if_pos rfl]
    rw [bL_still_158, q_gR h10.2.2.1.1 (k := 0) rfl, ob_s, LH_sz (d := d + 12) h10.2.2.1, ob_s, bI_v, e12, ob_s, bI_v, e13, ob_s, bI_v, e14, ob_s, bI_v, ie_lt (by omega) (by omega) (by omega) (by omega)]
  rw [key]
  by_cases c : fdM μ k t < 0
  · rw [if_pos c, bL_still_229, bL_still_234]
    exact ⟨m14, w14, rfl, h14, bd_m b14 (by omega)⟩
  · rw [if_neg c]
    obtain ⟨g1, g2⟩ := LH_get (d := d + 11) h14.2.2.1 (i := k) (by omega)
    obtain ⟨ff, m15, e15, f0, f1', h15, f15⟩ := ST_draw (d := d + 12) h14 (by omega) (k := fdM μ k t + 1) (by omega) (by omega)
    have hm15 : m15.1 = m.1 := f15.1.trans hm14
    obtain ⟨f, rfl⟩ : ∃ f : Nat, ff = f := ⟨ff.toNat, by omega⟩
    obtain ⟨m16, w16, e16, h16, b16⟩ := sL_isFolded (d := d) h15 (by omega) (k := k) (f := f) (t := t) (by omega) t0 t1 (by omega)
    refine ⟨m16, w16, ?_, h16, bd_m (bd_t (bd_t b14 (bd_1 f15)) b16) (by omega)⟩
    rw [bL_still_196, q_gR h14.2.2.1.1 (k := 0) rfl, ob_s, g1, ob_s, bR_w, if_pos g2, i3_add, e15, ob_s, bI_v, e16, ob_s, bI_v, ie_eq (by omega) (by omega) (by omega) (by omega), if_neg (by omega), bL_still_229, bL_still_234]
    rfl
end LWT
