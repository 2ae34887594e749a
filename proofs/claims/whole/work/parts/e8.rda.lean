-- uses 24.zar 25.obj 26.ops 30.rd 31.re 32.rf 34.gen 58.clf 65.cll 72.clq 73.clr 80.wrf 89.rsa e0.law e1.lax e2.lay e5.frm e6.wrp
/-! The law: rounds with a wrapper. -/
section RDA1
variable {X : Nat × (Nat → Int32)} {v w : Nat → Int → Int} {T c s : Nat} {n : Int}
theorem rd_mostFolds {i : Nat} {o6 o7 o8 : Option Value} (hR : RS v n) (hn0 : 0 ≤ n) (hn : n ≤ 1000000) (hT : 20 ≤ T) (hT2 : T < 800000) (hi : i + 7 ≤ X.1) (hL : X.1 < 10000) : rdO (jm_R (jm_env 59) jmM_L_law 1159 [some (.ref jm_scr), some (.ref 0), some (.ref 411), some (.ref 429), some (.ref 430), some (.int (i3 (i : Nat))), o6, o7, o8] [] (qM X v w T c s)) X T c s n i := by
  have r1 : ∀ {v w : Nat → Int → Int} {c s : Nat}, jm_aI (qM X v w T c s) jm_scr (i3 (i : Nat) + i3 1) = some (i3 (xZ X (i + 1))) := scr_q (k := 1) rfl (by omega) (by omega) hL
  have r2 : ∀ {v w : Nat → Int → Int} {c s : Nat}, jm_aI (qM X v w T c s) jm_scr (i3 (i : Nat) + i3 2) = some (i3 (xZ X (i + 2))) := scr_q (k := 2) rfl (by omega) (by omega) hL
  obtain ⟨cd, z, v1, w1, c1, s1, e1, hcd, hc1, hs1, hz, h2⟩ := wl_mostFolds (X := X) hR hT xZ_b xZ_b w c s
  obtain ⟨b, v2, w2, e2, h8, hb, hR2⟩ := h2 w1 c1 s1
  have e1 : jm_env 59 13 [.ref 0, .int (i3 (xZ X (i + 1))), .int (i3 (xZ X (i + 2))), .ref 429] (qM X v w T c s) = some (.inl (some (.int (i3 cd))), qM X v1 w1 T c1 s1) := e1
  have e2 : jm_env 59 314 [.ref 411, .int (i3 (xZ X (i + 1))), .int (i3 (xZ X (i + 2)))] (qM X v1 w1 T c1 s1) = some (.inl (some (.int (i3 b))), qM X v2 w2 T c1 s1) := e2
  have ht := thr_e (X := X) (v := v2) (w := w2) (T := T) (c := c1) (s := s1) (d := 58) hT
  have hf := fr_429 hT (uxS_R (by decide) (uxS_I (uxS_I uxS_0))) e2
  refine ⟨v2, w2, 0, c1, s1, some (.int (i3 cd)), some (.int (i3 b)), o8, ?_, RS_le hR2 (by omega), by omega, by omega, by omega⟩
  rw [bL_law_1159]
  simp only [r1, r2, ob_s, bI_v, e1, e2, ht, h8]
  rw [if_pos trivial, bL_law_1207]
  by_cases q : cd = 0
  · rw [if_pos (by rw [q]), bL_law_1212, hf, ob_s, hz q, hb q, tl_e, lgc_e, if_pos rfl, bL_law_1224] <;> rfl
  · rw [if_neg (cd_n0 hcd q), bL_law_1224] <;> rfl
theorem rd_cellOf {i : Nat} {o6 o7 o8 : Option Value} (hR : RS v n) (hn0 : 0 ≤ n) (hn : n ≤ 1000000) (hT : 20 ≤ T) (hT2 : T < 800000) (hi : i + 7 ≤ X.1) (hL : X.1 < 10000) : rdO (jm_R (jm_env 59) jmM_L_law 1469 [some (.ref jm_scr), some (.ref 0), some (.ref 411), some (.ref 429), some (.ref 430), some (.int (i3 (i : Nat))), o6, o7, o8] [] (qM X v w T c s)) X T c s n i := by
  have r1 : ∀ {v w : Nat → Int → Int} {c s : Nat}, jm_aI (qM X v w T c s) jm_scr (i3 (i : Nat) + i3 1) = some (i3 (xZ X (i + 1))) := scr_q (k := 1) rfl (by omega) (by omega) hL
  have r2 : ∀ {v w : Nat → Int → Int} {c s : Nat}, jm_aI (qM X v w T c s) jm_scr (i3 (i : Nat) + i3 2) = some (i3 (xZ X (i + 2))) := scr_q (k := 2) rfl (by omega) (by omega) hL
  have r3 : ∀ {v w : Nat → Int → Int} {c s : Nat}, jm_aI (qM X v w T c s) jm_scr (i3 (i : Nat) + i3 3) = some (i3 (xZ X (i + 3))) := scr_q (k := 3) rfl (by omega) (by omega) hL
  have r4 : ∀ {v w : Nat → Int → Int} {c s : Nat}, jm_aI (qM X v w T c s) jm_scr (i3 (i : Nat) + i3 4) = some (i3 (xZ X (i + 4))) := scr_q (k := 4) rfl (by omega) (by omega) hL
  obtain ⟨cd, z, v1, w1, c1, s1, e1, hcd, hc1, hs1, hz, h2⟩ := wl_cellOf (X := X) hR hT xZ_b xZ_b xZ_b xZ_b w c s
  obtain ⟨b, v2, w2, e2, h8, hb, hR2⟩ := h2 w1 c1 s1
  have e1 : jm_env 59 16 [.ref 0, .int (i3 (xZ X (i + 1))), .int (i3 (xZ X (i + 2))), .int (i3 (xZ X (i + 3))), .int (i3 (xZ X (i + 4))), .ref 429] (qM X v w T c s) = some (.inl (some (.int (i3 cd))), qM X v1 w1 T c1 s1) := e1
  have e2 : jm_env 59 322 [.ref 411, .int (i3 (xZ X (i + 1))), .int (i3 (xZ X (i + 2))), .int (i3 (xZ X (i + 3))), .int (i3 (xZ X (i + 4)))] (qM X v1 w1 T c1 s1) = some (.inl (some (.int (i3 b))), qM X v2 w2 T c1 s1) := e2
  have ht := thr_e (X := X) (v := v2) (w := w2) (T := T) (c := c1) (s := s1) (d := 58) hT
  have hf := fr_429 hT (uxS_R (by decide) (uxS_I (uxS_I (uxS_I (uxS_I uxS_0))))) e2
  refine ⟨v2, w2, 0, c1, s1, some (.int (i3 cd)), some (.int (i3 b)), o8, ?_, RS_le hR2 (by omega), by omega, by omega, by omega⟩
  rw [bL_law_1469]
  simp only [r1, r2, r3, r4, ob_s, bI_v, e1, e2, ht, h8]
  rw [if_pos trivial, bL_law_1541]
  by_cases q : cd = 0
  · rw [if_pos (by rw [q]), bL_law_1546, hf, ob_s, hz q, hb q, tl_e, lgc_e, if_pos rfl, bL_law_1558] <;> rfl
  · rw [if_neg (cd_n0 hcd q), bL_law_1558] <;> rfl
theorem rd_pageGap {i : Nat} {o6 o7 o8 : Option Value} (hR : RS v n) (hn0 : 0 ≤ n) (hn : n ≤ 1000000) (hT : 20 ≤ T) (hT2 : T < 800000) (hi : i + 7 ≤ X.1) (hL : X.1 < 10000) : rdO (jm_R (jm_env 59) jmM_L_law 1561 [some (.ref jm_scr), some (.ref 0), some (.ref 411), some (.ref 429), some (.ref 430), some (.int (i3 (i : Nat))), o6, o7, o8] [] (qM X v w T c s)) X T c s n i := by
  have r1 : ∀ {v w : Nat → Int → Int} {c s : Nat}, jm_aI (qM X v w T c s) jm_scr (i3 (i : Nat) + i3 1) = some (i3 (xZ X (i + 1))) := scr_q (k := 1) rfl (by omega) (by omega) hL
  have r2 : ∀ {v w : Nat → Int → Int} {c s : Nat}, jm_aI (qM X v w T c s) jm_scr (i3 (i : Nat) + i3 2) = some (i3 (xZ X (i + 2))) := scr_q (k := 2) rfl (by omega) (by omega) hL
  have r3 : ∀ {v w : Nat → Int → Int} {c s : Nat}, jm_aI (qM X v w T c s) jm_scr (i3 (i : Nat) + i3 3) = some (i3 (xZ X (i + 3))) := scr_q (k := 3) rfl (by omega) (by omega) hL
  obtain ⟨cd, z, v1, w1, c1, s1, e1, hcd, hc1, hs1, hz, h2⟩ := wl_pageGap (X := X) hR hT xZ_b xZ_b xZ_b w c s
  obtain ⟨b, v2, w2, e2, h8, hb, hR2⟩ := h2 w1 c1 s1
  have e1 : jm_env 59 17 [.ref 0, .int (i3 (xZ X (i + 1))), .int (i3 (xZ X (i + 2))), .int (i3 (xZ X (i + 3))), .ref 429] (qM X v w T c s) = some (.inl (some (.int (i3 cd))), qM X v1 w1 T c1 s1) := e1
  have e2 : jm_env 59 325 [.ref 411, .int (i3 (xZ X (i + 1))), .int (i3 (xZ X (i + 2))), .int (i3 (xZ X (i + 3)))] (qM X v1 w1 T c1 s1) = some (.inl (some (.int (i3 b))), qM X v2 w2 T c1 s1) := e2
  have ht := thr_e (X := X) (v := v2) (w := w2) (T := T) (c := c1) (s := s1) (d := 58) hT
  have hf := fr_429 hT (uxS_R (by decide) (uxS_I (uxS_I (uxS_I uxS_0)))) e2
  refine ⟨v2, w2, 0, c1, s1, some (.int (i3 cd)), some (.int (i3 b)), o8, ?_, RS_le hR2 (by omega), by omega, by omega, by omega⟩
  rw [bL_law_1561]
  simp only [r1, r2, r3, ob_s, bI_v, e1, e2, ht, h8]
  rw [if_pos trivial, bL_law_1621]
  by_cases q : cd = 0
  · rw [if_pos (by rw [q]), bL_law_1626, hf, ob_s, hz q, hb q, tl_e, lgc_e, if_pos rfl, bL_law_1638] <;> rfl
  · rw [if_neg (cd_n0 hcd q), bL_law_1638] <;> rfl
theorem rd_fitting {i : Nat} {o6 o7 o8 : Option Value} (hR : RS v n) (hn0 : 0 ≤ n) (hn : n ≤ 1000000) (hT : 20 ≤ T) (hT2 : T < 800000) (hi : i + 7 ≤ X.1) (hL : X.1 < 10000) : rdO (jm_R (jm_env 59) jmM_L_law 1641 [some (.ref jm_scr), some (.ref 0), some (.ref 411), some (.ref 429), some (.ref 430), some (.int (i3 (i : Nat))), o6, o7, o8] [] (qM X v w T c s)) X T c s n i := by
  have r1 : ∀ {v w : Nat → Int → Int} {c s : Nat}, jm_aI (qM X v w T c s) jm_scr (i3 (i : Nat) + i3 1) = some (i3 (xZ X (i + 1))) := scr_q (k := 1) rfl (by omega) (by omega) hL
  have r2 : ∀ {v w : Nat → Int → Int} {c s : Nat}, jm_aI (qM X v w T c s) jm_scr (i3 (i : Nat) + i3 2) = some (i3 (xZ X (i + 2))) := scr_q (k := 2) rfl (by omega) (by omega) hL
  obtain ⟨cd, z, v1, w1, c1, s1, e1, hcd, hc1, hs1, hz, h2⟩ := wl_fitting (X := X) hR hT xZ_b xZ_b w c s
  obtain ⟨b, v2, w2, e2, h8, hb, hR2⟩ := h2 w1 c1 s1
  have e1 : jm_env 59 18 [.ref 0, .int (i3 (xZ X (i + 1))), .int (i3 (xZ X (i + 2))), .ref 429] (qM X v w T c s) = some (.inl (some (.int (i3 cd))), qM X v1 w1 T c1 s1) := e1
  have e2 : jm_env 59 326 [.ref 411, .int (i3 (xZ X (i + 1))), .int (i3 (xZ X (i + 2)))] (qM X v1 w1 T c1 s1) = some (.inl (some (.int (i3 b))), qM X v2 w2 T c1 s1) := e2
  have ht := thr_e (X := X) (v := v2) (w := w2) (T := T) (c := c1) (s := s1) (d := 58) hT
  have hf := fr_429 hT (uxS_R (by decide) (uxS_I (uxS_I uxS_0))) e2
  refine ⟨v2, w2, 0, c1, s1, some (.int (i3 cd)), some (.int (i3 b)), o8, ?_, RS_le hR2 (by omega), by omega, by omega, by omega⟩
  rw [bL_law_1641]
  simp only [r1, r2, ob_s, bI_v, e1, e2, ht, h8]
  rw [if_pos trivial, bL_law_1689]
  by_cases q : cd = 0
  · rw [if_pos (by rw [q]), bL_law_1694, hf, ob_s, hz q, hb q, tl_e, lgc_e, if_pos rfl, bL_law_1706] <;> rfl
  · rw [if_neg (cd_n0 hcd q), bL_law_1706] <;> rfl
theorem rd_nearest {i : Nat} {o6 o7 o8 : Option Value} (hR : RS v n) (hn0 : 0 ≤ n) (hn : n ≤ 1000000) (hT : 20 ≤ T) (hT2 : T < 800000) (hi : i + 7 ≤ X.1) (hL : X.1 < 10000) : rdO (jm_R (jm_env 59) jmM_L_law 1709 [some (.ref jm_scr), some (.ref 0), some (.ref 411), some (.ref 429), some (.ref 430), some (.int (i3 (i : Nat))), o6, o7, o8] [] (qM X v w T c s)) X T c s n i := by
  have r1 : ∀ {v w : Nat → Int → Int} {c s : Nat}, jm_aI (qM X v w T c s) jm_scr (i3 (i : Nat) + i3 1) = some (i3 (xZ X (i + 1))) := scr_q (k := 1) rfl (by omega) (by omega) hL
  have r2 : ∀ {v w : Nat → Int → Int} {c s : Nat}, jm_aI (qM X v w T c s) jm_scr (i3 (i : Nat) + i3 2) = some (i3 (xZ X (i + 2))) := scr_q (k := 2) rfl (by omega) (by omega) hL
  have r3 : ∀ {v w : Nat → Int → Int} {c s : Nat}, jm_aI (qM X v w T c s) jm_scr (i3 (i : Nat) + i3 3) = some (i3 (xZ X (i + 3))) := scr_q (k := 3) rfl (by omega) (by omega) hL
  obtain ⟨cd, z, v1, w1, c1, s1, e1, hcd, hc1, hs1, hz, h2⟩ := wl_nearest (X := X) hR hT xZ_b xZ_b xZ_b w c s
  obtain ⟨b, v2, w2, e2, h8, hb, hR2⟩ := h2 w1 c1 s1
  have e1 : jm_env 59 19 [.ref 0, .int (i3 (xZ X (i + 1))), .int (i3 (xZ X (i + 2))), .int (i3 (xZ X (i + 3))), .ref 429] (qM X v w T c s) = some (.inl (some (.int (i3 cd))), qM X v1 w1 T c1 s1) := e1
  have e2 : jm_env 59 327 [.ref 411, .int (i3 (xZ X (i + 1))), .int (i3 (xZ X (i + 2))), .int (i3 (xZ X (i + 3)))] (qM X v1 w1 T c1 s1) = some (.inl (some (.int (i3 b))), qM X v2 w2 T c1 s1) := e2
  have ht := thr_e (X := X) (v := v2) (w := w2) (T := T) (c := c1) (s := s1) (d := 58) hT
  have hf := fr_429 hT (uxS_R (by decide) (uxS_I (uxS_I (uxS_I uxS_0)))) e2
  refine ⟨v2, w2, 0, c1, s1, some (.int (i3 cd)), some (.int (i3 b)), o8, ?_, RS_le hR2 (by omega), by omega, by omega, by omega⟩
  rw [bL_law_1709]
  simp only [r1, r2, r3, ob_s, bI_v, e1, e2, ht, h8]
  rw [if_pos trivial, bL_law_1769]
  by_cases q : cd = 0
  · rw [if_pos (by rw [q]), bL_law_1774, hf, ob_s, hz q, hb q, tl_e, lgc_e, if_pos rfl, bL_law_1786] <;> rfl
  · rw [if_neg (cd_n0 hcd q), bL_law_1786] <;> rfl
theorem rd_whyNot {i : Nat} {o6 o7 o8 : Option Value} (hR : RS v n) (hn0 : 0 ≤ n) (hn : n ≤ 1000000) (hT : 20 ≤ T) (hT2 : T < 800000) (hi : i + 7 ≤ X.1) (hL : X.1 < 10000) : rdO (jm_R (jm_env 59) jmM_L_law 1789 [some (.ref jm_scr), some (.ref 0), some (.ref 411), some (.ref 429), some (.ref 430), some (.int (i3 (i : Nat))), o6, o7, o8] [] (qM X v w T c s)) X T c s n i := by
  have r1 : ∀ {v w : Nat → Int → Int} {c s : Nat}, jm_aI (qM X v w T c s) jm_scr (i3 (i : Nat) + i3 1) = some (i3 (xZ X (i + 1))) := scr_q (k := 1) rfl (by omega) (by omega) hL
  have r2 : ∀ {v w : Nat → Int → Int} {c s : Nat}, jm_aI (qM X v w T c s) jm_scr (i3 (i : Nat) + i3 2) = some (i3 (xZ X (i + 2))) := scr_q (k := 2) rfl (by omega) (by omega) hL
  have r3 : ∀ {v w : Nat → Int → Int} {c s : Nat}, jm_aI (qM X v w T c s) jm_scr (i3 (i : Nat) + i3 3) = some (i3 (xZ X (i + 3))) := scr_q (k := 3) rfl (by omega) (by omega) hL
  have r4 : ∀ {v w : Nat → Int → Int} {c s : Nat}, jm_aI (qM X v w T c s) jm_scr (i3 (i : Nat) + i3 4) = some (i3 (xZ X (i + 4))) := scr_q (k := 4) rfl (by omega) (by omega) hL
  obtain ⟨cd, z, v1, w1, c1, s1, e1, hcd, hc1, hs1, hz, h2⟩ := wl_whyNot (X := X) hR hT xZ_b xZ_b xZ_b xZ_b w c s
  obtain ⟨b, v2, w2, e2, h8, hb, hR2⟩ := h2 w1 c1 s1
  have e1 : jm_env 59 20 [.ref 0, .int (i3 (xZ X (i + 1))), .int (i3 (xZ X (i + 2))), .int (i3 (xZ X (i + 3))), .int (i3 (xZ X (i + 4))), .ref 429] (qM X v w T c s) = some (.inl (some (.int (i3 cd))), qM X v1 w1 T c1 s1) := e1
  have e2 : jm_env 59 329 [.ref 411, .int (i3 (xZ X (i + 1))), .int (i3 (xZ X (i + 2))), .int (i3 (xZ X (i + 3))), .int (i3 (xZ X (i + 4)))] (qM X v1 w1 T c1 s1) = some (.inl (some (.int (i3 b))), qM X v2 w2 T c1 s1) := e2
  have ht := thr_e (X := X) (v := v2) (w := w2) (T := T) (c := c1) (s := s1) (d := 58) hT
  have hf := fr_429 hT (uxS_R (by decide) (uxS_I (uxS_I (uxS_I (uxS_I uxS_0))))) e2
  refine ⟨v2, w2, 0, c1, s1, some (.int (i3 cd)), some (.int (i3 b)), o8, ?_, RS_le hR2 (by omega), by omega, by omega, by omega⟩
  rw [bL_law_1789]
  simp only [r1, r2, r3, r4, ob_s, bI_v, e1, e2, ht, h8]
  rw [if_pos trivial, bL_law_1861]
  by_cases q : cd = 0
  · rw [if_pos (by rw [q]), bL_law_1866, hf, ob_s, hz q, hb q, tl_e, lgc_e, if_pos rfl, bL_law_1878] <;> rfl
  · rw [if_neg (cd_n0 hcd q), bL_law_1878] <;> rfl
theorem rd_ifOrder {i : Nat} {o6 o7 o8 : Option Value} (hR : RS v n) (hn0 : 0 ≤ n) (hn : n ≤ 1000000) (hT : 20 ≤ T) (hT2 : T < 800000) (hi : i + 7 ≤ X.1) (hL : X.1 < 10000) : rdO (jm_R (jm_env 59) jmM_L_law 1881 [some (.ref jm_scr), some (.ref 0), some (.ref 411), some (.ref 429), some (.ref 430), some (.int (i3 (i : Nat))), o6, o7, o8] [] (qM X v w T c s)) X T c s n i := by
  have r1 : ∀ {v w : Nat → Int → Int} {c s : Nat}, jm_aI (qM X v w T c s) jm_scr (i3 (i : Nat) + i3 1) = some (i3 (xZ X (i + 1))) := scr_q (k := 1) rfl (by omega) (by omega) hL
  have r2 : ∀ {v w : Nat → Int → Int} {c s : Nat}, jm_aI (qM X v w T c s) jm_scr (i3 (i : Nat) + i3 2) = some (i3 (xZ X (i + 2))) := scr_q (k := 2) rfl (by omega) (by omega) hL
  have r3 : ∀ {v w : Nat → Int → Int} {c s : Nat}, jm_aI (qM X v w T c s) jm_scr (i3 (i : Nat) + i3 3) = some (i3 (xZ X (i + 3))) := scr_q (k := 3) rfl (by omega) (by omega) hL
  have r4 : ∀ {v w : Nat → Int → Int} {c s : Nat}, jm_aI (qM X v w T c s) jm_scr (i3 (i : Nat) + i3 4) = some (i3 (xZ X (i + 4))) := scr_q (k := 4) rfl (by omega) (by omega) hL
  obtain ⟨cd, z, v1, w1, c1, s1, e1, hcd, hc1, hs1, hz, h2⟩ := wl_ifOrder (X := X) hR hT xZ_b xZ_b xZ_b xZ_b w c s
  obtain ⟨b, v2, w2, e2, h8, hb, hR2⟩ := h2 w1 c1 s1
  have e1 : jm_env 59 21 [.ref 0, .int (i3 (xZ X (i + 1))), .int (i3 (xZ X (i + 2))), .int (i3 (xZ X (i + 3))), .int (i3 (xZ X (i + 4))), .ref 429] (qM X v w T c s) = some (.inl (some (.int (i3 cd))), qM X v1 w1 T c1 s1) := e1
  have e2 : jm_env 59 331 [.ref 411, .int (i3 (xZ X (i + 1))), .int (i3 (xZ X (i + 2))), .int (i3 (xZ X (i + 3))), .int (i3 (xZ X (i + 4)))] (qM X v1 w1 T c1 s1) = some (.inl (some (.int (i3 b))), qM X v2 w2 T c1 s1) := e2
  have ht := thr_e (X := X) (v := v2) (w := w2) (T := T) (c := c1) (s := s1) (d := 58) hT
  have hf := fr_429 hT (uxS_R (by decide) (uxS_I (uxS_I (uxS_I (uxS_I uxS_0))))) e2
  refine ⟨v2, w2, 0, c1, s1, some (.int (i3 cd)), some (.int (i3 b)), o8, ?_, RS_le hR2 (by omega), by omega, by omega, by omega⟩
  rw [bL_law_1881]
  simp only [r1, r2, r3, r4, ob_s, bI_v, e1, e2, ht, h8]
  rw [if_pos trivial, bL_law_1953]
  by_cases q : cd = 0
  · rw [if_pos (by rw [q]), bL_law_1958, hf, ob_s, hz q, hb q, tl_e, lgc_e, if_pos rfl, bL_law_1970] <;> rfl
  · rw [if_neg (cd_n0 hcd q), bL_law_1970] <;> rfl
theorem rd_mostOf {i : Nat} {o6 o7 o8 : Option Value} (hR : RS v n) (hn0 : 0 ≤ n) (hn : n ≤ 1000000) (hT : 20 ≤ T) (hT2 : T < 800000) (hi : i + 7 ≤ X.1) (hL : X.1 < 10000) : rdO (jm_R (jm_env 59) jmM_L_law 1973 [some (.ref jm_scr), some (.ref 0), some (.ref 411), some (.ref 429), some (.ref 430), some (.int (i3 (i : Nat))), o6, o7, o8] [] (qM X v w T c s)) X T c s n i := by
  have r1 : ∀ {v w : Nat → Int → Int} {c s : Nat}, jm_aI (qM X v w T c s) jm_scr (i3 (i : Nat) + i3 1) = some (i3 (xZ X (i + 1))) := scr_q (k := 1) rfl (by omega) (by omega) hL
  have r2 : ∀ {v w : Nat → Int → Int} {c s : Nat}, jm_aI (qM X v w T c s) jm_scr (i3 (i : Nat) + i3 2) = some (i3 (xZ X (i + 2))) := scr_q (k := 2) rfl (by omega) (by omega) hL
  obtain ⟨cd, z, v1, w1, c1, s1, e1, hcd, hc1, hs1, hz, h2⟩ := wl_mostOf (X := X) hR hT xZ_b xZ_b w c s
  obtain ⟨b, v2, w2, e2, h8, hb, hR2⟩ := h2 w1 c1 s1
  have e1 : jm_env 59 22 [.ref 0, .int (i3 (xZ X (i + 1))), .int (i3 (xZ X (i + 2))), .ref 429] (qM X v w T c s) = some (.inl (some (.int (i3 cd))), qM X v1 w1 T c1 s1) := e1
  have e2 : jm_env 59 332 [.ref 411, .int (i3 (xZ X (i + 1))), .int (i3 (xZ X (i + 2)))] (qM X v1 w1 T c1 s1) = some (.inl (some (.int (i3 b))), qM X v2 w2 T c1 s1) := e2
  have ht := thr_e (X := X) (v := v2) (w := w2) (T := T) (c := c1) (s := s1) (d := 58) hT
  have hf := fr_429 hT (uxS_R (by decide) (uxS_I (uxS_I uxS_0))) e2
  refine ⟨v2, w2, 0, c1, s1, some (.int (i3 cd)), some (.int (i3 b)), o8, ?_, RS_le hR2 (by omega), by omega, by omega, by omega⟩
  rw [bL_law_1973]
  simp only [r1, r2, ob_s, bI_v, e1, e2, ht, h8]
  rw [if_pos trivial, bL_law_2021]
  by_cases q : cd = 0
  · rw [if_pos (by rw [q]), bL_law_2026, hf, ob_s, hz q, hb q, tl_e, lgc_e, if_pos rfl, bL_law_2038] <;> rfl
  · rw [if_neg (cd_n0 hcd q), bL_law_2038] <;> rfl
theorem rd_cutsFor {i : Nat} {o6 o7 o8 : Option Value} (hR : RS v n) (hn0 : 0 ≤ n) (hn : n ≤ 1000000) (hT : 20 ≤ T) (hT2 : T < 800000) (hi : i + 7 ≤ X.1) (hL : X.1 < 10000) : rdO (jm_R (jm_env 59) jmM_L_law 2041 [some (.ref jm_scr), some (.ref 0), some (.ref 411), some (.ref 429), some (.ref 430), some (.int (i3 (i : Nat))), o6, o7, o8] [] (qM X v w T c s)) X T c s n i := by
  have r1 : ∀ {v w : Nat → Int → Int} {c s : Nat}, jm_aI (qM X v w T c s) jm_scr (i3 (i : Nat) + i3 1) = some (i3 (xZ X (i + 1))) := scr_q (k := 1) rfl (by omega) (by omega) hL
  have r2 : ∀ {v w : Nat → Int → Int} {c s : Nat}, jm_aI (qM X v w T c s) jm_scr (i3 (i : Nat) + i3 2) = some (i3 (xZ X (i + 2))) := scr_q (k := 2) rfl (by omega) (by omega) hL
  have r3 : ∀ {v w : Nat → Int → Int} {c s : Nat}, jm_aI (qM X v w T c s) jm_scr (i3 (i : Nat) + i3 3) = some (i3 (xZ X (i + 3))) := scr_q (k := 3) rfl (by omega) (by omega) hL
  obtain ⟨cd, z, v1, w1, c1, s1, e1, hcd, hc1, hs1, hz, h2⟩ := wl_cutsFor (X := X) hR hT xZ_b xZ_b xZ_b w c s
  obtain ⟨b, v2, w2, e2, h8, hb, hR2⟩ := h2 w1 c1 s1
  have e1 : jm_env 59 23 [.ref 0, .int (i3 (xZ X (i + 1))), .int (i3 (xZ X (i + 2))), .int (i3 (xZ X (i + 3))), .ref 429] (qM X v w T c s) = some (.inl (some (.int (i3 cd))), qM X v1 w1 T c1 s1) := e1
  have e2 : jm_env 59 333 [.ref 411, .int (i3 (xZ X (i + 1))), .int (i3 (xZ X (i + 2))), .int (i3 (xZ X (i + 3)))] (qM X v1 w1 T c1 s1) = some (.inl (some (.int (i3 b))), qM X v2 w2 T c1 s1) := e2
  have ht := thr_e (X := X) (v := v2) (w := w2) (T := T) (c := c1) (s := s1) (d := 58) hT
  have hf := fr_429 hT (uxS_R (by decide) (uxS_I (uxS_I (uxS_I uxS_0)))) e2
  refine ⟨v2, w2, 0, c1, s1, some (.int (i3 cd)), some (.int (i3 b)), o8, ?_, RS_le hR2 (by omega), by omega, by omega, by omega⟩
  rw [bL_law_2041]
  simp only [r1, r2, r3, ob_s, bI_v, e1, e2, ht, h8]
  rw [if_pos trivial, bL_law_2101]
  by_cases q : cd = 0
  · rw [if_pos (by rw [q]), bL_law_2106, hf, ob_s, hz q, hb q, tl_e, lgc_e, if_pos rfl, bL_law_2118] <;> rfl
  · rw [if_neg (cd_n0 hcd q), bL_law_2118] <;> rfl
theorem rd_found {i : Nat} {o6 o7 o8 : Option Value} (hR : RS v n) (hn0 : 0 ≤ n) (hn : n ≤ 1000000) (hT : 20 ≤ T) (hT2 : T < 800000) (hi : i + 7 ≤ X.1) (hL : X.1 < 10000) : rdO (jm_R (jm_env 59) jmM_L_law 2121 [some (.ref jm_scr), some (.ref 0), some (.ref 411), some (.ref 429), some (.ref 430), some (.int (i3 (i : Nat))), o6, o7, o8] [] (qM X v w T c s)) X T c s n i := by
  have r1 : ∀ {v w : Nat → Int → Int} {c s : Nat}, jm_aI (qM X v w T c s) jm_scr (i3 (i : Nat) + i3 1) = some (i3 (xZ X (i + 1))) := scr_q (k := 1) rfl (by omega) (by omega) hL
  have r2 : ∀ {v w : Nat → Int → Int} {c s : Nat}, jm_aI (qM X v w T c s) jm_scr (i3 (i : Nat) + i3 2) = some (i3 (xZ X (i + 2))) := scr_q (k := 2) rfl (by omega) (by omega) hL
  obtain ⟨cd, z, v1, w1, c1, s1, e1, hcd, hc1, hs1, hz, h2⟩ := wl_found (X := X) hR hn0 hT xZ_b xZ_b w c s
  obtain ⟨b, v2, w2, e2, h8, hb, hR2⟩ := h2 w1 c1 s1
  have e1 : jm_env 59 24 [.ref 0, .int (i3 (xZ X (i + 1))), .int (i3 (xZ X (i + 2))), .ref 429] (qM X v w T c s) = some (.inl (some (.int (i3 cd))), qM X v1 w1 T c1 s1) := e1
  have e2 : jm_env 59 283 [.ref 411, .int (i3 (xZ X (i + 1))), .int (i3 (xZ X (i + 2)))] (qM X v1 w1 T c1 s1) = some (.inl (some (.int (i3 b))), qM X v2 w2 T c1 s1) := e2
  have ht := thr_e (X := X) (v := v2) (w := w2) (T := T) (c := c1) (s := s1) (d := 58) hT
  have hf := fr_429 hT (uxS_R (by decide) (uxS_I (uxS_I uxS_0))) e2
  refine ⟨v2, w2, 0, c1, s1, some (.int (i3 cd)), some (.int (i3 b)), o8, ?_, RS_le hR2 (by omega), by omega, by omega, by omega⟩
  rw [bL_law_2121]
  simp only [r1, r2, ob_s, bI_v, e1, e2, ht, h8]
  rw [if_pos trivial, bL_law_2169]
  by_cases q : cd = 0
  · rw [if_pos (by rw [q]), bL_law_2174, hf, ob_s, hz q, hb q, tl_e, lgc_e, if_pos rfl, bL_law_2186] <;> rfl
  · rw [if_neg (cd_n0 hcd q), bL_law_2186] <;> rfl
end RDA1
