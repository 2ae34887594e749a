-- uses 24.zar 25.obj 26.ops 30.rd 31.re 32.rf 34.gen 58.clf 65.cll 72.clq 73.clr 80.wrf 89.rsa e0.law e1.lax e2.lay e5.frm e6.wrp
/-! The law: rounds with a wrapper. -/
section RDA2
variable {X : Nat × (Nat → Int32)} {v w : Nat → Int → Int} {T c s : Nat} {n : Int}
theorem rd_buy {i : Nat} {o6 o7 o8 : Option Value} (hR : RS v n) (hn0 : 0 ≤ n) (hn : n ≤ 1000000) (hT : 20 ≤ T) (hT2 : T < 800000) (hi : i + 7 ≤ X.1) (hL : X.1 < 10000) : rdO (jm_R (jm_env 59) jmM_L_law 2189 [some (.ref jm_scr), some (.ref 0), some (.ref 411), some (.ref 429), some (.ref 430), some (.int (i3 (i : Nat))), o6, o7, o8] [] (qM X v w T c s)) X T c s n i := by
  have r1 : ∀ {v w : Nat → Int → Int} {c s : Nat}, jm_aI (qM X v w T c s) jm_scr (i3 (i : Nat) + i3 1) = some (i3 (xZ X (i + 1))) := scr_q (k := 1) rfl (by omega) (by omega) hL
  have r2 : ∀ {v w : Nat → Int → Int} {c s : Nat}, jm_aI (qM X v w T c s) jm_scr (i3 (i : Nat) + i3 2) = some (i3 (xZ X (i + 2))) := scr_q (k := 2) rfl (by omega) (by omega) hL
  have r3 : ∀ {v w : Nat → Int → Int} {c s : Nat}, jm_aI (qM X v w T c s) jm_scr (i3 (i : Nat) + i3 3) = some (i3 (xZ X (i + 3))) := scr_q (k := 3) rfl (by omega) (by omega) hL
  obtain ⟨cd, z, v1, w1, c1, s1, e1, hcd, hc1, hs1, hz, h2⟩ := wl_buy (X := X) hR hn0 hT xZ_b xZ_b xZ_b w c s
  obtain ⟨b, v2, w2, e2, h8, hb, hR2⟩ := h2 w1 c1 s1
  have e1 : jm_env 59 25 [.ref 0, .int (i3 (xZ X (i + 1))), .int (i3 (xZ X (i + 2))), .int (i3 (xZ X (i + 3))), .ref 429] (qM X v w T c s) = some (.inl (some (.int (i3 cd))), qM X v1 w1 T c1 s1) := e1
  have e2 : jm_env 59 284 [.ref 411, .int (i3 (xZ X (i + 1))), .int (i3 (xZ X (i + 2))), .int (i3 (xZ X (i + 3)))] (qM X v1 w1 T c1 s1) = some (.inl (some (.int (i3 b))), qM X v2 w2 T c1 s1) := e2
  have ht := thr_e (X := X) (v := v2) (w := w2) (T := T) (c := c1) (s := s1) (d := 58) hT
  have hf := fr_429 hT (uxS_R (by decide) (uxS_I (uxS_I (uxS_I uxS_0)))) e2
  refine ⟨v2, w2, 0, c1, s1, some (.int (i3 cd)), some (.int (i3 b)), o8, ?_, RS_le hR2 (by omega), by omega, by omega, by omega⟩
  rw [bL_law_2189]
  simp only [r1, r2, r3, ob_s, bI_v, e1, e2, ht, h8]
  rw [if_pos trivial, bL_law_2249]
  by_cases q : cd = 0
  · rw [if_pos (by rw [q]), bL_law_2254, hf, ob_s, hz q, hb q, tl_e, lgc_e, if_pos rfl, bL_law_2266] <;> rfl
  · rw [if_neg (cd_n0 hcd q), bL_law_2266] <;> rfl
theorem rd_cut {i : Nat} {o6 o7 o8 : Option Value} (hR : RS v n) (hn0 : 0 ≤ n) (hn : n ≤ 1000000) (hT : 20 ≤ T) (hT2 : T < 800000) (hi : i + 7 ≤ X.1) (hL : X.1 < 10000) : rdO (jm_R (jm_env 59) jmM_L_law 2269 [some (.ref jm_scr), some (.ref 0), some (.ref 411), some (.ref 429), some (.ref 430), some (.int (i3 (i : Nat))), o6, o7, o8] [] (qM X v w T c s)) X T c s n i := by
  have r1 : ∀ {v w : Nat → Int → Int} {c s : Nat}, jm_aI (qM X v w T c s) jm_scr (i3 (i : Nat) + i3 1) = some (i3 (xZ X (i + 1))) := scr_q (k := 1) rfl (by omega) (by omega) hL
  have r2 : ∀ {v w : Nat → Int → Int} {c s : Nat}, jm_aI (qM X v w T c s) jm_scr (i3 (i : Nat) + i3 2) = some (i3 (xZ X (i + 2))) := scr_q (k := 2) rfl (by omega) (by omega) hL
  have r3 : ∀ {v w : Nat → Int → Int} {c s : Nat}, jm_aI (qM X v w T c s) jm_scr (i3 (i : Nat) + i3 3) = some (i3 (xZ X (i + 3))) := scr_q (k := 3) rfl (by omega) (by omega) hL
  obtain ⟨cd, z, v1, w1, c1, s1, e1, hcd, hc1, hs1, hz, h2⟩ := wl_cut (X := X) hR hn0 hT xZ_b xZ_b xZ_b w c s
  obtain ⟨b, v2, w2, e2, h8, hb, hR2⟩ := h2 w1 c1 s1
  have e1 : jm_env 59 26 [.ref 0, .int (i3 (xZ X (i + 1))), .int (i3 (xZ X (i + 2))), .int (i3 (xZ X (i + 3))), .ref 429] (qM X v w T c s) = some (.inl (some (.int (i3 cd))), qM X v1 w1 T c1 s1) := e1
  have e2 : jm_env 59 285 [.ref 411, .int (i3 (xZ X (i + 1))), .int (i3 (xZ X (i + 2))), .int (i3 (xZ X (i + 3)))] (qM X v1 w1 T c1 s1) = some (.inl (some (.int (i3 b))), qM X v2 w2 T c1 s1) := e2
  have ht := thr_e (X := X) (v := v2) (w := w2) (T := T) (c := c1) (s := s1) (d := 58) hT
  have hf := fr_429 hT (uxS_R (by decide) (uxS_I (uxS_I (uxS_I uxS_0)))) e2
  refine ⟨v2, w2, 0, c1, s1, some (.int (i3 cd)), some (.int (i3 b)), o8, ?_, RS_le hR2 (by omega), by omega, by omega, by omega⟩
  rw [bL_law_2269]
  simp only [r1, r2, r3, ob_s, bI_v, e1, e2, ht, h8]
  rw [if_pos trivial, bL_law_2329]
  by_cases q : cd = 0
  · rw [if_pos (by rw [q]), bL_law_2334, hf, ob_s, hz q, hb q, tl_e, lgc_e, if_pos rfl, bL_law_2346] <;> rfl
  · rw [if_neg (cd_n0 hcd q), bL_law_2346] <;> rfl
theorem rd_order {i : Nat} {o6 o7 o8 : Option Value} (hR : RS v n) (hn0 : 0 ≤ n) (hn : n ≤ 1000000) (hT : 20 ≤ T) (hT2 : T < 800000) (hi : i + 7 ≤ X.1) (hL : X.1 < 10000) : rdO (jm_R (jm_env 59) jmM_L_law 2349 [some (.ref jm_scr), some (.ref 0), some (.ref 411), some (.ref 429), some (.ref 430), some (.int (i3 (i : Nat))), o6, o7, o8] [] (qM X v w T c s)) X T c s n i := by
  have r1 : ∀ {v w : Nat → Int → Int} {c s : Nat}, jm_aI (qM X v w T c s) jm_scr (i3 (i : Nat) + i3 1) = some (i3 (xZ X (i + 1))) := scr_q (k := 1) rfl (by omega) (by omega) hL
  have r2 : ∀ {v w : Nat → Int → Int} {c s : Nat}, jm_aI (qM X v w T c s) jm_scr (i3 (i : Nat) + i3 2) = some (i3 (xZ X (i + 2))) := scr_q (k := 2) rfl (by omega) (by omega) hL
  have r3 : ∀ {v w : Nat → Int → Int} {c s : Nat}, jm_aI (qM X v w T c s) jm_scr (i3 (i : Nat) + i3 3) = some (i3 (xZ X (i + 3))) := scr_q (k := 3) rfl (by omega) (by omega) hL
  obtain ⟨cd, z, v1, w1, c1, s1, e1, hcd, hc1, hs1, hz, h2⟩ := wl_order (X := X) hR hn0 hT xZ_b xZ_b xZ_b w c s
  obtain ⟨b, v2, w2, e2, h8, hb, hR2⟩ := h2 w1 c1 s1
  have e1 : jm_env 59 27 [.ref 0, .int (i3 (xZ X (i + 1))), .int (i3 (xZ X (i + 2))), .int (i3 (xZ X (i + 3))), .ref 429] (qM X v w T c s) = some (.inl (some (.int (i3 cd))), qM X v1 w1 T c1 s1) := e1
  have e2 : jm_env 59 287 [.ref 411, .int (i3 (xZ X (i + 1))), .int (i3 (xZ X (i + 2))), .int (i3 (xZ X (i + 3)))] (qM X v1 w1 T c1 s1) = some (.inl (some (.int (i3 b))), qM X v2 w2 T c1 s1) := e2
  have ht := thr_e (X := X) (v := v2) (w := w2) (T := T) (c := c1) (s := s1) (d := 58) hT
  have hf := fr_429 hT (uxS_R (by decide) (uxS_I (uxS_I (uxS_I uxS_0)))) e2
  refine ⟨v2, w2, 0, c1, s1, some (.int (i3 cd)), some (.int (i3 b)), o8, ?_, RS_le hR2 (by omega), by omega, by omega, by omega⟩
  rw [bL_law_2349]
  simp only [r1, r2, r3, ob_s, bI_v, e1, e2, ht, h8]
  rw [if_pos trivial, bL_law_2409]
  by_cases q : cd = 0
  · rw [if_pos (by rw [q]), bL_law_2414, hf, ob_s, hz q, hb q, tl_e, lgc_e, if_pos rfl, bL_law_2426] <;> rfl
  · rw [if_neg (cd_n0 hcd q), bL_law_2426] <;> rfl
theorem rd_setEdge {i : Nat} {o6 o7 o8 : Option Value} (hR : RS v n) (hn0 : 0 ≤ n) (hn : n ≤ 1000000) (hT : 20 ≤ T) (hT2 : T < 800000) (hi : i + 7 ≤ X.1) (hL : X.1 < 10000) : rdO (jm_R (jm_env 59) jmM_L_law 2429 [some (.ref jm_scr), some (.ref 0), some (.ref 411), some (.ref 429), some (.ref 430), some (.int (i3 (i : Nat))), o6, o7, o8] [] (qM X v w T c s)) X T c s n i := by
  have r1 : ∀ {v w : Nat → Int → Int} {c s : Nat}, jm_aI (qM X v w T c s) jm_scr (i3 (i : Nat) + i3 1) = some (i3 (xZ X (i + 1))) := scr_q (k := 1) rfl (by omega) (by omega) hL
  obtain ⟨cd, z, v1, w1, c1, s1, e1, hcd, hc1, hs1, hz, h2⟩ := wl_setEdge (X := X) hR hn0 hT xZ_b w c s
  obtain ⟨b, v2, w2, e2, h8, hb, hR2⟩ := h2 w1 c1 s1
  have e1 : jm_env 59 28 [.ref 0, .int (i3 (xZ X (i + 1))), .ref 429] (qM X v w T c s) = some (.inl (some (.int (i3 cd))), qM X v1 w1 T c1 s1) := e1
  have e2 : jm_env 59 288 [.ref 411, .int (i3 (xZ X (i + 1)))] (qM X v1 w1 T c1 s1) = some (.inl (some (.int (i3 b))), qM X v2 w2 T c1 s1) := e2
  have ht := thr_e (X := X) (v := v2) (w := w2) (T := T) (c := c1) (s := s1) (d := 58) hT
  have hf := fr_429 hT (uxS_R (by decide) (uxS_I uxS_0)) e2
  refine ⟨v2, w2, 0, c1, s1, some (.int (i3 cd)), some (.int (i3 b)), o8, ?_, RS_le hR2 (by omega), by omega, by omega, by omega⟩
  rw [bL_law_2429]
  simp only [r1, ob_s, bI_v, e1, e2, ht, h8]
  rw [if_pos trivial, bL_law_2465]
  by_cases q : cd = 0
  · rw [if_pos (by rw [q]), bL_law_2470, hf, ob_s, hz q, hb q, tl_e, lgc_e, if_pos rfl, bL_law_2482] <;> rfl
  · rw [if_neg (cd_n0 hcd q), bL_law_2482] <;> rfl
theorem rd_setReam {i : Nat} {o6 o7 o8 : Option Value} (hR : RS v n) (hn0 : 0 ≤ n) (hn : n ≤ 1000000) (hT : 20 ≤ T) (hT2 : T < 800000) (hi : i + 7 ≤ X.1) (hL : X.1 < 10000) : rdO (jm_R (jm_env 59) jmM_L_law 2485 [some (.ref jm_scr), some (.ref 0), some (.ref 411), some (.ref 429), some (.ref 430), some (.int (i3 (i : Nat))), o6, o7, o8] [] (qM X v w T c s)) X T c s n i := by
  have r1 : ∀ {v w : Nat → Int → Int} {c s : Nat}, jm_aI (qM X v w T c s) jm_scr (i3 (i : Nat) + i3 1) = some (i3 (xZ X (i + 1))) := scr_q (k := 1) rfl (by omega) (by omega) hL
  obtain ⟨cd, z, v1, w1, c1, s1, e1, hcd, hc1, hs1, hz, h2⟩ := wl_setReam (X := X) hR hn0 hT xZ_b w c s
  obtain ⟨b, v2, w2, e2, h8, hb, hR2⟩ := h2 w1 c1 s1
  have e1 : jm_env 59 29 [.ref 0, .int (i3 (xZ X (i + 1))), .ref 429] (qM X v w T c s) = some (.inl (some (.int (i3 cd))), qM X v1 w1 T c1 s1) := e1
  have e2 : jm_env 59 289 [.ref 411, .int (i3 (xZ X (i + 1)))] (qM X v1 w1 T c1 s1) = some (.inl (some (.int (i3 b))), qM X v2 w2 T c1 s1) := e2
  have ht := thr_e (X := X) (v := v2) (w := w2) (T := T) (c := c1) (s := s1) (d := 58) hT
  have hf := fr_429 hT (uxS_R (by decide) (uxS_I uxS_0)) e2
  refine ⟨v2, w2, 0, c1, s1, some (.int (i3 cd)), some (.int (i3 b)), o8, ?_, RS_le hR2 (by omega), by omega, by omega, by omega⟩
  rw [bL_law_2485]
  simp only [r1, ob_s, bI_v, e1, e2, ht, h8]
  rw [if_pos trivial, bL_law_2521]
  by_cases q : cd = 0
  · rw [if_pos (by rw [q]), bL_law_2526, hf, ob_s, hz q, hb q, tl_e, lgc_e, if_pos rfl, bL_law_2538] <;> rfl
  · rw [if_neg (cd_n0 hcd q), bL_law_2538] <;> rfl
theorem rd_save {i : Nat} {o6 o7 o8 : Option Value} (hR : RS v n) (hn0 : 0 ≤ n) (hn : n ≤ 1000000) (hT : 20 ≤ T) (hT2 : T < 800000) (hi : i + 7 ≤ X.1) (hL : X.1 < 10000) : rdO (jm_R (jm_env 59) jmM_L_law 2700 [some (.ref jm_scr), some (.ref 0), some (.ref 411), some (.ref 429), some (.ref 430), some (.int (i3 (i : Nat))), o6, o7, o8] [] (qM X v w T c s)) X T c s n i := by
  have r1 : ∀ {v w : Nat → Int → Int} {c s : Nat}, jm_aI (qM X v w T c s) jm_scr (i3 (i : Nat) + i3 1) = some (i3 (xZ X (i + 1))) := scr_q (k := 1) rfl (by omega) (by omega) hL
  obtain ⟨cd, z, v1, w1, c1, s1, e1, hcd, hc1, hs1, hz, h2⟩ := wl_save (X := X) hR hT xZ_b w c s
  obtain ⟨b, v2, w2, e2, h8, hb, hR2⟩ := h2 w1 c1 s1
  have e1 : jm_env 59 31 [.ref 0, .int (i3 (xZ X (i + 1))), .ref 429] (qM X v w T c s) = some (.inl (some (.int (i3 cd))), qM X v1 w1 T c1 s1) := e1
  have e2 : jm_env 59 292 [.ref 411, .int (i3 (xZ X (i + 1)))] (qM X v1 w1 T c1 s1) = some (.inl (some (.int (i3 b))), qM X v2 w2 T c1 s1) := e2
  have ht := thr_e (X := X) (v := v2) (w := w2) (T := T) (c := c1) (s := s1) (d := 58) hT
  have hf := fr_429 hT (uxS_R (by decide) (uxS_I uxS_0)) e2
  refine ⟨v2, w2, 0, c1, s1, some (.int (i3 cd)), some (.int (i3 b)), o8, ?_, RS_le hR2 (by omega), by omega, by omega, by omega⟩
  rw [bL_law_2700]
  simp only [r1, ob_s, bI_v, e1, e2, ht, h8]
  rw [if_pos trivial, bL_law_2736]
  by_cases q : cd = 0
  · rw [if_pos (by rw [q]), bL_law_2741, hf, ob_s, hz q, hb q, tl_e, lgc_e, if_pos rfl, bL_law_2753] <;> rfl
  · rw [if_neg (cd_n0 hcd q), bL_law_2753] <;> rfl
theorem rd_restore {i : Nat} {o6 o7 o8 : Option Value} (hR : RS v n) (hn0 : 0 ≤ n) (hn : n ≤ 1000000) (hT : 20 ≤ T) (hT2 : T < 800000) (hi : i + 7 ≤ X.1) (hL : X.1 < 10000) : rdO (jm_R (jm_env 59) jmM_L_law 2756 [some (.ref jm_scr), some (.ref 0), some (.ref 411), some (.ref 429), some (.ref 430), some (.int (i3 (i : Nat))), o6, o7, o8] [] (qM X v w T c s)) X T c s n i := by
  have r1 : ∀ {v w : Nat → Int → Int} {c s : Nat}, jm_aI (qM X v w T c s) jm_scr (i3 (i : Nat) + i3 1) = some (i3 (xZ X (i + 1))) := scr_q (k := 1) rfl (by omega) (by omega) hL
  obtain ⟨cd, z, v1, w1, c1, s1, e1, hcd, hc1, hs1, hz, h2⟩ := wl_restore (X := X) hR hT xZ_b w c s
  obtain ⟨b, v2, w2, e2, h8, hb, hR2⟩ := h2 w1 c1 s1
  have e1 : jm_env 59 32 [.ref 0, .int (i3 (xZ X (i + 1))), .ref 429] (qM X v w T c s) = some (.inl (some (.int (i3 cd))), qM X v1 w1 T c1 s1) := e1
  have e2 : jm_env 59 293 [.ref 411, .int (i3 (xZ X (i + 1)))] (qM X v1 w1 T c1 s1) = some (.inl (some (.int (i3 b))), qM X v2 w2 T c1 s1) := e2
  have ht := thr_e (X := X) (v := v2) (w := w2) (T := T) (c := c1) (s := s1) (d := 58) hT
  have hf := fr_429 hT (uxS_R (by decide) (uxS_I uxS_0)) e2
  refine ⟨v2, w2, 0, c1, s1, some (.int (i3 cd)), some (.int (i3 b)), o8, ?_, RS_le hR2 (by omega), by omega, by omega, by omega⟩
  rw [bL_law_2756]
  simp only [r1, ob_s, bI_v, e1, e2, ht, h8]
  rw [if_pos trivial, bL_law_2792]
  by_cases q : cd = 0
  · rw [if_pos (by rw [q]), bL_law_2797, hf, ob_s, hz q, hb q, tl_e, lgc_e, if_pos rfl, bL_law_2809] <;> rfl
  · rw [if_neg (cd_n0 hcd q), bL_law_2809] <;> rfl
end RDA2
