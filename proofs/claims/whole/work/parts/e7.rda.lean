-- uses 24.zar 25.obj 26.ops 30.rd 31.re 32.rf 34.gen 58.clf 65.cll 72.clq 73.clr 80.wrf 89.rsa e0.law e1.lax e2.lay e5.frm e6.wrp
/-! The law: rounds with a wrapper. -/
section RDA0
variable {X : Nat × (Nat → Int32)} {v w : Nat → Int → Int} {T c s : Nat} {n : Int}
theorem scr_q {i k : Nat} {z : Int} (hz : z = (k : Int)) (hT : T < 1000000000) (hk : i + k < X.1) (hL : X.1 < 10000) : jm_aI (qM X v w T c s) jm_scr (i3 (i : Nat) + i3 z) = some (i3 (xZ X (i + k))) := by
  rw [hz, i3_add, ← Int.natCast_add]
  exact scr_at hT hk hL
theorem cd_n0 {cd : Int} (h : cd = 0 ∨ cd = 1 ∨ cd = 2) (q : ¬ cd = 0) : ¬ (i3 cd = i3 0) := by
  rcases h with h | h | h
  · exact absurd h q
  · rw [h]; decide
  · rw [h]; decide
theorem rd_append {i : Nat} {o6 o7 o8 : Option Value} (hR : RS v n) (hn0 : 0 ≤ n) (hn : n ≤ 1000000) (hT : 20 ≤ T) (hT2 : T < 800000) (hi : i + 7 ≤ X.1) (hL : X.1 < 10000) : rdO (jm_R (jm_env 59) jmM_L_law 224 [some (.ref jm_scr), some (.ref 0), some (.ref 411), some (.ref 429), some (.ref 430), some (.int (i3 (i : Nat))), o6, o7, o8] [] (qM X v w T c s)) X T c s n i := by
  have r1 : ∀ {v w : Nat → Int → Int} {c s : Nat}, jm_aI (qM X v w T c s) jm_scr (i3 (i : Nat) + i3 1) = some (i3 (xZ X (i + 1))) := scr_q (k := 1) rfl (by omega) (by omega) hL
  have r2 : ∀ {v w : Nat → Int → Int} {c s : Nat}, jm_aI (qM X v w T c s) jm_scr (i3 (i : Nat) + i3 2) = some (i3 (xZ X (i + 2))) := scr_q (k := 2) rfl (by omega) (by omega) hL
  have r3 : ∀ {v w : Nat → Int → Int} {c s : Nat}, jm_aI (qM X v w T c s) jm_scr (i3 (i : Nat) + i3 3) = some (i3 (xZ X (i + 3))) := scr_q (k := 3) rfl (by omega) (by omega) hL
  have r4 : ∀ {v w : Nat → Int → Int} {c s : Nat}, jm_aI (qM X v w T c s) jm_scr (i3 (i : Nat) + i3 4) = some (i3 (xZ X (i + 4))) := scr_q (k := 4) rfl (by omega) (by omega) hL
  have r5 : ∀ {v w : Nat → Int → Int} {c s : Nat}, jm_aI (qM X v w T c s) jm_scr (i3 (i : Nat) + i3 5) = some (i3 (xZ X (i + 5))) := scr_q (k := 5) rfl (by omega) (by omega) hL
  obtain ⟨cd, z, v1, w1, c1, s1, e1, hcd, hc1, hs1, hz, h2⟩ := wl_append (X := X) hR hT xZ_b xZ_b xZ_b xZ_b xZ_b w c s
  obtain ⟨b, v2, w2, e2, h8, hb, hR2⟩ := h2 w1 c1 s1
  have e1 : jm_env 59 1 [.ref 0, .int (i3 (xZ X (i + 1))), .int (i3 (xZ X (i + 2))), .int (i3 (xZ X (i + 3))), .int (i3 (xZ X (i + 4))), .int (i3 (xZ X (i + 5))), .ref 429] (qM X v w T c s) = some (.inl (some (.int (i3 cd))), qM X v1 w1 T c1 s1) := e1
  have e2 : jm_env 59 240 [.ref 411, .int (i3 (xZ X (i + 1))), .int (i3 (xZ X (i + 2))), .int (i3 (xZ X (i + 3))), .int (i3 (xZ X (i + 4))), .int (i3 (xZ X (i + 5)))] (qM X v1 w1 T c1 s1) = some (.inl (some (.int (i3 b))), qM X v2 w2 T c1 s1) := e2
  have ht := thr_e (X := X) (v := v2) (w := w2) (T := T) (c := c1) (s := s1) (d := 58) hT
  have hf := fr_429 hT (uxS_R (by decide) (uxS_I (uxS_I (uxS_I (uxS_I (uxS_I uxS_0)))))) e2
  refine ⟨v2, w2, 0, c1, s1, some (.int (i3 cd)), some (.int (i3 b)), o8, ?_, RS_le hR2 (by omega), by omega, by omega, by omega⟩
  rw [bL_law_224]
  simp only [r1, r2, r3, r4, r5, ob_s, bI_v, e1, e2, ht, h8]
  rw [if_pos trivial, bL_law_308]
  by_cases q : cd = 0
  · rw [if_pos (by rw [q]), bL_law_313, hf, ob_s, hz q, hb q, tl_e, lgc_e, if_pos rfl, bL_law_325] <;> rfl
  · rw [if_neg (cd_n0 hcd q), bL_law_325] <;> rfl
theorem rd_truncate {i : Nat} {o6 o7 o8 : Option Value} (hR : RS v n) (hn0 : 0 ≤ n) (hn : n ≤ 1000000) (hT : 20 ≤ T) (hT2 : T < 800000) (hi : i + 7 ≤ X.1) (hL : X.1 < 10000) : rdO (jm_R (jm_env 59) jmM_L_law 328 [some (.ref jm_scr), some (.ref 0), some (.ref 411), some (.ref 429), some (.ref 430), some (.int (i3 (i : Nat))), o6, o7, o8] [] (qM X v w T c s)) X T c s n i := by
  have r1 : ∀ {v w : Nat → Int → Int} {c s : Nat}, jm_aI (qM X v w T c s) jm_scr (i3 (i : Nat) + i3 1) = some (i3 (xZ X (i + 1))) := scr_q (k := 1) rfl (by omega) (by omega) hL
  obtain ⟨cd, z, v1, w1, c1, s1, e1, hcd, hc1, hs1, hz, h2⟩ := wl_truncate (X := X) hR hT xZ_b w c s
  obtain ⟨b, v2, w2, e2, h8, hb, hR2⟩ := h2 w1 c1 s1
  have e1 : jm_env 59 2 [.ref 0, .int (i3 (xZ X (i + 1))), .ref 429] (qM X v w T c s) = some (.inl (some (.int (i3 cd))), qM X v1 w1 T c1 s1) := e1
  have e2 : jm_env 59 241 [.ref 411, .int (i3 (xZ X (i + 1)))] (qM X v1 w1 T c1 s1) = some (.inl (some (.int (i3 b))), qM X v2 w2 T c1 s1) := e2
  have ht := thr_e (X := X) (v := v2) (w := w2) (T := T) (c := c1) (s := s1) (d := 58) hT
  have hf := fr_429 hT (uxS_R (by decide) (uxS_I uxS_0)) e2
  refine ⟨v2, w2, 0, c1, s1, some (.int (i3 cd)), some (.int (i3 b)), o8, ?_, RS_le hR2 (by omega), by omega, by omega, by omega⟩
  rw [bL_law_328]
  simp only [r1, ob_s, bI_v, e1, e2, ht, h8]
  rw [if_pos trivial, bL_law_364]
  by_cases q : cd = 0
  · rw [if_pos (by rw [q]), bL_law_369, hf, ob_s, hz q, hb q, tl_e, lgc_e, if_pos rfl, bL_law_381] <;> rfl
  · rw [if_neg (cd_n0 hcd q), bL_law_381] <;> rfl
theorem rd_count {i : Nat} {o6 o7 o8 : Option Value} (hR : RS v n) (hn0 : 0 ≤ n) (hn : n ≤ 1000000) (hT : 20 ≤ T) (hT2 : T < 800000) (hi : i + 7 ≤ X.1) (hL : X.1 < 10000) : rdO (jm_R (jm_env 59) jmM_L_law 436 [some (.ref jm_scr), some (.ref 0), some (.ref 411), some (.ref 429), some (.ref 430), some (.int (i3 (i : Nat))), o6, o7, o8] [] (qM X v w T c s)) X T c s n i := by
  have r1 : ∀ {v w : Nat → Int → Int} {c s : Nat}, jm_aI (qM X v w T c s) jm_scr (i3 (i : Nat) + i3 1) = some (i3 (xZ X (i + 1))) := scr_q (k := 1) rfl (by omega) (by omega) hL
  obtain ⟨cd, z, v1, w1, c1, s1, e1, hcd, hc1, hs1, hz, h2⟩ := wl_count (X := X) hR hT xZ_b w c s
  obtain ⟨b, v2, w2, e2, h8, hb, hR2⟩ := h2 w1 c1 s1
  have e1 : jm_env 59 3 [.ref 0, .int (i3 (xZ X (i + 1))), .ref 429] (qM X v w T c s) = some (.inl (some (.int (i3 cd))), qM X v1 w1 T c1 s1) := e1
  have e2 : jm_env 59 296 [.ref 411, .int (i3 (xZ X (i + 1)))] (qM X v1 w1 T c1 s1) = some (.inl (some (.int (i3 b))), qM X v2 w2 T c1 s1) := e2
  have ht := thr_e (X := X) (v := v2) (w := w2) (T := T) (c := c1) (s := s1) (d := 58) hT
  have hf := fr_429 hT (uxS_R (by decide) (uxS_I uxS_0)) e2
  refine ⟨v2, w2, 0, c1, s1, some (.int (i3 cd)), some (.int (i3 b)), o8, ?_, RS_le hR2 (by omega), by omega, by omega, by omega⟩
  rw [bL_law_436]
  simp only [r1, ob_s, bI_v, e1, e2, ht, h8]
  rw [if_pos trivial, bL_law_472]
  by_cases q : cd = 0
  · rw [if_pos (by rw [q]), bL_law_477, hf, ob_s, hz q, hb q, tl_e, lgc_e, if_pos rfl, bL_law_489] <;> rfl
  · rw [if_neg (cd_n0 hcd q), bL_law_489] <;> rfl
theorem rd_letter {i : Nat} {o6 o7 o8 : Option Value} (hR : RS v n) (hn0 : 0 ≤ n) (hn : n ≤ 1000000) (hT : 20 ≤ T) (hT2 : T < 800000) (hi : i + 7 ≤ X.1) (hL : X.1 < 10000) : rdO (jm_R (jm_env 59) jmM_L_law 492 [some (.ref jm_scr), some (.ref 0), some (.ref 411), some (.ref 429), some (.ref 430), some (.int (i3 (i : Nat))), o6, o7, o8] [] (qM X v w T c s)) X T c s n i := by
  have r1 : ∀ {v w : Nat → Int → Int} {c s : Nat}, jm_aI (qM X v w T c s) jm_scr (i3 (i : Nat) + i3 1) = some (i3 (xZ X (i + 1))) := scr_q (k := 1) rfl (by omega) (by omega) hL
  have r2 : ∀ {v w : Nat → Int → Int} {c s : Nat}, jm_aI (qM X v w T c s) jm_scr (i3 (i : Nat) + i3 2) = some (i3 (xZ X (i + 2))) := scr_q (k := 2) rfl (by omega) (by omega) hL
  obtain ⟨cd, z, v1, w1, c1, s1, e1, hcd, hc1, hs1, hz, h2⟩ := wl_letter (X := X) hR hT xZ_b xZ_b w c s
  obtain ⟨b, v2, w2, e2, h8, hb, hR2⟩ := h2 w1 c1 s1
  have e1 : jm_env 59 4 [.ref 0, .int (i3 (xZ X (i + 1))), .int (i3 (xZ X (i + 2))), .ref 429] (qM X v w T c s) = some (.inl (some (.int (i3 cd))), qM X v1 w1 T c1 s1) := e1
  have e2 : jm_env 59 299 [.ref 411, .int (i3 (xZ X (i + 1))), .int (i3 (xZ X (i + 2)))] (qM X v1 w1 T c1 s1) = some (.inl (some (.int (i3 b))), qM X v2 w2 T c1 s1) := e2
  have ht := thr_e (X := X) (v := v2) (w := w2) (T := T) (c := c1) (s := s1) (d := 58) hT
  have hf := fr_429 hT (uxS_R (by decide) (uxS_I (uxS_I uxS_0))) e2
  refine ⟨v2, w2, 0, c1, s1, some (.int (i3 cd)), some (.int (i3 b)), o8, ?_, RS_le hR2 (by omega), by omega, by omega, by omega⟩
  rw [bL_law_492]
  simp only [r1, r2, ob_s, bI_v, e1, e2, ht, h8]
  rw [if_pos trivial, bL_law_540]
  by_cases q : cd = 0
  · rw [if_pos (by rw [q]), bL_law_545, hf, ob_s, hz q, hb q, tl_e, lgc_e, if_pos rfl, bL_law_557] <;> rfl
  · rw [if_neg (cd_n0 hcd q), bL_law_557] <;> rfl
theorem rd_size {i : Nat} {o6 o7 o8 : Option Value} (hR : RS v n) (hn0 : 0 ≤ n) (hn : n ≤ 1000000) (hT : 20 ≤ T) (hT2 : T < 800000) (hi : i + 7 ≤ X.1) (hL : X.1 < 10000) : rdO (jm_R (jm_env 59) jmM_L_law 560 [some (.ref jm_scr), some (.ref 0), some (.ref 411), some (.ref 429), some (.ref 430), some (.int (i3 (i : Nat))), o6, o7, o8] [] (qM X v w T c s)) X T c s n i := by
  have r1 : ∀ {v w : Nat → Int → Int} {c s : Nat}, jm_aI (qM X v w T c s) jm_scr (i3 (i : Nat) + i3 1) = some (i3 (xZ X (i + 1))) := scr_q (k := 1) rfl (by omega) (by omega) hL
  have r2 : ∀ {v w : Nat → Int → Int} {c s : Nat}, jm_aI (qM X v w T c s) jm_scr (i3 (i : Nat) + i3 2) = some (i3 (xZ X (i + 2))) := scr_q (k := 2) rfl (by omega) (by omega) hL
  have r3 : ∀ {v w : Nat → Int → Int} {c s : Nat}, jm_aI (qM X v w T c s) jm_scr (i3 (i : Nat) + i3 3) = some (i3 (xZ X (i + 3))) := scr_q (k := 3) rfl (by omega) (by omega) hL
  obtain ⟨cd, z, v1, w1, c1, s1, e1, hcd, hc1, hs1, hz, h2⟩ := wl_size (X := X) hR hT xZ_b xZ_b xZ_b w c s
  obtain ⟨b, v2, w2, e2, h8, hb, hR2⟩ := h2 w1 c1 s1
  have e1 : jm_env 59 5 [.ref 0, .int (i3 (xZ X (i + 1))), .int (i3 (xZ X (i + 2))), .int (i3 (xZ X (i + 3))), .ref 429] (qM X v w T c s) = some (.inl (some (.int (i3 cd))), qM X v1 w1 T c1 s1) := e1
  have e2 : jm_env 59 301 [.ref 411, .int (i3 (xZ X (i + 1))), .int (i3 (xZ X (i + 2))), .int (i3 (xZ X (i + 3)))] (qM X v1 w1 T c1 s1) = some (.inl (some (.int (i3 b))), qM X v2 w2 T c1 s1) := e2
  have ht := thr_e (X := X) (v := v2) (w := w2) (T := T) (c := c1) (s := s1) (d := 58) hT
  have hf := fr_429 hT (uxS_R (by decide) (uxS_I (uxS_I (uxS_I uxS_0)))) e2
  refine ⟨v2, w2, 0, c1, s1, some (.int (i3 cd)), some (.int (i3 b)), o8, ?_, RS_le hR2 (by omega), by omega, by omega, by omega⟩
  rw [bL_law_560]
  simp only [r1, r2, r3, ob_s, bI_v, e1, e2, ht, h8]
  rw [if_pos trivial, bL_law_620]
  by_cases q : cd = 0
  · rw [if_pos (by rw [q]), bL_law_625, hf, ob_s, hz q, hb q, tl_e, lgc_e, if_pos rfl, bL_law_637] <;> rfl
  · rw [if_neg (cd_n0 hcd q), bL_law_637] <;> rfl
theorem rd_sizes {i : Nat} {o6 o7 o8 : Option Value} (hR : RS v n) (hn0 : 0 ≤ n) (hn : n ≤ 1000000) (hT : 20 ≤ T) (hT2 : T < 800000) (hi : i + 7 ≤ X.1) (hL : X.1 < 10000) : rdO (jm_R (jm_env 59) jmM_L_law 640 [some (.ref jm_scr), some (.ref 0), some (.ref 411), some (.ref 429), some (.ref 430), some (.int (i3 (i : Nat))), o6, o7, o8] [] (qM X v w T c s)) X T c s n i := by
  have r1 : ∀ {v w : Nat → Int → Int} {c s : Nat}, jm_aI (qM X v w T c s) jm_scr (i3 (i : Nat) + i3 1) = some (i3 (xZ X (i + 1))) := scr_q (k := 1) rfl (by omega) (by omega) hL
  obtain ⟨cd, z, v1, w1, c1, s1, e1, hcd, hc1, hs1, hz, h2⟩ := wl_sizes (X := X) hR hT xZ_b w c s
  obtain ⟨b, v2, w2, e2, h8, hb, hR2⟩ := h2 w1 c1 s1
  have e1 : jm_env 59 6 [.ref 0, .int (i3 (xZ X (i + 1))), .ref 429] (qM X v w T c s) = some (.inl (some (.int (i3 cd))), qM X v1 w1 T c1 s1) := e1
  have e2 : jm_env 59 302 [.ref 411, .int (i3 (xZ X (i + 1)))] (qM X v1 w1 T c1 s1) = some (.inl (some (.int (i3 b))), qM X v2 w2 T c1 s1) := e2
  have ht := thr_e (X := X) (v := v2) (w := w2) (T := T) (c := c1) (s := s1) (d := 58) hT
  have hf := fr_429 hT (uxS_R (by decide) (uxS_I uxS_0)) e2
  refine ⟨v2, w2, 0, c1, s1, some (.int (i3 cd)), some (.int (i3 b)), o8, ?_, RS_le hR2 (by omega), by omega, by omega, by omega⟩
  rw [bL_law_640]
  simp only [r1, ob_s, bI_v, e1, e2, ht, h8]
  rw [if_pos trivial, bL_law_676]
  by_cases q : cd = 0
  · rw [if_pos (by rw [q]), bL_law_681, hf, ob_s, hz q, hb q, tl_e, lgc_e, if_pos rfl, bL_law_693] <;> rfl
  · rw [if_neg (cd_n0 hcd q), bL_law_693] <;> rfl
theorem rd_ordered {i : Nat} {o6 o7 o8 : Option Value} (hR : RS v n) (hn0 : 0 ≤ n) (hn : n ≤ 1000000) (hT : 20 ≤ T) (hT2 : T < 800000) (hi : i + 7 ≤ X.1) (hL : X.1 < 10000) : rdO (jm_R (jm_env 59) jmM_L_law 884 [some (.ref jm_scr), some (.ref 0), some (.ref 411), some (.ref 429), some (.ref 430), some (.int (i3 (i : Nat))), o6, o7, o8] [] (qM X v w T c s)) X T c s n i := by
  have r1 : ∀ {v w : Nat → Int → Int} {c s : Nat}, jm_aI (qM X v w T c s) jm_scr (i3 (i : Nat) + i3 1) = some (i3 (xZ X (i + 1))) := scr_q (k := 1) rfl (by omega) (by omega) hL
  have r2 : ∀ {v w : Nat → Int → Int} {c s : Nat}, jm_aI (qM X v w T c s) jm_scr (i3 (i : Nat) + i3 2) = some (i3 (xZ X (i + 2))) := scr_q (k := 2) rfl (by omega) (by omega) hL
  obtain ⟨cd, z, v1, w1, c1, s1, e1, hcd, hc1, hs1, hz, h2⟩ := wl_ordered (X := X) hR hn hT xZ_b xZ_b w c s
  obtain ⟨b, v2, w2, e2, h8, hb, hR2⟩ := h2 w1 c1 s1
  have e1 : jm_env 59 9 [.ref 0, .int (i3 (xZ X (i + 1))), .int (i3 (xZ X (i + 2))), .ref 429] (qM X v w T c s) = some (.inl (some (.int (i3 cd))), qM X v1 w1 T c1 s1) := e1
  have e2 : jm_env 59 307 [.ref 411, .int (i3 (xZ X (i + 1))), .int (i3 (xZ X (i + 2)))] (qM X v1 w1 T c1 s1) = some (.inl (some (.int (i3 b))), qM X v2 w2 T c1 s1) := e2
  have ht := thr_e (X := X) (v := v2) (w := w2) (T := T) (c := c1) (s := s1) (d := 58) hT
  have hf := fr_429 hT (uxS_R (by decide) (uxS_I (uxS_I uxS_0))) e2
  refine ⟨v2, w2, 0, c1, s1, some (.int (i3 cd)), some (.int (i3 b)), o8, ?_, RS_le hR2 (by omega), by omega, by omega, by omega⟩
  rw [bL_law_884]
  simp only [r1, r2, ob_s, bI_v, e1, e2, ht, h8]
  rw [if_pos trivial, bL_law_932]
  by_cases q : cd = 0
  · rw [if_pos (by rw [q]), bL_law_937, hf, ob_s, hz q, hb q, tl_e, lgc_e, if_pos rfl, bL_law_949] <;> rfl
  · rw [if_neg (cd_n0 hcd q), bL_law_949] <;> rfl
theorem rd_print {i : Nat} {o6 o7 o8 : Option Value} (hR : RS v n) (hn0 : 0 ≤ n) (hn : n ≤ 1000000) (hT : 20 ≤ T) (hT2 : T < 800000) (hi : i + 7 ≤ X.1) (hL : X.1 < 10000) : rdO (jm_R (jm_env 59) jmM_L_law 952 [some (.ref jm_scr), some (.ref 0), some (.ref 411), some (.ref 429), some (.ref 430), some (.int (i3 (i : Nat))), o6, o7, o8] [] (qM X v w T c s)) X T c s n i := by
  have r1 : ∀ {v w : Nat → Int → Int} {c s : Nat}, jm_aI (qM X v w T c s) jm_scr (i3 (i : Nat) + i3 1) = some (i3 (xZ X (i + 1))) := scr_q (k := 1) rfl (by omega) (by omega) hL
  have r2 : ∀ {v w : Nat → Int → Int} {c s : Nat}, jm_aI (qM X v w T c s) jm_scr (i3 (i : Nat) + i3 2) = some (i3 (xZ X (i + 2))) := scr_q (k := 2) rfl (by omega) (by omega) hL
  obtain ⟨cd, z, v1, w1, c1, s1, e1, hcd, hc1, hs1, hz, h2⟩ := wl_print (X := X) hR hT xZ_b xZ_b w c s
  obtain ⟨b, v2, w2, e2, h8, hb, hR2⟩ := h2 w1 c1 s1
  have e1 : jm_env 59 10 [.ref 0, .int (i3 (xZ X (i + 1))), .int (i3 (xZ X (i + 2))), .ref 429] (qM X v w T c s) = some (.inl (some (.int (i3 cd))), qM X v1 w1 T c1 s1) := e1
  have e2 : jm_env 59 308 [.ref 411, .int (i3 (xZ X (i + 1))), .int (i3 (xZ X (i + 2)))] (qM X v1 w1 T c1 s1) = some (.inl (some (.int (i3 b))), qM X v2 w2 T c1 s1) := e2
  have ht := thr_e (X := X) (v := v2) (w := w2) (T := T) (c := c1) (s := s1) (d := 58) hT
  have hf := fr_429 hT (uxS_R (by decide) (uxS_I (uxS_I uxS_0))) e2
  refine ⟨v2, w2, 0, c1, s1, some (.int (i3 cd)), some (.int (i3 b)), o8, ?_, RS_le hR2 (by omega), by omega, by omega, by omega⟩
  rw [bL_law_952]
  simp only [r1, r2, ob_s, bI_v, e1, e2, ht, h8]
  rw [if_pos trivial, bL_law_1000]
  by_cases q : cd = 0
  · rw [if_pos (by rw [q]), bL_law_1005, hf, ob_s, hz q, hb q, tl_e, lgc_e, if_pos rfl, bL_law_1017] <;> rfl
  · rw [if_neg (cd_n0 hcd q), bL_law_1017] <;> rfl
theorem rd_account {i : Nat} {o6 o7 o8 : Option Value} (hR : RS v n) (hn0 : 0 ≤ n) (hn : n ≤ 1000000) (hT : 20 ≤ T) (hT2 : T < 800000) (hi : i + 7 ≤ X.1) (hL : X.1 < 10000) : rdO (jm_R (jm_env 59) jmM_L_law 1020 [some (.ref jm_scr), some (.ref 0), some (.ref 411), some (.ref 429), some (.ref 430), some (.int (i3 (i : Nat))), o6, o7, o8] [] (qM X v w T c s)) X T c s n i := by
  have r1 : ∀ {v w : Nat → Int → Int} {c s : Nat}, jm_aI (qM X v w T c s) jm_scr (i3 (i : Nat) + i3 1) = some (i3 (xZ X (i + 1))) := scr_q (k := 1) rfl (by omega) (by omega) hL
  obtain ⟨cd, z, v1, w1, c1, s1, e1, hcd, hc1, hs1, hz, h2⟩ := wl_account (X := X) hR hn hT xZ_b w c s
  obtain ⟨b, v2, w2, e2, h8, hb, hR2⟩ := h2 w1 c1 s1
  have e1 : jm_env 59 11 [.ref 0, .int (i3 (xZ X (i + 1))), .ref 429] (qM X v w T c s) = some (.inl (some (.int (i3 cd))), qM X v1 w1 T c1 s1) := e1
  have e2 : jm_env 59 309 [.ref 411, .int (i3 (xZ X (i + 1)))] (qM X v1 w1 T c1 s1) = some (.inl (some (.int (i3 b))), qM X v2 w2 T c1 s1) := e2
  have ht := thr_e (X := X) (v := v2) (w := w2) (T := T) (c := c1) (s := s1) (d := 58) hT
  have hf := fr_429 hT (uxS_R (by decide) (uxS_I uxS_0)) e2
  refine ⟨v2, w2, 0, c1, s1, some (.int (i3 cd)), some (.int (i3 b)), o8, ?_, RS_le hR2 (by omega), by omega, by omega, by omega⟩
  rw [bL_law_1020]
  simp only [r1, ob_s, bI_v, e1, e2, ht, h8]
  rw [if_pos trivial, bL_law_1056]
  by_cases q : cd = 0
  · rw [if_pos (by rw [q]), bL_law_1061, hf, ob_s, hz q, hb q, tl_e, lgc_e, if_pos rfl, bL_law_1073] <;> rfl
  · rw [if_neg (cd_n0 hcd q), bL_law_1073] <;> rfl
theorem rd_refused {i : Nat} {o6 o7 o8 : Option Value} (hR : RS v n) (hn0 : 0 ≤ n) (hn : n ≤ 1000000) (hT : 20 ≤ T) (hT2 : T < 800000) (hi : i + 7 ≤ X.1) (hL : X.1 < 10000) : rdO (jm_R (jm_env 59) jmM_L_law 1076 [some (.ref jm_scr), some (.ref 0), some (.ref 411), some (.ref 429), some (.ref 430), some (.int (i3 (i : Nat))), o6, o7, o8] [] (qM X v w T c s)) X T c s n i := by
  have r1 : ∀ {v w : Nat → Int → Int} {c s : Nat}, jm_aI (qM X v w T c s) jm_scr (i3 (i : Nat) + i3 1) = some (i3 (xZ X (i + 1))) := scr_q (k := 1) rfl (by omega) (by omega) hL
  obtain ⟨cd, z, v1, w1, c1, s1, e1, hcd, hc1, hs1, hz, h2⟩ := wl_refused (X := X) hR hT xZ_b w c s
  obtain ⟨b, v2, w2, e2, h8, hb, hR2⟩ := h2 w1 c1 s1
  have e1 : jm_env 59 12 [.ref 0, .int (i3 (xZ X (i + 1))), .ref 429] (qM X v w T c s) = some (.inl (some (.int (i3 cd))), qM X v1 w1 T c1 s1) := e1
  have e2 : jm_env 59 310 [.ref 411, .int (i3 (xZ X (i + 1)))] (qM X v1 w1 T c1 s1) = some (.inl (some (.int (i3 b))), qM X v2 w2 T c1 s1) := e2
  have ht := thr_e (X := X) (v := v2) (w := w2) (T := T) (c := c1) (s := s1) (d := 58) hT
  have hf := fr_429 hT (uxS_R (by decide) (uxS_I uxS_0)) e2
  refine ⟨v2, w2, 0, c1, s1, some (.int (i3 cd)), some (.int (i3 b)), o8, ?_, RS_le hR2 (by omega), by omega, by omega, by omega⟩
  rw [bL_law_1076]
  simp only [r1, ob_s, bI_v, e1, e2, ht, h8]
  rw [if_pos trivial, bL_law_1112]
  by_cases q : cd = 0
  · rw [if_pos (by rw [q]), bL_law_1117, hf, ob_s, hz q, hb q, tl_e, lgc_e, if_pos rfl, bL_law_1129] <;> rfl
  · rw [if_neg (cd_n0 hcd q), bL_law_1129] <;> rfl
end RDA0
