-- uses 24.zar 25.obj 26.ops 30.rd 31.re 32.rf 34.gen 58.clf 65.cll 72.clq 73.clr 80.wrf 89.rsa 90.rsb 92.rsd e0.law e1.lax e2.lay e5.frm e6.wrp e7.rda
/-! The law: rounds with a boolean; outputByte. -/
section RDB
variable {X : Nat × (Nat → Int32)} {v w : Nat → Int → Int} {T c s : Nat} {n : Int}
theorem rd_grid {i : Nat} {o6 o7 o8 : Option Value} (hR : RS v n) (hn0 : 0 ≤ n) (hn : n ≤ 1000000) (hT : 20 ≤ T) (hT2 : T < 800000) (hi : i + 7 ≤ X.1) (hL : X.1 < 10000) : rdO (jm_R (jm_env 59) jmM_L_law 1227 [some (.ref jm_scr), some (.ref 0), some (.ref 411), some (.ref 429), some (.ref 430), some (.int (i3 (i : Nat))), o6, o7, o8] [] (qM X v w T c s)) X T c s n i := by
  have r1 : ∀ {v w : Nat → Int → Int} {c s : Nat}, jm_aI (qM X v w T c s) jm_scr (i3 (i : Nat) + i3 1) = some (i3 (xZ X (i + 1))) := scr_q (k := 1) rfl (by omega) (by omega) hL
  have r2 : ∀ {v w : Nat → Int → Int} {c s : Nat}, jm_aI (qM X v w T c s) jm_scr (i3 (i : Nat) + i3 2) = some (i3 (xZ X (i + 2))) := scr_q (k := 2) rfl (by omega) (by omega) hL
  have r3 : ∀ {v w : Nat → Int → Int} {c s : Nat}, jm_aI (qM X v w T c s) jm_scr (i3 (i : Nat) + i3 3) = some (i3 (xZ X (i + 3))) := scr_q (k := 3) rfl (by omega) (by omega) hL
  have r4 : ∀ {v w : Nat → Int → Int} {c s : Nat}, jm_aI (qM X v w T c s) jm_scr (i3 (i : Nat) + i3 4) = some (i3 (xZ X (i + 4))) := scr_q (k := 4) rfl (by omega) (by omega) hL
  obtain ⟨z, hz01, hzq⟩ : ∃ z : Int, (z = 0 ∨ z = 1) ∧ ((z = 0 ∧ i3 (xZ X (i + 4)) = i3 0) ∨ (z = 1 ∧ ¬ i3 (xZ X (i + 4)) = i3 0)) := by
    by_cases q : i3 (xZ X (i + 4)) = i3 0
    · exact ⟨0, Or.inl rfl, Or.inl ⟨rfl, q⟩⟩
    · exact ⟨1, Or.inr rfl, Or.inr ⟨rfl, q⟩⟩
  obtain ⟨cd, y, v1, w1, c1, s1, e1, hcd, hc1, hs1, hz, h2⟩ := wl_grid (X := X) hR hT xZ_b xZ_b xZ_b hz01 w c s
  obtain ⟨b, v2, w2, e2, h8, hb, hR2⟩ := h2 w1 c1 s1
  have e1 : jm_env 59 14 [.ref 0, .int (i3 (xZ X (i + 1))), .int (i3 (xZ X (i + 2))), .int (i3 (xZ X (i + 3))), .int (i3 z), .ref 429] (qM X v w T c s) = some (.inl (some (.int (i3 cd))), qM X v1 w1 T c1 s1) := e1
  have e2 : jm_env 59 317 [.ref 411, .int (i3 (xZ X (i + 1))), .int (i3 (xZ X (i + 2))), .int (i3 (xZ X (i + 3))), .int (i3 z)] (qM X v1 w1 T c1 s1) = some (.inl (some (.int (i3 b))), qM X v2 w2 T c1 s1) := e2
  have ht := thr_e (X := X) (v := v2) (w := w2) (T := T) (c := c1) (s := s1) (d := 58) hT
  have hf := fr_429 hT (uxS_R (by decide) (uxS_I (uxS_I (uxS_I (uxS_I uxS_0))))) e2
  have p1 : ∀ m : jm_Mem, (if i3 (xZ X (i + 4)) = i3 0 then jm_R (jm_env 59) jmM_L_law 1259 [some (.ref jm_scr), some (.ref 0), some (.ref 411), some (.ref 429), some (.ref 430), some (.int (i3 (i : Nat))), o6, o7, o8] [.int (i3 (xZ X (i + 3))), .int (i3 (xZ X (i + 2))), .int (i3 (xZ X (i + 1))), .ref 0] m else jm_R (jm_env 59) jmM_L_law 1255 [some (.ref jm_scr), some (.ref 0), some (.ref 411), some (.ref 429), some (.ref 430), some (.int (i3 (i : Nat))), o6, o7, o8] [.int (i3 (xZ X (i + 3))), .int (i3 (xZ X (i + 2))), .int (i3 (xZ X (i + 1))), .ref 0] m) = jm_R (jm_env 59) jmM_L_law 1260 [some (.ref jm_scr), some (.ref 0), some (.ref 411), some (.ref 429), some (.ref 430), some (.int (i3 (i : Nat))), o6, o7, o8] [.int (i3 z), .int (i3 (xZ X (i + 3))), .int (i3 (xZ X (i + 2))), .int (i3 (xZ X (i + 1))), .ref 0] m := by
    intro m
    rcases hzq with ⟨rfl, q⟩ | ⟨rfl, q⟩
    · rw [if_pos q, bL_law_1259]
    · rw [if_neg q, bL_law_1255]
  have p2 : ∀ m : jm_Mem, (if i3 (xZ X (i + 4)) = i3 0 then jm_R (jm_env 59) jmM_L_law 1298 [some (.ref jm_scr), some (.ref 0), some (.ref 411), some (.ref 429), some (.ref 430), some (.int (i3 (i : Nat))), some (.int (i3 cd)), o7, o8] [.int (i3 (xZ X (i + 3))), .int (i3 (xZ X (i + 2))), .int (i3 (xZ X (i + 1))), .ref 411] m else jm_R (jm_env 59) jmM_L_law 1294 [some (.ref jm_scr), some (.ref 0), some (.ref 411), some (.ref 429), some (.ref 430), some (.int (i3 (i : Nat))), some (.int (i3 cd)), o7, o8] [.int (i3 (xZ X (i + 3))), .int (i3 (xZ X (i + 2))), .int (i3 (xZ X (i + 1))), .ref 411] m) = jm_R (jm_env 59) jmM_L_law 1299 [some (.ref jm_scr), some (.ref 0), some (.ref 411), some (.ref 429), some (.ref 430), some (.int (i3 (i : Nat))), some (.int (i3 cd)), o7, o8] [.int (i3 z), .int (i3 (xZ X (i + 3))), .int (i3 (xZ X (i + 2))), .int (i3 (xZ X (i + 1))), .ref 411] m := by
    intro m
    rcases hzq with ⟨rfl, q⟩ | ⟨rfl, q⟩
    · rw [if_pos q, bL_law_1298]
    · rw [if_neg q, bL_law_1294]
  refine ⟨v2, w2, 0, c1, s1, some (.int (i3 cd)), some (.int (i3 b)), o8, ?_, RS_le hR2 (by omega), by omega, by omega, by omega⟩
  rw [bL_law_1227]
  simp only [r1, r2, r3, r4, ob_s]
  rw [p1, bL_law_1260, e1]
  simp only [r1, r2, r3, r4, ob_s, bI_v]
  rw [p2, bL_law_1299, e2]
  simp only [ob_s, bI_v, ht, h8]
  rw [if_pos trivial, bL_law_1315]
  by_cases q : cd = 0
  · rw [if_pos (by rw [q]), bL_law_1320, hf, ob_s, hz q, hb q, tl_e, lgc_e, if_pos rfl, bL_law_1332] <;> rfl
  · rw [if_neg (cd_n0 hcd q), bL_law_1332] <;> rfl
theorem rd_page {i : Nat} {o6 o7 o8 : Option Value} (hR : RS v n) (hn0 : 0 ≤ n) (hn : n ≤ 1000000) (hT : 20 ≤ T) (hT2 : T < 800000) (hi : i + 7 ≤ X.1) (hL : X.1 < 10000) : rdO (jm_R (jm_env 59) jmM_L_law 1335 [some (.ref jm_scr), some (.ref 0), some (.ref 411), some (.ref 429), some (.ref 430), some (.int (i3 (i : Nat))), o6, o7, o8] [] (qM X v w T c s)) X T c s n i := by
  have r1 : ∀ {v w : Nat → Int → Int} {c s : Nat}, jm_aI (qM X v w T c s) jm_scr (i3 (i : Nat) + i3 1) = some (i3 (xZ X (i + 1))) := scr_q (k := 1) rfl (by omega) (by omega) hL
  have r2 : ∀ {v w : Nat → Int → Int} {c s : Nat}, jm_aI (qM X v w T c s) jm_scr (i3 (i : Nat) + i3 2) = some (i3 (xZ X (i + 2))) := scr_q (k := 2) rfl (by omega) (by omega) hL
  have r3 : ∀ {v w : Nat → Int → Int} {c s : Nat}, jm_aI (qM X v w T c s) jm_scr (i3 (i : Nat) + i3 3) = some (i3 (xZ X (i + 3))) := scr_q (k := 3) rfl (by omega) (by omega) hL
  have r4 : ∀ {v w : Nat → Int → Int} {c s : Nat}, jm_aI (qM X v w T c s) jm_scr (i3 (i : Nat) + i3 4) = some (i3 (xZ X (i + 4))) := scr_q (k := 4) rfl (by omega) (by omega) hL
  have r5 : ∀ {v w : Nat → Int → Int} {c s : Nat}, jm_aI (qM X v w T c s) jm_scr (i3 (i : Nat) + i3 5) = some (i3 (xZ X (i + 5))) := scr_q (k := 5) rfl (by omega) (by omega) hL
  have r6 : ∀ {v w : Nat → Int → Int} {c s : Nat}, jm_aI (qM X v w T c s) jm_scr (i3 (i : Nat) + i3 6) = some (i3 (xZ X (i + 6))) := scr_q (k := 6) rfl (by omega) (by omega) hL
  obtain ⟨z, hz01, hzq⟩ : ∃ z : Int, (z = 0 ∨ z = 1) ∧ ((z = 0 ∧ i3 (xZ X (i + 6)) = i3 0) ∨ (z = 1 ∧ ¬ i3 (xZ X (i + 6)) = i3 0)) := by
    by_cases q : i3 (xZ X (i + 6)) = i3 0
    · exact ⟨0, Or.inl rfl, Or.inl ⟨rfl, q⟩⟩
    · exact ⟨1, Or.inr rfl, Or.inr ⟨rfl, q⟩⟩
  obtain ⟨cd, y, v1, w1, c1, s1, e1, hcd, hc1, hs1, hz, h2⟩ := wl_page (X := X) hR hT xZ_b xZ_b xZ_b xZ_b xZ_b hz01 w c s
  obtain ⟨b, v2, w2, e2, h8, hb, hR2⟩ := h2 w1 c1 s1
  have e1 : jm_env 59 15 [.ref 0, .int (i3 (xZ X (i + 1))), .int (i3 (xZ X (i + 2))), .int (i3 (xZ X (i + 3))), .int (i3 (xZ X (i + 4))), .int (i3 (xZ X (i + 5))), .int (i3 z), .ref 429] (qM X v w T c s) = some (.inl (some (.int (i3 cd))), qM X v1 w1 T c1 s1) := e1
  have e2 : jm_env 59 320 [.ref 411, .int (i3 (xZ X (i + 1))), .int (i3 (xZ X (i + 2))), .int (i3 (xZ X (i + 3))), .int (i3 (xZ X (i + 4))), .int (i3 (xZ X (i + 5))), .int (i3 z)] (qM X v1 w1 T c1 s1) = some (.inl (some (.int (i3 b))), qM X v2 w2 T c1 s1) := e2
  have ht := thr_e (X := X) (v := v2) (w := w2) (T := T) (c := c1) (s := s1) (d := 58) hT
  have hf := fr_429 hT (uxS_R (by decide) (uxS_I (uxS_I (uxS_I (uxS_I (uxS_I (uxS_I uxS_0))))))) e2
  have p1 : ∀ m : jm_Mem, (if i3 (xZ X (i + 6)) = i3 0 then jm_R (jm_env 59) jmM_L_law 1380 [some (.ref jm_scr), some (.ref 0), some (.ref 411), some (.ref 429), some (.ref 430), some (.int (i3 (i : Nat))), o6, o7, o8] [.int (i3 (xZ X (i + 5))), .int (i3 (xZ X (i + 4))), .int (i3 (xZ X (i + 3))), .int (i3 (xZ X (i + 2))), .int (i3 (xZ X (i + 1))), .ref 0] m else jm_R (jm_env 59) jmM_L_law 1376 [some (.ref jm_scr), some (.ref 0), some (.ref 411), some (.ref 429), some (.ref 430), some (.int (i3 (i : Nat))), o6, o7, o8] [.int (i3 (xZ X (i + 5))), .int (i3 (xZ X (i + 4))), .int (i3 (xZ X (i + 3))), .int (i3 (xZ X (i + 2))), .int (i3 (xZ X (i + 1))), .ref 0] m) = jm_R (jm_env 59) jmM_L_law 1381 [some (.ref jm_scr), some (.ref 0), some (.ref 411), some (.ref 429), some (.ref 430), some (.int (i3 (i : Nat))), o6, o7, o8] [.int (i3 z), .int (i3 (xZ X (i + 5))), .int (i3 (xZ X (i + 4))), .int (i3 (xZ X (i + 3))), .int (i3 (xZ X (i + 2))), .int (i3 (xZ X (i + 1))), .ref 0] m := by
    intro m
    rcases hzq with ⟨rfl, q⟩ | ⟨rfl, q⟩
    · rw [if_pos q, bL_law_1380]
    · rw [if_neg q, bL_law_1376]
  have p2 : ∀ m : jm_Mem, (if i3 (xZ X (i + 6)) = i3 0 then jm_R (jm_env 59) jmM_L_law 1432 [some (.ref jm_scr), some (.ref 0), some (.ref 411), some (.ref 429), some (.ref 430), some (.int (i3 (i : Nat))), some (.int (i3 cd)), o7, o8] [.int (i3 (xZ X (i + 5))), .int (i3 (xZ X (i + 4))), .int (i3 (xZ X (i + 3))), .int (i3 (xZ X (i + 2))), .int (i3 (xZ X (i + 1))), .ref 411] m else jm_R (jm_env 59) jmM_L_law 1428 [some (.ref jm_scr), some (.ref 0), some (.ref 411), some (.ref 429), some (.ref 430), some (.int (i3 (i : Nat))), some (.int (i3 cd)), o7, o8] [.int (i3 (xZ X (i + 5))), .int (i3 (xZ X (i + 4))), .int (i3 (xZ X (i + 3))), .int (i3 (xZ X (i + 2))), .int (i3 (xZ X (i + 1))), .ref 411] m) = jm_R (jm_env 59) jmM_L_law 1433 [some (.ref jm_scr), some (.ref 0), some (.ref 411), some (.ref 429), some (.ref 430), some (.int (i3 (i : Nat))), some (.int (i3 cd)), o7, o8] [.int (i3 z), .int (i3 (xZ X (i + 5))), .int (i3 (xZ X (i + 4))), .int (i3 (xZ X (i + 3))), .int (i3 (xZ X (i + 2))), .int (i3 (xZ X (i + 1))), .ref 411] m := by
    intro m
    rcases hzq with ⟨rfl, q⟩ | ⟨rfl, q⟩
    · rw [if_pos q, bL_law_1432]
    · rw [if_neg q, bL_law_1428]
  refine ⟨v2, w2, 0, c1, s1, some (.int (i3 cd)), some (.int (i3 b)), o8, ?_, RS_le hR2 (by omega), by omega, by omega, by omega⟩
  rw [bL_law_1335]
  simp only [r1, r2, r3, r4, r5, r6, ob_s]
  rw [p1, bL_law_1381, e1]
  simp only [r1, r2, r3, r4, r5, r6, ob_s, bI_v]
  rw [p2, bL_law_1433, e2]
  simp only [ob_s, bI_v, ht, h8]
  rw [if_pos trivial, bL_law_1449]
  by_cases q : cd = 0
  · rw [if_pos (by rw [q]), bL_law_1454, hf, ob_s, hz q, hb q, tl_e, lgc_e, if_pos rfl, bL_law_1466] <;> rfl
  · rw [if_neg (cd_n0 hcd q), bL_law_1466] <;> rfl
theorem rd_writeSheet {i : Nat} {o6 o7 o8 : Option Value} (hR : RS v n) (hn0 : 0 ≤ n) (hn : n ≤ 1000000) (hT : 20 ≤ T) (hT2 : T < 800000) (hi : i + 7 ≤ X.1) (hL : X.1 < 10000) : rdO (jm_R (jm_env 59) jmM_L_law 2554 [some (.ref jm_scr), some (.ref 0), some (.ref 411), some (.ref 429), some (.ref 430), some (.int (i3 (i : Nat))), o6, o7, o8] [] (qM X v w T c s)) X T c s n i := by
  have r1 : ∀ {v w : Nat → Int → Int} {c s : Nat}, jm_aI (qM X v w T c s) jm_scr (i3 (i : Nat) + i3 1) = some (i3 (xZ X (i + 1))) := scr_q (k := 1) rfl (by omega) (by omega) hL
  have r2 : ∀ {v w : Nat → Int → Int} {c s : Nat}, jm_aI (qM X v w T c s) jm_scr (i3 (i : Nat) + i3 2) = some (i3 (xZ X (i + 2))) := scr_q (k := 2) rfl (by omega) (by omega) hL
  have r3 : ∀ {v w : Nat → Int → Int} {c s : Nat}, jm_aI (qM X v w T c s) jm_scr (i3 (i : Nat) + i3 3) = some (i3 (xZ X (i + 3))) := scr_q (k := 3) rfl (by omega) (by omega) hL
  have r4 : ∀ {v w : Nat → Int → Int} {c s : Nat}, jm_aI (qM X v w T c s) jm_scr (i3 (i : Nat) + i3 4) = some (i3 (xZ X (i + 4))) := scr_q (k := 4) rfl (by omega) (by omega) hL
  obtain ⟨z, hz01, hzq⟩ : ∃ z : Int, (z = 0 ∨ z = 1) ∧ ((z = 0 ∧ i3 (xZ X (i + 4)) = i3 0) ∨ (z = 1 ∧ ¬ i3 (xZ X (i + 4)) = i3 0)) := by
    by_cases q : i3 (xZ X (i + 4)) = i3 0
    · exact ⟨0, Or.inl rfl, Or.inl ⟨rfl, q⟩⟩
    · exact ⟨1, Or.inr rfl, Or.inr ⟨rfl, q⟩⟩
  obtain ⟨cd, y, v1, w1, c1, s1, e1, hcd, hc1, hs1, hz, h2⟩ := wl_writeSheet (X := X) hR hT xZ_b xZ_b xZ_b hz01 w c s
  obtain ⟨b, v2, w2, e2, h8, hb, hR2⟩ := h2 w1 c1 s1
  have e1 : jm_env 59 30 [.ref 0, .int (i3 (xZ X (i + 1))), .int (i3 (xZ X (i + 2))), .int (i3 (xZ X (i + 3))), .int (i3 z), .ref 429] (qM X v w T c s) = some (.inl (some (.int (i3 cd))), qM X v1 w1 T c1 s1) := e1
  have e2 : jm_env 59 338 [.ref 411, .int (i3 (xZ X (i + 1))), .int (i3 (xZ X (i + 2))), .int (i3 (xZ X (i + 3))), .int (i3 z)] (qM X v1 w1 T c1 s1) = some (.inl (some (.int (i3 b))), qM X v2 w2 T c1 s1) := e2
  have ht := thr_e (X := X) (v := v2) (w := w2) (T := T) (c := c1) (s := s1) (d := 58) hT
  have hf := fr_429 hT (uxS_R (by decide) (uxS_I (uxS_I (uxS_I (uxS_I uxS_0))))) e2
  have p1 : ∀ m : jm_Mem, (if i3 (xZ X (i + 4)) = i3 0 then jm_R (jm_env 59) jmM_L_law 2586 [some (.ref jm_scr), some (.ref 0), some (.ref 411), some (.ref 429), some (.ref 430), some (.int (i3 (i : Nat))), o6, o7, o8] [.int (i3 (xZ X (i + 3))), .int (i3 (xZ X (i + 2))), .int (i3 (xZ X (i + 1))), .ref 0] m else jm_R (jm_env 59) jmM_L_law 2582 [some (.ref jm_scr), some (.ref 0), some (.ref 411), some (.ref 429), some (.ref 430), some (.int (i3 (i : Nat))), o6, o7, o8] [.int (i3 (xZ X (i + 3))), .int (i3 (xZ X (i + 2))), .int (i3 (xZ X (i + 1))), .ref 0] m) = jm_R (jm_env 59) jmM_L_law 2587 [some (.ref jm_scr), some (.ref 0), some (.ref 411), some (.ref 429), some (.ref 430), some (.int (i3 (i : Nat))), o6, o7, o8] [.int (i3 z), .int (i3 (xZ X (i + 3))), .int (i3 (xZ X (i + 2))), .int (i3 (xZ X (i + 1))), .ref 0] m := by
    intro m
    rcases hzq with ⟨rfl, q⟩ | ⟨rfl, q⟩
    · rw [if_pos q, bL_law_2586]
    · rw [if_neg q, bL_law_2582]
  have p2 : ∀ m : jm_Mem, (if i3 (xZ X (i + 4)) = i3 0 then jm_R (jm_env 59) jmM_L_law 2625 [some (.ref jm_scr), some (.ref 0), some (.ref 411), some (.ref 429), some (.ref 430), some (.int (i3 (i : Nat))), some (.int (i3 cd)), o7, o8] [.int (i3 (xZ X (i + 3))), .int (i3 (xZ X (i + 2))), .int (i3 (xZ X (i + 1))), .ref 411] m else jm_R (jm_env 59) jmM_L_law 2621 [some (.ref jm_scr), some (.ref 0), some (.ref 411), some (.ref 429), some (.ref 430), some (.int (i3 (i : Nat))), some (.int (i3 cd)), o7, o8] [.int (i3 (xZ X (i + 3))), .int (i3 (xZ X (i + 2))), .int (i3 (xZ X (i + 1))), .ref 411] m) = jm_R (jm_env 59) jmM_L_law 2626 [some (.ref jm_scr), some (.ref 0), some (.ref 411), some (.ref 429), some (.ref 430), some (.int (i3 (i : Nat))), some (.int (i3 cd)), o7, o8] [.int (i3 z), .int (i3 (xZ X (i + 3))), .int (i3 (xZ X (i + 2))), .int (i3 (xZ X (i + 1))), .ref 411] m := by
    intro m
    rcases hzq with ⟨rfl, q⟩ | ⟨rfl, q⟩
    · rw [if_pos q, bL_law_2625]
    · rw [if_neg q, bL_law_2621]
  refine ⟨v2, w2, 0, c1, s1, some (.int (i3 cd)), some (.int (i3 b)), o8, ?_, RS_le hR2 (by omega), by omega, by omega, by omega⟩
  rw [bL_law_2554]
  simp only [r1, r2, r3, r4, ob_s]
  rw [p1, bL_law_2587, e1]
  simp only [r1, r2, r3, r4, ob_s, bI_v]
  rw [p2, bL_law_2626, e2]
  simp only [ob_s, bI_v, ht, h8]
  rw [if_pos trivial, bL_law_2642]
  by_cases q : cd = 0
  · rw [if_pos (by rw [q]), bL_law_2647, hf, ob_s, hz q, hb q, tl_e, lgc_e, if_pos rfl, bL_law_2659] <;> rfl
  · rw [if_neg (cd_n0 hcd q), bL_law_2659] <;> rfl
theorem rd_outputByte {i : Nat} {o6 o7 o8 : Option Value} (hR : RS v n) (hn0 : 0 ≤ n) (hn : n ≤ 1000000) (hT : 20 ≤ T) (hT2 : T < 800000) (hi : i + 7 ≤ X.1) (hL : X.1 < 10000) : rdO (jm_R (jm_env 59) jmM_L_law 2662 [some (.ref jm_scr), some (.ref 0), some (.ref 411), some (.ref 429), some (.ref 430), some (.int (i3 (i : Nat))), o6, o7, o8] [] (qM X v w T c s)) X T c s n i := by
  have r1 : ∀ {v w : Nat → Int → Int} {c s : Nat}, jm_aI (qM X v w T c s) jm_scr (i3 (i : Nat) + i3 1) = some (i3 (xZ X (i + 1))) := scr_q (k := 1) rfl (by omega) (by omega) hL
  obtain ⟨z, v1, w1, e1, h2⟩ := rp_outputByte (d := 49) (X := X) (T := T) hR (by omega) (xZ_b (X := X) (k := i + 1)) w c s
  obtain ⟨v2, w2, e2, hR2⟩ := h2 w1 c s
  have e1 : jm_env 59 187 [.ref 0, .int (i3 (xZ X (i + 1)))] (qM X v w T c s) = some (.inl (some (.int (i3 z))), qM X v1 w1 T c s) := e1
  have e2 : jm_env 59 339 [.ref 411, .int (i3 (xZ X (i + 1)))] (qM X v1 w1 T c s) = some (.inl (some (.int (i3 z))), qM X v2 w2 T c s) := e2
  refine ⟨v2, w2, 0, c, s, o6, o7, o8, ?_, RS_le hR2 (by omega), by omega, by omega, by omega⟩
  rw [bL_law_2662]
  simp only [r1, ob_s, bI_v, e1, e2]
  rw [if_pos trivial] <;> rfl
end RDB
