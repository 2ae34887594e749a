-- uses 24.zar 25.obj 26.ops 32.rf 34.gen 65.cll 72.clq 73.clr 80.wrf 89.rsa 90.rsb 91.rsc 92.rsd a8.ldp bf.plp db.inl e0.law
/-! The law: rounds that only compare, further. -/
theorem lgc_e (a : Int64) : lg_cmp a a = i3 0 := by
  unfold lg_cmp
  simp
  rfl
section LAX
variable {X : Nat × (Nat → Int32)} {v w : Nat → Int → Int} {T c s : Nat} {n : Int}
theorem rd_errorCode {i : Nat} {o6 o7 o8 : Option Value} (hR : RS v n) (hn : n ≤ 1000000) (hT : 20 ≤ T) : rdO (jm_R (jm_env 59) jmM_L_law 410 [some (.ref jm_scr), some (.ref 0), some (.ref 411), some (.ref 429), some (.ref 430), some (.int (i3 (i : Nat))), o6, o7, o8] [] (qM X v w T c s)) X T c s n i := by
  obtain ⟨z, v1, w1, e1, h2⟩ := rp_errorCode (d := 49) (X := X) (T := T) hR (by omega) w c s
  obtain ⟨v2, w2, e2, hR2⟩ := h2 w1 c s
  have e1' : jm_env 59 141 [.ref 0] (qM X v w T c s) = some (.inl (some (.int (i3 (z)))), qM X v1 w1 T c s) := e1
  have e2' : jm_env 59 274 [.ref 411] (qM X v1 w1 T c s) = some (.inl (some (.int (i3 (z)))), qM X v2 w2 T c s) := e2
  refine ⟨v2, w2, 0, c, s, o6, o7, o8, ?_, RS_le hR2 (by omega), by omega, by omega, by omega⟩
  rw [bL_law_410, e1']
  simp only [ob_s, bI_v, bL_v, e2', if_true, lgc_e]
  rfl
theorem rd_errorPosition {i : Nat} {o6 o7 o8 : Option Value} (hR : RS v n) (hn : n ≤ 1000000) (hT : 20 ≤ T) : rdO (jm_R (jm_env 59) jmM_L_law 423 [some (.ref jm_scr), some (.ref 0), some (.ref 411), some (.ref 429), some (.ref 430), some (.int (i3 (i : Nat))), o6, o7, o8] [] (qM X v w T c s)) X T c s n i := by
  obtain ⟨z, v1, w1, e1, h2⟩ := rp_errorPosition (d := 49) (X := X) (T := T) hR (by omega) w c s
  obtain ⟨v2, w2, e2, hR2⟩ := h2 w1 c s
  have e1' : jm_env 59 142 [.ref 0] (qM X v w T c s) = some (.inl (some (.int (i3 (z)))), qM X v1 w1 T c s) := e1
  have e2' : jm_env 59 275 [.ref 411] (qM X v1 w1 T c s) = some (.inl (some (.int (i3 (z)))), qM X v2 w2 T c s) := e2
  refine ⟨v2, w2, 0, c, s, o6, o7, o8, ?_, RS_le hR2 (by omega), by omega, by omega, by omega⟩
  rw [bL_law_423, e1']
  simp only [ob_s, bI_v, bL_v, e2', if_true, lgc_e]
  rfl
theorem rd_gap {i : Nat} {o6 o7 o8 : Option Value} (hR : RS v n) (hn : n ≤ 1000000) (hT : 20 ≤ T) : rdO (jm_R (jm_env 59) jmM_L_law 1132 [some (.ref jm_scr), some (.ref 0), some (.ref 411), some (.ref 429), some (.ref 430), some (.int (i3 (i : Nat))), o6, o7, o8] [] (qM X v w T c s)) X T c s n i := by
  obtain ⟨z, v1, w1, e1, h2⟩ := rp_gap (d := 49) (X := X) (T := T) hR hn (by omega) w c s
  obtain ⟨v2, w2, e2, hR2⟩ := h2 w1 c s
  have e1' : jm_env 59 158 [.ref 0] (qM X v w T c s) = some (.inl (some (.long (i6 (z)))), qM X v1 w1 T c s) := e1
  have e2' : jm_env 59 311 [.ref 411] (qM X v1 w1 T c s) = some (.inl (some (.long (i6 (z)))), qM X v2 w2 T c s) := e2
  refine ⟨v2, w2, 0, c, s, o6, o7, o8, ?_, RS_le hR2 (by omega), by omega, by omega, by omega⟩
  rw [bL_law_1132, e1']
  simp only [ob_s, bI_v, bL_v, e2', if_true, lgc_e]
  rfl
theorem rd_lostBits {i : Nat} {o6 o7 o8 : Option Value} (hR : RS v n) (hn : n ≤ 1000000) (hT : 20 ≤ T) : rdO (jm_R (jm_env 59) jmM_L_law 1146 [some (.ref jm_scr), some (.ref 0), some (.ref 411), some (.ref 429), some (.ref 430), some (.int (i3 (i : Nat))), o6, o7, o8] [] (qM X v w T c s)) X T c s n i := by
  obtain ⟨z, v1, w1, e1, h2⟩ := rp_lostBits (d := 49) (X := X) (T := T) hR hn (by omega) w c s
  obtain ⟨v2, w2, e2, hR2⟩ := h2 w1 c s
  have e1' : jm_env 59 159 [.ref 0] (qM X v w T c s) = some (.inl (some (.int (i3 (z)))), qM X v1 w1 T c s) := e1
  have e2' : jm_env 59 312 [.ref 411] (qM X v1 w1 T c s) = some (.inl (some (.int (i3 (z)))), qM X v2 w2 T c s) := e2
  refine ⟨v2, w2, 0, c, s, o6, o7, o8, ?_, RS_le hR2 (by omega), by omega, by omega, by omega⟩
  rw [bL_law_1146, e1']
  simp only [ob_s, bI_v, bL_v, e2', if_true, lgc_e]
  rfl
theorem rd_writeStacks {i : Nat} {o6 o7 o8 : Option Value} (hR : RS v n) (hn : n ≤ 1000000) (hT : 20 ≤ T) : rdO (jm_R (jm_env 59) jmM_L_law 2541 [some (.ref jm_scr), some (.ref 0), some (.ref 411), some (.ref 429), some (.ref 430), some (.int (i3 (i : Nat))), o6, o7, o8] [] (qM X v w T c s)) X T c s n i := by
  obtain ⟨z, v1, w1, e1, h2⟩ := rp_writeStacks (d := 49) (X := X) (T := T) hR (by omega) w c s
  obtain ⟨v2, w2, e2, hR2⟩ := h2 w1 c s
  have e1' : jm_env 59 185 [.ref 0] (qM X v w T c s) = some (.inl (some (.int (i3 (z)))), qM X v1 w1 T c s) := e1
  have e2' : jm_env 59 337 [.ref 411] (qM X v1 w1 T c s) = some (.inl (some (.int (i3 (z)))), qM X v2 w2 T c s) := e2
  refine ⟨v2, w2, 0, c, s, o6, o7, o8, ?_, RS_le hR2 (by omega), by omega, by omega, by omega⟩
  rw [bL_law_2541, e1']
  simp only [ob_s, bI_v, bL_v, e2', if_true, lgc_e]
  rfl
theorem rd_undo {i : Nat} {o6 o7 o8 : Option Value} (hR : RS v n) (hn : n ≤ 1000000) (hT : 20 ≤ T) : rdO (jm_R (jm_env 59) jmM_L_law 2687 [some (.ref jm_scr), some (.ref 0), some (.ref 411), some (.ref 429), some (.ref 430), some (.int (i3 (i : Nat))), o6, o7, o8] [] (qM X v w T c s)) X T c s n i := by
  obtain ⟨z, v1, w1, e1, h2⟩ := rp_undo (d := 49) (X := X) (T := T) hR (by omega) w c s
  obtain ⟨v2, w2, e2, hR2⟩ := h2 w1 c s
  have e1' : jm_env 59 188 [.ref 0] (qM X v w T c s) = some (.inl (some (.int (i3 (z)))), qM X v1 w1 T c s) := e1
  have e2' : jm_env 59 290 [.ref 411] (qM X v1 w1 T c s) = some (.inl (some (.int (i3 (z)))), qM X v2 w2 T c s) := e2
  refine ⟨v2, w2, 0, c, s, o6, o7, o8, ?_, RS_le hR2 (by omega), by omega, by omega, by omega⟩
  rw [bL_law_2687, e1']
  simp only [ob_s, bI_v, bL_v, e2', if_true, lgc_e]
  rfl
end LAX
