-- uses 24.zar 25.obj 26.ops 32.rf 34.gen 65.cll 72.clq 73.clr 80.wrf 89.rsa 92.rsd a8.ldp bf.plp db.inl
/-! The law: what a round reads, and rounds that only compare. -/
/-- a number of the script -/
def xZ (X : Nat × (Nat → Int32)) (k : Nat) : Int := (X.2 k).toInt
theorem xZ_e {X : Nat × (Nat → Int32)} {k : Nat} : X.2 k = i3 (xZ X k) := by
  show X.2 k = Int32.ofInt (X.2 k).toInt
  rw [Int32.ofInt_toInt]
section LAW
variable {X : Nat × (Nat → Int32)} {v w : Nat → Int → Int} {T c s : Nat} {n : Int}
theorem scr_e (hT : T < 1000000000) : (qM X v w T c s).2.1 jm_scr = .inl (8, X.1, .inl X.2) := by
  show pl_H X v w (411 + T) jm_scr = _
  unfold pl_H
  rw [if_neg (by unfold jm_scr; omega)]
  unfold pl_sp
  rw [if_pos rfl]
theorem scr_len (hT : T < 1000000000) : jm_len (qM X v w T c s) jm_scr = some X.1 := by
  unfold jm_len
  rw [scr_e hT]
  rfl
/-- behind a round -/
def rdO (x : Option jm_Res) (X : Nat × (Nat → Int32)) (T c s : Nat) (n : Int) (i : Nat) : Prop := ∃ (v' w' : Nat → Int → Int) (k : Nat) (c' s' : Nat) (o6 o7 o8 : Option Value), x = jm_R (jm_env 59) jmM_L_law 2812 [some (.ref jm_scr), some (.ref 0), some (.ref 411), some (.ref 429), some (.ref 430), some (.int (i3 (i : Nat))), o6, o7, o8] [] (qM X v' w' (T + k) c' s') ∧ RS v' (n + 50) ∧ k ≤ 6 ∧ c' ≤ c + 10 ∧ s' ≤ s + 100
theorem rd_play {i : Nat} {o6 o7 o8 : Option Value} (hR : RS v n) (hn : 0 ≤ n) (hT : 20 ≤ T) (hT2 : T < 800000) : rdO (jm_R (jm_env 59) jmM_L_law 397 [some (.ref jm_scr), some (.ref 0), some (.ref 411), some (.ref 429), some (.ref 430), some (.int (i3 (i : Nat))), o6, o7, o8] [] (qM X v w T c s)) X T c s n i := by
  obtain ⟨z, v1, w1, e1, h2⟩ := rp_play (d := 41) (X := X) (T := T) hR hn (by omega) (by omega) w c s
  obtain ⟨v2, w2, e2, hR2⟩ := h2 w1 c s
  have e1' : jm_env 59 140 [.ref 0] (qM X v w T c s) = some (.inl (some (.int (i3 (z)))), qM X v1 w1 T c s) := e1
  have e2' : jm_env 59 273 [.ref 411] (qM X v1 w1 T c s) = some (.inl (some (.int (i3 (z)))), qM X v2 w2 T c s) := e2
  refine ⟨v2, w2, 0, c, s, o6, o7, o8, ?_, RS_le hR2 (by omega), by omega, by omega, by omega⟩
  rw [bL_law_397, e1']
  simp only [ob_s, bI_v, e2', if_true]
  rfl
theorem rd_load {i : Nat} {o6 o7 o8 : Option Value} (hR : RS v n) (hn : 0 ≤ n) (hT : 20 ≤ T) (hT2 : T < 800000) : rdO (jm_R (jm_env 59) jmM_L_law 384 [some (.ref jm_scr), some (.ref 0), some (.ref 411), some (.ref 429), some (.ref 430), some (.int (i3 (i : Nat))), o6, o7, o8] [] (qM X v w T c s)) X T c s n i := by
  obtain ⟨z, v1, w1, e1, h2⟩ := rp_load (d := 47) (X := X) hR hn hT hT2 w c s
  obtain ⟨v2, w2, k, e2, hk, hR2⟩ := h2 w1 c s
  have e1' : jm_env 59 139 [.ref 0] (qM X v w T c s) = some (.inl (some (.int (i3 (z)))), qM X v1 w1 T c s) := e1
  have e2' : jm_env 59 261 [.ref 411] (qM X v1 w1 T c s) = some (.inl (some (.int (i3 (z)))), qM X v2 w2 (T + k) (c + k) (s + 10 * k)) := e2
  refine ⟨v2, w2, k, c + k, s + 10 * k, o6, o7, o8, ?_, RS_le hR2 (by omega), hk, by omega, by omega⟩
  rw [bL_law_384, e1']
  simp only [ob_s, bI_v, e2', if_true]
end LAW
