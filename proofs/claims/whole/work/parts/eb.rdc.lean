-- uses 24.zar 25.obj 26.ops 30.rd 31.re 32.rf 34.gen 58.clf 65.cll 72.clq 73.clr 80.wrf 89.rsa 90.rsb 92.rsd e0.law e1.lax e2.lay e5.frm e6.wrp e7.rda
/-! The law: the rounds of isAlike and ratio. -/
section RDC
variable {X : Nat × (Nat → Int32)} {v w : Nat → Int → Int} {T c s : Nat} {n : Int}
theorem wl_isAlike {i k j l : Int} (hR : RS v n) (hT : 20 ≤ T) (hi : isI i) (hk : isI k) (hj : isI j) (hl : isI l) (w : Nat → Int → Int) (c s : Nat) : ∃ (cd z : Int) (v1 w1 : Nat → Int → Int) (c1 s1 : Nat), jm_env 59 7 [.ref 0, .int (i3 i), .int (i3 k), .int (i3 j), .int (i3 l), .ref 429] (qM X v w T c s) = some (.inl (some (.int (i3 cd))), qM X v1 w1 T c1 s1) ∧ (cd = 0 ∨ cd = 1 ∨ cd = 2) ∧ c1 ≤ c + 1 ∧ s1 ≤ s + 6 ∧ (cd = 0 → w1 429 0 = if i3 z = i3 0 then 0 else 1) ∧
    ∀ (w' : Nat → Int → Int) (c' s' : Nat), ∃ (b : Int) (v2 w2 : Nat → Int → Int), jm_env 59 305 [.ref 411, .int (i3 i), .int (i3 k), .int (i3 j), .int (i3 l)] (qM X v1 w' T c' s') = some (.inl (some (.int (i3 b))), qM X v2 w2 T c' s') ∧ w2 411 8 = cd ∧ (cd = 0 → b = z) ∧ RS v2 n := by
  obtain ⟨cd, z, v1, w1, h1, h2⟩ := rp_isAlike (d := 48) (X := X) (T := T) hR (by omega) hi hk hj hl w c s
  have es : ∀ m : jm_Mem, jm_env 59 7 [.ref 0, .int (i3 i), .int (i3 k), .int (i3 j), .int (i3 l), .ref 429] m = _ := fun m => eL_isAlike 58 0 i k j l 429 m
  rcases h1 with ⟨rfl, e⟩ | ⟨rfl, e⟩ | ⟨-, h12, -⟩
  · have e : jm_env 58 152 [.ref 0, .int (i3 i), .int (i3 k), .int (i3 j), .int (i3 l)] (qM X v w T c s) = some (.inl (some (.int (i3 z))), qM X v1 w1 T c s) := e
    refine ⟨0, z, v1, up w1 429 0 (if i3 z = i3 0 then 0 else 1), c, s, ?_, Or.inl rfl, by omega, by omega, fun _ => up_eq, h2⟩
    rw [es, bL_isAlike_0, e]
    simp only [ob_s, bI_v, bL_isAlike_12]
    by_cases q : i3 z = i3 0
    · rw [if_pos q, if_pos q, bL_isAlike_19, bL_isAlike_20, w_429 hT]
      simp only [ob_s, bL_isAlike_28]
    · rw [if_neg q, if_neg q, bL_isAlike_15, bL_isAlike_20, w_429 hT]
      simp only [ob_s, bL_isAlike_28]
  · have e : jm_env 58 152 [.ref 0, .int (i3 i), .int (i3 k), .int (i3 j), .int (i3 l)] (qM X v w T c s) = some (.inr eIB, qM X v1 w1 T (c + 1) (s + 6)) := e
    refine ⟨1, z, v1, w1, _, _, ?_, Or.inr (Or.inl rfl), Nat.le_refl _, Nat.le_refl _, fun q => absurd q (by decide), h2⟩
    rw [es, bL_isAlike_0, e]
    exact bL_isAlike_26 _ _ _ _ _ _ _ _ _
  · exact absurd rfl h12
theorem wl_ratio {i k : Int} (hR : RS v n) (hT : 20 ≤ T) (hi : isI i) (hk : isI k) (w : Nat → Int → Int) (c s : Nat) : ∃ (cd : Int) (z : UInt64) (w1 : Nat → Int → Int) (c1 s1 : Nat), jm_env 59 8 [.ref 0, .int (i3 i), .int (i3 k), .ref 430] (qM X v w T c s) = some (.inl (some (.int (i3 cd))), qM X v w1 T c1 s1) ∧ (cd = 0 ∨ cd = 1 ∨ cd = 2) ∧ c1 ≤ c + 1 ∧ s1 ≤ s + 6 ∧ (cd = 0 → w1 430 0 = (z.toNat : Int)) ∧
    ∀ (w' : Nat → Int → Int) (c' s' : Nat), ∃ (b : UInt64) (w2 : Nat → Int → Int), jm_env 59 306 [.ref 411, .int (i3 i), .int (i3 k)] (qM X v w' T c' s') = some (.inl (some (.double b)), qM X v w2 T c' s') ∧ w2 411 8 = cd ∧ (cd = 0 → b = z) ∧ RS v n := by
  obtain ⟨cd, z, w1, h1, h2⟩ := rp_ratio (d := 48) (X := X) (T := T) hR (by omega) hi hk w c s
  have es : ∀ m : jm_Mem, jm_env 59 8 [.ref 0, .int (i3 i), .int (i3 k), .ref 430] m = _ := fun m => eL_ratio 58 0 i k 430 m
  rcases h1 with ⟨rfl, e⟩ | ⟨rfl, e⟩
  · have e : jm_env 58 153 [.ref 0, .int (i3 i), .int (i3 k)] (qM X v w T c s) = some (.inl (some (.double z)), qM X v w1 T c s) := e
    refine ⟨0, z, up w1 430 0 (z.toNat : Int), c, s, ?_, Or.inl rfl, by omega, by omega, fun _ => up_eq, h2⟩
    rw [es, bL_ratio_0, e]
    simp only [ob_s, bD_v, bL_ratio_8]
    rw [show jm_wD (qM X v w1 T c s) 430 (i3 0) z = jm_wD (qM X v w1 T c s) 430 (i3 0) (d6 (z.toNat : Int)) from congrArg _ td_e, w_430 hT]
    simp only [ob_s, bL_ratio_16]
  · have e : jm_env 58 153 [.ref 0, .int (i3 i), .int (i3 k)] (qM X v w T c s) = some (.inr eIB, qM X v w1 T (c + 1) (s + 6)) := e
    refine ⟨1, z, w1, _, _, ?_, Or.inr (Or.inl rfl), Nat.le_refl _, Nat.le_refl _, fun q => absurd q (by decide), h2⟩
    rw [es, bL_ratio_0, e]
    exact bL_ratio_14 _ _ _ _ _ _ _
theorem rd_isAlike {i : Nat} {o6 o7 o8 : Option Value} (hR : RS v n) (hn0 : 0 ≤ n) (hn : n ≤ 1000000) (hT : 20 ≤ T) (hT2 : T < 800000) (hi : i + 7 ≤ X.1) (hL : X.1 < 10000) : rdO (jm_R (jm_env 59) jmM_L_law 696 [some (.ref jm_scr), some (.ref 0), some (.ref 411), some (.ref 429), some (.ref 430), some (.int (i3 (i : Nat))), o6, o7, o8] [] (qM X v w T c s)) X T c s n i := by
  have r1 : ∀ {v w : Nat → Int → Int} {c s : Nat}, jm_aI (qM X v w T c s) jm_scr (i3 (i : Nat) + i3 1) = some (i3 (xZ X (i + 1))) := scr_q (k := 1) rfl (by omega) (by omega) hL
  have r2 : ∀ {v w : Nat → Int → Int} {c s : Nat}, jm_aI (qM X v w T c s) jm_scr (i3 (i : Nat) + i3 2) = some (i3 (xZ X (i + 2))) := scr_q (k := 2) rfl (by omega) (by omega) hL
  have r3 : ∀ {v w : Nat → Int → Int} {c s : Nat}, jm_aI (qM X v w T c s) jm_scr (i3 (i : Nat) + i3 3) = some (i3 (xZ X (i + 3))) := scr_q (k := 3) rfl (by omega) (by omega) hL
  have r4 : ∀ {v w : Nat → Int → Int} {c s : Nat}, jm_aI (qM X v w T c s) jm_scr (i3 (i : Nat) + i3 4) = some (i3 (xZ X (i + 4))) := scr_q (k := 4) rfl (by omega) (by omega) hL
  obtain ⟨cd, z, v1, w1, c1, s1, e1, hcd, hc1, hs1, hz, h2⟩ := wl_isAlike (X := X) hR hT (xZ_b (X := X) (k := i + 1)) (xZ_b (X := X) (k := i + 2)) (xZ_b (X := X) (k := i + 3)) (xZ_b (X := X) (k := i + 4)) w c s
  obtain ⟨b, v2, w2, e2, h8, hb, hR2⟩ := h2 w1 c1 s1
  have ht := thr_e (X := X) (v := v2) (w := w2) (T := T) (c := c1) (s := s1) (d := 58) hT
  have hf := fr_429 hT (uxS_R (by decide) (uxS_I (uxS_I (uxS_I (uxS_I uxS_0))))) e2
  refine ⟨v2, w2, 0, c1, s1, some (.int (i3 cd)), some (.int (i3 b)), o8, ?_, RS_le hR2 (by omega), by omega, by omega, by omega⟩
  rw [bL_law_696]
  simp only [r1, r2, r3, r4, ob_s, bI_v, e1, e2, ht, h8]
  rw [if_pos trivial, bL_law_768]
  by_cases q : cd = 0
  · rw [if_pos (by rw [q]), bL_law_773, hf, ob_s, hz q, hb q]
    by_cases g : i3 z = i3 0
    · rw [if_pos g, if_pos g, bL_law_785, bL_law_786, lgc_e, if_pos rfl, bL_law_792] <;> rfl
    · rw [if_neg g, if_neg g, bL_law_781, bL_law_786, lgc_e, if_pos rfl, bL_law_792] <;> rfl
  · rw [if_neg (cd_n0 hcd q), bL_law_792] <;> rfl
theorem rd_ratio {i : Nat} {o6 o7 o8 : Option Value} (hR : RS v n) (hn0 : 0 ≤ n) (hn : n ≤ 1000000) (hT : 20 ≤ T) (hT2 : T < 800000) (hi : i + 7 ≤ X.1) (hL : X.1 < 10000) : rdO (jm_R (jm_env 59) jmM_L_law 795 [some (.ref jm_scr), some (.ref 0), some (.ref 411), some (.ref 429), some (.ref 430), some (.int (i3 (i : Nat))), o6, o7, o8] [] (qM X v w T c s)) X T c s n i := by
  have r1 : ∀ {v w : Nat → Int → Int} {c s : Nat}, jm_aI (qM X v w T c s) jm_scr (i3 (i : Nat) + i3 1) = some (i3 (xZ X (i + 1))) := scr_q (k := 1) rfl (by omega) (by omega) hL
  have r2 : ∀ {v w : Nat → Int → Int} {c s : Nat}, jm_aI (qM X v w T c s) jm_scr (i3 (i : Nat) + i3 2) = some (i3 (xZ X (i + 2))) := scr_q (k := 2) rfl (by omega) (by omega) hL
  obtain ⟨cd, z, w1, c1, s1, e1, hcd, hc1, hs1, hz, h2⟩ := wl_ratio (X := X) hR hT (xZ_b (X := X) (k := i + 1)) (xZ_b (X := X) (k := i + 2)) w c s
  obtain ⟨b, w2, e2, h8, hb, hR2⟩ := h2 w1 c1 s1
  have ht := thr_e (X := X) (v := v) (w := w2) (T := T) (c := c1) (s := s1) (d := 58) hT
  have hf := fr_430 hT (uxS_R (by decide) (uxS_I (uxS_I uxS_0))) e2
  refine ⟨v, w2, 0, c1, s1, some (.int (i3 cd)), some (.double b), none, ?_, RS_le hR2 (by omega), by omega, by omega, by omega⟩
  rw [bL_law_795]
  simp only [r1, r2, ob_s, bI_v, bD_v, e1, e2, ht, h8]
  rw [if_pos trivial, bL_law_844]
  by_cases q : cd = 0
  · rw [if_pos (by rw [q]), bL_law_849, hf, ob_s, hz q, hb q, ← td_e]
    by_cases g : Op.cmpValue (FP.dcmp z z) .l = i3 0
    · rw [if_pos g, bL_law_881] <;> rfl
    · rw [if_neg g, bL_law_859, hf, ob_s, ob_s, hz q, ← td_e, if_neg g, bL_law_871, if_neg g, bL_law_881] <;> rfl
  · rw [if_neg (cd_n0 hcd q), bL_law_881] <;> rfl
end RDC
