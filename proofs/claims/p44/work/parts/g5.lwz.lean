-- uses 24.zar 25.obj 26.ops 30.rd 31.re 34.gen 55.clc 07.rel e0.lwa e1.lwb e2.lwc e3.lwd e4.lwe f3.lwn f7.lwr g4.lwy
/-! A new series, a new land of the law, on. -/
section LWZ
variable {m m' : jm_Mem} {d s : Nat}
theorem new_A (hm : m.1 < 1000000) : isA (jm_new m (.inl (0, 10, .inl fun _ => 0)) 10) m.1 10 (fun _ => 0) ∧ frK m (jm_new m (.inl (0, 10, .inl fun _ => 0)) 10) (fun _ => False) 1 := ⟨⟨_, nw_at, fun _ _ => rfl⟩, nw_fr hm (by omega)⟩
theorem sX12_init {a b : Int} (ho : isO m s 12 [.null, .null, .null]) (hs : s < m.1) (a0 : 1 ≤ a) (a1 : a ≤ 2000) (b0 : 1 ≤ b) (b1 : b ≤ 2000) (hm : m.1 < 900000) : ∃ m', jm_env (d + 1) 133 [.ref s, .int (i3 a), .int (i3 b)] m = some (.inl none, m') ∧ isS m' s m.1 (m.1 + 1) (m.1 + 2) (fun n => (hv (a, b) n.toNat).1) (fun n => (hv (a, b) n.toNat).2) (fun _ => 0) ∧ m'.1 = m.1 + 3 ∧ frK m m' (fun j => j = s) 3 := by
  obtain ⟨A1, F1⟩ := new_A (m := m) (by omega)
  have o1 : isO (jm_new m (.inl (0, 10, .inl fun _ => 0)) 10) s 12 [.null, .null, .null] := (F1.2.2.2.2 s (Or.inl hs) id).trans ho
  generalize hm1 : jm_new m (.inl (0, 10, .inl fun _ => 0)) 10 = m1 at A1 F1 o1
  have n1 : m1.1 = m.1 + 1 := by rw [← hm1]; rfl
  obtain ⟨m2, e2, o2, f2⟩ := q_put (x := .ref m.1) o1 (k := 0) (by show 0 < 3; omega)
  have n2 : m2.1 = m.1 + 1 := by rw [f2.1, n1]
  have A2 := isA_fr A1 (f2.2.2 m.1 (by omega))
  obtain ⟨B3, F3⟩ := new_A (m := m2) (by omega)
  have o3 : isO (jm_new m2 (.inl (0, 10, .inl fun _ => 0)) 10) s 12 _ := (F3.2.2.2.2 s (Or.inl (by omega)) id).trans o2
  have A3 := isA_fr A2 (F3.2.2.2.2 m.1 (Or.inl (by omega)) id)
  generalize hm3 : jm_new m2 (.inl (0, 10, .inl fun _ => 0)) 10 = m3 at B3 F3 o3 A3
  have n3 : m3.1 = m.1 + 2 := by rw [← hm3]; show m2.1 + 1 = _; omega
  obtain ⟨m4, e4, o4, f4⟩ := q_put (x := .ref m2.1) o3 (k := 1) (by show 1 < 3; omega)
  have n4 : m4.1 = m.1 + 2 := by rw [f4.1, n3]
  have A4 := isA_fr A3 (f4.2.2 m.1 (by omega))
  have B4 := isA_fr B3 (f4.2.2 m2.1 (by omega))
  obtain ⟨C5, F5⟩ := new_A (m := m4) (by omega)
  have o5 : isO (jm_new m4 (.inl (0, 10, .inl fun _ => 0)) 10) s 12 _ := (F5.2.2.2.2 s (Or.inl (by omega)) id).trans o4
  have A5 := isA_fr A4 (F5.2.2.2.2 m.1 (Or.inl (by omega)) id)
  have B5 := isA_fr B4 (F5.2.2.2.2 m2.1 (Or.inl (by omega)) id)
  generalize hm5 : jm_new m4 (.inl (0, 10, .inl fun _ => 0)) 10 = m5 at C5 F5 o5 A5 B5
  have n5 : m5.1 = m.1 + 3 := by rw [← hm5]; show m4.1 + 1 = _; omega
  obtain ⟨m6, e6, o6, f6⟩ := q_put (x := .ref m4.1) o5 (k := 2) (by show 2 < 3; omega)
  have n6 : m6.1 = m.1 + 3 := by rw [f6.1, n5]
  have A6 := isA_fr A5 (f6.2.2 m.1 (by omega))
  have B6 := isA_fr B5 (f6.2.2 m2.1 (by omega))
  have C6 := isA_fr C5 (f6.2.2 m4.1 (by omega))
  rw [n2] at B6
  rw [n4] at C6
  have S6 : isS m6 s m.1 (m.1 + 1) (m.1 + 2) (fun _ => 0) (fun _ => 0) (fun _ => 0) := by
    have o6' : isO m6 s 12 [.ref m.1, .ref m2.1, .ref m4.1] := o6
    rw [n2, n4] at o6'
    exact ⟨o6', A6, B6, C6⟩
  have hd : (m.1 ≠ m.1 + 1 ∧ m.1 ≠ m.1 + 2 ∧ m.1 + 1 ≠ m.1 + 2) ∧ s ≠ m.1 ∧ s ≠ m.1 + 1 ∧ s ≠ m.1 + 2 := by omega
  obtain ⟨m8, e8, a8, f8⟩ := q_wI (z := 0) (y := a) S6.2.1 (by omega) (by omega) (by omega)
  have S8 := isS_1 (H' := fun _ => 0) (K' := fun _ => 0) S6 f8 hd.2.1 (Or.inl ⟨rfl, a8⟩) (Or.inr ⟨hd.1.1, rfl⟩) (Or.inr ⟨hd.1.2.1, rfl⟩)
  obtain ⟨m10, e10, a10, f10⟩ := q_wI (z := 0) (y := b) S8.2.2.1 (by omega) (by omega) (by omega)
  have S10 := isS_1 (W' := st1 (fun _ => 0) 0 a) (K' := fun _ => 0) S8 f10 hd.2.2.1 (Or.inr ⟨fun q => hd.1.1 q.symm, rfl⟩) (Or.inl ⟨rfl, a10⟩) (Or.inr ⟨hd.1.2.2, rfl⟩)
  have n10 : m10.1 = m.1 + 3 := by rw [f10.1, f8.1, n6]
  have F10 : frK m m10 (fun j => j = s) 3 := by
    have g1 : frK m m2 (fun j => j = s) 1 := frK_u (k := 1) (j := 0) (frK_m F1 (fun _ _ q => q.elim) (Nat.le_refl _)) (fr1_1 f2 (S := fun j => j = s) rfl) (fun _ _ q => q)
    have g2 : frK m2 m4 (fun j => j = s) 1 := frK_u (k := 1) (j := 0) (frK_m F3 (fun _ _ q => q.elim) (Nat.le_refl _)) (fr1_1 f4 (S := fun j => j = s) rfl) (fun _ _ q => q)
    have g3 : frK m4 m6 (fun j => j = s) 1 := frK_u (k := 1) (j := 0) (frK_m F5 (fun _ _ q => q.elim) (Nat.le_refl _)) (fr1_1 f6 (S := fun j => j = s) rfl) (fun _ _ q => q)
    have g4 : frK m m6 (fun j => j = s) 3 := frK_m (frK_t (frK_t g1 g2) g3) (fun _ _ q => q) (by omega)
    have g5 : frK m6 m10 (fun j => j = m.1 ∨ j = m.1 + 1) 0 := fr1_S f8 (fr1_1 f10 (Or.inr rfl)) (Or.inl rfl)
    exact frK_m (frK_u g4 g5 (fun j hj q => by omega)) (fun _ _ q => q) (by omega)
  have loop : ∀ k : Nat, k ≤ 9 → ∃ m' y4 y5 y6 W H, jm_R (jm_env d) jmM_X12_init 44 [some (.ref s), some (.int (i3 a)), some (.int (i3 b)), some (.int (i3 1)), none, none, none] [] m10 = jm_R (jm_env d) jmM_X12_init 44 [some (.ref s), some (.int (i3 a)), some (.int (i3 b)), some (.int (i3 ((k : Int) + 1))), y4, y5, y6] [] m' ∧ isS m' s m.1 (m.1 + 1) (m.1 + 2) W H (fun _ => 0) ∧ (∀ j : Nat, j ≤ k → W j = (hv (a, b) j).1 ∧ H j = (hv (a, b) j).2) ∧ frK m10 m' (fun j => j = m.1 ∨ j = m.1 + 1) 0 := by
    intro k
    induction k with
    | zero => intro _; exact ⟨m10, none, none, none, _, _, rfl, S10, fun j hj => by rw [show j = 0 by omega]; exact ⟨rfl, rfl⟩, frK_0⟩
    | succ k ih =>
      intro hk
      obtain ⟨mk, y4, y5, y6, W, H, rk, sk, wk, fk⟩ := ih (by omega)
      obtain ⟨w1, w2⟩ := wk k (Nat.le_refl _)
      have hb := hv_b (p := (a, b)) ⟨by show 0 ≤ a; omega, by show a ≤ 2000; omega, by show 0 ≤ b; omega, by show b ≤ 2000; omega⟩ k
      have ek : (k : Int) + 1 - 1 = k := by omega
      obtain ⟨ml, z4, z5, z6, rl, sl, fl⟩ := iX12_s (d := d) (n := (k : Int) + 1) (a1 := a) (a2 := b) (x4 := y4) (x5 := y5) (x6 := y6) sk hd (by omega) (by omega) (by rw [ek, w1, w2]; omega)
      rw [ek, w1, w2] at sl
      refine ⟨ml, z4, z5, z6, _, _, rk.trans rl, sl, fun j hj => ?_, frK_t (k := 0) (j := 0) fk fl⟩
      unfold st1
      by_cases g : j = k + 1
      · rw [if_pos (by omega), if_pos (by omega), g]
        exact ⟨rfl, rfl⟩
      · rw [if_neg (by omega), if_neg (by omega)]
        exact wk j (by omega)
  obtain ⟨m11, y4, y5, y6, W, H, r11, s11, w11, f11⟩ := loop 9 (Nat.le_refl _)
  have n11 : m11.1 = m.1 + 3 := by have := f11.1; have := f11.2.1; omega
  refine ⟨m11, ?_, ⟨s11.1, isA_cg s11.2.1 (fun k k0 k1 => ?_), isA_cg s11.2.2.1 (fun k k0 k1 => ?_), s11.2.2.2⟩, n11, frK_m (frK_u F10 f11 (fun j hj q => by omega)) (fun _ _ q => q) (by omega)⟩
  · rw [eX12_init _ _ _ _ _ (q_C ho), bX12_init_0, q_mk (by omega), hm1, e2, ob_s, q_mk (by omega), hm3, e4, ob_s, q_mk (by omega), hm5, e6, ob_s, q_gR S6.1 (k := 0) rfl, ob_s, e8, ob_s, q_gR S8.1 (k := 1) rfl, ob_s, e10, ob_s, r11, bX12_init_44, ie_le (by omega) (by omega) (by omega) (by omega), if_pos (by omega), bX12_init_182]
  · have := (w11 k.toNat (by omega)).1
    rw [Int.toNat_of_nonneg k0] at this
    exact this
  · have := (w11 k.toNat (by omega)).2
    rw [Int.toNat_of_nonneg k0] at this
    exact this
/-- a land of the law, begun -/
theorem sL_init (ho : isO m s 13 [.null, .null, .int 0, .int 0]) (hs : s < m.1) (hm : m.1 < 900000) (hd : m.2.1 jm_dcp = jm_dcE) : ∃ m', jm_env (d + 4) 1 [.ref s] m = some (.inl none, m') ∧ isO m' s 13 [.ref m.1, .ref (m.1 + 1), .int 0, .int 0] ∧ isLs m' m.1 jm_dcp 0 0 (fun _ => 0) ∧ isL m' (m.1 + 1) 8 (fun _ => 0) ∧ m'.1 = m.1 + 2 ∧ frK m m' (fun j => j = s) 2 := by
  have hdc : 1000000 ≤ jm_dcp := by decide
  have o1 : isO (jm_new m (.inr (17, [.int 0, .null, .int 0])) 3) m.1 17 [.int 0, .null, .int 0] := nw_at
  have F1 : frK m (jm_new m (.inr (17, [.int 0, .null, .int 0])) 3) (fun _ => False) 1 := nw_fr (by omega) (by omega)
  have oS1 : isO (jm_new m (.inr (17, [.int 0, .null, .int 0])) 3) s 13 [.null, .null, .int 0, .int 0] := (F1.2.2.2.2 s (Or.inl hs) id).trans ho
  generalize hm1 : jm_new m (.inr (17, [.int 0, .null, .int 0])) 3 = m1 at o1 F1 oS1
  have n1 : m1.1 = m.1 + 1 := by rw [← hm1]; rfl
  obtain ⟨m2, e2, l2, f2⟩ := sAL_init (d := d) (f := fun _ => 0) o1 (by omega) (by omega) ((F1.2.2.2.2 _ (Or.inr hdc) id).trans hd)
  have oS2 := isO_fr oS1 (f2.2.2 s (by omega))
  obtain ⟨m3, e3, o3, f3⟩ := q_put (x := .ref m.1) oS2 (k := 0) (by show 0 < 4; omega)
  have n3 : m3.1 = m.1 + 1 := by rw [f3.1, f2.1, n1]
  have F4 : frK m3 (jm_new m3 (.inl (2, 8, .inr (.inl fun _ => 0))) 8) (fun _ => False) 1 := nw_fr (by omega) (by omega)
  have L4 : isL (jm_new m3 (.inl (2, 8, .inr (.inl fun _ => 0))) 8) m3.1 8 (fun _ => 0) := ⟨_, nw_at, fun _ _ => rfl⟩
  have o4 : isO (jm_new m3 (.inl (2, 8, .inr (.inl fun _ => 0))) 8) s 13 _ := (F4.2.2.2.2 s (Or.inl (by omega)) id).trans o3
  generalize hm4 : jm_new m3 (.inl (2, 8, .inr (.inl fun _ => 0))) 8 = m4 at F4 L4 o4
  have n4 : m4.1 = m.1 + 2 := by rw [← hm4]; show m3.1 + 1 = _; omega
  obtain ⟨m5, e5, o5, f5⟩ := q_put (x := .ref m3.1) o4 (k := 1) (by show 1 < 4; omega)
  rw [n3] at L4
  refine ⟨m5, ?_, ?_, ?_, isL_fr L4 (f5.2.2 _ (by omega)), by rw [f5.1, n4], ?_⟩
  · rw [eL_init _ _ _ (q_C ho), bL_init_0, q_mk (by omega), hm1, e2, ob_s, bV_v, e3, ob_s, q_mk (by omega), hm4, e5, ob_s]
  · have : isO m5 s 13 [.ref m.1, .ref m3.1, .int 0, .int 0] := o5
    rw [n3] at this
    exact this
  · have l3 := isLs_fr l2 (by rw [f3.1]; exact Nat.le_refl _) (f3.2.2 _ (by omega)) (f3.2.2 _ (by omega))
    have l4 := isLs_fr l3 F4.1 (F4.2.2.2.2 _ (Or.inl (by omega)) id) (F4.2.2.2.2 _ (Or.inr hdc) id)
    exact isLs_fr l4 (by rw [f5.1]; exact Nat.le_refl _) (f5.2.2 _ (by omega)) (f5.2.2 _ (by omega))
  · have g1 : frK m m3 (fun j => j = s) 1 := by
      have : frK m m2 (fun j => j = s) 1 := frK_m (frK_u (k := 1) (j := 0) (frK_m F1 (fun _ _ q => q.elim) (Nat.le_refl _)) (fr1_1 f2 (S := fun j => j = m.1) rfl) (fun j hj q => by omega)) (fun _ _ q => q) (Nat.le_refl _)
      exact frK_u (k := 1) (j := 0) this (fr1_1 f3 (S := fun j => j = s) rfl) (fun _ _ q => q)
    exact frK_m (frK_u (k := 2) (j := 0) (frK_m (frK_u g1 F4 (fun _ _ q => q.elim)) (fun _ _ q => q) (by omega)) (fr1_1 f5 (S := fun j => j = s) rfl) (fun _ _ q => q)) (fun _ _ q => q) (by omega)
end LWZ
