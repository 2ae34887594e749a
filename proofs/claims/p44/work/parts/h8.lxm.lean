-- uses 24.zar 25.obj 26.ops 29.rc 30.rd 31.re 34.gen 35.byt 38.mod 39.mo2 46.mo8 51.moe 53.cla 55.clc 60.clh 62.clj 64.okm 65.cll 74.cls 75.wra 93.tka 94.tkb 97.srp a1.srs c0.foa d8.frm d9.frn d0.ina d7.inh e0.lwa e1.lwb e2.lwc e3.lwd e4.lwe e8.lwi f0.lwk f1.lwl f2.lwm f4.lwo f7.lwr f9.lwt g0.lwu g1.lwv g2.lww g3.lwx g6.lxa g7.lxb g8.lxc g9.lxd h0.lxe h1.lxf h2.lxg h3.lxh h4.lxi h5.lxj h6.lxk h7.lxl
/-! The law. -/
/-- between two lands -/
def B0 (m : jm_Mem) (X : Nat × (Nat → Int32)) (v w : Nat → Int → Int) : Prop := CR m X v w ∧ bOk v 1 ∧ (0 ≤ v 78 1 ∧ v 78 1 ≤ 8) ∧ 411 ≤ m.1
section LXM
variable {m m' : jm_Mem} {X : Nat × (Nat → Int32)} {P : Nat → Nat} {v w μ : Nat → Int → Int} {d g : Nat} {n : Int}
theorem ST_B0 (h : ST m X P g v w μ n) : B0 m X v w := ⟨h.1, h.2.2.2.2.2.2.2.2.2.2.2, h.2.1.2.2.1.1.2.2.2, h.2.2.2.2.2.2.2.2.1⟩
theorem CR_scr (h : CR m X v w) : m.2.1 jm_scr = .inl (8, X.1, .inl X.2) := by
  rw [h jm_scr (Or.inr (by decide))]
  show (if jm_scr < 411 + 0 then pl_e (pl_sh jm_scr) (pl_q v w jm_scr) else pl_sp X jm_scr) = _
  rw [if_neg (by decide)]
  exact if_pos rfl
theorem CR_len (h : CR m X v w) : jm_len m jm_scr = some X.1 := by
  unfold jm_len
  rw [CR_scr h]
  rfl
theorem CR_at (h : CR m X v w) {k : Nat} (hk : k < X.1) (hL : X.1 < 10000) : jm_aI m jm_scr (i3 (k : Nat)) = some (i3 (X.2 k).toInt) := by
  have e1 : (i3 (k : Int)).toNatClampNeg = k := by rw [i3_nat (by omega) (by omega)]; omega
  have z : ¬ (i3 (k : Int) < 0) := by
    have h : (i3 (k : Int) < (0 : Int32)) = ((k : Int) < 0) := i3_lt (b := 0) (by omega) (by omega) (by omega) (by omega)
    rw [h]; omega
  have ei : jm_ix (i3 (k : Int)) X.1 = some k := by
    unfold jm_ix
    rw [if_neg (by rw [e1]; exact fun q => q.elim z (by omega)), e1]
  have ex : i3 (X.2 k).toInt = X.2 k := Int32.ofInt_toInt _
  unfold jm_aI
  rw [CR_scr h, ex]
  show (jm_ix (i3 (k : Int)) X.1).map X.2 = _
  rw [ei]
  rfl
theorem law_acts (h : ST m X P g v w μ 2) (hm : m.1 < 300000) {a0 : Nat} {a2 a3 : Int} : ∀ t : Nat, t ≤ 16 → ∃ m' v' w' μ', jm_R (jm_env (d + 16)) jmM_L_law 52 [some (.ref a0), some (.ref 0), some (.int (i3 a2)), some (.int (i3 a3)), some (.ref g), some (.ref (P 0)), some (.int (i3 0))] [] m = jm_R (jm_env (d + 16)) jmM_L_law 52 [some (.ref a0), some (.ref 0), some (.int (i3 a2)), some (.int (i3 a3)), some (.ref g), some (.ref (P 0)), some (.int (i3 (t : Nat)))] [] m' ∧ ST m' X P g v' w' μ' (2 + t) ∧ bd m m' (450 * t) := by
  intro t
  induction t with
  | zero => intro _; exact ⟨m, v, w, μ, rfl, h, bd_0⟩
  | succ t ih =>
    intro ht
    obtain ⟨m1, v1, w1, μ1, e1, h1, d1⟩ := ih (by omega)
    have b1 := d1.2.1
    obtain ⟨m2, w2, e2, h2, d2⟩ := sL_still (d := d + 2) h1 (by omega)
    have b2 := d2.2.1
    obtain ⟨m3, v3, w3, μ3, e3, h3, d3⟩ := sL_act (d := d) h2 (by omega) (by omega)
    refine ⟨m3, v3, w3, μ3, ?_, by rw [show (2 : Int) + ((t + 1 : Nat) : Int) = 2 + t + 1 by omega]; exact h3, bd_m (bd_t (bd_t d1 d2) d3) (by omega)⟩
    rw [e1, bL_law_52, ie_le (by omega) (by omega) (by omega) (by omega), if_neg (by omega), bL_law_59, e2, ob_s, bI_v, ie_eq (by omega) (by omega) (by omega) (by omega), if_neg (by omega), bL_law_70, e3, ob_s, bI_v, ie_eq (by omega) (by omega) (by omega) (by omega), if_neg (by omega), bL_law_83, i3_add]
    rfl
theorem law_round (h : B0 m X v w) (hm : m.1 < 200000) (hL : X.1 < 10000) {i : Nat} (hi : i < X.1) (h2 : i < 2) {x4 x5 x6 : Option Value} : ∃ m' v' w' y4 y5 y6, jm_R (jm_env (d + 16)) jmM_L_law 13 [some (.ref jm_scr), some (.ref 0), some (.int (i3 (X.1 : Nat))), some (.int (i3 (i : Nat))), x4, x5, x6] [] m = jm_R (jm_env (d + 16)) jmM_L_law 13 [some (.ref jm_scr), some (.ref 0), some (.int (i3 (X.1 : Nat))), some (.int (i3 ((i + 1 : Nat) : Int))), y4, y5, y6] [] m' ∧ B0 m' X v' w' ∧ bd m m' 9000 := by
  obtain ⟨h1, h2b, h3, h4⟩ := h
  have F1 : frK m (jm_new m (.inl (0, 1, .inl fun _ => 0)) 1) (fun _ => False) 1 := nw_fr (by omega) (by omega)
  have A1 : isA (jm_new m (.inl (0, 1, .inl fun _ => 0)) 1) m.1 1 (fun _ => 0) := ⟨_, nw_at, fun _ _ => rfl⟩
  generalize hm1 : jm_new m (.inl (0, 1, .inl fun _ => 0)) 1 = m1 at F1 A1
  have n1 : m1.1 = m.1 + 1 := by rw [← hm1]; rfl
  have c1 : CR m1 X v w := CR_fr h1 F1 h4 (fun _ q => q.elim)
  have r1 := CR_at c1 hi hL
  obtain ⟨m2, r2, A2, f2⟩ := q_wI (z := 0) (y := (X.2 i).toInt) A1 (by omega) (by omega) (by omega)
  have n2 : m2.1 = m1.1 := f2.1
  have c2 : CR m2 X v w := CR_f1 c1 f2 (by omega)
  obtain ⟨m3, P, v3, w3, μ3, r3, s3, d3⟩ := sL_begins (d := d + 3) c2 h2b h3 A2 (by omega) (by omega) (by omega)
  have b3 := d3.2.1
  obtain ⟨m4, v4, w4, μ4, r4, s4, d4⟩ := law_acts (d := d) s3 (by omega) (a0 := jm_scr) (a2 := (X.1 : Nat)) (a3 := (i : Nat)) 16 (Nat.le_refl _)
  have b4 := d4.2.1
  obtain ⟨m5, w5, r5, s5, d5⟩ := sL_still (d := d + 2) s4 (by omega)
  refine ⟨m5, v4, w5, some (.ref m.1), some (.ref (P 0)), some (.int (i3 ((16 : Nat) : Int))), ?_, ST_B0 s5, bd_m (bd_t (bd_K F1) (bd_t (bd_1 f2) (bd_t d3 (bd_t d4 d5)))) (by omega)⟩
  rw [bL_law_13, ie_le (by omega) (by omega) (by omega) (by omega), if_neg (by omega), bL_law_18, ie_le (by omega) (by omega) (by omega) (by omega), if_neg (by omega), bL_law_23, q_mk (by omega), hm1, r1, ob_s, r2, ob_s, r3, ob_s, bR_w, bL_law_49, r4, bL_law_52, ie_le (by omega) (by omega) (by omega) (by omega), if_pos (by omega), bL_law_89, r5, ob_s, bI_v, ie_eq (by omega) (by omega) (by omega) (by omega), if_neg (by omega), bL_law_102, i3_add]
  rfl
theorem law_end (hL : X.1 < 10000) {i : Nat} (hi : i ≤ 2) (h : X.1 ≤ i ∨ 2 ≤ i) {x4 x5 x6 : Option Value} {a0 a1 : Nat} {call : jm_Call} : jm_R call jmM_L_law 13 [some (.ref a0), some (.ref a1), some (.int (i3 (X.1 : Nat))), some (.int (i3 (i : Nat))), x4, x5, x6] [] m = some (.inl (some (.int (i3 1))), m) := by
  rw [bL_law_13, ie_le (by omega) (by omega) (by omega) (by omega)]
  by_cases c : (X.1 : Int) ≤ (i : Int)
  · rw [if_pos c, bL_law_108]
  · rw [if_neg c, bL_law_18, ie_le (by omega) (by omega) (by omega) (by omega), if_pos (by omega), bL_law_108]
theorem law_start : ∃ v w, jm_env 20 0 [.ref jm_scr] (lM X [] 0 0) = jm_R (jm_env (3 + 16)) jmM_L_law 13 [some (.ref jm_scr), some (.ref 0), some (.int (i3 (X.1 : Nat))), some (.int (i3 ((0 : Nat) : Int))), none, none, none] [] (qM X v w 0 411 5443) ∧ B0 (qM X v w 0 411 5443) X v w := by
  obtain ⟨v, w, u, x1, x2, x3, x4, x5, x6, x7, x8⟩ := iX11 (X := X) (c := 1) (s := 14) (d := 7)
  have e78 : v1F 78 1 = 0 := by
    have : v1F 78 = z0 78 := ptL_o (by omega) (by omega)
    rw [this]
    rfl
  have c0 : CR (qM X v w 0 411 5443) X v w := fun _ _ => rfl
  have x1' : jm_env 19 95 [.ref 0] (lM X ([] ++ [.inr (11, [.null, .null, .null, .null, .null, .null, .null, .null, .null, .null, .null, .null, .null, .int 0])]) (0 + 1) (0 + 14)) = some (.inl none, qM X v w 0 411 5443) := x1
  refine ⟨v, w, ?_, c0, ⟨by omega, by omega, fun k k0 k1 => by omega⟩, by rw [x7.2.2.1, e78]; omega, Nat.le_refl _⟩
  have n0 : (lM X [] 0 0).1 = 0 := rfl
  rw [eL_law, bL_law_0, lM_mk (by simp), n0, x1', ob_s, bV_v, CR_len c0, ob_s]
  rfl
theorem law_all (hL : X.1 ≤ 260) : ∃ m', jm_env 20 0 [.ref jm_scr] (lM X [] 0 0) = some (.inl (some (.int 1)), m') ∧ m'.2.2.1 ≤ 600000 ∧ m'.2.2.2 ≤ 7000000 := by
  obtain ⟨v, w, e, h⟩ := law_start (X := X)
  have n0 : (qM X v w 0 411 5443).1 = 411 := rfl
  have k0 : (qM X v w 0 411 5443).2.2.1 = 411 := rfl
  have s0 : (qM X v w 0 411 5443).2.2.2 = 5443 := rfl
  generalize qM X v w 0 411 5443 = m at e h n0 k0 s0
  by_cases c : X.1 ≤ 0
  · exact ⟨m, e.trans (law_end (by omega) (by omega) (Or.inl c)), by omega, by omega⟩
  · obtain ⟨m1, v1, w1, y4, y5, y6, e1, h1, d1⟩ := law_round (d := 3) h (by omega) (by omega) (i := 0) (by omega) (by omega) (x4 := none) (x5 := none) (x6 := none)
    obtain ⟨d1a, d1b, d1c, d1d⟩ := d1
    by_cases c1 : X.1 ≤ 1
    · exact ⟨m1, e.trans (e1.trans (law_end (by omega) (by omega) (Or.inl c1))), by omega, by omega⟩
    · obtain ⟨m2, v2, w2, z4, z5, z6, e2, h2, d2⟩ := law_round (d := 3) h1 (by omega) (by omega) (i := 1) (by omega) (by omega) (x4 := y4) (x5 := y5) (x6 := y6)
      obtain ⟨d2a, d2b, d2c, d2d⟩ := d2
      exact ⟨m2, e.trans (e1.trans (e2.trans (law_end (by omega) (by omega) (Or.inr (by omega))))), by omega, by omega⟩
end LXM
