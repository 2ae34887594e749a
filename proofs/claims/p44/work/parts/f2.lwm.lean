-- uses 24.zar 25.obj 26.ops 30.rd 31.re 34.gen 38.mod 39.mo2 42.mo4 43.mo5 44.mo6 45.mo7 46.mo8 47.mo9 49.mob 51.moe 53.cla 58.clf 59.clg 60.clh 62.clj 65.cll 66.clm 68.okg 71.clp d8.frm d9.frn e0.lwa e1.lwb e2.lwc e3.lwd e4.lwe e7.lwh e8.lwi e9.lwj f0.lwk f1.lwl
/-! One act. -/
section LWM
variable {m m1 m2 m' : jm_Mem} {X : Nat × (Nat → Int32)} {P : Nat → Nat} {g d : Nat} {v w v' w' μ μ' : Nat → Int → Int} {n : Int}
theorem bOk_L (h : bOk v 1) (f : frL v' v) : bOk v' 1 := by
  unfold bOk at h ⊢
  rw [f 1 (by omega), f (1 + 1) (by omega)]
  exact h
theorem ST_2 (h : ST m X P g v w μ n) (hm : m.1 ≤ 1000000) (hn : n < 1000) (c1 : CR m1 X v' w') (q1 : LQ v' μ' (n + 1)) (f1 : frC m m1) (hl : LM m2 P μ') (f2 : frK m1 m2 (fun j => ∃ i, i < 4 + 4 * (μ 412 0).toNat ∧ j = P i) 0) (h0 : μ' 412 0 = μ 412 0) (hb : frL v' v) : ST m2 X P g v' w' μ' (n + 1) := by
  obtain ⟨s1, s2, s3, s4, s5, ⟨u, s6⟩, s7, s8, s9, s10, s11, s12⟩ := h
  have e1 := f1.1
  have g1 := f2.1
  refine ⟨CR_fr c1 f2 (by omega) (fun j ⟨i, hi, hj⟩ => by have := s4.1 i hi (Or.inr (by omega)); omega), q1, hl, ?_, by omega, ⟨u, isA_fr s6 ?_⟩, by omega, by rw [h0]; exact s8, by omega, by omega, by omega, bOk_L s12 hb⟩
  · rw [h0]; exact LHn_fr (LHn_C s4 f1) f2
  · rw [f2.2.2.2.2 g (by omega) (fun ⟨i, hi, hj⟩ => s8 i hi hj.symm), f1.2.2 g (fP_no (by omega))]
theorem tr0_by {i k q : Int} (hi : 0 ≤ i) (hk : 0 ≤ k) : trV μ (byR μ i k q) (byV μ i k q) 412 0 = μ 412 0 := by
  by_cases c : byR μ i k q < -1
  · rw [trV_lo c]
  · rw [trV_hi c]
    unfold byV
    rw [if_neg c, up_ne (by omega), up_ne (by omega), up_ne (by omega)]
theorem tr0_ct {i k q : Int} (hi : 0 ≤ i) (hk : 0 ≤ k) : trV μ (ctR μ i k q) (ctV μ i k q) 412 0 = μ 412 0 := by
  by_cases c : ctR μ i k q < -1
  · rw [trV_lo c]
  · rw [trV_hi c]
    unfold ctV
    rw [if_neg c, up_ne (by omega), up_ne (by omega), up_ne (by omega), up_ne (by omega)]
theorem tr0_fl {x y q : Int} (hp : 0 ≤ μ 412 3) : trV μ (flR μ x y q) (flV μ x y q) 412 0 = μ 412 0 := by
  by_cases c : flR μ x y q < -1
  · rw [trV_lo c]
  · rw [trV_hi c]
    unfold flV
    split
    · rfl
    · next e =>
      obtain ⟨p1, p2, p3, p4⟩ := (nrM_P (v := μ) (pw := x) (ph := y) (num := q) (x := -1)).resolve_left e
      have p1' : 0 ≤ (nrA μ x y q).1 := p1
      have p4' : (nrA μ x y q).2 < 10 := p4
      have p3' : 0 ≤ (nrA μ x y q).2 := p3
      have e3 : flU μ (nrA μ x y q).1 (nrA μ x y q).2.toNat x y q 412 3 = μ 412 3 := flU_o (by omega) (by omega) (by omega) (by omega) (by omega) (by omega) (by omega) (by omega)
      rw [kpsV_o (by omega) (by omega) (by rw [e3]; exact hp), flU_o (by omega) (by omega) (by omega) (by omega) (by omega) (by omega) (by omega) (by omega)]
/-- reams bought -/
theorem sL_act_b (h : ST m X P g v w μ n) (hm : m.1 ≤ 1000000) (hn : n < 1000) {i : Nat} {k : Int} {x6 x7 x8 : Option Value} (hi : (i : Int) < μ 412 0) (k0 : 0 ≤ k) (k1 : k < 10) : ∃ m' v' w' μ', jm_R (jm_env (d + 15)) jmM_L_act 76 [some (.ref 0), some (.ref (P 0)), some (.ref g), some (.int (i3 i)), some (.ref (P (4 + 4 * i))), some (.int (i3 k)), x6, x7, x8] [] m = some (.inl (some (.int (i3 1))), m') ∧ ST m' X P g v' w' μ' (n + 1) ∧ bd m m' 0 := by
  obtain ⟨z, m1, e1, z0, z1, h1, f1⟩ := ST_draw (d := d + 14) h hm (k := 4) (by omega) (by omega)
  have h5 := (ST_g_ok h).2.2.2.2
  have hm1 : m1.1 ≤ 1000000 := by rw [f1.1]; exact hm
  obtain ⟨m2, v2, w2, e2, c2, ⟨q2, l2⟩, f2⟩ := cr_W h1.1 fS_i3 (cX11_buy (d := d + 10) h1.2.1 h1.2.2.2.2.2.2.2.2.2.1 (i := (i : Int)) (n := k) (r := 1 + z) ⟨by omega, by omega⟩ ⟨by omega, by omega⟩ ⟨by omega, by omega⟩) (cd2_t ⟨⟨by omega, hi⟩, k0, k1⟩ ⟨by omega, by omega⟩)
  have hk : 1 ≤ (μ 412 0).toNat := by omega
  obtain ⟨m3, e3, h3, f3⟩ := tL_buys (d := d + 13) (LM_C h1.2.2.1 h1.2.2.2.1 hk hm1 f2) (LHn_C h1.2.2.2.1 f2) h1.2.1.2.1 hi k0 k1 (q := 1 + z) (by omega) (by omega)
  refine ⟨m3, _, _, _, ?_, ST_2 h1 hm1 hn c2 q2 f2 h3 f3 (tr0_by (by omega) k0) l2, bd_t (k := 0) (j := 0) (bd_1 f1) (bd_t (k := 0) (j := 0) (bd_C f2) (bd_K f3))⟩
  rw [bL_act_76, e1, ob_s, bI_v, i3_add, e2, ob_s, bI_v, e3, ob_s, bI_v, if_pos rfl, bL_act_107, bL_act_112]
  rfl
/-- sheets cut -/
theorem sL_act_c (h : ST m X P g v w μ n) (hm : m.1 ≤ 1000000) (hn : n < 1000) {i : Nat} {k : Int} {x6 x7 x8 : Option Value} (hi : (i : Int) < μ 412 0) (k0 : 0 ≤ k) (k1 : k < 10) : ∃ m' v' w' μ', jm_R (jm_env (d + 15)) jmM_L_act 113 [some (.ref 0), some (.ref (P 0)), some (.ref g), some (.int (i3 i)), some (.ref (P (4 + 4 * i))), some (.int (i3 k)), x6, x7, x8] [] m = some (.inl (some (.int (i3 1))), m') ∧ ST m' X P g v' w' μ' (n + 1) ∧ bd m m' 0 := by
  obtain ⟨z, m1, e1, z0, z1, h1, f1⟩ := ST_draw (d := d + 14) h hm (k := 12) (by omega) (by omega)
  have h5 := (ST_g_ok h).2.2.2.2
  have hm1 : m1.1 ≤ 1000000 := by rw [f1.1]; exact hm
  obtain ⟨m2, v2, w2, e2, c2, ⟨q2, l2⟩, f2⟩ := cr_W h1.1 fS_i3 (cX11_cut (d := d + 10) h1.2.1 h1.2.2.2.2.2.2.2.2.2.1 (i := (i : Int)) (n := k) (r := 1 + z) ⟨by omega, by omega⟩ ⟨by omega, by omega⟩ ⟨by omega, by omega⟩) (cd2_t ⟨⟨by omega, hi⟩, k0, k1⟩ ⟨by omega, by omega⟩)
  have hk : 1 ≤ (μ 412 0).toNat := by omega
  obtain ⟨m3, e3, h3, f3⟩ := tL_cuts (d := d + 3) (LM_C h1.2.2.1 h1.2.2.2.1 hk hm1 f2) (LHn_C h1.2.2.2.1 f2) h1.2.1.2.1 hi k0 k1 (q := 1 + z) (by omega) (by omega)
  refine ⟨m3, _, _, _, ?_, ST_2 h1 hm1 hn c2 q2 f2 h3 f3 (tr0_ct (by omega) k0) l2, bd_t (k := 0) (j := 0) (bd_1 f1) (bd_t (k := 0) (j := 0) (bd_C f2) (bd_K f3))⟩
  rw [bL_act_113, e1, ob_s, bI_v, i3_add, e2, ob_s, bI_v, e3, ob_s, bI_v, if_pos rfl, bL_act_145, bL_act_150]
  rfl
/-- an order -/
theorem sL_act_o (h : ST m X P g v w μ n) (hm : m.1 ≤ 1000000) (hn : n < 1000) {i : Nat} {k : Int} {x6 x7 x8 : Option Value} : ∃ m' v' w' μ', jm_R (jm_env (d + 15)) jmM_L_act 186 [some (.ref 0), some (.ref (P 0)), some (.ref g), some (.int (i3 i)), some (.ref (P (4 + 4 * i))), some (.int (i3 k)), x6, x7, x8] [] m = some (.inl (some (.int (i3 1))), m') ∧ ST m' X P g v' w' μ' (n + 1) ∧ bd m m' 0 := by
  obtain ⟨x, m1, e1, x0, x1, h1, f1⟩ := ST_side (d := d + 13) h hm
  have hm1 : m1.1 ≤ 1000000 := by rw [f1.1]; exact hm
  obtain ⟨y, m2, e2, y0, y1, h2, f2⟩ := ST_side (d := d + 13) h1 hm1
  have hm2 : m2.1 ≤ 1000000 := by rw [f2.1]; exact hm1
  obtain ⟨z, m3, e3, z0, z1, h3, f3⟩ := ST_draw (d := d + 14) h2 hm2 (k := 30) (by omega) (by omega)
  have hm3 : m3.1 ≤ 1000000 := by rw [f3.1]; exact hm2
  obtain ⟨m4, v4, w4, e4, c4, ⟨q4, l4'⟩, f4⟩ := cr_W h3.1 fS_i3 (cX11_order (d := d + 9) h3.2.1 h3.2.2.2.2.2.2.2.2.2.1 (a := x) (b := y) (q := 1 + z) ⟨by omega, by omega⟩ ⟨by omega, by omega⟩ ⟨by omega, by omega⟩) (cd1_t ⟨⟨⟨by omega, by omega⟩, by omega, by omega⟩, by omega, by omega⟩)
  have hk : 1 ≤ (μ 412 0).toNat := by have := h.2.2.2.2.1; omega
  obtain ⟨m5, e5, h5, f5⟩ := tL_orders (d := d + 2) (LM_C h3.2.2.1 h3.2.2.2.1 hk hm3 f4) (LHn_C h3.2.2.2.1 f4) h3.2.1.2.1 (x := x) (y := y) (q := 1 + z) x0 (by omega) y0 (by omega) (by omega) (by omega)
  refine ⟨m5, _, _, _, ?_, ST_2 h3 hm3 hn c4 q4 f4 h5 f5 (tr0_fl h3.2.1.2.1.2.2.2.1.1) l4', bd_t (k := 0) (j := 0) (bd_1 f1) (bd_t (k := 0) (j := 0) (bd_1 f2) (bd_t (k := 0) (j := 0) (bd_1 f3) (bd_t (k := 0) (j := 0) (bd_C f4) (bd_K f5))))⟩
  rw [bL_act_186, e1, ob_s, bI_v, e2, ob_s, bI_v, e3, ob_s, bI_v, i3_add, e4, ob_s, bI_v, e5, ob_s, bI_v, if_pos rfl, bL_act_231, bL_act_236]
  rfl
/-- another edge -/
theorem sL_act_e (h : ST m X P g v w μ n) (hm : m.1 ≤ 1000000) (hn : n < 1000) {i : Nat} {k : Int} {x6 x7 x8 : Option Value} : ∃ m' v' w' μ', jm_R (jm_env (d + 15)) jmM_L_act 151 [some (.ref 0), some (.ref (P 0)), some (.ref g), some (.int (i3 i)), some (.ref (P (4 + 4 * i))), some (.int (i3 k)), x6, x7, x8] [] m = some (.inl (some (.int (i3 1))), m') ∧ ST m' X P g v' w' μ' (n + 1) ∧ bd m m' 0 := by
  obtain ⟨z, m1, e1, z0, z1, h1, f1⟩ := ST_draw (d := d + 14) h hm (k := 8) (by omega) (by omega)
  have hm1 : m1.1 ≤ 1000000 := by rw [f1.1]; exact hm
  have o1 := h1.2.2.1.1
  obtain ⟨m2, e2, o2, f2⟩ := q_put (x := .int (i3 z)) o1 (k := 2) (by show 2 < 4; omega)
  have n1 := h1.2.2.2.1
  have hk : 1 ≤ (μ 412 0).toNat := by have := h.2.2.2.2.1; omega
  have np := n1.1 0 (by omega) (Or.inl (by omega))
  have c2 : CR m2 X v w := CR_f1 h1.1 f2 (by omega)
  have hg := h1.2.1.2.1.1
  obtain ⟨m3, v3, w3, e3, c3, ⟨q3, l3'⟩, f3⟩ := cr_W c2 fS_i1 (cX11_setEdge (d := d + 10) h1.2.1 h1.2.2.2.2.2.2.2.2.2.1 (e := z) ⟨by omega, by omega⟩) (cd1_t ⟨by omega, by omega⟩)
  have ne : ∀ j, j < 4 + 4 * (μ 412 0).toNat → j ≠ 0 → m3.2.1 (P j) = m1.2.1 (P j) := fun j hj h0 => by
    have := n1.1 j hj (Or.inr hk)
    rw [f3.2.2 _ (fP_no (by omega)), f2.2.2 _ fun q => h0 (n1.2 _ _ hj (by omega) q)]
  have hz : m3.2.1 (P 0) = m2.2.1 (P 0) := f3.2.2 _ (fP_no (by omega))
  obtain ⟨-, ⟨cap, l2⟩, l3, l4⟩ := h1.2.2.1
  have hl : LH m3 P (μ 412 0).toNat z (μ 412 2) (fun k => μ 412 (4 + k)) (wM μ) (hM μ) (kkM μ) := by
    refine ⟨isO_fr o2 hz, ⟨cap, isLs_fr l2 (by rw [f3.1, f2.1]; exact Nat.le_refl _) (ne 1 (by omega) (by omega)) (ne 2 (by omega) (by omega))⟩, isL_fr l3 (ne 3 (by omega) (by omega)), fun i hi => ?_⟩
    obtain ⟨s1, s2, s3, s4⟩ := l4 i hi
    exact ⟨isO_fr s1 (ne _ (by omega) (by omega)), isA_fr s2 (ne _ (by omega) (by omega)), isA_fr s3 (ne _ (by omega) (by omega)), isA_fr s4 (ne _ (by omega) (by omega))⟩
  have hl3 : LM m3 P (kpV (up μ 412 1 z) (μ 412)) := by
    have e412 : kpV (up μ 412 1 z) (μ 412) 412 = up μ 412 1 z 412 := kpV_b (by omega) (by omega)
    unfold LM
    have e0 : kpV (up μ 412 1 z) (μ 412) 412 0 = μ 412 0 := by rw [e412, up_ne (by omega)]
    rw [e0]
    refine LH_cg hl (by rw [e412, up_eq]) (by rw [e412, up_ne (by omega)]) (fun k k0 k1 => by rw [e412, up_ne (by omega)]) fun i hi n n0 n1 => ?_
    have es : szM (kpV (up μ 412 1 z) (μ 412)) i n = szM μ i n := by
      unfold szM
      rw [e412, up_ne (by omega), up_ne (by omega)]
    refine ⟨by show (szM μ i n).1 = (szM _ i n).1; rw [es], by show (szM μ i n).2 = (szM _ i n).2; rw [es], ?_⟩
    show μ 412 (12 + 13 * i + 3 + n) = kpV (up μ 412 1 z) (μ 412) 412 (12 + 13 * i + 3 + n)
    rw [e412, up_ne (by omega)]
  obtain ⟨s1, s2, s3, s4, s5, ⟨u, s6⟩, s7, s8, s9, s10, s11, s12⟩ := h1
  have e0 : kpV (up μ 412 1 z) (μ 412) 412 0 = μ 412 0 := by rw [kpV_b (by omega) (by omega), up_ne (by omega)]
  have m31 : m3.1 = m1.1 := f3.1.trans f2.1
  refine ⟨m3, v3, w3, _, ?_, ⟨c3, q3, hl3, ?_, by omega, ⟨u, isA_fr s6 ?_⟩, by omega, by rw [e0]; exact s8, by omega, by omega, by omega, bOk_L s12 l3'⟩, bd_t (k := 0) (j := 0) (bd_1 f1) (bd_t (k := 0) (j := 0) (bd_1 f2) (bd_C f3))⟩
  · have ov := h.2.2.1.1
    rw [bL_act_151, q_gI ov (k := 2) rfl, ob_s, e1, ob_s, bI_v, e2, ob_s, q_gI o2 (k := 2) rfl, ob_s, e3, ob_s, bI_v, if_pos rfl, bL_act_180, bL_act_185]
    rfl
  · rw [e0]; exact LHn_C (LHn_f1 n1 f2) f3
  · rw [f3.2.2 g (fP_no (by omega)), f2.2.2 g (fun q => s8 0 (by omega) q.symm)]
theorem sL_act (h : ST m X P g v w μ n) (hm : m.1 ≤ 1000000) (hn : n < 1000) : ∃ m' v' w' μ', jm_env (d + 16) 17 [.ref 0, .ref (P 0), .ref g] m = some (.inl (some (.int (i3 1))), m') ∧ ST m' X P g v' w' μ' (n + 1) ∧ bd m m' 0 := by
  have hk := h.2.2.2.2.1
  have h5 := (ST_g_ok h).2.2.2.2
  obtain ⟨z, m1, e1, z0, z1, h1, f1⟩ := ST_draw (d := d + 14) h hm (k := ((μ 412 0).toNat : Int)) (by omega) (by omega)
  have hm1 : m1.1 ≤ 1000000 := by rw [f1.1]; exact hm
  obtain ⟨i, rfl⟩ : ∃ i : Nat, z = i := ⟨z.toNat, by omega⟩
  obtain ⟨g1, g2⟩ := LH_get (d := d + 13) h1.2.2.1 (i := i) (by omega)
  obtain ⟨k, m2, e2, k0, k1, h2, f2⟩ := ST_draw (d := d + 14) h1 hm1 (k := 10) (by omega) (by omega)
  have hm2 : m2.1 ≤ 1000000 := by rw [f2.1]; exact hm1
  obtain ⟨t, m3, e3, t0, t1, h3, f3⟩ := ST_draw (d := d + 14) h2 hm2 (k := 10) (by omega) (by omega)
  have hm3 : m3.1 ≤ 1000000 := by rw [f3.1]; exact hm2
  have b3 : bd m m3 0 := bd_t (k := 0) (j := 0) (bd_1 f1) (bd_t (k := 0) (j := 0) (bd_1 f2) (bd_1 f3))
  have start : jm_env (d + 16) 17 [.ref 0, .ref (P 0), .ref g] m = jm_R (jm_env (d + 15)) jmM_L_act 43 [some (.ref 0), some (.ref (P 0)), some (.ref g), some (.int (i3 i)), some (.ref (P (4 + 4 * i))), some (.int (i3 k)), none, none, none] [.int (i3 t)] m3 := by
    rw [eL_act, bL_act_0, q_gR h.2.2.1.1 (k := 0) rfl, ob_s, LH_sz (d := d + 14) h.2.2.1, ob_s, bI_v, e1, ob_s, bI_v, q_gR h1.2.2.1.1 (k := 0) rfl, ob_s, g1, ob_s, bR_w, if_pos g2, e2, ob_s, bI_v, e3, ob_s, bI_v]
  rw [start]
  by_cases c : 4 < t
  · rw [bL_act_43_d (h0 := by omega) (h1 := by omega) (h := Or.inr c)]
    obtain ⟨m', v', w', μ', e, hh, b⟩ := sL_act_o (d := d) (i := i) (k := k) (x6 := none) (x7 := none) (x8 := none) h3 hm3 hn
    exact ⟨m', v', w', μ', e, hh, bd_t (k := 0) (j := 0) b3 b⟩
  · have ht : t = 0 ∨ t = 1 ∨ t = 2 ∨ t = 3 ∨ t = 4 := by omega
    rcases ht with rfl | rfl | rfl | rfl | rfl
    · rw [bL_act_43_0]
      obtain ⟨m', v', w', μ', e, hh, b⟩ := sL_act_b (d := d) (i := i) (k := k) (x6 := none) (x7 := none) (x8 := none) h3 hm3 hn (by omega) k0 k1
      exact ⟨m', v', w', μ', e, hh, bd_t (k := 0) (j := 0) b3 b⟩
    · rw [bL_act_43_1]
      obtain ⟨m', v', w', μ', e, hh, b⟩ := sL_act_b (d := d) (i := i) (k := k) (x6 := none) (x7 := none) (x8 := none) h3 hm3 hn (by omega) k0 k1
      exact ⟨m', v', w', μ', e, hh, bd_t (k := 0) (j := 0) b3 b⟩
    · rw [bL_act_43_2]
      obtain ⟨m', v', w', μ', e, hh, b⟩ := sL_act_c (d := d) (i := i) (k := k) (x6 := none) (x7 := none) (x8 := none) h3 hm3 hn (by omega) k0 k1
      exact ⟨m', v', w', μ', e, hh, bd_t (k := 0) (j := 0) b3 b⟩
    · rw [bL_act_43_3]
      obtain ⟨m', v', w', μ', e, hh, b⟩ := sL_act_c (d := d) (i := i) (k := k) (x6 := none) (x7 := none) (x8 := none) h3 hm3 hn (by omega) k0 k1
      exact ⟨m', v', w', μ', e, hh, bd_t (k := 0) (j := 0) b3 b⟩
    · rw [bL_act_43_4]
      obtain ⟨m', v', w', μ', e, hh, b⟩ := sL_act_e (d := d) (i := i) (k := k) (x6 := none) (x7 := none) (x8 := none) h3 hm3 hn
      exact ⟨m', v', w', μ', e, hh, bd_t (k := 0) (j := 0) b3 b⟩
end LWM
