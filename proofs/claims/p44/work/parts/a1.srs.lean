-- uses 24.zar 25.obj 26.ops 27.ra 28.rb 29.rc 34.gen 35.byt 36.ser 37.lnd 38.mod 39.mo2 40.mo3 41.bit 44.mo6 45.mo7 46.mo8 47.mo9 48.moa 51.moe 53.cla 54.clb 55.clc 58.clf 61.cli 62.clj 63.clk 64.okm 65.cll 66.clm 72.clq 73.clr 74.cls 93.tka 94.tkb 95.drf 96.srd 97.srp 98.srq a0.srr
/-! The class's reading of a setup: head, all; load. -/
/-- all that came is told at the end -/
def arU (μ : Nat → Int → Int) : Nat → Int → Int := up μ 412 4 (fo2 (areaG μ) 0 (μ 412 0).toNat)
def oC2 (x : Option jm_Res) (X : Nat × (Nat → Int32)) (v : Nat → Int → Int) (T c s : Nat) (r : pR) : Prop :=
  (∀ e, r = .inl e → ∃ v' w', x = some (.inl (some (.int (i3 (0)))), qM X v' w' T c s) ∧ v' 5 5 = e.1 ∧ v' 5 6 = e.2 ∧ frD v' v) ∧
  (∀ u, r = .inr u → ∃ v' w', x = some (.inl (some (.int (i3 (1)))), qM X v' w' T c s) ∧ lr v' 46 (arU u.1) ∧ v' 5 = v 5 ∧ frD v' v)
theorem oC2_l {x : Option jm_Res} {X : Nat × (Nat → Int32)} {v : Nat → Int → Int} {T c s : Nat} {r : pR} {z : Int} {q : Nat} (hr : r = .inl (z, q)) (h : ∃ v' w', x = some (.inl (some (.int (i3 (0)))), qM X v' w' T c s) ∧ v' 5 5 = z ∧ v' 5 6 = q ∧ frD v' v) : oC2 x X v T c s r := by
  subst hr
  exact ⟨fun e he => (by cases he; exact h), fun u hu => (by cases hu)⟩
theorem oC2_r {x : Option jm_Res} {X : Nat × (Nat → Int32)} {v : Nat → Int → Int} {T c s : Nat} {r : pR} {μ : Nat → Int → Int} {q : Nat} (hr : r = .inr (μ, q)) (h : ∃ v' w', x = some (.inl (some (.int (i3 (1)))), qM X v' w' T c s) ∧ lr v' 46 (arU μ) ∧ v' 5 = v 5 ∧ frD v' v) : oC2 x X v T c s r := by
  subst hr
  exact ⟨fun e he => (by cases he), fun u hu => (by cases hu; exact h)⟩
theorem oC2_fr {x : Option jm_Res} {X : Nat × (Nat → Int32)} {v v0 : Nat → Int → Int} {T c s : Nat} {r : pR} (h : oC2 x X v T c s r) (h5 : v 5 = v0 5) (hf : frD v v0) : oC2 x X v0 T c s r := by
  refine ⟨fun e he => ?_, fun u hu => ?_⟩
  · obtain ⟨v', w', a, b, c, d⟩ := h.1 e he
    exact ⟨v', w', a, b, c, frD_tr d hf⟩
  · obtain ⟨v', w', a, b, c, d⟩ := h.2 u hu
    exact ⟨v', w', a, b, c.trans h5, frD_tr d hf⟩
section SRS
variable {d : Nat} {X : Nat × (Nat → Int32)} {v w : Nat → Int → Int} {T c s : Nat}
variable {b : Int → Int} {n : Nat} {μ : Nat → Int → Int}
/-- behind the last series -/
theorem tX10_end {j p : Nat} (hl : lr v 46 μ) (hs : suM μ) : ∃ v', jm_R (jm_env (d + 8)) jmM_X10_readInto 66 [some (.ref 6), some (.ref 46), some (.int (i3 j))] [] (qM X v (RD w b p) T c s) = some (.inl (some (.int (i3 (1)))), qM X v' (RD w b p) T c s) ∧ lr v' 46 (arU μ) ∧ v' 5 = v 5 ∧ frD v' v := by
  have hlo : LO v 46 μ := ⟨oLnd_46, hl, hs.1, hs.2.2.1⟩
  have l46 := oLnd_46
  have e := tX4_areaInAll (d := d + 6) (X := X) (w := RD w b p) (T := T) (c := c) (s := s) hlo
  refine ⟨up v (46 + 6) 0 (fo2 (areaG μ) 0 (μ 412 0).toNat), ?_, lr_accD (k := 0) hl hs.1.2.1 (by omega) (by omega), up_b (by omega), fun m m1 _ => up_b (by omega)⟩
  rw [bX10_readInto_66]
  simp (disch := first | assumption | omega) only [r10_0, g7_1, r4_5, a4_5, w4_5, n4_5, i3_add, i3_sub, i3_mul, i3_neg, i6_add, i6_sub, i6_mul, i6_neg, i3_lt, i3_le, i3_eq, i6_lt, i6_eq, i3_div, i6_div, i6_i3, i3_i6, c6_lt, c6_ge, c6_gt, c6_le, c6_eq, i3_ite, i6_ite, ib_0, ib_z, ite_not, i1_0, i0_0, jB_1, jB_0, jB_ib, bI_v, bL_v, bD_v, bV_v, ob_s, ob_i, i3_ofNat, jx_e, bI_e, bL_e, bD_e, bV_e, i3_eq0, i6_eq0, if_mx, if_mn, if_true, if_false, not_true_eq_false, not_false_eq_true, Int.reduceEq, Int.reduceLT, Int.reduceLE, e]
theorem tX10_series : ∀ (f j : Nat) (v w : Nat → Int → Int) (μ : Nat → Int → Int) (p : Nat), j + f = 6 → TB v b n → p ≤ n → lr v 46 μ → suM μ → T < 1000000000 →
    oC2 (jm_R (jm_env (d + 8)) jmM_X10_readInto 23 [some (.ref 6), some (.ref 46), some (.int (i3 j))] [] (qM X v (RD w b p) T c s)) X v T c s (srP b f μ p) := by
  intro f
  induction f with
  | zero =>
    intro j v w μ p hj h hp hl hs hT
    obtain ⟨v', e, r⟩ := tX10_end (d := d) (X := X) (w := w) (T := T) (c := c) (s := s) (b := b) (j := j) (p := p) hl hs
    refine oC2_r rfl ⟨v', RD w b p, ?_, r⟩
    rw [bX10_readInto_23]
    simp (disch := first | assumption | omega) only [i3_add, i3_sub, i3_mul, i3_neg, i6_add, i6_sub, i6_mul, i6_neg, i3_lt, i3_le, i3_eq, i6_lt, i6_eq, i3_div, i6_div, i6_i3, i3_i6, c6_lt, c6_ge, c6_gt, c6_le, c6_eq, i3_ite, i6_ite, ib_0, ib_z, ite_not, i1_0, i0_0, jB_1, jB_0, jB_ib, bI_v, bL_v, bD_v, bV_v, ob_s, ob_i, i3_ofNat, jx_e, bI_e, bL_e, bD_e, bV_e, i3_eq0, i6_eq0, if_mx, if_mn, if_true, if_false, not_true_eq_false, not_false_eq_true, Int.reduceEq, Int.reduceLT, Int.reduceLE, e]
    rw [if_pos (by omega)]
  | succ f ih =>
    intro j v w μ p hj h hp hl hs hT
    have ho := h.ok
    have b1 := (nx_b ho hp).2
    have hkb : 0 ≤ kd b p ∧ kd b p ≤ 3 := by rcases kd_c b p with ⟨q, -⟩ | ⟨q, -⟩ | ⟨q, -⟩ | ⟨q, -⟩ <;> omega
    have hj5 : (5 < (j : Int)) = False := eq_false (by omega)
    unfold srP
    by_cases q1 : kd b p = 0
    · obtain ⟨v', e, r⟩ := tX10_end (d := d) (X := X) (w := w) (T := T) (c := c) (s := s) (b := b) (j := j) (p := p) hl hs
      rw [if_pos q1]
      refine oC2_r rfl ⟨v', RD w b p, ?_, r⟩
      rw [bX10_readInto_23]
      simp (disch := first | assumption | omega) only [↓reduceIte, i3_add, i3_sub, i3_mul, i3_neg, i6_add, i6_sub, i6_mul, i6_neg, i3_lt, i3_le, i3_eq, i6_lt, i6_eq, i3_div, i6_div, i6_i3, i3_i6, c6_lt, c6_ge, c6_gt, c6_le, c6_eq, i3_ite, i6_ite, ib_0, ib_z, ite_not, i1_0, i0_0, jB_1, jB_0, jB_ib, bI_v, bL_v, bD_v, bV_v, ob_s, ob_i, i3_ofNat, jx_e, bI_e, bL_e, bD_e, bV_e, i3_eq0, i6_eq0, if_mx, if_mn, if_true, if_false, not_true_eq_false, not_false_eq_true, Int.reduceEq, Int.reduceLT, Int.reduceLE, hj5, bX10_readInto_28, r10_0, g7_1, RD_1, q1, e]
    · rw [if_neg q1]
      have q1' : (kd b p = 0) = False := eq_false q1
      by_cases q2 : isG b p 59
      · rw [if_pos q2]
        have e1 := tX7_takeSign_1 (d := d + 5) (X := X) (v := v) (w := w) (T := T) (c := c) (s := s) h hp (by omega) (by omega) q2
        have hz := tX10_readSeries (d := d + 1) (X := X) (v := v) (w := w) (T := T) (c := c) (s := s) h b1 hl hs hT
        rw [show d + 1 + 7 = d + 8 from rfl] at hz
        rcases e2 : seP b μ (nx b p) with x | u
        · obtain ⟨v', w', x1, x2⟩ := hz.1 x e2
          refine oC2_l (z := x.1) (q := x.2) rfl ⟨v', w', ?_, x2⟩
          rw [bX10_readInto_23]
          simp (disch := first | assumption | omega) only [↓reduceIte, i3_add, i3_sub, i3_mul, i3_neg, i6_add, i6_sub, i6_mul, i6_neg, i3_lt, i3_le, i3_eq, i6_lt, i6_eq, i3_div, i6_div, i6_i3, i3_i6, c6_lt, c6_ge, c6_gt, c6_le, c6_eq, i3_ite, i6_ite, ib_0, ib_z, ite_not, i1_0, i0_0, jB_1, jB_0, jB_ib, bI_v, bL_v, bD_v, bV_v, ob_s, ob_i, i3_ofNat, jx_e, bI_e, bL_e, bD_e, bV_e, i3_eq0, i6_eq0, if_mx, if_mn, if_true, if_false, not_true_eq_false, not_false_eq_true, Int.reduceEq, Int.reduceLT, Int.reduceLE, hj5, bX10_readInto_28, bX10_readInto_38, bX10_readInto_50, bX10_readInto_58, r10_0, g7_1, RD_1, q1', e1, x1]
        · obtain ⟨v', w', x1, x2, x3, x4⟩ := hz.2 u e2
          obtain ⟨s1, s2, -⟩ := seP_s ho b1 hs e2
          refine oC2_fr (v := v') ?_ x3 x4
          have hr := ih (j + 1) v' w' u.1 u.2 (by omega) (TB_fr h x4) s2 x2 s1 hT
          have head : jm_R (jm_env (d + 8)) jmM_X10_readInto 23 [some (.ref 6), some (.ref 46), some (.int (i3 j))] [] (qM X v (RD w b p) T c s) = jm_R (jm_env (d + 8)) jmM_X10_readInto 23 [some (.ref 6), some (.ref 46), some (.int (i3 (j + 1 : Nat)))] [] (qM X v' (RD w' b u.2) T c s) := by
            conv => lhs; rw [bX10_readInto_23]
            simp (disch := first | assumption | omega) only [↓reduceIte, i3_add, i3_sub, i3_mul, i3_neg, i6_add, i6_sub, i6_mul, i6_neg, i3_lt, i3_le, i3_eq, i6_lt, i6_eq, i3_div, i6_div, i6_i3, i3_i6, c6_lt, c6_ge, c6_gt, c6_le, c6_eq, i3_ite, i6_ite, ib_0, ib_z, ite_not, i1_0, i0_0, jB_1, jB_0, jB_ib, bI_v, bL_v, bD_v, bV_v, ob_s, ob_i, i3_ofNat, jx_e, bI_e, bL_e, bD_e, bV_e, i3_eq0, i6_eq0, if_mx, if_mn, if_true, if_false, not_true_eq_false, not_false_eq_true, Int.reduceEq, Int.reduceLT, Int.reduceLE, hj5, bX10_readInto_28, bX10_readInto_38, bX10_readInto_50, bX10_readInto_60, r10_0, g7_1, RD_1, q1', e1, x1]
            rfl
          rw [head]
          exact hr
      · rw [if_neg q2]
        have e1 := tX7_takeSign_0 (d := d + 5) (X := X) (v := v) (w := w) (T := T) (c := c) (s := s) h hp (by omega) (by omega) q2
        refine oC2_l rfl ⟨_, RD w b p, ?_, by rw [up_ne (by omega), up_eq], up_eq, frD_e⟩
        rw [bX10_readInto_23]
        simp (disch := first | assumption | omega) only [↓reduceIte, i3_add, i3_sub, i3_mul, i3_neg, i6_add, i6_sub, i6_mul, i6_neg, i3_lt, i3_le, i3_eq, i6_lt, i6_eq, i3_div, i6_div, i6_i3, i3_i6, c6_lt, c6_ge, c6_gt, c6_le, c6_eq, i3_ite, i6_ite, ib_0, ib_z, ite_not, i1_0, i0_0, jB_1, jB_0, jB_ib, bI_v, bL_v, bD_v, bV_v, ob_s, ob_i, i3_ofNat, jx_e, bI_e, bL_e, bD_e, bV_e, i3_eq0, i6_eq0, if_mx, if_mn, if_true, if_false, not_true_eq_false, not_false_eq_true, Int.reduceEq, Int.reduceLT, Int.reduceLE, hj5, bX10_readInto_28, bX10_readInto_38, bX10_readInto_58, r10_0, g7_1, RD_1, q1', e1]
/-- the draft begun anew -/
theorem tX4_begin : jm_env (d + 2) 42 [.ref 46] (qM X v w T c s) = some (.inl none, qM X (fil (up (up v 46 2 0) 48 3 0) 52 (fun _ => 0) 8) w T c s) := by
  have l46 := oLnd_46
  have p48 : oPri 48 := oPri_of l46
  have hl := ch_n (fun k : Nat => jm_R (jm_env (d + 1)) jmM_X4_begin 14 [some (.ref 46), some (.int (i3 k))] [] (qM X (fil (up (up v 46 2 0) 48 3 0) 52 (fun _ => 0) k) w T c s)) 8 (fun k hk => by
    show jm_R _ _ _ [_, some (.int (i3 k))] _ _ = jm_R _ _ _ _ _ _
    rw [bX4_begin_14]
    simp (disch := first | assumption | omega) only [p4_2, r4_4, r4_5, a4_5, w4_5, n4_5, i3_add, i3_sub, i3_mul, i3_neg, i6_add, i6_sub, i6_mul, i6_neg, i3_lt, i3_le, i3_eq, i6_lt, i6_eq, i3_div, i6_div, i6_i3, i3_i6, c6_lt, c6_ge, c6_gt, c6_le, c6_eq, i3_ite, i6_ite, ib_0, ib_z, ite_not, i1_0, i0_0, jB_1, jB_0, jB_ib, bI_v, bL_v, bD_v, bV_v, ob_s, ob_i, i3_ofNat, jx_e, bI_e, bL_e, bD_e, bV_e, i3_eq0, i6_eq0, if_mx, if_mn, if_true, if_false, not_true_eq_false, not_false_eq_true, Int.reduceEq, Int.reduceLT, Int.reduceLE, bX4_begin_20, fil_up]
    rw [if_neg (by omega)]
    rfl)
  rw [show ((0 : Nat) : Int) = 0 from rfl, fil_0] at hl
  have e2 : jm_env (d + 1) 61 [.ref (46 + 2)] (qM X (up v 46 2 0) w T c s) = some (.inl none, qM X (up (up v 46 2 0) 48 3 0) w T c s) := by
    simp (disch := first | assumption | omega) only [eX6_forget, bX6_forget_0, p6_3, i3_add, i3_sub, i3_mul, i3_neg, i6_add, i6_sub, i6_mul, i6_neg, i3_lt, i3_le, i3_eq, i6_lt, i6_eq, i3_div, i6_div, i6_i3, i3_i6, c6_lt, c6_ge, c6_gt, c6_le, c6_eq, i3_ite, i6_ite, ib_0, ib_z, ite_not, i1_0, i0_0, jB_1, jB_0, jB_ib, bI_v, bL_v, bD_v, bV_v, ob_s, ob_i, i3_ofNat, jx_e, bI_e, bL_e, bD_e, bV_e, i3_eq0, i6_eq0, if_mx, if_mn, if_true, if_false, not_true_eq_false, not_false_eq_true, Int.reduceEq, Int.reduceLT, Int.reduceLE]
  rw [eX4_begin (h := l46), bX4_begin_0]
  simp (disch := first | assumption | omega) only [p4_2, r4_4, r4_5, a4_5, w4_5, n4_5, i3_add, i3_sub, i3_mul, i3_neg, i6_add, i6_sub, i6_mul, i6_neg, i3_lt, i3_le, i3_eq, i6_lt, i6_eq, i3_div, i6_div, i6_i3, i3_i6, c6_lt, c6_ge, c6_gt, c6_le, c6_eq, i3_ite, i6_ite, ib_0, ib_z, ite_not, i1_0, i0_0, jB_1, jB_0, jB_ib, bI_v, bL_v, bD_v, bV_v, ob_s, ob_i, i3_ofNat, jx_e, bI_e, bL_e, bD_e, bV_e, i3_eq0, i6_eq0, if_mx, if_mn, if_true, if_false, not_true_eq_false, not_false_eq_true, Int.reduceEq, Int.reduceLT, Int.reduceLE, e2]
  refine hl.trans ?_
  show jm_R _ _ _ [_, some (.int (i3 8))] _ _ = _
  rw [bX4_begin_14]
  simp (disch := first | assumption | omega) only [i3_add, i3_sub, i3_mul, i3_neg, i6_add, i6_sub, i6_mul, i6_neg, i3_lt, i3_le, i3_eq, i6_lt, i6_eq, i3_div, i6_div, i6_i3, i3_i6, c6_lt, c6_ge, c6_gt, c6_le, c6_eq, i3_ite, i6_ite, ib_0, ib_z, ite_not, i1_0, i0_0, jB_1, jB_0, jB_ib, bI_v, bL_v, bD_v, bV_v, ob_s, ob_i, i3_ofNat, jx_e, bI_e, bL_e, bD_e, bV_e, i3_eq0, i6_eq0, if_mx, if_mn, if_true, if_false, not_true_eq_false, not_false_eq_true, Int.reduceEq, Int.reduceLT, Int.reduceLE, bX4_begin_33]
  rfl
/-- the numbers of a draft just begun, with edge and reams -/
theorem lr_beg {x y : Int} (h0 : ∀ k : Int, 0 ≤ k → k < 167 → μ 412 k = 0) (h : v 46 2 = 0 ∧ v 48 3 = 0 ∧ ∀ k : Int, 0 ≤ k → k < 8 → v 52 k = 0) (hx : v 46 0 = x) (hy : v 46 1 = y) : lr v 46 (up (up μ 412 1 x) 412 2 y) := by
  have e : ∀ k : Int, 0 ≤ k → k < 167 → k ≠ 1 → k ≠ 2 → up (up μ 412 1 x) 412 2 y 412 k = 0 := fun k k0 k1 k2 k3 => by
    rw [up_ne (by omega), up_ne (by omega)]
    exact h0 k k0 k1
  have e1 : up (up μ 412 1 x) 412 2 y 412 1 = x := by rw [up_ne (by omega), up_eq]
  have e2 : up (up μ 412 1 x) 412 2 y 412 2 = y := up_eq
  have e0 := e 0 (by omega) (by omega) (by omega) (by omega)
  have e3 := e 3 (by omega) (by omega) (by omega) (by omega)
  refine ⟨⟨by omega, by omega, by omega, ?_⟩, fun k k0 k1 => ?_, fun j j0 j1 => by omega, fun i hi => by omega⟩
  · show v 48 3 = _
    omega
  · rw [e _ (by omega) (by omega) (by omega) (by omega)]
    exact h.2.2 k k0 k1
/-- a setup read -/
theorem tX10_readInto (h : TB v b n) (h0 : ∀ k : Int, 0 ≤ k → k < 167 → μ 412 k = 0) (hT : T < 1000000000) :
    oC2 (jm_env (d + 9) 90 [.ref 6, .ref 46] (qM X v w T c s)) X (up (up v 5 5 0) 5 6 (-1)) T c s (suP b μ) := by
  have ho := h.ok
  have l46 := oLnd_46
  have b0 := (sk_s ho (Nat.zero_le n)).1.2
  have b1 := (nx_b ho b0).2
  have b2 := (nx_b ho b1).2
  have b3 := (nx_b ho b2).2
  have eb := tX7_begin (d := d + 5) (X := X) (w := w) (T := T) (c := c) (s := s) h
  have ed := tX4_begin (d := d + 6) (X := X) (v := up (up v 5 5 0) 5 6 (-1)) (w := RD w b (sk b 0)) (T := T) (c := c) (s := s)
  obtain ⟨u, hu⟩ : ∃ u, u = fil (up (up (up (up v 5 5 0) 5 6 (-1)) 46 2 0) 48 3 0) 52 (fun _ => 0) 8 := ⟨_, rfl⟩
  have hf : frD u (up (up v 5 5 0) 5 6 (-1)) := fun m m1 _ => by rw [hu, fil_b (by omega), up_b (by omega), up_b (by omega)]
  have h5 : u 5 = up (up v 5 5 0) 5 6 (-1) 5 := by rw [hu, fil_b (by omega), up_b (by omega), up_b (by omega)]
  have u1 : u 46 2 = 0 := by rw [hu, fil_b (by omega), up_b (by omega), up_eq]
  have u2 : u 48 3 = 0 := by rw [hu, fil_b (by omega), up_eq]
  have u3 : ∀ k : Int, 0 ≤ k → k < 8 → u 52 k = 0 := fun k k0 k1 => by rw [hu, fil_in k0 k1]
  have hb : TB u b n := TB_fr (TB_5 (TB_5 h)) hf
  rw [← hu] at ed
  refine oC2_fr ?_ h5 hf
  clear hf h5
  unfold suP
  have head : ∀ {z : Int} {v' w' : Nat → Int → Int}, jm_env (d + 8) 91 [.ref 6, .ref 46] (qM X u (RD w b (sk b 0)) T c s) = some (.inl (some (.int (i3 (0)))), qM X v' w' T c s) → jm_env (d + 9) 90 [.ref 6, .ref 46] (qM X v w T c s) = some (.inl (some (.int (i3 (0)))), qM X v' w' T c s) := fun e => by
    simp (disch := first | assumption | omega) only [eX10_readInto, bX10_readInto_0, bX10_readInto_19, r10_0, g7_1, r4_5, a4_5, w4_5, n4_5, i3_add, i3_sub, i3_mul, i3_neg, i6_add, i6_sub, i6_mul, i6_neg, i3_lt, i3_le, i3_eq, i6_lt, i6_eq, i3_div, i6_div, i6_i3, i3_i6, c6_lt, c6_ge, c6_gt, c6_le, c6_eq, i3_ite, i6_ite, ib_0, ib_z, ite_not, i1_0, i0_0, jB_1, jB_0, jB_ib, bI_v, bL_v, bD_v, bV_v, ob_s, ob_i, i3_ofNat, jx_e, bI_e, bL_e, bD_e, bV_e, i3_eq0, i6_eq0, if_mx, if_mn, if_true, if_false, not_true_eq_false, not_false_eq_true, Int.reduceEq, Int.reduceLT, Int.reduceLE, eb, ed, e]
  by_cases q1 : isW b (sk b 0) 394692
  · have q1' : isW b (sk b 0) (wNo 1) := by rw [wNo_1]; exact q1
    have e1 := tX7_isW_1 (d := d + 5) (X := X) (w := w) (c := c) (s := s) hb b0 hT (by omega) (by omega) q1'
    have ea := tX7_advance (d := d + 5) (X := X) (w := w) (T := T) (c := c) (s := s) hb b0
    rw [if_pos q1]
    by_cases q2 : isN b (nx b (sk b 0)) 0 50
    · rw [if_pos q2]
      have e2 := tX7_seesNo_1 (d := d + 5) (X := X) (v := u) (w := w) (T := T) (c := c) (s := s) hb b1 (by omega) (by omega) q2
      have e24 := RD_4 (w := w) ho b1 q2 (by omega)
      have hf2 : frD (up u 46 0 (nv b (nx b (sk b 0)))) u := fun m m1 _ => up_b (by omega)
      have hb2 := TB_fr hb hf2
      have ea2 := tX7_advance (d := d + 5) (X := X) (w := w) (T := T) (c := c) (s := s) hb2 b1
      by_cases q3 : isN b (nx b (nx b (sk b 0))) 1 500
      · rw [if_pos q3]
        have e3 := tX7_seesNo_1 (d := d + 5) (X := X) (v := up u 46 0 (nv b (nx b (sk b 0)))) (w := w) (T := T) (c := c) (s := s) hb2 b2 (by omega) (by omega) q3
        have e34 := RD_4 (w := w) ho b2 q3 (by omega)
        have hf3 : frD (up (up u 46 0 (nv b (nx b (sk b 0)))) 46 1 (nv b (nx b (nx b (sk b 0))))) u := fun m m1 _ => by rw [up_b (by omega), up_b (by omega)]
        have hb3 := TB_fr hb hf3
        have ea3 := tX7_advance (d := d + 5) (X := X) (w := w) (T := T) (c := c) (s := s) hb3 b2
        have hs := suM_0 h0 q2.2.1 q2.2.2 q3.2.1 q3.2.2
        have hl : lr (up (up u 46 0 (nv b (nx b (sk b 0)))) 46 1 (nv b (nx b (nx b (sk b 0))))) 46 (up (up μ 412 1 (nv b (nx b (sk b 0)))) 412 2 (nv b (nx b (nx b (sk b 0))))) := lr_beg h0 ⟨by rw [up_ne (by omega), up_ne (by omega)]; exact u1, by rw [up_b (by omega), up_b (by omega)]; exact u2, fun k k0 k1 => by rw [up_b (by omega), up_b (by omega)]; exact u3 k k0 k1⟩ (by rw [up_ne (by omega), up_eq]) up_eq
        have hr := tX10_series (d := d) (X := X) (T := T) (c := c) (s := s) 6 0 _ w _ _ rfl hb3 b3 hl hs hT
        refine oC2_fr (v := up (up u 46 0 (nv b (nx b (sk b 0)))) 46 1 (nv b (nx b (nx b (sk b 0))))) ?_ (by rw [up_b (by omega), up_b (by omega)]) hf3
        have e9 : jm_env (d + 8) 91 [.ref 6, .ref 46] (qM X u (RD w b (sk b 0)) T c s) = some (.inl (some (.int (i3 (1)))), qM X (up (up u 46 0 (nv b (nx b (sk b 0)))) 46 1 (nv b (nx b (nx b (sk b 0))))) (RD w b (nx b (nx b (nx b (sk b 0))))) T c s) := by
          simp (disch := first | assumption | omega) only [eX10_readHead, bX10_readHead_0, bX10_readHead_12, bX10_readHead_21, bX10_readHead_41, bX10_readHead_43, bX10_readHead_75, bX10_readHead_77, r10_0, g7_4, p4_0, p4_1, i3_add, i3_sub, i3_mul, i3_neg, i6_add, i6_sub, i6_mul, i6_neg, i3_lt, i3_le, i3_eq, i6_lt, i6_eq, i3_div, i6_div, i6_i3, i3_i6, c6_lt, c6_ge, c6_gt, c6_le, c6_eq, i3_ite, i6_ite, ib_0, ib_z, ite_not, i1_0, i0_0, jB_1, jB_0, jB_ib, bI_v, bL_v, bD_v, bV_v, ob_s, ob_i, i3_ofNat, jx_e, bI_e, bL_e, bD_e, bV_e, i3_eq0, i6_eq0, if_mx, if_mn, if_true, if_false, not_true_eq_false, not_false_eq_true, Int.reduceEq, Int.reduceLT, Int.reduceLE, show (1099511627777 : Nat) = 1099511627776 + 1 from rfl, e1, ea, e2, e24, ea2, e3, e34, ea3]
        have hh : jm_env (d + 9) 90 [.ref 6, .ref 46] (qM X v w T c s) = jm_R (jm_env (d + 8)) jmM_X10_readInto 23 [some (.ref 6), some (.ref 46), some (.int (i3 ((0 : Nat) : Int)))] [] (qM X (up (up u 46 0 (nv b (nx b (sk b 0)))) 46 1 (nv b (nx b (nx b (sk b 0))))) (RD w b (nx b (nx b (nx b (sk b 0))))) T c s) := by
          simp (disch := first | assumption | omega) only [eX10_readInto, bX10_readInto_0, bX10_readInto_21, r10_0, g7_1, r4_5, a4_5, w4_5, n4_5, i3_add, i3_sub, i3_mul, i3_neg, i6_add, i6_sub, i6_mul, i6_neg, i3_lt, i3_le, i3_eq, i6_lt, i6_eq, i3_div, i6_div, i6_i3, i3_i6, c6_lt, c6_ge, c6_gt, c6_le, c6_eq, i3_ite, i6_ite, ib_0, ib_z, ite_not, i1_0, i0_0, jB_1, jB_0, jB_ib, bI_v, bL_v, bD_v, bV_v, ob_s, ob_i, i3_ofNat, jx_e, bI_e, bL_e, bD_e, bV_e, i3_eq0, i6_eq0, if_mx, if_mn, if_true, if_false, not_true_eq_false, not_false_eq_true, Int.reduceEq, Int.reduceLT, Int.reduceLE, eb, ed, e9]
          rfl
        rw [hh]
        exact hr
      · rw [if_neg q3]
        have e3 := tX7_seesNo_0 (d := d + 5) (X := X) (v := up u 46 0 (nv b (nx b (sk b 0)))) (w := w) (T := T) (c := c) (s := s) hb2 b2 (by omega) (by omega) (by omega) q3
        refine oC2_fr (v := up u 46 0 (nv b (nx b (sk b 0)))) ?_ (up_b (by omega)) hf2
        refine oC2_l rfl ⟨_, RD w b (nx b (nx b (sk b 0))), head (z := 0) ?_, by rw [up_ne (by omega), up_eq], up_eq, frD_e⟩
        simp (disch := first | assumption | omega) only [eX10_readHead, bX10_readHead_0, bX10_readHead_12, bX10_readHead_21, bX10_readHead_41, bX10_readHead_43, bX10_readHead_75, bX10_readHead_77, r10_0, g7_4, p4_0, p4_1, i3_add, i3_sub, i3_mul, i3_neg, i6_add, i6_sub, i6_mul, i6_neg, i3_lt, i3_le, i3_eq, i6_lt, i6_eq, i3_div, i6_div, i6_i3, i3_i6, c6_lt, c6_ge, c6_gt, c6_le, c6_eq, i3_ite, i6_ite, ib_0, ib_z, ite_not, i1_0, i0_0, jB_1, jB_0, jB_ib, bI_v, bL_v, bD_v, bV_v, ob_s, ob_i, i3_ofNat, jx_e, bI_e, bL_e, bD_e, bV_e, i3_eq0, i6_eq0, if_mx, if_mn, if_true, if_false, not_true_eq_false, not_false_eq_true, Int.reduceEq, Int.reduceLT, Int.reduceLE, show (1099511627777 : Nat) = 1099511627776 + 1 from rfl, e1, ea, e2, e24, ea2, e3]
    · rw [if_neg q2]
      have e2 := tX7_seesNo_0 (d := d + 5) (X := X) (v := u) (w := w) (T := T) (c := c) (s := s) hb b1 (by omega) (by omega) (by omega) q2
      refine oC2_l rfl ⟨_, RD w b (nx b (sk b 0)), head (z := 0) ?_, by rw [up_ne (by omega), up_eq], up_eq, frD_e⟩
      simp (disch := first | assumption | omega) only [eX10_readHead, bX10_readHead_0, bX10_readHead_12, bX10_readHead_21, bX10_readHead_41, bX10_readHead_43, bX10_readHead_75, bX10_readHead_77, r10_0, g7_4, p4_0, p4_1, i3_add, i3_sub, i3_mul, i3_neg, i6_add, i6_sub, i6_mul, i6_neg, i3_lt, i3_le, i3_eq, i6_lt, i6_eq, i3_div, i6_div, i6_i3, i3_i6, c6_lt, c6_ge, c6_gt, c6_le, c6_eq, i3_ite, i6_ite, ib_0, ib_z, ite_not, i1_0, i0_0, jB_1, jB_0, jB_ib, bI_v, bL_v, bD_v, bV_v, ob_s, ob_i, i3_ofNat, jx_e, bI_e, bL_e, bD_e, bV_e, i3_eq0, i6_eq0, if_mx, if_mn, if_true, if_false, not_true_eq_false, not_false_eq_true, Int.reduceEq, Int.reduceLT, Int.reduceLE, show (1099511627777 : Nat) = 1099511627776 + 1 from rfl, e1, ea, e2]
  · have q1' : ¬ isW b (sk b 0) (wNo 1) := by rw [wNo_1]; exact q1
    have e1 := tX7_isW_0 (d := d + 5) (X := X) (w := w) (c := c) (s := s) hb b0 hT (by omega) (by omega) q1'
    have ef := tX7_fail (d := d + 6) (X := X) (v := u) (w := w) (T := T) (c := c) (s := s) (b := b) (p := sk b 0) (z := 1)
    rw [if_neg q1]
    refine oC2_l rfl ⟨_, RD w b (sk b 0), head (z := 0) ?_, by rw [up_ne (by omega), up_eq], up_eq, frD_e⟩
    simp (disch := first | assumption | omega) only [eX10_readHead, bX10_readHead_0, bX10_readHead_12, bX10_readHead_21, bX10_readHead_41, bX10_readHead_43, bX10_readHead_75, bX10_readHead_77, r10_0, g7_4, p4_0, p4_1, i3_add, i3_sub, i3_mul, i3_neg, i6_add, i6_sub, i6_mul, i6_neg, i3_lt, i3_le, i3_eq, i6_lt, i6_eq, i3_div, i6_div, i6_i3, i3_i6, c6_lt, c6_ge, c6_gt, c6_le, c6_eq, i3_ite, i6_ite, ib_0, ib_z, ite_not, i1_0, i0_0, jB_1, jB_0, jB_ib, bI_v, bL_v, bD_v, bV_v, ob_s, ob_i, i3_ofNat, jx_e, bI_e, bL_e, bD_e, bV_e, i3_eq0, i6_eq0, if_mx, if_mn, if_true, if_false, not_true_eq_false, not_false_eq_true, Int.reduceEq, Int.reduceLT, Int.reduceLE, show (1099511627777 : Nat) = 1099511627776 + 1 from rfl, e1, ef]
/-- the numbers of a setup that was read are right -/
theorem okM_ar {m : Int} (h : suM μ) (hm : 2 ≤ m) : okM (arU μ) m := by
  obtain ⟨hg, hr, hz, hs, h3⟩ := h
  have hb := areaG_b hg (μ 412 0).toNat (by have := hg.1; omega)
  have e3 := h3 3 (by omega) (by omega)
  unfold arU
  refine ⟨gM_up hg (Or.inl ⟨by omega, by omega⟩), by rw [up_ne (by omega)]; exact hr, zM_up hz hg.2.1 (by omega) (fun i i0 i1 => by omega), ⟨?_, ?_, fun k k0 k1 => ?_⟩, fun j j0 j1 => ?_, fun k k0 k1 => ?_, stZ_up' hs hg.1 (by omega) (by omega), ?_⟩
  · rw [up_ne (by omega), e3]; omega
  · rw [up_ne (by omega), e3]; omega
  · rw [up_ne (by omega), e3] at k1; omega
  · rw [up_ne (by omega), e3] at j1; omega
  · by_cases g : k = 0
    · rw [g, show (4 : Int) + 0 = 4 from rfl, up_eq]; omega
    · rw [up_ne (by omega), h3 _ (by omega) (by omega)]; omega
  · unfold csM
    rw [up_eq, up_ne (by omega), up_ne (by omega), up_ne (by omega), up_ne (by omega), h3 5 (by omega) (by omega), h3 6 (by omega) (by omega), h3 7 (by omega) (by omega), area_up (by have := hg.2.1; omega) (by omega)]
    omega
/-- the class behind a setup: all begun anew -/
def ldQ (v' v : Nat → Int → Int) (μ : Nat → Int → Int) : Prop := lr v' 14 μ ∧ v' 78 2 = 0 ∧ v' 78 1 = v 78 1 ∧ (∀ k : Int, 0 ≤ k → k < 6 → v' 338 k = 0) ∧ (∀ k : Int, 0 ≤ k → k < 2 → v' 337 k = 0)
/-- what a setup leaves as it was -/
def frE (v' v : Nat → Int → Int) : Prop := ∀ m : Nat, m ≠ 1 → m ≠ 5 → (m < 14 ∨ 79 ≤ m) → m ≠ 337 → m ≠ 338 → v' m = v m
theorem tX11_forgetAll : jm_env (d + 1) 101 [.ref 0] (qM X v w T c s) = some (.inl none, qM X (fil (fil v 337 (fun _ => 0) 2) 338 (fun _ => 0) 6) w T c s) := by
  have h1 := ch_n (fun k : Nat => jm_R (jm_env d) jmM_X11_forgetSlotsAndRefusals 2 [some (.ref 0), some (.int (i3 k))] [] (qM X (fil v 337 (fun _ => 0) k) w T c s)) 2 (fun k hk => by
    show jm_R _ _ _ [_, some (.int (i3 k))] _ _ = jm_R _ _ _ _ _ _
    rw [bX11_forgetSlotsAndRefusals_2]
    simp (disch := first | assumption | omega) only [r11_9, a11_9, w11_9, n11_9, r11_10, a11_10, w11_10, n11_10, i3_add, i3_sub, i3_mul, i3_neg, i6_add, i6_sub, i6_mul, i6_neg, i3_lt, i3_le, i3_eq, i6_lt, i6_eq, i3_div, i6_div, i6_i3, i3_i6, c6_lt, c6_ge, c6_gt, c6_le, c6_eq, i3_ite, i6_ite, ib_0, ib_z, ite_not, i1_0, i0_0, jB_1, jB_0, jB_ib, bI_v, bL_v, bD_v, bV_v, ob_s, ob_i, i3_ofNat, jx_e, bI_e, bL_e, bD_e, bV_e, i3_eq0, i6_eq0, if_mx, if_mn, if_true, if_false, not_true_eq_false, not_false_eq_true, Int.reduceEq, Int.reduceLT, Int.reduceLE, bX11_forgetSlotsAndRefusals_7, fil_up]
    rw [if_neg (by omega)]
    rfl)
  have h2 := ch_n (fun k : Nat => jm_R (jm_env d) jmM_X11_forgetSlotsAndRefusals 22 [some (.ref 0), some (.int (i3 k))] [] (qM X (fil (fil v 337 (fun _ => 0) 2) 338 (fun _ => 0) k) w T c s)) 6 (fun k hk => by
    show jm_R _ _ _ [_, some (.int (i3 k))] _ _ = jm_R _ _ _ _ _ _
    rw [bX11_forgetSlotsAndRefusals_22]
    simp (disch := first | assumption | omega) only [r11_9, a11_9, w11_9, n11_9, r11_10, a11_10, w11_10, n11_10, i3_add, i3_sub, i3_mul, i3_neg, i6_add, i6_sub, i6_mul, i6_neg, i3_lt, i3_le, i3_eq, i6_lt, i6_eq, i3_div, i6_div, i6_i3, i3_i6, c6_lt, c6_ge, c6_gt, c6_le, c6_eq, i3_ite, i6_ite, ib_0, ib_z, ite_not, i1_0, i0_0, jB_1, jB_0, jB_ib, bI_v, bL_v, bD_v, bV_v, ob_s, ob_i, i3_ofNat, jx_e, bI_e, bL_e, bD_e, bV_e, i3_eq0, i6_eq0, if_mx, if_mn, if_true, if_false, not_true_eq_false, not_false_eq_true, Int.reduceEq, Int.reduceLT, Int.reduceLE, bX11_forgetSlotsAndRefusals_28, fil_up]
    rw [if_neg (by omega)]
    rfl)
  rw [show ((0 : Nat) : Int) = 0 from rfl, fil_0] at h1 h2
  rw [eX11_forgetSlotsAndRefusals, bX11_forgetSlotsAndRefusals_0]
  refine h1.trans ?_
  show jm_R _ _ _ [_, some (.int (i3 2))] _ _ = _
  rw [bX11_forgetSlotsAndRefusals_2]
  simp (disch := first | assumption | omega) only [i3_add, i3_sub, i3_mul, i3_neg, i6_add, i6_sub, i6_mul, i6_neg, i3_lt, i3_le, i3_eq, i6_lt, i6_eq, i3_div, i6_div, i6_i3, i3_i6, c6_lt, c6_ge, c6_gt, c6_le, c6_eq, i3_ite, i6_ite, ib_0, ib_z, ite_not, i1_0, i0_0, jB_1, jB_0, jB_ib, bI_v, bL_v, bD_v, bV_v, ob_s, ob_i, i3_ofNat, jx_e, bI_e, bL_e, bD_e, bV_e, i3_eq0, i6_eq0, if_mx, if_mn, if_true, if_false, not_true_eq_false, not_false_eq_true, Int.reduceEq, Int.reduceLT, Int.reduceLE, bX11_forgetSlotsAndRefusals_20]
  refine h2.trans ?_
  show jm_R _ _ _ [_, some (.int (i3 6))] _ _ = _
  rw [bX11_forgetSlotsAndRefusals_22]
  simp (disch := first | assumption | omega) only [i3_add, i3_sub, i3_mul, i3_neg, i6_add, i6_sub, i6_mul, i6_neg, i3_lt, i3_le, i3_eq, i6_lt, i6_eq, i3_div, i6_div, i6_i3, i3_i6, c6_lt, c6_ge, c6_gt, c6_le, c6_eq, i3_ite, i6_ite, ib_0, ib_z, ite_not, i1_0, i0_0, jB_1, jB_0, jB_ib, bI_v, bL_v, bD_v, bV_v, ob_s, ob_i, i3_ofNat, jx_e, bI_e, bL_e, bD_e, bV_e, i3_eq0, i6_eq0, if_mx, if_mn, if_true, if_false, not_true_eq_false, not_false_eq_true, Int.reduceEq, Int.reduceLT, Int.reduceLE, bX11_forgetSlotsAndRefusals_41]
  rfl
theorem tX11_readSetup (h : TB v b n) (h0 : ∀ k : Int, 0 ≤ k → k < 167 → μ 412 k = 0) (hT : T < 1000000000) :
    (∀ e, suP b μ = .inl e → ∃ v' w', jm_env (d + 10) 100 [.ref 0] (qM X v w T c s) = some (.inl (some (.int (i3 (0)))), qM X v' w' T c s) ∧ v' 5 5 = e.1 ∧ v' 5 6 = e.2 ∧ v' 1 1 = 0 ∧ frD v' (up v 1 1 0)) ∧
    (∀ u, suP b μ = .inr u → ∃ v' w', jm_env (d + 10) 100 [.ref 0] (qM X v w T c s) = some (.inl (some (.int (i3 (1)))), qM X v' w' T c s) ∧ v' 5 5 = 0 ∧ v' 5 6 = -1 ∧ v' 1 1 = 0 ∧ ldQ v' v (arU u.1) ∧ frE v' v) := by
  have o1 := oByt_1
  obtain ⟨hi, hj⟩ := tX10_readInto (d := d) (X := X) (w := w) (T := T) (c := c) (s := s) h h0 hT
  refine ⟨fun e he => ?_, fun u hu => ?_⟩
  · obtain ⟨v', w', x1, x2, x3, x4⟩ := hi e he
    refine ⟨up v' 1 1 0, w', ?_, by rw [up_ne (by omega)]; exact x2, by rw [up_ne (by omega)]; exact x3, up_eq, fun m m1 m2 => ?_⟩
    · simp (disch := first | assumption | omega) only [eX11_readSetup, bX11_readSetup_0, bX11_readSetup_24, bX11_readSetup_46, r11_3, r11_6, r11_0, r11_5, r11_7, i3_add, i3_sub, i3_mul, i3_neg, i6_add, i6_sub, i6_mul, i6_neg, i3_lt, i3_le, i3_eq, i6_lt, i6_eq, i3_div, i6_div, i6_i3, i3_i6, c6_lt, c6_ge, c6_gt, c6_le, c6_eq, i3_ite, i6_ite, ib_0, ib_z, ite_not, i1_0, i0_0, jB_1, jB_0, jB_ib, bI_v, bL_v, bD_v, bV_v, ob_s, ob_i, i3_ofNat, jx_e, bI_e, bL_e, bD_e, bV_e, i3_eq0, i6_eq0, if_mx, if_mn, if_true, if_false, not_true_eq_false, not_false_eq_true, Int.reduceEq, Int.reduceLT, Int.reduceLE, x1, sX0_shorten]
    · by_cases g : m = 1
      · funext k
        rw [g]
        by_cases g2 : k = 1
        · rw [g2, up_eq, up_eq]
        · rw [up_ne (by omega), up_ne (by omega), x4 1 (by omega) (by omega), up_ne (by omega), up_ne (by omega)]
      · rw [up_b g, up_b g, x4 m m1 m2, up_b m2, up_b m2]
  · obtain ⟨v', w', x1, x2, x3, x4⟩ := hj u hu
    obtain ⟨hs, -⟩ := suP_s h.ok h0 hu
    have hok := okM_ar (m := 2) hs (Int.le_refl _)
    have e2 : up v' 1 1 0 46 2 = arU u.1 412 0 := by rw [up_ne (by omega)]; exact x2.1.2.2.1
    obtain ⟨v2, y1, y2, y3⟩ := tX4_copyFrom (d := d + 7) (X := X) (v := up v' 1 1 0) (w := w') (T := T) (c := c) (s := s) oLnd_14 oLnd_46 (by omega) (by rw [e2]; exact hok.1.1) (by rw [e2]; exact hok.1.2.1)
    have ef := tX11_forgetAll (d := d + 8) (X := X) (v := up v2 78 2 0) (w := w') (T := T) (c := c) (s := s)
    have hl2 : lr v2 14 (arU u.1) := lr_cp y2 (lr_fr (fun m m0 m1 => up_b (by omega)) hok.1.2.1 x2) hok.2.2.2.1.2.1
    have eo : ∀ m : Nat, m ≠ 78 → m ≠ 337 → m ≠ 338 → fil (fil (up v2 78 2 0) 337 (fun _ => 0) 2) 338 (fun _ => 0) 6 m = v2 m := fun m m1 m2 m3 => by rw [fil_b m3, fil_b m2, up_b m1]
    have e78 : fil (fil (up v2 78 2 0) 337 (fun _ => 0) 2) 338 (fun _ => 0) 6 78 = up v2 78 2 0 78 := by rw [fil_b (by omega), fil_b (by omega)]
    have w5 : v2 5 = up (up v 5 5 0) 5 6 (-1) 5 := by rw [y3 5 (by omega), up_b (by omega), x3]
    refine ⟨_, w', ?_, ?_, ?_, ?_, ⟨lr_fr (fun m m0 m1 => eo m (by omega) (by omega) (by omega)) hok.1.2.1 hl2, ?_, ?_, fun k k0 k1 => fil_in k0 k1, fun k k0 k1 => ?_⟩, fun m m1 m2 m3 m4 m5 => ?_⟩
    · simp (disch := first | assumption | omega) only [eX11_readSetup, bX11_readSetup_0, bX11_readSetup_24, bX11_readSetup_46, r11_3, r11_6, r11_0, r11_5, r11_7, i3_add, i3_sub, i3_mul, i3_neg, i6_add, i6_sub, i6_mul, i6_neg, i3_lt, i3_le, i3_eq, i6_lt, i6_eq, i3_div, i6_div, i6_i3, i3_i6, c6_lt, c6_ge, c6_gt, c6_le, c6_eq, i3_ite, i6_ite, ib_0, ib_z, ite_not, i1_0, i0_0, jB_1, jB_0, jB_ib, bI_v, bL_v, bD_v, bV_v, ob_s, ob_i, i3_ofNat, jx_e, bI_e, bL_e, bD_e, bV_e, i3_eq0, i6_eq0, if_mx, if_mn, if_true, if_false, not_true_eq_false, not_false_eq_true, Int.reduceEq, Int.reduceLT, Int.reduceLE, x1, sX0_shorten, y1, eX3_forget, bX3_forget_0, p3_2, i3_add, i3_sub, i3_mul, i3_neg, i6_add, i6_sub, i6_mul, i6_neg, i3_lt, i3_le, i3_eq, i6_lt, i6_eq, i3_div, i6_div, i6_i3, i3_i6, c6_lt, c6_ge, c6_gt, c6_le, c6_eq, i3_ite, i6_ite, ib_0, ib_z, ite_not, i1_0, i0_0, jB_1, jB_0, jB_ib, bI_v, bL_v, bD_v, bV_v, ob_s, ob_i, i3_ofNat, jx_e, bI_e, bL_e, bD_e, bV_e, i3_eq0, i6_eq0, if_mx, if_mn, if_true, if_false, not_true_eq_false, not_false_eq_true, Int.reduceEq, Int.reduceLT, Int.reduceLE, ef]
    · rw [eo 5 (by omega) (by omega) (by omega), w5, up_ne (by omega), up_eq]
    · rw [eo 5 (by omega) (by omega) (by omega), w5, up_eq]
    · rw [eo 1 (by omega) (by omega) (by omega), y3 1 (by omega), up_eq]
    · rw [e78, up_eq]
    · rw [e78, up_ne (by omega), y3 78 (by omega), up_b (by omega), x4 78 (by omega) (by omega), up_b (by omega), up_b (by omega)]
    · rw [fil_b (by omega), fil_in k0 k1]
    · rw [eo m (by omega) m4 m5, y3 m (by omega), up_b m1, x4 m (by omega) m2, up_b m2, up_b m2]
end SRS
