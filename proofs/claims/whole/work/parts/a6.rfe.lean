-- uses 24.zar 25.obj 26.ops 30.rd 31.re 32.rf 34.gen 35.byt 38.mod 39.mo2 40.mo3 41.bit 43.mo5 44.mo6 46.mo8 51.moe 53.cla 55.clc 62.clj 64.okm 74.cls 93.tka 97.srp a1.srs a2.rfa a3.rfb a4.rfc a5.rfd
/-! The reference: a setup, load. -/
theorem cmV_nm {v : Nat → Int → Int} {x a b : Int} (h : nmOk v) (c0 : 0 ≤ v 412 0) (x0 : 0 ≤ x) (x1 : x < 2147483648) : nmOk (cmV v x a b) := by
  intro k k0 k1
  rw [cm_0 c0] at k1
  by_cases g : k = v 412 0
  · rw [g, cm_x c0]; exact ⟨x0, x1⟩
  · rw [cm_o (by omega) (by omega)]
    exact h k k0 (by omega)
theorem szP_nm {b : Int → Int} {i : Int} (i0 : 0 ≤ i) : ∀ (f : Nat) (μ : Nat → Int → Int) (to : Int → Int) (p : Nat), μ 412 0 ≤ 5 → i < 5 → nmOk μ → ∀ (μ' : Nat → Int → Int) (p' : Nat), szP b i f μ to p = .inr (μ', p') → nmOk μ' := by
  intro f
  induction f with
  | zero =>
    intro μ to p hc i1 hs μ' p' h
    obtain ⟨rfl, rfl⟩ := Prod.mk.inj (Sum.inr.inj h)
    exact hs
  | succ f ih =>
    intro μ to p hc i1 hs μ' p' h
    unfold szP at h
    split at h
    · split at h
      · next q2 =>
        split at h
        · exact absurd h (by simp)
        · split at h
          · have n0 := q2.2.1
            have n1 := q2.2.2
            refine ih _ _ _ (by rw [up_ne (by omega)]; exact hc) i1 (fun k k0 k1 => ?_) μ' p' h
            rw [up_ne (by omega)] at k1
            rw [up_ne (by omega)]
            exact hs k k0 k1
          · exact absurd h (by simp)
      · exact absurd h (by simp)
    · obtain ⟨rfl, rfl⟩ := Prod.mk.inj (Sum.inr.inj h)
      exact hs
theorem seP_nm {b : Int → Int} {n : Nat} (ho : okB b n) {μ : Nat → Int → Int} {p : Nat} (hp : p ≤ n) (hs : suM μ) (hn : nmOk μ) {μ' : Nat → Int → Int} {p' : Nat} (h : seP b μ p = .inr (μ', p')) : nmOk μ' := by
  have b1 := (nx_b ho hp).2
  have c0 := hs.1.1
  unfold seP at h
  split at h
  · split at h
    · exact absurd h (by simp)
    · split at h
      · next q3 =>
        split at h
        · exact absurd h (by simp)
        · split at h
          · split at h
            · obtain ⟨w0, w1⟩ := wd_6 ho b1 q3
              exact szP_nm c0 11 _ _ _ (by rw [cm_0 c0]; omega) (by omega) (cmV_nm hn c0 w0 (by omega)) μ' p' h
            · exact absurd h (by simp)
          · exact absurd h (by simp)
      · exact absurd h (by simp)
  · exact absurd h (by simp)
section RFE
variable {d : Nat} {X : Nat × (Nat → Int32)} {v w : Nat → Int → Int} {T c s : Nat}
variable {b : Int → Int} {n : Nat}
/-- a setup that failed already -/
theorem sX12_su45 {cd : Int} {q : Nat} (hT : 18 ≤ T) (h : BD w b n cd q) : jm_R (jm_env (d + 9)) jmM_X12_setup 45 [some (.ref 411)] [] (qM X v w T c s) = some (.inl none, (qM X v w T c s)) := by
  obtain ⟨h22, c1, c4⟩ := BD_b h
  obtain ⟨⟨p, h1, h2, h3, h4, h5, h6, h7, h8⟩, -⟩ := id h
  have htk := tkM_b b p
  have e1 := sX12_isSign_bad (d := d + 8) (X := X) (v := v) (T := T) (c := c) (s := s) (z := 59) hT h
  have e2 := fun (x : Int) (hx : x = 0 ∨ x = 1) => sX12_must_bad (d := d + 8) (X := X) (v := v) (T := T) (c := c) (s := s) (z := 1) hT h22 c1 c4 hx
  rw [bX12_setup_45]
  simp (disch := first | assumption | omega) only [i3_add, i3_sub, i3_mul, i3_neg, i6_add, i6_sub, i6_mul, i6_neg, i3_lt, i3_le, i3_eq, i6_lt, i6_eq, i3_div, i6_div, i6_i3, i3_i6, c6_lt, c6_ge, c6_gt, c6_le, c6_eq, i3_ite, i6_ite, ib_0, ib_z, ite_not, i1_0, i0_0, jB_1, jB_0, jB_ib, bI_v, bL_v, bD_v, bV_v, ob_s, ob_i, i3_ofNat, jx_e, bI_e, bL_e, bD_e, bV_e, i3_eq0, i6_eq0, if_mx, if_mn, if_true, if_false, not_true_eq_false, not_false_eq_true, Int.reduceEq, Int.reduceLT, Int.reduceLE, e1, bX12_setup_84, g12_20, h5, bX12_setup_92, bX12_setup_96, bX12_setup_97, e2 0 (Or.inl rfl), e2 1 (Or.inr rfl)]
  split <;> rfl
theorem sX12_series : ∀ (f : Nat) (v w : Nat → Int → Int) (T c s p : Nat), 20 ≤ T → T + f < 900000 → GD w b n p → suM v → nmOk v → v 412 0 + f = 6 →
    oS (jm_R (jm_env (d + 9)) jmM_X12_setup 45 [some (.ref 411)] [] (qM X v w T c s)) X v w T c s b n f (srP b f v p) := by
  intro f
  induction f with
  | zero =>
    intro v w T c s p hT hT2 h hs hnm hc
    have := hs.1.2.1
    omega
  | succ f ih =>
    intro v w T c s p hT hT2 h hs hnm hc
    have hT' : 18 ≤ T := by omega
    obtain ⟨⟨hx1, hp, h3, h4, h5, h6, h7, h8⟩, h22⟩ := id h
    have ho := hx1.1
    have b1 := (nx_b ho hp).2
    have htk := tkM_b b p
    have e1 := sX12_isSign (d := d + 8) (X := X) (v := v) (T := T) (c := c) (s := s) (z := 59) hT' h (Or.inl rfl)
    unfold srP
    by_cases q1 : kd b p = 0
    · rw [if_pos q1]
      rw [if_neg (fun q => by have := q.1; omega)] at e1
      have q0 : (tkM b p = 0) = True := eq_true (tkM_e.2.2.mpr q1)
      have e2 := sX12_must_1 (d := d + 8) (X := X) (v := v) (T := T) (c := c) (s := s) (z := 1) hT' h22
      refine ⟨fun e he => (by cases he), fun u hu => ?_⟩
      cases hu
      refine ⟨w, 0, ?_, h, fun _ _ => rfl, Nat.zero_le _, fun _ _ _ _ => rfl⟩
      rw [bX12_setup_45]
      simp (disch := first | assumption | omega) only [↓reduceIte, i3_add, i3_sub, i3_mul, i3_neg, i6_add, i6_sub, i6_mul, i6_neg, i3_lt, i3_le, i3_eq, i6_lt, i6_eq, i3_div, i6_div, i6_i3, i3_i6, c6_lt, c6_ge, c6_gt, c6_le, c6_eq, i3_ite, i6_ite, ib_0, ib_z, ite_not, i1_0, i0_0, jB_1, jB_0, jB_ib, bI_v, bL_v, bD_v, bV_v, ob_s, ob_i, i3_ofNat, jx_e, bI_e, bL_e, bD_e, bV_e, i3_eq0, i6_eq0, if_mx, if_mn, if_true, if_false, not_true_eq_false, not_false_eq_true, Int.reduceEq, Int.reduceLT, Int.reduceLE, e1, bX12_setup_84, g12_20, h5, q0, bX12_setup_92, bX12_setup_97, e2]
      rfl
    · rw [if_neg q1]
      by_cases q2 : isG b p 59
      · rw [if_pos q2]
        rw [if_pos q2] at e1
        obtain ⟨w1, e2, hg, hf1⟩ := sX12_goesOn_1 (d := d + 5) (X := X) (v := v) (T := T) (c := c) (s := s) hT' h
        have e3 := sX12_isWord (d := d + 8) (X := X) (v := v) (T := T) (c := c) (s := s) (W := 643376307) hT' hg (by omega) (by omega)
        by_cases q3 : isW b (nx b p) 643376307
        · rw [if_pos q3] at e3
          have e4 := sX12_must_1 (d := d + 8) (X := X) (v := v) (T := T) (c := c) (s := s) (z := 1) hT' hg.2
          have e5 := sX12_isGood_1 (d := d + 8) (X := X) (v := v) (T := T) (c := c) (s := s) hT' hg.2
          obtain ⟨r1, r2⟩ := sX12_seriesText (d := d + 1) (X := X) (v := v) (w := w1) (T := T) (c := c) (s := s) hT (by omega) hg hs hnm q3
          rcases e6 : seP b v (nx b p) with x | u
          · obtain ⟨v', w', k, y1, y2, y3, y4, y5⟩ := r1 x e6
            have e7 := sX12_su45 (d := d) (X := X) (v := v') (T := T + k) (c := c + k) (s := s + 10 * k) (by omega) y2
            refine ⟨fun e he => ?_, fun u hu => (by cases hu)⟩
            cases he
            refine ⟨v', w', k, ?_, y2, y3, by omega, fun m j m1 m2 => (y5 m j m1 m2).trans (hf1.s m j m2)⟩
            rw [bX12_setup_45]
            simp (disch := first | assumption | omega) only [↓reduceIte, i3_add, i3_sub, i3_mul, i3_neg, i6_add, i6_sub, i6_mul, i6_neg, i3_lt, i3_le, i3_eq, i6_lt, i6_eq, i3_div, i6_div, i6_i3, i3_i6, c6_lt, c6_ge, c6_gt, c6_le, c6_eq, i3_ite, i6_ite, ib_0, ib_z, ite_not, i1_0, i0_0, jB_1, jB_0, jB_ib, bI_v, bL_v, bD_v, bV_v, ob_s, ob_i, i3_ofNat, jx_e, bI_e, bL_e, bD_e, bV_e, i3_eq0, i6_eq0, if_mx, if_mn, if_true, if_false, not_true_eq_false, not_false_eq_true, Int.reduceEq, Int.reduceLT, Int.reduceLE, e1, bX12_setup_54, e2, e3, e4, e5, bX12_setup_77, y1, e7]
          · obtain ⟨w', k, y1, y2, y3, y4, y5⟩ := r2 u e6
            obtain ⟨s1, s2, s3⟩ := seP_s ho b1 hs e6
            have s4 := seP_nm ho b1 hs hnm e6
            obtain ⟨z1, z2⟩ := ih u.1 w' (T + k) (c + k) (s + 10 * k) u.2 (by omega) (by omega) y2 s1 s4 (by omega)
            have hh : jm_R (jm_env (d + 9)) jmM_X12_setup 45 [some (.ref 411)] [] (qM X v w T c s) = jm_R (jm_env (d + 9)) jmM_X12_setup 45 [some (.ref 411)] [] (qM X u.1 w' (T + k) (c + k) (s + 10 * k)) := by
              conv => lhs; rw [bX12_setup_45]
              simp (disch := first | assumption | omega) only [↓reduceIte, i3_add, i3_sub, i3_mul, i3_neg, i6_add, i6_sub, i6_mul, i6_neg, i3_lt, i3_le, i3_eq, i6_lt, i6_eq, i3_div, i6_div, i6_i3, i3_i6, c6_lt, c6_ge, c6_gt, c6_le, c6_eq, i3_ite, i6_ite, ib_0, ib_z, ite_not, i1_0, i0_0, jB_1, jB_0, jB_ib, bI_v, bL_v, bD_v, bV_v, ob_s, ob_i, i3_ofNat, jx_e, bI_e, bL_e, bD_e, bV_e, i3_eq0, i6_eq0, if_mx, if_mn, if_true, if_false, not_true_eq_false, not_false_eq_true, Int.reduceEq, Int.reduceLT, Int.reduceLE, e1, bX12_setup_54, e2, e3, e4, e5, bX12_setup_77, y1]
            rw [hh]
            refine ⟨fun e he => ?_, fun t ht => ?_⟩
            · obtain ⟨v'', w'', k', x1, x2, x3, x4, x5⟩ := z1 e he
              refine ⟨v'', w'', k + k', ?_, x2, fun m hm => (x3 m hm).trans (y3 m hm), by omega, fun m j m1 m2 => (x5 m j (by omega) m2).trans ((y5 m j m1 m2).trans (hf1.s m j m2))⟩
              rw [x1, show T + k + k' = T + (k + k') by omega, show c + k + k' = c + (k + k') by omega, show s + 10 * k + 10 * k' = s + 10 * (k + k') by omega]
            · obtain ⟨w'', k', x1, x2, x3, x4, x5⟩ := z2 t ht
              refine ⟨w'', k + k', ?_, x2, fun m hm => (x3 m hm).trans (y3 m hm), by omega, fun m j m1 m2 => (x5 m j (by omega) m2).trans ((y5 m j m1 m2).trans (hf1.s m j m2))⟩
              rw [x1, show T + k + k' = T + (k + k') by omega, show c + k + k' = c + (k + k') by omega, show s + 10 * k + 10 * k' = s + 10 * (k + k') by omega]
        · rw [if_neg q3] at e3
          have hse : seP b v (nx b p) = .inl (1, nx b p) := by unfold seP; rw [if_neg q3]
          rw [hse]
          obtain ⟨hb, hf⟩ := BD_mk (z := 1) hg.1 (by omega) (by omega)
          have e4 := sX12_must_0 (d := d + 8) (X := X) (v := v) (T := T) (c := c) (s := s) (z := 1) hT' hg.2 hg.1
          have e5 := sX12_isGood_0 (d := d + 8) (X := X) (v := v) (T := T) (c := c) (s := s) hT' hb
          have e7 := sX12_su45 (d := d) (X := X) (v := v) (T := T) (c := c) (s := s) hT' hb
          refine oS_l rfl ⟨_, ?_, hb, frS_tr hf.s hf1.s⟩
          rw [bX12_setup_45]
          simp (disch := first | assumption | omega) only [↓reduceIte, i3_add, i3_sub, i3_mul, i3_neg, i6_add, i6_sub, i6_mul, i6_neg, i3_lt, i3_le, i3_eq, i6_lt, i6_eq, i3_div, i6_div, i6_i3, i3_i6, c6_lt, c6_ge, c6_gt, c6_le, c6_eq, i3_ite, i6_ite, ib_0, ib_z, ite_not, i1_0, i0_0, jB_1, jB_0, jB_ib, bI_v, bL_v, bD_v, bV_v, ob_s, ob_i, i3_ofNat, jx_e, bI_e, bL_e, bD_e, bV_e, i3_eq0, i6_eq0, if_mx, if_mn, if_true, if_false, not_true_eq_false, not_false_eq_true, Int.reduceEq, Int.reduceLT, Int.reduceLE, e1, bX12_setup_54, e2, e3, e4, e5, e7]
      · rw [if_neg q2]
        rw [if_neg q2] at e1
        obtain ⟨hb, hf⟩ := BD_mk (z := 1) h.1 (by omega) (by omega)
        have q0 : (tkM b p = 0) = False := eq_false (fun q => q1 (tkM_e.2.2.mp q))
        have e2 := sX12_must_0 (d := d + 8) (X := X) (v := v) (T := T) (c := c) (s := s) (z := 1) hT' h22 h.1
        refine oS_l rfl ⟨_, ?_, hb, hf.s⟩
        rw [bX12_setup_45]
        simp (disch := first | assumption | omega) only [↓reduceIte, i3_add, i3_sub, i3_mul, i3_neg, i6_add, i6_sub, i6_mul, i6_neg, i3_lt, i3_le, i3_eq, i6_lt, i6_eq, i3_div, i6_div, i6_i3, i3_i6, c6_lt, c6_ge, c6_gt, c6_le, c6_eq, i3_ite, i6_ite, ib_0, ib_z, ite_not, i1_0, i0_0, jB_1, jB_0, jB_ib, bI_v, bL_v, bD_v, bV_v, ob_s, ob_i, i3_ofNat, jx_e, bI_e, bL_e, bD_e, bV_e, i3_eq0, i6_eq0, if_mx, if_mn, if_true, if_false, not_true_eq_false, not_false_eq_true, Int.reduceEq, Int.reduceLT, Int.reduceLE, e1, bX12_setup_84, g12_20, h5, q0, bX12_setup_96, bX12_setup_97, e2]
theorem sX12_setup (hT : 20 ≤ T) (hT2 : T < 800000) (h : GD w b n (sk b 0)) (h0 : ∀ k : Int, 0 ≤ k → k < 167 → v 412 k = 0) : oS (jm_env (d + 10) 258 [.ref 411] (qM X v w T c s)) X v w T c s b n 6 (suP b v) := by
  have hT' : 18 ≤ T := by omega
  obtain ⟨⟨hx1, hp, -⟩, h22⟩ := id h
  have ho := hx1.1
  have b1 := (nx_b ho hp).2
  have b2 := (nx_b ho b1).2
  have e1 := sX12_isWord (d := d + 8) (X := X) (v := v) (T := T) (c := c) (s := s) (W := 394692) hT' h (by omega) (by omega)
  have fin : ∀ {z : Int} {q : Nat} {w' : Nat → Int → Int} {x y : Int} {r : pR}, r = .inl (z, q) → jm_env (d + 10) 258 [.ref 411] (qM X v w T c s) = jm_R (jm_env (d + 9)) jmM_X12_setup 45 [some (.ref 411)] [] (qM X (up (up v 412 1 x) 412 2 y) w' T c s) → BD w' b n z q → frS w' w → oS (jm_env (d + 10) 258 [.ref 411] (qM X v w T c s)) X v w T c s b n 6 r := by
    intro z q w' x y r hr e hb hf
    subst hr
    refine ⟨fun e' he => ?_, fun u hu => (by cases hu)⟩
    cases he
    refine ⟨up (up v 412 1 x) 412 2 y, w', 0, ?_, hb, fun m hm => by rw [up_b hm, up_b hm], Nat.zero_le _, fun m k _ hk => hf m k hk⟩
    rw [e, sX12_su45 (d := d) hT' hb]
    rfl
  unfold suP
  by_cases q1 : isW b (sk b 0) 394692
  · rw [if_pos q1] at e1
    rw [if_pos q1]
    have e2 := sX12_must_1 (d := d + 8) (X := X) (v := v) (T := T) (c := c) (s := s) (z := 1) hT' h22
    obtain ⟨w1, e3, hg, hf1⟩ := sX12_goesOn_1 (d := d + 5) (X := X) (v := v) (T := T) (c := c) (s := s) hT' h
    by_cases q2 : isN b (nx b (sk b 0)) 0 50
    · rw [if_pos q2]
      obtain ⟨w2, e4, hg2, hf2⟩ := sX12_reads_1 (d := d + 4) (X := X) (v := v) (T := T) (c := c) (s := s) hT' hg (by omega) (by omega) q2
      obtain ⟨-, y0, y1⟩ := id q2
      by_cases q3 : isN b (nx b (nx b (sk b 0))) 1 500
      · rw [if_pos q3]
        obtain ⟨w3, e5, hg3, hf3⟩ := sX12_reads_1 (d := d + 4) (X := X) (v := up v 412 1 (nv b (nx b (sk b 0)))) (T := T) (c := c) (s := s) hT' hg2 (by omega) (by omega) q3
        obtain ⟨-, z0, z1⟩ := id q3
        have hs := suM_0 h0 y0 y1 z0 z1
        have hc : up (up v 412 1 (nv b (nx b (sk b 0)))) 412 2 (nv b (nx b (nx b (sk b 0)))) 412 0 = 0 := by rw [up_ne (by omega), up_ne (by omega)]; exact h0 0 (by omega) (by omega)
        have hh : jm_env (d + 10) 258 [.ref 411] (qM X v w T c s) = jm_R (jm_env (d + 9)) jmM_X12_setup 45 [some (.ref 411)] [] (qM X (up (up v 412 1 (nv b (nx b (sk b 0)))) 412 2 (nv b (nx b (nx b (sk b 0))))) w3 T c s) := by
          rw [eX12_setup (h := hT'), bX12_setup_0]
          simp (disch := first | assumption | omega) only [↓reduceIte, i3_add, i3_sub, i3_mul, i3_neg, i6_add, i6_sub, i6_mul, i6_neg, i3_lt, i3_le, i3_eq, i6_lt, i6_eq, i3_div, i6_div, i6_i3, i3_i6, c6_lt, c6_ge, c6_gt, c6_le, c6_eq, i3_ite, i6_ite, ib_0, ib_z, ite_not, i1_0, i0_0, jB_1, jB_0, jB_ib, bI_v, bL_v, bD_v, bV_v, ob_s, ob_i, i3_ofNat, jx_e, bI_e, bL_e, bD_e, bV_e, i3_eq0, i6_eq0, if_mx, if_mn, if_true, if_false, not_true_eq_false, not_false_eq_true, Int.reduceEq, Int.reduceLT, Int.reduceLE, e1, e2, e3, r12_0, e4, w12_0, e5]
        obtain ⟨r1, r2⟩ := sX12_series (d := d) (X := X) (b := b) (n := n) 6 _ w3 T c s _ hT (by omega) hg3 hs (fun k k0 k1 => by rw [hc] at k1; omega) (by rw [hc]; rfl)
        have hfr : frS w3 w := frS_tr hf3.s (frS_tr hf2.s hf1.s)
        rw [hh]
        refine ⟨fun e he => ?_, fun u hu => ?_⟩
        · obtain ⟨v', w', k, x1, x2, x3, x4, x5⟩ := r1 e he
          exact ⟨v', w', k, x1, x2, fun m hm => by rw [x3 m hm, up_b hm, up_b hm], x4, fun m j m1 m2 => (x5 m j m1 m2).trans (hfr m j m2)⟩
        · obtain ⟨w', k, x1, x2, x3, x4, x5⟩ := r2 u hu
          exact ⟨w', k, x1, x2, fun m hm => by rw [x3 m hm, up_b hm, up_b hm], x4, fun m j m1 m2 => (x5 m j m1 m2).trans (hfr m j m2)⟩
      · rw [if_neg q3]
        obtain ⟨w3, e5, hb, hf3⟩ := sX12_reads_0 (d := d + 4) (X := X) (v := up v 412 1 (nv b (nx b (sk b 0)))) (T := T) (c := c) (s := s) hT' hg2 (by omega) (by omega) (by omega) q3
        refine fin (x := nv b (nx b (sk b 0))) (y := 1) rfl ?_ hb (frS_tr hf3.s (frS_tr hf2.s hf1.s))
        rw [eX12_setup (h := hT'), bX12_setup_0]
        simp (disch := first | assumption | omega) only [↓reduceIte, i3_add, i3_sub, i3_mul, i3_neg, i6_add, i6_sub, i6_mul, i6_neg, i3_lt, i3_le, i3_eq, i6_lt, i6_eq, i3_div, i6_div, i6_i3, i3_i6, c6_lt, c6_ge, c6_gt, c6_le, c6_eq, i3_ite, i6_ite, ib_0, ib_z, ite_not, i1_0, i0_0, jB_1, jB_0, jB_ib, bI_v, bL_v, bD_v, bV_v, ob_s, ob_i, i3_ofNat, jx_e, bI_e, bL_e, bD_e, bV_e, i3_eq0, i6_eq0, if_mx, if_mn, if_true, if_false, not_true_eq_false, not_false_eq_true, Int.reduceEq, Int.reduceLT, Int.reduceLE, e1, e2, e3, r12_0, e4, w12_0, e5]
    · rw [if_neg q2]
      obtain ⟨w2, e4, hb, hf2⟩ := sX12_reads_0 (d := d + 4) (X := X) (v := v) (T := T) (c := c) (s := s) hT' hg (by omega) (by omega) (by omega) q2
      have e5 := fun v' => sX12_reads_bad (d := d + 4) (X := X) (v := v') (T := T) (c := c) (s := s) (x := 1) (y := 500) hT' hb (by omega) (by omega) (by omega)
      refine fin (x := 0) (y := 1) rfl ?_ hb (frS_tr hf2.s hf1.s)
      rw [eX12_setup (h := hT'), bX12_setup_0]
      simp (disch := first | assumption | omega) only [↓reduceIte, i3_add, i3_sub, i3_mul, i3_neg, i6_add, i6_sub, i6_mul, i6_neg, i3_lt, i3_le, i3_eq, i6_lt, i6_eq, i3_div, i6_div, i6_i3, i3_i6, c6_lt, c6_ge, c6_gt, c6_le, c6_eq, i3_ite, i6_ite, ib_0, ib_z, ite_not, i1_0, i0_0, jB_1, jB_0, jB_ib, bI_v, bL_v, bD_v, bV_v, ob_s, ob_i, i3_ofNat, jx_e, bI_e, bL_e, bD_e, bV_e, i3_eq0, i6_eq0, if_mx, if_mn, if_true, if_false, not_true_eq_false, not_false_eq_true, Int.reduceEq, Int.reduceLT, Int.reduceLE, e1, e2, e3, r12_0, e4, w12_0, e5]
  · rw [if_neg q1] at e1
    rw [if_neg q1]
    obtain ⟨hb, hf⟩ := BD_mk (z := 1) h.1 (by omega) (by omega)
    have e2 := sX12_must_0 (d := d + 8) (X := X) (v := v) (T := T) (c := c) (s := s) (z := 1) hT' h22 h.1
    have e3 := sX12_goesOn_0 (d := d + 5) (X := X) (v := v) (T := T) (c := c) (s := s) hT' hb
    have e4 := fun v' => sX12_reads_bad (d := d + 4) (X := X) (v := v') (T := T) (c := c) (s := s) (x := 0) (y := 50) hT' hb (by omega) (by omega) (by omega)
    have e5 := fun v' => sX12_reads_bad (d := d + 4) (X := X) (v := v') (T := T) (c := c) (s := s) (x := 1) (y := 500) hT' hb (by omega) (by omega) (by omega)
    refine fin (x := 0) (y := 1) rfl ?_ hb hf.s
    rw [eX12_setup (h := hT'), bX12_setup_0]
    simp (disch := first | assumption | omega) only [↓reduceIte, i3_add, i3_sub, i3_mul, i3_neg, i6_add, i6_sub, i6_mul, i6_neg, i3_lt, i3_le, i3_eq, i6_lt, i6_eq, i3_div, i6_div, i6_i3, i3_i6, c6_lt, c6_ge, c6_gt, c6_le, c6_eq, i3_ite, i6_ite, ib_0, ib_z, ite_not, i1_0, i0_0, jB_1, jB_0, jB_ib, bI_v, bL_v, bD_v, bV_v, ob_s, ob_i, i3_ofNat, jx_e, bI_e, bL_e, bD_e, bV_e, i3_eq0, i6_eq0, if_mx, if_mn, if_true, if_false, not_true_eq_false, not_false_eq_true, Int.reduceEq, Int.reduceLT, Int.reduceLE, e1, e2, e3, r12_0, e4, w12_0, e5]
theorem sX12_tellsError_0 {cd : Int} {q : Nat} (hT : 18 ≤ T) (h : BD w b n cd q) : jm_env (d + 1) 260 [.ref 411] (qM X v w T c s) = some (.inl none, qM X (up (up v 411 24 cd) 411 25 q) w T c s) := by
  obtain ⟨h22, c1, c4⟩ := BD_b h
  have h23 := h.2.2.1
  have hq : (cd = 0) = False := eq_false (by omega)
  simp (disch := first | assumption | omega) only [↓reduceIte, eX12_tellsError, bX12_tellsError_0, bX12_tellsError_16, bX12_tellsError_20, bX12_tellsError_24, g12_22, p12_24, g12_23, p12_25, i3_add, i3_sub, i3_mul, i3_neg, i6_add, i6_sub, i6_mul, i6_neg, i3_lt, i3_le, i3_eq, i6_lt, i6_eq, i3_div, i6_div, i6_i3, i3_i6, c6_lt, c6_ge, c6_gt, c6_le, c6_eq, i3_ite, i6_ite, ib_0, ib_z, ite_not, i1_0, i0_0, jB_1, jB_0, jB_ib, bI_v, bL_v, bD_v, bV_v, ob_s, ob_i, i3_ofNat, jx_e, bI_e, bL_e, bD_e, bV_e, i3_eq0, i6_eq0, if_mx, if_mn, if_true, if_false, not_true_eq_false, not_false_eq_true, Int.reduceEq, Int.reduceLT, Int.reduceLE, h22, hq, h23]
theorem sX12_tellsError_1 (hT : 18 ≤ T) (h22 : w 411 22 = 0) : jm_env (d + 1) 260 [.ref 411] (qM X v w T c s) = some (.inl none, qM X (up (up v 411 24 0) 411 25 (-1)) w T c s) := by
  simp (disch := first | assumption | omega) only [↓reduceIte, eX12_tellsError, bX12_tellsError_0, bX12_tellsError_16, bX12_tellsError_20, bX12_tellsError_24, g12_22, p12_24, g12_23, p12_25, i3_add, i3_sub, i3_mul, i3_neg, i6_add, i6_sub, i6_mul, i6_neg, i3_lt, i3_le, i3_eq, i6_lt, i6_eq, i3_div, i6_div, i6_i3, i3_i6, c6_lt, c6_ge, c6_gt, c6_le, c6_eq, i3_ite, i6_ite, ib_0, ib_z, ite_not, i1_0, i0_0, jB_1, jB_0, jB_ib, bI_v, bL_v, bD_v, bV_v, ob_s, ob_i, i3_ofNat, jx_e, bI_e, bL_e, bD_e, bV_e, i3_eq0, i6_eq0, if_mx, if_mn, if_true, if_false, not_true_eq_false, not_false_eq_true, Int.reduceEq, Int.reduceLT, Int.reduceLE, h22]
end RFE
