-- uses 24.zar 25.obj 26.ops 30.rd 31.re 32.rf 34.gen 38.mod 39.mo2 41.bit 42.mo4 43.mo5 44.mo6 46.mo8 53.cla 58.clf 62.clj 65.cll 72.clq 73.clr 80.wrf 88.ovr 89.rsa c0.foa c1.fob c2.foc c3.fod c4.foe c5.fof c6.fog c7.foh c8.foi c9.foj ca.fok
/-! The reference folds all: the machine. -/
section FOL
variable {d : Nat} {X : Nat × (Nat → Int32)} {v w : Nat → Int → Int} {T c s : Nat}
theorem lW_g {w w' : Nat → Int → Int} {x f : Nat} (h : lW w x f) (g : ∀ (m : Nat) (j : Int), m ≠ 425 → m ≠ 426 → m ≠ 427 → w' m j = w m j) : lW w' x f := ⟨(g 411 34 (by omega) (by omega) (by omega)).trans h.1, (g 411 35 (by omega) (by omega) (by omega)).trans h.2.1, fun k k0 k1 => (g 424 k (by omega) (by omega) (by omega)).trans (h.2.2 k k0 k1)⟩
theorem sX12_foldsAll {x f : Nat} (hT : 18 ≤ T) (hf : f < 6) (hx : x < 2 ^ f) (hw : lW w x f) : ∃ w', jm_env (d + 3) 324 [.ref 411, .int (i3 (f : Nat))] (qM X v w T c s) = some (.inl none, qM X v w' T c s) ∧ kI w' x f f ∧ (∀ (m : Nat) (j : Int), m ≠ 425 → m ≠ 426 → m ≠ 427 → w' m j = w m j) := by
  obtain ⟨z1, z2, z3, z4, z5, z6, z7⟩ := fo_1 f hf x hx
  obtain ⟨h1, h2, h3⟩ := fo_h f hf
  have hl1 := lpI (S := Nat → Int → Int) (L := fun j u => jm_R (jm_env (d + 2)) jmM_X12_foldsAll 2 [some (.ref 411), some (.int (i3 (f : Nat))), some (.int (i3 (j : Nat))), none, none, none, none, none] [] (qM X v u T c s)) (I := fun j u => (∀ (m : Nat) (k : Int), m ≠ 425 → m ≠ 426 → u m k = w m k) ∧ ∀ k : Int, 0 ≤ k → k < (j : Nat) → u 426 k = 1 ∧ u 425 (32 * k) = 2 * k) (2 ^ f) 0 (fun j u _ hj ⟨i1, i2⟩ => by
    have q : (htX f ≤ (j : Int)) = False := eq_false (by omega)
    have e1 := w12_40 (X := X) (v := v) (w := u) (T := T) (c := c) (s := s) (z := j) (y := 1) hT (by omega) (by omega)
    have e2 := w12_39 (X := X) (v := v) (w := up u 426 j 1) (T := T) (c := c) (s := s) (z := 32 * (j : Int)) (y := 2 * (j : Int)) hT (by omega) (by omega)
    refine ⟨up (up u 426 j 1) 425 (32 * (j : Int)) (2 * (j : Int)), ?_, fun m k m1 m2 => ?_, fun k k0 k1 => ?_⟩
    · rw [bX12_foldsAll_2]
      simp (disch := first | assumption | omega) only [↓reduceIte, i3_add, i3_sub, i3_mul, i3_neg, i6_add, i6_sub, i6_mul, i6_neg, i3_lt, i3_le, i3_eq, i6_lt, i6_eq, i3_div, i6_div, i6_i3, i3_i6, c6_lt, c6_ge, c6_gt, c6_le, c6_eq, i3_ite, i6_ite, ib_0, ib_z, ite_not, i1_0, i0_0, jB_1, jB_0, jB_ib, bI_v, bL_v, bD_v, bV_v, ob_s, ob_i, i3_ofNat, jx_e, bI_e, bL_e, bD_e, bV_e, i3_eq0, i6_eq0, if_mx, if_mn, if_true, if_false, not_true_eq_false, not_false_eq_true, Int.reduceEq, Int.reduceLT, Int.reduceLE, g12_34, g12_35, i1 411 34, i1 411 35, hw.1, hw.2.1, z1, q, bX12_foldsAll_15, r12_40, e1, r12_39, e2]
      rfl
    · rw [up_ne (by omega), up_ne (by omega)]; exact i1 m k m1 m2
    · by_cases g : k = j
      · rw [g]
        exact ⟨by rw [up_ne (by omega), up_eq], up_eq⟩
      · obtain ⟨n1, n2⟩ := i2 k k0 (by omega)
        exact ⟨by rw [up_ne (by omega), up_ne (by omega)]; exact n1, by rw [up_ne (by omega), up_ne (by omega)]; exact n2⟩) w ⟨fun _ _ _ _ => rfl, fun k k0 k1 => by omega⟩
  obtain ⟨w1, e1, i1, i2⟩ := hl1
  rw [Nat.zero_add] at e1 i2
  have hw1 : lW w1 x f := lW_g hw (fun m j a b cc => i1 m j a b)
  have p0 : kI w1 x f 0 := by
    intro r cc r0 r1 c0 c1
    have r1' : r < rwX x f := r1
    have c1' : cc < clX x f := c1
    have hb := pl_lt (t := 0) (b := 1) r0 r1' c0 c1' (by omega) (by omega)
    rw [Int.mul_one, Int.mul_one, Int.add_zero, z1, Int.mul_comm] at hb
    obtain ⟨n1, n2⟩ := i2 _ hb.1 (by omega)
    refine ⟨n1, fun t t0 t1 => ?_⟩
    have t1' : t < 1 := t1
    rw [show t = 0 by omega, Int.add_zero, n2]
    show 2 * (clX x f * r + cc) = 2 * (r * clX x f + cc)
    rw [Int.mul_comm r]
  have step : ∀ (k : Nat), k < f → ∀ (u : Nat → Int → Int) (x5 x6 x7 : Option Value), kI u x f k → lW u x f → ∃ u' x5' x6' x7', jm_R (jm_env (d + 2)) jmM_X12_foldsAll 53 [some (.ref 411), some (.int (i3 (f : Nat))), some (.int (i3 (dnX x f k))), some (.int (i3 (acX x f k))), some (.int (i3 (k : Nat))), x5, x6, x7] [] (qM X v u T c s) = jm_R (jm_env (d + 2)) jmM_X12_foldsAll 53 [some (.ref 411), some (.int (i3 (f : Nat))), some (.int (i3 (dnX x f (k + 1)))), some (.int (i3 (acX x f (k + 1)))), some (.int (i3 ((k + 1 : Nat)))), x5', x6', x7'] [] (qM X v u' T c s) ∧ kI u' x f (k + 1) ∧ (∀ (m : Nat) (j : Int), m ≠ 425 → m ≠ 426 → m ≠ 427 → u' m j = u m j) := by
    intro k hk u x5 x6 x7 hp hu
    obtain ⟨g1, g2⟩ := fo_2 f hf x hx k hk
    obtain ⟨a1, a2, a3, a4, a5⟩ := fo_3 f hf x hx k (by omega)
    obtain ⟨b1, b2, b3, b4, b5⟩ := fo_3 f hf x hx (k + 1) (by omega)
    obtain ⟨k1, k2, k3⟩ := fo_h k (by omega)
    obtain ⟨k1', k2', k3'⟩ := fo_h (k + 1) (by omega)
    have hht : htX (k + 1) = 2 * htX k := rfl
    obtain ⟨m1, m2⟩ := dnX_n (x := x) (f := f) (k := k)
    have hbk := hu.2.2 k (by omega) (by omega)
    rw [Int.toNat_natCast] at hbk
    have q10 : ((1 : Int) = 0) = False := by decide
    generalize hH : (if bt x k = true then dnX x f k / 2 else acX x f k / 2) = H
    -- one place
    have place : ∀ (r cc : Nat), (r : Int) < dnX x f k → (cc : Int) < acX x f k → ∀ (y : Nat → Int → Int), mI y x f k r cc → (∀ (m : Nat) (j : Int), m ≠ 425 → m ≠ 426 → m ≠ 427 → y m j = u m j) → ∃ y', jm_R (jm_env (d + 2)) jmM_X12_foldsAll 90 [some (.ref 411), some (.int (i3 (f : Nat))), some (.int (i3 (dnX x f k))), some (.int (i3 (acX x f k))), some (.int (i3 (k : Nat))), some (.int (i3 H)), some (.int (i3 (r : Nat))), some (.int (i3 (cc : Nat)))] [] (qM X v y T c s) = jm_R (jm_env (d + 2)) jmM_X12_foldsAll 90 [some (.ref 411), some (.int (i3 (f : Nat))), some (.int (i3 (dnX x f k))), some (.int (i3 (acX x f k))), some (.int (i3 (k : Nat))), some (.int (i3 H)), some (.int (i3 (r : Nat))), some (.int (i3 ((cc + 1 : Nat))))] [] (qM X v y' T c s) ∧ mI y' x f k r (cc + 1) ∧ (∀ (m : Nat) (j : Int), m ≠ 425 → m ≠ 426 → m ≠ 427 → y' m j = u m j) := by
      intro r cc hr hcc y hm hy
      have q : (acX x f k ≤ (cc : Int)) = False := eq_false (by omega)
      have yb : y 424 k = if bt x k = true then 1 else 0 := (hy 424 k (by omega) (by omega) (by omega)).trans hbk
      have y35 : y 411 35 = clX x f := (hy 411 35 (by omega) (by omega) (by omega)).trans hu.2.1
      have hc : ((cc + 1 : Nat) : Int) = (cc : Int) + 1 := by omega
      by_cases hst : (r : Int) < dnX x f (k + 1) ∧ (cc : Int) < acX x f (k + 1)
      · have fold : ∀ (fr fc : Int), (fr = if bt x k = true then dnX x f k - 1 - r else r) → (fc = if bt x k = true then (cc : Int) else acX x f k - 1 - cc) → ∃ y', jm_env (d + 2) 323 [.ref 411, .int (i3 (clX x f * r + cc)), .int (i3 (clX x f * fr + fc))] (qM X v y T c s) = some (.inl none, qM X v y' T c s) ∧ mI y' x f k r (cc + 1) ∧ (∀ (m : Nat) (j : Int), m ≠ 425 → m ≠ 426 → m ≠ 427 → y' m j = u m j) := by
          intro fr fc hfr hfc
          have hreg : (0 ≤ fr ∧ fr < dnX x f k) ∧ (0 ≤ fc ∧ fc < acX x f k) ∧ ¬ (fr < dnX x f (k + 1) ∧ fc < acX x f (k + 1)) ∧ ¬ (fr = r ∧ fc = cc) ∧ (bt x k = true → ¬ (dnX x f k - 1 - fr < r ∨ (dnX x f k - 1 - fr = r ∧ fc < cc))) ∧ (bt x k = false → ¬ (fr < r ∨ (fr = r ∧ acX x f k - 1 - fc < cc))) := by
            cases hb : bt x k
            · rw [hb, if_neg Bool.false_ne_true] at hfr hfc
              have := g2 hb
              refine ⟨by omega, by omega, by omega, by omega, fun q => absurd q Bool.false_ne_true, fun _ => by omega⟩
            · rw [hb, if_pos rfl] at hfr hfc
              have := g1 hb
              refine ⟨by omega, by omega, by omega, by omega, fun _ => by omega, fun q => absurd q.symm Bool.false_ne_true⟩
          obtain ⟨q1, q2, q3, q4, q5, q6⟩ := hreg
          have hto := ce_lt (x := x) (f := f) (r := r) (c := cc) hf hx ⟨by omega, by omega⟩
          have hfm := ce_lt (x := x) (f := f) (r := fr) (c := fc) hf hx ⟨by omega, by omega⟩
          have hheld := (hm r cc (by omega) hr (by omega) hcc).2.2.1 hst (by omega)
          have hheld2 := (hm fr fc q1.1 q1.2 q2.1 q2.2).2.2.2 q3 q5 q6
          have hold := (hm fr fc q1.1 q1.2 q2.1 q2.2).2.1 (fun q => q3 q.1)
          obtain ⟨y', e, n1, n2, n3⟩ := sX12_foldsOver (d := d + 1) (X := X) (v := v) (w := y) (T := T) (c := c) (s := s) (a := clX x f * r + cc) (b := clX x f * fr + fc) (h := htX k) (hn := 2 ^ k) hT k1 k2 (by omega) hto.1 hto.2 hfm.1 hfm.2 (fun q => q4 (by
            obtain ⟨s1, s2⟩ := ce_inj (by omega) (by omega) q2.1 (by omega) q
            exact ⟨s1.symm, s2.symm⟩)) hheld hheld2 (fun t t0 t1 => by
            rw [hold t t0 t1]
            exact fo_4i hf hx (by omega) q1.1 q1.2 q2.1 q2.2 t0 t1)
          exact ⟨y', e, mI_step hf hx hk hm (by omega) hst.1 (by omega) hst.2 hfr hfc n1 n2 n3, fun m j j1 j2 j3 => (n3 m j j3 (Or.inl j1) (Or.inl j2)).trans (hy m j j1 j2 j3)⟩
        cases hb : bt x k
        · rw [hb, if_neg Bool.false_ne_true] at yb hH
          obtain ⟨y', e, n1, n2⟩ := fold r (acX x f k - 1 - cc) (by rw [hb, if_neg Bool.false_ne_true]) (by rw [hb, if_neg Bool.false_ne_true])
          have g' : (H ≤ (cc : Int)) = False := eq_false (by have := m2 hb; omega)
          have ee : clX x f * (r : Int) + acX x f k - 1 - cc = clX x f * r + (acX x f k - 1 - cc) := by omega
          refine ⟨y', ?_, n1, n2⟩
          rw [hc, bX12_foldsAll_90]
          simp (disch := first | assumption | omega) only [↓reduceIte, i3_add, i3_sub, i3_mul, i3_neg, i6_add, i6_sub, i6_mul, i6_neg, i3_lt, i3_le, i3_eq, i6_lt, i6_eq, i3_div, i6_div, i6_i3, i3_i6, c6_lt, c6_ge, c6_gt, c6_le, c6_eq, i3_ite, i6_ite, ib_0, ib_z, ite_not, i1_0, i0_0, jB_1, jB_0, jB_ib, bI_v, bL_v, bD_v, bV_v, ob_s, ob_i, i3_ofNat, jx_e, bI_e, bL_e, bD_e, bV_e, i3_eq0, i6_eq0, if_mx, if_mn, if_true, if_false, not_true_eq_false, not_false_eq_true, Int.reduceEq, Int.reduceLT, Int.reduceLE, q, bX12_foldsAll_96, r12_36, a12_36, yb, bX12_foldsAll_144, bX12_foldsAll_154, g', bX12_foldsAll_161, g12_35, y35, ee, e, bX12_foldsAll_189]
        · rw [hb, if_pos rfl] at yb hH
          obtain ⟨y', e, n1, n2⟩ := fold (dnX x f k - 1 - r) cc (by rw [hb, if_pos rfl]) (by rw [hb, if_pos rfl])
          have g' : (H ≤ (r : Int)) = False := eq_false (by have := m1 hb; omega)
          refine ⟨y', ?_, n1, n2⟩
          rw [hc, bX12_foldsAll_90]
          simp (disch := first | assumption | omega) only [↓reduceIte, i3_add, i3_sub, i3_mul, i3_neg, i6_add, i6_sub, i6_mul, i6_neg, i3_lt, i3_le, i3_eq, i6_lt, i6_eq, i3_div, i6_div, i6_i3, i3_i6, c6_lt, c6_ge, c6_gt, c6_le, c6_eq, i3_ite, i6_ite, ib_0, ib_z, ite_not, i1_0, i0_0, jB_1, jB_0, jB_ib, bI_v, bL_v, bD_v, bV_v, ob_s, ob_i, i3_ofNat, jx_e, bI_e, bL_e, bD_e, bV_e, i3_eq0, i6_eq0, if_mx, if_mn, if_true, if_false, not_true_eq_false, not_false_eq_true, Int.reduceEq, Int.reduceLT, Int.reduceLE, q, bX12_foldsAll_96, r12_36, a12_36, yb, q10, bX12_foldsAll_106, g', bX12_foldsAll_113, g12_35, y35, e, bX12_foldsAll_189]
      · refine ⟨y, ?_, mI_skip hf hx hk hm hst, hy⟩
        rw [hc, bX12_foldsAll_90]
        cases hb : bt x k
        · rw [hb, if_neg Bool.false_ne_true] at yb hH
          have g' : (H ≤ (cc : Int)) = True := eq_true (by have := m2 hb; omega)
          simp (disch := first | assumption | omega) only [↓reduceIte, i3_add, i3_sub, i3_mul, i3_neg, i6_add, i6_sub, i6_mul, i6_neg, i3_lt, i3_le, i3_eq, i6_lt, i6_eq, i3_div, i6_div, i6_i3, i3_i6, c6_lt, c6_ge, c6_gt, c6_le, c6_eq, i3_ite, i6_ite, ib_0, ib_z, ite_not, i1_0, i0_0, jB_1, jB_0, jB_ib, bI_v, bL_v, bD_v, bV_v, ob_s, ob_i, i3_ofNat, jx_e, bI_e, bL_e, bD_e, bV_e, i3_eq0, i6_eq0, if_mx, if_mn, if_true, if_false, not_true_eq_false, not_false_eq_true, Int.reduceEq, Int.reduceLT, Int.reduceLE, q, bX12_foldsAll_96, r12_36, a12_36, yb, bX12_foldsAll_144, bX12_foldsAll_154, g', bX12_foldsAll_189]
        · rw [hb, if_pos rfl] at yb hH
          have g' : (H ≤ (r : Int)) = True := eq_true (by have := m1 hb; omega)
          simp (disch := first | assumption | omega) only [↓reduceIte, i3_add, i3_sub, i3_mul, i3_neg, i6_add, i6_sub, i6_mul, i6_neg, i3_lt, i3_le, i3_eq, i6_lt, i6_eq, i3_div, i6_div, i6_i3, i3_i6, c6_lt, c6_ge, c6_gt, c6_le, c6_eq, i3_ite, i6_ite, ib_0, ib_z, ite_not, i1_0, i0_0, jB_1, jB_0, jB_ib, bI_v, bL_v, bD_v, bV_v, ob_s, ob_i, i3_ofNat, jx_e, bI_e, bL_e, bD_e, bV_e, i3_eq0, i6_eq0, if_mx, if_mn, if_true, if_false, not_true_eq_false, not_false_eq_true, Int.reduceEq, Int.reduceLT, Int.reduceLE, q, bX12_foldsAll_96, r12_36, a12_36, yb, q10, bX12_foldsAll_106, g', bX12_foldsAll_144, bX12_foldsAll_189]
    -- one row
    have row : ∀ (r : Nat), (r : Int) < dnX x f k → ∀ (y : Nat → Int → Int), mI y x f k r 0 → (∀ (m : Nat) (j : Int), m ≠ 425 → m ≠ 426 → m ≠ 427 → y m j = u m j) → ∃ y', jm_R (jm_env (d + 2)) jmM_X12_foldsAll 90 [some (.ref 411), some (.int (i3 (f : Nat))), some (.int (i3 (dnX x f k))), some (.int (i3 (acX x f k))), some (.int (i3 (k : Nat))), some (.int (i3 H)), some (.int (i3 (r : Nat))), some (.int (i3 0))] [] (qM X v y T c s) = jm_R (jm_env (d + 2)) jmM_X12_foldsAll 90 [some (.ref 411), some (.int (i3 (f : Nat))), some (.int (i3 (dnX x f k))), some (.int (i3 (acX x f k))), some (.int (i3 (k : Nat))), some (.int (i3 H)), some (.int (i3 (r : Nat))), some (.int (i3 (acX x f k)))] [] (qM X v y' T c s) ∧ mI y' x f k ((r : Int) + 1) 0 ∧ (∀ (m : Nat) (j : Int), m ≠ 425 → m ≠ 426 → m ≠ 427 → y' m j = u m j) := by
      intro r hr y hm hy
      have hl := lpI (S := Nat → Int → Int) (L := fun j y => jm_R (jm_env (d + 2)) jmM_X12_foldsAll 90 [some (.ref 411), some (.int (i3 (f : Nat))), some (.int (i3 (dnX x f k))), some (.int (i3 (acX x f k))), some (.int (i3 (k : Nat))), some (.int (i3 H)), some (.int (i3 (r : Nat))), some (.int (i3 (j : Nat)))] [] (qM X v y T c s)) (I := fun j y => mI y x f k r (j : Nat) ∧ ∀ (m : Nat) (j : Int), m ≠ 425 → m ≠ 426 → m ≠ 427 → y m j = u m j) (acX x f k).toNat 0 (fun j y _ hj ⟨j1, j2⟩ => by
        obtain ⟨y', e, n1, n2⟩ := place r j hr (by omega) y j1 j2
        exact ⟨y', e, by rw [show ((j + 1 : Nat) : Int) = (j : Int) + 1 by omega]; exact n1, n2⟩) y ⟨hm, hy⟩
      obtain ⟨y', e, j1, j2⟩ := hl
      rw [show ((0 + (acX x f k).toNat : Nat) : Int) = acX x f k by omega] at j1
      refine ⟨y', ?_, ?_, j2⟩
      · have e' : jm_R (jm_env (d + 2)) jmM_X12_foldsAll 90 [some (.ref 411), some (.int (i3 (f : Nat))), some (.int (i3 (dnX x f k))), some (.int (i3 (acX x f k))), some (.int (i3 (k : Nat))), some (.int (i3 H)), some (.int (i3 (r : Nat))), some (.int (i3 0))] [] (qM X v y T c s) = jm_R (jm_env (d + 2)) jmM_X12_foldsAll 90 [some (.ref 411), some (.int (i3 (f : Nat))), some (.int (i3 (dnX x f k))), some (.int (i3 (acX x f k))), some (.int (i3 (k : Nat))), some (.int (i3 H)), some (.int (i3 (r : Nat))), some (.int (i3 ((0 + (acX x f k).toNat : Nat) : Int)))] [] (qM X v y' T c s) := e
        rw [show ((0 + (acX x f k).toNat : Nat) : Int) = acX x f k by omega] at e'
        exact e'
      · intro r' c' r0' r1' c0' c1'
        obtain ⟨n1, n2, n3, n4⟩ := j1 r' c' r0' r1' c0' c1'
        refine ⟨fun q => n1 ⟨q.1, by omega⟩, fun q => n2 (fun q2 => q ⟨q2.1, by omega⟩), fun q1 q2 => n3 q1 (by omega), fun q1 q2 q3 => n4 q1 (fun hb => ?_) (fun hb => ?_)⟩
        · have := q2 hb; omega
        · have := q3 hb; omega
    have hl := lpI (S := (Nat → Int → Int) × Option Value) (L := fun j y => jm_R (jm_env (d + 2)) jmM_X12_foldsAll 81 [some (.ref 411), some (.int (i3 (f : Nat))), some (.int (i3 (dnX x f k))), some (.int (i3 (acX x f k))), some (.int (i3 (k : Nat))), some (.int (i3 H)), some (.int (i3 (j : Nat))), y.2] [] (qM X v y.1 T c s)) (I := fun j y => mI y.1 x f k (j : Nat) 0 ∧ ∀ (m : Nat) (j : Int), m ≠ 425 → m ≠ 426 → m ≠ 427 → y.1 m j = u m j) (dnX x f k).toNat 0 (fun j y _ hj ⟨j1, j2⟩ => by
      have q : (dnX x f k ≤ (j : Int)) = False := eq_false (by omega)
      have q2 : (acX x f k ≤ acX x f k) = True := eq_true (Int.le_refl _)
      obtain ⟨y', e, n1, n2⟩ := row j (by omega) y.1 j1 j2
      have hc : ((j + 1 : Nat) : Int) = (j : Int) + 1 := by omega
      refine ⟨(y', some (.int (i3 (acX x f k)))), ?_, by rw [hc]; exact n1, n2⟩
      show jm_R _ _ 81 [_, _, _, _, _, _, some (.int (i3 (j : Nat))), _] [] _ = jm_R _ _ 81 [_, _, _, _, _, _, some (.int (i3 ((j + 1 : Nat)))), _] [] _
      rw [hc, bX12_foldsAll_81]
      simp (disch := first | assumption | omega) only [↓reduceIte, i3_add, i3_sub, i3_mul, i3_neg, i6_add, i6_sub, i6_mul, i6_neg, i3_lt, i3_le, i3_eq, i6_lt, i6_eq, i3_div, i6_div, i6_i3, i3_i6, c6_lt, c6_ge, c6_gt, c6_le, c6_eq, i3_ite, i6_ite, ib_0, ib_z, ite_not, i1_0, i0_0, jB_1, jB_0, jB_ib, bI_v, bL_v, bD_v, bV_v, ob_s, ob_i, i3_ofNat, jx_e, bI_e, bL_e, bD_e, bV_e, i3_eq0, i6_eq0, if_mx, if_mn, if_true, if_false, not_true_eq_false, not_false_eq_true, Int.reduceEq, Int.reduceLT, Int.reduceLE, q, bX12_foldsAll_87, e]
      rw [bX12_foldsAll_90]
      simp (disch := first | assumption | omega) only [↓reduceIte, i3_add, i3_sub, i3_mul, i3_neg, i6_add, i6_sub, i6_mul, i6_neg, i3_lt, i3_le, i3_eq, i6_lt, i6_eq, i3_div, i6_div, i6_i3, i3_i6, c6_lt, c6_ge, c6_gt, c6_le, c6_eq, i3_ite, i6_ite, ib_0, ib_z, ite_not, i1_0, i0_0, jB_1, jB_0, jB_ib, bI_v, bL_v, bD_v, bV_v, ob_s, ob_i, i3_ofNat, jx_e, bI_e, bL_e, bD_e, bV_e, i3_eq0, i6_eq0, if_mx, if_mn, if_true, if_false, not_true_eq_false, not_false_eq_true, Int.reduceEq, Int.reduceLT, Int.reduceLE, q2, bX12_foldsAll_195]) (u, x7) ⟨fun r' c' r0' r1' c0' c1' => by
        obtain ⟨n1, n2⟩ := hp r' c' r0' r1' c0' c1'
        exact ⟨fun q => by omega, fun _ => n2, fun _ _ => n1, fun _ _ _ => n1⟩, fun _ _ _ _ _ => rfl⟩
    obtain ⟨y, e, j1, j2⟩ := hl
    have e' : jm_R (jm_env (d + 2)) jmM_X12_foldsAll 81 [some (.ref 411), some (.int (i3 (f : Nat))), some (.int (i3 (dnX x f k))), some (.int (i3 (acX x f k))), some (.int (i3 (k : Nat))), some (.int (i3 H)), some (.int (i3 0)), x7] [] (qM X v u T c s) = jm_R (jm_env (d + 2)) jmM_X12_foldsAll 81 [some (.ref 411), some (.int (i3 (f : Nat))), some (.int (i3 (dnX x f k))), some (.int (i3 (acX x f k))), some (.int (i3 (k : Nat))), some (.int (i3 H)), some (.int (i3 ((0 + (dnX x f k).toNat : Nat) : Int))), y.2] [] (qM X v y.1 T c s) := e
    rw [show ((0 + (dnX x f k).toNat : Nat) : Int) = dnX x f k by omega] at e' j1
    have q : ((f : Int) ≤ (k : Int)) = False := eq_false (by omega)
    have q2 : (dnX x f k ≤ dnX x f k) = True := eq_true (Int.le_refl _)
    have yb : y.1 424 k = if bt x k = true then 1 else 0 := (j2 424 k (by omega) (by omega) (by omega)).trans hbk
    have hc : ((k + 1 : Nat) : Int) = (k : Int) + 1 := by omega
    refine ⟨y.1, some (.int (i3 H)), some (.int (i3 (dnX x f k))), y.2, ?_, fun r cc r0 r1 c0 c1 => ?_, j2⟩
    · rw [hc, bX12_foldsAll_53]
      cases hb : bt x k
      · rw [hb, if_neg Bool.false_ne_true] at hbk yb hH
        obtain ⟨m3, m4⟩ := m2 hb
        rw [m3, m4]
        simp (disch := first | assumption | omega) only [↓reduceIte, i3_add, i3_sub, i3_mul, i3_neg, i6_add, i6_sub, i6_mul, i6_neg, i3_lt, i3_le, i3_eq, i6_lt, i6_eq, i3_div, i6_div, i6_i3, i3_i6, c6_lt, c6_ge, c6_gt, c6_le, c6_eq, i3_ite, i6_ite, ib_0, ib_z, ite_not, i1_0, i0_0, jB_1, jB_0, jB_ib, bI_v, bL_v, bD_v, bV_v, ob_s, ob_i, i3_ofNat, jx_e, bI_e, bL_e, bD_e, bV_e, i3_eq0, i6_eq0, if_mx, if_mn, if_true, if_false, not_true_eq_false, not_false_eq_true, Int.reduceEq, Int.reduceLT, Int.reduceLE, q, bX12_foldsAll_59, r12_36, a12_36, hbk, bX12_foldsAll_73, bX12_foldsAll_74, hH]
        rw [e', bX12_foldsAll_81]
        simp (disch := first | assumption | omega) only [↓reduceIte, i3_add, i3_sub, i3_mul, i3_neg, i6_add, i6_sub, i6_mul, i6_neg, i3_lt, i3_le, i3_eq, i6_lt, i6_eq, i3_div, i6_div, i6_i3, i3_i6, c6_lt, c6_ge, c6_gt, c6_le, c6_eq, i3_ite, i6_ite, ib_0, ib_z, ite_not, i1_0, i0_0, jB_1, jB_0, jB_ib, bI_v, bL_v, bD_v, bV_v, ob_s, ob_i, i3_ofNat, jx_e, bI_e, bL_e, bD_e, bV_e, i3_eq0, i6_eq0, if_mx, if_mn, if_true, if_false, not_true_eq_false, not_false_eq_true, Int.reduceEq, Int.reduceLT, Int.reduceLE, q2, bX12_foldsAll_201, r12_36, a12_36, yb, bX12_foldsAll_216, bX12_foldsAll_217, bX12_foldsAll_232, bX12_foldsAll_234]
      · rw [hb, if_pos rfl] at hbk yb hH
        obtain ⟨m3, m4⟩ := m1 hb
        rw [m3, m4]
        simp (disch := first | assumption | omega) only [↓reduceIte, i3_add, i3_sub, i3_mul, i3_neg, i6_add, i6_sub, i6_mul, i6_neg, i3_lt, i3_le, i3_eq, i6_lt, i6_eq, i3_div, i6_div, i6_i3, i3_i6, c6_lt, c6_ge, c6_gt, c6_le, c6_eq, i3_ite, i6_ite, ib_0, ib_z, ite_not, i1_0, i0_0, jB_1, jB_0, jB_ib, bI_v, bL_v, bD_v, bV_v, ob_s, ob_i, i3_ofNat, jx_e, bI_e, bL_e, bD_e, bV_e, i3_eq0, i6_eq0, if_mx, if_mn, if_true, if_false, not_true_eq_false, not_false_eq_true, Int.reduceEq, Int.reduceLT, Int.reduceLE, q, bX12_foldsAll_59, r12_36, a12_36, hbk, q10, bX12_foldsAll_69, bX12_foldsAll_74, hH]
        rw [e', bX12_foldsAll_81]
        simp (disch := first | assumption | omega) only [↓reduceIte, i3_add, i3_sub, i3_mul, i3_neg, i6_add, i6_sub, i6_mul, i6_neg, i3_lt, i3_le, i3_eq, i6_lt, i6_eq, i3_div, i6_div, i6_i3, i3_i6, c6_lt, c6_ge, c6_gt, c6_le, c6_eq, i3_ite, i6_ite, ib_0, ib_z, ite_not, i1_0, i0_0, jB_1, jB_0, jB_ib, bI_v, bL_v, bD_v, bV_v, ob_s, ob_i, i3_ofNat, jx_e, bI_e, bL_e, bD_e, bV_e, i3_eq0, i6_eq0, if_mx, if_mn, if_true, if_false, not_true_eq_false, not_false_eq_true, Int.reduceEq, Int.reduceLT, Int.reduceLE, q2, bX12_foldsAll_201, r12_36, a12_36, yb, q10, bX12_foldsAll_211, bX12_foldsAll_217, bX12_foldsAll_228, bX12_foldsAll_234]
    · have hin : r < dnX x f k ∧ cc < acX x f k := by
        cases hb : bt x k
        · have := g2 hb; omega
        · have := g1 hb; omega
      exact (j1 r cc r0 hin.1 c0 hin.2).1 ⟨⟨r1, c1⟩, by omega⟩
  have hl := lpI (S := (Nat → Int → Int) × Option Value × Option Value × Option Value) (L := fun j y => jm_R (jm_env (d + 2)) jmM_X12_foldsAll 53 [some (.ref 411), some (.int (i3 (f : Nat))), some (.int (i3 (dnX x f j))), some (.int (i3 (acX x f j))), some (.int (i3 (j : Nat))), y.2.1, y.2.2.1, y.2.2.2] [] (qM X v y.1 T c s)) (I := fun j y => kI y.1 x f j ∧ ∀ (m : Nat) (j : Int), m ≠ 425 → m ≠ 426 → m ≠ 427 → y.1 m j = w m j) f 0 (fun j y _ hj ⟨j1, j2⟩ => by
    obtain ⟨u', x5, x6, x7, e, n1, n2⟩ := step j (by omega) y.1 y.2.1 y.2.2.1 y.2.2.2 j1 (lW_g hw j2)
    exact ⟨(u', x5, x6, x7), e, n1, fun m j a b cc => (n2 m j a b cc).trans (j2 m j a b cc)⟩) (w1, none, none, none) ⟨p0, fun m j a b _ => i1 m j a b⟩
  obtain ⟨y, e, j1, j2⟩ := hl
  rw [Nat.zero_add] at e j1
  refine ⟨y.1, ?_, j1, j2⟩
  have q1 : (htX f ≤ ((2 ^ f : Nat) : Int)) = True := eq_true (by omega)
  have q2 : ((f : Int) ≤ (f : Int)) = True := eq_true (Int.le_refl _)
  have e0 : jm_R (jm_env (d + 2)) jmM_X12_foldsAll 2 [some (.ref 411), some (.int (i3 (f : Nat))), some (.int (i3 0)), none, none, none, none, none] [] (qM X v w T c s) = _ := e1
  have e2 : jm_R (jm_env (d + 2)) jmM_X12_foldsAll 53 [some (.ref 411), some (.int (i3 (f : Nat))), some (.int (i3 (rwX x f))), some (.int (i3 (clX x f))), some (.int (i3 0)), none, none, none] [] (qM X v w1 T c s) = _ := e
  rw [eX12_foldsAll (h := hT), bX12_foldsAll_0, e0, bX12_foldsAll_2]
  simp (disch := first | assumption | omega) only [↓reduceIte, i3_add, i3_sub, i3_mul, i3_neg, i6_add, i6_sub, i6_mul, i6_neg, i3_lt, i3_le, i3_eq, i6_lt, i6_eq, i3_div, i6_div, i6_i3, i3_i6, c6_lt, c6_ge, c6_gt, c6_le, c6_eq, i3_ite, i6_ite, ib_0, ib_z, ite_not, i1_0, i0_0, jB_1, jB_0, jB_ib, bI_v, bL_v, bD_v, bV_v, ob_s, ob_i, i3_ofNat, jx_e, bI_e, bL_e, bD_e, bV_e, i3_eq0, i6_eq0, if_mx, if_mn, if_true, if_false, not_true_eq_false, not_false_eq_true, Int.reduceEq, Int.reduceLT, Int.reduceLE, g12_34, g12_35, hw1.1, hw1.2.1, z1, q1, bX12_foldsAll_40]
  refine Eq.trans e2 ?_
  rw [bX12_foldsAll_53]
  simp (disch := first | assumption | omega) only [↓reduceIte, i3_add, i3_sub, i3_mul, i3_neg, i6_add, i6_sub, i6_mul, i6_neg, i3_lt, i3_le, i3_eq, i6_lt, i6_eq, i3_div, i6_div, i6_i3, i3_i6, c6_lt, c6_ge, c6_gt, c6_le, c6_eq, i3_ite, i6_ite, ib_0, ib_z, ite_not, i1_0, i0_0, jB_1, jB_0, jB_ib, bI_v, bL_v, bD_v, bV_v, ob_s, ob_i, i3_ofNat, jx_e, bI_e, bL_e, bD_e, bV_e, i3_eq0, i6_eq0, if_mx, if_mn, if_true, if_false, not_true_eq_false, not_false_eq_true, Int.reduceEq, Int.reduceLT, Int.reduceLE, q2, bX12_foldsAll_241]
end FOL
