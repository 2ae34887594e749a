-- uses 24.zar 25.obj 26.ops 27.ra 28.rb 29.rc 34.gen 38.mod 39.mo2 41.bit 42.mo4 46.mo8 53.cla 58.clf 61.cli b1.plb c0.foa c1.fob
/-! The class folds a sheet: the pile and the pages. -/
section CPW
variable {X : Nat × (Nat → Int32)} {v w : Nat → Int → Int} {T c s : Nat} {r0 r1 n0 n1 : Nat} {l0 l1 : List Nat}
theorem cp_i (h0 : r0 < 411) (h1 : r1 < 411) (s0 : pl_sh r0 = .inl (0, n0, l0)) (s1 : pl_sh r1 = .inl (0, n1, l1)) (hne : r0 ≠ r1) (c0 : ∀ j, pl_scr r0 j = true) (c1 : ∀ j, pl_scr r1 j = true) (n : Nat) (g0 : n ≤ n0) (g1 : n ≤ n1) (hn : n < 1000) :
    jm_cpY (qM X v w T c s) r0 (i3 0) r1 (i3 0) (i3 n) = some (qM X v (fil w r1 (w r0) n) T c s) := by
  have e0 : (i3 0).toNatClampNeg = 0 := by rw [i3_nat (by omega) (by omega)]; rfl
  have e1 : (i3 (n : Int)).toNatClampNeg = n := by rw [i3_nat (by omega) (by omega)]; omega
  have z0 : ¬ (i3 0 < 0) := by
    have h : (i3 0 < (0 : Int32)) = ((0 : Int) < 0) := i3_lt (b := 0) (by omega) (by omega) (by omega) (by omega)
    rw [h]; omega
  have z1 : ¬ (i3 (n : Int) < 0) := by
    have h : (i3 (n : Int) < (0 : Int32)) = ((n : Int) < 0) := i3_lt (b := 0) (by omega) (by omega) (by omega) (by omega)
    rw [h]; omega
  refine or_l ?_
  unfold jm_cpy
  rw [qM_at (Nat.lt_add_right T h0), qM_at (Nat.lt_add_right T h1), s0, s1]
  show (if r0 ≠ r1 ∧ 0 = 0 ∧ 0 = 0 ∧ ¬ i3 0 < 0 ∧ ¬ i3 0 < 0 ∧ ¬ i3 (n : Int) < 0 ∧ (i3 0).toNatClampNeg + (i3 (n : Int)).toNatClampNeg ≤ n0 ∧ (i3 0).toNatClampNeg + (i3 (n : Int)).toNatClampNeg ≤ n1 then some (jm_up (qM X v w T c s) r1 (.inl (0, n1, .inl (va_cpy (fun k : Nat => i3 (pl_q v w r0 k)) (fun k : Nat => i3 (pl_q v w r1 k)) (i3 0).toNatClampNeg (i3 0).toNatClampNeg (i3 (n : Int)).toNatClampNeg)))) else none) = _
  rw [e0, e1, if_pos ⟨hne, rfl, rfl, z0, z0, z1, by omega, by omega⟩]
  congr 1
  refine qM_up (Nat.lt_add_right T h1) ?_ (fun m hm => ?_)
  · rw [s1]
    show Sum.inl (0, n1, Sum.inl _) = Sum.inl (0, n1, Sum.inl (fun k : Nat => i3 (pl_q v (fil w r1 (w r0) n) r1 k)))
    congr 4
    funext k
    rw [qq_w (c1 k)]
    unfold va_cpy
    by_cases g : 0 ≤ k ∧ k < 0 + n
    · rw [if_pos g, fil_in (by omega) (by omega)]
      dsimp only
      rw [qq_w (c0 _), show 0 + (k - 0) = k by omega]
    · rw [if_neg g, fil_ne (by omega)]
      dsimp only
      rw [qq_w (c1 k)]
  · funext j
    unfold pl_q
    rw [fil_ne (Or.inl hm)]
end CPW
section FOC
variable {d : Nat} {X : Nat × (Nat → Int32)} {v w : Nat → Int → Int} {T c s : Nat}
theorem cp_344 : jm_cpY (qM X v w T c s) 345 (i3 0) 344 (i3 0) (i3 32) = some (qM X v (fil w 344 (w 345) 32) T c s) := cp_i (by omega) (by omega) h_2_5 h_2_4 (by omega) t_2_5 t_2_4 32 (by omega) (by omega) (by omega)
/-- the two sides known to the folding -/
def foW (w : Nat → Int → Int) (x f : Nat) : Prop := w 342 0 = rwX x f ∧ w 342 1 = clX x f ∧ w 342 2 = (f : Int) ∧ ∀ k : Int, 0 ≤ k → k < f → w 343 k = if bt x k.toNat = true then 1 else 0
theorem foW_fr {w w' : Nat → Int → Int} {x f : Nat} (h : foW w x f) (hf : ∀ (m : Nat) (j : Int), m ≠ 344 → m ≠ 345 → m ≠ 346 → w' m j = w m j) : foW w' x f := ⟨(hf 342 0 (by omega) (by omega) (by omega)).trans h.1, (hf 342 1 (by omega) (by omega) (by omega)).trans h.2.1, (hf 342 2 (by omega) (by omega) (by omega)).trans h.2.2.1, fun k k0 k1 => (hf 343 k (by omega) (by omega) (by omega)).trans (h.2.2.2 k k0 k1)⟩
theorem tX2_pileUp {x f : Nat} (hf : f < 6) (hx : x < 2 ^ f) (hw : foW w x f) : ∃ w', jm_env (d + 3) 30 [.ref 342] (qM X v w T c s) = some (.inl none, qM X v w' T c s) ∧ pI w' 344 x f f ∧ foW w' x f := by
  obtain ⟨z1, z2, z3, z4, z5, z6, z7⟩ := fo_1 f hf x hx
  obtain ⟨h1, h2, h3⟩ := fo_h f hf
  have hl1 := lpI (S := Nat → Int → Int) (L := fun j u => jm_R (jm_env (d + 2)) jmM_X2_pileUp 2 [some (.ref 342), some (.int (i3 (j : Nat))), none, none, none, none, none] [] (qM X v u T c s)) (I := fun j u => (∀ (m : Nat) (k : Int), m ≠ 344 → u m k = w m k) ∧ ∀ k : Int, 0 ≤ k → k < (j : Nat) → u 344 k = 2 * k) (2 ^ f) 0 (fun j u _ hj ⟨i1, i2⟩ => by
    have q : (htX f ≤ (j : Int)) = False := eq_false (by omega)
    have e1 := s344 (d := d + 1) (X := X) (v := v) (w := u) (T := T) (c := c) (s := s) (z := j) (y := 2 * (j : Int)) (by omega) (by omega)
    refine ⟨up u 344 j (2 * (j : Int)), ?_, fun m k hm => ?_, fun k k0 k1 => ?_⟩
    · rw [bX2_pileUp_2]
      simp (disch := first | assumption | omega) only [↓reduceIte, i3_add, i3_sub, i3_mul, i3_neg, i6_add, i6_sub, i6_mul, i6_neg, i3_lt, i3_le, i3_eq, i6_lt, i6_eq, i3_div, i6_div, i6_i3, i3_i6, c6_lt, c6_ge, c6_gt, c6_le, c6_eq, i3_ite, i6_ite, ib_0, ib_z, ite_not, i1_0, i0_0, jB_1, jB_0, jB_ib, bI_v, bL_v, bD_v, bV_v, ob_s, ob_i, i3_ofNat, jx_e, bI_e, bL_e, bD_e, bV_e, i3_eq0, i6_eq0, if_mx, if_mn, if_true, if_false, not_true_eq_false, not_false_eq_true, Int.reduceEq, Int.reduceLT, Int.reduceLE, g2_0, g2_1, i1 342 0, i1 342 1, hw.1, hw.2.1, z1, q, bX2_pileUp_15, r2_4, e1]
      rfl
    · rw [up_ne (by omega)]; exact i1 m k hm
    · by_cases g : k = j
      · rw [g, up_eq]
      · rw [up_ne (by omega)]; exact i2 k k0 (by omega)) w ⟨fun _ _ _ => rfl, fun k k0 k1 => by omega⟩
  obtain ⟨w1, e1, i1, i2⟩ := hl1
  have hw1 : foW w1 x f := foW_fr hw (fun m j a b cc => i1 m j a)
  have p0 : pI w1 344 x f 0 := by
    intro r cc t r0 r1 c0 c1 t0 t1
    have t1' : t < 1 := t1
    have hb := pl_lt (t := t) (b := htX 0) r0 r1 c0 c1 t0 t1
    rw [(fo_3 f hf x hx 0 (by omega)).1] at hb
    rw [i2 _ hb.1 (by omega)]
    show 2 * ((r * clX x f + cc) * 1 + t) = 2 * (r * clX x f + cc)
    omega
  have step : ∀ (k : Nat), k < f → ∀ (u : Nat → Int → Int) (x5 x6 : Option Value), pI u 344 x f k → foW u x f → ∃ u' x5' x6', jm_R (jm_env (d + 2)) jmM_X2_pileUp 47 [some (.ref 342), some (.int (i3 (dnX x f k))), some (.int (i3 (acX x f k))), some (.int (i3 (htX k))), some (.int (i3 (k : Nat))), x5, x6] [] (qM X v u T c s) = jm_R (jm_env (d + 2)) jmM_X2_pileUp 47 [some (.ref 342), some (.int (i3 (dnX x f (k + 1)))), some (.int (i3 (acX x f (k + 1)))), some (.int (i3 (htX (k + 1)))), some (.int (i3 ((k + 1 : Nat)))), x5', x6'] [] (qM X v u' T c s) ∧ pI u' 344 x f (k + 1) ∧ foW u' x f := by
    intro k hk u x5 x6 hp hu
    obtain ⟨a1, a2, a3, a4, a5⟩ := fo_3 f hf x hx k (by omega)
    obtain ⟨b1, b2, b3, b4, b5⟩ := fo_3 f hf x hx (k + 1) (by omega)
    have hbk := hu.2.2.2 k (by omega) (by omega)
    rw [Int.toNat_natCast] at hbk
    -- the columns of one row
    have cols : ∀ (r : Nat), (r : Int) < dnX x f (k + 1) → ∀ (u1 : Nat → Int → Int), (∀ (m : Nat) (j : Int), m ≠ 345 → u1 m j = u m j) → (∀ r' cc t : Int, 0 ≤ r' → r' < r → 0 ≤ cc → cc < acX x f (k + 1) → 0 ≤ t → t < htX (k + 1) → u1 345 ((r' * acX x f (k + 1) + cc) * htX (k + 1) + t) = qX x f (k + 1) r' cc t) →
        ∃ u2, jm_R (jm_env (d + 2)) jmM_X2_pileUp 95 [some (.ref 342), some (.int (i3 (dnX x f (k + 1)))), some (.int (i3 (acX x f (k + 1)))), some (.int (i3 (htX k))), some (.int (i3 (k : Nat))), some (.int (i3 (r : Nat))), some (.int (i3 0))] [] (qM X v u1 T c s) = jm_R (jm_env (d + 2)) jmM_X2_pileUp 95 [some (.ref 342), some (.int (i3 (dnX x f (k + 1)))), some (.int (i3 (acX x f (k + 1)))), some (.int (i3 (htX k))), some (.int (i3 (k : Nat))), some (.int (i3 (r : Nat))), some (.int (i3 (acX x f (k + 1))))] [] (qM X v u2 T c s) ∧ (∀ (m : Nat) (j : Int), m ≠ 345 → u2 m j = u m j) ∧ (∀ r' cc t : Int, 0 ≤ r' → r' < r + 1 → 0 ≤ cc → cc < acX x f (k + 1) → 0 ≤ t → t < htX (k + 1) → u2 345 ((r' * acX x f (k + 1) + cc) * htX (k + 1) + t) = qX x f (k + 1) r' cc t) := by
      intro r hr u1 hu1 hd1
      have hl := lpI (S := Nat → Int → Int) (L := fun j y => jm_R (jm_env (d + 2)) jmM_X2_pileUp 95 [some (.ref 342), some (.int (i3 (dnX x f (k + 1)))), some (.int (i3 (acX x f (k + 1)))), some (.int (i3 (htX k))), some (.int (i3 (k : Nat))), some (.int (i3 (r : Nat))), some (.int (i3 (j : Nat)))] [] (qM X v y T c s)) (I := fun j y => (∀ (m : Nat) (j : Int), m ≠ 345 → y m j = u m j) ∧ (∀ r' cc t : Int, 0 ≤ r' → (r' < r ∨ (r' = r ∧ cc < (j : Nat))) → 0 ≤ cc → cc < acX x f (k + 1) → 0 ≤ t → t < htX (k + 1) → y 345 ((r' * acX x f (k + 1) + cc) * htX (k + 1) + t) = qX x f (k + 1) r' cc t)) (acX x f (k + 1)).toNat 0 (fun j y _ hj ⟨j1, j2⟩ => by
        have q : (acX x f (k + 1) ≤ (j : Int)) = False := eq_false (by omega)
        have hpy : pI y 344 x f k := fun r' cc t r0 r1 c0 c1 t0 t1 => by rw [j1 344 _ (by omega)]; exact hp r' cc t r0 r1 c0 c1 t0 t1
        obtain ⟨y', e, k1, k2, k3⟩ := tX2_layPlace (d := d) (X := X) (v := v) (w := y) (T := T) (cc := c) (s := s) (r := (r : Int)) (c := (j : Int)) hf hx hk (by omega) hr (by omega) (by omega) hpy
        refine ⟨y', ?_, fun m z hm => (k1 m z hm).trans (j1 m z hm), fun r' cc t r0 r1 c0 c1 t0 t1 => ?_⟩
        · rw [bX2_pileUp_95]
          simp (disch := first | assumption | omega) only [↓reduceIte, i3_add, i3_sub, i3_mul, i3_neg, i6_add, i6_sub, i6_mul, i6_neg, i3_lt, i3_le, i3_eq, i6_lt, i6_eq, i3_div, i6_div, i6_i3, i3_i6, c6_lt, c6_ge, c6_gt, c6_le, c6_eq, i3_ite, i6_ite, ib_0, ib_z, ite_not, i1_0, i0_0, jB_1, jB_0, jB_ib, bI_v, bL_v, bD_v, bV_v, ob_s, ob_i, i3_ofNat, jx_e, bI_e, bL_e, bD_e, bV_e, i3_eq0, i6_eq0, if_mx, if_mn, if_true, if_false, not_true_eq_false, not_false_eq_true, Int.reduceEq, Int.reduceLT, Int.reduceLE, q, bX2_pileUp_101, r2_3, a2_3, j1 343, hbk, e]
          rfl
        · by_cases g : r' = r ∧ cc = j
          · rw [g.1, g.2]
            exact k3 t t0 t1
          · have hlt : r' * acX x f (k + 1) + cc + 1 ≤ (r : Int) * acX x f (k + 1) + j := by
              rcases r1 with q1 | ⟨q1, q2⟩
              · have : (r' + 1) * acX x f (k + 1) ≤ (r : Int) * acX x f (k + 1) := Int.mul_le_mul_of_nonneg_right (by omega) (by omega)
                rw [Int.add_mul, Int.one_mul] at this
                omega
              · rw [q1]; omega
            have h4 : (r' * acX x f (k + 1) + cc + 1) * htX (k + 1) ≤ ((r : Int) * acX x f (k + 1) + j) * htX (k + 1) := Int.mul_le_mul_of_nonneg_right hlt (by omega)
            rw [Int.add_mul, Int.one_mul] at h4
            rw [k2 _ (Or.inl (by omega))]
            exact j2 r' cc t r0 (by omega) c0 c1 t0 t1) u1 ⟨hu1, fun r' cc t r0 r1 c0 c1 t0 t1 => hd1 r' cc t r0 (by omega) c0 c1 t0 t1⟩
      obtain ⟨u2, e, j1, j2⟩ := hl
      refine ⟨u2, ?_, j1, fun r' cc t r0 r1 c0 c1 t0 t1 => j2 r' cc t r0 (by omega) c0 c1 t0 t1⟩
      rw [show (acX x f (k + 1)) = ((0 + (acX x f (k + 1)).toNat : Nat) : Int) by omega]
      rw [show ((0 + (acX x f (k + 1)).toNat : Nat) : Int) = acX x f (k + 1) by omega] at e ⊢
      exact e
    have hl := lpI (S := (Nat → Int → Int) × Option Value) (L := fun j y => jm_R (jm_env (d + 2)) jmM_X2_pileUp 86 [some (.ref 342), some (.int (i3 (dnX x f (k + 1)))), some (.int (i3 (acX x f (k + 1)))), some (.int (i3 (htX k))), some (.int (i3 (k : Nat))), some (.int (i3 (j : Nat))), y.2] [] (qM X v y.1 T c s)) (I := fun j y => (∀ (m : Nat) (j : Int), m ≠ 345 → y.1 m j = u m j) ∧ (∀ r' cc t : Int, 0 ≤ r' → r' < (j : Nat) → 0 ≤ cc → cc < acX x f (k + 1) → 0 ≤ t → t < htX (k + 1) → y.1 345 ((r' * acX x f (k + 1) + cc) * htX (k + 1) + t) = qX x f (k + 1) r' cc t)) (dnX x f (k + 1)).toNat 0 (fun j y _ hj ⟨j1, j2⟩ => by
      have q : (dnX x f (k + 1) ≤ (j : Int)) = False := eq_false (by omega)
      obtain ⟨u2, e, k1, k2⟩ := cols j (by omega) y.1 j1 j2
      refine ⟨(u2, some (.int (i3 (acX x f (k + 1))))), ?_, k1, fun r' cc t r0 r1 c0 c1 t0 t1 => k2 r' cc t r0 (by omega) c0 c1 t0 t1⟩
      have q2 : (acX x f (k + 1) ≤ acX x f (k + 1)) = True := eq_true (Int.le_refl _)
      show jm_R _ _ 86 [_, _, _, _, _, some (.int (i3 (j : Nat))), _] [] _ = jm_R _ _ 86 [_, _, _, _, _, some (.int (i3 ((j + 1 : Nat)))), _] [] _
      rw [bX2_pileUp_86]
      simp (disch := first | assumption | omega) only [↓reduceIte, i3_add, i3_sub, i3_mul, i3_neg, i6_add, i6_sub, i6_mul, i6_neg, i3_lt, i3_le, i3_eq, i6_lt, i6_eq, i3_div, i6_div, i6_i3, i3_i6, c6_lt, c6_ge, c6_gt, c6_le, c6_eq, i3_ite, i6_ite, ib_0, ib_z, ite_not, i1_0, i0_0, jB_1, jB_0, jB_ib, bI_v, bL_v, bD_v, bV_v, ob_s, ob_i, i3_ofNat, jx_e, bI_e, bL_e, bD_e, bV_e, i3_eq0, i6_eq0, if_mx, if_mn, if_true, if_false, not_true_eq_false, not_false_eq_true, Int.reduceEq, Int.reduceLT, Int.reduceLE, q, bX2_pileUp_92, e]
      rw [bX2_pileUp_95]
      simp (disch := first | assumption | omega) only [↓reduceIte, i3_add, i3_sub, i3_mul, i3_neg, i6_add, i6_sub, i6_mul, i6_neg, i3_lt, i3_le, i3_eq, i6_lt, i6_eq, i3_div, i6_div, i6_i3, i3_i6, c6_lt, c6_ge, c6_gt, c6_le, c6_eq, i3_ite, i6_ite, ib_0, ib_z, ite_not, i1_0, i0_0, jB_1, jB_0, jB_ib, bI_v, bL_v, bD_v, bV_v, ob_s, ob_i, i3_ofNat, jx_e, bI_e, bL_e, bD_e, bV_e, i3_eq0, i6_eq0, if_mx, if_mn, if_true, if_false, not_true_eq_false, not_false_eq_true, Int.reduceEq, Int.reduceLT, Int.reduceLE, q2, bX2_pileUp_125]
      rfl) (u, x6) ⟨fun _ _ _ => rfl, fun r' cc t r0 r1 => by omega⟩
    obtain ⟨y, e, j1, j2⟩ := hl
    refine ⟨fil y.1 344 (y.1 345) 32, some (.int (i3 (dnX x f (k + 1)))), y.2, ?_, fun r cc t r0 r1 c0 c1 t0 t1 => ?_, foW_fr hu (fun m j m1 m2 m3 => ?_)⟩
    · have q : ((f : Int) ≤ (k : Int)) = False := eq_false (by omega)
      have q5 : ((5 : Int) ≤ (k : Int)) = False := eq_false (by omega)
      have q2 : (dnX x f (k + 1) ≤ ((0 + (dnX x f (k + 1)).toNat : Nat) : Int)) = True := eq_true (by omega)
      have e' : jm_R (jm_env (d + 2)) jmM_X2_pileUp 86 [some (.ref 342), some (.int (i3 (dnX x f (k + 1)))), some (.int (i3 (acX x f (k + 1)))), some (.int (i3 (htX k))), some (.int (i3 (k : Nat))), some (.int (i3 0)), x6] [] (qM X v u T c s) = _ := e
      rw [bX2_pileUp_47]
      have e2 : jm_R (jm_env (d + 2)) jmM_X2_pileUp 86 [some (.ref 342), some (.int (i3 (dnX x f (k + 1)))), some (.int (i3 (acX x f (k + 1)))), some (.int (i3 (htX k))), some (.int (i3 (k : Nat))), some (.int (i3 ((0 + (dnX x f (k + 1)).toNat : Nat) : Int))), y.2] [] (qM X v y.1 T c s) = jm_R (jm_env (d + 2)) jmM_X2_pileUp 47 [some (.ref 342), some (.int (i3 (dnX x f (k + 1)))), some (.int (i3 (acX x f (k + 1)))), some (.int (i3 (htX (k + 1)))), some (.int (i3 ((k + 1 : Nat)))), some (.int (i3 (dnX x f (k + 1)))), y.2] [] (qM X v (fil y.1 344 (y.1 345) 32) T c s) := by
        rw [bX2_pileUp_86]
        simp (disch := first | assumption | omega) only [↓reduceIte, i3_add, i3_sub, i3_mul, i3_neg, i6_add, i6_sub, i6_mul, i6_neg, i3_lt, i3_le, i3_eq, i6_lt, i6_eq, i3_div, i6_div, i6_i3, i3_i6, c6_lt, c6_ge, c6_gt, c6_le, c6_eq, i3_ite, i6_ite, ib_0, ib_z, ite_not, i1_0, i0_0, jB_1, jB_0, jB_ib, bI_v, bL_v, bD_v, bV_v, ob_s, ob_i, i3_ofNat, jx_e, bI_e, bL_e, bD_e, bV_e, i3_eq0, i6_eq0, if_mx, if_mn, if_true, if_false, not_true_eq_false, not_false_eq_true, Int.reduceEq, Int.reduceLT, Int.reduceLE, q2, bX2_pileUp_131, r2_5, r2_4, cp_344]
        rw [show ((0 + (dnX x f (k + 1)).toNat : Nat) : Int) = dnX x f (k + 1) by omega]
        rfl
      cases hb : bt x k
      · rw [hb, if_neg Bool.false_ne_true] at hbk
        have ed : dnX x f (k + 1) = dnX x f k := by show (if bt x k = true then _ else _) = _; rw [hb, if_neg Bool.false_ne_true]
        have ea : acX x f (k + 1) = acX x f k / 2 := by show (if bt x k = true then _ else _) = _; rw [hb, if_neg Bool.false_ne_true]
        have e3 := e'.trans e2
        rw [ed, ea] at e3
        rw [ed, ea]
        refine Eq.trans ?_ e3
        simp (disch := first | assumption | omega) only [↓reduceIte, i3_add, i3_sub, i3_mul, i3_neg, i6_add, i6_sub, i6_mul, i6_neg, i3_lt, i3_le, i3_eq, i6_lt, i6_eq, i3_div, i6_div, i6_i3, i3_i6, c6_lt, c6_ge, c6_gt, c6_le, c6_eq, i3_ite, i6_ite, ib_0, ib_z, ite_not, i1_0, i0_0, jB_1, jB_0, jB_ib, bI_v, bL_v, bD_v, bV_v, ob_s, ob_i, i3_ofNat, jx_e, bI_e, bL_e, bD_e, bV_e, i3_eq0, i6_eq0, if_mx, if_mn, if_true, if_false, not_true_eq_false, not_false_eq_true, Int.reduceEq, Int.reduceLT, Int.reduceLE, g2_2, hu.2.2.1, q, q5, bX2_pileUp_53, bX2_pileUp_62, r2_3, a2_3, hbk, bX2_pileUp_79, bX2_pileUp_83]
      · rw [hb, if_pos rfl] at hbk
        have q10 : ((1 : Int) = 0) = False := by decide
        have ed : dnX x f (k + 1) = dnX x f k / 2 := by show (if bt x k = true then _ else _) = _; rw [hb, if_pos rfl]
        have ea : acX x f (k + 1) = acX x f k := by show (if bt x k = true then _ else _) = _; rw [hb, if_pos rfl]
        have e3 := e'.trans e2
        rw [ed, ea] at e3
        rw [ed, ea]
        refine Eq.trans ?_ e3
        simp (disch := first | assumption | omega) only [↓reduceIte, i3_add, i3_sub, i3_mul, i3_neg, i6_add, i6_sub, i6_mul, i6_neg, i3_lt, i3_le, i3_eq, i6_lt, i6_eq, i3_div, i6_div, i6_i3, i3_i6, c6_lt, c6_ge, c6_gt, c6_le, c6_eq, i3_ite, i6_ite, ib_0, ib_z, ite_not, i1_0, i0_0, jB_1, jB_0, jB_ib, bI_v, bL_v, bD_v, bV_v, ob_s, ob_i, i3_ofNat, jx_e, bI_e, bL_e, bD_e, bV_e, i3_eq0, i6_eq0, if_mx, if_mn, if_true, if_false, not_true_eq_false, not_false_eq_true, Int.reduceEq, Int.reduceLT, Int.reduceLE, g2_2, hu.2.2.1, q, q5, bX2_pileUp_53, bX2_pileUp_62, r2_3, a2_3, hbk, q10, bX2_pileUp_72, bX2_pileUp_83]
    · have hb := pl_lt (t := t) (b := htX (k + 1)) r0 r1 c0 c1 t0 t1
      rw [b1] at hb
      rw [fil_in hb.1 (by omega)]
      exact j2 r cc t r0 (by omega) c0 c1 t0 t1
    · rw [fil_ne (by omega)]; exact j1 m j m2
  have hl := lpI (S := (Nat → Int → Int) × Option Value × Option Value) (L := fun j y => jm_R (jm_env (d + 2)) jmM_X2_pileUp 47 [some (.ref 342), some (.int (i3 (dnX x f j))), some (.int (i3 (acX x f j))), some (.int (i3 (htX j))), some (.int (i3 (j : Nat))), y.2.1, y.2.2] [] (qM X v y.1 T c s)) (I := fun j y => pI y.1 344 x f j ∧ foW y.1 x f) f 0 (fun j y _ hj ⟨j1, j2⟩ => by
    obtain ⟨u', x5, x6, e, k1, k2⟩ := step j (by omega) y.1 y.2.1 y.2.2 j1 j2
    exact ⟨(u', x5, x6), e, k1, k2⟩) (w1, none, none) ⟨p0, hw1⟩
  obtain ⟨y, e, j1, j2⟩ := hl
  rw [Nat.zero_add] at e j1
  refine ⟨y.1, ?_, j1, j2⟩
  have q1 : (htX f ≤ ((0 + 2 ^ f : Nat) : Int)) = True := eq_true (by omega)
  have q2 : ((f : Int) ≤ (f : Int)) = True := eq_true (Int.le_refl _)
  have e0 : jm_R (jm_env (d + 2)) jmM_X2_pileUp 2 [some (.ref 342), some (.int (i3 0)), none, none, none, none, none] [] (qM X v w T c s) = _ := e1
  rw [eX2_pileUp, bX2_pileUp_0, e0, bX2_pileUp_2]
  simp (disch := first | assumption | omega) only [↓reduceIte, i3_add, i3_sub, i3_mul, i3_neg, i6_add, i6_sub, i6_mul, i6_neg, i3_lt, i3_le, i3_eq, i6_lt, i6_eq, i3_div, i6_div, i6_i3, i3_i6, c6_lt, c6_ge, c6_gt, c6_le, c6_eq, i3_ite, i6_ite, ib_0, ib_z, ite_not, i1_0, i0_0, jB_1, jB_0, jB_ib, bI_v, bL_v, bD_v, bV_v, ob_s, ob_i, i3_ofNat, jx_e, bI_e, bL_e, bD_e, bV_e, i3_eq0, i6_eq0, if_mx, if_mn, if_true, if_false, not_true_eq_false, not_false_eq_true, Int.reduceEq, Int.reduceLT, Int.reduceLE, g2_0, g2_1, hw1.1, hw1.2.1, z1, q1, bX2_pileUp_32]
  refine Eq.trans e ?_
  show jm_R _ _ 47 _ _ _ = _
  rw [bX2_pileUp_47]
  by_cases g5 : (5 : Int) ≤ (f : Int)
  · have q5 : ((5 : Int) ≤ (f : Int)) = True := eq_true g5
    simp (disch := first | assumption | omega) only [↓reduceIte, i3_add, i3_sub, i3_mul, i3_neg, i6_add, i6_sub, i6_mul, i6_neg, i3_lt, i3_le, i3_eq, i6_lt, i6_eq, i3_div, i6_div, i6_i3, i3_i6, c6_lt, c6_ge, c6_gt, c6_le, c6_eq, i3_ite, i6_ite, ib_0, ib_z, ite_not, i1_0, i0_0, jB_1, jB_0, jB_ib, bI_v, bL_v, bD_v, bV_v, ob_s, ob_i, i3_ofNat, jx_e, bI_e, bL_e, bD_e, bV_e, i3_eq0, i6_eq0, if_mx, if_mn, if_true, if_false, not_true_eq_false, not_false_eq_true, Int.reduceEq, Int.reduceLT, Int.reduceLE, q5, bX2_pileUp_156]
  · have q5 : ((5 : Int) ≤ (f : Int)) = False := eq_false g5
    simp (disch := first | assumption | omega) only [↓reduceIte, i3_add, i3_sub, i3_mul, i3_neg, i6_add, i6_sub, i6_mul, i6_neg, i3_lt, i3_le, i3_eq, i6_lt, i6_eq, i3_div, i6_div, i6_i3, i3_i6, c6_lt, c6_ge, c6_gt, c6_le, c6_eq, i3_ite, i6_ite, ib_0, ib_z, ite_not, i1_0, i0_0, jB_1, jB_0, jB_ib, bI_v, bL_v, bD_v, bV_v, ob_s, ob_i, i3_ofNat, jx_e, bI_e, bL_e, bD_e, bV_e, i3_eq0, i6_eq0, if_mx, if_mn, if_true, if_false, not_true_eq_false, not_false_eq_true, Int.reduceEq, Int.reduceLT, Int.reduceLE, q5, bX2_pileUp_53, g2_2, j2.2.2.1, q2, bX2_pileUp_156]
theorem tX2_numberPages {x f : Nat} (hf : f < 6) (hx : x < 2 ^ f) (hw : foW w x f) (hp : pI w 344 x f f) : ∃ w', jm_env (d + 2) 32 [.ref 342] (qM X v w T c s) = some (.inl none, qM X v w' T c s) ∧ foW w' x f ∧ ∀ j : Int, 0 ≤ j → j < 2 * htX f → w' 346 j = pgI x f j := by
  obtain ⟨z1, z2, z3, z4, z5, z6, z7⟩ := fo_1 f hf x hx
  obtain ⟨h1, h2, h3⟩ := fo_h f hf
  have hpl : ∀ l : Nat, l < 2 ^ f → w 344 l = qX x f f 0 0 l := fun l hl => by
    have h := hp 0 0 l (by omega) (by omega) (by omega) (by omega) (by omega) (by omega)
    rw [Int.zero_mul, Int.zero_add, Int.zero_mul, Int.zero_add] at h
    exact h
  have hl1 := lpI (S := (Nat → Int → Int) × Option Value) (L := fun j y => jm_R (jm_env (d + 1)) jmM_X2_numberPages 2 [some (.ref 342), some (.int (i3 (j : Nat))), y.2] [] (qM X v y.1 T c s)) (I := fun j y => (∀ (m : Nat) (k : Int), m ≠ 346 → y.1 m k = w m k) ∧ ∀ (k : Int) (l : Nat), l < j → (qX x f f 0 0 l = k ∨ xr (qX x f f 0 0 l) = k) → y.1 346 k = pgI x f k) (2 ^ f) 0 (fun j y _ hj ⟨i1, i2⟩ => by
    obtain ⟨u, x5⟩ := y
    dsimp only at i1 i2
    have q : (htX f ≤ (j : Int)) = False := eq_false (by omega)
    obtain ⟨y1, y2, y3, y4⟩ := fo_5 f hf x hx j (by omega)
    obtain ⟨q0, q1⟩ := fo_4i (k := f) (r := 0) (c := 0) (t := j) hf hx (by omega) (by omega) (by omega) (by omega) (by omega) (by omega) (by omega)
    have e1 := v344 (d := d) (X := X) (v := v) (w := u) (T := T) (c := c) (s := s) (z := j) (by omega) (by omega)
    rw [i1 344 _ (by omega), hpl j (by omega)] at e1
    generalize hQ : qX x f f 0 0 j = Q at *
    have e2 := s346 (d := d) (X := X) (v := v) (w := u) (T := T) (c := c) (s := s) (z := Q) (y := 2 * (j : Int) + 1) q0 q1
    have e3 := s346 (d := d) (X := X) (v := v) (w := up u 346 Q (2 * (j : Int) + 1)) (T := T) (c := c) (s := s) (z := xr Q) (y := 2 * (j : Int) + 2) y3 (by omega)
    refine ⟨(up (up u 346 Q (2 * (j : Int) + 1)) 346 (xr Q) (2 * (j : Int) + 2), some (.int (i3 Q))), ?_, fun m k hm => ?_, fun k l hl hk => ?_⟩
    · show jm_R _ _ 2 [_, some (.int (i3 (j : Nat))), _] [] _ = jm_R _ _ 2 [_, some (.int (i3 ((j + 1 : Nat)))), _] [] _
      rw [bX2_numberPages_2]
      simp (disch := first | assumption | omega) only [↓reduceIte, i3_add, i3_sub, i3_mul, i3_neg, i6_add, i6_sub, i6_mul, i6_neg, i3_lt, i3_le, i3_eq, i6_lt, i6_eq, i3_div, i6_div, i6_i3, i3_i6, c6_lt, c6_ge, c6_gt, c6_le, c6_eq, i3_ite, i6_ite, ib_0, ib_z, ite_not, i1_0, i0_0, jB_1, jB_0, jB_ib, bI_v, bL_v, bD_v, bV_v, ob_s, ob_i, i3_ofNat, jx_e, bI_e, bL_e, bD_e, bV_e, i3_eq0, i6_eq0, if_mx, if_mn, if_true, if_false, not_true_eq_false, not_false_eq_true, Int.reduceEq, Int.reduceLT, Int.reduceLE, g2_0, g2_1, i1 342 0, i1 342 1, hw.1, hw.2.1, z1, q, bX2_numberPages_15, r2_4, r2_6, e1, e2, i3_xr q0 q1, e3]
      rfl
    · show up (up u 346 Q _) 346 (xr Q) _ m k = _
      rw [up_ne (by omega), up_ne (by omega)]; exact i1 m k hm
    · show up (up u 346 Q _) 346 (xr Q) _ 346 k = _
      by_cases g : k = xr Q
      · rw [g, up_eq]; exact y2.symm
      · rw [up_ne (by omega)]
        by_cases g2 : k = Q
        · rw [g2, up_eq]; exact y1.symm
        · rw [up_ne (by omega)]
          refine i2 k l ?_ hk
          by_cases g3 : l = j
          · rw [g3, hQ] at hk
            rcases hk with hk | hk
            · exact absurd hk.symm g2
            · exact absurd hk.symm g
          · omega) (w, none) ⟨fun _ _ _ => rfl, fun k l hl => by omega⟩
  obtain ⟨⟨w', x5⟩, e, i1, i2⟩ := hl1
  dsimp only at e i1 i2
  have hw' : foW w' x f := ⟨(i1 342 0 (by omega)).trans hw.1, (i1 342 1 (by omega)).trans hw.2.1, (i1 342 2 (by omega)).trans hw.2.2.1, fun k k0 k1 => (i1 343 k (by omega)).trans (hw.2.2.2 k k0 k1)⟩
  refine ⟨w', ?_, hw', fun j j0 j1 => ?_⟩
  · have q1 : (htX f ≤ ((0 + 2 ^ f : Nat) : Int)) = True := eq_true (by omega)
    have e0 : jm_R (jm_env (d + 1)) jmM_X2_numberPages 2 [some (.ref 342), some (.int (i3 0)), none] [] (qM X v w T c s) = _ := e
    rw [eX2_numberPages, bX2_numberPages_0, e0, bX2_numberPages_2]
    simp (disch := first | assumption | omega) only [↓reduceIte, i3_add, i3_sub, i3_mul, i3_neg, i6_add, i6_sub, i6_mul, i6_neg, i3_lt, i3_le, i3_eq, i6_lt, i6_eq, i3_div, i6_div, i6_i3, i3_i6, c6_lt, c6_ge, c6_gt, c6_le, c6_eq, i3_ite, i6_ite, ib_0, ib_z, ite_not, i1_0, i0_0, jB_1, jB_0, jB_ib, bI_v, bL_v, bD_v, bV_v, ob_s, ob_i, i3_ofNat, jx_e, bI_e, bL_e, bD_e, bV_e, i3_eq0, i6_eq0, if_mx, if_mn, if_true, if_false, not_true_eq_false, not_false_eq_true, Int.reduceEq, Int.reduceLT, Int.reduceLE, g2_0, g2_1, hw'.1, hw'.2.1, z1, q1, bX2_numberPages_58]
  · obtain ⟨l, l0, hl⟩ := fo_6 f hf x hx j.toNat (by omega)
    unfold z6a at hl
    rw [Int.toNat_of_nonneg j0] at hl
    exact i2 j l (by omega) hl
/-- what a folded sheet holds -/
def FU (w : Nat → Int → Int) (x f : Nat) : Prop := foW w x f ∧ ∀ j : Int, 0 ≤ j → j < 2 * htX f → w 346 j = pgI x f j
/-- the pattern of series i from size n on -/
def ptn (μ : Nat → Int → Int) (i n : Int) (x f : Nat) : Prop := ∀ k < f, (bt x k = true ↔ (szM μ i (n + k)).1 ≤ (szM μ i (n + k)).2)
theorem ptn_e (μ : Nat → Int → Int) (i n : Int) {f : Nat} (hf : f < 6) : ∃ x < 2 ^ f, ptn μ i n x f := fo_p hf
theorem tX2_foldUp {μ : Nat → Int → Int} {b i x f : Nat} {n : Int} (h : LO v b μ) (hi : (i : Int) < μ 412 0) (hf : f < 6) (hx : x < 2 ^ f) (n0 : 0 ≤ n) (n1 : n + f < 10) (hp : ptn μ i n x f) : ∃ w', jm_env (d + 4) 29 [.ref 342, .ref (b + 7 + 5 * i), .int (i3 n), .int (i3 (f : Nat))] (qM X v w T c s) = some (.inl none, qM X v w' T c s) ∧ FU w' x f := by
  have hg := h.2.2.1
  have hl := lpI (S := Nat → Int → Int) (L := fun j u => jm_R (jm_env (d + 3)) jmM_X2_foldUp 26 [some (.ref 342), some (.ref (b + 7 + 5 * i)), some (.int (i3 n)), some (.int (i3 (f : Nat))), some (.int (i3 (j : Nat)))] [] (qM X v u T c s)) (I := fun j u => u 342 0 = rwX x j ∧ u 342 1 = clX x j ∧ u 342 2 = (f : Int) ∧ ∀ k : Int, 0 ≤ k → k < (j : Nat) → u 343 k = if bt x k.toNat = true then 1 else 0) f 0 (fun j u _ hj ⟨i1, i2, i3', i4⟩ => by
    have q : ((f : Int) ≤ (j : Int)) = False := eq_false (by omega)
    have e1 := tX9_highAt (d := d + 2) (X := X) (w := u) (T := T) (c := c) (s := s) h hi (n := n + j) (by omega) (by omega)
    have e2 := tX9_wideAt (d := d + 2) (X := X) (w := u) (T := T) (c := c) (s := s) h hi (n := n + j) (by omega) (by omega)
    have hb := hp j (by omega)
    have hr := szM_b (hg.2.2.2.2 i (by omega) hi).1 (n + j)
    have q10 : ((1 : Int) = 0) = False := by decide
    cases hbt : bt x j
    · have q2 : ((szM μ i (n + j)).2 < (szM μ i (n + j)).1) = True := eq_true (by
        rw [hbt] at hb
        have : ¬ (szM μ i (n + j)).1 ≤ (szM μ i (n + j)).2 := fun q => Bool.false_ne_true (hb.mpr q)
        omega)
      refine ⟨up (up u 343 j 0) 342 1 (2 * clX x j), ?_, ?_, ?_, ?_, fun k k0 k1 => ?_⟩
      · rw [bX2_foldUp_26]
        simp (disch := first | assumption | omega) only [↓reduceIte, i3_add, i3_sub, i3_mul, i3_neg, i6_add, i6_sub, i6_mul, i6_neg, i3_lt, i3_le, i3_eq, i6_lt, i6_eq, i3_div, i6_div, i6_i3, i3_i6, c6_lt, c6_ge, c6_gt, c6_le, c6_eq, i3_ite, i6_ite, ib_0, ib_z, ite_not, i1_0, i0_0, jB_1, jB_0, jB_ib, bI_v, bL_v, bD_v, bV_v, ob_s, ob_i, i3_ofNat, jx_e, bI_e, bL_e, bD_e, bV_e, i3_eq0, i6_eq0, if_mx, if_mn, if_true, if_false, not_true_eq_false, not_false_eq_true, Int.reduceEq, Int.reduceLT, Int.reduceLE, g2_2, i3', q, bX2_foldUp_35, r2_3, e1, e2, q2, bX2_foldUp_64, bX2_foldUp_65, w2_3, a2_3, up_eq, bX2_foldUp_89, g2_1, up_ne, i2, p2_1, bX2_foldUp_99]
        rfl
      · rw [up_ne (by omega), up_ne (by omega), i1]
        show _ = (if bt x j = true then _ else _)
        rw [hbt, if_neg Bool.false_ne_true]
      · rw [up_eq]
        show _ = (if bt x j = true then _ else _)
        rw [hbt, if_neg Bool.false_ne_true]
      · rw [up_ne (by omega), up_ne (by omega)]; exact i3'
      · rw [up_ne (by omega)]
        by_cases g : k = j
        · rw [g, up_eq, Int.toNat_natCast, hbt, if_neg Bool.false_ne_true]
        · rw [up_ne (by omega)]; exact i4 k k0 (by omega)
    · have q2 : ((szM μ i (n + j)).2 < (szM μ i (n + j)).1) = False := eq_false (by
        have := hb.mp hbt
        omega)
      refine ⟨up (up u 343 j 1) 342 0 (2 * rwX x j), ?_, ?_, ?_, ?_, fun k k0 k1 => ?_⟩
      · rw [bX2_foldUp_26]
        simp (disch := first | assumption | omega) only [↓reduceIte, i3_add, i3_sub, i3_mul, i3_neg, i6_add, i6_sub, i6_mul, i6_neg, i3_lt, i3_le, i3_eq, i6_lt, i6_eq, i3_div, i6_div, i6_i3, i3_i6, c6_lt, c6_ge, c6_gt, c6_le, c6_eq, i3_ite, i6_ite, ib_0, ib_z, ite_not, i1_0, i0_0, jB_1, jB_0, jB_ib, bI_v, bL_v, bD_v, bV_v, ob_s, ob_i, i3_ofNat, jx_e, bI_e, bL_e, bD_e, bV_e, i3_eq0, i6_eq0, if_mx, if_mn, if_true, if_false, not_true_eq_false, not_false_eq_true, Int.reduceEq, Int.reduceLT, Int.reduceLE, g2_2, i3', q, bX2_foldUp_35, r2_3, e1, e2, q2, bX2_foldUp_60, bX2_foldUp_65, w2_3, a2_3, up_eq, q10, bX2_foldUp_76, g2_0, up_ne, i1, p2_0, bX2_foldUp_99]
        rfl
      · rw [up_eq]
        show _ = (if bt x j = true then _ else _)
        rw [hbt, if_pos rfl]
      · rw [up_ne (by omega), up_ne (by omega), i2]
        show _ = (if bt x j = true then _ else _)
        rw [hbt, if_pos rfl]
      · rw [up_ne (by omega), up_ne (by omega)]; exact i3'
      · rw [up_ne (by omega)]
        by_cases g : k = j
        · rw [g, up_eq, Int.toNat_natCast, hbt, if_pos rfl]
        · rw [up_ne (by omega)]; exact i4 k k0 (by omega)) (up (up (up w 342 2 f) 342 0 1) 342 1 1) ⟨by rw [up_ne (by omega), up_eq]; rfl, by rw [up_eq]; rfl, by rw [up_ne (by omega), up_ne (by omega), up_eq], fun k k0 k1 => by omega⟩
  obtain ⟨u, e, i1, i2, i3', i4⟩ := hl
  rw [Nat.zero_add] at e i1 i2 i4
  obtain ⟨w1, e1, p1, f1⟩ := tX2_pileUp (d := d) (X := X) (v := v) (w := u) (T := T) (c := c) (s := s) hf hx ⟨i1, i2, i3', i4⟩
  obtain ⟨w2, e2, f2, p2⟩ := tX2_numberPages (d := d + 1) (X := X) (v := v) (w := w1) (T := T) (c := c) (s := s) hf hx f1 p1
  refine ⟨w2, ?_, f2, p2⟩
  have q2 : ((f : Int) ≤ (f : Int)) = True := eq_true (Int.le_refl _)
  have e0 : jm_R (jm_env (d + 3)) jmM_X2_foldUp 26 [some (.ref 342), some (.ref (b + 7 + 5 * i)), some (.int (i3 n)), some (.int (i3 (f : Nat))), some (.int (i3 0))] [] (qM X v (up (up (up w 342 2 f) 342 0 1) 342 1 1) T c s) = _ := e
  have e3 : jm_R (jm_env (d + 3)) jmM_X2_foldUp 26 [some (.ref 342), some (.ref (b + 7 + 5 * i)), some (.int (i3 n)), some (.int (i3 (f : Nat))), some (.int (i3 0))] [] (qM X v (up (up (up w 342 2 f) 342 0 1) 342 1 1) T c s) = some (.inl none, qM X v w2 T c s) := by
    rw [e0, bX2_foldUp_26]
    simp (disch := first | assumption | omega) only [↓reduceIte, i3_add, i3_sub, i3_mul, i3_neg, i6_add, i6_sub, i6_mul, i6_neg, i3_lt, i3_le, i3_eq, i6_lt, i6_eq, i3_div, i6_div, i6_i3, i3_i6, c6_lt, c6_ge, c6_gt, c6_le, c6_eq, i3_ite, i6_ite, ib_0, ib_z, ite_not, i1_0, i0_0, jB_1, jB_0, jB_ib, bI_v, bL_v, bD_v, bV_v, ob_s, ob_i, i3_ofNat, jx_e, bI_e, bL_e, bD_e, bV_e, i3_eq0, i6_eq0, if_mx, if_mn, if_true, if_false, not_true_eq_false, not_false_eq_true, Int.reduceEq, Int.reduceLT, Int.reduceLE, g2_2, i3', q2, bX2_foldUp_105, e1, e2]
  rw [eX2_foldUp, bX2_foldUp_0]
  by_cases g5 : f < 5
  · have q5 : ((f : Int) < 5) = True := eq_true (by omega)
    by_cases g0 : 0 < f
    · have q0 : (0 < (f : Int)) = True := eq_true (by omega)
      simp (disch := first | assumption | omega) only [↓reduceIte, i3_add, i3_sub, i3_mul, i3_neg, i6_add, i6_sub, i6_mul, i6_neg, i3_lt, i3_le, i3_eq, i6_lt, i6_eq, i3_div, i6_div, i6_i3, i3_i6, c6_lt, c6_ge, c6_gt, c6_le, c6_eq, i3_ite, i6_ite, ib_0, ib_z, ite_not, i1_0, i0_0, jB_1, jB_0, jB_ib, bI_v, bL_v, bD_v, bV_v, ob_s, ob_i, i3_ofNat, jx_e, bI_e, bL_e, bD_e, bV_e, i3_eq0, i6_eq0, if_mx, if_mn, if_true, if_false, not_true_eq_false, not_false_eq_true, Int.reduceEq, Int.reduceLT, Int.reduceLE, q5, q0, p2_2, p2_0, p2_1, e3]
    · have hf0 : f = 0 := by omega
      subst hf0
      have q0 : ((0 : Int) < ((0 : Nat) : Int)) = False := by decide
      have q6 : (((0 : Nat) : Int) < 5) = True := by decide
      simp (disch := first | assumption | omega) only [↓reduceIte, i3_add, i3_sub, i3_mul, i3_neg, i6_add, i6_sub, i6_mul, i6_neg, i3_lt, i3_le, i3_eq, i6_lt, i6_eq, i3_div, i6_div, i6_i3, i3_i6, c6_lt, c6_ge, c6_gt, c6_le, c6_eq, i3_ite, i6_ite, ib_0, ib_z, ite_not, i1_0, i0_0, jB_1, jB_0, jB_ib, bI_v, bL_v, bD_v, bV_v, ob_s, ob_i, i3_ofNat, jx_e, bI_e, bL_e, bD_e, bV_e, i3_eq0, i6_eq0, if_mx, if_mn, if_true, if_false, not_true_eq_false, not_false_eq_true, Int.reduceEq, Int.reduceLT, Int.reduceLE, q6, q0, p2_2, p2_0, p2_1]
      exact e3
  · have hf5 : f = 5 := by omega
    subst hf5
    have q5 : (((5 : Nat) : Int) < 5) = False := by decide
    have q0 : ((0 : Int) < 5) = True := by decide
    simp (disch := first | assumption | omega) only [↓reduceIte, i3_add, i3_sub, i3_mul, i3_neg, i6_add, i6_sub, i6_mul, i6_neg, i3_lt, i3_le, i3_eq, i6_lt, i6_eq, i3_div, i6_div, i6_i3, i3_i6, c6_lt, c6_ge, c6_gt, c6_le, c6_eq, i3_ite, i6_ite, ib_0, ib_z, ite_not, i1_0, i0_0, jB_1, jB_0, jB_ib, bI_v, bL_v, bD_v, bV_v, ob_s, ob_i, i3_ofNat, jx_e, bI_e, bL_e, bD_e, bV_e, i3_eq0, i6_eq0, if_mx, if_mn, if_true, if_false, not_true_eq_false, not_false_eq_true, Int.reduceEq, Int.reduceLT, Int.reduceLE, q5, q0, p2_2, p2_0, p2_1]
    exact e3
end FOC
