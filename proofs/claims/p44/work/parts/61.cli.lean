-- uses 24.zar 25.obj 26.ops 27.ra 29.rc 34.gen 35.byt 36.ser 37.lnd 53.cla
/-! The class: lands copied. -/
section CPY
variable {X : Nat × (Nat → Int32)} {v w : Nat → Int → Int} {T c s : Nat} {r0 r1 n0 n1 : Nat} {l0 l1 : List Nat}
theorem cp_I (h0 : r0 < 411) (h1 : r1 < 411) (s0 : pl_sh r0 = .inl (0, n0, l0)) (s1 : pl_sh r1 = .inl (0, n1, l1)) (hne : r0 ≠ r1) (c0 : ∀ j, pl_scr r0 j = false) (c1 : ∀ j, pl_scr r1 j = false) (n : Nat) (g0 : n ≤ n0) (g1 : n ≤ n1) (hn : n < 1000) :
    jm_cpY (qM X v w T c s) r0 (i3 0) r1 (i3 0) (i3 n) = some (qM X (fil v r1 (v r0) n) w T c s) := by
  have e0 : (i3 0).toNatClampNeg = 0 := by rw [i3_nat (by omega) (by omega)]; rfl
  have e1 : (i3 (n : Int)).toNatClampNeg = n := by rw [i3_nat (by omega) (by omega)]; omega
  have z0 : ¬ (i3 0 < 0) := by
    have h : (i3 0 < (0 : Int32)) = ((0 : Int) < 0) := i3_lt (b := 0) (by omega) (by omega) (by omega) (by omega)
    rw [h]; omega
  have z1 : ¬ (i3 (n : Int) < 0) := by
    have h : (i3 (n : Int) < (0 : Int32)) = ((n : Int) < 0) := i3_lt (b := 0) (by omega) (by omega) (by omega) (by omega)
    rw [h]; omega
  refine or_l ?_
  unfold jm_cpy
  rw [qM_at (Nat.lt_add_right T h0), qM_at (Nat.lt_add_right T h1), s0, s1]
  show (if r0 ≠ r1 ∧ 0 = 0 ∧ 0 = 0 ∧ ¬ i3 0 < 0 ∧ ¬ i3 0 < 0 ∧ ¬ i3 (n : Int) < 0 ∧ (i3 0).toNatClampNeg + (i3 (n : Int)).toNatClampNeg ≤ n0 ∧ (i3 0).toNatClampNeg + (i3 (n : Int)).toNatClampNeg ≤ n1 then some (jm_up (qM X v w T c s) r1 (.inl (0, n1, .inl (va_cpy (fun k : Nat => i3 (pl_q v w r0 k)) (fun k : Nat => i3 (pl_q v w r1 k)) (i3 0).toNatClampNeg (i3 0).toNatClampNeg (i3 (n : Int)).toNatClampNeg)))) else none) = _
  rw [e0, e1, if_pos ⟨hne, rfl, rfl, z0, z0, z1, by omega, by omega⟩]
  congr 1
  refine qM_up (Nat.lt_add_right T h1) ?_ (fun m hm => ?_)
  · rw [s1]
    show Sum.inl (0, n1, Sum.inl _) = Sum.inl (0, n1, Sum.inl (fun k : Nat => i3 (pl_q (fil v r1 (v r0) n) w r1 k)))
    congr 4
    funext k
    rw [qq_v (c1 k)]
    unfold va_cpy
    by_cases g : 0 ≤ k ∧ k < 0 + n
    · rw [if_pos g, fil_in (by omega) (by omega)]
      dsimp only
      rw [qq_v (c0 _), show 0 + (k - 0) = k by omega]
    · rw [if_neg g, fil_ne (by omega)]
      dsimp only
      rw [qq_v (c1 k)]
  · funext j
    unfold pl_q
    rw [fil_ne (Or.inl hm)]
theorem cp_L (h0 : r0 < 411) (h1 : r1 < 411) (s0 : pl_sh r0 = .inl (2, n0, l0)) (s1 : pl_sh r1 = .inl (2, n1, l1)) (hne : r0 ≠ r1) (c0 : ∀ j, pl_scr r0 j = false) (c1 : ∀ j, pl_scr r1 j = false) (n : Nat) (g0 : n ≤ n0) (g1 : n ≤ n1) (hn : n < 1000) :
    jm_cpY (qM X v w T c s) r0 (i3 0) r1 (i3 0) (i3 n) = some (qM X (fil v r1 (v r0) n) w T c s) := by
  have e0 : (i3 0).toNatClampNeg = 0 := by rw [i3_nat (by omega) (by omega)]; rfl
  have e1 : (i3 (n : Int)).toNatClampNeg = n := by rw [i3_nat (by omega) (by omega)]; omega
  have z0 : ¬ (i3 0 < 0) := by
    have h : (i3 0 < (0 : Int32)) = ((0 : Int) < 0) := i3_lt (b := 0) (by omega) (by omega) (by omega) (by omega)
    rw [h]; omega
  have z1 : ¬ (i3 (n : Int) < 0) := by
    have h : (i3 (n : Int) < (0 : Int32)) = ((n : Int) < 0) := i3_lt (b := 0) (by omega) (by omega) (by omega) (by omega)
    rw [h]; omega
  refine or_l ?_
  unfold jm_cpy
  rw [qM_at (Nat.lt_add_right T h0), qM_at (Nat.lt_add_right T h1), s0, s1]
  show (if r0 ≠ r1 ∧ 2 = 2 ∧ 2 = 2 ∧ ¬ i3 0 < 0 ∧ ¬ i3 0 < 0 ∧ ¬ i3 (n : Int) < 0 ∧ (i3 0).toNatClampNeg + (i3 (n : Int)).toNatClampNeg ≤ n0 ∧ (i3 0).toNatClampNeg + (i3 (n : Int)).toNatClampNeg ≤ n1 then some (jm_up (qM X v w T c s) r1 (.inl (2, n1, .inr (.inl (va_cpy (fun k : Nat => i6 (pl_q v w r0 k)) (fun k : Nat => i6 (pl_q v w r1 k)) (i3 0).toNatClampNeg (i3 0).toNatClampNeg (i3 (n : Int)).toNatClampNeg))))) else none) = _
  rw [e0, e1, if_pos ⟨hne, rfl, rfl, z0, z0, z1, by omega, by omega⟩]
  congr 1
  refine qM_up (Nat.lt_add_right T h1) ?_ (fun m hm => ?_)
  · rw [s1]
    show Sum.inl (2, n1, Sum.inr (Sum.inl _)) = Sum.inl (2, n1, Sum.inr (Sum.inl (fun k : Nat => i6 (pl_q (fil v r1 (v r0) n) w r1 k))))
    congr 5
    funext k
    rw [qq_v (c1 k)]
    unfold va_cpy
    by_cases g : 0 ≤ k ∧ k < 0 + n
    · rw [if_pos g, fil_in (by omega) (by omega)]
      dsimp only
      rw [qq_v (c0 _), show 0 + (k - 0) = k by omega]
    · rw [if_neg g, fil_ne (by omega)]
      dsimp only
      rw [qq_v (c1 k)]
  · funext j
    unfold pl_q
    rw [fil_ne (Or.inl hm)]
theorem c9_0 {a o : Nat} (h : oSer a) (h2 : oSer o) (hne : o ≠ a) : jm_cpY (qM X v w T c s) (o + 1) (i3 0) (a + 1) (i3 0) (i3 6) = some (qM X (fil v (a + 1) (v (o + 1)) 6) w T c s) :=
  cp_I (sr_lt h2 (by decide)) (sr_lt h (by decide)) (sr_sh h2).2.1 (sr_sh h).2.1 (by omega) (sr_sc h2 (by decide)) (sr_sc h (by decide)) 6 (by decide) (by decide) (by decide)
theorem c9_2 {a o : Nat} (h : oSer a) (h2 : oSer o) (hne : o ≠ a) : jm_cpY (qM X v w T c s) (o + 2) (i3 0) (a + 2) (i3 0) (i3 10) = some (qM X (fil v (a + 2) (v (o + 2)) 10) w T c s) :=
  cp_I (sr_lt h2 (by decide)) (sr_lt h (by decide)) (sr_sh h2).2.2.1 (sr_sh h).2.2.1 (by omega) (sr_sc h2 (by decide)) (sr_sc h (by decide)) 10 (by decide) (by decide) (by decide)
theorem c9_3 {a o : Nat} (h : oSer a) (h2 : oSer o) (hne : o ≠ a) : jm_cpY (qM X v w T c s) (o + 3) (i3 0) (a + 3) (i3 0) (i3 10) = some (qM X (fil v (a + 3) (v (o + 3)) 10) w T c s) :=
  cp_I (sr_lt h2 (by decide)) (sr_lt h (by decide)) (sr_sh h2).2.2.2.1 (sr_sh h).2.2.2.1 (by omega) (sr_sc h2 (by decide)) (sr_sc h (by decide)) 10 (by decide) (by decide) (by decide)
theorem c9_4 {a o : Nat} (h : oSer a) (h2 : oSer o) (hne : o ≠ a) : jm_cpY (qM X v w T c s) (o + 4) (i3 0) (a + 4) (i3 0) (i3 10) = some (qM X (fil v (a + 4) (v (o + 4)) 10) w T c s) :=
  cp_I (sr_lt h2 (by decide)) (sr_lt h (by decide)) (sr_sh h2).2.2.2.2 (sr_sh h).2.2.2.2 (by omega) (sr_sc h2 (by decide)) (sr_sc h (by decide)) 10 (by decide) (by decide) (by decide)
theorem c6_0 {a o : Nat} (h : oPri a) (h2 : oPri o) (hne : o ≠ a) : jm_cpY (qM X v w T c s) (o + 1) (i3 0) (a + 1) (i3 0) (i3 30) = some (qM X (fil v (a + 1) (v (o + 1)) 30) w T c s) :=
  cp_I (pr_lt h2 (by decide)) (pr_lt h (by decide)) (pr_sh h2).2.1 (pr_sh h).2.1 (by omega) (pr_sc h2 (by decide)) (pr_sc h (by decide)) 30 (by decide) (by decide) (by decide)
theorem c6_1 {a o : Nat} (h : oPri a) (h2 : oPri o) (hne : o ≠ a) : jm_cpY (qM X v w T c s) (o + 2) (i3 0) (a + 2) (i3 0) (i3 30) = some (qM X (fil v (a + 2) (v (o + 2)) 30) w T c s) :=
  cp_I (pr_lt h2 (by decide)) (pr_lt h (by decide)) (pr_sh h2).2.2.1 (pr_sh h).2.2.1 (by omega) (pr_sc h2 (by decide)) (pr_sc h (by decide)) 30 (by decide) (by decide) (by decide)
theorem c6_2 {a o : Nat} (h : oPri a) (h2 : oPri o) (hne : o ≠ a) : jm_cpY (qM X v w T c s) (o + 3) (i3 0) (a + 3) (i3 0) (i3 30) = some (qM X (fil v (a + 3) (v (o + 3)) 30) w T c s) :=
  cp_I (pr_lt h2 (by decide)) (pr_lt h (by decide)) (pr_sh h2).2.2.2 (pr_sh h).2.2.2 (by omega) (pr_sc h2 (by decide)) (pr_sc h (by decide)) 30 (by decide) (by decide) (by decide)
theorem c4_5 {a o : Nat} (h : oLnd a) (h2 : oLnd o) (hne : o ≠ a) : jm_cpY (qM X v w T c s) (o + 6) (i3 0) (a + 6) (i3 0) (i3 8) = some (qM X (fil v (a + 6) (v (o + 6)) 8) w T c s) :=
  cp_L (ln_lt h2 (by decide)) (ln_lt h (by decide)) (ln_6 o h2) (ln_6 a h) (by omega) (ln_sc h2 (by decide)) (ln_sc h (by decide)) 8 (by decide) (by decide) (by decide)
end CPY
/-- lands lie apart -/
theorem ln_ap : ∀ a ∈ pl_lands, ∀ b ∈ pl_lands, a ≠ b → a + 32 ≤ b ∨ b + 32 ≤ a := by decide +kernel
theorem oLnd_ap {a b : Nat} (ha : oLnd a) (hb : oLnd b) (h : a ≠ b) : a + 32 ≤ b ∨ b + 32 ≤ a := ln_ap a ha b hb h
/-- series a of v' holds what series o of v holds -/
def sC (v' v : Nat → Int → Int) (a o : Nat) : Prop := v' a 1 = v o 1 ∧ (∀ k : Int, 0 ≤ k → k < 6 → v' (a + 1) k = v (o + 1) k) ∧ ∀ k : Int, 0 ≤ k → k < 10 → v' (a + 2) k = v (o + 2) k ∧ v' (a + 3) k = v (o + 3) k ∧ v' (a + 4) k = v (o + 4) k
/-- outside a stretch of names nothing changed -/
def frA (v' v : Nat → Int → Int) (a m : Nat) : Prop := ∀ n : Nat, (n < a ∨ a + m ≤ n) → v' n = v n
theorem frA.k {v' v : Nat → Int → Int} {a m : Nat} (h : frA v' v a m) {n : Nat} (hn : n < a ∨ a + m ≤ n) (k : Int) : v' n k = v n k := by rw [h n hn]
/-- land a of v' holds what land o of v holds -/
def lC (v' v : Nat → Int → Int) (a o : Nat) : Prop :=
  (v' a 0 = v o 0 ∧ v' a 1 = v o 1 ∧ v' a 2 = v o 2 ∧ v' (a + 2) 3 = v (o + 2) 3) ∧ (∀ k : Int, 0 ≤ k → k < 8 → v' (a + 6) k = v (o + 6) k) ∧
  (∀ k : Int, 0 ≤ k → k < 30 → v' (a + 3) k = v (o + 3) k ∧ v' (a + 4) k = v (o + 4) k ∧ v' (a + 5) k = v (o + 5) k) ∧
  (∀ i : Nat, (i : Int) < v o 2 → sC v' v (a + 7 + 5 * i) (o + 7 + 5 * i))
theorem ite2 {α : Type} {p q : Prop} [Decidable p] [Decidable q] {A B : α} (h : p ∨ q) : (if p then A else if q then A else B) = A := by
  by_cases h1 : p
  · exact if_pos h1
  · exact (if_neg h1).trans (if_pos (h.resolve_left h1))
section CLI
variable {d : Nat} {X : Nat × (Nat → Int32)} {v w : Nat → Int → Int} {T c s : Nat}
theorem tX9_copyFrom {a o : Nat} (h : oSer a) (h2 : oSer o) (hne : o ≠ a) (hap : a + 5 ≤ o ∨ o + 5 ≤ a) : ∃ v', jm_env (d + 1) 75 [.ref a, .ref o] (qM X v w T c s) = some (.inl none, qM X v' w T c s) ∧ sC v' v a o ∧ frA v' v a 5 := by
  simp (disch := first | assumption | omega) only [eX9_copyFrom, bX9_copyFrom_0, g9_1, p9_1, r9_0, a9_0, w9_0, n9_0, r9_2, a9_2, w9_2, n9_2, r9_3, a9_3, w9_3, n9_3, r9_4, a9_4, w9_4, n9_4, i3_add, i3_sub, i3_mul, i3_neg, i6_add, i6_sub, i6_mul, i6_neg, i3_lt, i3_le, i3_eq, i6_lt, i6_eq, i3_div, i6_div, i6_i3, i3_i6, c6_lt, c6_ge, c6_gt, c6_le, c6_eq, i3_ite, i6_ite, ib_0, ib_z, ite_not, i1_0, i0_0, jB_1, jB_0, jB_ib, bI_v, bL_v, bD_v, bV_v, ob_s, ob_i, i3_ofNat, jx_e, bI_e, bL_e, bD_e, bV_e, i3_eq0, i6_eq0, if_mx, if_mn, if_true, if_false, not_true_eq_false, not_false_eq_true, Int.reduceEq, Int.reduceLT, Int.reduceLE, c9_0, c9_2, c9_3, c9_4]
  refine ⟨_, rfl, ⟨?_, ?_, ?_⟩, ?_⟩
  · simp (disch := first | assumption | omega) only [fil_ne, up_eq]
  · intro k k0 k1
    simp (disch := first | assumption | omega) only [fil_ne, fil_in, up_ne]
  · intro k k0 k1
    simp (disch := first | assumption | omega) only [fil_b, up_b, fil_ne, fil_in, up_ne]
    exact ⟨trivial, trivial, trivial⟩
  · intro n hn
    simp (disch := first | assumption | omega) only [fil_b, up_b]
theorem tX6_copyFrom {a o : Nat} (h : oPri a) (h2 : oPri o) (hne : o ≠ a) (hap : a + 4 ≤ o ∨ o + 4 ≤ a) : ∃ v', jm_env (d + 1) 60 [.ref a, .ref o] (qM X v w T c s) = some (.inl none, qM X v' w T c s) ∧ (v' a 3 = v o 3 ∧ ∀ k : Int, 0 ≤ k → k < 30 → v' (a + 1) k = v (o + 1) k ∧ v' (a + 2) k = v (o + 2) k ∧ v' (a + 3) k = v (o + 3) k) ∧ frA v' v a 4 := by
  simp (disch := first | assumption | omega) only [eX6_copyFrom, bX6_copyFrom_0, g6_3, p6_3, r6_0, a6_0, w6_0, n6_0, r6_1, a6_1, w6_1, n6_1, r6_2, a6_2, w6_2, n6_2, i3_add, i3_sub, i3_mul, i3_neg, i6_add, i6_sub, i6_mul, i6_neg, i3_lt, i3_le, i3_eq, i6_lt, i6_eq, i3_div, i6_div, i6_i3, i3_i6, c6_lt, c6_ge, c6_gt, c6_le, c6_eq, i3_ite, i6_ite, ib_0, ib_z, ite_not, i1_0, i0_0, jB_1, jB_0, jB_ib, bI_v, bL_v, bD_v, bV_v, ob_s, ob_i, i3_ofNat, jx_e, bI_e, bL_e, bD_e, bV_e, i3_eq0, i6_eq0, if_mx, if_mn, if_true, if_false, not_true_eq_false, not_false_eq_true, Int.reduceEq, Int.reduceLT, Int.reduceLE, c6_0, c6_1, c6_2]
  refine ⟨_, rfl, ⟨?_, ?_⟩, ?_⟩
  · simp (disch := first | assumption | omega) only [fil_ne, up_eq]
  · intro k k0 k1
    simp (disch := first | assumption | omega) only [fil_b, up_b, fil_ne, fil_in, up_ne]
    exact ⟨trivial, trivial, trivial⟩
  · intro n hn
    simp (disch := first | assumption | omega) only [fil_b, up_b]
theorem tX4_copyFrom {a o : Nat} (h : oLnd a) (h2 : oLnd o) (hne : o ≠ a) (hc0 : 0 ≤ v o 2) (hc1 : v o 2 ≤ 5) : ∃ v', jm_env (d + 2) 41 [.ref a, .ref o] (qM X v w T c s) = some (.inl none, qM X v' w T c s) ∧ lC v' v a o ∧ frA v' v a 32 := by
  have hap := oLnd_ap h h2 (fun e => hne e.symm)
  obtain ⟨v1, e1, ⟨⟨p0, p1, p2⟩, ps, pf⟩⟩ := lr1 (fun (k : Nat) (_ : Unit) (u : Nat → Int → Int) => (u a 0 = v o 0 ∧ u a 1 = v o 1 ∧ u a 2 = v o 2) ∧ (∀ i : Nat, i < k → sC u v (a + 7 + 5 * i) (o + 7 + 5 * i)) ∧ frA u v a 32) (fun (k : Nat) _ u => jm_R (jm_env (d + 1)) jmM_X4_copyFrom 26 [some (.ref a), some (.ref o), some (.int (i3 k))] [] (qM X u w T c s)) (fun x _ => x) (v o 2).toNat (fun k _ u hk ⟨⟨q0, q1, q2⟩, qs, qf⟩ => by
    have hk5 : k < 5 := by omega
    have ho := oSer_of h2 hk5
    have ha := oSer_of h hk5
    obtain ⟨u', e, sc, fr⟩ := tX9_copyFrom (d := d) (X := X) (v := u) (w := w) (T := T) (c := c) (s := s) ha ho (by omega) (by omega)
    refine ⟨u', ?_, ⟨?_, ?_⟩, ?_, ?_⟩
    · have e2 : u o 2 = v o 2 := qf.k (by omega) 2
      rw [bX4_copyFrom_26]
      simp (disch := first | assumption | omega) only [eX4_copyFrom, bX4_copyFrom_0, bX4_copyFrom_31, bX4_copyFrom_39, bX4_copyFrom_60, g4_0, p4_0, g4_1, p4_1, g4_2, p4_2, r4_3, q4_3, r4_4, r4_5, a4_5, w4_5, n4_5, i3_add, i3_sub, i3_mul, i3_neg, i6_add, i6_sub, i6_mul, i6_neg, i3_lt, i3_le, i3_eq, i6_lt, i6_eq, i3_div, i6_div, i6_i3, i3_i6, c6_lt, c6_ge, c6_gt, c6_le, c6_eq, i3_ite, i6_ite, ib_0, ib_z, ite_not, i1_0, i0_0, jB_1, jB_0, jB_ib, bI_v, bL_v, bD_v, bV_v, ob_s, ob_i, i3_ofNat, jx_e, bI_e, bL_e, bD_e, bV_e, i3_eq0, i6_eq0, if_mx, if_mn, if_true, if_false, not_true_eq_false, not_false_eq_true, Int.reduceEq, Int.reduceLT, Int.reduceLE, e2, Int.toNat_natCast, e]
      rw [if_neg (by omega), if_neg (by omega)]
      rfl
    · rw [fr.k (by omega), q0]
    · exact ⟨(fr.k (by omega) 1).trans q1, (fr.k (by omega) 2).trans q2⟩
    · intro i hi
      by_cases g : i = k
      · subst g
        obtain ⟨s1, s2, s3⟩ := sc
        refine ⟨s1.trans (qf.k (by omega) 1), fun j j0 j1 => (s2 j j0 j1).trans (qf.k (by omega) j), fun j j0 j1 => ?_⟩
        obtain ⟨t1, t2, t3⟩ := s3 j j0 j1
        exact ⟨t1.trans (qf.k (by omega) j), t2.trans (qf.k (by omega) j), t3.trans (qf.k (by omega) j)⟩
      · obtain ⟨s1, s2, s3⟩ := qs i (by omega)
        refine ⟨(fr.k (by omega) 1).trans s1, fun j j0 j1 => (fr.k (by omega) j).trans (s2 j j0 j1), fun j j0 j1 => ?_⟩
        obtain ⟨t1, t2, t3⟩ := s3 j j0 j1
        exact ⟨(fr.k (by omega) j).trans t1, (fr.k (by omega) j).trans t2, (fr.k (by omega) j).trans t3⟩
    · intro n hn
      rw [fr n (by omega), qf n hn]) () (up (up (up v a 0 (v o 0)) a 1 (v o 1)) a 2 (v o 2)) (by
      refine ⟨⟨?_, ?_, ?_⟩, fun i hi => by omega, fun n hn => ?_⟩
      · simp (disch := first | assumption | omega) only [up_ne, up_eq]
      · simp (disch := first | assumption | omega) only [up_ne, up_eq]
      · simp (disch := first | assumption | omega) only [up_eq]
      · simp (disch := first | assumption | omega) only [up_b])
  have hpo := oPri_of h2
  have hpa := oPri_of h
  obtain ⟨v2, e2, ⟨r0, r1⟩, rf⟩ := tX6_copyFrom (d := d) (X := X) (v := v1) (w := w) (T := T) (c := c) (s := s) hpa hpo (by omega) (by omega)
  have hne2 : o ≠ a := hne
  simp (disch := first | assumption | omega) only [eX4_copyFrom, bX4_copyFrom_0, bX4_copyFrom_31, bX4_copyFrom_39, bX4_copyFrom_60, g4_0, p4_0, g4_1, p4_1, g4_2, p4_2, r4_3, q4_3, r4_4, r4_5, a4_5, w4_5, n4_5, i3_add, i3_sub, i3_mul, i3_neg, i6_add, i6_sub, i6_mul, i6_neg, i3_lt, i3_le, i3_eq, i6_lt, i6_eq, i3_div, i6_div, i6_i3, i3_i6, c6_lt, c6_ge, c6_gt, c6_le, c6_eq, i3_ite, i6_ite, ib_0, ib_z, ite_not, i1_0, i0_0, jB_1, jB_0, jB_ib, bI_v, bL_v, bD_v, bV_v, ob_s, ob_i, i3_ofNat, jx_e, bI_e, bL_e, bD_e, bV_e, i3_eq0, i6_eq0, if_mx, if_mn, if_true, if_false, not_true_eq_false, not_false_eq_true, Int.reduceEq, Int.reduceLT, Int.reduceLE, up_ne]
  refine ex_tr e1 ?_
  have e3 : v1 o 2 = v o 2 := pf.k (by omega) 2
  rw [bX4_copyFrom_26]
  simp (disch := first | assumption | omega) only [eX4_copyFrom, bX4_copyFrom_0, bX4_copyFrom_31, bX4_copyFrom_39, bX4_copyFrom_60, g4_0, p4_0, g4_1, p4_1, g4_2, p4_2, r4_3, q4_3, r4_4, r4_5, a4_5, w4_5, n4_5, i3_add, i3_sub, i3_mul, i3_neg, i6_add, i6_sub, i6_mul, i6_neg, i3_lt, i3_le, i3_eq, i6_lt, i6_eq, i3_div, i6_div, i6_i3, i3_i6, c6_lt, c6_ge, c6_gt, c6_le, c6_eq, i3_ite, i6_ite, ib_0, ib_z, ite_not, i1_0, i0_0, jB_1, jB_0, jB_ib, bI_v, bL_v, bD_v, bV_v, ob_s, ob_i, i3_ofNat, jx_e, bI_e, bL_e, bD_e, bV_e, i3_eq0, i6_eq0, if_mx, if_mn, if_true, if_false, not_true_eq_false, not_false_eq_true, Int.reduceEq, Int.reduceLT, Int.reduceLE, e3, e2, c4_5]
  rw [ite2 (by omega)]
  refine ⟨_, rfl, ⟨⟨?_, ?_, ?_, ?_⟩, ?_, ?_, ?_⟩, ?_⟩
  · rw [fil_ne (by omega), rf.k (by omega), p0]
  · rw [fil_ne (by omega), rf.k (by omega), p1]
  · rw [fil_ne (by omega), rf.k (by omega), p2]
  · rw [fil_ne (by omega), r0, pf.k (by omega)]
  · intro k k0 k1
    rw [fil_in k0 k1, rf.k (by omega), pf.k (by omega)]
  · intro k k0 k1
    obtain ⟨t1, t2, t3⟩ := r1 k k0 k1
    refine ⟨?_, ?_, ?_⟩
    · rw [fil_ne (by omega)]
      exact t1.trans (pf.k (by omega) k)
    · rw [fil_ne (by omega)]
      exact t2.trans (pf.k (by omega) k)
    · rw [fil_ne (by omega)]
      exact t3.trans (pf.k (by omega) k)
  · intro i hi
    obtain ⟨s1, s2, s3⟩ := ps i (by omega)
    refine ⟨?_, fun j j0 j1 => ?_, fun j j0 j1 => ?_⟩
    · rw [fil_ne (by omega), rf.k (by omega), s1]
    · rw [fil_ne (by omega), rf.k (by omega), s2 j j0 j1]
    · obtain ⟨t1, t2, t3⟩ := s3 j j0 j1
      refine ⟨?_, ?_, ?_⟩
      · rw [fil_ne (by omega), rf.k (by omega), t1]
      · rw [fil_ne (by omega), rf.k (by omega), t2]
      · rw [fil_ne (by omega), rf.k (by omega), t3]
  · intro n hn
    rw [fil_b (by omega), rf n (by omega), pf n (by omega)]
/-- what a land holds goes with the copy -/
theorem lr_cp {v' : Nat → Int → Int} {a o : Nat} {μ : Nat → Int → Int} (h : lC v' v a o) (hl : lr v o μ) (h3 : μ 412 3 ≤ 30) : lr v' a μ := by
  obtain ⟨⟨p0, p1, p2, p3⟩, pa, pp, ps⟩ := h
  obtain ⟨⟨q0, q1, q2, q3⟩, qa, qp, qs⟩ := hl
  refine ⟨⟨p0.trans q0, p1.trans q1, p2.trans q2, p3.trans q3⟩, fun k k0 k1 => (pa k k0 k1).trans (qa k k0 k1), fun j j0 j1 => ?_, fun i hi => ?_⟩
  · obtain ⟨t1, t2, t3⟩ := pp j j0 (by omega)
    obtain ⟨u1, u2, u3⟩ := qp j j0 j1
    exact ⟨t1.trans u1, t2.trans u2, t3.trans u3⟩
  · obtain ⟨s1, s2, s3⟩ := ps i (by omega)
    obtain ⟨r1, n0, n1, n2, n3⟩ := qs i hi
    refine ⟨fun n m0 m1 => ?_, ?_⟩
    · obtain ⟨t1, t2, t3⟩ := s3 n m0 m1
      obtain ⟨u1, u2, u3⟩ := r1 n m0 m1
      exact ⟨t1.trans u1, t2.trans u2, t3.trans u3⟩
    · unfold rn
      rw [s1]
      have hlt : ∀ k : Int, 0 ≤ k → k < (v (o + 7 + 5 * i) 1).toNat → v' (a + 7 + 5 * i + 1) k = v (o + 7 + 5 * i + 1) k := fun k k0 k1 => s2 k k0 (by omega)
      refine ⟨n0, n1, fun k k0 k1 => by rw [hlt k k0 k1]; exact n2 k k0 k1, n3.trans ?_⟩
      have hnk : ∀ (f g : Int → Int) (n : Nat), (∀ k : Int, 0 ≤ k → k < n → f k = g k) → nk f n = nk g n := by
        intro f g n
        induction n with
        | zero => intro _; rfl
        | succ n ih =>
          intro h
          show 32 * nk f n + (f n - 96) = 32 * nk g n + (g n - 96)
          rw [ih (fun k k0 k1 => h k k0 (by omega)), h n (by omega) (by omega)]
      exact (hnk _ _ _ hlt).symm
end CLI
