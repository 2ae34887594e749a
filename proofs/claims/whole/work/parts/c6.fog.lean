-- uses 24.zar 25.obj 26.ops 30.rd 31.re 32.rf 34.gen 38.mod 39.mo2 41.bit 42.mo4 43.mo5 44.mo6 46.mo8 53.cla 58.clf c0.foa c1.fob c2.foc c3.fod c4.foe c5.fof
/-! The reference folds a sheet. -/
/-- the two sides known to the reference -/
def lW (w : Nat → Int → Int) (x f : Nat) : Prop := w 411 34 = rwX x f ∧ w 411 35 = clX x f ∧ ∀ k : Int, 0 ≤ k → k < f → w 424 k = if bt x k.toNat = true then 1 else 0
/-- only where a cell was followed to -/
def fr78 (w' w : Nat → Int → Int) : Prop := ∀ (m : Nat) (k : Int), (m ≠ 411 ∨ (k ≠ 37 ∧ k ≠ 38)) → w' m k = w m k
theorem fr78_id {w : Nat → Int → Int} : fr78 w w := fun _ _ _ => rfl
theorem fr78_tr {w w' w'' : Nat → Int → Int} (h : fr78 w'' w') (g : fr78 w' w) : fr78 w'' w := fun m k a => (h m k a).trans (g m k a)
theorem lW_fr {w w' : Nat → Int → Int} {x f : Nat} (h : lW w x f) (g : fr78 w' w) : lW w' x f := ⟨(g 411 34 (by omega)).trans h.1, (g 411 35 (by omega)).trans h.2.1, fun k k0 k1 => (g 424 k (by omega)).trans (h.2.2 k k0 k1)⟩
section FOG
variable {d : Nat} {X : Nat × (Nat → Int32)} {v w : Nat → Int → Int} {T c s : Nat}
theorem sX12_noFolds_0 {i n f : Int} (hT : 18 ≤ T) (hg : gM v) (hA : (0 ≤ i ∧ i < v 412 0) ∧ 0 ≤ n ∧ n < 10) (hB : 0 ≤ f ∧ f ≤ fdM v i n) : ∃ w', jm_env (d + 6) 315 [.ref 411, .int (i3 i), .int (i3 n), .int (i3 f)] (qM X v (up w 411 8 0) T c s) = some (.inl (some (.int (i3 (0)))), qM X v w' T c s) ∧ w' 411 8 = 0 := by
  obtain ⟨hc0, hc1, he0, he1, -⟩ := id hg
  obtain ⟨⟨g1, g2⟩, g3, g4⟩ := id hA
  have ho := hg.o g1 g2
  have hb := fdM_b (v := v) (i := i) (n := n)
  obtain ⟨p, e⟩ := sX12_foldsOf_p (d := d) (X := X) (v := v) (w := up w 411 8 0) (T := T) (c := c) (s := s) (i := i) (n := n) hT g1 (by omega) g3 g4 ho
  have q1 : (0 ≤ f ∧ f ≤ 5) = True := eq_true (by omega)
  have q2 : (f ≤ fdM v i n) = True := eq_true (by omega)
  have q10 : ((1 : Int) = 0) = False := by decide
  refine ⟨fw (up w 411 8 0) p, ?_, by rw [fw_ne (by omega), up_eq]⟩
  rw [eX12_noFolds (h := hT), bX12_noFolds_0]
  simp (disch := first | assumption | omega) only [↓reduceIte, i3_add, i3_sub, i3_mul, i3_neg, i6_add, i6_sub, i6_mul, i6_neg, i3_lt, i3_le, i3_eq, i6_lt, i6_eq, i3_div, i6_div, i6_i3, i3_i6, c6_lt, c6_ge, c6_gt, c6_le, c6_eq, i3_ite, i6_ite, ib_0, ib_z, ite_not, i1_0, i0_0, jB_1, jB_0, jB_ib, bI_v, bL_v, bD_v, bV_v, ob_s, ob_i, i3_ofNat, jx_e, bI_e, bL_e, bD_e, bV_e, i3_eq0, i6_eq0, if_mx, if_mn, if_true, if_false, not_true_eq_false, not_false_eq_true, Int.reduceEq, Int.reduceLT, Int.reduceLE, sX12_noSize_0, bX12_noFolds_9, sX12_in, q1, q10, bX12_noFolds_22, e, q2, bX12_noFolds_36, bX12_noFolds_37, sX12_stops_0f, bX12_noFolds_48, bX12_noFolds_49]
theorem sX12_noFolds_1 {i n f : Int} (hT : 18 ≤ T) (hg : gM v) (hi : isI i) (hn : isI n) (hA : ¬ ((0 ≤ i ∧ i < v 412 0) ∧ 0 ≤ n ∧ n < 10)) : ∃ w', jm_env (d + 6) 315 [.ref 411, .int (i3 i), .int (i3 n), .int (i3 f)] (qM X v (up w 411 8 0) T c s) = some (.inl (some (.int (i3 (1)))), qM X v w' T c s) ∧ w' 411 8 = 1 := by
  obtain ⟨hc0, hc1, he0, he1, -⟩ := id hg
  obtain ⟨hi0, hi1⟩ := hi
  obtain ⟨hn0, hn1⟩ := hn
  have q10 : ((1 : Int) = 0) = False := by decide
  refine ⟨up w 411 8 1, ?_, up_eq⟩
  rw [eX12_noFolds (h := hT), bX12_noFolds_0]
  simp (disch := first | assumption | omega) only [↓reduceIte, i3_add, i3_sub, i3_mul, i3_neg, i6_add, i6_sub, i6_mul, i6_neg, i3_lt, i3_le, i3_eq, i6_lt, i6_eq, i3_div, i6_div, i6_i3, i3_i6, c6_lt, c6_ge, c6_gt, c6_le, c6_eq, i3_ite, i6_ite, ib_0, ib_z, ite_not, i1_0, i0_0, jB_1, jB_0, jB_ib, bI_v, bL_v, bD_v, bV_v, ob_s, ob_i, i3_ofNat, jx_e, bI_e, bL_e, bD_e, bV_e, i3_eq0, i6_eq0, if_mx, if_mn, if_true, if_false, not_true_eq_false, not_false_eq_true, Int.reduceEq, Int.reduceLT, Int.reduceLE, sX12_noSize_1, q10, bX12_noFolds_44, bX12_noFolds_49]
theorem sX12_noFolds_2 {i n f : Int} (hT : 18 ≤ T) (hg : gM v) (hf : isI f) (hA : (0 ≤ i ∧ i < v 412 0) ∧ 0 ≤ n ∧ n < 10) (hB : ¬ (0 ≤ f ∧ f ≤ fdM v i n)) : ∃ w', jm_env (d + 6) 315 [.ref 411, .int (i3 i), .int (i3 n), .int (i3 f)] (qM X v (up w 411 8 0) T c s) = some (.inl (some (.int (i3 (1)))), qM X v w' T c s) ∧ w' 411 8 = 2 := by
  obtain ⟨hc0, hc1, he0, he1, -⟩ := id hg
  obtain ⟨hf0, hf1⟩ := hf
  obtain ⟨⟨g1, g2⟩, g3, g4⟩ := id hA
  have ho := hg.o g1 g2
  have hb := fdM_b (v := v) (i := i) (n := n)
  obtain ⟨p, e⟩ := sX12_foldsOf_p (d := d) (X := X) (v := v) (w := up w 411 8 0) (T := T) (c := c) (s := s) (i := i) (n := n) hT g1 (by omega) g3 g4 ho
  have q10 : ((1 : Int) = 0) = False := by decide
  by_cases g : 0 ≤ f ∧ f ≤ 5
  · have q1 : (0 ≤ f ∧ f ≤ 5) = True := eq_true g
    have q2 : (f ≤ fdM v i n) = False := eq_false (by omega)
    refine ⟨fw (up w 411 8 2) p, ?_, by rw [fw_ne (by omega), up_eq]⟩
    rw [eX12_noFolds (h := hT), bX12_noFolds_0]
    simp (disch := first | assumption | omega) only [↓reduceIte, i3_add, i3_sub, i3_mul, i3_neg, i6_add, i6_sub, i6_mul, i6_neg, i3_lt, i3_le, i3_eq, i6_lt, i6_eq, i3_div, i6_div, i6_i3, i3_i6, c6_lt, c6_ge, c6_gt, c6_le, c6_eq, i3_ite, i6_ite, ib_0, ib_z, ite_not, i1_0, i0_0, jB_1, jB_0, jB_ib, bI_v, bL_v, bD_v, bV_v, ob_s, ob_i, i3_ofNat, jx_e, bI_e, bL_e, bD_e, bV_e, i3_eq0, i6_eq0, if_mx, if_mn, if_true, if_false, not_true_eq_false, not_false_eq_true, Int.reduceEq, Int.reduceLT, Int.reduceLE, sX12_noSize_0, bX12_noFolds_9, sX12_in, q1, q10, bX12_noFolds_22, e, q2, bX12_noFolds_32, bX12_noFolds_37, sX12_stops_1f, bX12_noFolds_44, bX12_noFolds_49]
  · have q1 : (0 ≤ f ∧ f ≤ 5) = False := eq_false g
    refine ⟨up w 411 8 2, ?_, up_eq⟩
    rw [eX12_noFolds (h := hT), bX12_noFolds_0]
    simp (disch := first | assumption | omega) only [↓reduceIte, i3_add, i3_sub, i3_mul, i3_neg, i6_add, i6_sub, i6_mul, i6_neg, i3_lt, i3_le, i3_eq, i6_lt, i6_eq, i3_div, i6_div, i6_i3, i3_i6, c6_lt, c6_ge, c6_gt, c6_le, c6_eq, i3_ite, i6_ite, ib_0, ib_z, ite_not, i1_0, i0_0, jB_1, jB_0, jB_ib, bI_v, bL_v, bD_v, bV_v, ob_s, ob_i, i3_ofNat, jx_e, bI_e, bL_e, bD_e, bV_e, i3_eq0, i6_eq0, if_mx, if_mn, if_true, if_false, not_true_eq_false, not_false_eq_true, Int.reduceEq, Int.reduceLT, Int.reduceLE, sX12_noSize_0, bX12_noFolds_9, sX12_in, q1, q10, bX12_noFolds_32, bX12_noFolds_37, sX12_stops_1, bX12_noFolds_44, bX12_noFolds_49]
theorem sX12_lays {i n : Int} {x f : Nat} (hT : 18 ≤ T) (hi0 : 0 ≤ i) (hi1 : i < 5) (ho : oM v i) (hf : f < 6) (n0 : 0 ≤ n) (n1 : n + f < 10) (hp : ptn v i n x f) : ∃ w', jm_env (d + 3) 316 [.ref 411, .int (i3 i), .int (i3 n), .int (i3 (f : Nat))] (qM X v w T c s) = some (.inl none, qM X v w' T c s) ∧ lW w' x f ∧ w' 411 8 = w 411 8 := by
  have hl := lpI (S := Nat → Int → Int) (L := fun j u => jm_R (jm_env (d + 2)) jmM_X12_lays 13 [some (.ref 411), some (.int (i3 i)), some (.int (i3 n)), some (.int (i3 (f : Nat))), some (.int (i3 (j : Nat)))] [] (qM X v u T c s)) (I := fun j u => u 411 34 = rwX x j ∧ u 411 35 = clX x j ∧ (∀ k : Int, 0 ≤ k → k < (j : Nat) → u 424 k = if bt x k.toNat = true then 1 else 0) ∧ u 411 8 = w 411 8) f 0 (fun j u _ hj ⟨i1, i2, i4, i5⟩ => by
    have q : ((f : Int) ≤ (j : Int)) = False := eq_false (by omega)
    have e1 := sX12_finds (d := d) (X := X) (w := u) (T := T) (c := c) (s := s) (i := i) (n := n + j) hT hi0 hi1 (by omega) (by omega) ho
    have hb := hp j (by omega)
    have hr := szM_b ho (n + j)
    have q10 : ((1 : Int) = 0) = False := by decide
    have f9 : fw u (szM v i (n + j)) 411 9 = (szM v i (n + j)).1 := by unfold fw; rw [up_ne (by omega), up_eq]
    have f10 : fw u (szM v i (n + j)) 411 10 = (szM v i (n + j)).2 := by unfold fw; rw [up_eq]
    cases hbt : bt x j
    · have q2 : ((szM v i (n + j)).2 < (szM v i (n + j)).1) = True := eq_true (by
        rw [hbt] at hb
        have : ¬ (szM v i (n + j)).1 ≤ (szM v i (n + j)).2 := fun q => Bool.false_ne_true (hb.mpr q)
        omega)
      refine ⟨up (up (fw u (szM v i (n + j))) 424 j 0) 411 35 (clX x j * 2), ?_, ?_, ?_, fun k k0 k1 => ?_, ?_⟩
      · rw [bX12_lays_13]
        simp (disch := first | assumption | omega) only [↓reduceIte, i3_add, i3_sub, i3_mul, i3_neg, i6_add, i6_sub, i6_mul, i6_neg, i3_lt, i3_le, i3_eq, i6_lt, i6_eq, i3_div, i6_div, i6_i3, i3_i6, c6_lt, c6_ge, c6_gt, c6_le, c6_eq, i3_ite, i6_ite, ib_0, ib_z, ite_not, i1_0, i0_0, jB_1, jB_0, jB_ib, bI_v, bL_v, bD_v, bV_v, ob_s, ob_i, i3_ofNat, jx_e, bI_e, bL_e, bD_e, bV_e, i3_eq0, i6_eq0, if_mx, if_mn, if_true, if_false, not_true_eq_false, not_false_eq_true, Int.reduceEq, Int.reduceLT, Int.reduceLE, q, bX12_lays_19, e1, r12_36, g12_9, g12_10, f9, f10, q2, bX12_lays_49, bX12_lays_50, w12_36, a12_36, up_eq, bX12_lays_74, g12_35, up_ne, fw_ne, i2, p12_35, bX12_lays_84]
        rfl
      · rw [up_ne (by omega), up_ne (by omega), fw_ne (by omega), i1]
        show _ = (if bt x j = true then _ else _)
        rw [hbt, if_neg Bool.false_ne_true]
      · rw [up_eq]
        show _ = (if bt x j = true then _ else _)
        rw [hbt, if_neg Bool.false_ne_true, Int.mul_comm]
      · rw [up_ne (by omega)]
        by_cases g : k = j
        · rw [g, up_eq, Int.toNat_natCast, hbt, if_neg Bool.false_ne_true]
        · rw [up_ne (by omega), fw_ne (by omega)]; exact i4 k k0 (by omega)
      · rw [up_ne (by omega), up_ne (by omega), fw_ne (by omega)]; exact i5
    · have q2 : ((szM v i (n + j)).2 < (szM v i (n + j)).1) = False := eq_false (by
        have := hb.mp hbt
        omega)
      refine ⟨up (up (fw u (szM v i (n + j))) 424 j 1) 411 34 (rwX x j * 2), ?_, ?_, ?_, fun k k0 k1 => ?_, ?_⟩
      · rw [bX12_lays_13]
        simp (disch := first | assumption | omega) only [↓reduceIte, i3_add, i3_sub, i3_mul, i3_neg, i6_add, i6_sub, i6_mul, i6_neg, i3_lt, i3_le, i3_eq, i6_lt, i6_eq, i3_div, i6_div, i6_i3, i3_i6, c6_lt, c6_ge, c6_gt, c6_le, c6_eq, i3_ite, i6_ite, ib_0, ib_z, ite_not, i1_0, i0_0, jB_1, jB_0, jB_ib, bI_v, bL_v, bD_v, bV_v, ob_s, ob_i, i3_ofNat, jx_e, bI_e, bL_e, bD_e, bV_e, i3_eq0, i6_eq0, if_mx, if_mn, if_true, if_false, not_true_eq_false, not_false_eq_true, Int.reduceEq, Int.reduceLT, Int.reduceLE, q, bX12_lays_19, e1, r12_36, g12_9, g12_10, f9, f10, q2, bX12_lays_45, bX12_lays_50, w12_36, a12_36, up_eq, q10, bX12_lays_61, g12_34, up_ne, fw_ne, i1, p12_34, bX12_lays_84]
        rfl
      · rw [up_eq]
        show _ = (if bt x j = true then _ else _)
        rw [hbt, if_pos rfl, Int.mul_comm]
      · rw [up_ne (by omega), up_ne (by omega), fw_ne (by omega), i2]
        show _ = (if bt x j = true then _ else _)
        rw [hbt, if_pos rfl]
      · rw [up_ne (by omega)]
        by_cases g : k = j
        · rw [g, up_eq, Int.toNat_natCast, hbt, if_pos rfl]
        · rw [up_ne (by omega), fw_ne (by omega)]; exact i4 k k0 (by omega)
      · rw [up_ne (by omega), up_ne (by omega), fw_ne (by omega)]; exact i5) (up (up w 411 34 1) 411 35 1) ⟨by rw [up_ne (by omega), up_eq]; rfl, by rw [up_eq]; rfl, fun k k0 k1 => by omega, by rw [up_ne (by omega), up_ne (by omega)]⟩
  obtain ⟨u, e, i1, i2, i4, i5⟩ := hl
  rw [Nat.zero_add] at e i1 i2 i4
  refine ⟨u, ?_, ⟨i1, i2, i4⟩, i5⟩
  have q2 : ((f : Int) ≤ (f : Int)) = True := eq_true (Int.le_refl _)
  have e0 : jm_R (jm_env (d + 2)) jmM_X12_lays 13 [some (.ref 411), some (.int (i3 i)), some (.int (i3 n)), some (.int (i3 (f : Nat))), some (.int (i3 0))] [] (qM X v (up (up w 411 34 1) 411 35 1) T c s) = _ := e
  rw [eX12_lays (h := hT), bX12_lays_0]
  simp (disch := first | assumption | omega) only [↓reduceIte, i3_add, i3_sub, i3_mul, i3_neg, i6_add, i6_sub, i6_mul, i6_neg, i3_lt, i3_le, i3_eq, i6_lt, i6_eq, i3_div, i6_div, i6_i3, i3_i6, c6_lt, c6_ge, c6_gt, c6_le, c6_eq, i3_ite, i6_ite, ib_0, ib_z, ite_not, i1_0, i0_0, jB_1, jB_0, jB_ib, bI_v, bL_v, bD_v, bV_v, ob_s, ob_i, i3_ofNat, jx_e, bI_e, bL_e, bD_e, bV_e, i3_eq0, i6_eq0, if_mx, if_mn, if_true, if_false, not_true_eq_false, not_false_eq_true, Int.reduceEq, Int.reduceLT, Int.reduceLE, p12_34, p12_35]
  refine Eq.trans e0 ?_
  rw [bX12_lays_13]
  simp (disch := first | assumption | omega) only [↓reduceIte, i3_add, i3_sub, i3_mul, i3_neg, i6_add, i6_sub, i6_mul, i6_neg, i3_lt, i3_le, i3_eq, i6_lt, i6_eq, i3_div, i6_div, i6_i3, i3_i6, c6_lt, c6_ge, c6_gt, c6_le, c6_eq, i3_ite, i6_ite, ib_0, ib_z, ite_not, i1_0, i0_0, jB_1, jB_0, jB_ib, bI_v, bL_v, bD_v, bV_v, ob_s, ob_i, i3_ofNat, jx_e, bI_e, bL_e, bD_e, bV_e, i3_eq0, i6_eq0, if_mx, if_mn, if_true, if_false, not_true_eq_false, not_false_eq_true, Int.reduceEq, Int.reduceLT, Int.reduceLE, q2, bX12_lays_90]
theorem sX12_follows {x f : Nat} {r cc : Int} (hT : 18 ≤ T) (hf : f < 6) (hx : x < 2 ^ f) (hw : lW w x f) (h : inC x f r cc) : ∃ w', jm_env (d + 1) 318 [.ref 411, .int (i3 r), .int (i3 cc), .int (i3 (f : Nat))] (qM X v w T c s) = some (.inl none, qM X v w' T c s) ∧ w' 411 37 = (flX x f r cc f).2.2.1 ∧ w' 411 38 = (flX x f r cc f).2.2.2 ∧ fr78 w' w := by
  obtain ⟨z1, z2, z3, z4, z5, z6, z7⟩ := fo_1 f hf x hx
  obtain ⟨w0, w1, w3⟩ := hw
  have hl := lpI (S := (Nat → Int → Int) × Option Value × Option Value × Option Value) (L := fun j o => jm_R (jm_env d) jmM_X12_follows 34 [some (.ref 411), some (.int (i3 r)), some (.int (i3 cc)), some (.int (i3 (f : Nat))), some (.int (i3 (flX x f r cc j).1)), some (.int (i3 (flX x f r cc j).2.1)), some (.int (i3 (dnX x f j))), some (.int (i3 (acX x f j))), some (.int (i3 (htX j))), some (.int (i3 (j : Nat))), o.2.1, o.2.2.1, o.2.2.2] [] (qM X v o.1 T c s)) (I := fun j o => o.1 411 37 = (flX x f r cc j).2.2.1 ∧ o.1 411 38 = (flX x f r cc j).2.2.2 ∧ fr78 o.1 w) f 0 (fun j o _ hj ⟨i1, i2, i3'⟩ => by
    obtain ⟨u, o1, o2, o3⟩ := o
    dsimp only at i1 i2 i3'
    obtain ⟨b1, b2, b3, b4⟩ := flX_b (k := j) hf hx h (by omega)
    obtain ⟨a1, a2, a3, a4, a5⟩ := fo_3 f hf x hx j (by omega)
    obtain ⟨k1, k2, k3⟩ := fo_h j (by omega)
    have q : ((f : Int) ≤ (j : Int)) = False := eq_false (by omega)
    have hbj := (i3' 424 j (by omega)).trans (w3 j (by omega) (by omega))
    rw [Int.toNat_natCast] at hbj
    have ub : ∀ y, up u 411 37 y 424 j = u 424 j := fun y => up_ne (by omega)
    have ub2 : ∀ y z, up (up u 411 37 y) 411 38 z 424 j = u 424 j := fun y z => by rw [up_ne (by omega), up_ne (by omega)]
    have u38 : ∀ y, up u 411 37 y 411 38 = u 411 38 := fun y => up_ne (by omega)
    have q10 : ((1 : Int) = 0) = False := by decide
    have q01 : ((0 : Int) = 1) = False := by decide
    rcases hst : flX x f r cc j with ⟨R, C, D, F⟩
    obtain ⟨n1, n2, n3, n4⟩ := flX_n hst
    obtain ⟨m1, m2⟩ := dnX_n (x := x) (f := f) (k := j)
    rw [hst] at b1 b2 b3 b4 i1 i2
    dsimp only at b1 b2 b3 b4 i1 i2
    have hc : ((j + 1 : Nat) : Int) = (j : Int) + 1 := by omega
    have hh : htX (j + 1) = htX j * 2 := Int.mul_comm _ _
    cases hb : bt x j
    · rw [hb, if_neg Bool.false_ne_true] at hbj
      obtain ⟨m3, m4⟩ := m2 hb
      by_cases g : acX x f j / 2 ≤ C
      · have g' : (C < acX x f j / 2) = False := eq_false (by omega)
        refine ⟨(up (up u 411 37 (htX j - 1 - D)) 411 38 (1 - F), some (.int (i3 (acX x f j - 1 - C))), some (.int (i3 (acX x f j))), some (.int (i3 1))), ?_, ?_, ?_, fun m k hm => ?_⟩
        · show jm_R _ _ 34 _ _ (qM X v u T c s) = jm_R _ _ 34 _ _ (qM X v (up (up u 411 37 (htX j - 1 - D)) 411 38 (1 - F)) T c s)
          rw [hc, hh, n3 hb g, m3, m4, bX12_follows_34]
          rcases b4 with rfl | rfl
          · simp (disch := first | assumption | omega) only [↓reduceIte, i3_add, i3_sub, i3_mul, i3_neg, i6_add, i6_sub, i6_mul, i6_neg, i3_lt, i3_le, i3_eq, i6_lt, i6_eq, i3_div, i6_div, i6_i3, i3_i6, c6_lt, c6_ge, c6_gt, c6_le, c6_eq, i3_ite, i6_ite, ib_0, ib_z, ite_not, i1_0, i0_0, jB_1, jB_0, jB_ib, bI_v, bL_v, bD_v, bV_v, ob_s, ob_i, i3_ofNat, jx_e, bI_e, bL_e, bD_e, bV_e, i3_eq0, i6_eq0, if_mx, if_mn, if_true, if_false, not_true_eq_false, not_false_eq_true, Int.reduceEq, Int.reduceLT, Int.reduceLE, q, bX12_follows_40, r12_36, a12_36, hbj, ub, ub2, bX12_follows_55, bX12_follows_57, bX12_follows_74, bX12_follows_76, g', bX12_follows_87, bX12_follows_92, q10, q01, bX12_follows_100, g12_37, i1, bX12_follows_119, p12_37, g12_38, u38, i2, bX12_follows_132, bX12_follows_137, p12_38, bX12_follows_145, bX12_follows_157, bX12_follows_174, bX12_follows_176, bX12_follows_193, bX12_follows_195, bX12_follows_214, bX12_follows_216, bX12_follows_233, bX12_follows_237]
            rfl
          · simp (disch := first | assumption | omega) only [↓reduceIte, i3_add, i3_sub, i3_mul, i3_neg, i6_add, i6_sub, i6_mul, i6_neg, i3_lt, i3_le, i3_eq, i6_lt, i6_eq, i3_div, i6_div, i6_i3, i3_i6, c6_lt, c6_ge, c6_gt, c6_le, c6_eq, i3_ite, i6_ite, ib_0, ib_z, ite_not, i1_0, i0_0, jB_1, jB_0, jB_ib, bI_v, bL_v, bD_v, bV_v, ob_s, ob_i, i3_ofNat, jx_e, bI_e, bL_e, bD_e, bV_e, i3_eq0, i6_eq0, if_mx, if_mn, if_true, if_false, not_true_eq_false, not_false_eq_true, Int.reduceEq, Int.reduceLT, Int.reduceLE, q, bX12_follows_40, r12_36, a12_36, hbj, ub, ub2, bX12_follows_55, bX12_follows_57, bX12_follows_74, bX12_follows_76, g', bX12_follows_87, bX12_follows_92, q10, q01, bX12_follows_100, g12_37, i1, bX12_follows_119, p12_37, g12_38, u38, i2, bX12_follows_136, bX12_follows_137, p12_38, bX12_follows_145, bX12_follows_157, bX12_follows_174, bX12_follows_176, bX12_follows_193, bX12_follows_195, bX12_follows_214, bX12_follows_216, bX12_follows_233, bX12_follows_237]
            rfl
        · rw [n3 hb g]; show up (up u 411 37 (htX j - 1 - D)) 411 38 (1 - F) 411 37 = (htX j - 1 - D); rw [up_ne (by omega), up_eq]
        · rw [n3 hb g]; show up (up u 411 37 (htX j - 1 - D)) 411 38 (1 - F) 411 38 = (1 - F); exact up_eq
        · show up _ 411 38 _ m k = _; rw [up_ne (by omega), up_ne (by omega)]; exact i3' m k hm
      · have g' : (C < acX x f j / 2) = True := eq_true (by omega)
        refine ⟨(up (up u 411 37 (D + htX j)) 411 38 F, some (.int (i3 C)), some (.int (i3 (acX x f j))), some (.int (i3 0))), ?_, ?_, ?_, fun m k hm => ?_⟩
        · show jm_R _ _ 34 _ _ (qM X v u T c s) = jm_R _ _ 34 _ _ (qM X v (up (up u 411 37 (D + htX j)) 411 38 F) T c s)
          rw [hc, hh, n4 hb g, m3, m4, bX12_follows_34]
          rcases b4 with rfl | rfl
          · simp (disch := first | assumption | omega) only [↓reduceIte, i3_add, i3_sub, i3_mul, i3_neg, i6_add, i6_sub, i6_mul, i6_neg, i3_lt, i3_le, i3_eq, i6_lt, i6_eq, i3_div, i6_div, i6_i3, i3_i6, c6_lt, c6_ge, c6_gt, c6_le, c6_eq, i3_ite, i6_ite, ib_0, ib_z, ite_not, i1_0, i0_0, jB_1, jB_0, jB_ib, bI_v, bL_v, bD_v, bV_v, ob_s, ob_i, i3_ofNat, jx_e, bI_e, bL_e, bD_e, bV_e, i3_eq0, i6_eq0, if_mx, if_mn, if_true, if_false, not_true_eq_false, not_false_eq_true, Int.reduceEq, Int.reduceLT, Int.reduceLE, q, bX12_follows_40, r12_36, a12_36, hbj, ub, ub2, bX12_follows_55, bX12_follows_57, bX12_follows_74, bX12_follows_76, g', bX12_follows_91, bX12_follows_92, q10, q01, bX12_follows_112, g12_37, i1, bX12_follows_119, p12_37, g12_38, u38, i2, bX12_follows_136, bX12_follows_137, p12_38, bX12_follows_155, bX12_follows_157, bX12_follows_174, bX12_follows_176, bX12_follows_193, bX12_follows_195, bX12_follows_214, bX12_follows_216, bX12_follows_233, bX12_follows_237]
          · simp (disch := first | assumption | omega) only [↓reduceIte, i3_add, i3_sub, i3_mul, i3_neg, i6_add, i6_sub, i6_mul, i6_neg, i3_lt, i3_le, i3_eq, i6_lt, i6_eq, i3_div, i6_div, i6_i3, i3_i6, c6_lt, c6_ge, c6_gt, c6_le, c6_eq, i3_ite, i6_ite, ib_0, ib_z, ite_not, i1_0, i0_0, jB_1, jB_0, jB_ib, bI_v, bL_v, bD_v, bV_v, ob_s, ob_i, i3_ofNat, jx_e, bI_e, bL_e, bD_e, bV_e, i3_eq0, i6_eq0, if_mx, if_mn, if_true, if_false, not_true_eq_false, not_false_eq_true, Int.reduceEq, Int.reduceLT, Int.reduceLE, q, bX12_follows_40, r12_36, a12_36, hbj, ub, ub2, bX12_follows_55, bX12_follows_57, bX12_follows_74, bX12_follows_76, g', bX12_follows_91, bX12_follows_92, q10, q01, bX12_follows_112, g12_37, i1, bX12_follows_119, p12_37, g12_38, u38, i2, bX12_follows_132, bX12_follows_137, p12_38, bX12_follows_155, bX12_follows_157, bX12_follows_174, bX12_follows_176, bX12_follows_193, bX12_follows_195, bX12_follows_214, bX12_follows_216, bX12_follows_233, bX12_follows_237]
        · rw [n4 hb g]; show up (up u 411 37 (D + htX j)) 411 38 F 411 37 = (D + htX j); rw [up_ne (by omega), up_eq]
        · rw [n4 hb g]; show up (up u 411 37 (D + htX j)) 411 38 F 411 38 = F; exact up_eq
        · show up _ 411 38 _ m k = _; rw [up_ne (by omega), up_ne (by omega)]; exact i3' m k hm
    · rw [hb, if_pos rfl] at hbj
      obtain ⟨m3, m4⟩ := m1 hb
      by_cases g : dnX x f j / 2 ≤ R
      · have g' : (R < dnX x f j / 2) = False := eq_false (by omega)
        refine ⟨(up (up u 411 37 (htX j - 1 - D)) 411 38 (1 - F), some (.int (i3 (dnX x f j - 1 - R))), some (.int (i3 (dnX x f j))), some (.int (i3 1))), ?_, ?_, ?_, fun m k hm => ?_⟩
        · show jm_R _ _ 34 _ _ (qM X v u T c s) = jm_R _ _ 34 _ _ (qM X v (up (up u 411 37 (htX j - 1 - D)) 411 38 (1 - F)) T c s)
          rw [hc, hh, n1 hb g, m3, m4, bX12_follows_34]
          rcases b4 with rfl | rfl
          · simp (disch := first | assumption | omega) only [↓reduceIte, i3_add, i3_sub, i3_mul, i3_neg, i6_add, i6_sub, i6_mul, i6_neg, i3_lt, i3_le, i3_eq, i6_lt, i6_eq, i3_div, i6_div, i6_i3, i3_i6, c6_lt, c6_ge, c6_gt, c6_le, c6_eq, i3_ite, i6_ite, ib_0, ib_z, ite_not, i1_0, i0_0, jB_1, jB_0, jB_ib, bI_v, bL_v, bD_v, bV_v, ob_s, ob_i, i3_ofNat, jx_e, bI_e, bL_e, bD_e, bV_e, i3_eq0, i6_eq0, if_mx, if_mn, if_true, if_false, not_true_eq_false, not_false_eq_true, Int.reduceEq, Int.reduceLT, Int.reduceLE, q, bX12_follows_40, r12_36, a12_36, hbj, ub, ub2, q10, q01, bX12_follows_50, bX12_follows_57, bX12_follows_69, bX12_follows_76, g', bX12_follows_87, bX12_follows_92, bX12_follows_100, g12_37, i1, bX12_follows_119, p12_37, g12_38, u38, i2, bX12_follows_132, bX12_follows_137, p12_38, bX12_follows_145, bX12_follows_157, bX12_follows_169, bX12_follows_176, bX12_follows_188, bX12_follows_195, bX12_follows_207, bX12_follows_216, bX12_follows_228, bX12_follows_237]
            rfl
          · simp (disch := first | assumption | omega) only [↓reduceIte, i3_add, i3_sub, i3_mul, i3_neg, i6_add, i6_sub, i6_mul, i6_neg, i3_lt, i3_le, i3_eq, i6_lt, i6_eq, i3_div, i6_div, i6_i3, i3_i6, c6_lt, c6_ge, c6_gt, c6_le, c6_eq, i3_ite, i6_ite, ib_0, ib_z, ite_not, i1_0, i0_0, jB_1, jB_0, jB_ib, bI_v, bL_v, bD_v, bV_v, ob_s, ob_i, i3_ofNat, jx_e, bI_e, bL_e, bD_e, bV_e, i3_eq0, i6_eq0, if_mx, if_mn, if_true, if_false, not_true_eq_false, not_false_eq_true, Int.reduceEq, Int.reduceLT, Int.reduceLE, q, bX12_follows_40, r12_36, a12_36, hbj, ub, ub2, q10, q01, bX12_follows_50, bX12_follows_57, bX12_follows_69, bX12_follows_76, g', bX12_follows_87, bX12_follows_92, bX12_follows_100, g12_37, i1, bX12_follows_119, p12_37, g12_38, u38, i2, bX12_follows_136, bX12_follows_137, p12_38, bX12_follows_145, bX12_follows_157, bX12_follows_169, bX12_follows_176, bX12_follows_188, bX12_follows_195, bX12_follows_207, bX12_follows_216, bX12_follows_228, bX12_follows_237]
            rfl
        · rw [n1 hb g]; show up (up u 411 37 (htX j - 1 - D)) 411 38 (1 - F) 411 37 = (htX j - 1 - D); rw [up_ne (by omega), up_eq]
        · rw [n1 hb g]; show up (up u 411 37 (htX j - 1 - D)) 411 38 (1 - F) 411 38 = (1 - F); exact up_eq
        · show up _ 411 38 _ m k = _; rw [up_ne (by omega), up_ne (by omega)]; exact i3' m k hm
      · have g' : (R < dnX x f j / 2) = True := eq_true (by omega)
        refine ⟨(up (up u 411 37 (D + htX j)) 411 38 F, some (.int (i3 R)), some (.int (i3 (dnX x f j))), some (.int (i3 0))), ?_, ?_, ?_, fun m k hm => ?_⟩
        · show jm_R _ _ 34 _ _ (qM X v u T c s) = jm_R _ _ 34 _ _ (qM X v (up (up u 411 37 (D + htX j)) 411 38 F) T c s)
          rw [hc, hh, n2 hb g, m3, m4, bX12_follows_34]
          rcases b4 with rfl | rfl
          · simp (disch := first | assumption | omega) only [↓reduceIte, i3_add, i3_sub, i3_mul, i3_neg, i6_add, i6_sub, i6_mul, i6_neg, i3_lt, i3_le, i3_eq, i6_lt, i6_eq, i3_div, i6_div, i6_i3, i3_i6, c6_lt, c6_ge, c6_gt, c6_le, c6_eq, i3_ite, i6_ite, ib_0, ib_z, ite_not, i1_0, i0_0, jB_1, jB_0, jB_ib, bI_v, bL_v, bD_v, bV_v, ob_s, ob_i, i3_ofNat, jx_e, bI_e, bL_e, bD_e, bV_e, i3_eq0, i6_eq0, if_mx, if_mn, if_true, if_false, not_true_eq_false, not_false_eq_true, Int.reduceEq, Int.reduceLT, Int.reduceLE, q, bX12_follows_40, r12_36, a12_36, hbj, ub, ub2, q10, q01, bX12_follows_50, bX12_follows_57, bX12_follows_69, bX12_follows_76, g', bX12_follows_91, bX12_follows_92, bX12_follows_112, g12_37, i1, bX12_follows_119, p12_37, g12_38, u38, i2, bX12_follows_136, bX12_follows_137, p12_38, bX12_follows_155, bX12_follows_157, bX12_follows_169, bX12_follows_176, bX12_follows_188, bX12_follows_195, bX12_follows_207, bX12_follows_216, bX12_follows_228, bX12_follows_237]
          · simp (disch := first | assumption | omega) only [↓reduceIte, i3_add, i3_sub, i3_mul, i3_neg, i6_add, i6_sub, i6_mul, i6_neg, i3_lt, i3_le, i3_eq, i6_lt, i6_eq, i3_div, i6_div, i6_i3, i3_i6, c6_lt, c6_ge, c6_gt, c6_le, c6_eq, i3_ite, i6_ite, ib_0, ib_z, ite_not, i1_0, i0_0, jB_1, jB_0, jB_ib, bI_v, bL_v, bD_v, bV_v, ob_s, ob_i, i3_ofNat, jx_e, bI_e, bL_e, bD_e, bV_e, i3_eq0, i6_eq0, if_mx, if_mn, if_true, if_false, not_true_eq_false, not_false_eq_true, Int.reduceEq, Int.reduceLT, Int.reduceLE, q, bX12_follows_40, r12_36, a12_36, hbj, ub, ub2, q10, q01, bX12_follows_50, bX12_follows_57, bX12_follows_69, bX12_follows_76, g', bX12_follows_91, bX12_follows_92, bX12_follows_112, g12_37, i1, bX12_follows_119, p12_37, g12_38, u38, i2, bX12_follows_132, bX12_follows_137, p12_38, bX12_follows_155, bX12_follows_157, bX12_follows_169, bX12_follows_176, bX12_follows_188, bX12_follows_195, bX12_follows_207, bX12_follows_216, bX12_follows_228, bX12_follows_237]
        · rw [n2 hb g]; show up (up u 411 37 (D + htX j)) 411 38 F 411 37 = (D + htX j); rw [up_ne (by omega), up_eq]
        · rw [n2 hb g]; show up (up u 411 37 (D + htX j)) 411 38 F 411 38 = F; exact up_eq
        · show up _ 411 38 _ m k = _; rw [up_ne (by omega), up_ne (by omega)]; exact i3' m k hm) (up (up w 411 37 0) 411 38 1, none, none, none) ⟨by show up (up w 411 37 0) 411 38 1 411 37 = 0; rw [up_ne (by omega), up_eq], by show up (up w 411 37 0) 411 38 1 411 38 = 1; exact up_eq, fun m k hm => by show up (up w 411 37 0) 411 38 1 m k = w m k; rw [up_ne (by omega), up_ne (by omega)]⟩
  obtain ⟨⟨u, o1, o2, o3⟩, e, i1, i2, i3'⟩ := hl
  rw [Nat.zero_add] at e i1 i2
  dsimp only at e i1 i2 i3'
  refine ⟨u, ?_, i1, i2, i3'⟩
  have e0 : jm_R (jm_env d) jmM_X12_follows 34 [some (.ref 411), some (.int (i3 r)), some (.int (i3 cc)), some (.int (i3 (f : Nat))), some (.int (i3 r)), some (.int (i3 cc)), some (.int (i3 (rwX x f))), some (.int (i3 (clX x f))), some (.int (i3 1)), some (.int (i3 0)), none, none, none] [] (qM X v (up (up w 411 37 0) 411 38 1) T c s) = _ := e
  have q2 : ((f : Int) ≤ (f : Int)) = True := eq_true (Int.le_refl _)
  rw [eX12_follows (h := hT), bX12_follows_0]
  simp (disch := first | assumption | omega) only [↓reduceIte, i3_add, i3_sub, i3_mul, i3_neg, i6_add, i6_sub, i6_mul, i6_neg, i3_lt, i3_le, i3_eq, i6_lt, i6_eq, i3_div, i6_div, i6_i3, i3_i6, c6_lt, c6_ge, c6_gt, c6_le, c6_eq, i3_ite, i6_ite, ib_0, ib_z, ite_not, i1_0, i0_0, jB_1, jB_0, jB_ib, bI_v, bL_v, bD_v, bV_v, ob_s, ob_i, i3_ofNat, jx_e, bI_e, bL_e, bD_e, bV_e, i3_eq0, i6_eq0, if_mx, if_mn, if_true, if_false, not_true_eq_false, not_false_eq_true, Int.reduceEq, Int.reduceLT, Int.reduceLE, g12_34, g12_35, w0, w1, bX12_follows_21, p12_37, p12_38]
  refine Eq.trans e0 ?_
  rw [bX12_follows_34]
  simp (disch := first | assumption | omega) only [↓reduceIte, i3_add, i3_sub, i3_mul, i3_neg, i6_add, i6_sub, i6_mul, i6_neg, i3_lt, i3_le, i3_eq, i6_lt, i6_eq, i3_div, i6_div, i6_i3, i3_i6, c6_lt, c6_ge, c6_gt, c6_le, c6_eq, i3_ite, i6_ite, ib_0, ib_z, ite_not, i1_0, i0_0, jB_1, jB_0, jB_ib, bI_v, bL_v, bD_v, bV_v, ob_s, ob_i, i3_ofNat, jx_e, bI_e, bL_e, bD_e, bV_e, i3_eq0, i6_eq0, if_mx, if_mn, if_true, if_false, not_true_eq_false, not_false_eq_true, Int.reduceEq, Int.reduceLT, Int.reduceLE, q2, bX12_follows_251]
theorem sX12_pageOf {x f : Nat} {r cc z : Int} (hT : 18 ≤ T) (hf : f < 6) (hx : x < 2 ^ f) (hw : lW w x f) (h : inC x f r cc) (hz : z = 0 ∨ z = 1) : ∃ w', jm_env (d + 2) 319 [.ref 411, .int (i3 r), .int (i3 cc), .int (i3 (f : Nat)), .int (i3 z)] (qM X v w T c s) = some (.inl (some (.int (i3 (pgX x f r cc z)))), qM X v w' T c s) ∧ fr78 w' w := by
  obtain ⟨w', e, e1, e2, e3⟩ := sX12_follows (d := d) (X := X) (v := v) (T := T) (c := c) (s := s) hT hf hx hw h
  obtain ⟨b1, b2, b3, b4⟩ := flX_b (k := f) hf hx h (by omega)
  refine ⟨w', ?_, e3⟩
  unfold pgX
  have q10 : ((1 : Int) = 0) = False := by decide
  have q01 : ((0 : Int) = 1) = False := by decide
  rw [eX12_pageOf (h := hT), bX12_pageOf_0]
  rcases b4 with q | q
  · rw [q] at e2 ⊢
    rcases hz with rfl | rfl
    · simp (disch := first | assumption | omega) only [↓reduceIte, i3_add, i3_sub, i3_mul, i3_neg, i6_add, i6_sub, i6_mul, i6_neg, i3_lt, i3_le, i3_eq, i6_lt, i6_eq, i3_div, i6_div, i6_i3, i3_i6, c6_lt, c6_ge, c6_gt, c6_le, c6_eq, i3_ite, i6_ite, ib_0, ib_z, ite_not, i1_0, i0_0, jB_1, jB_0, jB_ib, bI_v, bL_v, bD_v, bV_v, ob_s, ob_i, i3_ofNat, jx_e, bI_e, bL_e, bD_e, bV_e, i3_eq0, i6_eq0, if_mx, if_mn, if_true, if_false, not_true_eq_false, not_false_eq_true, Int.reduceEq, Int.reduceLT, Int.reduceLE, e, g12_37, g12_38, e1, e2, bX12_pageOf_26, bX12_pageOf_27]
    · simp (disch := first | assumption | omega) only [↓reduceIte, i3_add, i3_sub, i3_mul, i3_neg, i6_add, i6_sub, i6_mul, i6_neg, i3_lt, i3_le, i3_eq, i6_lt, i6_eq, i3_div, i6_div, i6_i3, i3_i6, c6_lt, c6_ge, c6_gt, c6_le, c6_eq, i3_ite, i6_ite, ib_0, ib_z, ite_not, i1_0, i0_0, jB_1, jB_0, jB_ib, bI_v, bL_v, bD_v, bV_v, ob_s, ob_i, i3_ofNat, jx_e, bI_e, bL_e, bD_e, bV_e, i3_eq0, i6_eq0, if_mx, if_mn, if_true, if_false, not_true_eq_false, not_false_eq_true, Int.reduceEq, Int.reduceLT, Int.reduceLE, e, g12_37, g12_38, e1, e2, q01, bX12_pageOf_22, bX12_pageOf_27]
  · rw [q] at e2 ⊢
    rcases hz with rfl | rfl
    · simp (disch := first | assumption | omega) only [↓reduceIte, i3_add, i3_sub, i3_mul, i3_neg, i6_add, i6_sub, i6_mul, i6_neg, i3_lt, i3_le, i3_eq, i6_lt, i6_eq, i3_div, i6_div, i6_i3, i3_i6, c6_lt, c6_ge, c6_gt, c6_le, c6_eq, i3_ite, i6_ite, ib_0, ib_z, ite_not, i1_0, i0_0, jB_1, jB_0, jB_ib, bI_v, bL_v, bD_v, bV_v, ob_s, ob_i, i3_ofNat, jx_e, bI_e, bL_e, bD_e, bV_e, i3_eq0, i6_eq0, if_mx, if_mn, if_true, if_false, not_true_eq_false, not_false_eq_true, Int.reduceEq, Int.reduceLT, Int.reduceLE, e, g12_37, g12_38, e1, e2, q10, bX12_pageOf_22, bX12_pageOf_27]
    · simp (disch := first | assumption | omega) only [↓reduceIte, i3_add, i3_sub, i3_mul, i3_neg, i6_add, i6_sub, i6_mul, i6_neg, i3_lt, i3_le, i3_eq, i6_lt, i6_eq, i3_div, i6_div, i6_i3, i3_i6, c6_lt, c6_ge, c6_gt, c6_le, c6_eq, i3_ite, i6_ite, ib_0, ib_z, ite_not, i1_0, i0_0, jB_1, jB_0, jB_ib, bI_v, bL_v, bD_v, bV_v, ob_s, ob_i, i3_ofNat, jx_e, bI_e, bL_e, bD_e, bV_e, i3_eq0, i6_eq0, if_mx, if_mn, if_true, if_false, not_true_eq_false, not_false_eq_true, Int.reduceEq, Int.reduceLT, Int.reduceLE, e, g12_37, g12_38, e1, e2, bX12_pageOf_26, bX12_pageOf_27]
end FOG
