-- uses 24.zar 25.obj 26.ops 27.ra 28.rb 29.rc 34.gen 38.mod 39.mo2 41.bit 42.mo4 44.mo6 46.mo8 53.cla 58.clf 61.cli b1.plb c0.foa c1.fob c2.foc c3.fod
/-! The class's folding calls. -/
theorem flX_n {x f k : Nat} {r c R C D F : Int} (h : flX x f r c k = (R, C, D, F)) :
    (bt x k = true → dnX x f k / 2 ≤ R → flX x f r c (k + 1) = (dnX x f k - 1 - R, C, htX k - 1 - D, 1 - F)) ∧ (bt x k = true → ¬ dnX x f k / 2 ≤ R → flX x f r c (k + 1) = (R, C, D + htX k, F)) ∧ (bt x k = false → acX x f k / 2 ≤ C → flX x f r c (k + 1) = (R, acX x f k - 1 - C, htX k - 1 - D, 1 - F)) ∧ (bt x k = false → ¬ acX x f k / 2 ≤ C → flX x f r c (k + 1) = (R, C, D + htX k, F)) := by
  refine ⟨fun a b => ?_, fun a b => ?_, fun a b => ?_, fun a b => ?_⟩
  all_goals (unfold flX; rw [a, h])
  · rw [if_pos rfl, if_pos b]
  · rw [if_pos rfl, if_neg b]
  · rw [if_neg Bool.false_ne_true, if_pos b]
  · rw [if_neg Bool.false_ne_true, if_neg b]
theorem dnX_n {x f k : Nat} : (bt x k = true → dnX x f (k + 1) = dnX x f k / 2 ∧ acX x f (k + 1) = acX x f k) ∧ (bt x k = false → dnX x f (k + 1) = dnX x f k ∧ acX x f (k + 1) = acX x f k / 2) := by
  have e : dnX x f (k + 1) = (if bt x k = true then dnX x f k / 2 else dnX x f k) ∧ acX x f (k + 1) = (if bt x k = true then acX x f k else acX x f k / 2) := ⟨rfl, rfl⟩
  refine ⟨fun a => ?_, fun a => ?_⟩
  all_goals (rw [a] at e)
  · exact e
  · exact e
section FOE
variable {d : Nat} {X : Nat × (Nat → Int32)} {v w : Nat → Int → Int} {T c s : Nat}
theorem tX2_front {x f : Nat} {r cc : Int} (hf : f < 6) (hx : x < 2 ^ f) (hw : FU w x f) (h : inC x f r cc) : jm_env (d + 1) 36 [.ref 342, .int (i3 r), .int (i3 cc)] (qM X v w T c s) = some (.inl (some (.int (i3 (pgX x f r cc 0)))), (qM X v w T c s)) := by
  obtain ⟨z1, z2, z3, z4, z5, z6, z7⟩ := fo_1 f hf x hx
  obtain ⟨h1, h2, h3⟩ := fo_h f hf
  obtain ⟨⟨w0, w1, w2, w3⟩, -⟩ := hw
  have hl := lpI (S := Option Value) (L := fun j o => jm_R (jm_env d) jmM_X2_frontPageByItself 29 [some (.ref 342), some (.int (i3 r)), some (.int (i3 cc)), some (.int (i3 (flX x f r cc j).1)), some (.int (i3 (flX x f r cc j).2.1)), some (.int (i3 (dnX x f j))), some (.int (i3 (acX x f j))), some (.int (i3 (htX j))), some (.int (i3 (flX x f r cc j).2.2.1)), some (.int (i3 (flX x f r cc j).2.2.2)), some (.int (i3 (j : Nat))), o] [] (qM X v w T c s)) (I := fun _ _ => True) f 0 (fun j o _ hj _ => by
    obtain ⟨b1, b2, b3, b4⟩ := flX_b (k := j) hf hx h (by omega)
    obtain ⟨a1, a2, a3, a4, a5⟩ := fo_3 f hf x hx j (by omega)
    obtain ⟨k1, k2, k3⟩ := fo_h j (by omega)
    have q : ((f : Int) ≤ (j : Int)) = False := eq_false (by omega)
    have q5 : ((5 : Int) ≤ (j : Int)) = False := eq_false (by omega)
    have hbj := w3 j (by omega) (by omega)
    rw [Int.toNat_natCast] at hbj
    have q10 : ((1 : Int) = 0) = False := by decide
    have q01 : ((0 : Int) = 1) = False := by decide
    rcases hst : flX x f r cc j with ⟨R, C, D, F⟩
    obtain ⟨n1, n2, n3, n4⟩ := flX_n hst
    obtain ⟨m1, m2⟩ := dnX_n (x := x) (f := f) (k := j)
    rw [hst] at b1 b2 b3 b4
    dsimp only at b1 b2 b3 b4
    have hc : ((j + 1 : Nat) : Int) = (j : Int) + 1 := by omega
    have hh : htX (j + 1) = 2 * htX j := rfl
    rw [hc, hh, bX2_frontPageByItself_29]
    cases hb : bt x j
    · rw [hb, if_neg Bool.false_ne_true] at hbj
      obtain ⟨m3, m4⟩ := m2 hb
      rw [m3, m4]
      by_cases g : acX x f j / 2 ≤ C
      · rw [n3 hb g]
        have g' : (C < acX x f j / 2) = False := eq_false (by omega)
        refine ⟨some (.int (i3 1)), ?_, trivial⟩
        rcases b4 with rfl | rfl
        · simp (disch := first | assumption | omega) only [↓reduceIte, i3_add, i3_sub, i3_mul, i3_neg, i6_add, i6_sub, i6_mul, i6_neg, i3_lt, i3_le, i3_eq, i6_lt, i6_eq, i3_div, i6_div, i6_i3, i3_i6, c6_lt, c6_ge, c6_gt, c6_le, c6_eq, i3_ite, i6_ite, ib_0, ib_z, ite_not, i1_0, i0_0, jB_1, jB_0, jB_ib, bI_v, bL_v, bD_v, bV_v, ob_s, ob_i, i3_ofNat, jx_e, bI_e, bL_e, bD_e, bV_e, i3_eq0, i6_eq0, if_mx, if_mn, if_true, if_false, not_true_eq_false, not_false_eq_true, Int.reduceEq, Int.reduceLT, Int.reduceLE, g2_2, w2, q, q5, bX2_frontPageByItself_35, bX2_frontPageByItself_44, r2_3, a2_3, hbj, bX2_frontPageByItself_94, g', bX2_frontPageByItself_103, bX2_frontPageByItself_108, q10, q01, bX2_frontPageByItself_115, bX2_frontPageByItself_127, bX2_frontPageByItself_135, bX2_frontPageByItself_140, bX2_frontPageByItself_155, bX2_frontPageByItself_164, bX2_frontPageByItself_169]
          rfl
        · simp (disch := first | assumption | omega) only [↓reduceIte, i3_add, i3_sub, i3_mul, i3_neg, i6_add, i6_sub, i6_mul, i6_neg, i3_lt, i3_le, i3_eq, i6_lt, i6_eq, i3_div, i6_div, i6_i3, i3_i6, c6_lt, c6_ge, c6_gt, c6_le, c6_eq, i3_ite, i6_ite, ib_0, ib_z, ite_not, i1_0, i0_0, jB_1, jB_0, jB_ib, bI_v, bL_v, bD_v, bV_v, ob_s, ob_i, i3_ofNat, jx_e, bI_e, bL_e, bD_e, bV_e, i3_eq0, i6_eq0, if_mx, if_mn, if_true, if_false, not_true_eq_false, not_false_eq_true, Int.reduceEq, Int.reduceLT, Int.reduceLE, g2_2, w2, q, q5, bX2_frontPageByItself_35, bX2_frontPageByItself_44, r2_3, a2_3, hbj, bX2_frontPageByItself_94, g', bX2_frontPageByItself_103, bX2_frontPageByItself_108, q10, q01, bX2_frontPageByItself_115, bX2_frontPageByItself_127, bX2_frontPageByItself_135, bX2_frontPageByItself_140, bX2_frontPageByItself_155, bX2_frontPageByItself_168, bX2_frontPageByItself_169]
          rfl
      · rw [n4 hb g, Int.add_comm D]
        have g' : (C < acX x f j / 2) = True := eq_true (by omega)
        refine ⟨some (.int (i3 0)), ?_, trivial⟩
        rcases b4 with rfl | rfl
        · simp (disch := first | assumption | omega) only [↓reduceIte, i3_add, i3_sub, i3_mul, i3_neg, i6_add, i6_sub, i6_mul, i6_neg, i3_lt, i3_le, i3_eq, i6_lt, i6_eq, i3_div, i6_div, i6_i3, i3_i6, c6_lt, c6_ge, c6_gt, c6_le, c6_eq, i3_ite, i6_ite, ib_0, ib_z, ite_not, i1_0, i0_0, jB_1, jB_0, jB_ib, bI_v, bL_v, bD_v, bV_v, ob_s, ob_i, i3_ofNat, jx_e, bI_e, bL_e, bD_e, bV_e, i3_eq0, i6_eq0, if_mx, if_mn, if_true, if_false, not_true_eq_false, not_false_eq_true, Int.reduceEq, Int.reduceLT, Int.reduceLE, g2_2, w2, q, q5, bX2_frontPageByItself_35, bX2_frontPageByItself_44, r2_3, a2_3, hbj, bX2_frontPageByItself_94, g', bX2_frontPageByItself_107, bX2_frontPageByItself_108, bX2_frontPageByItself_125, bX2_frontPageByItself_127, bX2_frontPageByItself_135, bX2_frontPageByItself_150, bX2_frontPageByItself_155, bX2_frontPageByItself_168, bX2_frontPageByItself_169]
        · simp (disch := first | assumption | omega) only [↓reduceIte, i3_add, i3_sub, i3_mul, i3_neg, i6_add, i6_sub, i6_mul, i6_neg, i3_lt, i3_le, i3_eq, i6_lt, i6_eq, i3_div, i6_div, i6_i3, i3_i6, c6_lt, c6_ge, c6_gt, c6_le, c6_eq, i3_ite, i6_ite, ib_0, ib_z, ite_not, i1_0, i0_0, jB_1, jB_0, jB_ib, bI_v, bL_v, bD_v, bV_v, ob_s, ob_i, i3_ofNat, jx_e, bI_e, bL_e, bD_e, bV_e, i3_eq0, i6_eq0, if_mx, if_mn, if_true, if_false, not_true_eq_false, not_false_eq_true, Int.reduceEq, Int.reduceLT, Int.reduceLE, g2_2, w2, q, q5, bX2_frontPageByItself_35, bX2_frontPageByItself_44, r2_3, a2_3, hbj, bX2_frontPageByItself_94, g', bX2_frontPageByItself_107, bX2_frontPageByItself_108, q10, bX2_frontPageByItself_125, bX2_frontPageByItself_127, bX2_frontPageByItself_135, bX2_frontPageByItself_150, bX2_frontPageByItself_155, bX2_frontPageByItself_164, bX2_frontPageByItself_169]
    · rw [hb, if_pos rfl] at hbj
      obtain ⟨m3, m4⟩ := m1 hb
      rw [m3, m4]
      by_cases g : dnX x f j / 2 ≤ R
      · rw [n1 hb g]
        have g' : (R < dnX x f j / 2) = False := eq_false (by omega)
        refine ⟨some (.int (i3 1)), ?_, trivial⟩
        rcases b4 with rfl | rfl
        · simp (disch := first | assumption | omega) only [↓reduceIte, i3_add, i3_sub, i3_mul, i3_neg, i6_add, i6_sub, i6_mul, i6_neg, i3_lt, i3_le, i3_eq, i6_lt, i6_eq, i3_div, i6_div, i6_i3, i3_i6, c6_lt, c6_ge, c6_gt, c6_le, c6_eq, i3_ite, i6_ite, ib_0, ib_z, ite_not, i1_0, i0_0, jB_1, jB_0, jB_ib, bI_v, bL_v, bD_v, bV_v, ob_s, ob_i, i3_ofNat, jx_e, bI_e, bL_e, bD_e, bV_e, i3_eq0, i6_eq0, if_mx, if_mn, if_true, if_false, not_true_eq_false, not_false_eq_true, Int.reduceEq, Int.reduceLT, Int.reduceLE, g2_2, w2, q, q5, bX2_frontPageByItself_35, bX2_frontPageByItself_44, r2_3, a2_3, hbj, q10, q01, bX2_frontPageByItself_54, g', bX2_frontPageByItself_62, bX2_frontPageByItself_67, bX2_frontPageByItself_74, bX2_frontPageByItself_84, bX2_frontPageByItself_135, bX2_frontPageByItself_140, bX2_frontPageByItself_155, bX2_frontPageByItself_164, bX2_frontPageByItself_169]
          rfl
        · simp (disch := first | assumption | omega) only [↓reduceIte, i3_add, i3_sub, i3_mul, i3_neg, i6_add, i6_sub, i6_mul, i6_neg, i3_lt, i3_le, i3_eq, i6_lt, i6_eq, i3_div, i6_div, i6_i3, i3_i6, c6_lt, c6_ge, c6_gt, c6_le, c6_eq, i3_ite, i6_ite, ib_0, ib_z, ite_not, i1_0, i0_0, jB_1, jB_0, jB_ib, bI_v, bL_v, bD_v, bV_v, ob_s, ob_i, i3_ofNat, jx_e, bI_e, bL_e, bD_e, bV_e, i3_eq0, i6_eq0, if_mx, if_mn, if_true, if_false, not_true_eq_false, not_false_eq_true, Int.reduceEq, Int.reduceLT, Int.reduceLE, g2_2, w2, q, q5, bX2_frontPageByItself_35, bX2_frontPageByItself_44, r2_3, a2_3, hbj, q10, q01, bX2_frontPageByItself_54, g', bX2_frontPageByItself_62, bX2_frontPageByItself_67, bX2_frontPageByItself_74, bX2_frontPageByItself_84, bX2_frontPageByItself_135, bX2_frontPageByItself_140, bX2_frontPageByItself_155, bX2_frontPageByItself_168, bX2_frontPageByItself_169]
          rfl
      · rw [n2 hb g, Int.add_comm D]
        have g' : (R < dnX x f j / 2) = True := eq_true (by omega)
        refine ⟨some (.int (i3 0)), ?_, trivial⟩
        rcases b4 with rfl | rfl
        · simp (disch := first | assumption | omega) only [↓reduceIte, i3_add, i3_sub, i3_mul, i3_neg, i6_add, i6_sub, i6_mul, i6_neg, i3_lt, i3_le, i3_eq, i6_lt, i6_eq, i3_div, i6_div, i6_i3, i3_i6, c6_lt, c6_ge, c6_gt, c6_le, c6_eq, i3_ite, i6_ite, ib_0, ib_z, ite_not, i1_0, i0_0, jB_1, jB_0, jB_ib, bI_v, bL_v, bD_v, bV_v, ob_s, ob_i, i3_ofNat, jx_e, bI_e, bL_e, bD_e, bV_e, i3_eq0, i6_eq0, if_mx, if_mn, if_true, if_false, not_true_eq_false, not_false_eq_true, Int.reduceEq, Int.reduceLT, Int.reduceLE, g2_2, w2, q, q5, bX2_frontPageByItself_35, bX2_frontPageByItself_44, r2_3, a2_3, hbj, q10, bX2_frontPageByItself_54, g', bX2_frontPageByItself_66, bX2_frontPageByItself_67, bX2_frontPageByItself_83, bX2_frontPageByItself_84, bX2_frontPageByItself_135, bX2_frontPageByItself_150, bX2_frontPageByItself_155, bX2_frontPageByItself_168, bX2_frontPageByItself_169]
        · simp (disch := first | assumption | omega) only [↓reduceIte, i3_add, i3_sub, i3_mul, i3_neg, i6_add, i6_sub, i6_mul, i6_neg, i3_lt, i3_le, i3_eq, i6_lt, i6_eq, i3_div, i6_div, i6_i3, i3_i6, c6_lt, c6_ge, c6_gt, c6_le, c6_eq, i3_ite, i6_ite, ib_0, ib_z, ite_not, i1_0, i0_0, jB_1, jB_0, jB_ib, bI_v, bL_v, bD_v, bV_v, ob_s, ob_i, i3_ofNat, jx_e, bI_e, bL_e, bD_e, bV_e, i3_eq0, i6_eq0, if_mx, if_mn, if_true, if_false, not_true_eq_false, not_false_eq_true, Int.reduceEq, Int.reduceLT, Int.reduceLE, g2_2, w2, q, q5, bX2_frontPageByItself_35, bX2_frontPageByItself_44, r2_3, a2_3, hbj, q10, bX2_frontPageByItself_54, g', bX2_frontPageByItself_66, bX2_frontPageByItself_67, bX2_frontPageByItself_83, bX2_frontPageByItself_84, bX2_frontPageByItself_135, bX2_frontPageByItself_150, bX2_frontPageByItself_155, bX2_frontPageByItself_164, bX2_frontPageByItself_169]) none trivial
  obtain ⟨o, e, -⟩ := hl
  rw [Nat.zero_add] at e
  have e0 : jm_R (jm_env d) jmM_X2_frontPageByItself 29 [some (.ref 342), some (.int (i3 r)), some (.int (i3 cc)), some (.int (i3 r)), some (.int (i3 cc)), some (.int (i3 (rwX x f))), some (.int (i3 (clX x f))), some (.int (i3 1)), some (.int (i3 0)), some (.int (i3 1)), some (.int (i3 0)), none] [] (qM X v w T c s) = _ := e
  have q2 : ((f : Int) ≤ (f : Int)) = True := eq_true (Int.le_refl _)
  rw [eX2_frontPageByItself, bX2_frontPageByItself_0]
  simp (disch := first | assumption | omega) only [↓reduceIte, i3_add, i3_sub, i3_mul, i3_neg, i6_add, i6_sub, i6_mul, i6_neg, i3_lt, i3_le, i3_eq, i6_lt, i6_eq, i3_div, i6_div, i6_i3, i3_i6, c6_lt, c6_ge, c6_gt, c6_le, c6_eq, i3_ite, i6_ite, ib_0, ib_z, ite_not, i1_0, i0_0, jB_1, jB_0, jB_ib, bI_v, bL_v, bD_v, bV_v, ob_s, ob_i, i3_ofNat, jx_e, bI_e, bL_e, bD_e, bV_e, i3_eq0, i6_eq0, if_mx, if_mn, if_true, if_false, not_true_eq_false, not_false_eq_true, Int.reduceEq, Int.reduceLT, Int.reduceLE, g2_0, g2_1, w0, w1, bX2_frontPageByItself_20]
  refine Eq.trans e0 ?_
  obtain ⟨b1, b2, b3, b4⟩ := flX_b (k := f) hf hx h (by omega)
  rw [bX2_frontPageByItself_29]
  unfold pgX
  rcases hst : flX x f r cc f with ⟨R, C, D, F⟩
  rw [hst] at b1 b2 b3 b4
  dsimp only at b1 b2 b3 b4 ⊢
  have q10 : ((1 : Int) = 0) = False := by decide
  by_cases g5 : (5 : Int) ≤ (f : Int)
  · have q5 : ((5 : Int) ≤ (f : Int)) = True := eq_true g5
    rcases b4 with rfl | rfl
    · simp (disch := first | assumption | omega) only [↓reduceIte, i3_add, i3_sub, i3_mul, i3_neg, i6_add, i6_sub, i6_mul, i6_neg, i3_lt, i3_le, i3_eq, i6_lt, i6_eq, i3_div, i6_div, i6_i3, i3_i6, c6_lt, c6_ge, c6_gt, c6_le, c6_eq, i3_ite, i6_ite, ib_0, ib_z, ite_not, i1_0, i0_0, jB_1, jB_0, jB_ib, bI_v, bL_v, bD_v, bV_v, ob_s, ob_i, i3_ofNat, jx_e, bI_e, bL_e, bD_e, bV_e, i3_eq0, i6_eq0, if_mx, if_mn, if_true, if_false, not_true_eq_false, not_false_eq_true, Int.reduceEq, Int.reduceLT, Int.reduceLE, q5, bX2_frontPageByItself_183, bX2_frontPageByItself_197, bX2_frontPageByItself_203]
    · simp (disch := first | assumption | omega) only [↓reduceIte, i3_add, i3_sub, i3_mul, i3_neg, i6_add, i6_sub, i6_mul, i6_neg, i3_lt, i3_le, i3_eq, i6_lt, i6_eq, i3_div, i6_div, i6_i3, i3_i6, c6_lt, c6_ge, c6_gt, c6_le, c6_eq, i3_ite, i6_ite, ib_0, ib_z, ite_not, i1_0, i0_0, jB_1, jB_0, jB_ib, bI_v, bL_v, bD_v, bV_v, ob_s, ob_i, i3_ofNat, jx_e, bI_e, bL_e, bD_e, bV_e, i3_eq0, i6_eq0, if_mx, if_mn, if_true, if_false, not_true_eq_false, not_false_eq_true, Int.reduceEq, Int.reduceLT, Int.reduceLE, q5, q10, bX2_frontPageByItself_183, bX2_frontPageByItself_188, bX2_frontPageByItself_203]
  · have q5 : ((5 : Int) ≤ (f : Int)) = False := eq_false g5
    rcases b4 with rfl | rfl
    · simp (disch := first | assumption | omega) only [↓reduceIte, i3_add, i3_sub, i3_mul, i3_neg, i6_add, i6_sub, i6_mul, i6_neg, i3_lt, i3_le, i3_eq, i6_lt, i6_eq, i3_div, i6_div, i6_i3, i3_i6, c6_lt, c6_ge, c6_gt, c6_le, c6_eq, i3_ite, i6_ite, ib_0, ib_z, ite_not, i1_0, i0_0, jB_1, jB_0, jB_ib, bI_v, bL_v, bD_v, bV_v, ob_s, ob_i, i3_ofNat, jx_e, bI_e, bL_e, bD_e, bV_e, i3_eq0, i6_eq0, if_mx, if_mn, if_true, if_false, not_true_eq_false, not_false_eq_true, Int.reduceEq, Int.reduceLT, Int.reduceLE, q5, bX2_frontPageByItself_35, g2_2, w2, q2, bX2_frontPageByItself_183, bX2_frontPageByItself_197, bX2_frontPageByItself_203]
    · simp (disch := first | assumption | omega) only [↓reduceIte, i3_add, i3_sub, i3_mul, i3_neg, i6_add, i6_sub, i6_mul, i6_neg, i3_lt, i3_le, i3_eq, i6_lt, i6_eq, i3_div, i6_div, i6_i3, i3_i6, c6_lt, c6_ge, c6_gt, c6_le, c6_eq, i3_ite, i6_ite, ib_0, ib_z, ite_not, i1_0, i0_0, jB_1, jB_0, jB_ib, bI_v, bL_v, bD_v, bV_v, ob_s, ob_i, i3_ofNat, jx_e, bI_e, bL_e, bD_e, bV_e, i3_eq0, i6_eq0, if_mx, if_mn, if_true, if_false, not_true_eq_false, not_false_eq_true, Int.reduceEq, Int.reduceLT, Int.reduceLE, q5, bX2_frontPageByItself_35, g2_2, w2, q2, q10, bX2_frontPageByItself_183, bX2_frontPageByItself_188, bX2_frontPageByItself_203]
theorem tX2_other {x f : Nat} (hf : f < 6) (hx : x < 2 ^ f) (hw : FU w x f) : jm_env (d + 3) 35 [.ref 342] (qM X v w T c s) = some (.inl (some (.int (i3 (0)))), (qM X v w T c s)) := by
  obtain ⟨z1, z2, z3, z4, z5, z6, z7⟩ := fo_1 f hf x hx
  have h3 := (fo_h f hf).2.2
  have cols : ∀ (r : Nat), r < (rwX x f).toNat → ∀ (o4 o5 : Option Value), ∃ o4' o5' : Option Value, jm_R (jm_env (d + 2)) jmM_X2_cellsWithOtherPages 14 [some (.ref 342), some (.int (i3 0)), some (.int (i3 (r : Nat))), some (.int (i3 0)), o4, o5] [] (qM X v w T c s) = jm_R (jm_env (d + 2)) jmM_X2_cellsWithOtherPages 14 [some (.ref 342), some (.int (i3 0)), some (.int (i3 (r : Nat))), some (.int (i3 (clX x f))), o4', o5'] [] (qM X v w T c s) := by
    intro r hr o4 o5
    have hl := lpI (S := Option Value × Option Value) (L := fun j o => jm_R (jm_env (d + 2)) jmM_X2_cellsWithOtherPages 14 [some (.ref 342), some (.int (i3 0)), some (.int (i3 (r : Nat))), some (.int (i3 (j : Nat))), o.1, o.2] [] (qM X v w T c s)) (I := fun _ _ => True) (clX x f).toNat 0 (fun j o _ hj _ => by
      have q : (clX x f ≤ (j : Int)) = False := eq_false (by omega)
      have hin : inC x f (r : Int) (j : Int) := ⟨by omega, by omega⟩
      have e0 := tX2_front (d := d + 1) (X := X) (v := v) (T := T) (c := c) (s := s) hf hx hw hin
      have e1 := tX2_pageAt (d := d) (X := X) (v := v) (T := T) (c := c) (s := s) (k := 0) hf hx hw hin (Or.inl rfl)
      have e2 := tX2_pageAt (d := d) (X := X) (v := v) (T := T) (c := c) (s := s) (k := 1) hf hx hw hin (Or.inr rfl)
      obtain ⟨-, b2, b3, -⟩ := pgX_b (k := 0) hf hx hin (Or.inl rfl)
      obtain ⟨-, b2', b3', -⟩ := pgX_b (k := 1) hf hx hin (Or.inr rfl)
      have ho := pgX_o hf hx hin
      generalize pgX x f r j 0 = P at *
      generalize pgX x f r j 1 = Q at *
      have hc : ((j + 1 : Nat) : Int) = (j : Int) + 1 := by omega
      have q4 : (P = P) = True := eq_true rfl
      have q5 : (Q = Q) = True := eq_true rfl
      refine ⟨(some (.int (i3 P)), some (.int (i3 Q))), ?_, trivial⟩
      show jm_R _ _ 14 [_, _, _, some (.int (i3 (j : Nat))), _, _] [] _ = jm_R _ _ 14 [_, _, _, some (.int (i3 ((j + 1 : Nat)))), some (.int (i3 P)), some (.int (i3 Q))] [] _
      rw [hc, bX2_cellsWithOtherPages_14]
      by_cases g : P % 2 = 1
      · rw [if_pos g] at ho
        have q3 : (P - P / 2 * 2 = 1) = True := eq_true (by omega)
        simp (disch := first | assumption | omega) only [↓reduceIte, i3_add, i3_sub, i3_mul, i3_neg, i6_add, i6_sub, i6_mul, i6_neg, i3_lt, i3_le, i3_eq, i6_lt, i6_eq, i3_div, i6_div, i6_i3, i3_i6, c6_lt, c6_ge, c6_gt, c6_le, c6_eq, i3_ite, i6_ite, ib_0, ib_z, ite_not, i1_0, i0_0, jB_1, jB_0, jB_ib, bI_v, bL_v, bD_v, bV_v, ob_s, ob_i, i3_ofNat, jx_e, bI_e, bL_e, bD_e, bV_e, i3_eq0, i6_eq0, if_mx, if_mn, if_true, if_false, not_true_eq_false, not_false_eq_true, Int.reduceEq, Int.reduceLT, Int.reduceLE, g2_1, hw.1.2.1, q, bX2_cellsWithOtherPages_22, e0, q3, bX2_cellsWithOtherPages_38, ← ho, bX2_cellsWithOtherPages_49, e1, q4, bX2_cellsWithOtherPages_63, e2, q5, bX2_cellsWithOtherPages_78]
      · rw [if_neg g] at ho
        have q3 : (P - P / 2 * 2 = 1) = False := eq_false (by omega)
        simp (disch := first | assumption | omega) only [↓reduceIte, i3_add, i3_sub, i3_mul, i3_neg, i6_add, i6_sub, i6_mul, i6_neg, i3_lt, i3_le, i3_eq, i6_lt, i6_eq, i3_div, i6_div, i6_i3, i3_i6, c6_lt, c6_ge, c6_gt, c6_le, c6_eq, i3_ite, i6_ite, ib_0, ib_z, ite_not, i1_0, i0_0, jB_1, jB_0, jB_ib, bI_v, bL_v, bD_v, bV_v, ob_s, ob_i, i3_ofNat, jx_e, bI_e, bL_e, bD_e, bV_e, i3_eq0, i6_eq0, if_mx, if_mn, if_true, if_false, not_true_eq_false, not_false_eq_true, Int.reduceEq, Int.reduceLT, Int.reduceLE, g2_1, hw.1.2.1, q, bX2_cellsWithOtherPages_22, e0, q3, bX2_cellsWithOtherPages_45, ← ho, bX2_cellsWithOtherPages_49, e1, q4, bX2_cellsWithOtherPages_63, e2, q5, bX2_cellsWithOtherPages_78]) (o4, o5) trivial
    obtain ⟨o, e, -⟩ := hl
    refine ⟨o.1, o.2, ?_⟩
    have e' : jm_R (jm_env (d + 2)) jmM_X2_cellsWithOtherPages 14 [some (.ref 342), some (.int (i3 0)), some (.int (i3 (r : Nat))), some (.int (i3 0)), o4, o5] [] (qM X v w T c s) = jm_R (jm_env (d + 2)) jmM_X2_cellsWithOtherPages 14 [some (.ref 342), some (.int (i3 0)), some (.int (i3 (r : Nat))), some (.int (i3 ((0 + (clX x f).toNat : Nat) : Int))), o.1, o.2] [] (qM X v w T c s) := e
    rw [show ((0 + (clX x f).toNat : Nat) : Int) = clX x f by omega] at e'
    exact e'
  have hl := lpI (S := Option Value × Option Value × Option Value) (L := fun j o => jm_R (jm_env (d + 2)) jmM_X2_cellsWithOtherPages 4 [some (.ref 342), some (.int (i3 0)), some (.int (i3 (j : Nat))), o.1, o.2.1, o.2.2] [] (qM X v w T c s)) (I := fun _ _ => True) (rwX x f).toNat 0 (fun j o _ hj _ => by
    have q : (rwX x f ≤ (j : Int)) = False := eq_false (by omega)
    have q2 : (clX x f ≤ clX x f) = True := eq_true (Int.le_refl _)
    obtain ⟨o4, o5, e⟩ := cols j (by omega) o.2.1 o.2.2
    have hc : ((j + 1 : Nat) : Int) = (j : Int) + 1 := by omega
    refine ⟨(some (.int (i3 (clX x f))), o4, o5), ?_, trivial⟩
    show jm_R _ _ 4 [_, _, some (.int (i3 (j : Nat))), _, _, _] [] _ = jm_R _ _ 4 [_, _, some (.int (i3 ((j + 1 : Nat)))), some (.int (i3 (clX x f))), o4, o5] [] _
    rw [hc, bX2_cellsWithOtherPages_4]
    simp (disch := first | assumption | omega) only [↓reduceIte, i3_add, i3_sub, i3_mul, i3_neg, i6_add, i6_sub, i6_mul, i6_neg, i3_lt, i3_le, i3_eq, i6_lt, i6_eq, i3_div, i6_div, i6_i3, i3_i6, c6_lt, c6_ge, c6_gt, c6_le, c6_eq, i3_ite, i6_ite, ib_0, ib_z, ite_not, i1_0, i0_0, jB_1, jB_0, jB_ib, bI_v, bL_v, bD_v, bV_v, ob_s, ob_i, i3_ofNat, jx_e, bI_e, bL_e, bD_e, bV_e, i3_eq0, i6_eq0, if_mx, if_mn, if_true, if_false, not_true_eq_false, not_false_eq_true, Int.reduceEq, Int.reduceLT, Int.reduceLE, g2_0, hw.1.1, q, bX2_cellsWithOtherPages_12, e]
    rw [bX2_cellsWithOtherPages_14]
    simp (disch := first | assumption | omega) only [↓reduceIte, i3_add, i3_sub, i3_mul, i3_neg, i6_add, i6_sub, i6_mul, i6_neg, i3_lt, i3_le, i3_eq, i6_lt, i6_eq, i3_div, i6_div, i6_i3, i3_i6, c6_lt, c6_ge, c6_gt, c6_le, c6_eq, i3_ite, i6_ite, ib_0, ib_z, ite_not, i1_0, i0_0, jB_1, jB_0, jB_ib, bI_v, bL_v, bD_v, bV_v, ob_s, ob_i, i3_ofNat, jx_e, bI_e, bL_e, bD_e, bV_e, i3_eq0, i6_eq0, if_mx, if_mn, if_true, if_false, not_true_eq_false, not_false_eq_true, Int.reduceEq, Int.reduceLT, Int.reduceLE, g2_1, hw.1.2.1, q2, bX2_cellsWithOtherPages_84]) (none, none, none) trivial
  obtain ⟨o, e, -⟩ := hl
  have q : (rwX x f ≤ ((0 + (rwX x f).toNat : Nat) : Int)) = True := eq_true (by omega)
  rw [eX2_cellsWithOtherPages, bX2_cellsWithOtherPages_0]
  refine Eq.trans e ?_
  rw [bX2_cellsWithOtherPages_4]
  simp (disch := first | assumption | omega) only [↓reduceIte, i3_add, i3_sub, i3_mul, i3_neg, i6_add, i6_sub, i6_mul, i6_neg, i3_lt, i3_le, i3_eq, i6_lt, i6_eq, i3_div, i6_div, i6_i3, i3_i6, c6_lt, c6_ge, c6_gt, c6_le, c6_eq, i3_ite, i6_ite, ib_0, ib_z, ite_not, i1_0, i0_0, jB_1, jB_0, jB_ib, bI_v, bL_v, bD_v, bV_v, ob_s, ob_i, i3_ofNat, jx_e, bI_e, bL_e, bD_e, bV_e, i3_eq0, i6_eq0, if_mx, if_mn, if_true, if_false, not_true_eq_false, not_false_eq_true, Int.reduceEq, Int.reduceLT, Int.reduceLE, g2_0, hw.1.1, q, bX2_cellsWithOtherPages_90]
end FOE
