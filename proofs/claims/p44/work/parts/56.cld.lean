-- uses 24.zar 25.obj 26.ops 27.ra 29.rc 34.gen 35.byt 36.ser 37.lnd 38.mod 39.mo2 40.mo3 41.bit 42.mo4 43.mo5 44.mo6 53.cla 54.clb 55.clc
/-! The class: plans. -/
def sg (μ : Nat → Int → Int) (pw ph num : Int) (k : Nat) (st : (Int × Int) × Int × Int) (n : Nat) : (Int × Int) × Int × Int := (nrG μ pw ph num st.1 k n, fitG μ pw ph st.2.1 k n, mosG μ pw ph st.2.2 k n)
/-- the plan's fields say this -/
def plR (μ : Nat → Int → Int) (pw ph num : Int) (g : Int → Int) (st : (Int × Int) × Int × Int) : Prop :=
  g 1 = pw ∧ g 2 = ph ∧ g 3 = num ∧ g 5 = st.1.1 ∧ g 6 = st.1.2 ∧ g 8 = st.2.1 ∧ g 9 = st.2.2 ∧ (st.1.1 ≠ -1 → g 7 = aM μ st.1.1 st.1.2 - pw * ph) ∧ nrP μ st.1 ∧ 0 ≤ st.2.1 ∧ st.2.1 ≤ 50 ∧ 0 ≤ st.2.2 ∧ st.2.2 ≤ 9999
def plR' (μ : Nat → Int → Int) (pw ph num : Int) (g : Int → Int) (st : (Int × Int) × Int × Int) (z : Int) : Prop :=
  g 1 = pw ∧ g 2 = ph ∧ g 3 = num ∧ g 5 = st.1.1 ∧ g 6 = st.1.2 ∧ g 8 = st.2.1 ∧ g 9 = st.2.2 ∧ (st.1.1 ≠ -1 → g 7 = aM μ st.1.1 st.1.2 - pw * ph) ∧ nrP μ st.1 ∧ 0 ≤ st.2.1 ∧ st.2.1 ≤ z ∧ 0 ≤ st.2.2 ∧ st.2.2 ≤ 9999
section CLD
variable {d : Nat} {X : Nat × (Nat → Int32)} {v w : Nat → Int → Int} {T c s : Nat}
variable {b : Nat} {μ : Nat → Int → Int}
theorem tX5_isNearer {g : Int → Int} {i l : Int} (h5 : -1 ≤ g 5 ∧ g 5 ≤ 5) (h7 : g 5 ≠ -1 → -8000000 ≤ g 7 ∧ g 7 ≤ 8000000) (hi0 : 0 ≤ i) (hi1 : i < 5) (hl0 : -8000000 ≤ l) (hl1 : l ≤ 8000000) :
    jm_env (d + 1) 57 [.ref 339, .int (i3 i), .int (i3 l)] (qM X v (ov w 339 g) T c s) = some (.inl (some (.int (i3 (if g 5 = -1 ∨ l < g 7 ∨ (l = g 7 ∧ i = g 5) then 1 else 0)))), qM X v (ov w 339 g) T c s) := by
  by_cases k : g 5 = -1
  · simp (disch := first | assumption | omega) only [↓reduceIte, eX5_isNearer, bX5_isNearer_0, bX5_isNearer_32, bX5_isNearer_37, g5_5, g5_7, i3_add, i3_sub, i3_mul, i3_neg, i6_add, i6_sub, i6_mul, i6_neg, i3_lt, i3_le, i3_eq, i6_lt, i6_eq, i3_div, i6_div, i6_i3, i3_i6, c6_lt, c6_ge, c6_gt, c6_le, c6_eq, i3_ite, i6_ite, ib_0, ib_z, ite_not, i1_0, i0_0, jB_1, jB_0, jB_ib, bI_v, bL_v, bD_v, bV_v, ob_s, ob_i, i3_ofNat, jx_e, bI_e, bL_e, bD_e, bV_e, i3_eq0, i6_eq0, if_mx, if_mn, if_true, if_false, not_true_eq_false, not_false_eq_true, Int.reduceEq, Int.reduceLT, Int.reduceLE, ov_in, k, true_or]
  · obtain ⟨h70, h71⟩ := h7 k
    simp (disch := first | assumption | omega) only [eX5_isNearer, bX5_isNearer_0, bX5_isNearer_8, bX5_isNearer_16, bX5_isNearer_24, bX5_isNearer_32, bX5_isNearer_36, bX5_isNearer_37, g5_5, g5_7, i3_add, i3_sub, i3_mul, i3_neg, i6_add, i6_sub, i6_mul, i6_neg, i3_lt, i3_le, i3_eq, i6_lt, i6_eq, i3_div, i6_div, i6_i3, i3_i6, c6_lt, c6_ge, c6_gt, c6_le, c6_eq, i3_ite, i6_ite, ib_0, ib_z, ite_not, i1_0, i0_0, jB_1, jB_0, jB_ib, bI_v, bL_v, bD_v, bV_v, ob_s, ob_i, i3_ofNat, jx_e, bI_e, bL_e, bD_e, bV_e, i3_eq0, i6_eq0, if_mx, if_mn, if_true, if_false, not_true_eq_false, not_false_eq_true, Int.reduceEq, Int.reduceLT, Int.reduceLE, ov_in]
    rw [if_neg k]
    (repeat' split) <;> first | rfl | (exfalso; omega)
theorem tX5_weighSeries (h : LO v b μ) {pw ph num e : Int} {k : Nat} (hk : (k : Int) < μ 412 0) (h2 : 1 ≤ pw) (h3 : pw ≤ 2000) (h4 : 1 ≤ ph) (h5 : ph ≤ 2000) (h6 : 0 ≤ num) (h7 : num ≤ 10000) (he : e = μ 412 1) {g : Int → Int} {st : (Int × Int) × Int × Int} (hR : plR' μ pw ph num g st (10 * k)) :
    ∃ g', jm_env (d + 3) 56 [.ref 339, .int (i3 k), .ref (b + 7 + 5 * k), .int (i3 e)] (qM X v (ov w 339 g) T c s) = some (.inl none, qM X v (ov w 339 g') T c s) ∧ plR' μ pw ph num g' (fo (sg μ pw ph num k) st 10) (10 * (k + 1 : Nat)) := by
  have hg := h.2.2.1
  have hc1 := hg.2.1
  have ho := hg.o (i := k) (by omega) hk
  have hA := mul_b (x := pw) (y := ph) (by omega) (by omega) (by omega) (by omega)
  obtain ⟨p, e1, hR'⟩ := lr1 (fun (n : Nat) st (p : (Int → Int) × Option Value × Option Value) => plR' μ pw ph num p.1 st (10 * (k : Int) + n)) (fun (n : Nat) _ p => jm_R (jm_env (d + 2)) jmM_X5_weighSeries 3 [some (.ref 339), some (.int (i3 k)), some (.ref (b + 7 + 5 * k)), some (.int (i3 e)), some (.int (i3 n)), p.2.1, p.2.2] [] (qM X v (ov w 339 p.1) T c s)) (sg μ pw ph num k) 10 (fun n st p hn hR => by
    obtain ⟨r1, r2, r3, r5, r6, r8, r9, r7, rP, c0, c1, s0, s1⟩ := hR
    have hf := fitI_01 (v := μ) (i := k) (n := n) (pw := pw) (ph := ph)
    have hs := hg.s (i := k) (by omega) hk (n := n + 1) (by omega)
    have ha := aM_b ho n
    have g2 : 0 ≤ pw := by omega
    have g4 : 0 ≤ ph := by omega
    rw [bX5_weighSeries_3]
    simp (disch := first | assumption | omega) only [eX5_weighSeries, bX5_weighSeries_0, bX5_weighSeries_10, bX5_weighSeries_28, bX5_weighSeries_86, bX5_weighSeries_96, bX5_weighSeries_113, bX5_weighSeries_119, g5_1, g5_2, g5_8, p5_8, g5_9, p5_9, g5_3, p5_5, p5_6, p5_7, i3_add, i3_sub, i3_mul, i3_neg, i6_add, i6_sub, i6_mul, i6_neg, i3_lt, i3_le, i3_eq, i6_lt, i6_eq, i3_div, i6_div, i6_i3, i3_i6, c6_lt, c6_ge, c6_gt, c6_le, c6_eq, i3_ite, i6_ite, ib_0, ib_z, ite_not, i1_0, i0_0, jB_1, jB_0, jB_ib, bI_v, bL_v, bD_v, bV_v, ob_s, ob_i, i3_ofNat, jx_e, bI_e, bL_e, bD_e, bV_e, i3_eq0, i6_eq0, if_mx, if_mn, if_true, if_false, not_true_eq_false, not_false_eq_true, Int.reduceEq, Int.reduceLT, Int.reduceLE, ov_in, r1, r2, r3, tX9_fits h, tX9_supplyAt h, tX9_areaAt h, ov_up, st1_ne, st1_eq, r8, r9]
    rw [if_neg (by omega)]
    by_cases f0 : fitI μ k n pw ph = 0
    · rw [if_pos f0]
      have es : sg μ pw ph num k st n = st := Prod.ext (if_neg (by omega)) (Prod.ext (by show st.2.1 + fitI μ k n pw ph = st.2.1; omega) (if_pos f0))
      rw [es]
      exact ⟨p, rfl, r1, r2, r3, r5, r6, r8, r9, r7, rP, c0, by omega, s0, s1⟩
    · rw [if_neg f0]
      have ef : fitG μ pw ph st.2.1 k n = st.2.1 + 1 := by unfold fitG; omega
      have em : mosG μ pw ph st.2.2 k n = max st.2.2 (supM μ k (n + 1)) := if_neg f0
      by_cases q1 : supM μ k (n + 1) < num
      · rw [if_pos q1]
        have es : sg μ pw ph num k st n = (st.1, st.2.1 + 1, max st.2.2 (supM μ k (n + 1))) := Prod.ext (if_neg (by omega)) (Prod.ext ef em)
        rw [es]
        refine ⟨(_, _, _), rfl, ?_⟩
        unfold plR'
        simp (disch := first | assumption | omega) only [st1_ne, st1_eq]
        exact ⟨r1, r2, r3, r5, r6, rfl, rfl, r7, rP, by omega, by omega, by omega, by omega⟩
      · rw [if_neg q1]
        have q2 : num ≤ supM μ k (n + 1) := by omega
        rw [tX5_isNearer (by rw [st1_ne (by omega), st1_ne (by omega), r5]; rcases rP with g | g <;> omega) (by
            rw [st1_ne (by omega), st1_ne (by omega), st1_ne (by omega), st1_ne (by omega), r5]
            intro g
            rw [r7 g]
            rcases rP with g' | g'
            · exact absurd g' g
            · have := aM_b (hg.o g'.1 g'.2.1) st.1.2
              omega) (by omega) (by omega) (by omega) (by omega)]
        simp (disch := first | assumption | omega) only [eX5_weighSeries, bX5_weighSeries_0, bX5_weighSeries_10, bX5_weighSeries_28, bX5_weighSeries_86, bX5_weighSeries_96, bX5_weighSeries_113, bX5_weighSeries_119, g5_1, g5_2, g5_8, p5_8, g5_9, p5_9, g5_3, p5_5, p5_6, p5_7, i3_add, i3_sub, i3_mul, i3_neg, i6_add, i6_sub, i6_mul, i6_neg, i3_lt, i3_le, i3_eq, i6_lt, i6_eq, i3_div, i6_div, i6_i3, i3_i6, c6_lt, c6_ge, c6_gt, c6_le, c6_eq, i3_ite, i6_ite, ib_0, ib_z, ite_not, i1_0, i0_0, jB_1, jB_0, jB_ib, bI_v, bL_v, bD_v, bV_v, ob_s, ob_i, i3_ofNat, jx_e, bI_e, bL_e, bD_e, bV_e, i3_eq0, i6_eq0, if_mx, if_mn, if_true, if_false, not_true_eq_false, not_false_eq_true, Int.reduceEq, Int.reduceLT, Int.reduceLE, ov_in, ov_up, st1_ne, st1_eq, r5]
        by_cases q3 : nrI μ st.1 k (aM μ k n) = 1
        · have q4 : st.1.1 = -1 ∨ aM μ k n - pw * ph < p.1 7 ∨ (aM μ k n - pw * ph = p.1 7 ∧ (k : Int) = st.1.1) := by
            unfold nrI at q3
            split at q3
            · next g =>
              by_cases g1 : st.1.1 = -1
              · exact Or.inl g1
              · rw [r7 g1]
                omega
            · exact absurd q3 (by decide)
          rw [if_pos q4]
          have es : sg μ pw ph num k st n = (((k : Int), (n : Int)), st.2.1 + 1, max st.2.2 (supM μ k (n + 1))) := Prod.ext (if_pos ⟨by omega, q2, q3⟩) (Prod.ext ef em)
          rw [es]
          refine ⟨(_, _, _), rfl, ?_⟩
          unfold plR'
          simp (disch := first | assumption | omega) only [st1_ne, st1_eq]
          exact ⟨r1, r2, r3, rfl, rfl, rfl, rfl, fun _ => rfl, Or.inr ⟨by simp, hk, by simp, by simp; omega⟩, by omega, by omega, by omega, by omega⟩
        · have q4 : ¬ (st.1.1 = -1 ∨ aM μ k n - pw * ph < p.1 7 ∨ (aM μ k n - pw * ph = p.1 7 ∧ (k : Int) = st.1.1)) := by
            intro g
            apply q3
            unfold nrI
            rw [if_pos]
            by_cases g1 : st.1.1 = -1
            · exact Or.inl g1
            · rw [r7 g1] at g
              omega
          rw [if_neg q4]
          have es : sg μ pw ph num k st n = (st.1, st.2.1 + 1, max st.2.2 (supM μ k (n + 1))) := Prod.ext (if_neg (fun g => q3 g.2.2)) (Prod.ext ef em)
          rw [es]
          refine ⟨(_, _, _), rfl, ?_⟩
          unfold plR'
          simp (disch := first | assumption | omega) only [st1_ne, st1_eq]
          exact ⟨r1, r2, r3, r5, r6, rfl, rfl, r7, rP, by omega, by omega, by omega, by omega⟩) st (g, none, none) (by rw [show (10 * (k : Int) + (0 : Nat)) = 10 * k by omega]; exact hR)
  refine ⟨p.1, ?_, by rw [show (10 * ((k + 1 : Nat) : Int)) = 10 * (k : Int) + (10 : Nat) by omega]; exact hR'⟩
  simp (disch := first | assumption | omega) only [eX5_weighSeries, bX5_weighSeries_0, bX5_weighSeries_10, bX5_weighSeries_28, bX5_weighSeries_86, bX5_weighSeries_96, bX5_weighSeries_113, bX5_weighSeries_119, g5_1, g5_2, g5_8, p5_8, g5_9, p5_9, g5_3, p5_5, p5_6, p5_7, i3_add, i3_sub, i3_mul, i3_neg, i6_add, i6_sub, i6_mul, i6_neg, i3_lt, i3_le, i3_eq, i6_lt, i6_eq, i3_div, i6_div, i6_i3, i3_i6, c6_lt, c6_ge, c6_gt, c6_le, c6_eq, i3_ite, i6_ite, ib_0, ib_z, ite_not, i1_0, i0_0, jB_1, jB_0, jB_ib, bI_v, bL_v, bD_v, bV_v, ob_s, ob_i, i3_ofNat, jx_e, bI_e, bL_e, bD_e, bV_e, i3_eq0, i6_eq0, if_mx, if_mn, if_true, if_false, not_true_eq_false, not_false_eq_true, Int.reduceEq, Int.reduceLT, Int.reduceLE]
  refine Eq.trans e1 ?_
  rw [bX5_weighSeries_3]
  simp (disch := first | assumption | omega) only [eX5_weighSeries, bX5_weighSeries_0, bX5_weighSeries_10, bX5_weighSeries_28, bX5_weighSeries_86, bX5_weighSeries_96, bX5_weighSeries_113, bX5_weighSeries_119, g5_1, g5_2, g5_8, p5_8, g5_9, p5_9, g5_3, p5_5, p5_6, p5_7, i3_add, i3_sub, i3_mul, i3_neg, i6_add, i6_sub, i6_mul, i6_neg, i3_lt, i3_le, i3_eq, i6_lt, i6_eq, i3_div, i6_div, i6_i3, i3_i6, c6_lt, c6_ge, c6_gt, c6_le, c6_eq, i3_ite, i6_ite, ib_0, ib_z, ite_not, i1_0, i0_0, jB_1, jB_0, jB_ib, bI_v, bL_v, bD_v, bV_v, ob_s, ob_i, i3_ofNat, jx_e, bI_e, bL_e, bD_e, bV_e, i3_eq0, i6_eq0, if_mx, if_mn, if_true, if_false, not_true_eq_false, not_false_eq_true, Int.reduceEq, Int.reduceLT, Int.reduceLE]
  first | done | rw [if_pos (by omega)]
end CLD
