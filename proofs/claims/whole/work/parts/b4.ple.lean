-- uses 24.zar 25.obj 26.ops 27.ra 28.rb 29.rc 34.gen 35.byt 36.ser 37.lnd 38.mod 39.mo2 40.mo3 41.bit 44.mo6 45.mo7 46.mo8 47.mo9 48.moa 49.mob 50.moc 51.moe 53.cla 57.cle 58.clf 61.cli 62.clj 64.okm 65.cll 66.clm 67.okf 68.okg 69.cln 70.clo 73.clr 74.cls 93.tka 97.srp b0.pla b1.plb b2.plc b3.pld
/-! The class runs the orders. -/
theorem oV_b {μ : Nat → Int → Int} {e : oE} {n : Int} (ho : okM μ n) (hr : rgO (μ 412 0) e) (h5 : e.1 ≠ 5) : -7 ≤ (oV μ e).1 ∧ (oV μ e).1 < 1000000 := by
  unfold oV
  have h2 := ho.2.1
  have hg := ho.1
  rcases hr with ⟨hk, hs, hn, hm, -⟩ | ⟨hk, -⟩ | ⟨hk, -⟩ | ⟨hk, -⟩ | ⟨hk, -⟩
  · have hx : 0 ≤ e.2.2.2.1 * μ 412 2 := Int.mul_nonneg (by omega) (by omega)
    by_cases g : e.2.1 = -1
    · rw [if_pos g, if_pos g]
      split
      · exact (show (-7 : Int) ≤ -2 ∧ (-2 : Int) < 1000000 by decide)
      · rw [if_pos (by omega)]; exact (show (-7 : Int) ≤ -2 ∧ (-2 : Int) < 1000000 by decide)
    · have h1 := byR_b hg (by omega : 0 ≤ e.2.1) (by omega) hn.1 (by omega : e.2.2.1 < 10) hx
      have h1' := ctR_b (q := e.2.2.2.1) hg (by omega : 0 ≤ e.2.1) (by omega) hn.1 (by omega : e.2.2.1 < 10) (by omega)
      rw [if_neg g, if_neg g]
      split
      · show -7 ≤ byR μ e.2.1 e.2.2.1 e.2.2.2.1 ∧ byR μ e.2.1 e.2.2.1 e.2.2.2.1 < 1000000
        omega
      · rw [if_pos (by omega)]
        show -7 ≤ ctR μ e.2.1 e.2.2.1 e.2.2.2.1 ∧ ctR μ e.2.1 e.2.2.1 e.2.2.2.1 < 1000000
        omega
  · rw [if_neg (by omega), if_neg (by omega), if_pos hk]
    show -7 ≤ flR μ e.2.1 e.2.2.1 e.2.2.2.1 ∧ flR μ e.2.1 e.2.2.1 e.2.2.2.1 < 1000000
    have hc := hg.2.1
    rcases flR_b (μ := μ) (a := e.2.1) (b := e.2.2.1) (q := e.2.2.2.1) with ⟨r1, r2, r3, r4, r5⟩ | ⟨r1, r2, r3, r4⟩
    · omega
    · rcases nrA_c (v := μ) e.2.1 e.2.2.1 e.2.2.2.1 0 with ⟨h1, -⟩ | ⟨-, g3, g4, g5, g6⟩
      · omega
      · omega
  · have := hg.2.2.1
    have := hg.2.2.2.1
    rw [if_neg (by omega), if_neg (by omega), if_neg (by omega), if_pos hk]
    show -7 ≤ μ 412 1 ∧ μ 412 1 < 1000000
    omega
  · rw [if_neg (by omega), if_neg (by omega), if_neg (by omega), if_neg (by omega)]
    show -7 ≤ μ 412 2 ∧ μ 412 2 < 1000000
    omega
  · exact absurd hk h5
/-- before a run -/
def rPr (v w μ : Nat → Int → Int) (dn B c0 : Int) (t : Nat) : Prop := LQ v μ (B + dn) ∧ μ 412 0 = c0 ∧ w 8 5 = t ∧ w 0 13 = dn ∧ 0 ≤ dn ∧ dn < 40
/-- behind a run -/
def rPo (r : oSt × Bool) (v v' w w' : Nat → Int → Int) (B c0 : Int) : Prop := LQ v' r.1.1 (B + r.1.2 + (if r.2 = true then 0 else 1)) ∧ r.1.1 412 0 = c0 ∧ frL v' v ∧ w' 0 13 = r.1.2 ∧ frQ w' w ∧ 0 ≤ r.1.2 ∧ r.1.2 ≤ 40 ∧ (r.2 = true → r.1.2 < 40)
theorem rPo_pr {r : oSt × Bool} {v v' w w' : Nat → Int → Int} {B c0 : Int} {t : Nat} (h : rPo r v v' w w' B c0) (hg : r.2 = true) (h85 : w 8 5 = t) : rPr v' w' r.1.1 r.1.2 B c0 t := by
  obtain ⟨a1, a2, a3, a4, a5, a6, a7, a8⟩ := h
  rw [if_pos hg, Int.add_zero] at a1
  exact ⟨a1, a2, (a5 8 5 (by omega) (by omega) (by omega) (by omega)).trans h85, a4, a6, a8 hg⟩
theorem rPo_tr {r r' : oSt × Bool} {v v' v'' w w' w'' : Nat → Int → Int} {B c0 : Int} (g : rPo r v v' w w' B c0) (h : rPo r' v' v'' w' w'' B c0) : rPo r' v v'' w w'' B c0 := by
  obtain ⟨a1, a2, a3, a4, a5, a6, a7, a8⟩ := h
  obtain ⟨b1, b2, b3, b4, b5, b6, b7, b8⟩ := g
  exact ⟨a1, a2, frL_tr a3 b3, a4, frQ_tr a5 b5, a6, a7, a8⟩
theorem rPo_id {v w μ : Nat → Int → Int} {dn B c0 : Int} {t : Nat} (h : rPr v w μ dn B c0 t) : rPo ((μ, dn), true) v v w w B c0 := by
  obtain ⟨a1, a2, a3, a4, a5, a6⟩ := h
  refine ⟨?_, a2, frL_id, a4, frQ_id, a5, Int.le_of_lt a6, fun _ => a6⟩
  show LQ v μ (B + dn + 0)
  rw [Int.add_zero]; exact a1
section PLE
variable {d : Nat} {X : Nat × (Nat → Int32)} {T c s : Nat} {B c0 : Int} {t : Nat}
/-- the run from k to k + n answers g -/
def rnC (D : Nat) (X : Nat × (Nat → Int32)) (T c s : Nat) (B c0 : Int) (t a1 k n dep : Nat) (L : List oE) (g : oSt → oSt × Bool) : Prop :=
  ∀ (v w μ : Nat → Int → Int) (dn : Int), rPr v w μ dn B c0 t → tbW w k L → ∃ v' w', jm_R (jm_env D) jmM_X11_runOrders 3 [some (.ref 0), some (.int (i3 a1)), some (.int (i3 ((k + n : Nat) : Int))), some (.int (i3 dep)), some (.int (i3 k))] [] (qM X v w T c s) = some (.inl (some (.int (i3 (if (g (μ, dn)).2 = true then 1 else 0)))), qM X v' w' T c s) ∧ rPo (g (μ, dn)) v v' w w' B c0
theorem tX11_againL {D a len times dep : Nat} {L : List oE} {g : oSt → oSt × Bool} (hg : rnC D X T c s B c0 t (a + 1) (a + 1) len (dep + 1) L g) (hD : D = d + 3) (ha : a + 1 + len ≤ t) (ht : t ≤ 30) (hti : times ≤ 20) (hd : dep ≤ 3) :
    ∀ (k i : Nat) (v w μ : Nat → Int → Int) (dn : Int), i + k = times → rPr v w μ dn B c0 t → tbW w (a + 1) L → w 13 a = ((a + 1 + len : Nat) : Int) →
    ∃ v' w', jm_R (jm_env (D + 1)) jmM_X11_runAgain 30 [some (.ref 0), some (.int (i3 a)), some (.int (i3 dep)), some (.int (i3 times)), some (.int (i3 i))] [] (qM X v w T c s) = some (.inl (some (.int (i3 (if (itL g k (μ, dn)).2 = true then 1 else 0)))), qM X v' w' T c s) ∧ rPo (itL g k (μ, dn)) v v' w w' B c0 := by
  intro k
  induction k with
  | zero =>
    intro i v w μ dn hi hp hb h13
    have q : ((times : Int) ≤ i) = True := eq_true (by omega)
    refine ⟨v, w, ?_, rPo_id hp⟩
    rw [bX11_runAgain_30]
    simp (disch := first | assumption | omega) only [↓reduceIte, i3_add, i3_sub, i3_mul, i3_neg, i6_add, i6_sub, i6_mul, i6_neg, i3_lt, i3_le, i3_eq, i6_lt, i6_eq, i3_div, i6_div, i6_i3, i3_i6, c6_lt, c6_ge, c6_gt, c6_le, c6_eq, i3_ite, i6_ite, ib_0, ib_z, ite_not, i1_0, i0_0, jB_1, jB_0, jB_ib, bI_v, bL_v, bD_v, bV_v, ob_s, ob_i, i3_ofNat, jx_e, bI_e, bL_e, bD_e, bV_e, i3_eq0, i6_eq0, if_mx, if_mn, if_true, if_false, not_true_eq_false, not_false_eq_true, Int.reduceEq, Int.reduceLT, Int.reduceLE, q, bX11_runAgain_65, itL]
  | succ k ih =>
    intro i v w μ dn hi hp hb h13
    have q : ((times : Int) ≤ i) = False := eq_false (by omega)
    have e13 := tX8_endAt (d := d + 2) (X := X) (v := v) (w := w) (T := T) (c := c) (s := s) (k := a) hp.2.2.1 (by omega) (by omega) (by omega)
    obtain ⟨v1, w1, e1, p1⟩ := hg v w μ dn hp hb
    have head : jm_R (jm_env (D + 1)) jmM_X11_runAgain 30 [some (.ref 0), some (.int (i3 a)), some (.int (i3 dep)), some (.int (i3 times)), some (.int (i3 i))] [] (qM X v w T c s) = (if (g (μ, dn)).2 = true then jm_R (jm_env (D + 1)) jmM_X11_runAgain 30 [some (.ref 0), some (.int (i3 a)), some (.int (i3 dep)), some (.int (i3 times)), some (.int (i3 ((i + 1 : Nat) : Int)))] [] (qM X v1 w1 T c s) else some (.inl (some (.int (i3 (0)))), qM X v1 w1 T c s)) := by
      have hc : ((a + 1 : Nat) : Int) = (a : Int) + 1 := by omega
      have hc2 : ((dep + 1 : Nat) : Int) = (dep : Int) + 1 := by omega
      have hc3 : ((i + 1 : Nat) : Int) = (i : Int) + 1 := by omega
      rw [hc, hc2] at e1
      rw [hc3, bX11_runAgain_30]
      have e13' : jm_env (D + 1) 101 [.ref 8, .int (i3 a)] (qM X v w T c s) = some (.inl (some (.int (i3 (w 13 a)))), qM X v w T c s) := by rw [hD]; exact e13
      simp (disch := first | assumption | omega) only [↓reduceIte, i3_add, i3_sub, i3_mul, i3_neg, i6_add, i6_sub, i6_mul, i6_neg, i3_lt, i3_le, i3_eq, i6_lt, i6_eq, i3_div, i6_div, i6_i3, i3_i6, c6_lt, c6_ge, c6_gt, c6_le, c6_eq, i3_ite, i6_ite, ib_0, ib_z, ite_not, i1_0, i0_0, jB_1, jB_0, jB_ib, bI_v, bL_v, bD_v, bV_v, ob_s, ob_i, i3_ofNat, jx_e, bI_e, bL_e, bD_e, bV_e, i3_eq0, i6_eq0, if_mx, if_mn, if_true, if_false, not_true_eq_false, not_false_eq_true, Int.reduceEq, Int.reduceLT, Int.reduceLE, q, bX11_runAgain_36, r11_4, e13', h13, eX11_runOrders, bX11_runOrders_0, e1]
      by_cases gg : (g (μ, dn)).2 = true
      · simp (disch := first | assumption | omega) only [gg, ↓reduceIte, i3_add, i3_sub, i3_mul, i3_neg, i6_add, i6_sub, i6_mul, i6_neg, i3_lt, i3_le, i3_eq, i6_lt, i6_eq, i3_div, i6_div, i6_i3, i3_i6, c6_lt, c6_ge, c6_gt, c6_le, c6_eq, i3_ite, i6_ite, ib_0, ib_z, ite_not, i1_0, i0_0, jB_1, jB_0, jB_ib, bI_v, bL_v, bD_v, bV_v, ob_s, ob_i, i3_ofNat, jx_e, bI_e, bL_e, bD_e, bV_e, i3_eq0, i6_eq0, if_mx, if_mn, if_true, if_false, not_true_eq_false, not_false_eq_true, Int.reduceEq, Int.reduceLT, Int.reduceLE, bX11_runAgain_59]
      · rw [if_neg gg, if_neg gg]
        simp (disch := first | assumption | omega) only [↓reduceIte, i3_add, i3_sub, i3_mul, i3_neg, i6_add, i6_sub, i6_mul, i6_neg, i3_lt, i3_le, i3_eq, i6_lt, i6_eq, i3_div, i6_div, i6_i3, i3_i6, c6_lt, c6_ge, c6_gt, c6_le, c6_eq, i3_ite, i6_ite, ib_0, ib_z, ite_not, i1_0, i0_0, jB_1, jB_0, jB_ib, bI_v, bL_v, bD_v, bV_v, ob_s, ob_i, i3_ofNat, jx_e, bI_e, bL_e, bD_e, bV_e, i3_eq0, i6_eq0, if_mx, if_mn, if_true, if_false, not_true_eq_false, not_false_eq_true, Int.reduceEq, Int.reduceLT, Int.reduceLE, bX11_runAgain_57]
    rw [head]
    unfold itL
    by_cases gg : (g (μ, dn)).2 = true
    · rw [if_pos gg, if_pos gg]
      have hp1 := rPo_pr p1 gg hp.2.2.1
      have hf := p1.2.2.2.2.1
      obtain ⟨v2, w2, e2, p2⟩ := ih (i + 1) v1 w1 _ _ (by omega) hp1 (tbW_Q hb hf) ((hf 13 a (by omega) (by omega) (by omega) (by omega)).trans h13)
      exact ⟨v2, w2, e2, rPo_tr p1 p2⟩
    · rw [if_neg gg, if_neg gg]
      refine ⟨v1, w1, ?_, p1⟩
      rw [if_neg gg]
theorem tX11_run (hB0 : 0 ≤ B) (ht : t ≤ 30) : ∀ (F q dep : Nat) (L : List oE) (k a1 : Nat), dep + q = 3 → k + L.length ≤ t → wfL c0 F L → rnC (d + 2 * q + 7) X T c s B c0 t a1 k L.length dep L (rnL F dep L) := by
  intro F
  induction F with
  | zero =>
    intro q dep L k a1 hq hk hw v w μ dn hp hb
    have hL : L = [] := hw
    subst hL
    refine ⟨v, w, ?_, rPo_id hp⟩
    have q1 : ((k + 0 : Nat) : Int) ≤ k := by omega
    rw [bX11_runOrders_3]
    simp (disch := first | assumption | omega) only [List.length_nil, ↓reduceIte, i3_add, i3_sub, i3_mul, i3_neg, i6_add, i6_sub, i6_mul, i6_neg, i3_lt, i3_le, i3_eq, i6_lt, i6_eq, i3_div, i6_div, i6_i3, i3_i6, c6_lt, c6_ge, c6_gt, c6_le, c6_eq, i3_ite, i6_ite, ib_0, ib_z, ite_not, i1_0, i0_0, jB_1, jB_0, jB_ib, bI_v, bL_v, bD_v, bV_v, ob_s, ob_i, i3_ofNat, jx_e, bI_e, bL_e, bD_e, bV_e, i3_eq0, i6_eq0, if_mx, if_mn, if_true, if_false, not_true_eq_false, not_false_eq_true, Int.reduceEq, Int.reduceLT, Int.reduceLE, eq_true q1, bX11_runOrders_88, rnL]
  | succ F ih =>
    intro q dep L k a1 hq hk hw v w μ dn hp hb
    cases L with
    | nil =>
      refine ⟨v, w, ?_, rPo_id hp⟩
      have q1 : ((k + 0 : Nat) : Int) ≤ k := by omega
      rw [bX11_runOrders_3]
      simp (disch := first | assumption | omega) only [List.length_nil, ↓reduceIte, i3_add, i3_sub, i3_mul, i3_neg, i6_add, i6_sub, i6_mul, i6_neg, i3_lt, i3_le, i3_eq, i6_lt, i6_eq, i3_div, i6_div, i6_i3, i3_i6, c6_lt, c6_ge, c6_gt, c6_le, c6_eq, i3_ite, i6_ite, ib_0, ib_z, ite_not, i1_0, i0_0, jB_1, jB_0, jB_ib, bI_v, bL_v, bD_v, bV_v, ob_s, ob_i, i3_ofNat, jx_e, bI_e, bL_e, bD_e, bV_e, i3_eq0, i6_eq0, if_mx, if_mn, if_true, if_false, not_true_eq_false, not_false_eq_true, Int.reduceEq, Int.reduceLT, Int.reduceLE, eq_true q1, bX11_runOrders_88, rnL]
    | cons e l =>
      obtain ⟨g1, g2, g3, g4⟩ := hw
      obtain ⟨hen, hb2⟩ := hb
      have hk2 : k + (l.length + 1) ≤ t := hk
      have q1 : (((k + (e :: l).length : Nat) : Int) ≤ k) = False := eq_false (by simp only [List.length_cons]; omega)
      have hlen : ((k + (e :: l).length : Nat) : Int) ≤ 30 := by simp only [List.length_cons]; omega
      have hlen0 : 0 ≤ ((k + (e :: l).length : Nat) : Int) := by omega
      have hke := rgO_k g2
      have h85 := hp.2.2.1
      have e9 := tX8_kindAt (d := d + 2 * q + 5) (X := X) (v := v) (w := w) (T := T) (c := c) (s := s) (k := k) h85 (by omega) (by omega) (by omega)
      rw [hen.1] at e9
      -- the step behind an order
      have step : ∀ (v1 w1 : Nat → Int → Int) (r : oSt × Bool), r.2 = true → rPo r v v1 w w1 B c0 → ∃ v' w', jm_R (jm_env (d + 2 * q + 7)) jmM_X11_runOrders 67 [some (.ref 0), some (.int (i3 a1)), some (.int (i3 ((k + (e :: l).length : Nat) : Int))), some (.int (i3 dep)), some (.int (i3 k))] [] (qM X v1 w1 T c s) = some (.inl (some (.int (i3 (if (rnL F dep (l.drop e.2.2.2.2) r.1).2 = true then 1 else 0)))), qM X v' w' T c s) ∧ rPo (rnL F dep (l.drop e.2.2.2.2) r.1) v v' w w' B c0 := by
        intro v1 w1 r hr1 p1
        have hp1 := rPo_pr p1 hr1 h85
        have hf := p1.2.2.2.2.1
        have e13 := tX8_endAt (d := d + 2 * q + 5) (X := X) (v := v1) (w := w1) (T := T) (c := c) (s := s) (k := k) hp1.2.2.1 (by omega) (by omega) (by omega)
        rw [hf 13 k (by omega) (by omega) (by omega) (by omega), hen.2.2.2.2] at e13
        have hb3 : tbW w1 (k + 1 + e.2.2.2.2) (l.drop e.2.2.2.2) := by
          have h0 := tbW_Q hb2 hf
          rw [← List.take_append_drop e.2.2.2.2 l] at h0
          have h1 := (tbW_app.mp h0).2
          rw [List.length_take, Nat.min_eq_left g1] at h1
          exact h1
        obtain ⟨v2, w2, e2, p2⟩ := ih q dep (l.drop e.2.2.2.2) (k + 1 + e.2.2.2.2) a1 hq (by rw [List.length_drop]; omega) g4 v1 w1 r.1.1 r.1.2 hp1 hb3
        rw [List.length_drop, show k + 1 + e.2.2.2.2 + (l.length - e.2.2.2.2) = k + (e :: l).length by simp only [List.length_cons]; omega, show ((k + 1 + e.2.2.2.2 : Nat) : Int) = (k : Int) + 1 + e.2.2.2.2 by omega] at e2
        refine ⟨v2, w2, ?_, rPo_tr p1 p2⟩
        rw [bX11_runOrders_67]
        have q2 : ((k : Int) + 1 < (k : Int) + 1 + e.2.2.2.2) ∨ ((k : Int) + 1 = (k : Int) + 1 + e.2.2.2.2) := by omega
        rcases q2 with q2 | q2
        · simp (disch := first | assumption | omega) only [↓reduceIte, i3_add, i3_sub, i3_mul, i3_neg, i6_add, i6_sub, i6_mul, i6_neg, i3_lt, i3_le, i3_eq, i6_lt, i6_eq, i3_div, i6_div, i6_i3, i3_i6, c6_lt, c6_ge, c6_gt, c6_le, c6_eq, i3_ite, i6_ite, ib_0, ib_z, ite_not, i1_0, i0_0, jB_1, jB_0, jB_ib, bI_v, bL_v, bD_v, bV_v, ob_s, ob_i, i3_ofNat, jx_e, bI_e, bL_e, bD_e, bV_e, i3_eq0, i6_eq0, if_mx, if_mn, if_true, if_false, not_true_eq_false, not_false_eq_true, Int.reduceEq, Int.reduceLT, Int.reduceLE, r11_4, e13, eq_true q2]
          exact e2
        · have q3 : ((k : Int) + 1 < (k : Int) + 1 + e.2.2.2.2) = False := eq_false (by omega)
          simp (disch := first | assumption | omega) only [↓reduceIte, i3_add, i3_sub, i3_mul, i3_neg, i6_add, i6_sub, i6_mul, i6_neg, i3_lt, i3_le, i3_eq, i6_lt, i6_eq, i3_div, i6_div, i6_i3, i3_i6, c6_lt, c6_ge, c6_gt, c6_le, c6_eq, i3_ite, i6_ite, ib_0, ib_z, ite_not, i1_0, i0_0, jB_1, jB_0, jB_ib, bI_v, bL_v, bD_v, bV_v, ob_s, ob_i, i3_ofNat, jx_e, bI_e, bL_e, bD_e, bV_e, i3_eq0, i6_eq0, if_mx, if_mn, if_true, if_false, not_true_eq_false, not_false_eq_true, Int.reduceEq, Int.reduceLT, Int.reduceLE, r11_4, e13, q3]
          rw [← q2] at e2
          exact e2
      by_cases g5 : e.1 = 5
      · have q5 : (e.1 = 5) = True := eq_true g5
        have head : jm_R (jm_env (d + 2 * q + 7)) jmM_X11_runOrders 3 [some (.ref 0), some (.int (i3 a1)), some (.int (i3 ((k + (e :: l).length : Nat) : Int))), some (.int (i3 dep)), some (.int (i3 k))] [] (qM X v w T c s) = jm_R (jm_env (d + 2 * q + 7)) jmM_X11_runOrders 22 [some (.ref 0), some (.int (i3 a1)), some (.int (i3 ((k + (e :: l).length : Nat) : Int))), some (.int (i3 dep)), some (.int (i3 k))] [] (qM X v w T c s) := by
          rw [bX11_runOrders_3]
          simp (disch := first | assumption | omega) only [↓reduceIte, i3_add, i3_sub, i3_mul, i3_neg, i6_add, i6_sub, i6_mul, i6_neg, i3_lt, i3_le, i3_eq, i6_lt, i6_eq, i3_div, i6_div, i6_i3, i3_i6, c6_lt, c6_ge, c6_gt, c6_le, c6_eq, i3_ite, i6_ite, ib_0, ib_z, ite_not, i1_0, i0_0, jB_1, jB_0, jB_ib, bI_v, bL_v, bD_v, bV_v, ob_s, ob_i, i3_ofNat, jx_e, bI_e, bL_e, bD_e, bV_e, i3_eq0, i6_eq0, if_mx, if_mn, if_true, if_false, not_true_eq_false, not_false_eq_true, Int.reduceEq, Int.reduceLT, Int.reduceLE, q1, bX11_runOrders_9, r11_4, e9, q5]
        rw [head, bX11_runOrders_22]
        unfold rnL
        rw [if_pos g5]
        have htb3 : tbW w (k + 1) (l.take e.2.2.2.2) := by
          have h0 := hb2
          rw [← List.take_append_drop e.2.2.2.2 l] at h0
          exact (tbW_app.mp h0).1
        have hlt : (l.take e.2.2.2.2).length = e.2.2.2.2 := by rw [List.length_take]; omega
        -- idle
        have idle : (3 ≤ dep ∨ ∀ x ∈ l.take e.2.2.2.2, x.1 = 5) → jm_env (d + 2 * q + 7) 146 [.ref 0, .int (i3 k), .int (i3 dep)] (qM X v w T c s) = some (.inl (some (.int (i3 (1)))), qM X v w T c s) := by
          intro hid
          rw [eX11_runAgain, bX11_runAgain_0]
          by_cases g6 : (3 : Int) ≤ dep
          · simp (disch := first | assumption | omega) only [↓reduceIte, i3_add, i3_sub, i3_mul, i3_neg, i6_add, i6_sub, i6_mul, i6_neg, i3_lt, i3_le, i3_eq, i6_lt, i6_eq, i3_div, i6_div, i6_i3, i3_i6, c6_lt, c6_ge, c6_gt, c6_le, c6_eq, i3_ite, i6_ite, ib_0, ib_z, ite_not, i1_0, i0_0, jB_1, jB_0, jB_ib, bI_v, bL_v, bD_v, bV_v, ob_s, ob_i, i3_ofNat, jx_e, bI_e, bL_e, bD_e, bV_e, i3_eq0, i6_eq0, if_mx, if_mn, if_true, if_false, not_true_eq_false, not_false_eq_true, Int.reduceEq, Int.reduceLT, Int.reduceLE, eq_true g6, bX11_runAgain_16]
          · have g7 : ∀ x ∈ l.take e.2.2.2.2, x.1 = 5 := by
              rcases hid with h | h
              · omega
              · exact h
            have ei := tX8_isIdleAt (d := d + 2 * q + 3) (X := X) (v := v) (T := T) (c := c) (s := s) (a := k) (L := l.take e.2.2.2.2) h85 ht (by omega) (by rw [hen.2.2.2.2, hlt]) htb3 (wfL_k F _ g3)
            rw [if_pos g7] at ei
            simp (disch := first | assumption | omega) only [↓reduceIte, i3_add, i3_sub, i3_mul, i3_neg, i6_add, i6_sub, i6_mul, i6_neg, i3_lt, i3_le, i3_eq, i6_lt, i6_eq, i3_div, i6_div, i6_i3, i3_i6, c6_lt, c6_ge, c6_gt, c6_le, c6_eq, i3_ite, i6_ite, ib_0, ib_z, ite_not, i1_0, i0_0, jB_1, jB_0, jB_ib, bI_v, bL_v, bD_v, bV_v, ob_s, ob_i, i3_ofNat, jx_e, bI_e, bL_e, bD_e, bV_e, i3_eq0, i6_eq0, if_mx, if_mn, if_true, if_false, not_true_eq_false, not_false_eq_true, Int.reduceEq, Int.reduceLT, Int.reduceLE, eq_false g6, bX11_runAgain_5, r11_4, ei, bX11_runAgain_16]
        by_cases g6 : 3 ≤ dep ∨ ∀ x ∈ l.take e.2.2.2.2, x.1 = 5
        · rw [if_pos g6]
          have e1 := idle g6
          obtain ⟨v2, w2, e2, p2⟩ := step v w ((μ, dn), true) rfl (rPo_id hp)
          refine ⟨v2, w2, ?_, p2⟩
          simp (disch := first | assumption | omega) only [↓reduceIte, i3_add, i3_sub, i3_mul, i3_neg, i6_add, i6_sub, i6_mul, i6_neg, i3_lt, i3_le, i3_eq, i6_lt, i6_eq, i3_div, i6_div, i6_i3, i3_i6, c6_lt, c6_ge, c6_gt, c6_le, c6_eq, i3_ite, i6_ite, ib_0, ib_z, ite_not, i1_0, i0_0, jB_1, jB_0, jB_ib, bI_v, bL_v, bD_v, bV_v, ob_s, ob_i, i3_ofNat, jx_e, bI_e, bL_e, bD_e, bV_e, i3_eq0, i6_eq0, if_mx, if_mn, if_true, if_false, not_true_eq_false, not_false_eq_true, Int.reduceEq, Int.reduceLT, Int.reduceLE, e1]
          exact e2
        · rw [if_neg g6]
          have g7 : ¬ 3 ≤ dep := fun h => g6 (Or.inl h)
          have g8 : ¬ ∀ x ∈ l.take e.2.2.2.2, x.1 = 5 := fun h => g6 (Or.inr h)
          obtain ⟨q', rfl⟩ : ∃ q', q = q' + 1 := ⟨q - 1, by omega⟩
          have hrg : 1 ≤ e.2.1 ∧ e.2.1 ≤ 20 := by
            rcases g2 with ⟨hk, -⟩ | ⟨hk, -⟩ | ⟨hk, -⟩ | ⟨hk, -⟩ | ⟨hk, h1, h2⟩
            · omega
            · omega
            · omega
            · omega
            · exact ⟨h1, h2⟩
          have hnat : ((e.2.1.toNat : Nat) : Int) = e.2.1 := by omega
          have hin := ih q' (dep + 1) (l.take e.2.2.2.2) (k + 1) (k + 1) (by omega) (by omega) g3
          rw [hlt] at hin
          obtain ⟨v1, w1, e1, p1⟩ := tX11_againL (d := d + 2 * q' + 4) (dep := dep) (times := e.2.1.toNat) hin rfl (by omega) ht (by omega) (by omega) e.2.1.toNat 0 v w μ dn (by omega) hp htb3 (by rw [hen.2.2.2.2]; omega)
          have ei := tX8_isIdleAt (d := d + 2 * q' + 5) (X := X) (v := v) (T := T) (c := c) (s := s) (a := k) (L := l.take e.2.2.2.2) h85 ht (by omega) (by rw [hen.2.2.2.2, hlt]) htb3 (wfL_k F _ g3)
          rw [if_neg g8] at ei
          have e10 := tX8_firstAt (d := d + 2 * q' + 6) (X := X) (v := v) (w := w) (T := T) (c := c) (s := s) (k := k) h85 (by omega) (by omega) (by omega)
          rw [hen.2.1] at e10
          rw [hnat] at e1
          have ea : jm_env (d + 2 * (q' + 1) + 7) 146 [.ref 0, .int (i3 k), .int (i3 dep)] (qM X v w T c s) = some (.inl (some (.int (i3 (if (itL (rnL F (dep + 1) (l.take e.2.2.2.2)) e.2.1.toNat (μ, dn)).2 = true then 1 else 0)))), qM X v1 w1 T c s) := by
            rw [eX11_runAgain, bX11_runAgain_0, show d + 2 * (q' + 1) + 6 = d + 2 * q' + 8 by omega]
            have g9 : ((3 : Int) ≤ dep) = False := eq_false (by omega)
            simp (disch := first | assumption | omega) only [↓reduceIte, i3_add, i3_sub, i3_mul, i3_neg, i6_add, i6_sub, i6_mul, i6_neg, i3_lt, i3_le, i3_eq, i6_lt, i6_eq, i3_div, i6_div, i6_i3, i3_i6, c6_lt, c6_ge, c6_gt, c6_le, c6_eq, i3_ite, i6_ite, ib_0, ib_z, ite_not, i1_0, i0_0, jB_1, jB_0, jB_ib, bI_v, bL_v, bD_v, bV_v, ob_s, ob_i, i3_ofNat, jx_e, bI_e, bL_e, bD_e, bV_e, i3_eq0, i6_eq0, if_mx, if_mn, if_true, if_false, not_true_eq_false, not_false_eq_true, Int.reduceEq, Int.reduceLT, Int.reduceLE, g9, bX11_runAgain_5, r11_4, ei, bX11_runAgain_18, e10]
            exact e1
          by_cases gg : (itL (rnL F (dep + 1) (l.take e.2.2.2.2)) e.2.1.toNat (μ, dn)).2 = true
          · rw [if_pos gg] at ea ⊢
            obtain ⟨v2, w2, e2, p2⟩ := step v1 w1 _ gg p1
            refine ⟨v2, w2, ?_, p2⟩
            simp (disch := first | assumption | omega) only [↓reduceIte, i3_add, i3_sub, i3_mul, i3_neg, i6_add, i6_sub, i6_mul, i6_neg, i3_lt, i3_le, i3_eq, i6_lt, i6_eq, i3_div, i6_div, i6_i3, i3_i6, c6_lt, c6_ge, c6_gt, c6_le, c6_eq, i3_ite, i6_ite, ib_0, ib_z, ite_not, i1_0, i0_0, jB_1, jB_0, jB_ib, bI_v, bL_v, bD_v, bV_v, ob_s, ob_i, i3_ofNat, jx_e, bI_e, bL_e, bD_e, bV_e, i3_eq0, i6_eq0, if_mx, if_mn, if_true, if_false, not_true_eq_false, not_false_eq_true, Int.reduceEq, Int.reduceLT, Int.reduceLE, ea]
            exact e2
          · rw [if_neg gg] at ea ⊢
            refine ⟨v1, w1, ?_, p1⟩
            rw [if_neg gg]
            simp (disch := first | assumption | omega) only [↓reduceIte, i3_add, i3_sub, i3_mul, i3_neg, i6_add, i6_sub, i6_mul, i6_neg, i3_lt, i3_le, i3_eq, i6_lt, i6_eq, i3_div, i6_div, i6_i3, i3_i6, c6_lt, c6_ge, c6_gt, c6_le, c6_eq, i3_ite, i6_ite, ib_0, ib_z, ite_not, i1_0, i0_0, jB_1, jB_0, jB_ib, bI_v, bL_v, bD_v, bV_v, ob_s, ob_i, i3_ofNat, jx_e, bI_e, bL_e, bD_e, bV_e, i3_eq0, i6_eq0, if_mx, if_mn, if_true, if_false, not_true_eq_false, not_false_eq_true, Int.reduceEq, Int.reduceLT, Int.reduceLE, ea, bX11_runOrders_32]
      · have q5 : (e.1 = 5) = False := eq_false g5
        have hr : rgO (μ 412 0) e := by rw [hp.2.1]; exact g2
        have hd0 := hp.2.2.2.2
        have hB : 0 ≤ B + dn := by omega
        obtain ⟨v1, w1, e1, y2, y3, y4⟩ := tX11_doOrder (d := d + 2 * q + 1) (X := X) (T := T) (c := c) (s := s) hp.1 hB h85 ht (by omega) hen hr g5
        have hb7 := oV_b hp.1.2.1 hr g5
        have h3 := hp.1.2.1.2.2.2.1.1
        have hv0 := oV_0 (c := μ 412 0) h3 hr g5
        have hdn := hp.2.2.2.1
        have hw1 : w1 0 13 = dn := (y4 0 13 (by omega) (by omega) (by omega)).trans hdn
        have hfq : frQ w1 w := fun m k _ h1 h2 h3 => y4 m k h1 h2 h3
        have head : jm_R (jm_env (d + 2 * q + 7)) jmM_X11_runOrders 3 [some (.ref 0), some (.int (i3 a1)), some (.int (i3 ((k + (e :: l).length : Nat) : Int))), some (.int (i3 dep)), some (.int (i3 k))] [] (qM X v w T c s) = jm_R (jm_env (d + 2 * q + 7)) jmM_X11_runOrders 34 [some (.ref 0), some (.int (i3 a1)), some (.int (i3 ((k + (e :: l).length : Nat) : Int))), some (.int (i3 dep)), some (.int (i3 k))] [] (qM X v w T c s) := by
          rw [bX11_runOrders_3]
          simp (disch := first | assumption | omega) only [↓reduceIte, i3_add, i3_sub, i3_mul, i3_neg, i6_add, i6_sub, i6_mul, i6_neg, i3_lt, i3_le, i3_eq, i6_lt, i6_eq, i3_div, i6_div, i6_i3, i3_i6, c6_lt, c6_ge, c6_gt, c6_le, c6_eq, i3_ite, i6_ite, ib_0, ib_z, ite_not, i1_0, i0_0, jB_1, jB_0, jB_ib, bI_v, bL_v, bD_v, bV_v, ob_s, ob_i, i3_ofNat, jx_e, bI_e, bL_e, bD_e, bV_e, i3_eq0, i6_eq0, if_mx, if_mn, if_true, if_false, not_true_eq_false, not_false_eq_true, Int.reduceEq, Int.reduceLT, Int.reduceLE, q1, bX11_runOrders_9, r11_4, e9, q5]
        rw [head, bX11_runOrders_34]
        unfold rnL
        rw [if_neg g5]
        by_cases g6 : (oV μ e).1 < -1
        · rw [if_pos g6]
          have q6 : (-1 ≤ (oV μ e).1) = False := eq_false (by omega)
          refine ⟨v1, w1, ?_, ?_⟩
          · rw [if_neg Bool.false_ne_true]
            simp (disch := first | assumption | omega) only [↓reduceIte, i3_add, i3_sub, i3_mul, i3_neg, i6_add, i6_sub, i6_mul, i6_neg, i3_lt, i3_le, i3_eq, i6_lt, i6_eq, i3_div, i6_div, i6_i3, i3_i6, c6_lt, c6_ge, c6_gt, c6_le, c6_eq, i3_ite, i6_ite, ib_0, ib_z, ite_not, i1_0, i0_0, jB_1, jB_0, jB_ib, bI_v, bL_v, bD_v, bV_v, ob_s, ob_i, i3_ofNat, jx_e, bI_e, bL_e, bD_e, bV_e, i3_eq0, i6_eq0, if_mx, if_mn, if_true, if_false, not_true_eq_false, not_false_eq_true, Int.reduceEq, Int.reduceLT, Int.reduceLE, e1, q6, bX11_runOrders_44]
          · exact ⟨by rw [if_neg Bool.false_ne_true]; exact y2, hv0.trans hp.2.1, y3, hw1, hfq, hd0.1, (show dn ≤ 40 by omega), fun h => absurd h Bool.false_ne_true⟩
        · rw [if_neg g6]
          have q6 : (-1 ≤ (oV μ e).1) = True := eq_true (by omega)
          have hfq2 : frQ (up w1 0 13 (dn + 1)) w := fun m k h h1 h2 h3 => (up_ne (by omega)).trans (hfq m k h h1 h2 h3)
          by_cases g7 : 40 ≤ dn + 1
          · rw [if_pos (show 40 ≤ (μ, dn).2 + 1 from g7)]
            have q7 : (dn + 1 < 40) = False := eq_false (by omega)
            refine ⟨v1, up w1 0 13 (dn + 1), ?_, ?_⟩
            · rw [if_neg Bool.false_ne_true]
              simp (disch := first | assumption | omega) only [↓reduceIte, i3_add, i3_sub, i3_mul, i3_neg, i6_add, i6_sub, i6_mul, i6_neg, i3_lt, i3_le, i3_eq, i6_lt, i6_eq, i3_div, i6_div, i6_i3, i3_i6, c6_lt, c6_ge, c6_gt, c6_le, c6_eq, i3_ite, i6_ite, ib_0, ib_z, ite_not, i1_0, i0_0, jB_1, jB_0, jB_ib, bI_v, bL_v, bD_v, bV_v, ob_s, ob_i, i3_ofNat, jx_e, bI_e, bL_e, bD_e, bV_e, i3_eq0, i6_eq0, if_mx, if_mn, if_true, if_false, not_true_eq_false, not_false_eq_true, Int.reduceEq, Int.reduceLT, Int.reduceLE, e1, q6, bX11_runOrders_46, g11_13, p11_13, hw1, up_eq, q7, bX11_runOrders_65]
            · refine ⟨?_, hv0.trans hp.2.1, y3, up_eq, hfq2, (show 0 ≤ dn + 1 by omega), (show dn + 1 ≤ 40 by omega), fun h => absurd h Bool.false_ne_true⟩
              rw [if_neg Bool.false_ne_true]
              exact LQ_le y2 (show B + dn + 1 ≤ B + (dn + 1) + 1 by omega)
          · rw [if_neg (show ¬ 40 ≤ (μ, dn).2 + 1 from g7)]
            have q7 : (dn + 1 < 40) = True := eq_true (by omega)
            obtain ⟨v2, w2, e2, p2⟩ := step v1 (up w1 0 13 (dn + 1)) (((oV μ e).2, dn + 1), true) rfl ⟨by rw [if_pos rfl, Int.add_zero, ← Int.add_assoc]; exact y2, hv0.trans hp.2.1, y3, up_eq, hfq2, (show 0 ≤ dn + 1 by omega), (show dn + 1 ≤ 40 by omega), fun _ => (show dn + 1 < 40 by omega)⟩
            refine ⟨v2, w2, ?_, p2⟩
            simp (disch := first | assumption | omega) only [↓reduceIte, i3_add, i3_sub, i3_mul, i3_neg, i6_add, i6_sub, i6_mul, i6_neg, i3_lt, i3_le, i3_eq, i6_lt, i6_eq, i3_div, i6_div, i6_i3, i3_i6, c6_lt, c6_ge, c6_gt, c6_le, c6_eq, i3_ite, i6_ite, ib_0, ib_z, ite_not, i1_0, i0_0, jB_1, jB_0, jB_ib, bI_v, bL_v, bD_v, bV_v, ob_s, ob_i, i3_ofNat, jx_e, bI_e, bL_e, bD_e, bV_e, i3_eq0, i6_eq0, if_mx, if_mn, if_true, if_false, not_true_eq_false, not_false_eq_true, Int.reduceEq, Int.reduceLT, Int.reduceLE, e1, q6, bX11_runOrders_46, g11_13, p11_13, hw1, up_eq, q7]
            exact e2
end PLE
