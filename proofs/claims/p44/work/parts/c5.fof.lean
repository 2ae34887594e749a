-- uses 24.zar 25.obj 26.ops 27.ra 28.rb 29.rc 34.gen 38.mod 39.mo2 41.bit 42.mo4 44.mo6 46.mo8 53.cla 58.clf 59.clg 61.cli b1.plb c0.foa c1.fob c2.foc c3.fod c4.foe
/-! The class's calls on a folded sheet. -/
theorem fnd_no {p : Nat → Prop} [DecidablePred p] : ∀ (r k : Nat) (f e : Int), e = ((k + r : Nat) : Int) → f ≤ fnd p (fun k : Nat => (k : Int)) e k r → ∀ j : Nat, k ≤ j → (j : Int) < f → ¬ p j := by
  intro r
  induction r with
  | zero =>
    intro k f e he h j hj hf
    have h2 : f ≤ e := h
    omega
  | succ r ih =>
    intro k f e he h j hj hf
    unfold fnd at h
    split at h
    · omega
    · by_cases q : j = k
      · rw [q]; assumption
      · exact ih (k + 1) f e (by omega) h j (by omega) hf
theorem fdM_le {μ : Nat → Int → Int} {i n : Int} {f : Nat} (h : (f : Int) ≤ fdM μ i n) : f < 6 ∧ n + f < 10 := by
  have hb := fdM_b (v := μ) (i := i) (n := n)
  refine ⟨by omega, ?_⟩
  unfold fdM at h
  split at h
  · omega
  · by_cases q : f = 0
    · omega
    · have := fnd_no 5 0 f 5 rfl h (f - 1) (by omega) (by omega)
      omega
def cdP (A B C : Prop) [Decidable A] [Decidable B] [Decidable C] : Int := if A then (if B then (if C then 0 else 1) else 2) else 1
section FOF
variable {d : Nat} {X : Nat × (Nat → Int32)} {v w : Nat → Int → Int} {T c s : Nat}
variable {μ : Nat → Int → Int}
/-- series i, size n, f folds -/
def fA (μ : Nat → Int → Int) (i n : Int) : Prop := (0 ≤ i ∧ i < μ 412 0) ∧ 0 ≤ n ∧ n < 10
theorem tX11_foldSheet_0 {i n : Int} {x f : Nat} (h : LO v 14 μ) (hA : (0 ≤ i ∧ i < μ 412 0) ∧ 0 ≤ n ∧ n < 10) (hB : (f : Int) ≤ fdM μ i n) (hx : x < 2 ^ f) (hp : ptn μ i n x f) : ∃ w', jm_env (d + 5) 110 [.ref 0, .int (i3 i), .int (i3 n), .int (i3 (f : Nat))] (qM X v w T c s) = some (.inl none, qM X v w' T c s) ∧ FU w' x f := by
  obtain ⟨hln, -, hg, hz⟩ := id h
  obtain ⟨hc0, hc1, he0, he1, -⟩ := id hg
  obtain ⟨⟨g1, g2⟩, g3, g4⟩ := id hA
  obtain ⟨i', rfl⟩ : ∃ i' : Nat, i = i' := ⟨i.toNat, (Int.toNat_of_nonneg g1).symm⟩
  obtain ⟨f6, nf⟩ := fdM_le hB
  have hb := fdM_b (v := μ) (i := (i' : Int)) (n := n)
  obtain ⟨w', e, hu⟩ := tX2_foldUp (d := d) (X := X) (w := w) (T := T) (c := c) (s := s) h g2 f6 hx g3 nf hp
  have q0 : ((f : Int) < 0) = False := eq_false (by omega)
  have q1 : (fdM μ i' n < (f : Int)) = False := eq_false (by omega)
  refine ⟨w', ?_, hu⟩
  simp (disch := first | assumption | omega) only [↓reduceIte, eX11_foldSheet, bX11_foldSheet_0, bX11_foldSheet_21, bX11_foldSheet_31, bX11_foldSheet_35, bX11_foldSheet_36, r11_5, r4_3, q4_3, r11_12, i3_add, i3_sub, i3_mul, i3_neg, i6_add, i6_sub, i6_mul, i6_neg, i3_lt, i3_le, i3_eq, i6_lt, i6_eq, i3_div, i6_div, i6_i3, i3_i6, c6_lt, c6_ge, c6_gt, c6_le, c6_eq, i3_ite, i6_ite, ib_0, ib_z, ite_not, i1_0, i0_0, jB_1, jB_0, jB_ib, bI_v, bL_v, bD_v, bV_v, ob_s, ob_i, i3_ofNat, jx_e, bI_e, bL_e, bD_e, bV_e, i3_eq0, i6_eq0, if_mx, if_mn, if_true, if_false, not_true_eq_false, not_false_eq_true, Int.reduceEq, Int.reduceLT, Int.reduceLE, tX11_requireSize_0 h, Int.toNat_natCast, tX9_foldsAt h, q0, q1, sX11_require_1, e]
theorem tX11_foldSheet_1 {i n f : Int} (h : LO v 14 μ) (hi : isI i) (hn : isI n) (hA : ¬ ((0 ≤ i ∧ i < μ 412 0) ∧ 0 ≤ n ∧ n < 10)) : jm_env (d + 5) 110 [.ref 0, .int (i3 i), .int (i3 n), .int (i3 f)] (qM X v w T c s) = some (.inr eIB, jm_exc (qM X v w T c s)) := by
  obtain ⟨hi0, hi1⟩ := hi
  obtain ⟨hn0, hn1⟩ := hn
  simp (disch := first | assumption | omega) only [eX11_foldSheet, bX11_foldSheet_0, bX11_foldSheet_21, bX11_foldSheet_31, bX11_foldSheet_35, bX11_foldSheet_36, r11_5, r4_3, q4_3, r11_12, i3_add, i3_sub, i3_mul, i3_neg, i6_add, i6_sub, i6_mul, i6_neg, i3_lt, i3_le, i3_eq, i6_lt, i6_eq, i3_div, i6_div, i6_i3, i3_i6, c6_lt, c6_ge, c6_gt, c6_le, c6_eq, i3_ite, i6_ite, ib_0, ib_z, ite_not, i1_0, i0_0, jB_1, jB_0, jB_ib, bI_v, bL_v, bD_v, bV_v, ob_s, ob_i, i3_ofNat, jx_e, bI_e, bL_e, bD_e, bV_e, i3_eq0, i6_eq0, if_mx, if_mn, if_true, if_false, not_true_eq_false, not_false_eq_true, Int.reduceEq, Int.reduceLT, Int.reduceLE, tX11_requireSize_1 h]
  rfl
theorem tX11_foldSheet_2 {i n f : Int} (h : LO v 14 μ) (hf : isI f) (hA : (0 ≤ i ∧ i < μ 412 0) ∧ 0 ≤ n ∧ n < 10) (hB : ¬ (0 ≤ f ∧ f ≤ fdM μ i n)) : jm_env (d + 5) 110 [.ref 0, .int (i3 i), .int (i3 n), .int (i3 f)] (qM X v w T c s) = some (.inr eIA, jm_exc (qM X v w T c s)) := by
  obtain ⟨hf0, hf1⟩ := hf
  obtain ⟨hln, -, hg, hz⟩ := id h
  obtain ⟨hc0, hc1, he0, he1, -⟩ := id hg
  obtain ⟨⟨g1, g2⟩, g3, g4⟩ := id hA
  obtain ⟨i', rfl⟩ : ∃ i' : Nat, i = i' := ⟨i.toNat, (Int.toNat_of_nonneg g1).symm⟩
  have hb := fdM_b (v := μ) (i := (i' : Int)) (n := n)
  by_cases g : f < 0
  · simp (disch := first | assumption | omega) only [↓reduceIte, eX11_foldSheet, bX11_foldSheet_0, bX11_foldSheet_21, bX11_foldSheet_31, bX11_foldSheet_35, bX11_foldSheet_36, r11_5, r4_3, q4_3, r11_12, i3_add, i3_sub, i3_mul, i3_neg, i6_add, i6_sub, i6_mul, i6_neg, i3_lt, i3_le, i3_eq, i6_lt, i6_eq, i3_div, i6_div, i6_i3, i3_i6, c6_lt, c6_ge, c6_gt, c6_le, c6_eq, i3_ite, i6_ite, ib_0, ib_z, ite_not, i1_0, i0_0, jB_1, jB_0, jB_ib, bI_v, bL_v, bD_v, bV_v, ob_s, ob_i, i3_ofNat, jx_e, bI_e, bL_e, bD_e, bV_e, i3_eq0, i6_eq0, if_mx, if_mn, if_true, if_false, not_true_eq_false, not_false_eq_true, Int.reduceEq, Int.reduceLT, Int.reduceLE, tX11_requireSize_0 h, Int.toNat_natCast, eq_true g, sX11_require_0]
  · have q1 : (fdM μ i' n < f) = True := eq_true (by omega)
    simp (disch := first | assumption | omega) only [↓reduceIte, eX11_foldSheet, bX11_foldSheet_0, bX11_foldSheet_21, bX11_foldSheet_31, bX11_foldSheet_35, bX11_foldSheet_36, r11_5, r4_3, q4_3, r11_12, i3_add, i3_sub, i3_mul, i3_neg, i6_add, i6_sub, i6_mul, i6_neg, i3_lt, i3_le, i3_eq, i6_lt, i6_eq, i3_div, i6_div, i6_i3, i3_i6, c6_lt, c6_ge, c6_gt, c6_le, c6_eq, i3_ite, i6_ite, ib_0, ib_z, ite_not, i1_0, i0_0, jB_1, jB_0, jB_ib, bI_v, bL_v, bD_v, bV_v, ob_s, ob_i, i3_ofNat, jx_e, bI_e, bL_e, bD_e, bV_e, i3_eq0, i6_eq0, if_mx, if_mn, if_true, if_false, not_true_eq_false, not_false_eq_true, Int.reduceEq, Int.reduceLT, Int.reduceLE, tX11_requireSize_0 h, Int.toNat_natCast, tX9_foldsAt h, eq_false g, q1, sX11_require_0]
theorem cX11_grid {i n f z : Int} {x : Nat} (h : LO v 14 μ) (hi : isI i) (hn : isI n) (hf : isI f) (hz : z = 0 ∨ z = 1) (hx : ((0 ≤ i ∧ i < μ 412 0) ∧ 0 ≤ n ∧ n < 10) → (0 ≤ f ∧ f ≤ fdM μ i n) → x < 2 ^ f.toNat ∧ ptn μ i n x f.toNat) : cR (jm_env (d + 6) 107 [.ref 0, .int (i3 i), .int (i3 n), .int (i3 f), .int (i3 z)] (qM X v w T c s)) X v T c s eIB eIA (cd2 ((0 ≤ i ∧ i < μ 412 0) ∧ 0 ≤ n ∧ n < 10) (0 ≤ f ∧ f ≤ fdM μ i n)) (if z = 0 then rwX x f.toNat else clX x f.toNat) := by
  by_cases gA : (0 ≤ i ∧ i < μ 412 0) ∧ 0 ≤ n ∧ n < 10
  · by_cases gB : 0 ≤ f ∧ f ≤ fdM μ i n
    · rw [cd2_0 gA gB]
      obtain ⟨x0, x1⟩ := hx gA gB
      obtain ⟨w', e, ⟨u0, u1, -⟩, -⟩ := tX11_foldSheet_0 (d := d) (X := X) (w := w) (T := T) (c := c) (s := s) (f := f.toNat) h gA (by omega) x0 x1
      rw [Int.toNat_of_nonneg gB.1] at e
      apply cR_0
      refine ⟨w', ?_⟩
      rcases hz with rfl | rfl
      · simp (disch := first | assumption | omega) only [↓reduceIte, eX11_grid, bX11_grid_0, bX11_grid_12, bX11_grid_22, bX11_grid_29, r11_12, g2_1, g2_0, i3_add, i3_sub, i3_mul, i3_neg, i6_add, i6_sub, i6_mul, i6_neg, i3_lt, i3_le, i3_eq, i6_lt, i6_eq, i3_div, i6_div, i6_i3, i3_i6, c6_lt, c6_ge, c6_gt, c6_le, c6_eq, i3_ite, i6_ite, ib_0, ib_z, ite_not, i1_0, i0_0, jB_1, jB_0, jB_ib, bI_v, bL_v, bD_v, bV_v, ob_s, ob_i, i3_ofNat, jx_e, bI_e, bL_e, bD_e, bV_e, i3_eq0, i6_eq0, if_mx, if_mn, if_true, if_false, not_true_eq_false, not_false_eq_true, Int.reduceEq, Int.reduceLT, Int.reduceLE, e, u0]
      · have q10 : ((1 : Int) = 0) = False := by decide
        simp (disch := first | assumption | omega) only [↓reduceIte, eX11_grid, bX11_grid_0, bX11_grid_12, bX11_grid_22, bX11_grid_29, r11_12, g2_1, g2_0, i3_add, i3_sub, i3_mul, i3_neg, i6_add, i6_sub, i6_mul, i6_neg, i3_lt, i3_le, i3_eq, i6_lt, i6_eq, i3_div, i6_div, i6_i3, i3_i6, c6_lt, c6_ge, c6_gt, c6_le, c6_eq, i3_ite, i6_ite, ib_0, ib_z, ite_not, i1_0, i0_0, jB_1, jB_0, jB_ib, bI_v, bL_v, bD_v, bV_v, ob_s, ob_i, i3_ofNat, jx_e, bI_e, bL_e, bD_e, bV_e, i3_eq0, i6_eq0, if_mx, if_mn, if_true, if_false, not_true_eq_false, not_false_eq_true, Int.reduceEq, Int.reduceLT, Int.reduceLE, e, q10, u1]
    · rw [cd2_2 gA gB]
      apply cR_2
      have e := tX11_foldSheet_2 (d := d) (X := X) (w := w) (T := T) (c := c) (s := s) h hf gA gB
      simp (disch := first | assumption | omega) only [eX11_grid, bX11_grid_0, bX11_grid_12, bX11_grid_22, bX11_grid_29, r11_12, g2_1, g2_0, i3_add, i3_sub, i3_mul, i3_neg, i6_add, i6_sub, i6_mul, i6_neg, i3_lt, i3_le, i3_eq, i6_lt, i6_eq, i3_div, i6_div, i6_i3, i3_i6, c6_lt, c6_ge, c6_gt, c6_le, c6_eq, i3_ite, i6_ite, ib_0, ib_z, ite_not, i1_0, i0_0, jB_1, jB_0, jB_ib, bI_v, bL_v, bD_v, bV_v, ob_s, ob_i, i3_ofNat, jx_e, bI_e, bL_e, bD_e, bV_e, i3_eq0, i6_eq0, if_mx, if_mn, if_true, if_false, not_true_eq_false, not_false_eq_true, Int.reduceEq, Int.reduceLT, Int.reduceLE, e]
      exact ⟨_, rfl⟩
  · rw [cd2_1 gA]
    apply cR_1
    have e := tX11_foldSheet_1 (d := d) (X := X) (w := w) (T := T) (c := c) (s := s) (f := f) h hi hn gA
    simp (disch := first | assumption | omega) only [eX11_grid, bX11_grid_0, bX11_grid_12, bX11_grid_22, bX11_grid_29, r11_12, g2_1, g2_0, i3_add, i3_sub, i3_mul, i3_neg, i6_add, i6_sub, i6_mul, i6_neg, i3_lt, i3_le, i3_eq, i6_lt, i6_eq, i3_div, i6_div, i6_i3, i3_i6, c6_lt, c6_ge, c6_gt, c6_le, c6_eq, i3_ite, i6_ite, ib_0, ib_z, ite_not, i1_0, i0_0, jB_1, jB_0, jB_ib, bI_v, bL_v, bD_v, bV_v, ob_s, ob_i, i3_ofNat, jx_e, bI_e, bL_e, bD_e, bV_e, i3_eq0, i6_eq0, if_mx, if_mn, if_true, if_false, not_true_eq_false, not_false_eq_true, Int.reduceEq, Int.reduceLT, Int.reduceLE, e]
    exact ⟨_, rfl⟩
theorem cX11_pageGap {i n f : Int} (h : LO v 14 μ) (hi : isI i) (hn : isI n) (hf : isI f) : cR (jm_env (d + 6) 109 [.ref 0, .int (i3 i), .int (i3 n), .int (i3 f)] (qM X v w T c s)) X v T c s eIB eIA (cd2 ((0 ≤ i ∧ i < μ 412 0) ∧ 0 ≤ n ∧ n < 10) (0 ≤ f ∧ f ≤ fdM μ i n)) 0 := by
  by_cases gA : (0 ≤ i ∧ i < μ 412 0) ∧ 0 ≤ n ∧ n < 10
  · by_cases gB : 0 ≤ f ∧ f ≤ fdM μ i n
    · rw [cd2_0 gA gB]
      have hb := fdM_b (v := μ) (i := i) (n := n)
      obtain ⟨x, x0, x1⟩ := ptn_e μ i n (f := f.toNat) (by omega)
      obtain ⟨w', e, hu⟩ := tX11_foldSheet_0 (d := d) (X := X) (w := w) (T := T) (c := c) (s := s) (f := f.toNat) h gA (by omega) x0 x1
      rw [Int.toNat_of_nonneg gB.1] at e
      have e2 := tX2_other (d := d + 2) (X := X) (v := v) (T := T) (c := c) (s := s) (by omega) x0 hu
      apply cR_0
      refine ⟨w', ?_⟩
      simp (disch := first | assumption | omega) only [↓reduceIte, eX11_pageGap, bX11_pageGap_0, r11_12, i3_add, i3_sub, i3_mul, i3_neg, i6_add, i6_sub, i6_mul, i6_neg, i3_lt, i3_le, i3_eq, i6_lt, i6_eq, i3_div, i6_div, i6_i3, i3_i6, c6_lt, c6_ge, c6_gt, c6_le, c6_eq, i3_ite, i6_ite, ib_0, ib_z, ite_not, i1_0, i0_0, jB_1, jB_0, jB_ib, bI_v, bL_v, bD_v, bV_v, ob_s, ob_i, i3_ofNat, jx_e, bI_e, bL_e, bD_e, bV_e, i3_eq0, i6_eq0, if_mx, if_mn, if_true, if_false, not_true_eq_false, not_false_eq_true, Int.reduceEq, Int.reduceLT, Int.reduceLE, e, e2]
    · rw [cd2_2 gA gB]
      apply cR_2
      have e := tX11_foldSheet_2 (d := d) (X := X) (w := w) (T := T) (c := c) (s := s) h hf gA gB
      simp (disch := first | assumption | omega) only [eX11_pageGap, bX11_pageGap_0, r11_12, i3_add, i3_sub, i3_mul, i3_neg, i6_add, i6_sub, i6_mul, i6_neg, i3_lt, i3_le, i3_eq, i6_lt, i6_eq, i3_div, i6_div, i6_i3, i3_i6, c6_lt, c6_ge, c6_gt, c6_le, c6_eq, i3_ite, i6_ite, ib_0, ib_z, ite_not, i1_0, i0_0, jB_1, jB_0, jB_ib, bI_v, bL_v, bD_v, bV_v, ob_s, ob_i, i3_ofNat, jx_e, bI_e, bL_e, bD_e, bV_e, i3_eq0, i6_eq0, if_mx, if_mn, if_true, if_false, not_true_eq_false, not_false_eq_true, Int.reduceEq, Int.reduceLT, Int.reduceLE, e]
      exact ⟨_, rfl⟩
  · rw [cd2_1 gA]
    apply cR_1
    have e := tX11_foldSheet_1 (d := d) (X := X) (w := w) (T := T) (c := c) (s := s) (f := f) h hi hn gA
    simp (disch := first | assumption | omega) only [eX11_pageGap, bX11_pageGap_0, r11_12, i3_add, i3_sub, i3_mul, i3_neg, i6_add, i6_sub, i6_mul, i6_neg, i3_lt, i3_le, i3_eq, i6_lt, i6_eq, i3_div, i6_div, i6_i3, i3_i6, c6_lt, c6_ge, c6_gt, c6_le, c6_eq, i3_ite, i6_ite, ib_0, ib_z, ite_not, i1_0, i0_0, jB_1, jB_0, jB_ib, bI_v, bL_v, bD_v, bV_v, ob_s, ob_i, i3_ofNat, jx_e, bI_e, bL_e, bD_e, bV_e, i3_eq0, i6_eq0, if_mx, if_mn, if_true, if_false, not_true_eq_false, not_false_eq_true, Int.reduceEq, Int.reduceLT, Int.reduceLE, e]
    exact ⟨_, rfl⟩
theorem cX11_page {i n f r cc z : Int} {x : Nat} (h : LO v 14 μ) (hi : isI i) (hn : isI n) (hf : isI f) (hr : isI r) (hc : isI cc) (hz : z = 0 ∨ z = 1) (hx : ((0 ≤ i ∧ i < μ 412 0) ∧ 0 ≤ n ∧ n < 10) → (0 ≤ f ∧ f ≤ fdM μ i n) → x < 2 ^ f.toNat ∧ ptn μ i n x f.toNat) : cR (jm_env (d + 6) 108 [.ref 0, .int (i3 i), .int (i3 n), .int (i3 f), .int (i3 r), .int (i3 cc), .int (i3 z)] (qM X v w T c s)) X v T c s eIB eIA (cdP ((0 ≤ i ∧ i < μ 412 0) ∧ 0 ≤ n ∧ n < 10) (0 ≤ f ∧ f ≤ fdM μ i n) ((0 ≤ r ∧ r < rwX x f.toNat) ∧ 0 ≤ cc ∧ cc < clX x f.toNat)) (pgX x f.toNat r cc z) := by
  unfold cdP
  by_cases gA : (0 ≤ i ∧ i < μ 412 0) ∧ 0 ≤ n ∧ n < 10
  · rw [if_pos gA]
    by_cases gB : 0 ≤ f ∧ f ≤ fdM μ i n
    · rw [if_pos gB]
      have hb := fdM_b (v := μ) (i := i) (n := n)
      obtain ⟨x0, x1⟩ := hx gA gB
      obtain ⟨w', e, hu⟩ := tX11_foldSheet_0 (d := d) (X := X) (w := w) (T := T) (c := c) (s := s) (f := f.toNat) h gA (by omega) x0 x1
      rw [Int.toNat_of_nonneg gB.1] at e
      have e2 := tX2_hasCell (d := d + 4) (X := X) (v := v) (T := T) (c := c) (s := s) (by omega) x0 hu hr hc
      by_cases gC : (0 ≤ r ∧ r < rwX x f.toNat) ∧ 0 ≤ cc ∧ cc < clX x f.toNat
      · rw [if_pos gC]
        rw [if_pos gC] at e2
        have e3 := tX2_pageAt (d := d + 3) (X := X) (v := v) (T := T) (c := c) (s := s) (by omega) x0 hu gC hz
        have q10 : ((1 : Int) = 0) = False := by decide
        apply cR_0
        refine ⟨w', ?_⟩
        simp (disch := first | assumption | omega) only [↓reduceIte, eX11_page, bX11_page_0, bX11_page_21, bX11_page_32, r11_12, i3_add, i3_sub, i3_mul, i3_neg, i6_add, i6_sub, i6_mul, i6_neg, i3_lt, i3_le, i3_eq, i6_lt, i6_eq, i3_div, i6_div, i6_i3, i3_i6, c6_lt, c6_ge, c6_gt, c6_le, c6_eq, i3_ite, i6_ite, ib_0, ib_z, ite_not, i1_0, i0_0, jB_1, jB_0, jB_ib, bI_v, bL_v, bD_v, bV_v, ob_s, ob_i, i3_ofNat, jx_e, bI_e, bL_e, bD_e, bV_e, i3_eq0, i6_eq0, if_mx, if_mn, if_true, if_false, not_true_eq_false, not_false_eq_true, Int.reduceEq, Int.reduceLT, Int.reduceLE, e, e2, q10, e3]
      · rw [if_neg gC]
        rw [if_neg gC] at e2
        apply cR_1
        simp (disch := first | assumption | omega) only [↓reduceIte, eX11_page, bX11_page_0, bX11_page_21, bX11_page_32, r11_12, i3_add, i3_sub, i3_mul, i3_neg, i6_add, i6_sub, i6_mul, i6_neg, i3_lt, i3_le, i3_eq, i6_lt, i6_eq, i3_div, i6_div, i6_i3, i3_i6, c6_lt, c6_ge, c6_gt, c6_le, c6_eq, i3_ite, i6_ite, ib_0, ib_z, ite_not, i1_0, i0_0, jB_1, jB_0, jB_ib, bI_v, bL_v, bD_v, bV_v, ob_s, ob_i, i3_ofNat, jx_e, bI_e, bL_e, bD_e, bV_e, i3_eq0, i6_eq0, if_mx, if_mn, if_true, if_false, not_true_eq_false, not_false_eq_true, Int.reduceEq, Int.reduceLT, Int.reduceLE, e, e2]
        exact ⟨_, rfl⟩
    · rw [if_neg gB]
      apply cR_2
      have e := tX11_foldSheet_2 (d := d) (X := X) (w := w) (T := T) (c := c) (s := s) h hf gA gB
      simp (disch := first | assumption | omega) only [eX11_page, bX11_page_0, bX11_page_21, bX11_page_32, r11_12, i3_add, i3_sub, i3_mul, i3_neg, i6_add, i6_sub, i6_mul, i6_neg, i3_lt, i3_le, i3_eq, i6_lt, i6_eq, i3_div, i6_div, i6_i3, i3_i6, c6_lt, c6_ge, c6_gt, c6_le, c6_eq, i3_ite, i6_ite, ib_0, ib_z, ite_not, i1_0, i0_0, jB_1, jB_0, jB_ib, bI_v, bL_v, bD_v, bV_v, ob_s, ob_i, i3_ofNat, jx_e, bI_e, bL_e, bD_e, bV_e, i3_eq0, i6_eq0, if_mx, if_mn, if_true, if_false, not_true_eq_false, not_false_eq_true, Int.reduceEq, Int.reduceLT, Int.reduceLE, e]
      exact ⟨_, rfl⟩
  · rw [if_neg gA]
    apply cR_1
    have e := tX11_foldSheet_1 (d := d) (X := X) (w := w) (T := T) (c := c) (s := s) (f := f) h hi hn gA
    simp (disch := first | assumption | omega) only [eX11_page, bX11_page_0, bX11_page_21, bX11_page_32, r11_12, i3_add, i3_sub, i3_mul, i3_neg, i6_add, i6_sub, i6_mul, i6_neg, i3_lt, i3_le, i3_eq, i6_lt, i6_eq, i3_div, i6_div, i6_i3, i3_i6, c6_lt, c6_ge, c6_gt, c6_le, c6_eq, i3_ite, i6_ite, ib_0, ib_z, ite_not, i1_0, i0_0, jB_1, jB_0, jB_ib, bI_v, bL_v, bD_v, bV_v, ob_s, ob_i, i3_ofNat, jx_e, bI_e, bL_e, bD_e, bV_e, i3_eq0, i6_eq0, if_mx, if_mn, if_true, if_false, not_true_eq_false, not_false_eq_true, Int.reduceEq, Int.reduceLT, Int.reduceLE, e]
    exact ⟨_, rfl⟩
end FOF
