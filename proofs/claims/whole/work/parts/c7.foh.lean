-- uses 24.zar 25.obj 26.ops 30.rd 31.re 32.rf 34.gen 38.mod 39.mo2 41.bit 42.mo4 43.mo5 44.mo6 46.mo8 53.cla 58.clf c0.foa c1.fob c2.foc c3.fod c4.foe c5.fof c6.fog
/-! The reference's calls on a folded sheet. -/
theorem upS {w : Nat → Int → Int} {a : Nat} {k z : Int} (h : w a k = z) : up w a k z = w := by
  funext m j
  by_cases g : m = a ∧ j = k
  · rw [g.1, g.2, up_eq, h]
  · exact up_ne (by omega)
section FOH
variable {d : Nat} {X : Nat × (Nat → Int32)} {v w : Nat → Int → Int} {T c s : Nat}
theorem sX12_stops_w {z : Int} (hT : 18 ≤ T) (h : w 411 8 = 0) : jm_env (d + 1) 211 [.ref 411, .int (i3 0), .int (i3 z)] (qM X v w T c s) = some (.inl (some (.int (i3 (0)))), (qM X v w T c s)) := by
  have e := sX12_stops_0 (d := d) (X := X) (v := v) (w := w) (T := T) (c := c) (s := s) (z := z) hT
  rw [upS h] at e
  exact e
theorem sX12_stops_v {z : Int} (hT : 18 ≤ T) (h : w 411 8 = 0) (z0 : 0 < z) (z1 : z < 10) : jm_env (d + 1) 211 [.ref 411, .int (i3 1), .int (i3 z)] (qM X v w T c s) = some (.inl (some (.int (i3 (1)))), qM X v (up w 411 8 z) T c s) := by
  have e := sX12_stops_1 (d := d) (X := X) (v := v) (w := w) (T := T) (c := c) (s := s) (z := z) hT z0 z1
  rw [upS h] at e
  exact e
theorem sX12_cellWith {x f : Nat} {p : Int} (hT : 18 ≤ T) (hf : f < 6) (hx : x < 2 ^ f) (hp : isI p) (hw : lW w x f) : ∃ w', jm_env (d + 4) 321 [.ref 411, .int (i3 p), .int (i3 (f : Nat))] (qM X v w T c s) = some (.inl (some (.int (i3 (cfX x f p)))), qM X v w' T c s) ∧ fr78 w' w := by
  obtain ⟨z1, z2, z3, z4, z5, -⟩ := fo_1 f hf x hx
  have h3 := (fo_h f hf).2.2
  obtain ⟨hp0, hp1⟩ := hp
  have cols : ∀ (r : Nat), r < (rwX x f).toNat → ∀ (e : Int) (m cc : Nat) (w : Nat → Int → Int), cc + m = (clX x f).toNat → lW w x f → (∀ w1, fr78 w1 w → ∃ w', jm_R (jm_env (d + 3)) jmM_X12_cellWith 78 [some (.ref 411), some (.int (i3 p)), some (.int (i3 (f : Nat))), some (.int (i3 (r : Nat))), some (.int (i3 (clX x f)))] [] (qM X v w1 T c s) = some (.inl (some (.int (i3 (e)))), qM X v w' T c s) ∧ fr78 w' w1) → ∃ w', jm_R (jm_env (d + 3)) jmM_X12_cellWith 13 [some (.ref 411), some (.int (i3 p)), some (.int (i3 (f : Nat))), some (.int (i3 (r : Nat))), some (.int (i3 (cc : Nat)))] [] (qM X v w T c s) = some (.inl (some (.int (i3 (cfI x f p r e m cc)))), qM X v w' T c s) ∧ fr78 w' w := by
    intro r hr e m
    induction m with
    | zero =>
      intro cc w hcc hw he
      have q : (clX x f ≤ (cc : Int)) = True := eq_true (by omega)
      obtain ⟨w', e1, f1⟩ := he w fr78_id
      refine ⟨w', ?_, f1⟩
      rw [show clX x f = (cc : Int) by omega] at e1
      rw [bX12_cellWith_13]
      simp (disch := first | assumption | omega) only [↓reduceIte, i3_add, i3_sub, i3_mul, i3_neg, i6_add, i6_sub, i6_mul, i6_neg, i3_lt, i3_le, i3_eq, i6_lt, i6_eq, i3_div, i6_div, i6_i3, i3_i6, c6_lt, c6_ge, c6_gt, c6_le, c6_eq, i3_ite, i6_ite, ib_0, ib_z, ite_not, i1_0, i0_0, jB_1, jB_0, jB_ib, bI_v, bL_v, bD_v, bV_v, ob_s, ob_i, i3_ofNat, jx_e, bI_e, bL_e, bD_e, bV_e, i3_eq0, i6_eq0, if_mx, if_mn, if_true, if_false, not_true_eq_false, not_false_eq_true, Int.reduceEq, Int.reduceLT, Int.reduceLE, g12_35, hw.2.1, q, e1, cfI]
    | succ m ih =>
      intro cc w hcc hw he
      have q : (clX x f ≤ (cc : Int)) = False := eq_false (by omega)
      have hin : inC x f (r : Int) (cc : Int) := ⟨by omega, by omega⟩
      obtain ⟨w1, e1, f1⟩ := sX12_pageOf (d := d + 1) (X := X) (v := v) (T := T) (c := c) (s := s) (z := 0) hT hf hx hw hin (Or.inl rfl)
      obtain ⟨w2, e2, f2⟩ := sX12_pageOf (d := d + 1) (X := X) (v := v) (T := T) (c := c) (s := s) (z := 1) hT hf hx (lW_fr hw f1) hin (Or.inr rfl)
      obtain ⟨-, b2, b3, -⟩ := pgX_b (k := 0) hf hx hin (Or.inl rfl)
      obtain ⟨-, b2', b3', -⟩ := pgX_b (k := 1) hf hx hin (Or.inr rfl)
      have f12 := fr78_tr f2 f1
      obtain ⟨w3, hi, f3⟩ := ih (cc + 1) w2 (by omega) (lW_fr hw f12) (fun w1 h1 => he w1 (fr78_tr h1 f12))
      unfold cfI
      rw [bX12_cellWith_13]
      by_cases g1 : pgX x f r cc 0 = p
      · rw [if_pos g1]
        refine ⟨w1, ?_, f1⟩
        simp (disch := first | assumption | omega) only [↓reduceIte, i3_add, i3_sub, i3_mul, i3_neg, i6_add, i6_sub, i6_mul, i6_neg, i3_lt, i3_le, i3_eq, i6_lt, i6_eq, i3_div, i6_div, i6_i3, i3_i6, c6_lt, c6_ge, c6_gt, c6_le, c6_eq, i3_ite, i6_ite, ib_0, ib_z, ite_not, i1_0, i0_0, jB_1, jB_0, jB_ib, bI_v, bL_v, bD_v, bV_v, ob_s, ob_i, i3_ofNat, jx_e, bI_e, bL_e, bD_e, bV_e, i3_eq0, i6_eq0, if_mx, if_mn, if_true, if_false, not_true_eq_false, not_false_eq_true, Int.reduceEq, Int.reduceLT, Int.reduceLE, g12_35, hw.2.1, q, bX12_cellWith_22, e1, g1, bX12_cellWith_35]
      · rw [if_neg g1]
        by_cases g2 : pgX x f r cc 1 = p
        · rw [if_pos g2]
          refine ⟨w2, ?_, f12⟩
          simp (disch := first | assumption | omega) only [↓reduceIte, i3_add, i3_sub, i3_mul, i3_neg, i6_add, i6_sub, i6_mul, i6_neg, i3_lt, i3_le, i3_eq, i6_lt, i6_eq, i3_div, i6_div, i6_i3, i3_i6, c6_lt, c6_ge, c6_gt, c6_le, c6_eq, i3_ite, i6_ite, ib_0, ib_z, ite_not, i1_0, i0_0, jB_1, jB_0, jB_ib, bI_v, bL_v, bD_v, bV_v, ob_s, ob_i, i3_ofNat, jx_e, bI_e, bL_e, bD_e, bV_e, i3_eq0, i6_eq0, if_mx, if_mn, if_true, if_false, not_true_eq_false, not_false_eq_true, Int.reduceEq, Int.reduceLT, Int.reduceLE, g12_35, hw.2.1, q, bX12_cellWith_22, e1, eq_false g1, bX12_cellWith_46, e2, g2, bX12_cellWith_59]
        · rw [if_neg g2]
          refine ⟨w3, ?_, fr78_tr f3 f12⟩
          simp (disch := first | assumption | omega) only [↓reduceIte, i3_add, i3_sub, i3_mul, i3_neg, i6_add, i6_sub, i6_mul, i6_neg, i3_lt, i3_le, i3_eq, i6_lt, i6_eq, i3_div, i6_div, i6_i3, i3_i6, c6_lt, c6_ge, c6_gt, c6_le, c6_eq, i3_ite, i6_ite, ib_0, ib_z, ite_not, i1_0, i0_0, jB_1, jB_0, jB_ib, bI_v, bL_v, bD_v, bV_v, ob_s, ob_i, i3_ofNat, jx_e, bI_e, bL_e, bD_e, bV_e, i3_eq0, i6_eq0, if_mx, if_mn, if_true, if_false, not_true_eq_false, not_false_eq_true, Int.reduceEq, Int.reduceLT, Int.reduceLE, g12_35, hw.2.1, q, bX12_cellWith_22, e1, eq_false g1, bX12_cellWith_46, e2, eq_false g2, bX12_cellWith_72]
          exact hi
  have rows : ∀ (m r : Nat) (o : Option Value) (w : Nat → Int → Int), r + m = (rwX x f).toNat → lW w x f → ∃ w', jm_R (jm_env (d + 3)) jmM_X12_cellWith 2 [some (.ref 411), some (.int (i3 p)), some (.int (i3 (f : Nat))), some (.int (i3 (r : Nat))), o] [] (qM X v w T c s) = some (.inl (some (.int (i3 (cfO x f p m r)))), qM X v w' T c s) ∧ fr78 w' w := by
    intro m
    induction m with
    | zero =>
      intro r o w hr hw
      have q : (rwX x f ≤ (r : Int)) = True := eq_true (by omega)
      refine ⟨w, ?_, fr78_id⟩
      rw [bX12_cellWith_2]
      simp (disch := first | assumption | omega) only [↓reduceIte, i3_add, i3_sub, i3_mul, i3_neg, i6_add, i6_sub, i6_mul, i6_neg, i3_lt, i3_le, i3_eq, i6_lt, i6_eq, i3_div, i6_div, i6_i3, i3_i6, c6_lt, c6_ge, c6_gt, c6_le, c6_eq, i3_ite, i6_ite, ib_0, ib_z, ite_not, i1_0, i0_0, jB_1, jB_0, jB_ib, bI_v, bL_v, bD_v, bV_v, ob_s, ob_i, i3_ofNat, jx_e, bI_e, bL_e, bD_e, bV_e, i3_eq0, i6_eq0, if_mx, if_mn, if_true, if_false, not_true_eq_false, not_false_eq_true, Int.reduceEq, Int.reduceLT, Int.reduceLE, g12_34, hw.1, q, bX12_cellWith_84, cfO]
    | succ m ih =>
      intro r o w hr hw
      have q : (rwX x f ≤ (r : Int)) = False := eq_false (by omega)
      obtain ⟨w', h1, f1⟩ := cols r (by omega) (cfO x f p m (r + 1)) (clX x f).toNat 0 w (by omega) hw (fun w1 g1 => by
        rw [bX12_cellWith_78]
        simp only [i3_add]
        exact ih (r + 1) _ w1 (by omega) (lW_fr hw g1))
      refine ⟨w', ?_, f1⟩
      unfold cfO
      rw [bX12_cellWith_2]
      simp (disch := first | assumption | omega) only [↓reduceIte, i3_add, i3_sub, i3_mul, i3_neg, i6_add, i6_sub, i6_mul, i6_neg, i3_lt, i3_le, i3_eq, i6_lt, i6_eq, i3_div, i6_div, i6_i3, i3_i6, c6_lt, c6_ge, c6_gt, c6_le, c6_eq, i3_ite, i6_ite, ib_0, ib_z, ite_not, i1_0, i0_0, jB_1, jB_0, jB_ib, bI_v, bL_v, bD_v, bV_v, ob_s, ob_i, i3_ofNat, jx_e, bI_e, bL_e, bD_e, bV_e, i3_eq0, i6_eq0, if_mx, if_mn, if_true, if_false, not_true_eq_false, not_false_eq_true, Int.reduceEq, Int.reduceLT, Int.reduceLE, g12_34, hw.1, q, bX12_cellWith_10]
      exact h1
  obtain ⟨w', e, f1⟩ := rows (rwX x f).toNat 0 none w (by omega) hw
  refine ⟨w', ?_, f1⟩
  rw [eX12_cellWith (h := hT), bX12_cellWith_0]
  exact e
/-- thrown, no folds, laid -/
theorem sX12_ready {i n f : Int} {x : Nat} (hT : 18 ≤ T) (hg : gM v) (hA : (0 ≤ i ∧ i < v 412 0) ∧ 0 ≤ n ∧ n < 10) (hB : 0 ≤ f ∧ f ≤ fdM v i n) (hp : ptn v i n x f.toNat) : ∃ w1 w2, jm_env (d + 6) 315 [.ref 411, .int (i3 i), .int (i3 n), .int (i3 f)] (qM X v (up w 411 8 0) T c s) = some (.inl (some (.int (i3 (0)))), qM X v w1 T c s) ∧ jm_env (d + 6) 316 [.ref 411, .int (i3 i), .int (i3 n), .int (i3 f)] (qM X v w1 T c s) = some (.inl none, qM X v w2 T c s) ∧ lW w2 x f.toNat ∧ w2 411 8 = 0 := by
  obtain ⟨⟨g1, g2⟩, g3, g4⟩ := id hA
  have hc5 := hg.2.1
  obtain ⟨w1, e1, h1⟩ := sX12_noFolds_0 (d := d) (X := X) (w := w) (T := T) (c := c) (s := s) hT hg hA hB
  obtain ⟨f6, nf⟩ := fdM_le (f := f.toNat) (μ := v) (i := i) (n := n) (by omega)
  obtain ⟨w2, e2, h2, h3⟩ := sX12_lays (d := d + 3) (X := X) (v := v) (w := w1) (T := T) (c := c) (s := s) (i := i) (n := n) (x := x) (f := f.toNat) hT g1 (by omega) (hg.o g1 g2) f6 g3 nf hp
  rw [Int.toNat_of_nonneg hB.1] at e2
  exact ⟨w1, w2, e1, e2, h2, h3.trans h1⟩
theorem mX12_grid {i n f z : Int} {x : Nat} (hT : 18 ≤ T) (hg : gM v) (hi : isI i) (hn : isI n) (hf : isI f) (hz : z = 0 ∨ z = 1) (hx : ((0 ≤ i ∧ i < v 412 0) ∧ 0 ≤ n ∧ n < 10) → (0 ≤ f ∧ f ≤ fdM v i n) → x < 2 ^ f.toNat ∧ ptn v i n x f.toNat) : mR (jm_env (d + 7) 317 [.ref 411, .int (i3 i), .int (i3 n), .int (i3 f), .int (i3 z)] (qM X v w T c s)) X v T c s (cd2 ((0 ≤ i ∧ i < v 412 0) ∧ 0 ≤ n ∧ n < 10) (0 ≤ f ∧ f ≤ fdM v i n)) (if z = 0 then rwX x f.toNat else clX x f.toNat) := by
  have q10 : ((1 : Int) = 0) = False := by decide
  by_cases gA : (0 ≤ i ∧ i < v 412 0) ∧ 0 ≤ n ∧ n < 10
  · by_cases gB : 0 ≤ f ∧ f ≤ fdM v i n
    · rw [cd2_0 gA gB]
      obtain ⟨x0, x1⟩ := hx gA gB
      obtain ⟨w1, w2, e1, e2, ⟨u0, u1, -⟩, h8⟩ := sX12_ready (d := d) (X := X) (w := w) (T := T) (c := c) (s := s) hT hg gA gB x1
      apply mR_0
      refine ⟨w2, ?_, h8⟩
      rw [eX12_grid (h := hT), bX12_grid_0]
      rcases hz with rfl | rfl
      · simp (disch := first | assumption | omega) only [↓reduceIte, i3_add, i3_sub, i3_mul, i3_neg, i6_add, i6_sub, i6_mul, i6_neg, i3_lt, i3_le, i3_eq, i6_lt, i6_eq, i3_div, i6_div, i6_i3, i3_i6, c6_lt, c6_ge, c6_gt, c6_le, c6_eq, i3_ite, i6_ite, ib_0, ib_z, ite_not, i1_0, i0_0, jB_1, jB_0, jB_ib, bI_v, bL_v, bD_v, bV_v, ob_s, ob_i, i3_ofNat, jx_e, bI_e, bL_e, bD_e, bV_e, i3_eq0, i6_eq0, if_mx, if_mn, if_true, if_false, not_true_eq_false, not_false_eq_true, Int.reduceEq, Int.reduceLT, Int.reduceLE, p12_8, e1, bX12_grid_17, e2, bX12_grid_36, g12_34, u0, bX12_grid_40]
      · simp (disch := first | assumption | omega) only [↓reduceIte, i3_add, i3_sub, i3_mul, i3_neg, i6_add, i6_sub, i6_mul, i6_neg, i3_lt, i3_le, i3_eq, i6_lt, i6_eq, i3_div, i6_div, i6_i3, i3_i6, c6_lt, c6_ge, c6_gt, c6_le, c6_eq, i3_ite, i6_ite, ib_0, ib_z, ite_not, i1_0, i0_0, jB_1, jB_0, jB_ib, bI_v, bL_v, bD_v, bV_v, ob_s, ob_i, i3_ofNat, jx_e, bI_e, bL_e, bD_e, bV_e, i3_eq0, i6_eq0, if_mx, if_mn, if_true, if_false, not_true_eq_false, not_false_eq_true, Int.reduceEq, Int.reduceLT, Int.reduceLE, p12_8, e1, bX12_grid_17, e2, q10, bX12_grid_29, g12_35, u1, bX12_grid_40]
    · rw [cd2_2 gA gB]
      obtain ⟨w1, e1, h1⟩ := sX12_noFolds_2 (d := d) (X := X) (w := w) (T := T) (c := c) (s := s) hT hg hf gA gB
      apply mR_1 (by decide)
      refine ⟨w1, 0, ?_, h1⟩
      rw [eX12_grid (h := hT), bX12_grid_0]
      simp (disch := first | assumption | omega) only [↓reduceIte, i3_add, i3_sub, i3_mul, i3_neg, i6_add, i6_sub, i6_mul, i6_neg, i3_lt, i3_le, i3_eq, i6_lt, i6_eq, i3_div, i6_div, i6_i3, i3_i6, c6_lt, c6_ge, c6_gt, c6_le, c6_eq, i3_ite, i6_ite, ib_0, ib_z, ite_not, i1_0, i0_0, jB_1, jB_0, jB_ib, bI_v, bL_v, bD_v, bV_v, ob_s, ob_i, i3_ofNat, jx_e, bI_e, bL_e, bD_e, bV_e, i3_eq0, i6_eq0, if_mx, if_mn, if_true, if_false, not_true_eq_false, not_false_eq_true, Int.reduceEq, Int.reduceLT, Int.reduceLE, p12_8, e1, q10, bX12_grid_15]
  · rw [cd2_1 gA]
    obtain ⟨w1, e1, h1⟩ := sX12_noFolds_1 (d := d) (X := X) (w := w) (T := T) (c := c) (s := s) (f := f) hT hg hi hn gA
    apply mR_1 (by decide)
    refine ⟨w1, 0, ?_, h1⟩
    rw [eX12_grid (h := hT), bX12_grid_0]
    simp (disch := first | assumption | omega) only [↓reduceIte, i3_add, i3_sub, i3_mul, i3_neg, i6_add, i6_sub, i6_mul, i6_neg, i3_lt, i3_le, i3_eq, i6_lt, i6_eq, i3_div, i6_div, i6_i3, i3_i6, c6_lt, c6_ge, c6_gt, c6_le, c6_eq, i3_ite, i6_ite, ib_0, ib_z, ite_not, i1_0, i0_0, jB_1, jB_0, jB_ib, bI_v, bL_v, bD_v, bV_v, ob_s, ob_i, i3_ofNat, jx_e, bI_e, bL_e, bD_e, bV_e, i3_eq0, i6_eq0, if_mx, if_mn, if_true, if_false, not_true_eq_false, not_false_eq_true, Int.reduceEq, Int.reduceLT, Int.reduceLE, p12_8, e1, q10, bX12_grid_15]
theorem mX12_page {i n f r cc z : Int} {x : Nat} (hT : 18 ≤ T) (hg : gM v) (hi : isI i) (hn : isI n) (hf : isI f) (hr : isI r) (hc : isI cc) (hz : z = 0 ∨ z = 1) (hx : ((0 ≤ i ∧ i < v 412 0) ∧ 0 ≤ n ∧ n < 10) → (0 ≤ f ∧ f ≤ fdM v i n) → x < 2 ^ f.toNat ∧ ptn v i n x f.toNat) : mR (jm_env (d + 7) 320 [.ref 411, .int (i3 i), .int (i3 n), .int (i3 f), .int (i3 r), .int (i3 cc), .int (i3 z)] (qM X v w T c s)) X v T c s (cdP ((0 ≤ i ∧ i < v 412 0) ∧ 0 ≤ n ∧ n < 10) (0 ≤ f ∧ f ≤ fdM v i n) ((0 ≤ r ∧ r < rwX x f.toNat) ∧ 0 ≤ cc ∧ cc < clX x f.toNat)) (pgX x f.toNat r cc z) := by
  have q10 : ((1 : Int) = 0) = False := by decide
  unfold cdP
  by_cases gA : (0 ≤ i ∧ i < v 412 0) ∧ 0 ≤ n ∧ n < 10
  · rw [if_pos gA]
    by_cases gB : 0 ≤ f ∧ f ≤ fdM v i n
    · rw [if_pos gB]
      obtain ⟨x0, x1⟩ := hx gA gB
      have hb := fdM_b (v := v) (i := i) (n := n)
      obtain ⟨z1, z2, z3, z4, z5, -⟩ := fo_1 f.toNat (by omega) x x0
      obtain ⟨hr0, hr1⟩ := hr
      obtain ⟨hc0, hc1⟩ := hc
      obtain ⟨w1, w2, e1, e2, hw, h8⟩ := sX12_ready (d := d) (X := X) (w := w) (T := T) (c := c) (s := s) hT hg gA gB x1
      obtain ⟨u0, u1, -⟩ := id hw
      by_cases gC : (0 ≤ r ∧ r < rwX x f.toNat) ∧ 0 ≤ cc ∧ cc < clX x f.toNat
      · rw [if_pos gC]
        obtain ⟨w3, e3, f3⟩ := sX12_pageOf (d := d + 4) (X := X) (v := v) (T := T) (c := c) (s := s) hT (by omega) x0 hw gC hz
        rw [Int.toNat_of_nonneg gB.1] at e3
        have g1 : (0 ≤ r ∧ r ≤ rwX x f.toNat - 1) = True := eq_true (by omega)
        have g2 : (0 ≤ cc ∧ cc ≤ clX x f.toNat - 1) = True := eq_true (by omega)
        apply mR_0
        refine ⟨w3, ?_, (f3 411 8 (by omega)).trans h8⟩
        rw [eX12_page (h := hT), bX12_page_0]
        simp (disch := first | assumption | omega) only [↓reduceIte, i3_add, i3_sub, i3_mul, i3_neg, i6_add, i6_sub, i6_mul, i6_neg, i3_lt, i3_le, i3_eq, i6_lt, i6_eq, i3_div, i6_div, i6_i3, i3_i6, c6_lt, c6_ge, c6_gt, c6_le, c6_eq, i3_ite, i6_ite, ib_0, ib_z, ite_not, i1_0, i0_0, jB_1, jB_0, jB_ib, bI_v, bL_v, bD_v, bV_v, ob_s, ob_i, i3_ofNat, jx_e, bI_e, bL_e, bD_e, bV_e, i3_eq0, i6_eq0, if_mx, if_mn, if_true, if_false, not_true_eq_false, not_false_eq_true, Int.reduceEq, Int.reduceLT, Int.reduceLE, p12_8, e1, bX12_page_17, e2, g12_34, g12_35, u0, u1, sX12_in, g1, g2, q10, bX12_page_42, bX12_page_63, bX12_page_64, sX12_stops_w, bX12_page_75, e3, bX12_page_86]
      · rw [if_neg gC]
        apply mR_1 (by decide)
        refine ⟨up w2 411 8 1, 0, ?_, up_eq⟩
        rw [eX12_page (h := hT), bX12_page_0]
        by_cases gr : 0 ≤ r ∧ r ≤ rwX x f.toNat - 1
        · have g1 : (0 ≤ r ∧ r ≤ rwX x f.toNat - 1) = True := eq_true gr
          have g2 : (0 ≤ cc ∧ cc ≤ clX x f.toNat - 1) = False := eq_false (by omega)
          simp (disch := first | assumption | omega) only [↓reduceIte, i3_add, i3_sub, i3_mul, i3_neg, i6_add, i6_sub, i6_mul, i6_neg, i3_lt, i3_le, i3_eq, i6_lt, i6_eq, i3_div, i6_div, i6_i3, i3_i6, c6_lt, c6_ge, c6_gt, c6_le, c6_eq, i3_ite, i6_ite, ib_0, ib_z, ite_not, i1_0, i0_0, jB_1, jB_0, jB_ib, bI_v, bL_v, bD_v, bV_v, ob_s, ob_i, i3_ofNat, jx_e, bI_e, bL_e, bD_e, bV_e, i3_eq0, i6_eq0, if_mx, if_mn, if_true, if_false, not_true_eq_false, not_false_eq_true, Int.reduceEq, Int.reduceLT, Int.reduceLE, p12_8, e1, bX12_page_17, e2, g12_34, g12_35, u0, u1, sX12_in, g1, g2, q10, bX12_page_42, bX12_page_59, bX12_page_64, sX12_stops_v, bX12_page_71, bX12_page_86]
        · have g1 : (0 ≤ r ∧ r ≤ rwX x f.toNat - 1) = False := eq_false gr
          simp (disch := first | assumption | omega) only [↓reduceIte, i3_add, i3_sub, i3_mul, i3_neg, i6_add, i6_sub, i6_mul, i6_neg, i3_lt, i3_le, i3_eq, i6_lt, i6_eq, i3_div, i6_div, i6_i3, i3_i6, c6_lt, c6_ge, c6_gt, c6_le, c6_eq, i3_ite, i6_ite, ib_0, ib_z, ite_not, i1_0, i0_0, jB_1, jB_0, jB_ib, bI_v, bL_v, bD_v, bV_v, ob_s, ob_i, i3_ofNat, jx_e, bI_e, bL_e, bD_e, bV_e, i3_eq0, i6_eq0, if_mx, if_mn, if_true, if_false, not_true_eq_false, not_false_eq_true, Int.reduceEq, Int.reduceLT, Int.reduceLE, p12_8, e1, bX12_page_17, e2, g12_34, g12_35, u0, u1, sX12_in, g1, q10, bX12_page_59, bX12_page_64, sX12_stops_v, bX12_page_71, bX12_page_86]
    · rw [if_neg gB]
      obtain ⟨w1, e1, h1⟩ := sX12_noFolds_2 (d := d) (X := X) (w := w) (T := T) (c := c) (s := s) hT hg hf gA gB
      apply mR_1 (by decide)
      refine ⟨w1, 0, ?_, h1⟩
      rw [eX12_page (h := hT), bX12_page_0]
      simp (disch := first | assumption | omega) only [↓reduceIte, i3_add, i3_sub, i3_mul, i3_neg, i6_add, i6_sub, i6_mul, i6_neg, i3_lt, i3_le, i3_eq, i6_lt, i6_eq, i3_div, i6_div, i6_i3, i3_i6, c6_lt, c6_ge, c6_gt, c6_le, c6_eq, i3_ite, i6_ite, ib_0, ib_z, ite_not, i1_0, i0_0, jB_1, jB_0, jB_ib, bI_v, bL_v, bD_v, bV_v, ob_s, ob_i, i3_ofNat, jx_e, bI_e, bL_e, bD_e, bV_e, i3_eq0, i6_eq0, if_mx, if_mn, if_true, if_false, not_true_eq_false, not_false_eq_true, Int.reduceEq, Int.reduceLT, Int.reduceLE, p12_8, e1, q10, bX12_page_15]
  · rw [if_neg gA]
    obtain ⟨w1, e1, h1⟩ := sX12_noFolds_1 (d := d) (X := X) (w := w) (T := T) (c := c) (s := s) (f := f) hT hg hi hn gA
    apply mR_1 (by decide)
    refine ⟨w1, 0, ?_, h1⟩
    rw [eX12_page (h := hT), bX12_page_0]
    simp (disch := first | assumption | omega) only [↓reduceIte, i3_add, i3_sub, i3_mul, i3_neg, i6_add, i6_sub, i6_mul, i6_neg, i3_lt, i3_le, i3_eq, i6_lt, i6_eq, i3_div, i6_div, i6_i3, i3_i6, c6_lt, c6_ge, c6_gt, c6_le, c6_eq, i3_ite, i6_ite, ib_0, ib_z, ite_not, i1_0, i0_0, jB_1, jB_0, jB_ib, bI_v, bL_v, bD_v, bV_v, ob_s, ob_i, i3_ofNat, jx_e, bI_e, bL_e, bD_e, bV_e, i3_eq0, i6_eq0, if_mx, if_mn, if_true, if_false, not_true_eq_false, not_false_eq_true, Int.reduceEq, Int.reduceLT, Int.reduceLE, p12_8, e1, q10, bX12_page_15]
theorem mX12_cellOf {i n f p : Int} {x : Nat} (hT : 18 ≤ T) (hg : gM v) (hi : isI i) (hn : isI n) (hf : isI f) (hp : isI p) (hx : ((0 ≤ i ∧ i < v 412 0) ∧ 0 ≤ n ∧ n < 10) → (0 ≤ f ∧ f ≤ fdM v i n) → x < 2 ^ f.toNat ∧ ptn v i n x f.toNat) : mR (jm_env (d + 7) 322 [.ref 411, .int (i3 i), .int (i3 n), .int (i3 f), .int (i3 p)] (qM X v w T c s)) X v T c s (cdP ((0 ≤ i ∧ i < v 412 0) ∧ 0 ≤ n ∧ n < 10) (0 ≤ f ∧ f ≤ fdM v i n) (1 ≤ p ∧ p ≤ 2 * htX f.toNat)) (cfX x f.toNat p) := by
  have q10 : ((1 : Int) = 0) = False := by decide
  unfold cdP
  by_cases gA : (0 ≤ i ∧ i < v 412 0) ∧ 0 ≤ n ∧ n < 10
  · rw [if_pos gA]
    by_cases gB : 0 ≤ f ∧ f ≤ fdM v i n
    · rw [if_pos gB]
      obtain ⟨x0, x1⟩ := hx gA gB
      have hb := fdM_b (v := v) (i := i) (n := n)
      obtain ⟨z1, z2, z3, z4, z5, -⟩ := fo_1 f.toNat (by omega) x x0
      obtain ⟨k1, k2, k3⟩ := fo_h f.toNat (by omega)
      obtain ⟨hp0, hp1⟩ := id hp
      obtain ⟨w1, w2, e1, e2, hw, h8⟩ := sX12_ready (d := d) (X := X) (w := w) (T := T) (c := c) (s := s) hT hg gA gB x1
      obtain ⟨u0, u1, -⟩ := id hw
      have eN : 2 * rwX x f.toNat * clX x f.toNat = 2 * htX f.toNat := by rw [Int.mul_assoc, z1]
      by_cases gC : 1 ≤ p ∧ p ≤ 2 * htX f.toNat
      · rw [if_pos gC]
        obtain ⟨w3, e3, f3⟩ := sX12_cellWith (d := d + 2) (X := X) (v := v) (T := T) (c := c) (s := s) hT (by omega) x0 hp hw
        rw [Int.toNat_of_nonneg gB.1] at e3
        apply mR_0
        refine ⟨w3, ?_, (f3 411 8 (by omega)).trans h8⟩
        rw [eX12_cellOf (h := hT), bX12_cellOf_0]
        simp (disch := first | assumption | omega) only [↓reduceIte, i3_add, i3_sub, i3_mul, i3_neg, i6_add, i6_sub, i6_mul, i6_neg, i3_lt, i3_le, i3_eq, i6_lt, i6_eq, i3_div, i6_div, i6_i3, i3_i6, c6_lt, c6_ge, c6_gt, c6_le, c6_eq, i3_ite, i6_ite, ib_0, ib_z, ite_not, i1_0, i0_0, jB_1, jB_0, jB_ib, bI_v, bL_v, bD_v, bV_v, ob_s, ob_i, i3_ofNat, jx_e, bI_e, bL_e, bD_e, bV_e, i3_eq0, i6_eq0, if_mx, if_mn, if_true, if_false, not_true_eq_false, not_false_eq_true, Int.reduceEq, Int.reduceLT, Int.reduceLE, p12_8, e1, bX12_cellOf_17, e2, g12_34, g12_35, u0, u1, eN, sX12_in, eq_true gC, q10, bX12_cellOf_54, bX12_cellOf_55, sX12_stops_w, bX12_cellOf_66, e3, bX12_cellOf_73]
      · rw [if_neg gC]
        apply mR_1 (by decide)
        refine ⟨up w2 411 8 1, 0, ?_, up_eq⟩
        rw [eX12_cellOf (h := hT), bX12_cellOf_0]
        simp (disch := first | assumption | omega) only [↓reduceIte, i3_add, i3_sub, i3_mul, i3_neg, i6_add, i6_sub, i6_mul, i6_neg, i3_lt, i3_le, i3_eq, i6_lt, i6_eq, i3_div, i6_div, i6_i3, i3_i6, c6_lt, c6_ge, c6_gt, c6_le, c6_eq, i3_ite, i6_ite, ib_0, ib_z, ite_not, i1_0, i0_0, jB_1, jB_0, jB_ib, bI_v, bL_v, bD_v, bV_v, ob_s, ob_i, i3_ofNat, jx_e, bI_e, bL_e, bD_e, bV_e, i3_eq0, i6_eq0, if_mx, if_mn, if_true, if_false, not_true_eq_false, not_false_eq_true, Int.reduceEq, Int.reduceLT, Int.reduceLE, p12_8, e1, bX12_cellOf_17, e2, g12_34, g12_35, u0, u1, eN, sX12_in, eq_false gC, q10, bX12_cellOf_50, bX12_cellOf_55, sX12_stops_v, bX12_cellOf_62, bX12_cellOf_73]
    · rw [if_neg gB]
      obtain ⟨w1, e1, h1⟩ := sX12_noFolds_2 (d := d) (X := X) (w := w) (T := T) (c := c) (s := s) hT hg hf gA gB
      apply mR_1 (by decide)
      refine ⟨w1, 0, ?_, h1⟩
      rw [eX12_cellOf (h := hT), bX12_cellOf_0]
      simp (disch := first | assumption | omega) only [↓reduceIte, i3_add, i3_sub, i3_mul, i3_neg, i6_add, i6_sub, i6_mul, i6_neg, i3_lt, i3_le, i3_eq, i6_lt, i6_eq, i3_div, i6_div, i6_i3, i3_i6, c6_lt, c6_ge, c6_gt, c6_le, c6_eq, i3_ite, i6_ite, ib_0, ib_z, ite_not, i1_0, i0_0, jB_1, jB_0, jB_ib, bI_v, bL_v, bD_v, bV_v, ob_s, ob_i, i3_ofNat, jx_e, bI_e, bL_e, bD_e, bV_e, i3_eq0, i6_eq0, if_mx, if_mn, if_true, if_false, not_true_eq_false, not_false_eq_true, Int.reduceEq, Int.reduceLT, Int.reduceLE, p12_8, e1, q10, bX12_cellOf_15]
  · rw [if_neg gA]
    obtain ⟨w1, e1, h1⟩ := sX12_noFolds_1 (d := d) (X := X) (w := w) (T := T) (c := c) (s := s) (f := f) hT hg hi hn gA
    apply mR_1 (by decide)
    refine ⟨w1, 0, ?_, h1⟩
    rw [eX12_cellOf (h := hT), bX12_cellOf_0]
    simp (disch := first | assumption | omega) only [↓reduceIte, i3_add, i3_sub, i3_mul, i3_neg, i6_add, i6_sub, i6_mul, i6_neg, i3_lt, i3_le, i3_eq, i6_lt, i6_eq, i3_div, i6_div, i6_i3, i3_i6, c6_lt, c6_ge, c6_gt, c6_le, c6_eq, i3_ite, i6_ite, ib_0, ib_z, ite_not, i1_0, i0_0, jB_1, jB_0, jB_ib, bI_v, bL_v, bD_v, bV_v, ob_s, ob_i, i3_ofNat, jx_e, bI_e, bL_e, bD_e, bV_e, i3_eq0, i6_eq0, if_mx, if_mn, if_true, if_false, not_true_eq_false, not_false_eq_true, Int.reduceEq, Int.reduceLT, Int.reduceLE, p12_8, e1, q10, bX12_cellOf_15]
end FOH
