-- uses 24.zar 25.obj 26.ops 27.ra 28.rb 29.rc 34.gen 38.mod 39.mo2 41.bit 42.mo4 46.mo8 53.cla 58.clf 61.cli b1.plb c0.foa c1.fob c2.foc
/-! The class asks a folded sheet. -/
/-- a cell of the unfolded sheet -/
def inC (x f : Nat) (r c : Int) : Prop := (0 ≤ r ∧ r < rwX x f) ∧ 0 ≤ c ∧ c < clX x f
theorem pgX_b {x f : Nat} {r c k : Int} (hf : f < 6) (hx : x < 2 ^ f) (h : inC x f r c) (hk : k = 0 ∨ k = 1) : pgI x f (2 * (r * clX x f + c) + k) = pgX x f r c k ∧ 1 ≤ pgX x f r c k ∧ pgX x f r c k ≤ 2 * htX f ∧ (0 ≤ 2 * (r * clX x f + c) + k ∧ 2 * (r * clX x f + c) + k < 2 * htX f) := by
  obtain ⟨⟨r0, r1⟩, c0, c1⟩ := h
  have h7 := fo_7 f hf x hx r.toNat (by omega) c.toNat (by omega) k.toNat (by omega)
  unfold z7a at h7
  rw [Int.toNat_of_nonneg r0, Int.toNat_of_nonneg c0, Int.toNat_of_nonneg (by omega)] at h7
  have hb := pl_lt (t := k) (b := 2) r0 r1 c0 c1 (by omega) (by omega)
  rw [(fo_1 f hf x hx).1, Int.mul_comm (r * clX x f + c) 2] at hb
  exact ⟨h7.1, h7.2.1, h7.2.2, hb.1, by omega⟩
theorem pgX_o {x f : Nat} {r c : Int} (hf : f < 6) (hx : x < 2 ^ f) (h : inC x f r c) : pgX x f r c 1 = if pgX x f r c 0 % 2 = 1 then pgX x f r c 0 + 1 else pgX x f r c 0 - 1 := by
  obtain ⟨⟨r0, r1⟩, c0, c1⟩ := h
  have h7 := fo_8 f hf x hx r.toNat (by omega) c.toNat (by omega)
  unfold z8a at h7
  rw [Int.toNat_of_nonneg r0, Int.toNat_of_nonneg c0] at h7
  exact h7
theorem flX_b {x f k : Nat} {r c : Int} (hf : f < 6) (hx : x < 2 ^ f) (h : inC x f r c) (hk : k < f + 1) : (0 ≤ (flX x f r c k).1 ∧ (flX x f r c k).1 < dnX x f k) ∧ (0 ≤ (flX x f r c k).2.1 ∧ (flX x f r c k).2.1 < acX x f k) ∧ (0 ≤ (flX x f r c k).2.2.1 ∧ (flX x f r c k).2.2.1 < htX k) ∧ ((flX x f r c k).2.2.2 = 0 ∨ (flX x f r c k).2.2.2 = 1) := by
  obtain ⟨⟨r0, r1⟩, c0, c1⟩ := h
  have h7 := fo_9 f hf x hx r.toNat (by omega) c.toNat (by omega) k hk
  unfold z9a at h7
  rw [Int.toNat_of_nonneg r0, Int.toNat_of_nonneg c0] at h7
  exact h7
/-- the first cell with a page -/
def cfI (x f : Nat) (p : Int) (r : Nat) (e : Int) : Nat → Nat → Int
  | 0, _ => e
  | m + 1, c => if pgX x f r c 0 = p then 200 * (r : Int) + 2 * (c : Int) else if pgX x f r c 1 = p then 200 * (r : Int) + 2 * (c : Int) + 1 else cfI x f p r e m (c + 1)
def cfO (x f : Nat) (p : Int) : Nat → Nat → Int
  | 0, _ => -1
  | m + 1, r => cfI x f p r (cfO x f p m (r + 1)) (clX x f).toNat 0
def cfX (x f : Nat) (p : Int) : Int := cfO x f p (rwX x f).toNat 0
theorem cfI_0 {x f : Nat} {p : Int} {r : Nat} {e : Int} : ∀ (m c : Nat), (∀ j : Nat, c ≤ j → j < c + m → pgX x f r j 0 ≠ p ∧ pgX x f r j 1 ≠ p) → cfI x f p r e m c = e := by
  intro m
  induction m with
  | zero => intro c _; rfl
  | succ m ih =>
    intro c h
    unfold cfI
    rw [if_neg (h c (Nat.le_refl _) (by omega)).1, if_neg (h c (Nat.le_refl _) (by omega)).2]
    exact ih (c + 1) (fun j a b => h j (by omega) (by omega))
theorem cfI_1 {x f : Nat} {p : Int} {r : Nat} {e : Int} : ∀ (m c : Nat), (0 ≤ e ∨ ∃ j : Nat, c ≤ j ∧ j < c + m ∧ (pgX x f r j 0 = p ∨ pgX x f r j 1 = p)) → 0 ≤ cfI x f p r e m c := by
  intro m
  induction m with
  | zero =>
    intro c h
    rcases h with h | ⟨j, a, b, -⟩
    · exact h
    · omega
  | succ m ih =>
    intro c h
    unfold cfI
    split
    · omega
    · split
      · omega
      · refine ih (c + 1) ?_
        rcases h with h | ⟨j, a, b, h⟩
        · exact Or.inl h
        · refine Or.inr ⟨j, ?_, by omega, h⟩
          by_cases q : j = c
          · subst q
            rcases h with h | h
            · exact absurd h (by assumption)
            · exact absurd h (by assumption)
          · omega
theorem cfO_0 {x f : Nat} {p : Int} : ∀ (m r : Nat), (∀ i j : Nat, r ≤ i → i < r + m → j < (clX x f).toNat → pgX x f i j 0 ≠ p ∧ pgX x f i j 1 ≠ p) → cfO x f p m r = -1 := by
  intro m
  induction m with
  | zero => intro r _; rfl
  | succ m ih =>
    intro r h
    unfold cfO
    rw [cfI_0 _ _ (fun j _ b => h r j (Nat.le_refl _) (by omega) (by omega))]
    exact ih (r + 1) (fun i j a b => h i j (by omega) (by omega))
theorem cfO_1 {x f : Nat} {p : Int} : ∀ (m r : Nat), (∃ i j : Nat, r ≤ i ∧ i < r + m ∧ j < (clX x f).toNat ∧ (pgX x f i j 0 = p ∨ pgX x f i j 1 = p)) → 0 ≤ cfO x f p m r := by
  intro m
  induction m with
  | zero => intro r ⟨i, j, a, b, _⟩; omega
  | succ m ih =>
    intro r ⟨i, j, a, b, hc, h⟩
    unfold cfO
    refine cfI_1 _ _ ?_
    by_cases q : i = r
    · subst q
      exact Or.inr ⟨j, by omega, by omega, h⟩
    · exact Or.inl (ih (r + 1) ⟨i, j, by omega, by omega, hc, h⟩)
theorem cfX_c {x f : Nat} {p : Int} (hf : f < 6) (hx : x < 2 ^ f) : (1 ≤ p ∧ p ≤ 2 * htX f → 0 ≤ cfX x f p) ∧ (¬ (1 ≤ p ∧ p ≤ 2 * htX f) → cfX x f p = -1) := by
  have hh := (fo_h f hf).1
  refine ⟨fun ⟨p0, p1⟩ => ?_, fun g => ?_⟩
  · obtain ⟨r, r1, c, c1, h⟩ := fo_a f hf x hx (p - 1).toNat (by omega)
    unfold zaa at h
    rw [show (((p - 1).toNat : Nat) : Int) + 1 = p by omega] at h
    exact cfO_1 _ _ ⟨r, c, by omega, by omega, c1, h⟩
  · refine cfO_0 _ _ (fun i j _ b hc => ?_)
    have h0 := pgX_b (k := 0) hf hx (r := i) (c := j) ⟨by omega, by omega⟩ (Or.inl rfl)
    have h1 := pgX_b (k := 1) hf hx (r := i) (c := j) ⟨by omega, by omega⟩ (Or.inr rfl)
    exact ⟨by omega, by omega⟩
theorem cfX_b {x f : Nat} {p : Int} (hf : f < 6) (hx : x < 2 ^ f) : cfX x f p < 10000 := by
  have hI : ∀ (m c r : Nat) (e : Int), e < 10000 → r < 32 → c + m ≤ 32 → cfI x f p r e m c < 10000 := by
    intro m
    induction m with
    | zero => intro c r e he _ _; exact he
    | succ m ih =>
      intro c r e he hr hc
      unfold cfI
      split
      · omega
      · split
        · omega
        · exact ih (c + 1) r e he hr (by omega)
  have hO : ∀ (m r : Nat), r + m ≤ 32 → cfO x f p m r < 10000 := by
    intro m
    induction m with
    | zero => intro r _; exact (by decide : (-1 : Int) < 10000)
    | succ m ih =>
      intro r hr
      unfold cfO
      have h1 := fo_1 f hf x hx
      have := h1.2.2.2.2.1
      exact hI _ _ _ _ (ih (r + 1) (by omega)) (by omega) (by omega)
  have := (fo_1 f hf x hx).2.2.1
  exact hO _ _ (by omega)
section FOD
variable {d : Nat} {X : Nat × (Nat → Int32)} {v w : Nat → Int → Int} {T c s : Nat}
theorem tX2_pageAt {x f : Nat} {r cc k : Int} (hf : f < 6) (hx : x < 2 ^ f) (hw : FU w x f) (h : inC x f r cc) (hk : k = 0 ∨ k = 1) : jm_env (d + 2) 34 [.ref 342, .int (i3 r), .int (i3 cc), .int (i3 k)] (qM X v w T c s) = some (.inl (some (.int (i3 (pgX x f r cc k)))), (qM X v w T c s)) := by
  obtain ⟨b1, b2, b3, b4, b5⟩ := pgX_b hf hx h hk
  have h3 := (fo_h f hf).2.2
  have e1 := v346 (d := d) (X := X) (v := v) (w := w) (T := T) (c := c) (s := s) (z := 2 * (r * clX x f + cc) + k) b4 (by omega)
  rw [hw.2 _ b4 b5, b1] at e1
  rw [eX2_pageAt, bX2_pageAt_0]
  rcases hk with rfl | rfl
  · simp (disch := first | assumption | omega) only [↓reduceIte, i3_add, i3_sub, i3_mul, i3_neg, i6_add, i6_sub, i6_mul, i6_neg, i3_lt, i3_le, i3_eq, i6_lt, i6_eq, i3_div, i6_div, i6_i3, i3_i6, c6_lt, c6_ge, c6_gt, c6_le, c6_eq, i3_ite, i6_ite, ib_0, ib_z, ite_not, i1_0, i0_0, jB_1, jB_0, jB_ib, bI_v, bL_v, bD_v, bV_v, ob_s, ob_i, i3_ofNat, jx_e, bI_e, bL_e, bD_e, bV_e, i3_eq0, i6_eq0, if_mx, if_mn, if_true, if_false, not_true_eq_false, not_false_eq_true, Int.reduceEq, Int.reduceLT, Int.reduceLE, r2_6, g2_1, hw.1.2.1, bX2_pageAt_22, bX2_pageAt_23, e1]
  · have q10 : ((1 : Int) = 0) = False := by decide
    simp (disch := first | assumption | omega) only [↓reduceIte, i3_add, i3_sub, i3_mul, i3_neg, i6_add, i6_sub, i6_mul, i6_neg, i3_lt, i3_le, i3_eq, i6_lt, i6_eq, i3_div, i6_div, i6_i3, i3_i6, c6_lt, c6_ge, c6_gt, c6_le, c6_eq, i3_ite, i6_ite, ib_0, ib_z, ite_not, i1_0, i0_0, jB_1, jB_0, jB_ib, bI_v, bL_v, bD_v, bV_v, ob_s, ob_i, i3_ofNat, jx_e, bI_e, bL_e, bD_e, bV_e, i3_eq0, i6_eq0, if_mx, if_mn, if_true, if_false, not_true_eq_false, not_false_eq_true, Int.reduceEq, Int.reduceLT, Int.reduceLE, r2_6, g2_1, hw.1.2.1, q10, bX2_pageAt_18, bX2_pageAt_23, e1]
theorem tX2_hasCell {x f : Nat} {r cc : Int} (hf : f < 6) (hx : x < 2 ^ f) (hw : FU w x f) (hr : isI r) (hc : isI cc) : jm_env (d + 1) 33 [.ref 342, .int (i3 r), .int (i3 cc)] (qM X v w T c s) = some (.inl (some (.int (i3 (if (0 ≤ r ∧ r < rwX x f) ∧ 0 ≤ cc ∧ cc < clX x f then 1 else 0)))), (qM X v w T c s)) := by
  obtain ⟨z1, z2, z3, z4, z5, -⟩ := fo_1 f hf x hx
  obtain ⟨hr0, hr1⟩ := hr
  obtain ⟨hc0, hc1⟩ := hc
  by_cases q1 : r < 0
  · rw [if_neg (by omega), eX2_hasCell, bX2_hasCell_0]
    simp (disch := first | assumption | omega) only [↓reduceIte, i3_add, i3_sub, i3_mul, i3_neg, i6_add, i6_sub, i6_mul, i6_neg, i3_lt, i3_le, i3_eq, i6_lt, i6_eq, i3_div, i6_div, i6_i3, i3_i6, c6_lt, c6_ge, c6_gt, c6_le, c6_eq, i3_ite, i6_ite, ib_0, ib_z, ite_not, i1_0, i0_0, jB_1, jB_0, jB_ib, bI_v, bL_v, bD_v, bV_v, ob_s, ob_i, i3_ofNat, jx_e, bI_e, bL_e, bD_e, bV_e, i3_eq0, i6_eq0, if_mx, if_mn, if_true, if_false, not_true_eq_false, not_false_eq_true, Int.reduceEq, Int.reduceLT, Int.reduceLE, eq_true q1, bX2_hasCell_28, bX2_hasCell_29]
  · by_cases q2 : rwX x f ≤ r
    · rw [if_neg (by omega), eX2_hasCell, bX2_hasCell_0]
      simp (disch := first | assumption | omega) only [↓reduceIte, i3_add, i3_sub, i3_mul, i3_neg, i6_add, i6_sub, i6_mul, i6_neg, i3_lt, i3_le, i3_eq, i6_lt, i6_eq, i3_div, i6_div, i6_i3, i3_i6, c6_lt, c6_ge, c6_gt, c6_le, c6_eq, i3_ite, i6_ite, ib_0, ib_z, ite_not, i1_0, i0_0, jB_1, jB_0, jB_ib, bI_v, bL_v, bD_v, bV_v, ob_s, ob_i, i3_ofNat, jx_e, bI_e, bL_e, bD_e, bV_e, i3_eq0, i6_eq0, if_mx, if_mn, if_true, if_false, not_true_eq_false, not_false_eq_true, Int.reduceEq, Int.reduceLT, Int.reduceLE, eq_false q1, bX2_hasCell_4, g2_0, hw.1.1, eq_true q2, bX2_hasCell_28, bX2_hasCell_29]
    · by_cases q3 : cc < 0
      · rw [if_neg (by omega), eX2_hasCell, bX2_hasCell_0]
        simp (disch := first | assumption | omega) only [↓reduceIte, i3_add, i3_sub, i3_mul, i3_neg, i6_add, i6_sub, i6_mul, i6_neg, i3_lt, i3_le, i3_eq, i6_lt, i6_eq, i3_div, i6_div, i6_i3, i3_i6, c6_lt, c6_ge, c6_gt, c6_le, c6_eq, i3_ite, i6_ite, ib_0, ib_z, ite_not, i1_0, i0_0, jB_1, jB_0, jB_ib, bI_v, bL_v, bD_v, bV_v, ob_s, ob_i, i3_ofNat, jx_e, bI_e, bL_e, bD_e, bV_e, i3_eq0, i6_eq0, if_mx, if_mn, if_true, if_false, not_true_eq_false, not_false_eq_true, Int.reduceEq, Int.reduceLT, Int.reduceLE, eq_false q1, bX2_hasCell_4, g2_0, hw.1.1, eq_false q2, bX2_hasCell_12, eq_true q3, bX2_hasCell_28, bX2_hasCell_29]
      · by_cases q4 : clX x f ≤ cc
        · rw [if_neg (by omega), eX2_hasCell, bX2_hasCell_0]
          simp (disch := first | assumption | omega) only [↓reduceIte, i3_add, i3_sub, i3_mul, i3_neg, i6_add, i6_sub, i6_mul, i6_neg, i3_lt, i3_le, i3_eq, i6_lt, i6_eq, i3_div, i6_div, i6_i3, i3_i6, c6_lt, c6_ge, c6_gt, c6_le, c6_eq, i3_ite, i6_ite, ib_0, ib_z, ite_not, i1_0, i0_0, jB_1, jB_0, jB_ib, bI_v, bL_v, bD_v, bV_v, ob_s, ob_i, i3_ofNat, jx_e, bI_e, bL_e, bD_e, bV_e, i3_eq0, i6_eq0, if_mx, if_mn, if_true, if_false, not_true_eq_false, not_false_eq_true, Int.reduceEq, Int.reduceLT, Int.reduceLE, eq_false q1, bX2_hasCell_4, g2_0, hw.1.1, eq_false q2, bX2_hasCell_12, eq_false q3, bX2_hasCell_16, g2_1, hw.1.2.1, eq_true q4, bX2_hasCell_28, bX2_hasCell_29]
        · rw [if_pos ⟨⟨by omega, by omega⟩, by omega, by omega⟩, eX2_hasCell, bX2_hasCell_0]
          simp (disch := first | assumption | omega) only [↓reduceIte, i3_add, i3_sub, i3_mul, i3_neg, i6_add, i6_sub, i6_mul, i6_neg, i3_lt, i3_le, i3_eq, i6_lt, i6_eq, i3_div, i6_div, i6_i3, i3_i6, c6_lt, c6_ge, c6_gt, c6_le, c6_eq, i3_ite, i6_ite, ib_0, ib_z, ite_not, i1_0, i0_0, jB_1, jB_0, jB_ib, bI_v, bL_v, bD_v, bV_v, ob_s, ob_i, i3_ofNat, jx_e, bI_e, bL_e, bD_e, bV_e, i3_eq0, i6_eq0, if_mx, if_mn, if_true, if_false, not_true_eq_false, not_false_eq_true, Int.reduceEq, Int.reduceLT, Int.reduceLE, eq_false q1, bX2_hasCell_4, g2_0, hw.1.1, eq_false q2, bX2_hasCell_12, eq_false q3, bX2_hasCell_16, g2_1, hw.1.2.1, eq_false q4, bX2_hasCell_24, bX2_hasCell_29]
end FOD
