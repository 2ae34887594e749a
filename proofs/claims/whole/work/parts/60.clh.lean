-- uses 24.zar 25.obj 26.ops 27.ra 29.rc 34.gen 35.byt 36.ser 37.lnd 38.mod 39.mo2 40.mo3 41.bit 42.mo4 43.mo5 44.mo6 52.mof 53.cla 54.clb 55.clc 56.cld 57.cle 58.clf 59.clg
/-! The class: forecasts and the rest that only asks; where both go other ways to one number. -/
theorem fnd_eq {α : Type} {p : Nat → Prop} [DecidablePred p] {G : Nat → α} {e : α} {j : Nat} : ∀ (r k : Nat), k ≤ j → j < k + r → p j → (∀ i, k ≤ i → i < j → ¬ p i) → fnd p G e k r = G j := by
  intro r
  induction r with
  | zero => intro k h1 h2; omega
  | succ r ih =>
    intro k h1 h2 hp hn
    unfold fnd
    by_cases q : k = j
    · subst q; rw [if_pos hp]
    · rw [if_neg (hn k (by omega) (by omega))]
      exact ih (k + 1) (by omega) (by omega) hp (fun i i0 i1 => hn i (by omega) i1)
theorem fnd_none {α : Type} {p : Nat → Prop} [DecidablePred p] {G : Nat → α} {e : α} : ∀ (r k : Nat), (∀ i, k ≤ i → i < k + r → ¬ p i) → fnd p G e k r = e := by
  intro r
  induction r with
  | zero => intro k _; rfl
  | succ r ih =>
    intro k hn
    unfold fnd
    rw [if_neg (hn k (by omega) (by omega))]
    exact ih (k + 1) (fun i i0 i1 => hn i (by omega) (by omega))
/-- the sizes that are not void, counted and found -/
theorem sizes_eq {μ : Nat → Int → Int} (hz : zM μ) {i : Int} (h0 : 0 ≤ i) (h1 : i < μ 412 0) : fo (fun (a : Int) (n : Nat) => if aM μ i n = 0 then a else a + 1) 0 10 = fnd (fun k : Nat => aM μ i k = 0) (fun k => (k : Int)) 10 0 10 := by
  have h : ∀ m : Nat, (fo (fun (a : Int) (n : Nat) => if aM μ i n = 0 then a else a + 1) 0 m = m ∧ ∀ j : Nat, j < m → aM μ i j ≠ 0) ∨ (∃ j : Nat, j < m ∧ fo (fun (a : Int) (n : Nat) => if aM μ i n = 0 then a else a + 1) 0 m = j ∧ (∀ t : Nat, j ≤ t → t ≤ m → aM μ i t = 0) ∧ ∀ t : Nat, t < j → aM μ i t ≠ 0) := by
    intro m
    induction m with
    | zero => exact Or.inl ⟨rfl, fun j hj => by omega⟩
    | succ m ih =>
      have e : fo (fun (a : Int) (n : Nat) => if aM μ i n = 0 then a else a + 1) 0 (m + 1) = if aM μ i m = 0 then fo (fun (a : Int) (n : Nat) => if aM μ i n = 0 then a else a + 1) 0 m else fo (fun (a : Int) (n : Nat) => if aM μ i n = 0 then a else a + 1) 0 m + 1 := rfl
      rcases ih with ⟨a1, a2⟩ | ⟨j, b1, b2, b3, b4⟩
      · by_cases q : aM μ i m = 0
        · right
          refine ⟨m, by omega, by rw [e, if_pos q, a1], fun t t0 t1 => ?_, a2⟩
          by_cases g : t = m
          · rw [g]; exact q
          · rw [show t = m + 1 by omega]
            exact aM_n hz h0 h1 (by omega) q
        · left
          refine ⟨by rw [e, if_neg q, a1]; rfl, fun j hj => ?_⟩
          by_cases g : j = m
          · rw [g]; exact q
          · exact a2 j (by omega)
      · right
        have q := b3 m (by omega) (Nat.le_refl m)
        refine ⟨j, by omega, by rw [e, if_pos q, b2], fun t t0 t1 => ?_, b4⟩
        by_cases g : t ≤ m
        · exact b3 t t0 g
        · rw [show t = m + 1 by omega]
          exact aM_n hz h0 h1 (by omega) q
  rcases h 10 with ⟨a1, a2⟩ | ⟨j, b1, b2, b3, b4⟩
  · rw [a1, fnd_none 10 0 (fun t _ ht => a2 t (by omega))]
    rfl
  · rw [b2, fnd_eq (j := j) 10 0 (by omega) (by omega) (b3 j (by omega) (by omega)) (fun t _ ht => b4 t ht)]
theorem fit_edg {μ : Nat → Int → Int} {e a b : Int} {k n : Nat} (he0 : 0 ≤ e) (he1 : e ≤ 50) (ha : 1 ≤ a) (hb : 1 ≤ b) : fitI (up μ 412 1 e) k n a b = 1 ↔ e ≤ edgF (szM μ k n).1 (szM μ k n).2 a b := by
  unfold fitI
  rw [szM_up (by omega), up_eq]
  unfold edgF usE
  generalize (szM μ k n).1 = W
  generalize (szM μ k n).2 = H
  by_cases q : (a ≤ max 0 (W - 2 * e) ∧ b ≤ max 0 (H - 2 * e)) ∨ (a ≤ max 0 (H - 2 * e) ∧ b ≤ max 0 (W - 2 * e))
  · rw [if_pos q, if_neg (by omega)]
    omega
  · rw [if_neg q]
    split <;> omega
theorem fit_edgs {μ : Nat → Int → Int} {e a b : Int} (m : Nat) (he0 : 0 ≤ e) (he1 : e ≤ 50) (ha : 1 ≤ a) (hb : 1 ≤ b) : 0 < fo2 (fitG (up μ 412 1 e) a b) 0 m ↔ e ≤ fo2 (edgG μ a b) (-1) m :=
  (fo2_map (R := fun x y : Int => 0 ≤ x ∧ (0 < x ↔ e ≤ y)) m ⟨by omega, by omega⟩ (fun k n x y _ _ h => by
    have h1 := fit_edg (μ := μ) (k := k) (n := n) he0 he1 ha hb
    have h2 := fitI_01 (v := up μ 412 1 e) (i := k) (n := n) (pw := a) (ph := b)
    unfold fitG edgG
    omega)).2
theorem edg_bes {μ : Nat → Int → Int} {a b : Int} (ha : 1 ≤ a) (hb : 1 ≤ b) : fo2 (edgG μ a b) (-1) (μ 412 0).toNat = besF μ a b := by
  have hE : -1 ≤ fo2 (edgG μ a b) (-1) (μ 412 0).toNat ∧ fo2 (edgG μ a b) (-1) (μ 412 0).toNat ≤ 50 := fo2_P (P := fun z => -1 ≤ z ∧ z ≤ 50) _ (by omega) (fun k n x _ _ hx => by
    have := edgF_b (x := (szM μ k n).1) (y := (szM μ k n).2) (a := a) (b := b)
    unfold edgG
    omega)
  have hp : ∀ k : Nat, k < 51 → (0 < fo2 (fitG (up μ 412 1 (50 - (k : Int))) a b) 0 (μ 412 0).toNat ↔ 50 - (k : Int) ≤ fo2 (edgG μ a b) (-1) (μ 412 0).toNat) := fun k hk => fit_edgs _ (by omega) (by omega) ha hb
  unfold besF
  generalize fo2 (edgG μ a b) (-1) (μ 412 0).toNat = E at hE hp
  by_cases q : E = -1
  · rw [fnd_none 51 0 (fun t _ ht g => by have := (hp t (by omega)).mp g; omega), q]
  · rw [fnd_eq (j := (50 - E).toNat) 51 0 (by omega) (by omega) ((hp _ (by omega)).mpr (by omega)) (fun t _ ht g => by have := (hp t (by omega)).mp g; omega)]
    omega
section CLH
variable {d : Nat} {X : Nat × (Nat → Int32)} {v w : Nat → Int → Int} {T c s : Nat}
variable {μ : Nat → Int → Int}
theorem cX11_nearest {a b q : Int} (h : LO v 14 μ) (ha : isI a) (hb : isI b) (hq : isI q) : cR (jm_env (d + 5) 168 [.ref 0, .int (i3 a), .int (i3 b), .int (i3 q)] (qM X v w T c s)) X v T c s eIA eIA (cd1 (((1 ≤ a ∧ a ≤ 2000) ∧ 1 ≤ b ∧ b ≤ 2000) ∧ 1 ≤ q ∧ q ≤ 999)) (if (nrA μ a b q).1 = -1 then -1 else 100 * (nrA μ a b q).1 + (nrA μ a b q).2) := by
  obtain ⟨ha0, ha1⟩ := ha
  obtain ⟨hb0, hb1⟩ := hb
  obtain ⟨hq0, hq1⟩ := hq
  by_cases g : ((1 ≤ a ∧ a ≤ 2000) ∧ 1 ≤ b ∧ b ≤ 2000) ∧ 1 ≤ q ∧ q ≤ 999
  · obtain ⟨⟨⟨g1, g2⟩, g3, g4⟩, g5, g6⟩ := id g
    obtain ⟨w', e, ⟨p1, p2, p3, p4, p5, p6, p8, p9, p7⟩, -⟩ := tX5_make (d := d) (X := X) (T := T) (c := c) (s := s) (w := w) h (num := q) g1 g2 g3 g4 g5 g6
    have hfb := fitG_m (v := μ) (a := a) (b := b) (m := (μ 412 0).toNat) (by have := h.2.2.1.2.1; omega)
    rw [cd1_0 g]
    apply cR_0
    have hy : 0 ≤ whyA μ a b q ∧ whyA μ a b q ≤ 2 ∧ (whyA μ a b q = 0 ↔ ¬ (nrA μ a b q).1 = -1) := by
      unfold whyA
      (repeat' split) <;> omega
    simp (disch := first | assumption | omega) only [eX11_nearest, bX11_nearest_0, bX11_nearest_30, bX11_nearest_40, bX11_nearest_41, r11_11, r11_5, g5_4, i3_add, i3_sub, i3_mul, i3_neg, i6_add, i6_sub, i6_mul, i6_neg, i3_lt, i3_le, i3_eq, i6_lt, i6_eq, i3_div, i6_div, i6_i3, i3_i6, c6_lt, c6_ge, c6_gt, c6_le, c6_eq, i3_ite, i6_ite, ib_0, ib_z, ite_not, i1_0, i0_0, jB_1, jB_0, jB_ib, bI_v, bL_v, bD_v, bV_v, ob_s, ob_i, i3_ofNat, jx_e, bI_e, bL_e, bD_e, bV_e, i3_eq0, i6_eq0, if_mx, if_mn, if_true, if_false, not_true_eq_false, not_false_eq_true, Int.reduceEq, Int.reduceLT, Int.reduceLE, eX5_told, bX5_told_0, g5_5, g5_6, i3_add, i3_sub, i3_mul, i3_neg, i6_add, i6_sub, i6_mul, i6_neg, i3_lt, i3_le, i3_eq, i6_lt, i6_eq, i3_div, i6_div, i6_i3, i3_i6, c6_lt, c6_ge, c6_gt, c6_le, c6_eq, i3_ite, i6_ite, ib_0, ib_z, ite_not, i1_0, i0_0, jB_1, jB_0, jB_ib, bI_v, bL_v, bD_v, bV_v, ob_s, ob_i, i3_ofNat, jx_e, bI_e, bL_e, bD_e, bV_e, i3_eq0, i6_eq0, if_mx, if_mn, if_true, if_false, not_true_eq_false, not_false_eq_true, Int.reduceEq, Int.reduceLT, Int.reduceLE, tX11_requireOrder_0, e, p4, p5, p6]
    refine ⟨w', ?_⟩
    (repeat' split) <;> first | rfl | (exfalso; omega)
  · rw [cd1_1 g]
    apply cR_1
    simp (disch := first | assumption | omega) only [eX11_nearest, bX11_nearest_0, bX11_nearest_30, bX11_nearest_40, bX11_nearest_41, r11_11, r11_5, g5_4, i3_add, i3_sub, i3_mul, i3_neg, i6_add, i6_sub, i6_mul, i6_neg, i3_lt, i3_le, i3_eq, i6_lt, i6_eq, i3_div, i6_div, i6_i3, i3_i6, c6_lt, c6_ge, c6_gt, c6_le, c6_eq, i3_ite, i6_ite, ib_0, ib_z, ite_not, i1_0, i0_0, jB_1, jB_0, jB_ib, bI_v, bL_v, bD_v, bV_v, ob_s, ob_i, i3_ofNat, jx_e, bI_e, bL_e, bD_e, bV_e, i3_eq0, i6_eq0, if_mx, if_mn, if_true, if_false, not_true_eq_false, not_false_eq_true, Int.reduceEq, Int.reduceLT, Int.reduceLE, tX11_requireOrder_1, exc_q]
    exact ⟨_, rfl⟩
theorem cX11_whyNot {a b q z : Int} (h : LO v 14 μ) (ha : isI a) (hb : isI b) (hq : isI q) (hz : isI z) : cR (jm_env (d + 5) 169 [.ref 0, .int (i3 a), .int (i3 b), .int (i3 q), .int (i3 z)] (qM X v w T c s)) X v T c s eIA eIA (cd1 ((((1 ≤ a ∧ a ≤ 2000) ∧ 1 ≤ b ∧ b ≤ 2000) ∧ 1 ≤ q ∧ q ≤ 999) ∧ 0 ≤ z ∧ z ≤ 1)) (whyB μ a b q z) := by
  obtain ⟨ha0, ha1⟩ := ha
  obtain ⟨hb0, hb1⟩ := hb
  obtain ⟨hq0, hq1⟩ := hq
  obtain ⟨hz0, hz1⟩ := hz
  by_cases g : ((1 ≤ a ∧ a ≤ 2000) ∧ 1 ≤ b ∧ b ≤ 2000) ∧ 1 ≤ q ∧ q ≤ 999
  · obtain ⟨⟨⟨g1, g2⟩, g3, g4⟩, g5, g6⟩ := id g
    by_cases g' : 0 ≤ z ∧ z ≤ 1
    · obtain ⟨w', e, ⟨p1, p2, p3, p4, p5, p6, p8, p9, p7⟩, -⟩ := tX5_make (d := d) (X := X) (T := T) (c := c) (s := s) (w := w) h (num := q) g1 g2 g3 g4 g5 g6
      have hfb := fitG_m (v := μ) (a := a) (b := b) (m := (μ 412 0).toNat) (by have := h.2.2.1.2.1; omega)
      rw [cd1_0 ⟨g, g'⟩]
      apply cR_0
      have hy : 0 ≤ whyA μ a b q ∧ whyA μ a b q ≤ 2 := by
        unfold whyA
        (repeat' split) <;> omega
      have g7 : 0 ≤ a := by omega
      have g8 : 0 ≤ b := by omega
      unfold whyB
      have hz2 : z = 0 ∨ z = 1 := by omega
      rcases hz2 with rfl | rfl
      · simp (disch := first | assumption | omega) only [↓reduceIte, eX11_whyNot, bX11_whyNot_0, bX11_whyNot_11, bX11_whyNot_17, bX11_whyNot_21, bX11_whyNot_22, bX11_whyNot_44, bX11_whyNot_52, bX11_whyNot_62, bX11_whyNot_64, bX11_whyNot_75, bX11_whyNot_87, bX11_whyNot_94, r11_11, r11_5, g5_4, g5_9, i3_add, i3_sub, i3_mul, i3_neg, i6_add, i6_sub, i6_mul, i6_neg, i3_lt, i3_le, i3_eq, i6_lt, i6_eq, i3_div, i6_div, i6_i3, i3_i6, c6_lt, c6_ge, c6_gt, c6_le, c6_eq, i3_ite, i6_ite, ib_0, ib_z, ite_not, i1_0, i0_0, jB_1, jB_0, jB_ib, bI_v, bL_v, bD_v, bV_v, ob_s, ob_i, i3_ofNat, jx_e, bI_e, bL_e, bD_e, bV_e, i3_eq0, i6_eq0, if_mx, if_mn, if_true, if_false, not_true_eq_false, not_false_eq_true, Int.reduceEq, Int.reduceLT, Int.reduceLE, tX11_requireOrder_0, sX11_require_1, e, p4]
        exact ⟨_, rfl⟩
      · have hy3 : whyA μ a b q = 0 ∨ whyA μ a b q = 1 ∨ whyA μ a b q = 2 := by omega
        rcases hy3 with hy3 | hy3 | hy3
        · simp (disch := first | assumption | omega) only [↓reduceIte, eX11_whyNot, bX11_whyNot_0, bX11_whyNot_11, bX11_whyNot_17, bX11_whyNot_21, bX11_whyNot_22, bX11_whyNot_44, bX11_whyNot_52, bX11_whyNot_62, bX11_whyNot_64, bX11_whyNot_75, bX11_whyNot_87, bX11_whyNot_94, r11_11, r11_5, g5_4, g5_9, i3_add, i3_sub, i3_mul, i3_neg, i6_add, i6_sub, i6_mul, i6_neg, i3_lt, i3_le, i3_eq, i6_lt, i6_eq, i3_div, i6_div, i6_i3, i3_i6, c6_lt, c6_ge, c6_gt, c6_le, c6_eq, i3_ite, i6_ite, ib_0, ib_z, ite_not, i1_0, i0_0, jB_1, jB_0, jB_ib, bI_v, bL_v, bD_v, bV_v, ob_s, ob_i, i3_ofNat, jx_e, bI_e, bL_e, bD_e, bV_e, i3_eq0, i6_eq0, if_mx, if_mn, if_true, if_false, not_true_eq_false, not_false_eq_true, Int.reduceEq, Int.reduceLT, Int.reduceLE, tX11_requireOrder_0, sX11_require_1, e, p4, hy3]
          exact ⟨_, rfl⟩
        · simp (disch := first | assumption | omega) only [↓reduceIte, eX11_whyNot, bX11_whyNot_0, bX11_whyNot_11, bX11_whyNot_17, bX11_whyNot_21, bX11_whyNot_22, bX11_whyNot_44, bX11_whyNot_52, bX11_whyNot_62, bX11_whyNot_64, bX11_whyNot_75, bX11_whyNot_87, bX11_whyNot_94, r11_11, r11_5, g5_4, g5_9, i3_add, i3_sub, i3_mul, i3_neg, i6_add, i6_sub, i6_mul, i6_neg, i3_lt, i3_le, i3_eq, i6_lt, i6_eq, i3_div, i6_div, i6_i3, i3_i6, c6_lt, c6_ge, c6_gt, c6_le, c6_eq, i3_ite, i6_ite, ib_0, ib_z, ite_not, i1_0, i0_0, jB_1, jB_0, jB_ib, bI_v, bL_v, bD_v, bV_v, ob_s, ob_i, i3_ofNat, jx_e, bI_e, bL_e, bD_e, bV_e, i3_eq0, i6_eq0, if_mx, if_mn, if_true, if_false, not_true_eq_false, not_false_eq_true, Int.reduceEq, Int.reduceLT, Int.reduceLE, tX11_requireOrder_0, sX11_require_1, e, p4, hy3, tX4_greatestEdge h, edg_bes]
          exact ⟨_, rfl⟩
        · simp (disch := first | assumption | omega) only [↓reduceIte, eX11_whyNot, bX11_whyNot_0, bX11_whyNot_11, bX11_whyNot_17, bX11_whyNot_21, bX11_whyNot_22, bX11_whyNot_44, bX11_whyNot_52, bX11_whyNot_62, bX11_whyNot_64, bX11_whyNot_75, bX11_whyNot_87, bX11_whyNot_94, r11_11, r11_5, g5_4, g5_9, i3_add, i3_sub, i3_mul, i3_neg, i6_add, i6_sub, i6_mul, i6_neg, i3_lt, i3_le, i3_eq, i6_lt, i6_eq, i3_div, i6_div, i6_i3, i3_i6, c6_lt, c6_ge, c6_gt, c6_le, c6_eq, i3_ite, i6_ite, ib_0, ib_z, ite_not, i1_0, i0_0, jB_1, jB_0, jB_ib, bI_v, bL_v, bD_v, bV_v, ob_s, ob_i, i3_ofNat, jx_e, bI_e, bL_e, bD_e, bV_e, i3_eq0, i6_eq0, if_mx, if_mn, if_true, if_false, not_true_eq_false, not_false_eq_true, Int.reduceEq, Int.reduceLT, Int.reduceLE, tX11_requireOrder_0, sX11_require_1, e, p4, hy3, p9]
          exact ⟨_, rfl⟩
    · rw [cd1_1 (fun h => g' h.2)]
      apply cR_1
      have hza : (z = 0) = False := eq_false (by omega)
      have hzb : (z = 1) = False := eq_false (by omega)
      simp (disch := first | assumption | omega) only [↓reduceIte, eX11_whyNot, bX11_whyNot_0, bX11_whyNot_11, bX11_whyNot_17, bX11_whyNot_21, bX11_whyNot_22, bX11_whyNot_44, bX11_whyNot_52, bX11_whyNot_62, bX11_whyNot_64, bX11_whyNot_75, bX11_whyNot_87, bX11_whyNot_94, r11_11, r11_5, g5_4, g5_9, i3_add, i3_sub, i3_mul, i3_neg, i6_add, i6_sub, i6_mul, i6_neg, i3_lt, i3_le, i3_eq, i6_lt, i6_eq, i3_div, i6_div, i6_i3, i3_i6, c6_lt, c6_ge, c6_gt, c6_le, c6_eq, i3_ite, i6_ite, ib_0, ib_z, ite_not, i1_0, i0_0, jB_1, jB_0, jB_ib, bI_v, bL_v, bD_v, bV_v, ob_s, ob_i, i3_ofNat, jx_e, bI_e, bL_e, bD_e, bV_e, i3_eq0, i6_eq0, if_mx, if_mn, if_true, if_false, not_true_eq_false, not_false_eq_true, Int.reduceEq, Int.reduceLT, Int.reduceLE, tX11_requireOrder_0, sX11_require_0, exc_q, hza, hzb]
      exact ⟨_, rfl⟩
  · rw [cd1_1 (fun h => g h.1)]
    apply cR_1
    simp (disch := first | assumption | omega) only [eX11_whyNot, bX11_whyNot_0, i3_add, i3_sub, i3_mul, i3_neg, i6_add, i6_sub, i6_mul, i6_neg, i3_lt, i3_le, i3_eq, i6_lt, i6_eq, i3_div, i6_div, i6_i3, i3_i6, c6_lt, c6_ge, c6_gt, c6_le, c6_eq, i3_ite, i6_ite, ib_0, ib_z, ite_not, i1_0, i0_0, jB_1, jB_0, jB_ib, bI_v, bL_v, bD_v, bV_v, ob_s, ob_i, i3_ofNat, jx_e, bI_e, bL_e, bD_e, bV_e, i3_eq0, i6_eq0, if_mx, if_mn, if_true, if_false, not_true_eq_false, not_false_eq_true, Int.reduceEq, Int.reduceLT, Int.reduceLE, tX11_requireOrder_1, exc_q]
    exact ⟨_, rfl⟩
theorem cX11_ifOrder {a b q z : Int} (h : LO v 14 μ) (ha : isI a) (hb : isI b) (hq : isI q) (hz : isI z) : cR (jm_env (d + 5) 170 [.ref 0, .int (i3 a), .int (i3 b), .int (i3 q), .int (i3 z)] (qM X v w T c s)) X v T c s eIA eIA (cd1 ((((1 ≤ a ∧ a ≤ 2000) ∧ 1 ≤ b ∧ b ≤ 2000) ∧ 1 ≤ q ∧ q ≤ 999) ∧ 0 ≤ z ∧ z ≤ 3)) (ifA μ a b q z) := by
  obtain ⟨ha0, ha1⟩ := ha
  obtain ⟨hb0, hb1⟩ := hb
  obtain ⟨hq0, hq1⟩ := hq
  obtain ⟨hz0, hz1⟩ := hz
  obtain ⟨hln, -, hg, -⟩ := id h
  have hc1 := hg.2.1
  by_cases g : ((1 ≤ a ∧ a ≤ 2000) ∧ 1 ≤ b ∧ b ≤ 2000) ∧ 1 ≤ q ∧ q ≤ 999
  · obtain ⟨⟨⟨g1, g2⟩, g3, g4⟩, g5, g6⟩ := id g
    by_cases g' : 0 ≤ z ∧ z ≤ 3
    · obtain ⟨w', e, ⟨p1, p2, p3, p4, p5, p6, p8, p9, p7⟩, -⟩ := tX5_make (d := d) (X := X) (T := T) (c := c) (s := s) (w := w) h (num := q) g1 g2 g3 g4 g5 g6
      have hfb := fitG_m (v := μ) (a := a) (b := b) (m := (μ 412 0).toNat) (by omega)
      have k4 := mul_b (x := a) (y := b) (by omega) (by omega) (by omega) (by omega)
      rw [cd1_0 ⟨g, g'⟩]
      apply cR_0
      have hzn : (z < 0) = False := eq_false (by omega)
      have hzp : (3 < z) = False := eq_false (by omega)
      have hzq : (z ≤ 3) = True := eq_true (by omega)
      unfold ifA
      by_cases hN : (nrA μ a b q).1 = -1
      · have hy : whyA μ a b q = 1 ∨ whyA μ a b q = 2 := by
          unfold whyA
          rw [if_pos hN]
          split <;> omega
        rw [if_pos hN]
        rcases hy with hy | hy
        · simp (disch := first | assumption | omega) only [↓reduceIte, eX11_ifOrder, bX11_ifOrder_0, bX11_ifOrder_11, bX11_ifOrder_17, bX11_ifOrder_21, bX11_ifOrder_22, bX11_ifOrder_49, bX11_ifOrder_51, bX11_ifOrder_79_0, bX11_ifOrder_79_1, bX11_ifOrder_79_2, bX11_ifOrder_79_d, bX11_ifOrder_104, bX11_ifOrder_110, bX11_ifOrder_119, bX11_ifOrder_134, r11_11, r11_5, g5_4, r4_3, q4_3, g5_5, r5_0, g1_1, g1_2, g5_7, g5_6, i3_add, i3_sub, i3_mul, i3_neg, i6_add, i6_sub, i6_mul, i6_neg, i3_lt, i3_le, i3_eq, i6_lt, i6_eq, i3_div, i6_div, i6_i3, i3_i6, c6_lt, c6_ge, c6_gt, c6_le, c6_eq, i3_ite, i6_ite, ib_0, ib_z, ite_not, i1_0, i0_0, jB_1, jB_0, jB_ib, bI_v, bL_v, bD_v, bV_v, ob_s, ob_i, i3_ofNat, jx_e, bI_e, bL_e, bD_e, bV_e, i3_eq0, i6_eq0, if_mx, if_mn, if_true, if_false, not_true_eq_false, not_false_eq_true, Int.reduceEq, Int.reduceLT, Int.reduceLE, tX11_requireOrder_0, sX11_require_1, e, p4, hy, hzn, hzp, hzq]
          exact ⟨_, rfl⟩
        · simp (disch := first | assumption | omega) only [↓reduceIte, eX11_ifOrder, bX11_ifOrder_0, bX11_ifOrder_11, bX11_ifOrder_17, bX11_ifOrder_21, bX11_ifOrder_22, bX11_ifOrder_49, bX11_ifOrder_51, bX11_ifOrder_79_0, bX11_ifOrder_79_1, bX11_ifOrder_79_2, bX11_ifOrder_79_d, bX11_ifOrder_104, bX11_ifOrder_110, bX11_ifOrder_119, bX11_ifOrder_134, r11_11, r11_5, g5_4, r4_3, q4_3, g5_5, r5_0, g1_1, g1_2, g5_7, g5_6, i3_add, i3_sub, i3_mul, i3_neg, i6_add, i6_sub, i6_mul, i6_neg, i3_lt, i3_le, i3_eq, i6_lt, i6_eq, i3_div, i6_div, i6_i3, i3_i6, c6_lt, c6_ge, c6_gt, c6_le, c6_eq, i3_ite, i6_ite, ib_0, ib_z, ite_not, i1_0, i0_0, jB_1, jB_0, jB_ib, bI_v, bL_v, bD_v, bV_v, ob_s, ob_i, i3_ofNat, jx_e, bI_e, bL_e, bD_e, bV_e, i3_eq0, i6_eq0, if_mx, if_mn, if_true, if_false, not_true_eq_false, not_false_eq_true, Int.reduceEq, Int.reduceLT, Int.reduceLE, tX11_requireOrder_0, sX11_require_1, e, p4, hy, hzn, hzp, hzq]
          exact ⟨_, rfl⟩
      · have hy : whyA μ a b q = 0 := if_neg hN
        have hP := (nrM_P (v := μ) (pw := a) (ph := b) (num := q) (x := -1)).resolve_left hN
        have p7 := p7 hN
        rw [if_neg hN]
        change 0 ≤ (nrA μ a b q).1 ∧ (nrA μ a b q).1 < μ 412 0 ∧ 0 ≤ (nrA μ a b q).2 ∧ (nrA μ a b q).2 < 10 at hP
        generalize (nrA μ a b q).1 = i at *
        generalize (nrA μ a b q).2 = n at *
        obtain ⟨i0, i1, n0, n1⟩ := hP
        obtain ⟨i', rfl⟩ : ∃ i' : Nat, i = i' := ⟨i.toNat, (Int.toNat_of_nonneg i0).symm⟩
        obtain ⟨n', rfl⟩ : ∃ n' : Nat, n = n' := ⟨n.toNat, (Int.toNat_of_nonneg n0).symm⟩
        rw [Int.toNat_natCast] at *
        obtain ⟨p7, pt, ps, pc⟩ := p7
        have k1 := cuS_b (K := kM μ i') (q := q) (n := n') (by omega) (fun k k0 k1 => (hg.k i0 i1 k k0 (by omega)).1) n' (Nat.le_refl n')
        have k2 := fsS_b (q := q) (n := n') hg i0 i1 (by omega) (by omega) (by omega)
        have k3 := aM_b (hg.o i0 i1) n'
        have k5 := hg.k i0 i1 n' (by omega) (by omega)
        have k6 := cuF_b (K := kM μ i') (q := q) (n := n') (by omega) (fun k k0 k1 => (hg.k i0 i1 k k0 (by omega)).1) ((n' : Int) - 1)
        have k7 : (n' : Int) * q ≤ 10 * 1000 := Int.mul_le_mul (by omega) (by omega) (by omega) (by omega)
        have k8 : aM μ i' n' * q ≤ 4000000 * 1000 := Int.mul_le_mul k3.2 (by omega) (by omega) (by omega)
        have k9 : a * b * q ≤ 4000000 * 1000 := Int.mul_le_mul k4.2 (by omega) (by omega) (by omega)
        have k10 := Int.mul_nonneg k3.1 (show 0 ≤ q by omega)
        have k11 := Int.mul_nonneg k4.1 (show 0 ≤ q by omega)
        have k12 : (aM μ i' n' - a * b) * q = aM μ i' n' * q - a * b * q := Int.sub_mul _ _ _
        have hz4 : z = 0 ∨ z = 1 ∨ z = 2 ∨ z = 3 := by omega
        unfold ifF
        rcases hz4 with rfl | rfl | rfl | rfl
        · simp (disch := first | assumption | omega) only [↓reduceIte, eX11_ifOrder, bX11_ifOrder_0, bX11_ifOrder_11, bX11_ifOrder_17, bX11_ifOrder_21, bX11_ifOrder_22, bX11_ifOrder_49, bX11_ifOrder_51, bX11_ifOrder_79_0, bX11_ifOrder_79_1, bX11_ifOrder_79_2, bX11_ifOrder_79_d, bX11_ifOrder_104, bX11_ifOrder_110, bX11_ifOrder_119, bX11_ifOrder_134, r11_11, r11_5, g5_4, r4_3, q4_3, g5_5, r5_0, g1_1, g1_2, g5_7, g5_6, i3_add, i3_sub, i3_mul, i3_neg, i6_add, i6_sub, i6_mul, i6_neg, i3_lt, i3_le, i3_eq, i6_lt, i6_eq, i3_div, i6_div, i6_i3, i3_i6, c6_lt, c6_ge, c6_gt, c6_le, c6_eq, i3_ite, i6_ite, ib_0, ib_z, ite_not, i1_0, i0_0, jB_1, jB_0, jB_ib, bI_v, bL_v, bD_v, bV_v, ob_s, ob_i, i3_ofNat, jx_e, bI_e, bL_e, bD_e, bV_e, i3_eq0, i6_eq0, if_mx, if_mn, if_true, if_false, not_true_eq_false, not_false_eq_true, Int.reduceEq, Int.reduceLT, Int.reduceLE, tX11_requireOrder_0, sX11_require_1, e, p4, hy, p5, p6, Int.toNat_natCast, pt]
          refine ⟨w', ?_⟩
          apply fin_i
          omega
        · simp (disch := first | assumption | omega) only [↓reduceIte, eX11_ifOrder, bX11_ifOrder_0, bX11_ifOrder_11, bX11_ifOrder_17, bX11_ifOrder_21, bX11_ifOrder_22, bX11_ifOrder_49, bX11_ifOrder_51, bX11_ifOrder_79_0, bX11_ifOrder_79_1, bX11_ifOrder_79_2, bX11_ifOrder_79_d, bX11_ifOrder_104, bX11_ifOrder_110, bX11_ifOrder_119, bX11_ifOrder_134, r11_11, r11_5, g5_4, r4_3, q4_3, g5_5, r5_0, g1_1, g1_2, g5_7, g5_6, i3_add, i3_sub, i3_mul, i3_neg, i6_add, i6_sub, i6_mul, i6_neg, i3_lt, i3_le, i3_eq, i6_lt, i6_eq, i3_div, i6_div, i6_i3, i3_i6, c6_lt, c6_ge, c6_gt, c6_le, c6_eq, i3_ite, i6_ite, ib_0, ib_z, ite_not, i1_0, i0_0, jB_1, jB_0, jB_ib, bI_v, bL_v, bD_v, bV_v, ob_s, ob_i, i3_ofNat, jx_e, bI_e, bL_e, bD_e, bV_e, i3_eq0, i6_eq0, if_mx, if_mn, if_true, if_false, not_true_eq_false, not_false_eq_true, Int.reduceEq, Int.reduceLT, Int.reduceLE, tX11_requireOrder_0, sX11_require_1, e, p4, hy, p5, p6, Int.toNat_natCast, ps, sX11_capped]
          exact ⟨_, rfl⟩
        · simp (disch := first | assumption | omega) only [↓reduceIte, eX11_ifOrder, bX11_ifOrder_0, bX11_ifOrder_11, bX11_ifOrder_17, bX11_ifOrder_21, bX11_ifOrder_22, bX11_ifOrder_49, bX11_ifOrder_51, bX11_ifOrder_79_0, bX11_ifOrder_79_1, bX11_ifOrder_79_2, bX11_ifOrder_79_d, bX11_ifOrder_104, bX11_ifOrder_110, bX11_ifOrder_119, bX11_ifOrder_134, r11_11, r11_5, g5_4, r4_3, q4_3, g5_5, r5_0, g1_1, g1_2, g5_7, g5_6, i3_add, i3_sub, i3_mul, i3_neg, i6_add, i6_sub, i6_mul, i6_neg, i3_lt, i3_le, i3_eq, i6_lt, i6_eq, i3_div, i6_div, i6_i3, i3_i6, c6_lt, c6_ge, c6_gt, c6_le, c6_eq, i3_ite, i6_ite, ib_0, ib_z, ite_not, i1_0, i0_0, jB_1, jB_0, jB_ib, bI_v, bL_v, bD_v, bV_v, ob_s, ob_i, i3_ofNat, jx_e, bI_e, bL_e, bD_e, bV_e, i3_eq0, i6_eq0, if_mx, if_mn, if_true, if_false, not_true_eq_false, not_false_eq_true, Int.reduceEq, Int.reduceLT, Int.reduceLE, tX11_requireOrder_0, sX11_require_1, e, p4, hy, p5, p6, p7, Int.toNat_natCast, sX11_capped]
          exact ⟨_, rfl⟩
        · have hh : jm_env (d + 4) 43 [.ref 340, .int (i3 n')] (qM X v w' T c s) = some (.inl (some (.int (i3 (2 * cuF (kM μ i') q n' ((n' : Int) - 1))))), qM X v w' T c s) := by
            simp (disch := first | assumption | omega) only [eX1_halvesOf, bX1_halvesOf_0, bX1_halvesOf_4, bX1_halvesOf_10, bX1_halvesOf_23, bX1_halvesOf_24, r1_0, a1_0, w1_0, n1_0, i3_add, i3_sub, i3_mul, i3_neg, i6_add, i6_sub, i6_mul, i6_neg, i3_lt, i3_le, i3_eq, i6_lt, i6_eq, i3_div, i6_div, i6_i3, i3_i6, c6_lt, c6_ge, c6_gt, c6_le, c6_eq, i3_ite, i6_ite, ib_0, ib_z, ite_not, i1_0, i0_0, jB_1, jB_0, jB_ib, bI_v, bL_v, bD_v, bV_v, ob_s, ob_i, i3_ofNat, jx_e, bI_e, bL_e, bD_e, bV_e, i3_eq0, i6_eq0, if_mx, if_mn, if_true, if_false, not_true_eq_false, not_false_eq_true, Int.reduceEq, Int.reduceLT, Int.reduceLE]
            by_cases gn : (n' : Int) ≤ 0
            · rw [if_pos gn, show cuF (kM μ i') q n' ((n' : Int) - 1) = 0 from if_neg (by omega)]
              rfl
            · rw [if_neg gn]
              first | rw [if_neg (by omega)] | rw [if_pos (by omega)]
              rw [pc _ (by omega) (by omega)]
          simp (disch := first | assumption | omega) only [↓reduceIte, eX11_ifOrder, bX11_ifOrder_0, bX11_ifOrder_11, bX11_ifOrder_17, bX11_ifOrder_21, bX11_ifOrder_22, bX11_ifOrder_49, bX11_ifOrder_51, bX11_ifOrder_79_0, bX11_ifOrder_79_1, bX11_ifOrder_79_2, bX11_ifOrder_79_d, bX11_ifOrder_104, bX11_ifOrder_110, bX11_ifOrder_119, bX11_ifOrder_134, r11_11, r11_5, g5_4, r4_3, q4_3, g5_5, r5_0, g1_1, g1_2, g5_7, g5_6, i3_add, i3_sub, i3_mul, i3_neg, i6_add, i6_sub, i6_mul, i6_neg, i3_lt, i3_le, i3_eq, i6_lt, i6_eq, i3_div, i6_div, i6_i3, i3_i6, c6_lt, c6_ge, c6_gt, c6_le, c6_eq, i3_ite, i6_ite, ib_0, ib_z, ite_not, i1_0, i0_0, jB_1, jB_0, jB_ib, bI_v, bL_v, bD_v, bV_v, ob_s, ob_i, i3_ofNat, jx_e, bI_e, bL_e, bD_e, bV_e, i3_eq0, i6_eq0, if_mx, if_mn, if_true, if_false, not_true_eq_false, not_false_eq_true, Int.reduceEq, Int.reduceLT, Int.reduceLE, tX11_requireOrder_0, sX11_require_1, e, p4, hy, p5, p6, Int.toNat_natCast, tX9_sheetsAt h, hh]
          refine ⟨w', ?_⟩
          apply fin_i
          omega
    · rw [cd1_1 (fun h => g' h.2)]
      apply cR_1
      simp (disch := first | assumption | omega) only [eX11_ifOrder, bX11_ifOrder_0, bX11_ifOrder_11, bX11_ifOrder_17, bX11_ifOrder_21, bX11_ifOrder_22, i3_add, i3_sub, i3_mul, i3_neg, i6_add, i6_sub, i6_mul, i6_neg, i3_lt, i3_le, i3_eq, i6_lt, i6_eq, i3_div, i6_div, i6_i3, i3_i6, c6_lt, c6_ge, c6_gt, c6_le, c6_eq, i3_ite, i6_ite, ib_0, ib_z, ite_not, i1_0, i0_0, jB_1, jB_0, jB_ib, bI_v, bL_v, bD_v, bV_v, ob_s, ob_i, i3_ofNat, jx_e, bI_e, bL_e, bD_e, bV_e, i3_eq0, i6_eq0, if_mx, if_mn, if_true, if_false, not_true_eq_false, not_false_eq_true, Int.reduceEq, Int.reduceLT, Int.reduceLE, tX11_requireOrder_0, sX11_require_1, sX11_require_0, exc_q]
      by_cases g1 : z < 0
      · rw [if_pos g1]
        exact ⟨_, rfl⟩
      · rw [if_neg g1]
        first | rw [if_pos (by omega)] | rw [if_neg (by omega)]
        exact ⟨_, rfl⟩
  · rw [cd1_1 (fun h => g h.1)]
    apply cR_1
    simp (disch := first | assumption | omega) only [eX11_ifOrder, bX11_ifOrder_0, i3_add, i3_sub, i3_mul, i3_neg, i6_add, i6_sub, i6_mul, i6_neg, i3_lt, i3_le, i3_eq, i6_lt, i6_eq, i3_div, i6_div, i6_i3, i3_i6, c6_lt, c6_ge, c6_gt, c6_le, c6_eq, i3_ite, i6_ite, ib_0, ib_z, ite_not, i1_0, i0_0, jB_1, jB_0, jB_ib, bI_v, bL_v, bD_v, bV_v, ob_s, ob_i, i3_ofNat, jx_e, bI_e, bL_e, bD_e, bV_e, i3_eq0, i6_eq0, if_mx, if_mn, if_true, if_false, not_true_eq_false, not_false_eq_true, Int.reduceEq, Int.reduceLT, Int.reduceLE, tX11_requireOrder_1, exc_q]
    exact ⟨_, rfl⟩
theorem cX11_cutsFor {i n q : Int} (h : LO v 14 μ) (hi : isI i) (hn : isI n) (hq : isI q) : cR (jm_env (d + 4) 172 [.ref 0, .int (i3 i), .int (i3 n), .int (i3 q)] (qM X v w T c s)) X v T c s eIB eIA (cd2 ((0 ≤ i ∧ i < μ 412 0) ∧ 0 ≤ n ∧ n < 10) (0 ≤ q ∧ q ≤ 9999)) (if supM μ i (n.toNat + 1) < q then -1 else cuS (kM μ i) q n.toNat n.toNat) := by
  obtain ⟨hq0, hq1⟩ := hq
  obtain ⟨hi0, hi1⟩ := hi
  obtain ⟨hn0, hn1⟩ := hn
  obtain ⟨hln, -, hg, hz⟩ := id h
  obtain ⟨hc0, hc1, he0, he1, -⟩ := id hg
  by_cases g : (0 ≤ i ∧ i < μ 412 0) ∧ 0 ≤ n ∧ n < 10
  · obtain ⟨⟨g1, g2⟩, g3, g4⟩ := id g
    obtain ⟨i', rfl⟩ : ∃ i' : Nat, i = i' := ⟨i.toNat, (Int.toNat_of_nonneg g1).symm⟩
    obtain ⟨n', rfl⟩ : ∃ n' : Nat, n = n' := ⟨n.toNat, (Int.toNat_of_nonneg g3).symm⟩
    have g4' : n' < 10 := by omega
    have hu := hg.s g1 g2 (n := n' + 1) (by omega)
    by_cases g' : 0 ≤ q ∧ q ≤ 9999
    · obtain ⟨g5, g6⟩ := id g'
      have g7 : q ≤ 10000 := by omega
      rw [cd2_0 g g', Int.toNat_natCast]
      apply cR_0
      have hqa : (q < 0) = False := eq_false (by omega)
      have hqb : (9999 < q) = False := eq_false (by omega)
      have hqc : (q ≤ 9999) = True := eq_true (by omega)
      by_cases g8 : supM μ i' (n' + 1) < q
      · have hqd : (q ≤ supM μ i' (n' + 1)) = False := eq_false (by omega)
        rw [if_pos g8]
        simp (disch := first | assumption | omega) only [↓reduceIte, eX11_cutsFor, bX11_cutsFor_0, bX11_cutsFor_10, bX11_cutsFor_17, bX11_cutsFor_21, bX11_cutsFor_22, bX11_cutsFor_46, bX11_cutsFor_48, r11_5, r4_3, q4_3, r11_11, r5_0, g1_1, i3_add, i3_sub, i3_mul, i3_neg, i6_add, i6_sub, i6_mul, i6_neg, i3_lt, i3_le, i3_eq, i6_lt, i6_eq, i3_div, i6_div, i6_i3, i3_i6, c6_lt, c6_ge, c6_gt, c6_le, c6_eq, i3_ite, i6_ite, ib_0, ib_z, ite_not, i1_0, i0_0, jB_1, jB_0, jB_ib, bI_v, bL_v, bD_v, bV_v, ob_s, ob_i, i3_ofNat, jx_e, bI_e, bL_e, bD_e, bV_e, i3_eq0, i6_eq0, if_mx, if_mn, if_true, if_false, not_true_eq_false, not_false_eq_true, Int.reduceEq, Int.reduceLT, Int.reduceLE, tX11_requireSize_0 h, Int.toNat_natCast, tX9_supplyAt h, sX11_require_1, tX1_make h, hqa, hqb, hqc, hqd, eq_true g8]
        exact ⟨_, rfl⟩
      · have hqd : (q ≤ supM μ i' (n' + 1)) = True := eq_true (by omega)
        rw [if_neg g8]
        simp (disch := first | assumption | omega) only [↓reduceIte, eX11_cutsFor, bX11_cutsFor_0, bX11_cutsFor_10, bX11_cutsFor_17, bX11_cutsFor_21, bX11_cutsFor_22, bX11_cutsFor_46, bX11_cutsFor_48, r11_5, r4_3, q4_3, r11_11, r5_0, g1_1, i3_add, i3_sub, i3_mul, i3_neg, i6_add, i6_sub, i6_mul, i6_neg, i3_lt, i3_le, i3_eq, i6_lt, i6_eq, i3_div, i6_div, i6_i3, i3_i6, c6_lt, c6_ge, c6_gt, c6_le, c6_eq, i3_ite, i6_ite, ib_0, ib_z, ite_not, i1_0, i0_0, jB_1, jB_0, jB_ib, bI_v, bL_v, bD_v, bV_v, ob_s, ob_i, i3_ofNat, jx_e, bI_e, bL_e, bD_e, bV_e, i3_eq0, i6_eq0, if_mx, if_mn, if_true, if_false, not_true_eq_false, not_false_eq_true, Int.reduceEq, Int.reduceLT, Int.reduceLE, tX11_requireSize_0 h, Int.toNat_natCast, tX9_supplyAt h, sX11_require_1, tX1_make h, hqa, hqb, hqc, hqd, eq_false g8]
        refine ⟨ctW w (cuF (kM μ i') q n') (cuS (kM μ i') q n' n') (ssF μ i' q n' n'), ?_⟩
        apply fin_i
        unfold ctW
        rw [up_ne (by omega), up_eq]
    · rw [cd2_2 g g']
      apply cR_2
      simp (disch := first | assumption | omega) only [eX11_cutsFor, bX11_cutsFor_0, bX11_cutsFor_10, bX11_cutsFor_17, bX11_cutsFor_21, bX11_cutsFor_22, i3_add, i3_sub, i3_mul, i3_neg, i6_add, i6_sub, i6_mul, i6_neg, i3_lt, i3_le, i3_eq, i6_lt, i6_eq, i3_div, i6_div, i6_i3, i3_i6, c6_lt, c6_ge, c6_gt, c6_le, c6_eq, i3_ite, i6_ite, ib_0, ib_z, ite_not, i1_0, i0_0, jB_1, jB_0, jB_ib, bI_v, bL_v, bD_v, bV_v, ob_s, ob_i, i3_ofNat, jx_e, bI_e, bL_e, bD_e, bV_e, i3_eq0, i6_eq0, if_mx, if_mn, if_true, if_false, not_true_eq_false, not_false_eq_true, Int.reduceEq, Int.reduceLT, Int.reduceLE, tX11_requireSize_0 h, sX11_require_1, sX11_require_0, exc_q]
      by_cases g5 : q < 0
      · rw [if_pos g5]
        exact ⟨_, rfl⟩
      · rw [if_neg g5]
        first | rw [if_pos (by omega)] | rw [if_neg (by omega)]
        exact ⟨_, rfl⟩
  · rw [cd2_1 g]
    apply cR_1
    simp (disch := first | assumption | omega) only [eX11_cutsFor, bX11_cutsFor_0, i3_add, i3_sub, i3_mul, i3_neg, i6_add, i6_sub, i6_mul, i6_neg, i3_lt, i3_le, i3_eq, i6_lt, i6_eq, i3_div, i6_div, i6_i3, i3_i6, c6_lt, c6_ge, c6_gt, c6_le, c6_eq, i3_ite, i6_ite, ib_0, ib_z, ite_not, i1_0, i0_0, jB_1, jB_0, jB_ib, bI_v, bL_v, bD_v, bV_v, ob_s, ob_i, i3_ofNat, jx_e, bI_e, bL_e, bD_e, bV_e, i3_eq0, i6_eq0, if_mx, if_mn, if_true, if_false, not_true_eq_false, not_false_eq_true, Int.reduceEq, Int.reduceLT, Int.reduceLE, tX11_requireSize_1 h]
    exact ⟨_, rfl⟩
theorem cX11_errorCode : jm_env (d + 1) 141 [.ref 0] (qM X v w T c s) = some (.inl (some (.int (i3 (v 5 5)))), (qM X v w T c s)) := by
  simp (disch := first | assumption | omega) only [eX11_errorCode, bX11_errorCode_0, r11_2, g7_5, i3_add, i3_sub, i3_mul, i3_neg, i6_add, i6_sub, i6_mul, i6_neg, i3_lt, i3_le, i3_eq, i6_lt, i6_eq, i3_div, i6_div, i6_i3, i3_i6, c6_lt, c6_ge, c6_gt, c6_le, c6_eq, i3_ite, i6_ite, ib_0, ib_z, ite_not, i1_0, i0_0, jB_1, jB_0, jB_ib, bI_v, bL_v, bD_v, bV_v, ob_s, ob_i, i3_ofNat, jx_e, bI_e, bL_e, bD_e, bV_e, i3_eq0, i6_eq0, if_mx, if_mn, if_true, if_false, not_true_eq_false, not_false_eq_true, Int.reduceEq, Int.reduceLT, Int.reduceLE]
theorem cX11_errorPosition : jm_env (d + 1) 142 [.ref 0] (qM X v w T c s) = some (.inl (some (.int (i3 (v 5 6)))), (qM X v w T c s)) := by
  simp (disch := first | assumption | omega) only [eX11_errorPosition, bX11_errorPosition_0, r11_2, g7_6, i3_add, i3_sub, i3_mul, i3_neg, i6_add, i6_sub, i6_mul, i6_neg, i3_lt, i3_le, i3_eq, i6_lt, i6_eq, i3_div, i6_div, i6_i3, i3_i6, c6_lt, c6_ge, c6_gt, c6_le, c6_eq, i3_ite, i6_ite, ib_0, ib_z, ite_not, i1_0, i0_0, jB_1, jB_0, jB_ib, bI_v, bL_v, bD_v, bV_v, ob_s, ob_i, i3_ofNat, jx_e, bI_e, bL_e, bD_e, bV_e, i3_eq0, i6_eq0, if_mx, if_mn, if_true, if_false, not_true_eq_false, not_false_eq_true, Int.reduceEq, Int.reduceLT, Int.reduceLE]
theorem cX11_outputByte {k : Int} (hb : bOk v 3) (hk : isI k) : jm_env (d + 2) 187 [.ref 0, .int (i3 k)] (qM X v w T c s) = some (.inl (some (.int (i3 (bat v 3 k)))), (qM X v w T c s)) := by
  obtain ⟨k0, k1⟩ := hk
  have h3 := oByt_3
  simp (disch := first | assumption | omega) only [eX11_outputByte, bX11_outputByte_0, r11_1, i3_add, i3_sub, i3_mul, i3_neg, i6_add, i6_sub, i6_mul, i6_neg, i3_lt, i3_le, i3_eq, i6_lt, i6_eq, i3_div, i6_div, i6_i3, i3_i6, c6_lt, c6_ge, c6_gt, c6_le, c6_eq, i3_ite, i6_ite, ib_0, ib_z, ite_not, i1_0, i0_0, jB_1, jB_0, jB_ib, bI_v, bL_v, bD_v, bV_v, ob_s, ob_i, i3_ofNat, jx_e, bI_e, bL_e, bD_e, bV_e, i3_eq0, i6_eq0, if_mx, if_mn, if_true, if_false, not_true_eq_false, not_false_eq_true, Int.reduceEq, Int.reduceLT, Int.reduceLE, sX0_byteAt]
theorem cX11_refused {q : Int} (hq : isI q) : cR (jm_env (d + 2) 157 [.ref 0, .int (i3 q)] (qM X v w T c s)) X v T c s eIA eIA (cd1 (-7 ≤ q ∧ q ≤ -2)) (v 338 (-2 - q)) := by
  obtain ⟨hb0, hb1⟩ := hq
  by_cases g : -7 ≤ q ∧ q ≤ -2
  · rw [cd1_0 g]
    apply cR_0
    obtain ⟨g1, g2⟩ := id g
    simp (disch := first | assumption | omega) only [eX11_refused, bX11_refused_0, bX11_refused_11, bX11_refused_17, bX11_refused_21, bX11_refused_27, bX11_refused_31, bX11_refused_32, r11_10, a11_10, w11_10, n11_10, i3_add, i3_sub, i3_mul, i3_neg, i6_add, i6_sub, i6_mul, i6_neg, i3_lt, i3_le, i3_eq, i6_lt, i6_eq, i3_div, i6_div, i6_i3, i3_i6, c6_lt, c6_ge, c6_gt, c6_le, c6_eq, i3_ite, i6_ite, ib_0, ib_z, ite_not, i1_0, i0_0, jB_1, jB_0, jB_ib, bI_v, bL_v, bD_v, bV_v, ob_s, ob_i, i3_ofNat, jx_e, bI_e, bL_e, bD_e, bV_e, i3_eq0, i6_eq0, if_mx, if_mn, if_true, if_false, not_true_eq_false, not_false_eq_true, Int.reduceEq, Int.reduceLT, Int.reduceLE, i3_m2, sX11_require_1, sX11_require_0]
    ((repeat' split) <;> first | exact ⟨_, rfl⟩ | (exfalso; omega))
  · rw [cd1_1 g]
    apply cR_1
    simp (disch := first | assumption | omega) only [eX11_refused, bX11_refused_0, bX11_refused_11, bX11_refused_17, bX11_refused_21, bX11_refused_27, bX11_refused_31, bX11_refused_32, r11_10, a11_10, w11_10, n11_10, i3_add, i3_sub, i3_mul, i3_neg, i6_add, i6_sub, i6_mul, i6_neg, i3_lt, i3_le, i3_eq, i6_lt, i6_eq, i3_div, i6_div, i6_i3, i3_i6, c6_lt, c6_ge, c6_gt, c6_le, c6_eq, i3_ite, i6_ite, ib_0, ib_z, ite_not, i1_0, i0_0, jB_1, jB_0, jB_ib, bI_v, bL_v, bD_v, bV_v, ob_s, ob_i, i3_ofNat, jx_e, bI_e, bL_e, bD_e, bV_e, i3_eq0, i6_eq0, if_mx, if_mn, if_true, if_false, not_true_eq_false, not_false_eq_true, Int.reduceEq, Int.reduceLT, Int.reduceLE, i3_m2, sX11_require_1, sX11_require_0, exc_q]
    ((repeat' split) <;> first | exact ⟨_, rfl⟩ | (exfalso; omega))
end CLH
