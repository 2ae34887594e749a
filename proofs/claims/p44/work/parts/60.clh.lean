-- uses 24.zar 25.obj 26.ops 27.ra 29.rc 34.gen 35.byt 36.ser 37.lnd 38.mod 39.mo2 40.mo3 41.bit 42.mo4 43.mo5 44.mo6 52.mof 53.cla 54.clb 55.clc 56.cld 57.cle 58.clf 59.clg
/-! The class: forecasts and the rest that only asks; where both go other ways to one number. -/
theorem fnd_eq {α : Type} {p : Nat → Prop} [DecidablePred p] {G : Nat → α} {e : α} {j : Nat} : ∀ (r k : Nat), k ≤ j → j < k + r → p j → (∀ i, k ≤ i → i < j → ¬ p i) → fnd p G e k r = G j := by
  intro r
  induction r with
  | zero => intro k h1 h2; omega
  | succ r ih =>
    intro k h1 h2 hp hn
    unfold fnd
    by_cases q : k = j
    · subst q; rw [if_pos hp]
    · rw [if_neg (hn k (by omega) (by omega))]
      exact ih (k + 1) (by omega) (by omega) hp (fun i i0 i1 => hn i (by omega) i1)
theorem fnd_none {α : Type} {p : Nat → Prop} [DecidablePred p] {G : Nat → α} {e : α} : ∀ (r k : Nat), (∀ i, k ≤ i → i < k + r → ¬ p i) → fnd p G e k r = e := by
  intro r
  induction r with
  | zero => intro k _; rfl
  | succ r ih =>
    intro k hn
    unfold fnd
    rw [if_neg (hn k (by omega) (by omega))]
    exact ih (k + 1) (fun i i0 i1 => hn i (by omega) (by omega))
/-- the sizes that are not void, counted and found -/
theorem sizes_eq {μ : Nat → Int → Int} (hz : zM μ) {i : Int} (h0 : 0 ≤ i) (h1 : i < μ 412 0) : fo (fun (a : Int) (n : Nat) => if aM μ i n = 0 then a else a + 1) 0 10 = fnd (fun k : Nat => aM μ i k = 0) (fun k => (k : Int)) 10 0 10 := by
  have h : ∀ m : Nat, (fo (fun (a : Int) (n : Nat) => if aM μ i n = 0 then a else a + 1) 0 m = m ∧ ∀ j : Nat, j < m → aM μ i j ≠ 0) ∨ (∃ j : Nat, j < m ∧ fo (fun (a : Int) (n : Nat) => if aM μ i n = 0 then a else a + 1) 0 m = j ∧ (∀ t : Nat, j ≤ t → t ≤ m → aM μ i t = 0) ∧ ∀ t : Nat, t < j → aM μ i t ≠ 0) := by
    intro m
    induction m with
    | zero => exact Or.inl ⟨rfl, fun j hj => by omega⟩
    | succ m ih =>
      have e : fo (fun (a : Int) (n : Nat) => if aM μ i n = 0 then a else a + 1) 0 (m + 1) = if aM μ i m = 0 then fo (fun (a : Int) (n : Nat) => if aM μ i n = 0 then a else a + 1) 0 m else fo (fun (a : Int) (n : Nat) => if aM μ i n = 0 then a else a + 1) 0 m + 1 := rfl
      rcases ih with ⟨a1, a2⟩ | ⟨j, b1, b2, b3, b4⟩
      · by_cases q : aM μ i m = 0
        · right
          refine ⟨m, by omega, by rw [e, if_pos q, a1], fun t t0 t1 => ?_, a2⟩
          by_cases g : t = m
          · rw [g]; exact q
          · rw [show t = m + 1 by omega]
            exact aM_n hz h0 h1 (by omega) q
        · left
          refine ⟨by rw [e, if_neg q, a1]; rfl, fun j hj => ?_⟩
          by_cases g : j = m
          · rw [g]; exact q
          · exact a2 j (by omega)
      · right
        have q := b3 m (by omega) (Nat.le_refl m)
        refine ⟨j, by omega, by rw [e, if_pos q, b2], fun t t0 t1 => ?_, b4⟩
        by_cases g : t ≤ m
        · exact b3 t t0 g
        · rw [show t = m + 1 by omega]
          exact aM_n hz h0 h1 (by omega) q
  rcases h 10 with ⟨a1, a2⟩ | ⟨j, b1, b2, b3, b4⟩
  · rw [a1, fnd_none 10 0 (fun t _ ht => a2 t (by omega))]
    rfl
  · rw [b2, fnd_eq (j := j) 10 0 (by omega) (by omega) (b3 j (by omega) (by omega)) (fun t _ ht => b4 t ht)]
theorem fit_edg {μ : Nat → Int → Int} {e a b : Int} {k n : Nat} (he0 : 0 ≤ e) (he1 : e ≤ 50) (ha : 1 ≤ a) (hb : 1 ≤ b) : fitI (up μ 412 1 e) k n a b = 1 ↔ e ≤ edgF (szM μ k n).1 (szM μ k n).2 a b := by
  unfold fitI
  rw [szM_up (by omega), up_eq]
  unfold edgF usE
  generalize (szM μ k n).1 = W
  generalize (szM μ k n).2 = H
  by_cases q : (a ≤ max 0 (W - 2 * e) ∧ b ≤ max 0 (H - 2 * e)) ∨ (a ≤ max 0 (H - 2 * e) ∧ b ≤ max 0 (W - 2 * e))
  · rw [if_pos q, if_neg (by omega)]
    omega
  · rw [if_neg q]
    split <;> omega
theorem fit_edgs {μ : Nat → Int → Int} {e a b : Int} (m : Nat) (he0 : 0 ≤ e) (he1 : e ≤ 50) (ha : 1 ≤ a) (hb : 1 ≤ b) : 0 < fo2 (fitG (up μ 412 1 e) a b) 0 m ↔ e ≤ fo2 (edgG μ a b) (-1) m :=
  (fo2_map (R := fun x y : Int => 0 ≤ x ∧ (0 < x ↔ e ≤ y)) m ⟨by omega, by omega⟩ (fun k n x y _ _ h => by
    have h1 := fit_edg (μ := μ) (k := k) (n := n) he0 he1 ha hb
    have h2 := fitI_01 (v := up μ 412 1 e) (i := k) (n := n) (pw := a) (ph := b)
    unfold fitG edgG
    omega)).2
theorem edg_bes {μ : Nat → Int → Int} {a b : Int} (ha : 1 ≤ a) (hb : 1 ≤ b) : fo2 (edgG μ a b) (-1) (μ 412 0).toNat = besF μ a b := by
  have hE : -1 ≤ fo2 (edgG μ a b) (-1) (μ 412 0).toNat ∧ fo2 (edgG μ a b) (-1) (μ 412 0).toNat ≤ 50 := fo2_P (P := fun z => -1 ≤ z ∧ z ≤ 50) _ (by omega) (fun k n x _ _ hx => by
    have := edgF_b (x := (szM μ k n).1) (y := (szM μ k n).2) (a := a) (b := b)
    unfold edgG
    omega)
  have hp : ∀ k : Nat, k < 51 → (0 < fo2 (fitG (up μ 412 1 (50 - (k : Int))) a b) 0 (μ 412 0).toNat ↔ 50 - (k : Int) ≤ fo2 (edgG μ a b) (-1) (μ 412 0).toNat) := fun k hk => fit_edgs _ (by omega) (by omega) ha hb
  unfold besF
  generalize fo2 (edgG μ a b) (-1) (μ 412 0).toNat = E at hE hp
  by_cases q : E = -1
  · rw [fnd_none 51 0 (fun t _ ht g => by have := (hp t (by omega)).mp g; omega), q]
  · rw [fnd_eq (j := (50 - E).toNat) 51 0 (by omega) (by omega) ((hp _ (by omega)).mpr (by omega)) (fun t _ ht g => by have := (hp t (by omega)).mp g; omega)]
    omega
section CLH
variable {d : Nat} {X : Nat × (Nat → Int32)} {v w : Nat → Int → Int} {T c s : Nat}
variable {μ : Nat → Int → Int}
theorem cX11_nearest {a b q : Int} (h : LO v 14 μ) (ha : isI a) (hb : isI b) (hq : isI q) : cR (jm_env (d + 5) 112 [.ref 0, .int (i3 a), .int (i3 b), .int (i3 q)] (qM X v w T c s)) X v T c s eIA eIA (cd1 (((1 ≤ a ∧ a ≤ 2000) ∧ 1 ≤ b ∧ b ≤ 2000) ∧ 1 ≤ q ∧ q ≤ 999)) (if (nrA μ a b q).1 = -1 then -1 else 100 * (nrA μ a b q).1 + (nrA μ a b q).2) := by
  obtain ⟨ha0, ha1⟩ := ha
  obtain ⟨hb0, hb1⟩ := hb
  obtain ⟨hq0, hq1⟩ := hq
  by_cases g : ((1 ≤ a ∧ a ≤ 2000) ∧ 1 ≤ b ∧ b ≤ 2000) ∧ 1 ≤ q ∧ q ≤ 999
  · obtain ⟨⟨⟨g1, g2⟩, g3, g4⟩, g5, g6⟩ := id g
    obtain ⟨w', e, ⟨p1, p2, p3, p4, p5, p6, p8, p9, p7⟩, -⟩ := tX5_make (d := d) (X := X) (T := T) (c := c) (s := s) (w := w) h (num := q) g1 g2 g3 g4 g5 g6
    have hfb := fitG_m (v := μ) (a := a) (b := b) (m := (μ 412 0).toNat) (by have := h.2.2.1.2.1; omega)
    rw [cd1_0 g]
    apply cR_0
    have hy : 0 ≤ whyA μ a b q ∧ whyA μ a b q ≤ 2 ∧ (whyA μ a b q = 0 ↔ ¬ (nrA μ a b q).1 = -1) := by
      unfold whyA
      (repeat' split) <;> omega
    simp (disch := first | assumption | omega) only [eX11_nearest, bX11_nearest_0, bX11_nearest_30, bX11_nearest_40, bX11_nearest_41, r11_11, r11_5, g5_4, i3_add, i3_sub, i3_mul, i3_neg, i6_add, i6_sub, i6_mul, i6_neg, i3_lt, i3_le, i3_eq, i6_lt, i6_eq, i3_div, i6_div, i6_i3, i3_i6, c6_lt, c6_ge, c6_gt, c6_le, c6_eq, i3_ite, i6_ite, ib_0, ib_z, ite_not, i1_0, i0_0, jB_1, jB_0, jB_ib, bI_v, bL_v, bD_v, bV_v, ob_s, ob_i, i3_ofNat, jx_e, bI_e, bL_e, bD_e, bV_e, i3_eq0, i6_eq0, if_mx, if_mn, if_true, if_false, not_true_eq_false, not_false_eq_true, Int.reduceEq, Int.reduceLT, Int.reduceLE, eX5_told, bX5_told_0, g5_5, g5_6, i3_add, i3_sub, i3_mul, i3_neg, i6_add, i6_sub, i6_mul, i6_neg, i3_lt, i3_le, i3_eq, i6_lt, i6_eq, i3_div, i6_div, i6_i3, i3_i6, c6_lt, c6_ge, c6_gt, c6_le, c6_eq, i3_ite, i6_ite, ib_0, ib_z, ite_not, i1_0, i0_0, jB_1, jB_0, jB_ib, bI_v, bL_v, bD_v, bV_v, ob_s, ob_i, i3_ofNat, jx_e, bI_e, bL_e, bD_e, bV_e, i3_eq0, i6_eq0, if_mx, if_mn, if_true, if_false, not_true_eq_false, not_false_eq_true, Int.reduceEq, Int.reduceLT, Int.reduceLE, tX11_requireOrder_0, e, p4, p5, p6]
    refine ⟨w', ?_⟩
    (repeat' split) <;> first | rfl | (exfalso; omega)
  · rw [cd1_1 g]
    apply cR_1
    simp (disch := first | assumption | omega) only [eX11_nearest, bX11_nearest_0, bX11_nearest_30, bX11_nearest_40, bX11_nearest_41, r11_11, r11_5, g5_4, i3_add, i3_sub, i3_mul, i3_neg, i6_add, i6_sub, i6_mul, i6_neg, i3_lt, i3_le, i3_eq, i6_lt, i6_eq, i3_div, i6_div, i6_i3, i3_i6, c6_lt, c6_ge, c6_gt, c6_le, c6_eq, i3_ite, i6_ite, ib_0, ib_z, ite_not, i1_0, i0_0, jB_1, jB_0, jB_ib, bI_v, bL_v, bD_v, bV_v, ob_s, ob_i, i3_ofNat, jx_e, bI_e, bL_e, bD_e, bV_e, i3_eq0, i6_eq0, if_mx, if_mn, if_true, if_false, not_true_eq_false, not_false_eq_true, Int.reduceEq, Int.reduceLT, Int.reduceLE, tX11_requireOrder_1, exc_q]
    exact ⟨_, rfl⟩
theorem cX11_errorCode : jm_env (d + 1) 99 [.ref 0] (qM X v w T c s) = some (.inl (some (.int (i3 (v 5 5)))), (qM X v w T c s)) := by
  simp (disch := first | assumption | omega) only [eX11_errorCode, bX11_errorCode_0, r11_2, g7_5, i3_add, i3_sub, i3_mul, i3_neg, i6_add, i6_sub, i6_mul, i6_neg, i3_lt, i3_le, i3_eq, i6_lt, i6_eq, i3_div, i6_div, i6_i3, i3_i6, c6_lt, c6_ge, c6_gt, c6_le, c6_eq, i3_ite, i6_ite, ib_0, ib_z, ite_not, i1_0, i0_0, jB_1, jB_0, jB_ib, bI_v, bL_v, bD_v, bV_v, ob_s, ob_i, i3_ofNat, jx_e, bI_e, bL_e, bD_e, bV_e, i3_eq0, i6_eq0, if_mx, if_mn, if_true, if_false, not_true_eq_false, not_false_eq_true, Int.reduceEq, Int.reduceLT, Int.reduceLE]
end CLH
