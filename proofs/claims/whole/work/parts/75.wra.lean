-- uses 24.zar 25.obj 26.ops 27.ra 29.rc 34.gen 35.byt 36.ser
/-! Written numbers. -/
def dg (z : Int) : List Int := (if 1000 ≤ z then [48 + z / 1000 % 10] else []) ++ ((if 100 ≤ z then [48 + z / 100 % 10] else []) ++ ((if 10 ≤ z then [48 + z / 10 % 10] else []) ++ [48 + z / 1 % 10]))
/-- texts put behind a buffer -/
def ptL (v : Nat → Int → Int) (a : Nat) (l : List Int) : Nat → Int → Int := l.foldl (fun u y => bputV u a y) v
theorem bput_b {v : Nat → Int → Int} {a : Nat} {z : Int} (h0 : 0 ≤ v a 1) (h1 : v a 1 ≤ bcap a) : 0 ≤ bputV v a z a 1 ∧ bputV v a z a 1 ≤ bcap a := by
  rw [bput_len]
  split <;> omega
theorem ptL_b {a : Nat} : ∀ {l : List Int} {v : Nat → Int → Int}, 0 ≤ v a 1 → v a 1 ≤ bcap a → 0 ≤ ptL v a l a 1 ∧ ptL v a l a 1 ≤ bcap a := by
  intro l
  induction l with
  | nil => intro v h0 h1; exact ⟨h0, h1⟩
  | cons z l ih =>
    intro v h0 h1
    have := bput_b (z := z) h0 h1
    exact ih this.1 this.2
theorem ptL_app {v : Nat → Int → Int} {a : Nat} {l l' : List Int} : ptL v a (l ++ l') = ptL (ptL v a l) a l' := List.foldl_append
section WRA
variable {d : Nat} {X : Nat × (Nat → Int32)} {v w : Nat → Int → Int} {T c s : Nat}
theorem sX0_putNumber_s {a : Nat} {z p : Int} (h : oByt a) (h0 : 0 ≤ v a 1) (h1 : v a 1 ≤ bcap a) (z0 : 0 ≤ z) (z1 : z ≤ 9999) (p0 : 1 ≤ p) (p1 : p ≤ 1000) :
    jm_R (jm_env (d + 2)) jmM_X0_putNumber 4 [some (.ref a), some (.int (i3 z)), some (.int (i3 p))] [] (qM X v w T c s) = jm_R (jm_env (d + 2)) jmM_X0_putNumber 4 [some (.ref a), some (.int (i3 z)), some (.int (i3 (p / 10)))] [] (qM X (if p ≤ z ∨ p = 1 then bputV v a (48 + z / p % 10) else v) w T c s) := by
  have hq : 0 ≤ z / p ∧ z / p ≤ 9999 := ⟨Int.ediv_nonneg z0 (by omega), Int.le_trans (Int.ediv_le_self p z0) z1⟩
  rw [bX0_putNumber_4]
  simp (disch := first | assumption | omega) only [eX0_putNumber, bX0_putNumber_0, bX0_putNumber_9, bX0_putNumber_14, bX0_putNumber_19, bX0_putNumber_32, bX0_putNumber_40, i3_add, i3_sub, i3_mul, i3_neg, i6_add, i6_sub, i6_mul, i6_neg, i3_lt, i3_le, i3_eq, i6_lt, i6_eq, i3_div, i6_div, i6_i3, i3_i6, c6_lt, c6_ge, c6_gt, c6_le, c6_eq, i3_ite, i6_ite, ib_0, ib_z, ite_not, i1_0, i0_0, jB_1, jB_0, jB_ib, bI_v, bL_v, bD_v, bV_v, ob_s, ob_i, i3_ofNat, jx_e, bI_e, bL_e, bD_e, bV_e, i3_eq0, i6_eq0, if_mx, if_mn, if_true, if_false, not_true_eq_false, not_false_eq_true, Int.reduceEq, Int.reduceLT, Int.reduceLE, sX0_put]
  generalize z / p = y at *
  rw [show y - y / 10 * 10 = y % 10 by omega, if_neg (by omega)]
  by_cases g : p ≤ z
  · rw [if_pos g, if_neg (by omega), if_pos (Or.inl g)]
  · rw [if_neg g]
    by_cases g2 : p = 1
    · rw [if_pos g2, if_neg (by omega), if_pos (Or.inr g2)]
    · rw [if_neg g2, if_neg (by omega)]
theorem sX0_putNumber {a : Nat} {z : Int} (h : oByt a) (h0 : 0 ≤ v a 1) (h1 : v a 1 ≤ bcap a) (z0 : 0 ≤ z) (z1 : z ≤ 9999) : jm_env (d + 3) 37 [.ref a, .int (i3 z)] (qM X v w T c s) = some (.inl none, qM X (ptL v a (dg z)) w T c s) := by
  have k1 : ∀ (u : Nat → Int → Int) (y p : Int), 0 ≤ u a 1 ∧ u a 1 ≤ bcap a → 0 ≤ (if p ≤ z ∨ p = 1 then bputV u a y else u) a 1 ∧ (if p ≤ z ∨ p = 1 then bputV u a y else u) a 1 ≤ bcap a := fun u y p hu => by
    split
    · exact bput_b hu.1 hu.2
    · exact hu
  have k2 : ∀ (u : Nat → Int → Int) (y p : Int) (l : List Int), 2 ≤ p → ptL u a ((if p ≤ z then [y] else []) ++ l) = ptL (if p ≤ z ∨ p = 1 then bputV u a y else u) a l := fun u y p l hp => by
    by_cases g : p ≤ z
    · rw [if_pos g, if_pos (Or.inl g)]; rfl
    · rw [if_neg g, if_neg (by omega)]; rfl
  have k3 : ∀ (u : Nat → Int → Int) (y : Int), ptL u a [y] = (if (1 : Int) ≤ z ∨ (1 : Int) = 1 then bputV u a y else u) := fun u y => by
    rw [if_pos (Or.inr rfl)]; rfl
  unfold dg
  rw [k2 _ _ _ _ (by omega), k2 _ _ _ _ (by omega), k2 _ _ _ _ (by omega), k3]
  have b1 := k1 v (48 + z / 1000 % 10) 1000 ⟨h0, h1⟩
  have b2 := k1 _ (48 + z / 100 % 10) 100 b1
  have b3 := k1 _ (48 + z / 10 % 10) 10 b2
  simp (disch := first | assumption | omega) only [eX0_putNumber, bX0_putNumber_0, bX0_putNumber_9, bX0_putNumber_14, bX0_putNumber_19, bX0_putNumber_32, bX0_putNumber_40, i3_add, i3_sub, i3_mul, i3_neg, i6_add, i6_sub, i6_mul, i6_neg, i3_lt, i3_le, i3_eq, i6_lt, i6_eq, i3_div, i6_div, i6_i3, i3_i6, c6_lt, c6_ge, c6_gt, c6_le, c6_eq, i3_ite, i6_ite, ib_0, ib_z, ite_not, i1_0, i0_0, jB_1, jB_0, jB_ib, bI_v, bL_v, bD_v, bV_v, ob_s, ob_i, i3_ofNat, jx_e, bI_e, bL_e, bD_e, bV_e, i3_eq0, i6_eq0, if_mx, if_mn, if_true, if_false, not_true_eq_false, not_false_eq_true, Int.reduceEq, Int.reduceLT, Int.reduceLE]
  rw [sX0_putNumber_s h h0 h1 z0 z1 (by omega) (by omega), show (1000 : Int) / 10 = 100 from rfl, sX0_putNumber_s h b1.1 b1.2 z0 z1 (by omega) (by omega), show (100 : Int) / 10 = 10 from rfl, sX0_putNumber_s h b2.1 b2.2 z0 z1 (by omega) (by omega), show (10 : Int) / 10 = 1 from rfl, sX0_putNumber_s h b3.1 b3.2 z0 z1 (by omega) (by omega)]
  rw [bX0_putNumber_4]
  simp (disch := first | assumption | omega) only [eX0_putNumber, bX0_putNumber_0, bX0_putNumber_9, bX0_putNumber_14, bX0_putNumber_19, bX0_putNumber_32, bX0_putNumber_40, i3_add, i3_sub, i3_mul, i3_neg, i6_add, i6_sub, i6_mul, i6_neg, i3_lt, i3_le, i3_eq, i6_lt, i6_eq, i3_div, i6_div, i6_i3, i3_i6, c6_lt, c6_ge, c6_gt, c6_le, c6_eq, i3_ite, i6_ite, ib_0, ib_z, ite_not, i1_0, i0_0, jB_1, jB_0, jB_ib, bI_v, bL_v, bD_v, bV_v, ob_s, ob_i, i3_ofNat, jx_e, bI_e, bL_e, bD_e, bV_e, i3_eq0, i6_eq0, if_mx, if_mn, if_true, if_false, not_true_eq_false, not_false_eq_true, Int.reduceEq, Int.reduceLT, Int.reduceLE]
  rw [if_pos (by omega)]
end WRA
