-- uses 24.zar 25.obj 26.ops 30.rd 31.re 34.gen 35.byt 36.ser 38.mod 39.mo2 40.mo3 41.bit 43.mo5 44.mo6 75.wra 76.wrb
/-! The reference: the stacks written. -/
def wpV (v : Nat → Int → Int) (z : Int) : Nat → Int → Int := up (up v 428 (v 411 43) z) 411 43 (v 411 43 + 1)
def wpL (v : Nat → Int → Int) (l : List Int) : Nat → Int → Int := l.foldl wpV v
theorem wpV_n {v : Nat → Int → Int} {z : Int} : wpV v z 411 43 = v 411 43 + 1 := up_eq
theorem wpL_n : ∀ {l : List Int} {v : Nat → Int → Int}, wpL v l 411 43 = v 411 43 + l.length := by
  intro l
  induction l with
  | nil => intro v; show v 411 43 = v 411 43 + ((0 : Nat) : Int); omega
  | cons z l ih =>
    intro v
    have e := ih (v := wpV v z)
    rw [wpV_n] at e
    refine Eq.trans e ?_
    rw [List.length_cons]
    omega
theorem wpL_app {v : Nat → Int → Int} {l l' : List Int} : wpL v (l ++ l') = wpL (wpL v l) l' := List.foldl_append
theorem wpV_o {v : Nat → Int → Int} {z : Int} {n : Nat} {k : Int} (h : n ≠ 428) (h2 : n ≠ 411 ∨ k ≠ 43) : wpV v z n k = v n k := by
  unfold wpV
  rw [up_ne (by omega), up_ne (by omega)]
theorem wpL_o {n : Nat} {k : Int} (h : n ≠ 428) (h2 : n ≠ 411 ∨ k ≠ 43) : ∀ {l : List Int} {v : Nat → Int → Int}, wpL v l n k = v n k := by
  intro l
  induction l with
  | nil => intro v; rfl
  | cons z l ih => intro v; exact (ih (v := wpV v z)).trans (wpV_o h h2)
section WRC
variable {d : Nat} {X : Nat × (Nat → Int32)} {v w : Nat → Int → Int} {T c s : Nat}
theorem sX12_writes {z : Int} (hT : 18 ≤ T) (h0 : 0 ≤ v 411 43) (h1 : v 411 43 ≤ 649) : jm_env (d + 1) 334 [.ref 411, .int (i3 z)] (qM X v w T c s) = some (.inl none, qM X (wpV v z) w T c s) := by
  simp (disch := first | assumption | omega) only [eX12_writes, bX12_writes_0, r12_42, a12_42, w12_42, n12_42, g12_43, p12_43, i3_add, i3_sub, i3_mul, i3_neg, i6_add, i6_sub, i6_mul, i6_neg, i3_lt, i3_le, i3_eq, i6_lt, i6_eq, i3_div, i6_div, i6_i3, i3_i6, c6_lt, c6_ge, c6_gt, c6_le, c6_eq, i3_ite, i6_ite, ib_0, ib_z, ite_not, i1_0, i0_0, jB_1, jB_0, jB_ib, bI_v, bL_v, bD_v, bV_v, ob_s, ob_i, i3_ofNat, jx_e, bI_e, bL_e, bD_e, bV_e, i3_eq0, i6_eq0, if_mx, if_mn, if_true, if_false, not_true_eq_false, not_false_eq_true, Int.reduceEq, Int.reduceLT, Int.reduceLE]
  rw [show up v 428 (v 411 43) z 411 43 = v 411 43 from up_ne (by omega)]
  rfl
theorem sX12_wn2 {z p : Int} (z0 : 0 ≤ z) (z1 : z ≤ 9999) (p0 : 1 ≤ p) (p1 : p ≤ 1000) : jm_R (jm_env (d + 1)) jmM_X12_writesNumber 2 [some (.ref 411), some (.int (i3 z)), some (.int (i3 p))] [] (qM X v w T c s) = if z / p ≤ 9 then jm_R (jm_env (d + 1)) jmM_X12_writesNumber 18 [some (.ref 411), some (.int (i3 z)), some (.int (i3 p))] [] (qM X v w T c s) else jm_R (jm_env (d + 1)) jmM_X12_writesNumber 2 [some (.ref 411), some (.int (i3 z)), some (.int (i3 (p * 10)))] [] (qM X v w T c s) := by
  have hq : 0 ≤ z / p ∧ z / p ≤ 9999 := ⟨Int.ediv_nonneg z0 (by omega), Int.le_trans (Int.ediv_le_self p z0) z1⟩
  rw [bX12_writesNumber_2]
  simp (disch := first | assumption | omega) only [i3_add, i3_sub, i3_mul, i3_neg, i6_add, i6_sub, i6_mul, i6_neg, i3_lt, i3_le, i3_eq, i6_lt, i6_eq, i3_div, i6_div, i6_i3, i3_i6, c6_lt, c6_ge, c6_gt, c6_le, c6_eq, i3_ite, i6_ite, ib_0, ib_z, ite_not, i1_0, i0_0, jB_1, jB_0, jB_ib, bI_v, bL_v, bD_v, bV_v, ob_s, ob_i, i3_ofNat, jx_e, bI_e, bL_e, bD_e, bV_e, i3_eq0, i6_eq0, if_mx, if_mn, if_true, if_false, not_true_eq_false, not_false_eq_true, Int.reduceEq, Int.reduceLT, Int.reduceLE, bX12_writesNumber_10]
  rw [if_neg (by omega)]
theorem sX12_wn18 {z p : Int} (hT : 18 ≤ T) (z0 : 0 ≤ z) (z1 : z ≤ 9999) (p0 : 1 ≤ p) (p1 : p ≤ 1000) (h0 : 0 ≤ v 411 43) (h1 : v 411 43 ≤ 649) : jm_R (jm_env (d + 1)) jmM_X12_writesNumber 18 [some (.ref 411), some (.int (i3 z)), some (.int (i3 p))] [] (qM X v w T c s) = jm_R (jm_env (d + 1)) jmM_X12_writesNumber 18 [some (.ref 411), some (.int (i3 z)), some (.int (i3 (p / 10)))] [] (qM X (wpV v (48 + z / p % 10)) w T c s) := by
  have hq : 0 ≤ z / p ∧ z / p ≤ 9999 := ⟨Int.ediv_nonneg z0 (by omega), Int.le_trans (Int.ediv_le_self p z0) z1⟩
  rw [bX12_writesNumber_18]
  simp (disch := first | assumption | omega) only [i3_add, i3_sub, i3_mul, i3_neg, i6_add, i6_sub, i6_mul, i6_neg, i3_lt, i3_le, i3_eq, i6_lt, i6_eq, i3_div, i6_div, i6_i3, i3_i6, c6_lt, c6_ge, c6_gt, c6_le, c6_eq, i3_ite, i6_ite, ib_0, ib_z, ite_not, i1_0, i0_0, jB_1, jB_0, jB_ib, bI_v, bL_v, bD_v, bV_v, ob_s, ob_i, i3_ofNat, jx_e, bI_e, bL_e, bD_e, bV_e, i3_eq0, i6_eq0, if_mx, if_mn, if_true, if_false, not_true_eq_false, not_false_eq_true, Int.reduceEq, Int.reduceLT, Int.reduceLE, bX12_writesNumber_22, sX12_writes]
  generalize z / p = y at *
  rw [show y - y / 10 * 10 = y % 10 by omega, if_neg (by omega), if_neg (by omega)]
theorem sX12_wn0 {z : Int} : jm_R (jm_env (d + 1)) jmM_X12_writesNumber 18 [some (.ref 411), some (.int (i3 z)), some (.int (i3 0))] [] (qM X v w T c s) = some (.inl none, (qM X v w T c s)) := by
  rw [bX12_writesNumber_18]
  simp (disch := first | assumption | omega) only [i3_add, i3_sub, i3_mul, i3_neg, i6_add, i6_sub, i6_mul, i6_neg, i3_lt, i3_le, i3_eq, i6_lt, i6_eq, i3_div, i6_div, i6_i3, i3_i6, c6_lt, c6_ge, c6_gt, c6_le, c6_eq, i3_ite, i6_ite, ib_0, ib_z, ite_not, i1_0, i0_0, jB_1, jB_0, jB_ib, bI_v, bL_v, bD_v, bV_v, ob_s, ob_i, i3_ofNat, jx_e, bI_e, bL_e, bD_e, bV_e, i3_eq0, i6_eq0, if_mx, if_mn, if_true, if_false, not_true_eq_false, not_false_eq_true, Int.reduceEq, Int.reduceLT, Int.reduceLE, bX12_writesNumber_43]
theorem dg_len {z : Int} (h : z ≤ 9999) : ((dg z).length : Int) = if 1000 ≤ z then 4 else if 100 ≤ z then 3 else if 10 ≤ z then 2 else 1 := by
  unfold dg
  by_cases g1 : 1000 ≤ z
  · rw [if_pos g1, if_pos g1, if_pos (by omega), if_pos (by omega)]; rfl
  · by_cases g2 : 100 ≤ z
    · rw [if_neg g1, if_neg g1, if_pos g2, if_pos g2, if_pos (by omega)]; rfl
    · by_cases g3 : 10 ≤ z
      · rw [if_neg g1, if_neg g1, if_neg g2, if_neg g2, if_pos g3, if_pos g3]; rfl
      · rw [if_neg g1, if_neg g1, if_neg g2, if_neg g2, if_neg g3, if_neg g3]; rfl
theorem sX12_writesNumber {z : Int} (hT : 18 ≤ T) (z0 : 0 ≤ z) (z1 : z ≤ 9999) (h0 : 0 ≤ v 411 43) (h1 : v 411 43 + (dg z).length ≤ 650) : jm_env (d + 2) 335 [.ref 411, .int (i3 z)] (qM X v w T c s) = some (.inl none, qM X (wpL v (dg z)) w T c s) := by
  rw [dg_len z1] at h1
  simp (disch := first | assumption | omega) only [eX12_writesNumber, bX12_writesNumber_0, bX12_writesNumber_10, bX12_writesNumber_22, bX12_writesNumber_43, i3_add, i3_sub, i3_mul, i3_neg, i6_add, i6_sub, i6_mul, i6_neg, i3_lt, i3_le, i3_eq, i6_lt, i6_eq, i3_div, i6_div, i6_i3, i3_i6, c6_lt, c6_ge, c6_gt, c6_le, c6_eq, i3_ite, i6_ite, ib_0, ib_z, ite_not, i1_0, i0_0, jB_1, jB_0, jB_ib, bI_v, bL_v, bD_v, bV_v, ob_s, ob_i, i3_ofNat, jx_e, bI_e, bL_e, bD_e, bV_e, i3_eq0, i6_eq0, if_mx, if_mn, if_true, if_false, not_true_eq_false, not_false_eq_true, Int.reduceEq, Int.reduceLT, Int.reduceLE]
  rw [sX12_wn2 z0 z1 (by omega) (by omega)]
  by_cases g3 : 10 ≤ z
  · rw [if_neg (by omega), show (1 : Int) * 10 = 10 from rfl, sX12_wn2 z0 z1 (by omega) (by omega)]
    by_cases g2 : 100 ≤ z
    · rw [if_neg (by omega), show (10 : Int) * 10 = 100 from rfl, sX12_wn2 z0 z1 (by omega) (by omega)]
      by_cases g1 : 1000 ≤ z
      · rw [if_pos g1] at h1
        rw [if_neg (by omega), show (100 : Int) * 10 = 1000 from rfl, sX12_wn2 z0 z1 (by omega) (by omega)]
        rw [if_pos (by omega), sX12_wn18 hT z0 z1 (by omega) (by omega) (by first | omega | (simp only [wpV_n]; omega)) (by first | omega | (simp only [wpV_n]; omega)), show (1000 : Int) / 10 = 100 from rfl, sX12_wn18 hT z0 z1 (by omega) (by omega) (by first | omega | (simp only [wpV_n]; omega)) (by first | omega | (simp only [wpV_n]; omega)), show (100 : Int) / 10 = 10 from rfl, sX12_wn18 hT z0 z1 (by omega) (by omega) (by first | omega | (simp only [wpV_n]; omega)) (by first | omega | (simp only [wpV_n]; omega)), show (10 : Int) / 10 = 1 from rfl, sX12_wn18 hT z0 z1 (by omega) (by omega) (by first | omega | (simp only [wpV_n]; omega)) (by first | omega | (simp only [wpV_n]; omega)), show (1 : Int) / 10 = 0 from rfl, sX12_wn0]
        unfold dg
        rw [if_pos g1, if_pos g2, if_pos g3]
        rfl
      · rw [if_neg g1, if_pos g2] at h1
        rw [if_pos (by omega), sX12_wn18 hT z0 z1 (by omega) (by omega) (by first | omega | (simp only [wpV_n]; omega)) (by first | omega | (simp only [wpV_n]; omega)), show (100 : Int) / 10 = 10 from rfl, sX12_wn18 hT z0 z1 (by omega) (by omega) (by first | omega | (simp only [wpV_n]; omega)) (by first | omega | (simp only [wpV_n]; omega)), show (10 : Int) / 10 = 1 from rfl, sX12_wn18 hT z0 z1 (by omega) (by omega) (by first | omega | (simp only [wpV_n]; omega)) (by first | omega | (simp only [wpV_n]; omega)), show (1 : Int) / 10 = 0 from rfl, sX12_wn0]
        unfold dg
        rw [if_neg g1, if_pos g2, if_pos g3]
        rfl
    · rw [if_neg (by omega), if_neg g2, if_pos g3] at h1
      rw [if_pos (by omega), sX12_wn18 hT z0 z1 (by omega) (by omega) (by first | omega | (simp only [wpV_n]; omega)) (by first | omega | (simp only [wpV_n]; omega)), show (10 : Int) / 10 = 1 from rfl, sX12_wn18 hT z0 z1 (by omega) (by omega) (by first | omega | (simp only [wpV_n]; omega)) (by first | omega | (simp only [wpV_n]; omega)), show (1 : Int) / 10 = 0 from rfl, sX12_wn0]
      unfold dg
      rw [if_neg (by omega), if_neg g2, if_pos g3]
      rfl
  · rw [if_pos (by omega), sX12_wn18 hT z0 z1 (by omega) (by omega) h0 (by split at h1 <;> omega), show (1 : Int) / 10 = 0 from rfl, sX12_wn0]
    unfold dg
    rw [if_neg (by omega), if_neg (by omega), if_neg g3]
    rfl
end WRC
