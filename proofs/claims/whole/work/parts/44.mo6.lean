-- uses 24.zar 25.obj 26.ops 30.rd 31.re 34.gen 38.mod 39.mo2 40.mo3 41.bit 42.mo4 43.mo5
/-! The reference: more that only asks. -/
section MO6
variable {d : Nat} {X : Nat × (Nat → Int32)} {v w : Nat → Int → Int} {T c s : Nat}
theorem mX12_sizes {i : Int} (hT : 18 ≤ T) (hg : gM v) (hi : isI i) : mR (jm_env (d + 6) 302 [.ref 411, .int (i3 i)] (qM X v w T c s)) X v T c s (cd1 (0 ≤ i ∧ i < v 412 0)) (fnd (fun k : Nat => aM v i k = 0) (fun k => (k : Int)) 10 0 10) := by
  obtain ⟨hi0, hi1⟩ := hi
  obtain ⟨hc0, hc1, he0, he1, -⟩ := id hg
  by_cases g : 0 ≤ i ∧ i < v 412 0
  · obtain ⟨g1, g2⟩ := id g
    have ho := hg.o g1 g2
    rw [cd1_0 g]
    apply mR_0
    have hl := ch_fp (p := fun k : Nat => aM v i k = 0) (fun (k : Nat) (p : Int × Int) => jm_R (jm_env (d + 5)) jmM_X12_sizes 17 [some (.ref 411), some (.int (i3 i)), some (.int (i3 k))] [] (qM X v (fw (up w 411 8 0) p) T c s)) (fun (k : Nat) p => some (.inl (some (.int (i3 (k)))), qM X v (fw (up w 411 8 0) p) T c s)) (fun p => some (.inl (some (.int (i3 (10)))), qM X v (fw (up w 411 8 0) p) T c s)) (fun (k : Nat) p => some (.inl (some (.int (i3 (k)))), qM X v (fw (up w 411 8 0) p) T c s)) 10 (fun k hk p => by
      rw [bX12_sizes_17]
      simp (disch := first | assumption | omega) only [eX12_sizes, bX12_sizes_0, bX12_sizes_13, bX12_sizes_15, bX12_sizes_26, bX12_sizes_32, p12_8, i3_add, i3_sub, i3_mul, i3_neg, i6_add, i6_sub, i6_mul, i6_neg, i3_lt, i3_le, i3_eq, i6_lt, i6_eq, i3_div, i6_div, i6_i3, i3_i6, c6_lt, c6_ge, c6_gt, c6_le, c6_eq, i3_ite, i6_ite, ib_0, ib_z, ite_not, i1_0, i0_0, jB_1, jB_0, jB_ib, bI_v, bL_v, bD_v, bV_v, ob_s, ob_i, i3_ofNat, jx_e, bI_e, bL_e, bD_e, bV_e, i3_eq0, i6_eq0, if_mx, if_mn, if_true, if_false, not_true_eq_false, not_false_eq_true, Int.reduceEq, Int.reduceLT, Int.reduceLE, sX12_isVoid, fw_fw]
      by_cases q : aM v i k = 0
      · rw [if_pos (Or.inr q)]
        simp only [if_pos q]
        exact ⟨_, rfl⟩
      · rw [if_neg (by omega)]
        simp only [if_neg q]
        exact ⟨_, rfl⟩) (fun p => by
      rw [bX12_sizes_17]
      simp (disch := first | assumption | omega) only [eX12_sizes, bX12_sizes_0, bX12_sizes_13, bX12_sizes_15, bX12_sizes_26, bX12_sizes_32, p12_8, i3_add, i3_sub, i3_mul, i3_neg, i6_add, i6_sub, i6_mul, i6_neg, i3_lt, i3_le, i3_eq, i6_lt, i6_eq, i3_div, i6_div, i6_i3, i3_i6, c6_lt, c6_ge, c6_gt, c6_le, c6_eq, i3_ite, i6_ite, ib_0, ib_z, ite_not, i1_0, i0_0, jB_1, jB_0, jB_ib, bI_v, bL_v, bD_v, bV_v, ob_s, ob_i, i3_ofNat, jx_e, bI_e, bL_e, bD_e, bV_e, i3_eq0, i6_eq0, if_mx, if_mn, if_true, if_false, not_true_eq_false, not_false_eq_true, Int.reduceEq, Int.reduceLT, Int.reduceLE, sX12_isVoid, fw_fw]
      rw [if_pos (by omega)]
      exact ⟨_, rfl⟩)
    have e0 : fw (up w 411 8 0) (w 411 9, w 411 10) = up w 411 8 0 := by
      have h := fw_id (w := up w 411 8 0)
      rw [up_ne (by omega), up_ne (by omega)] at h
      exact h
    obtain ⟨y, hy⟩ := hl (w 411 9, w 411 10)
    rw [fnd_map (fun z : Int => (some (.inl (some (.int (i3 (z)))), qM X v (fw (up w 411 8 0) y) T c s) : Option jm_Res)), e0] at hy
    simp (disch := first | assumption | omega) only [eX12_sizes, bX12_sizes_0, bX12_sizes_13, bX12_sizes_15, bX12_sizes_26, bX12_sizes_32, p12_8, i3_add, i3_sub, i3_mul, i3_neg, i6_add, i6_sub, i6_mul, i6_neg, i3_lt, i3_le, i3_eq, i6_lt, i6_eq, i3_div, i6_div, i6_i3, i3_i6, c6_lt, c6_ge, c6_gt, c6_le, c6_eq, i3_ite, i6_ite, ib_0, ib_z, ite_not, i1_0, i0_0, jB_1, jB_0, jB_ib, bI_v, bL_v, bD_v, bV_v, ob_s, ob_i, i3_ofNat, jx_e, bI_e, bL_e, bD_e, bV_e, i3_eq0, i6_eq0, if_mx, if_mn, if_true, if_false, not_true_eq_false, not_false_eq_true, Int.reduceEq, Int.reduceLT, Int.reduceLE, sX12_noSeries_0]
    exact ⟨_, hy, by rw [fw_ne (by omega), up_eq]⟩
  · rw [cd1_1 g]
    apply mR_1 (by decide)
    have g' : i < 0 ∨ v 412 0 ≤ i := by omega
    simp (disch := first | assumption | omega) only [eX12_sizes, bX12_sizes_0, bX12_sizes_13, bX12_sizes_15, bX12_sizes_26, bX12_sizes_32, p12_8, i3_add, i3_sub, i3_mul, i3_neg, i6_add, i6_sub, i6_mul, i6_neg, i3_lt, i3_le, i3_eq, i6_lt, i6_eq, i3_div, i6_div, i6_i3, i3_i6, c6_lt, c6_ge, c6_gt, c6_le, c6_eq, i3_ite, i6_ite, ib_0, ib_z, ite_not, i1_0, i0_0, jB_1, jB_0, jB_ib, bI_v, bL_v, bD_v, bV_v, ob_s, ob_i, i3_ofNat, jx_e, bI_e, bL_e, bD_e, bV_e, i3_eq0, i6_eq0, if_mx, if_mn, if_true, if_false, not_true_eq_false, not_false_eq_true, Int.reduceEq, Int.reduceLT, Int.reduceLE, sX12_noSeries_1]
    exact ⟨_, _, rfl, up_eq⟩
theorem sX12_longer (hT : 18 ≤ T) {p : Int × Int} (hp : 0 ≤ p.1 ∧ p.1 ≤ 2000 ∧ 0 ≤ p.2 ∧ p.2 ≤ 2000) : jm_env (d + 2) 303 [.ref 411] (qM X v (fw w p) T c s) = some (.inl (some (.long (i6 (max p.1 p.2)))), qM X v (fw w p) T c s) := by
  simp (disch := first | assumption | omega) only [eX12_longer, bX12_longer_0, g12_9, g12_10, i3_add, i3_sub, i3_mul, i3_neg, i6_add, i6_sub, i6_mul, i6_neg, i3_lt, i3_le, i3_eq, i6_lt, i6_eq, i3_div, i6_div, i6_i3, i3_i6, c6_lt, c6_ge, c6_gt, c6_le, c6_eq, i3_ite, i6_ite, ib_0, ib_z, ite_not, i1_0, i0_0, jB_1, jB_0, jB_ib, bI_v, bL_v, bD_v, bV_v, ob_s, ob_i, i3_ofNat, jx_e, bI_e, bL_e, bD_e, bV_e, i3_eq0, i6_eq0, if_mx, if_mn, if_true, if_false, not_true_eq_false, not_false_eq_true, Int.reduceEq, Int.reduceLT, Int.reduceLE, sX12_greater, fw_9, fw_10]
theorem sX12_shorter (hT : 18 ≤ T) {p : Int × Int} (hp : 0 ≤ p.1 ∧ p.1 ≤ 2000 ∧ 0 ≤ p.2 ∧ p.2 ≤ 2000) : jm_env (d + 2) 304 [.ref 411] (qM X v (fw w p) T c s) = some (.inl (some (.long (i6 (min p.1 p.2)))), qM X v (fw w p) T c s) := by
  simp (disch := first | assumption | omega) only [eX12_shorter, bX12_shorter_0, g12_9, g12_10, i3_add, i3_sub, i3_mul, i3_neg, i6_add, i6_sub, i6_mul, i6_neg, i3_lt, i3_le, i3_eq, i6_lt, i6_eq, i3_div, i6_div, i6_i3, i3_i6, c6_lt, c6_ge, c6_gt, c6_le, c6_eq, i3_ite, i6_ite, ib_0, ib_z, ite_not, i1_0, i0_0, jB_1, jB_0, jB_ib, bI_v, bL_v, bD_v, bV_v, ob_s, ob_i, i3_ofNat, jx_e, bI_e, bL_e, bD_e, bV_e, i3_eq0, i6_eq0, if_mx, if_mn, if_true, if_false, not_true_eq_false, not_false_eq_true, Int.reduceEq, Int.reduceLT, Int.reduceLE, sX12_lesser, fw_9, fw_10]
def alP (p q : Int × Int) : Prop := 0 < min p.1 p.2 ∧ 0 < min q.1 q.2 ∧ max p.1 p.2 * min q.1 q.2 = min p.1 p.2 * max q.1 q.2
def alI (p q : Int × Int) : Int := if 0 < min p.1 p.2 then (if 0 < min q.1 q.2 then (if max p.1 p.2 * min q.1 q.2 = min p.1 p.2 * max q.1 q.2 then 1 else 0) else 0) else 0
theorem mX12_isAlike {i n j m : Int} (hT : 18 ≤ T) (hg : gM v) (hi : isI i) (hn : isI n) (hj : isI j) (hm : isI m) : mR (jm_env (d + 5) 305 [.ref 411, .int (i3 i), .int (i3 n), .int (i3 j), .int (i3 m)] (qM X v w T c s)) X v T c s (cd1 (((0 ≤ i ∧ i < v 412 0) ∧ 0 ≤ n ∧ n < 10) ∧ ((0 ≤ j ∧ j < v 412 0) ∧ 0 ≤ m ∧ m < 10))) (alI (szM v i n) (szM v j m)) := by
  obtain ⟨hi0, hi1⟩ := hi
  obtain ⟨hj0, hj1⟩ := hj
  obtain ⟨hn0, hn1⟩ := hn
  obtain ⟨hm0, hm1⟩ := hm
  obtain ⟨hc0, hc1, he0, he1, -⟩ := id hg
  by_cases g : (0 ≤ i ∧ i < v 412 0) ∧ 0 ≤ n ∧ n < 10
  · obtain ⟨⟨g1, g2⟩, g3, g4⟩ := id g
    by_cases k : (0 ≤ j ∧ j < v 412 0) ∧ 0 ≤ m ∧ m < 10
    · obtain ⟨⟨k1, k2⟩, k3, k4⟩ := id k
      have ho := hg.o g1 g2
      have ho2 := hg.o k1 k2
      have b1 := szM_b ho n
      have b2 := szM_b ho2 m
      have b3 := mul_b (x := max (szM v i n).1 (szM v i n).2) (y := min (szM v j m).1 (szM v j m).2) (by omega) (by omega) (by omega) (by omega)
      have b4 := mul_b (x := min (szM v i n).1 (szM v i n).2) (y := max (szM v j m).1 (szM v j m).2) (by omega) (by omega) (by omega) (by omega)
      rw [cd1_0 ⟨g, k⟩]
      apply mR_0
      simp (disch := first | assumption | omega) only [eX12_isAlike, bX12_isAlike_0, bX12_isAlike_14, bX12_isAlike_24, bX12_isAlike_26, bX12_isAlike_58, bX12_isAlike_67, bX12_isAlike_85, bX12_isAlike_89, bX12_isAlike_90, p12_8, i3_add, i3_sub, i3_mul, i3_neg, i6_add, i6_sub, i6_mul, i6_neg, i3_lt, i3_le, i3_eq, i6_lt, i6_eq, i3_div, i6_div, i6_i3, i3_i6, c6_lt, c6_ge, c6_gt, c6_le, c6_eq, i3_ite, i6_ite, ib_0, ib_z, ite_not, i1_0, i0_0, jB_1, jB_0, jB_ib, bI_v, bL_v, bD_v, bV_v, ob_s, ob_i, i3_ofNat, jx_e, bI_e, bL_e, bD_e, bV_e, i3_eq0, i6_eq0, if_mx, if_mn, if_true, if_false, not_true_eq_false, not_false_eq_true, Int.reduceEq, Int.reduceLT, Int.reduceLE, sX12_noSize_0, sX12_finds, sX12_longer, sX12_shorter, fw_fw]
      refine ⟨fw (up w 411 8 0) (szM v j m), ?_, by rw [fw_ne (by omega), up_eq]⟩
      unfold alI
      (repeat' split) <;> first | rfl | (exfalso; omega)
    · rw [cd1_1 (fun q => k q.2)]
      apply mR_1 (by decide)
      simp (disch := first | assumption | omega) only [eX12_isAlike, bX12_isAlike_0, bX12_isAlike_14, bX12_isAlike_24, bX12_isAlike_26, bX12_isAlike_58, bX12_isAlike_67, bX12_isAlike_85, bX12_isAlike_89, bX12_isAlike_90, p12_8, i3_add, i3_sub, i3_mul, i3_neg, i6_add, i6_sub, i6_mul, i6_neg, i3_lt, i3_le, i3_eq, i6_lt, i6_eq, i3_div, i6_div, i6_i3, i3_i6, c6_lt, c6_ge, c6_gt, c6_le, c6_eq, i3_ite, i6_ite, ib_0, ib_z, ite_not, i1_0, i0_0, jB_1, jB_0, jB_ib, bI_v, bL_v, bD_v, bV_v, ob_s, ob_i, i3_ofNat, jx_e, bI_e, bL_e, bD_e, bV_e, i3_eq0, i6_eq0, if_mx, if_mn, if_true, if_false, not_true_eq_false, not_false_eq_true, Int.reduceEq, Int.reduceLT, Int.reduceLE, sX12_noSize_0, sX12_noSize_1]
      exact ⟨_, _, rfl, up_eq⟩
  · rw [cd1_1 (fun q => g q.1)]
    apply mR_1 (by decide)
    simp (disch := first | assumption | omega) only [eX12_isAlike, bX12_isAlike_0, bX12_isAlike_14, bX12_isAlike_24, bX12_isAlike_26, bX12_isAlike_58, bX12_isAlike_67, bX12_isAlike_85, bX12_isAlike_89, bX12_isAlike_90, p12_8, i3_add, i3_sub, i3_mul, i3_neg, i6_add, i6_sub, i6_mul, i6_neg, i3_lt, i3_le, i3_eq, i6_lt, i6_eq, i3_div, i6_div, i6_i3, i3_i6, c6_lt, c6_ge, c6_gt, c6_le, c6_eq, i3_ite, i6_ite, ib_0, ib_z, ite_not, i1_0, i0_0, jB_1, jB_0, jB_ib, bI_v, bL_v, bD_v, bV_v, ob_s, ob_i, i3_ofNat, jx_e, bI_e, bL_e, bD_e, bV_e, i3_eq0, i6_eq0, if_mx, if_mn, if_true, if_false, not_true_eq_false, not_false_eq_true, Int.reduceEq, Int.reduceLT, Int.reduceLE, sX12_noSize_1]
    exact ⟨_, _, rfl, up_eq⟩
def sdP (a b : Int) : Prop := (1 ≤ a ∧ a ≤ 2000) ∧ 1 ≤ b ∧ b ≤ 2000
theorem mX12_ordered {a b : Int} (hT : 18 ≤ T) (hp : prOk v) (ha : isI a) (hb : isI b) : mR (jm_env (d + 3) 307 [.ref 411, .int (i3 a), .int (i3 b)] (qM X v w T c s)) X v T c s (cd1 ((1 ≤ a ∧ a ≤ 2000) ∧ 1 ≤ b ∧ b ≤ 2000)) (if prF v a b = -1 then 0 else v 412 (77 + 3 * prF v a b + 2)) := by
  obtain ⟨ha0, ha1⟩ := ha
  obtain ⟨hb0, hb1⟩ := hb
  obtain ⟨hq0, hq1, -⟩ := id hp
  by_cases g : (1 ≤ a ∧ a ≤ 2000) ∧ 1 ≤ b ∧ b ≤ 2000
  · obtain ⟨⟨g1, g2⟩, g3, g4⟩ := id g
    have hf : prF v a b = -1 ∨ (0 ≤ prF v a b ∧ prF v a b < v 412 3) := fnd_P (P := fun z => z = -1 ∨ (0 ≤ z ∧ z < v 412 3)) _ 0 (Or.inl rfl) (fun j h1 h2 _ => Or.inr (by omega))
    rw [cd1_0 g]
    apply mR_0
    simp (disch := first | assumption | omega) only [eX12_ordered, bX12_ordered_0, bX12_ordered_15, bX12_ordered_17, bX12_ordered_29, bX12_ordered_33, bX12_ordered_47, p12_8, r12_0, a12_0, w12_0, n12_0, i3_add, i3_sub, i3_mul, i3_neg, i6_add, i6_sub, i6_mul, i6_neg, i3_lt, i3_le, i3_eq, i6_lt, i6_eq, i3_div, i6_div, i6_i3, i3_i6, c6_lt, c6_ge, c6_gt, c6_le, c6_eq, i3_ite, i6_ite, ib_0, ib_z, ite_not, i1_0, i0_0, jB_1, jB_0, jB_ib, bI_v, bL_v, bD_v, bV_v, ob_s, ob_i, i3_ofNat, jx_e, bI_e, bL_e, bD_e, bV_e, i3_eq0, i6_eq0, if_mx, if_mn, if_true, if_false, not_true_eq_false, not_false_eq_true, Int.reduceEq, Int.reduceLT, Int.reduceLE, sX12_noSides_0, sX12_printOf]
    rcases hf with hf | hf
    · rw [if_pos hf, if_pos hf]
      exact ⟨_, rfl, up_eq⟩
    · rw [if_neg (by omega), if_neg (by omega)]
      exact ⟨_, rfl, up_eq⟩
  · rw [cd1_1 g]
    apply mR_1 (by decide)
    simp (disch := first | assumption | omega) only [eX12_ordered, bX12_ordered_0, bX12_ordered_15, bX12_ordered_17, bX12_ordered_29, bX12_ordered_33, bX12_ordered_47, p12_8, r12_0, a12_0, w12_0, n12_0, i3_add, i3_sub, i3_mul, i3_neg, i6_add, i6_sub, i6_mul, i6_neg, i3_lt, i3_le, i3_eq, i6_lt, i6_eq, i3_div, i6_div, i6_i3, i3_i6, c6_lt, c6_ge, c6_gt, c6_le, c6_eq, i3_ite, i6_ite, ib_0, ib_z, ite_not, i1_0, i0_0, jB_1, jB_0, jB_ib, bI_v, bL_v, bD_v, bV_v, ob_s, ob_i, i3_ofNat, jx_e, bI_e, bL_e, bD_e, bV_e, i3_eq0, i6_eq0, if_mx, if_mn, if_true, if_false, not_true_eq_false, not_false_eq_true, Int.reduceEq, Int.reduceLT, Int.reduceLE, sX12_noSides_1]
    exact ⟨_, _, rfl, up_eq⟩
theorem mX12_print {a q : Int} (hT : 18 ≤ T) (hp : prOk v) (ha : isI a) (hq : isI q) : mR (jm_env (d + 3) 308 [.ref 411, .int (i3 a), .int (i3 q)] (qM X v w T c s)) X v T c s (cd1 (0 ≤ q ∧ q ≤ 2)) (if 0 ≤ a ∧ a < v 412 3 then v 412 (77 + 3 * a + q) else -1) := by
  obtain ⟨ha0, ha1⟩ := ha
  obtain ⟨hb0, hb1⟩ := hq
  obtain ⟨hq0, hq1, -⟩ := id hp
  by_cases g : 0 ≤ q ∧ q ≤ 2
  · rw [cd1_0 g]
    apply mR_0
    simp (disch := first | assumption | omega) only [eX12_print, bX12_print_0, bX12_print_18, bX12_print_22, bX12_print_23, bX12_print_30, bX12_print_32, bX12_print_49, bX12_print_66, bX12_print_67, p12_8, r12_0, a12_0, w12_0, n12_0, i3_add, i3_sub, i3_mul, i3_neg, i6_add, i6_sub, i6_mul, i6_neg, i3_lt, i3_le, i3_eq, i6_lt, i6_eq, i3_div, i6_div, i6_i3, i3_i6, c6_lt, c6_ge, c6_gt, c6_le, c6_eq, i3_ite, i6_ite, ib_0, ib_z, ite_not, i1_0, i0_0, jB_1, jB_0, jB_ib, bI_v, bL_v, bD_v, bV_v, ob_s, ob_i, i3_ofNat, jx_e, bI_e, bL_e, bD_e, bV_e, i3_eq0, i6_eq0, if_mx, if_mn, if_true, if_false, not_true_eq_false, not_false_eq_true, Int.reduceEq, Int.reduceLT, Int.reduceLE, sX12_in, sX12_stops_0]
    rw [if_pos g]
    by_cases k : 0 ≤ a ∧ a < v 412 3
    · rw [if_pos (by omega), if_pos k]
      exact ⟨_, rfl, up_eq⟩
    · rw [if_neg (by omega), if_neg k]
      exact ⟨_, rfl, up_eq⟩
  · rw [cd1_1 g]
    apply mR_1 (by decide)
    simp (disch := first | assumption | omega) only [eX12_print, bX12_print_0, bX12_print_18, bX12_print_22, bX12_print_23, bX12_print_30, bX12_print_32, bX12_print_49, bX12_print_66, bX12_print_67, p12_8, r12_0, a12_0, w12_0, n12_0, i3_add, i3_sub, i3_mul, i3_neg, i6_add, i6_sub, i6_mul, i6_neg, i3_lt, i3_le, i3_eq, i6_lt, i6_eq, i3_div, i6_div, i6_i3, i3_i6, c6_lt, c6_ge, c6_gt, c6_le, c6_eq, i3_ite, i6_ite, ib_0, ib_z, ite_not, i1_0, i0_0, jB_1, jB_0, jB_ib, bI_v, bL_v, bD_v, bV_v, ob_s, ob_i, i3_ofNat, jx_e, bI_e, bL_e, bD_e, bV_e, i3_eq0, i6_eq0, if_mx, if_mn, if_true, if_false, not_true_eq_false, not_false_eq_true, Int.reduceEq, Int.reduceLT, Int.reduceLE, sX12_in, sX12_stops_1]
    rw [if_neg g]
    exact ⟨_, _, rfl, up_eq⟩
def acOk (v : Nat → Int → Int) (B : Int) : Prop := ∀ k : Int, 0 ≤ k → k < 8 → 0 ≤ v 412 (4 + k) ∧ v 412 (4 + k) ≤ B
theorem mX12_account {q B : Int} (hT : 18 ≤ T) (ha : acOk v B) (hB : B ≤ 1000000000000000000) (hq : isI q) : mR (jm_env (d + 3) 309 [.ref 411, .int (i3 q)] (qM X v w T c s)) X v T c s (cd1 (0 ≤ q ∧ q < 8)) (min 2147483647 (v 412 (4 + q))) := by
  obtain ⟨hb0, hb1⟩ := hq
  by_cases g : 0 ≤ q ∧ q < 8
  · have hb := ha q g.1 g.2
    rw [cd1_0 g]
    apply mR_0
    simp (disch := first | assumption | omega) only [eX12_account, bX12_account_0, bX12_account_18, bX12_account_22, bX12_account_23, bX12_account_30, bX12_account_34, bX12_account_49, p12_8, r12_0, a12_0, w12_0, n12_0, i3_add, i3_sub, i3_mul, i3_neg, i6_add, i6_sub, i6_mul, i6_neg, i3_lt, i3_le, i3_eq, i6_lt, i6_eq, i3_div, i6_div, i6_i3, i3_i6, c6_lt, c6_ge, c6_gt, c6_le, c6_eq, i3_ite, i6_ite, ib_0, ib_z, ite_not, i1_0, i0_0, jB_1, jB_0, jB_ib, bI_v, bL_v, bD_v, bV_v, ob_s, ob_i, i3_ofNat, jx_e, bI_e, bL_e, bD_e, bV_e, i3_eq0, i6_eq0, if_mx, if_mn, if_true, if_false, not_true_eq_false, not_false_eq_true, Int.reduceEq, Int.reduceLT, Int.reduceLE, sX12_in, sX12_stops_0, sX12_lesser]
    rw [if_pos (by omega)]
    exact ⟨_, rfl, up_eq⟩
  · rw [cd1_1 g]
    apply mR_1 (by decide)
    simp (disch := first | assumption | omega) only [eX12_account, bX12_account_0, bX12_account_18, bX12_account_22, bX12_account_23, bX12_account_30, bX12_account_34, bX12_account_49, p12_8, r12_0, a12_0, w12_0, n12_0, i3_add, i3_sub, i3_mul, i3_neg, i6_add, i6_sub, i6_mul, i6_neg, i3_lt, i3_le, i3_eq, i6_lt, i6_eq, i3_div, i6_div, i6_i3, i3_i6, c6_lt, c6_ge, c6_gt, c6_le, c6_eq, i3_ite, i6_ite, ib_0, ib_z, ite_not, i1_0, i0_0, jB_1, jB_0, jB_ib, bI_v, bL_v, bD_v, bV_v, ob_s, ob_i, i3_ofNat, jx_e, bI_e, bL_e, bD_e, bV_e, i3_eq0, i6_eq0, if_mx, if_mn, if_true, if_false, not_true_eq_false, not_false_eq_true, Int.reduceEq, Int.reduceLT, Int.reduceLE, sX12_in, sX12_stops_1]
    rw [if_neg (by omega)]
    exact ⟨_, _, rfl, up_eq⟩
theorem mX12_refused {q : Int} (hT : 18 ≤ T) (hq : isI q) : mR (jm_env (d + 3) 310 [.ref 411, .int (i3 q)] (qM X v w T c s)) X v T c s (cd1 (-7 ≤ q ∧ q ≤ -2)) (v 418 (q + 7)) := by
  obtain ⟨hb0, hb1⟩ := hq
  by_cases g : -7 ≤ q ∧ q ≤ -2
  · rw [cd1_0 g]
    apply mR_0
    simp (disch := first | assumption | omega) only [eX12_refused, bX12_refused_0, bX12_refused_20, bX12_refused_24, bX12_refused_25, bX12_refused_32, bX12_refused_36, bX12_refused_45, p12_8, r12_6, a12_6, w12_6, n12_6, i3_add, i3_sub, i3_mul, i3_neg, i6_add, i6_sub, i6_mul, i6_neg, i3_lt, i3_le, i3_eq, i6_lt, i6_eq, i3_div, i6_div, i6_i3, i3_i6, c6_lt, c6_ge, c6_gt, c6_le, c6_eq, i3_ite, i6_ite, ib_0, ib_z, ite_not, i1_0, i0_0, jB_1, jB_0, jB_ib, bI_v, bL_v, bD_v, bV_v, ob_s, ob_i, i3_ofNat, jx_e, bI_e, bL_e, bD_e, bV_e, i3_eq0, i6_eq0, if_mx, if_mn, if_true, if_false, not_true_eq_false, not_false_eq_true, Int.reduceEq, Int.reduceLT, Int.reduceLE, sX12_in, sX12_stops_0]
    rw [if_pos (by omega)]
    exact ⟨_, rfl, up_eq⟩
  · rw [cd1_1 g]
    apply mR_1 (by decide)
    simp (disch := first | assumption | omega) only [eX12_refused, bX12_refused_0, bX12_refused_20, bX12_refused_24, bX12_refused_25, bX12_refused_32, bX12_refused_36, bX12_refused_45, p12_8, r12_6, a12_6, w12_6, n12_6, i3_add, i3_sub, i3_mul, i3_neg, i6_add, i6_sub, i6_mul, i6_neg, i3_lt, i3_le, i3_eq, i6_lt, i6_eq, i3_div, i6_div, i6_i3, i3_i6, c6_lt, c6_ge, c6_gt, c6_le, c6_eq, i3_ite, i6_ite, ib_0, ib_z, ite_not, i1_0, i0_0, jB_1, jB_0, jB_ib, bI_v, bL_v, bD_v, bV_v, ob_s, ob_i, i3_ofNat, jx_e, bI_e, bL_e, bD_e, bV_e, i3_eq0, i6_eq0, if_mx, if_mn, if_true, if_false, not_true_eq_false, not_false_eq_true, Int.reduceEq, Int.reduceLT, Int.reduceLE, sX12_in, sX12_stops_1]
    rw [if_neg g]
    exact ⟨_, _, rfl, up_eq⟩
def gapA (v : Nat → Int → Int) : Int := v 412 4 - v 412 5 - v 412 6 - v 412 7 - fo2 (areaG v) 0 (v 412 0).toNat
theorem areaG_b (hg : gM v) (m : Nat) (hm : (m : Int) ≤ v 412 0) : 0 ≤ fo2 (areaG v) 0 m ∧ fo2 (areaG v) 0 m ≤ 2000000000000 := by
  obtain ⟨hc0, hc1, -⟩ := id hg
  have h := fo_P (g := fun a k => fo (fun a n => areaG v a k n) a 10) (a := 0) (P := fun k x => 0 ≤ x ∧ x ≤ 400000000000 * (k : Int)) (by omega) m (fun k x hk hx => by
    have h2 := fo_P (g := fun a n => areaG v a k n) (a := x) (P := fun n y => 0 ≤ y ∧ y ≤ 400000000000 * (k : Int) + 40000000000 * (n : Int)) (by omega) 10 (fun n y hn hy => by
      have h3 := (hg.2.2.2.2 k (by omega) (by omega)).2 n (by omega) (by omega)
      have h4 := aM_b (hg.o (i := k) (by omega) (by omega)) n
      have h5 := Int.mul_nonneg h3.1 h4.1
      have h6 : kM v k n * aM v k n ≤ 10000 * 4000000 := Int.mul_le_mul (by omega) h4.2 h4.1 (by omega)
      unfold areaG
      omega)
    omega)
  unfold fo2
  omega
theorem mX12_gap {B : Int} (hT : 18 ≤ T) (hg : gM v) (ha : acOk v B) (hB : B ≤ 1000000000000000000) : ∃ w', jm_env (d + 5) 311 [.ref 411] (qM X v w T c s) = some (.inl (some (.long (i6 (if gapA v < 0 then -gapA v else gapA v)))), qM X v w' T c s) := by
  have h0 : 0 ≤ v 412 4 ∧ v 412 4 ≤ B := ha 0 (by omega) (by omega)
  have h1 : 0 ≤ v 412 5 ∧ v 412 5 ≤ B := ha 1 (by omega) (by omega)
  have h2 : 0 ≤ v 412 6 ∧ v 412 6 ≤ B := ha 2 (by omega) (by omega)
  have h3 : 0 ≤ v 412 7 ∧ v 412 7 ≤ B := ha 3 (by omega) (by omega)
  have h4 := areaG_b hg (v 412 0).toNat (by have := hg.1; omega)
  simp (disch := first | assumption | omega) only [eX12_gap, bX12_gap_0, p12_8, r12_0, a12_0, w12_0, n12_0, i3_add, i3_sub, i3_mul, i3_neg, i6_add, i6_sub, i6_mul, i6_neg, i3_lt, i3_le, i3_eq, i6_lt, i6_eq, i3_div, i6_div, i6_i3, i3_i6, c6_lt, c6_ge, c6_gt, c6_le, c6_eq, i3_ite, i6_ite, ib_0, ib_z, ite_not, i1_0, i0_0, jB_1, jB_0, jB_ib, bI_v, bL_v, bD_v, bV_v, ob_s, ob_i, i3_ofNat, jx_e, bI_e, bL_e, bD_e, bV_e, i3_eq0, i6_eq0, if_mx, if_mn, if_true, if_false, not_true_eq_false, not_false_eq_true, Int.reduceEq, Int.reduceLT, Int.reduceLE, sX12_areaOfAll, sX12_bare]
  exact ⟨_, rfl⟩
theorem mX12_mostFolds {i n : Int} (hT : 18 ≤ T) (hg : gM v) (hi : isI i) (hn : isI n) : mR (jm_env (d + 6) 314 [.ref 411, .int (i3 i), .int (i3 n)] (qM X v w T c s)) X v T c s (cd1 ((0 ≤ i ∧ i < v 412 0) ∧ 0 ≤ n ∧ n < 10)) (fdM v i n) := by
  obtain ⟨hi0, hi1⟩ := hi
  obtain ⟨hn0, hn1⟩ := hn
  obtain ⟨hc0, hc1, he0, he1, -⟩ := id hg
  by_cases g : (0 ≤ i ∧ i < v 412 0) ∧ 0 ≤ n ∧ n < 10
  · obtain ⟨⟨g1, g2⟩, g3, g4⟩ := id g
    have ho := hg.o g1 g2
    rw [cd1_0 g]
    apply mR_0
    simp (disch := first | assumption | omega) only [eX12_mostFolds, bX12_mostFolds_0, bX12_mostFolds_14, bX12_mostFolds_18, bX12_mostFolds_24, p12_8, i3_add, i3_sub, i3_mul, i3_neg, i6_add, i6_sub, i6_mul, i6_neg, i3_lt, i3_le, i3_eq, i6_lt, i6_eq, i3_div, i6_div, i6_i3, i3_i6, c6_lt, c6_ge, c6_gt, c6_le, c6_eq, i3_ite, i6_ite, ib_0, ib_z, ite_not, i1_0, i0_0, jB_1, jB_0, jB_ib, bI_v, bL_v, bD_v, bV_v, ob_s, ob_i, i3_ofNat, jx_e, bI_e, bL_e, bD_e, bV_e, i3_eq0, i6_eq0, if_mx, if_mn, if_true, if_false, not_true_eq_false, not_false_eq_true, Int.reduceEq, Int.reduceLT, Int.reduceLE, sX12_noSize_0, sX12_foldsOf]
    exact ⟨_, rfl, by rw [fw_ne (by omega), up_eq]⟩
  · rw [cd1_1 g]
    apply mR_1 (by decide)
    simp (disch := first | assumption | omega) only [eX12_mostFolds, bX12_mostFolds_0, bX12_mostFolds_14, bX12_mostFolds_18, bX12_mostFolds_24, p12_8, i3_add, i3_sub, i3_mul, i3_neg, i6_add, i6_sub, i6_mul, i6_neg, i3_lt, i3_le, i3_eq, i6_lt, i6_eq, i3_div, i6_div, i6_i3, i3_i6, c6_lt, c6_ge, c6_gt, c6_le, c6_eq, i3_ite, i6_ite, ib_0, ib_z, ite_not, i1_0, i0_0, jB_1, jB_0, jB_ib, bI_v, bL_v, bD_v, bV_v, ob_s, ob_i, i3_ofNat, jx_e, bI_e, bL_e, bD_e, bV_e, i3_eq0, i6_eq0, if_mx, if_mn, if_true, if_false, not_true_eq_false, not_false_eq_true, Int.reduceEq, Int.reduceLT, Int.reduceLE, sX12_noSize_1]
    exact ⟨_, _, rfl, up_eq⟩
theorem mX12_fitting {a b : Int} (hT : 18 ≤ T) (hg : gM v) (ha : isI a) (hb : isI b) : mR (jm_env (d + 5) 326 [.ref 411, .int (i3 a), .int (i3 b)] (qM X v w T c s)) X v T c s (cd1 ((1 ≤ a ∧ a ≤ 2000) ∧ 1 ≤ b ∧ b ≤ 2000)) (fo2 (fitG v a b) 0 (v 412 0).toNat) := by
  obtain ⟨ha0, ha1⟩ := ha
  obtain ⟨hb0, hb1⟩ := hb
  by_cases g : (1 ≤ a ∧ a ≤ 2000) ∧ 1 ≤ b ∧ b ≤ 2000
  · obtain ⟨⟨g1, g2⟩, g3, g4⟩ := id g
    rw [cd1_0 g]
    apply mR_0
    simp (disch := first | assumption | omega) only [eX12_fitting, bX12_fitting_0, bX12_fitting_15, bX12_fitting_19, bX12_fitting_25, p12_8, i3_add, i3_sub, i3_mul, i3_neg, i6_add, i6_sub, i6_mul, i6_neg, i3_lt, i3_le, i3_eq, i6_lt, i6_eq, i3_div, i6_div, i6_i3, i3_i6, c6_lt, c6_ge, c6_gt, c6_le, c6_eq, i3_ite, i6_ite, ib_0, ib_z, ite_not, i1_0, i0_0, jB_1, jB_0, jB_ib, bI_v, bL_v, bD_v, bV_v, ob_s, ob_i, i3_ofNat, jx_e, bI_e, bL_e, bD_e, bV_e, i3_eq0, i6_eq0, if_mx, if_mn, if_true, if_false, not_true_eq_false, not_false_eq_true, Int.reduceEq, Int.reduceLT, Int.reduceLE, sX12_noSides_0, sX12_fittingOf]
    exact ⟨_, rfl, by rw [fw_ne (by omega), up_eq]⟩
  · rw [cd1_1 g]
    apply mR_1 (by decide)
    simp (disch := first | assumption | omega) only [eX12_fitting, bX12_fitting_0, bX12_fitting_15, bX12_fitting_19, bX12_fitting_25, p12_8, i3_add, i3_sub, i3_mul, i3_neg, i6_add, i6_sub, i6_mul, i6_neg, i3_lt, i3_le, i3_eq, i6_lt, i6_eq, i3_div, i6_div, i6_i3, i3_i6, c6_lt, c6_ge, c6_gt, c6_le, c6_eq, i3_ite, i6_ite, ib_0, ib_z, ite_not, i1_0, i0_0, jB_1, jB_0, jB_ib, bI_v, bL_v, bD_v, bV_v, ob_s, ob_i, i3_ofNat, jx_e, bI_e, bL_e, bD_e, bV_e, i3_eq0, i6_eq0, if_mx, if_mn, if_true, if_false, not_true_eq_false, not_false_eq_true, Int.reduceEq, Int.reduceLT, Int.reduceLE, sX12_noSides_1]
    exact ⟨_, _, rfl, up_eq⟩
theorem mX12_mostOf {a b : Int} (hT : 18 ≤ T) (hg : gM v) (ha : isI a) (hb : isI b) : mR (jm_env (d + 7) 332 [.ref 411, .int (i3 a), .int (i3 b)] (qM X v w T c s)) X v T c s (cd1 ((1 ≤ a ∧ a ≤ 2000) ∧ 1 ≤ b ∧ b ≤ 2000)) (min 999 (fo2 (mosG v a b) 0 (v 412 0).toNat)) := by
  obtain ⟨ha0, ha1⟩ := ha
  obtain ⟨hb0, hb1⟩ := hb
  have hm := mosG_b (pw := a) (ph := b) hg (v 412 0).toNat (by have := hg.1; omega)
  by_cases g : (1 ≤ a ∧ a ≤ 2000) ∧ 1 ≤ b ∧ b ≤ 2000
  · obtain ⟨⟨g1, g2⟩, g3, g4⟩ := id g
    rw [cd1_0 g]
    apply mR_0
    simp (disch := first | assumption | omega) only [eX12_mostOf, bX12_mostOf_0, bX12_mostOf_15, bX12_mostOf_19, bX12_mostOf_32, p12_8, i3_add, i3_sub, i3_mul, i3_neg, i6_add, i6_sub, i6_mul, i6_neg, i3_lt, i3_le, i3_eq, i6_lt, i6_eq, i3_div, i6_div, i6_i3, i3_i6, c6_lt, c6_ge, c6_gt, c6_le, c6_eq, i3_ite, i6_ite, ib_0, ib_z, ite_not, i1_0, i0_0, jB_1, jB_0, jB_ib, bI_v, bL_v, bD_v, bV_v, ob_s, ob_i, i3_ofNat, jx_e, bI_e, bL_e, bD_e, bV_e, i3_eq0, i6_eq0, if_mx, if_mn, if_true, if_false, not_true_eq_false, not_false_eq_true, Int.reduceEq, Int.reduceLT, Int.reduceLE, sX12_noSides_0, sX12_mostSupply, sX12_lesser]
    exact ⟨_, rfl, by rw [fw_ne (by omega), up_eq]⟩
  · rw [cd1_1 g]
    apply mR_1 (by decide)
    simp (disch := first | assumption | omega) only [eX12_mostOf, bX12_mostOf_0, bX12_mostOf_15, bX12_mostOf_19, bX12_mostOf_32, p12_8, i3_add, i3_sub, i3_mul, i3_neg, i6_add, i6_sub, i6_mul, i6_neg, i3_lt, i3_le, i3_eq, i6_lt, i6_eq, i3_div, i6_div, i6_i3, i3_i6, c6_lt, c6_ge, c6_gt, c6_le, c6_eq, i3_ite, i6_ite, ib_0, ib_z, ite_not, i1_0, i0_0, jB_1, jB_0, jB_ib, bI_v, bL_v, bD_v, bV_v, ob_s, ob_i, i3_ofNat, jx_e, bI_e, bL_e, bD_e, bV_e, i3_eq0, i6_eq0, if_mx, if_mn, if_true, if_false, not_true_eq_false, not_false_eq_true, Int.reduceEq, Int.reduceLT, Int.reduceLE, sX12_noSides_1]
    exact ⟨_, _, rfl, up_eq⟩
theorem mX12_cutsFor {i n q : Int} (hT : 18 ≤ T) (hg : gM v) (hi : isI i) (hn : isI n) (hq : isI q) : mR (jm_env (d + 6) 333 [.ref 411, .int (i3 i), .int (i3 n), .int (i3 q)] (qM X v w T c s)) X v T c s (cd2 ((0 ≤ i ∧ i < v 412 0) ∧ 0 ≤ n ∧ n < 10) (0 ≤ q ∧ q ≤ 9999)) (if supM v i (n.toNat + 1) < q then -1 else cuS (kM v i) q n.toNat n.toNat) := by
  obtain ⟨hq0, hq1⟩ := hq
  obtain ⟨hi0, hi1⟩ := hi
  obtain ⟨hn0, hn1⟩ := hn
  obtain ⟨hc0, hc1, he0, he1, -⟩ := id hg
  by_cases g : (0 ≤ i ∧ i < v 412 0) ∧ 0 ≤ n ∧ n < 10
  · obtain ⟨⟨g1, g2⟩, g3, g4⟩ := id g
    by_cases g' : 0 ≤ q ∧ q ≤ 9999
    · obtain ⟨g5, g6⟩ := id g'
      have ho := hg.o g1 g2
      have hk := hg.k g1 g2
      have hu := hg.s g1 g2 (n := n.toNat + 1) (by omega)
      obtain ⟨n', rfl⟩ : ∃ n' : Nat, n = n' := ⟨n.toNat, (Int.toNat_of_nonneg g3).symm⟩
      have e : ((n' : Int)).toNat = n' := Int.toNat_natCast n'
      rw [e] at hu ⊢
      rw [cd2_0 g g']
      apply mR_0
      simp (disch := first | assumption | omega) only [eX12_cutsFor, bX12_cutsFor_0, bX12_cutsFor_14, bX12_cutsFor_27, bX12_cutsFor_31, bX12_cutsFor_32, bX12_cutsFor_39, bX12_cutsFor_41, bX12_cutsFor_53, bX12_cutsFor_57, bX12_cutsFor_66, p12_8, i3_add, i3_sub, i3_mul, i3_neg, i6_add, i6_sub, i6_mul, i6_neg, i3_lt, i3_le, i3_eq, i6_lt, i6_eq, i3_div, i6_div, i6_i3, i3_i6, c6_lt, c6_ge, c6_gt, c6_le, c6_eq, i3_ite, i6_ite, ib_0, ib_z, ite_not, i1_0, i0_0, jB_1, jB_0, jB_ib, bI_v, bL_v, bD_v, bV_v, ob_s, ob_i, i3_ofNat, jx_e, bI_e, bL_e, bD_e, bV_e, i3_eq0, i6_eq0, if_mx, if_mn, if_true, if_false, not_true_eq_false, not_false_eq_true, Int.reduceEq, Int.reduceLT, Int.reduceLE, sX12_noSize_0, sX12_in, sX12_stops_0, sX12_supplyOf, sX12_cutsOf, and_self]
      by_cases g7 : supM v i (n' + 1) < q
      · rw [if_pos g', if_neg (by omega), if_pos g7]
        exact ⟨_, rfl, by rw [fw_ne (by omega), up_eq]⟩
      · rw [if_pos g', if_pos (by omega), if_neg g7]
        exact ⟨_, rfl, by rw [fil_ne (by omega), fw_ne (by omega), up_eq]⟩
    · rw [cd2_2 g g']
      apply mR_1 (by decide)
      simp (disch := first | assumption | omega) only [eX12_cutsFor, bX12_cutsFor_0, bX12_cutsFor_14, bX12_cutsFor_27, bX12_cutsFor_31, bX12_cutsFor_32, bX12_cutsFor_39, bX12_cutsFor_41, bX12_cutsFor_53, bX12_cutsFor_57, bX12_cutsFor_66, p12_8, i3_add, i3_sub, i3_mul, i3_neg, i6_add, i6_sub, i6_mul, i6_neg, i3_lt, i3_le, i3_eq, i6_lt, i6_eq, i3_div, i6_div, i6_i3, i3_i6, c6_lt, c6_ge, c6_gt, c6_le, c6_eq, i3_ite, i6_ite, ib_0, ib_z, ite_not, i1_0, i0_0, jB_1, jB_0, jB_ib, bI_v, bL_v, bD_v, bV_v, ob_s, ob_i, i3_ofNat, jx_e, bI_e, bL_e, bD_e, bV_e, i3_eq0, i6_eq0, if_mx, if_mn, if_true, if_false, not_true_eq_false, not_false_eq_true, Int.reduceEq, Int.reduceLT, Int.reduceLE, sX12_noSize_0, sX12_in, sX12_stops_1]
      rw [if_neg g']
      exact ⟨_, _, rfl, up_eq⟩
  · rw [cd2_1 g]
    apply mR_1 (by decide)
    simp (disch := first | assumption | omega) only [eX12_cutsFor, bX12_cutsFor_0, bX12_cutsFor_14, bX12_cutsFor_27, bX12_cutsFor_31, bX12_cutsFor_32, bX12_cutsFor_39, bX12_cutsFor_41, bX12_cutsFor_53, bX12_cutsFor_57, bX12_cutsFor_66, p12_8, i3_add, i3_sub, i3_mul, i3_neg, i6_add, i6_sub, i6_mul, i6_neg, i3_lt, i3_le, i3_eq, i6_lt, i6_eq, i3_div, i6_div, i6_i3, i3_i6, c6_lt, c6_ge, c6_gt, c6_le, c6_eq, i3_ite, i6_ite, ib_0, ib_z, ite_not, i1_0, i0_0, jB_1, jB_0, jB_ib, bI_v, bL_v, bD_v, bV_v, ob_s, ob_i, i3_ofNat, jx_e, bI_e, bL_e, bD_e, bV_e, i3_eq0, i6_eq0, if_mx, if_mn, if_true, if_false, not_true_eq_false, not_false_eq_true, Int.reduceEq, Int.reduceLT, Int.reduceLE, sX12_noSize_1]
    exact ⟨_, _, rfl, up_eq⟩
theorem nrM_x {pw ph num x y : Int} : (nrM v pw ph num x).1 = -1 ∧ (nrM v pw ph num y).1 = -1 ∨ nrM v pw ph num x = nrM v pw ph num y :=
  fo2_map (R := fun p q : Int × Int => p.1 = -1 ∧ q.1 = -1 ∨ p = q) _ (Or.inl ⟨rfl, rfl⟩) (fun k n p q _ _ h => by
    rcases h with ⟨h1, h2⟩ | h
    · unfold nrG nrI
      by_cases g : fitI v k n pw ph = 1 ∧ num ≤ supM v k (n + 1)
      · right
        rw [if_pos (show p.1 = -1 ∨ _ from Or.inl h1), if_pos (show q.1 = -1 ∨ _ from Or.inl h2), if_pos ⟨g.1, g.2, rfl⟩, if_pos ⟨g.1, g.2, rfl⟩]
      · left
        rw [if_neg (fun q => g ⟨q.1, q.2.1⟩), if_neg (fun q => g ⟨q.1, q.2.1⟩)]
        exact ⟨h1, h2⟩
    · right; rw [h])
/-- the nearest size, and -1 as its series where there is none -/
def nrA (v : Nat → Int → Int) (a b q : Int) : Int × Int := nrM v a b q (-1)
theorem nrA_c (a b q x : Int) : ((nrA v a b q).1 = -1 ∧ (nrM v a b q x).1 = -1) ∨ (nrA v a b q = nrM v a b q x ∧ (0 ≤ (nrA v a b q).1 ∧ (nrA v a b q).1 < v 412 0 ∧ 0 ≤ (nrA v a b q).2 ∧ (nrA v a b q).2 < 10)) := by
  rcases nrM_x (v := v) (pw := a) (ph := b) (num := q) (x := -1) (y := x) with h | h
  · exact Or.inl h
  · rcases nrM_P (v := v) (pw := a) (ph := b) (num := q) (x := -1) with g | g
    · exact Or.inl ⟨g, by rw [← h]; exact g⟩
    · exact Or.inr ⟨h, g⟩
theorem mX12_nearest {a b q : Int} (hT : 18 ≤ T) (hg : gM v) (ha : isI a) (hb : isI b) (hq : isI q) : mR (jm_env (d + 7) 327 [.ref 411, .int (i3 a), .int (i3 b), .int (i3 q)] (qM X v w T c s)) X v T c s (cd1 (((1 ≤ a ∧ a ≤ 2000) ∧ 1 ≤ b ∧ b ≤ 2000) ∧ 1 ≤ q ∧ q ≤ 999)) (if (nrA v a b q).1 = -1 then -1 else 100 * (nrA v a b q).1 + (nrA v a b q).2) := by
  obtain ⟨ha0, ha1⟩ := ha
  obtain ⟨hb0, hb1⟩ := hb
  obtain ⟨hq0, hq1⟩ := hq
  obtain ⟨hc0, hc1, he0, he1, -⟩ := id hg
  by_cases g : ((1 ≤ a ∧ a ≤ 2000) ∧ 1 ≤ b ∧ b ≤ 2000) ∧ 1 ≤ q ∧ q ≤ 999
  · obtain ⟨⟨⟨g1, g2⟩, g3, g4⟩, g5, g6⟩ := id g
    rw [cd1_0 g]
    apply mR_0
    rcases nrA_c (v := v) a b q (up w 411 8 0 411 12) with ⟨h1, h2⟩ | ⟨h1, h3, h4, h5, h6⟩
    · simp (disch := first | assumption | omega) only [eX12_nearest, bX12_nearest_0, bX12_nearest_15, bX12_nearest_17, bX12_nearest_32, bX12_nearest_36, bX12_nearest_48, p12_8, g12_11, g12_12, i3_add, i3_sub, i3_mul, i3_neg, i6_add, i6_sub, i6_mul, i6_neg, i3_lt, i3_le, i3_eq, i6_lt, i6_eq, i3_div, i6_div, i6_i3, i3_i6, c6_lt, c6_ge, c6_gt, c6_le, c6_eq, i3_ite, i6_ite, ib_0, ib_z, ite_not, i1_0, i0_0, jB_1, jB_0, jB_ib, bI_v, bL_v, bD_v, bV_v, ob_s, ob_i, i3_ofNat, jx_e, bI_e, bL_e, bD_e, bV_e, i3_eq0, i6_eq0, if_mx, if_mn, if_true, if_false, not_true_eq_false, not_false_eq_true, Int.reduceEq, Int.reduceLT, Int.reduceLE, sX12_noOrder_0, sX12_seeks, fw_ne, nw_11, nw_12, h2, h1]
      exact ⟨_, rfl, by rw [fw_ne (by omega), nw_ne (by omega), up_eq]⟩
    · rw [if_neg (by omega)]
      simp (disch := first | assumption | omega) only [eX12_nearest, bX12_nearest_0, bX12_nearest_15, bX12_nearest_17, bX12_nearest_32, bX12_nearest_36, bX12_nearest_48, p12_8, g12_11, g12_12, i3_add, i3_sub, i3_mul, i3_neg, i6_add, i6_sub, i6_mul, i6_neg, i3_lt, i3_le, i3_eq, i6_lt, i6_eq, i3_div, i6_div, i6_i3, i3_i6, c6_lt, c6_ge, c6_gt, c6_le, c6_eq, i3_ite, i6_ite, ib_0, ib_z, ite_not, i1_0, i0_0, jB_1, jB_0, jB_ib, bI_v, bL_v, bD_v, bV_v, ob_s, ob_i, i3_ofNat, jx_e, bI_e, bL_e, bD_e, bV_e, i3_eq0, i6_eq0, if_mx, if_mn, if_true, if_false, not_true_eq_false, not_false_eq_true, Int.reduceEq, Int.reduceLT, Int.reduceLE, sX12_noOrder_0, sX12_seeks, fw_ne, nw_11, nw_12, ← h1]
      rw [if_neg (by omega)]
      exact ⟨_, rfl, by rw [fw_ne (by omega), nw_ne (by omega), up_eq]⟩
  · rw [cd1_1 g]
    apply mR_1 (by decide)
    simp (disch := first | assumption | omega) only [eX12_nearest, bX12_nearest_0, bX12_nearest_15, bX12_nearest_17, bX12_nearest_32, bX12_nearest_36, bX12_nearest_48, p12_8, g12_11, g12_12, i3_add, i3_sub, i3_mul, i3_neg, i6_add, i6_sub, i6_mul, i6_neg, i3_lt, i3_le, i3_eq, i6_lt, i6_eq, i3_div, i6_div, i6_i3, i3_i6, c6_lt, c6_ge, c6_gt, c6_le, c6_eq, i3_ite, i6_ite, ib_0, ib_z, ite_not, i1_0, i0_0, jB_1, jB_0, jB_ib, bI_v, bL_v, bD_v, bV_v, ob_s, ob_i, i3_ofNat, jx_e, bI_e, bL_e, bD_e, bV_e, i3_eq0, i6_eq0, if_mx, if_mn, if_true, if_false, not_true_eq_false, not_false_eq_true, Int.reduceEq, Int.reduceLT, Int.reduceLE, sX12_noOrder_1]
    exact ⟨_, _, rfl, up_eq⟩
end MO6
