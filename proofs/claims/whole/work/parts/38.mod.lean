-- uses 24.zar 25.obj 26.ops 30.rd 31.re 34.gen
/-! The reference: numbers, sides, supplies. -/
/-- the two fields in which the sides lie that were found last -/
def fw (w : Nat → Int → Int) (p : Int × Int) : Nat → Int → Int := up (up w 411 9 p.1) 411 10 p.2
section FWS
variable {w : Nat → Int → Int} {p q : Int × Int} {z : Int} {n : Nat} {k : Int}
theorem fw_9 : fw w p 411 9 = p.1 := by unfold fw; rw [up_ne (by omega), up_eq]
theorem fw_10 : fw w p 411 10 = p.2 := by unfold fw; rw [up_eq]
theorem fw_ne (h : n ≠ 411 ∨ (k ≠ 9 ∧ k ≠ 10)) : fw w p n k = w n k := by unfold fw; rw [up_ne (by omega), up_ne (by omega)]
theorem fw_b (h : n ≠ 411) : fw w p n = w n := by funext k; exact fw_ne (Or.inl h)
theorem up_sw {a b : Nat} {i j x y : Int} (h : a ≠ b ∨ i ≠ j) : up (up w a i x) b j y = up (up w b j y) a i x := by
  funext n k
  unfold up
  by_cases e : n = b ∧ k = j
  · rw [if_pos e, if_neg (by omega), if_pos e]
  · rw [if_neg e]
    by_cases q : n = a ∧ k = i
    · rw [if_pos q, if_pos q]
    · rw [if_neg q, if_neg q, if_neg e]
theorem up_up {a : Nat} {i x y : Int} : up (up w a i x) a i y = up w a i y := by
  funext n k
  unfold up
  by_cases e : n = a ∧ k = i
  · rw [if_pos e, if_pos e]
  · rw [if_neg e, if_neg e, if_neg e]
theorem up_same {a : Nat} {i : Int} : up w a i (w a i) = w := by
  funext n k
  unfold up
  by_cases e : n = a ∧ k = i
  · rw [if_pos e, e.1, e.2]
  · rw [if_neg e]
theorem fw_mk {x y : Int} : up (up w 411 9 x) 411 10 y = fw w (x, y) := rfl
theorem fw_u9 : up (fw w p) 411 9 z = fw w (z, p.2) := by unfold fw; rw [up_sw (by omega), up_up]
theorem fw_u10 : up (fw w p) 411 10 z = fw w (p.1, z) := by unfold fw; rw [up_up]
theorem fw_fw : fw (fw w p) q = fw w q := by
  rw [show fw (fw w p) q = up (up (fw w p) 411 9 q.1) 411 10 q.2 from rfl, fw_u9, fw_u10]
theorem fw_up {a : Nat} (h : a ≠ 411 ∨ (k ≠ 9 ∧ k ≠ 10)) : up (fw w p) a k z = fw (up w a k z) p := by
  unfold fw
  rw [up_sw (by omega), up_sw (a := 411) (i := 9) (by omega)]
theorem fw_fil {a : Nat} {f : Int → Int} {m : Int} (h : a ≠ 411) : fil (fw w p) a f m = fw (fil w a f m) p := by
  unfold fw
  rw [← up_fil (by omega), ← up_fil (by omega)]
theorem fw_id : fw w (w 411 9, w 411 10) = w := by
  unfold fw
  rw [up_same, up_same]
end FWS
noncomputable def hid (d k : Nat) (as : List Value) (m : jm_Mem) : Option jm_Res := jm_env d k as m
noncomputable def pq (x : Option jm_Res) (X : Nat × (Nat → Int32)) (v w : Nat → Int → Int) (T c s : Nat) : Int × Int := Classical.epsilon fun p => ∃ a, x = some (a, qM X v (fw w p) T c s)
theorem pq_eq {d k : Nat} {as : List Value} {m : jm_Mem} {X : Nat × (Nat → Int32)} {v w : Nat → Int → Int} {T c s : Nat} {a : Option Value ⊕ String} (h : ∃ p, jm_env d k as m = some (a, qM X v (fw w p) T c s)) : jm_env d k as m = some (a, qM X v (fw w (pq (hid d k as m) X v w T c s)) T c s) := by
  obtain ⟨p, hp⟩ := h
  obtain ⟨b, hb⟩ := Classical.epsilon_spec (p := fun p => ∃ a, hid d k as m = some (a, qM X v (fw w p) T c s)) ⟨p, a, hp⟩
  have hb : jm_env d k as m = some (b, qM X v (fw w (pq (hid d k as m) X v w T c s)) T c s) := hb
  have e := hp.symm.trans hb
  have e2 : a = b := congrArg Prod.fst (Option.some.inj e)
  rw [hb, e2]
/-- the sides of a size by the reference's own row -/
def szM (v : Nat → Int → Int) (i n : Int) : Int × Int := hv (v 412 (12 + 13 * i + 1), v 412 (12 + 13 * i + 2)) n.toNat
def aM (v : Nat → Int → Int) (i n : Int) : Int := (szM v i n).1 * (szM v i n).2
def kM (v : Nat → Int → Int) (i n : Int) : Int := v 412 (12 + 13 * i + 3 + n)
/-- the sides told are sides -/
def oM (v : Nat → Int → Int) (i : Int) : Prop := 0 ≤ v 412 (12 + 13 * i + 1) ∧ v 412 (12 + 13 * i + 1) ≤ 2000 ∧ 0 ≤ v 412 (12 + 13 * i + 2) ∧ v 412 (12 + 13 * i + 2) ≤ 2000
theorem szM_b {v : Nat → Int → Int} {i : Int} (h : oM v i) (n : Int) : 0 ≤ (szM v i n).1 ∧ (szM v i n).1 ≤ 2000 ∧ 0 ≤ (szM v i n).2 ∧ (szM v i n).2 ≤ 2000 := hv_b (p := (v 412 (12 + 13 * i + 1), v 412 (12 + 13 * i + 2))) h n.toNat
theorem mul_b {x y : Int} (h0 : 0 ≤ x) (h1 : x ≤ 2000) (h2 : 0 ≤ y) (h3 : y ≤ 2000) : 0 ≤ x * y ∧ x * y ≤ 4000000 := by
  have a := Int.mul_nonneg h0 h2
  have b := Int.mul_le_mul h1 h3 h2 (by omega)
  omega
theorem aM_b {v : Nat → Int → Int} {i : Int} (h : oM v i) (n : Int) : 0 ≤ aM v i n ∧ aM v i n ≤ 4000000 := by
  obtain ⟨h0, h1, h2, h3⟩ := szM_b h n
  exact mul_b h0 h1 h2 h3
def usE (x e : Int) : Int := max 0 (x - 2 * e)
theorem usE_b {x e : Int} (h0 : 0 ≤ x) (h1 : x ≤ 2000) (h2 : 0 ≤ e) : 0 ≤ usE x e ∧ usE x e ≤ 2000 := by unfold usE; omega
section MOD
variable {d : Nat} {X : Nat × (Nat → Int32)} {v w : Nat → Int → Int} {T c s : Nat}
theorem sX12_in {a b e : Int} {m : jm_Mem} (h1 : -9223372036854775808 ≤ a) (h2 : a < 9223372036854775808) (h3 : -9223372036854775808 ≤ b) (h4 : b < 9223372036854775808) (h5 : -9223372036854775808 ≤ e) (h6 : e < 9223372036854775808) : jm_env (d + 1) 206 [.long (i6 a), .long (i6 b), .long (i6 e)] m = some (.inl (some (.int (i3 (if b ≤ a ∧ a ≤ e then 1 else 0)))), m) := by
  simp (disch := first | assumption | omega) only [eX12_in, bX12_in_0, bX12_in_6, bX12_in_13, bX12_in_17, bX12_in_18, i3_add, i3_sub, i3_mul, i3_neg, i6_add, i6_sub, i6_mul, i6_neg, i3_lt, i3_le, i3_eq, i6_lt, i6_eq, i3_div, i6_div, i6_i3, i3_i6, c6_lt, c6_ge, c6_gt, c6_le, c6_eq, i3_ite, i6_ite, ib_0, ib_z, ite_not, i1_0, i0_0, jB_1, jB_0, jB_ib, bI_v, bL_v, bD_v, bV_v, ob_s, ob_i, i3_ofNat, jx_e, bI_e, bL_e, bD_e, bV_e, i3_eq0, i6_eq0, if_mx, if_mn, if_true, if_false, not_true_eq_false, not_false_eq_true, Int.reduceEq, Int.reduceLT, Int.reduceLE]
  all_goals ((repeat' split) <;> first | rfl | (apply fin_i; omega) | (exfalso; omega))
theorem sX12_flag {P : Prop} [Decidable P] {m : jm_Mem} : jm_env (d + 1) 207 [.int (i3 (if P then 1 else 0))] m = some (.inl (some (.int (i3 (if P then 1 else 0)))), m) := by
  simp (disch := first | assumption | omega) only [eX12_flag, bX12_flag_0, bX12_flag_4, bX12_flag_8, bX12_flag_9, i3_add, i3_sub, i3_mul, i3_neg, i6_add, i6_sub, i6_mul, i6_neg, i3_lt, i3_le, i3_eq, i6_lt, i6_eq, i3_div, i6_div, i6_i3, i3_i6, c6_lt, c6_ge, c6_gt, c6_le, c6_eq, i3_ite, i6_ite, ib_0, ib_z, ite_not, i1_0, i0_0, jB_1, jB_0, jB_ib, bI_v, bL_v, bD_v, bV_v, ob_s, ob_i, i3_ofNat, jx_e, bI_e, bL_e, bD_e, bV_e, i3_eq0, i6_eq0, if_mx, if_mn, if_true, if_false, not_true_eq_false, not_false_eq_true, Int.reduceEq, Int.reduceLT, Int.reduceLE]
  all_goals ((repeat' split) <;> first | rfl | (apply fin_i; omega) | (exfalso; omega))
theorem sX12_flag_1 {m : jm_Mem} : jm_env (d + 1) 207 [.int (i3 1)] m = some (.inl (some (.int (i3 (1)))), m) := sX12_flag (P := True)
theorem sX12_flag_0 {m : jm_Mem} : jm_env (d + 1) 207 [.int (i3 0)] m = some (.inl (some (.int (i3 (0)))), m) := sX12_flag (P := False)
theorem sX12_bare {a : Int} {m : jm_Mem} (h1 : -9223372036854775807 ≤ a) (h2 : a < 9223372036854775808) : jm_env (d + 1) 208 [.long (i6 a)] m = some (.inl (some (.long (i6 (if a < 0 then -a else a)))), m) := by
  simp (disch := first | assumption | omega) only [eX12_bare, bX12_bare_0, bX12_bare_6, bX12_bare_11, bX12_bare_12, i3_add, i3_sub, i3_mul, i3_neg, i6_add, i6_sub, i6_mul, i6_neg, i3_lt, i3_le, i3_eq, i6_lt, i6_eq, i3_div, i6_div, i6_i3, i3_i6, c6_lt, c6_ge, c6_gt, c6_le, c6_eq, i3_ite, i6_ite, ib_0, ib_z, ite_not, i1_0, i0_0, jB_1, jB_0, jB_ib, bI_v, bL_v, bD_v, bV_v, ob_s, ob_i, i3_ofNat, jx_e, bI_e, bL_e, bD_e, bV_e, i3_eq0, i6_eq0, if_mx, if_mn, if_true, if_false, not_true_eq_false, not_false_eq_true, Int.reduceEq, Int.reduceLT, Int.reduceLE]
  (repeat' split) <;> first | rfl | (exfalso; omega)
theorem sX12_lesser {a b : Int} {m : jm_Mem} (h1 : -9223372036854775808 ≤ a) (h2 : a < 9223372036854775808) (h3 : -9223372036854775808 ≤ b) (h4 : b < 9223372036854775808) : jm_env (d + 1) 209 [.long (i6 a), .long (i6 b)] m = some (.inl (some (.long (i6 (min a b)))), m) := by
  simp (disch := first | assumption | omega) only [eX12_lesser, bX12_lesser_0, bX12_lesser_6, bX12_lesser_10, bX12_lesser_11, i3_add, i3_sub, i3_mul, i3_neg, i6_add, i6_sub, i6_mul, i6_neg, i3_lt, i3_le, i3_eq, i6_lt, i6_eq, i3_div, i6_div, i6_i3, i3_i6, c6_lt, c6_ge, c6_gt, c6_le, c6_eq, i3_ite, i6_ite, ib_0, ib_z, ite_not, i1_0, i0_0, jB_1, jB_0, jB_ib, bI_v, bL_v, bD_v, bV_v, ob_s, ob_i, i3_ofNat, jx_e, bI_e, bL_e, bD_e, bV_e, i3_eq0, i6_eq0, if_mx, if_mn, if_true, if_false, not_true_eq_false, not_false_eq_true, Int.reduceEq, Int.reduceLT, Int.reduceLE]
  split <;> (apply fin_l; omega)
theorem sX12_greater {a b : Int} {m : jm_Mem} (h1 : -9223372036854775808 ≤ a) (h2 : a < 9223372036854775808) (h3 : -9223372036854775808 ≤ b) (h4 : b < 9223372036854775808) : jm_env (d + 1) 210 [.long (i6 a), .long (i6 b)] m = some (.inl (some (.long (i6 (max a b)))), m) := by
  simp (disch := first | assumption | omega) only [eX12_greater, bX12_greater_0, bX12_greater_6, bX12_greater_10, bX12_greater_11, i3_add, i3_sub, i3_mul, i3_neg, i6_add, i6_sub, i6_mul, i6_neg, i3_lt, i3_le, i3_eq, i6_lt, i6_eq, i3_div, i6_div, i6_i3, i3_i6, c6_lt, c6_ge, c6_gt, c6_le, c6_eq, i3_ite, i6_ite, ib_0, ib_z, ite_not, i1_0, i0_0, jB_1, jB_0, jB_ib, bI_v, bL_v, bD_v, bV_v, ob_s, ob_i, i3_ofNat, jx_e, bI_e, bL_e, bD_e, bV_e, i3_eq0, i6_eq0, if_mx, if_mn, if_true, if_false, not_true_eq_false, not_false_eq_true, Int.reduceEq, Int.reduceLT, Int.reduceLE]
  split <;> (apply fin_l; omega)
theorem sX12_seriesAt {a b : Int} {m : jm_Mem} : jm_env (d + 1) 213 [.int (i3 a), .int (i3 b)] m = some (.inl (some (.int (i3 (12 + 13 * a + b)))), m) := by
  simp (disch := first | assumption | omega) only [eX12_seriesAt, bX12_seriesAt_0, i3_add, i3_sub, i3_mul, i3_neg, i6_add, i6_sub, i6_mul, i6_neg, i3_lt, i3_le, i3_eq, i6_lt, i6_eq, i3_div, i6_div, i6_i3, i3_i6, c6_lt, c6_ge, c6_gt, c6_le, c6_eq, i3_ite, i6_ite, ib_0, ib_z, ite_not, i1_0, i0_0, jB_1, jB_0, jB_ib, bI_v, bL_v, bD_v, bV_v, ob_s, ob_i, i3_ofNat, jx_e, bI_e, bL_e, bD_e, bV_e, i3_eq0, i6_eq0, if_mx, if_mn, if_true, if_false, not_true_eq_false, not_false_eq_true, Int.reduceEq, Int.reduceLT, Int.reduceLE]
theorem sX12_stackAt {a b : Int} {m : jm_Mem} : jm_env (d + 1) 214 [.int (i3 a), .int (i3 b)] m = some (.inl (some (.int (i3 (12 + 13 * a + 3 + b)))), m) := by
  simp (disch := first | assumption | omega) only [eX12_stackAt, bX12_stackAt_0, i3_add, i3_sub, i3_mul, i3_neg, i6_add, i6_sub, i6_mul, i6_neg, i3_lt, i3_le, i3_eq, i6_lt, i6_eq, i3_div, i6_div, i6_i3, i3_i6, c6_lt, c6_ge, c6_gt, c6_le, c6_eq, i3_ite, i6_ite, ib_0, ib_z, ite_not, i1_0, i0_0, jB_1, jB_0, jB_ib, bI_v, bL_v, bD_v, bV_v, ob_s, ob_i, i3_ofNat, jx_e, bI_e, bL_e, bD_e, bV_e, i3_eq0, i6_eq0, if_mx, if_mn, if_true, if_false, not_true_eq_false, not_false_eq_true, Int.reduceEq, Int.reduceLT, Int.reduceLE]
theorem sX12_halves {p : Int × Int} (hT : 18 ≤ T) (h : 0 ≤ p.1 ∧ p.1 ≤ 2000 ∧ 0 ≤ p.2 ∧ p.2 ≤ 2000) : jm_env (d + 1) 217 [.ref 411] (qM X v (fw w p) T c s) = some (.inl none, qM X v (fw w (hf p)) T c s) := by
  simp (disch := first | assumption | omega) only [eX12_halves, bX12_halves_0, bX12_halves_11, bX12_halves_24, bX12_halves_34, bX12_halves_41, bX12_halves_48, bX12_halves_58, g12_9, g12_10, p12_9, p12_10, i3_add, i3_sub, i3_mul, i3_neg, i6_add, i6_sub, i6_mul, i6_neg, i3_lt, i3_le, i3_eq, i6_lt, i6_eq, i3_div, i6_div, i6_i3, i3_i6, c6_lt, c6_ge, c6_gt, c6_le, c6_eq, i3_ite, i6_ite, ib_0, ib_z, ite_not, i1_0, i0_0, jB_1, jB_0, jB_ib, bI_v, bL_v, bD_v, bV_v, ob_s, ob_i, i3_ofNat, jx_e, bI_e, bL_e, bD_e, bV_e, i3_eq0, i6_eq0, if_mx, if_mn, if_true, if_false, not_true_eq_false, not_false_eq_true, Int.reduceEq, Int.reduceLT, Int.reduceLE, fw_9, fw_10, fw_u9, fw_u10]
  unfold hf hf1
  (repeat' split) <;> first | rfl | (exfalso; omega) | (simp_all; done) | (exfalso; simp_all; omega)
theorem sX12_finds {i n : Int} (hT : 18 ≤ T) (hi0 : 0 ≤ i) (hi1 : i < 5) (hn0 : 0 ≤ n) (hn1 : n < 2147483647) (ho : oM v i) : jm_env (d + 2) 218 [.ref 411, .int (i3 i), .int (i3 n)] (qM X v w T c s) = some (.inl none, qM X v (fw w (szM v i n)) T c s) := by
  have hl := ch_n (fun k : Nat => jm_R (jm_env (d + 1)) jmM_X12_finds 32 [some (.ref 411), some (.int (i3 i)), some (.int (i3 n)), some (.int (i3 k))] [] (qM X v (fw w (hv (v 412 (12 + 13 * i + 1), v 412 (12 + 13 * i + 2)) k)) T c s)) n.toNat (fun k hk => by
    have hq := hv_b (p := (v 412 (12 + 13 * i + 1), v 412 (12 + 13 * i + 2))) ho k
    rw [bX12_finds_32]
    simp (disch := first | assumption | omega) only [eX12_finds, bX12_finds_0, bX12_finds_37, bX12_finds_47, r12_0, a12_0, w12_0, n12_0, p12_9, p12_10, i3_add, i3_sub, i3_mul, i3_neg, i6_add, i6_sub, i6_mul, i6_neg, i3_lt, i3_le, i3_eq, i6_lt, i6_eq, i3_div, i6_div, i6_i3, i3_i6, c6_lt, c6_ge, c6_gt, c6_le, c6_eq, i3_ite, i6_ite, ib_0, ib_z, ite_not, i1_0, i0_0, jB_1, jB_0, jB_ib, bI_v, bL_v, bD_v, bV_v, ob_s, ob_i, i3_ofNat, jx_e, bI_e, bL_e, bD_e, bV_e, i3_eq0, i6_eq0, if_mx, if_mn, if_true, if_false, not_true_eq_false, not_false_eq_true, Int.reduceEq, Int.reduceLT, Int.reduceLE, sX12_halves]
    rw [if_neg (by omega)]
    rfl)
  simp (disch := first | assumption | omega) only [eX12_finds, bX12_finds_0, bX12_finds_37, bX12_finds_47, r12_0, a12_0, w12_0, n12_0, p12_9, p12_10, i3_add, i3_sub, i3_mul, i3_neg, i6_add, i6_sub, i6_mul, i6_neg, i3_lt, i3_le, i3_eq, i6_lt, i6_eq, i3_div, i6_div, i6_i3, i3_i6, c6_lt, c6_ge, c6_gt, c6_le, c6_eq, i3_ite, i6_ite, ib_0, ib_z, ite_not, i1_0, i0_0, jB_1, jB_0, jB_ib, bI_v, bL_v, bD_v, bV_v, ob_s, ob_i, i3_ofNat, jx_e, bI_e, bL_e, bD_e, bV_e, i3_eq0, i6_eq0, if_mx, if_mn, if_true, if_false, not_true_eq_false, not_false_eq_true, Int.reduceEq, Int.reduceLT, Int.reduceLE, sX12_seriesAt, fw_mk]
  refine Eq.trans hl ?_
  rw [bX12_finds_32]
  simp (disch := first | assumption | omega) only [eX12_finds, bX12_finds_0, bX12_finds_37, bX12_finds_47, r12_0, a12_0, w12_0, n12_0, p12_9, p12_10, i3_add, i3_sub, i3_mul, i3_neg, i6_add, i6_sub, i6_mul, i6_neg, i3_lt, i3_le, i3_eq, i6_lt, i6_eq, i3_div, i6_div, i6_i3, i3_i6, c6_lt, c6_ge, c6_gt, c6_le, c6_eq, i3_ite, i6_ite, ib_0, ib_z, ite_not, i1_0, i0_0, jB_1, jB_0, jB_ib, bI_v, bL_v, bD_v, bV_v, ob_s, ob_i, i3_ofNat, jx_e, bI_e, bL_e, bD_e, bV_e, i3_eq0, i6_eq0, if_mx, if_mn, if_true, if_false, not_true_eq_false, not_false_eq_true, Int.reduceEq, Int.reduceLT, Int.reduceLE]
  rw [if_pos (by omega)]
  rfl
theorem sX12_areaOf {i n : Int} (hT : 18 ≤ T) (hi0 : 0 ≤ i) (hi1 : i < 5) (hn0 : 0 ≤ n) (hn1 : n < 2147483647) (ho : oM v i) : jm_env (d + 3) 219 [.ref 411, .int (i3 i), .int (i3 n)] (qM X v w T c s) = some (.inl (some (.long (i6 (aM v i n)))), qM X v (fw w (szM v i n)) T c s) := by
  have hb := szM_b ho n
  simp (disch := first | assumption | omega) only [eX12_areaOf, bX12_areaOf_0, g12_9, g12_10, i3_add, i3_sub, i3_mul, i3_neg, i6_add, i6_sub, i6_mul, i6_neg, i3_lt, i3_le, i3_eq, i6_lt, i6_eq, i3_div, i6_div, i6_i3, i3_i6, c6_lt, c6_ge, c6_gt, c6_le, c6_eq, i3_ite, i6_ite, ib_0, ib_z, ite_not, i1_0, i0_0, jB_1, jB_0, jB_ib, bI_v, bL_v, bD_v, bV_v, ob_s, ob_i, i3_ofNat, jx_e, bI_e, bL_e, bD_e, bV_e, i3_eq0, i6_eq0, if_mx, if_mn, if_true, if_false, not_true_eq_false, not_false_eq_true, Int.reduceEq, Int.reduceLT, Int.reduceLE, sX12_finds, fw_9, fw_10]
  rfl
theorem sX12_isVoid_p {i n : Int} (hT : 18 ≤ T) (hi0 : 0 ≤ i) (hi1 : i < 5) (hn0 : 0 ≤ n) (hn1 : n < 2147483647) (ho : oM v i) : ∃ p, jm_env (d + 4) 220 [.ref 411, .int (i3 i), .int (i3 n)] (qM X v w T c s) = some (.inl (some (.int (i3 (if 10 ≤ n ∨ aM v i n = 0 then 1 else 0)))), qM X v (fw w p) T c s) := by
  have hb := aM_b ho n
  simp (disch := first | assumption | omega) only [eX12_isVoid, bX12_isVoid_0, bX12_isVoid_6, bX12_isVoid_17, bX12_isVoid_21, bX12_isVoid_22, i3_add, i3_sub, i3_mul, i3_neg, i6_add, i6_sub, i6_mul, i6_neg, i3_lt, i3_le, i3_eq, i6_lt, i6_eq, i3_div, i6_div, i6_i3, i3_i6, c6_lt, c6_ge, c6_gt, c6_le, c6_eq, i3_ite, i6_ite, ib_0, ib_z, ite_not, i1_0, i0_0, jB_1, jB_0, jB_ib, bI_v, bL_v, bD_v, bV_v, ob_s, ob_i, i3_ofNat, jx_e, bI_e, bL_e, bD_e, bV_e, i3_eq0, i6_eq0, if_mx, if_mn, if_true, if_false, not_true_eq_false, not_false_eq_true, Int.reduceEq, Int.reduceLT, Int.reduceLE, sX12_areaOf]
  split
  · exact ⟨(w 411 9, w 411 10), by rw [fw_id, if_pos (Or.inl (by assumption))]⟩
  · exact ⟨szM v i n, by split <;> first | (rw [if_pos (by omega)]) | (rw [if_neg (by omega)])⟩
theorem sX12_isVoid {i n : Int} (hT : 18 ≤ T) (hi0 : 0 ≤ i) (hi1 : i < 5) (hn0 : 0 ≤ n) (hn1 : n < 2147483647) (ho : oM v i) : jm_env (d + 4) 220 [.ref 411, .int (i3 i), .int (i3 n)] (qM X v w T c s) = some (.inl (some (.int (i3 (if 10 ≤ n ∨ aM v i n = 0 then 1 else 0)))), qM X v (fw w (pq (hid (d + 4) 220 [.ref 411, .int (i3 i), .int (i3 n)] (qM X v w T c s)) X v w T c s)) T c s) := pq_eq (sX12_isVoid_p hT hi0 hi1 hn0 hn1 ho)

theorem sX12_isVoidToCut_p {i n : Int} (hT : 18 ≤ T) (hi0 : 0 ≤ i) (hi1 : i < 5) (hn0 : 0 ≤ n) (hn1 : n < 2147483646) (ho : oM v i) : ∃ p, jm_env (d + 5) 221 [.ref 411, .int (i3 i), .int (i3 n)] (qM X v w T c s) = some (.inl (some (.int (i3 (if (10 ≤ n ∨ aM v i n = 0) ∨ (10 ≤ n + 1 ∨ aM v i (n + 1) = 0) then 1 else 0)))), qM X v (fw w p) T c s) := by
  simp (disch := first | assumption | omega) only [eX12_isVoidToCut, bX12_isVoidToCut_0, bX12_isVoidToCut_9, bX12_isVoidToCut_20, bX12_isVoidToCut_24, bX12_isVoidToCut_25, i3_add, i3_sub, i3_mul, i3_neg, i6_add, i6_sub, i6_mul, i6_neg, i3_lt, i3_le, i3_eq, i6_lt, i6_eq, i3_div, i6_div, i6_i3, i3_i6, c6_lt, c6_ge, c6_gt, c6_le, c6_eq, i3_ite, i6_ite, ib_0, ib_z, ite_not, i1_0, i0_0, jB_1, jB_0, jB_ib, bI_v, bL_v, bD_v, bV_v, ob_s, ob_i, i3_ofNat, jx_e, bI_e, bL_e, bD_e, bV_e, i3_eq0, i6_eq0, if_mx, if_mn, if_true, if_false, not_true_eq_false, not_false_eq_true, Int.reduceEq, Int.reduceLT, Int.reduceLE, sX12_isVoid, fw_fw]
  by_cases h : 10 ≤ n ∨ aM v i n = 0
  · simp only [h, not_true_eq_false, not_false_eq_true, if_true, if_false, true_or]
    exact ⟨_, rfl⟩
  · simp only [h, not_true_eq_false, not_false_eq_true, if_true, if_false, false_or]
    by_cases h2 : 10 ≤ n + 1 ∨ aM v i (n + 1) = 0
    · simp only [h2, not_true_eq_false, not_false_eq_true, if_true, if_false]
      exact ⟨_, rfl⟩
    · simp only [h2, not_true_eq_false, not_false_eq_true, if_true, if_false]
      exact ⟨_, rfl⟩
theorem sX12_isVoidToCut {i n : Int} (hT : 18 ≤ T) (hi0 : 0 ≤ i) (hi1 : i < 5) (hn0 : 0 ≤ n) (hn1 : n < 2147483646) (ho : oM v i) : jm_env (d + 5) 221 [.ref 411, .int (i3 i), .int (i3 n)] (qM X v w T c s) = some (.inl (some (.int (i3 (if (10 ≤ n ∨ aM v i n = 0) ∨ (10 ≤ n + 1 ∨ aM v i (n + 1) = 0) then 1 else 0)))), qM X v (fw w (pq (hid (d + 5) 221 [.ref 411, .int (i3 i), .int (i3 n)] (qM X v w T c s)) X v w T c s)) T c s) := pq_eq (sX12_isVoidToCut_p hT hi0 hi1 hn0 hn1 ho)

theorem sX12_stripOf {i n : Int} (hT : 18 ≤ T) (hi0 : 0 ≤ i) (hi1 : i < 5) (hn0 : 0 ≤ n) (hn1 : n < 2147483646) (ho : oM v i) : jm_env (d + 4) 222 [.ref 411, .int (i3 i), .int (i3 n)] (qM X v w T c s) = some (.inl (some (.long (i6 (aM v i n - 2 * aM v i (n + 1))))), qM X v (fw w (szM v i (n + 1))) T c s) := by
  simp (disch := first | assumption | omega) only [eX12_stripOf, bX12_stripOf_0, i3_add, i3_sub, i3_mul, i3_neg, i6_add, i6_sub, i6_mul, i6_neg, i3_lt, i3_le, i3_eq, i6_lt, i6_eq, i3_div, i6_div, i6_i3, i3_i6, c6_lt, c6_ge, c6_gt, c6_le, c6_eq, i3_ite, i6_ite, ib_0, ib_z, ite_not, i1_0, i0_0, jB_1, jB_0, jB_ib, bI_v, bL_v, bD_v, bV_v, ob_s, ob_i, i3_ofNat, jx_e, bI_e, bL_e, bD_e, bV_e, i3_eq0, i6_eq0, if_mx, if_mn, if_true, if_false, not_true_eq_false, not_false_eq_true, Int.reduceEq, Int.reduceLT, Int.reduceLE, sX12_areaOf, fw_fw]
theorem sX12_usable {x : Int} (hT : 18 ≤ T) (h0 : 0 ≤ x) (h1 : x ≤ 2000) (he0 : 0 ≤ v 412 1) (he1 : v 412 1 ≤ 50) : jm_env (d + 2) 224 [.ref 411, .int (i3 x)] (qM X v w T c s) = some (.inl (some (.int (i3 (usE x (v 412 1))))), (qM X v w T c s)) := by
  simp (disch := first | assumption | omega) only [eX12_usable, bX12_usable_0, r12_0, a12_0, w12_0, n12_0, i3_add, i3_sub, i3_mul, i3_neg, i6_add, i6_sub, i6_mul, i6_neg, i3_lt, i3_le, i3_eq, i6_lt, i6_eq, i3_div, i6_div, i6_i3, i3_i6, c6_lt, c6_ge, c6_gt, c6_le, c6_eq, i3_ite, i6_ite, ib_0, ib_z, ite_not, i1_0, i0_0, jB_1, jB_0, jB_ib, bI_v, bL_v, bD_v, bV_v, ob_s, ob_i, i3_ofNat, jx_e, bI_e, bL_e, bD_e, bV_e, i3_eq0, i6_eq0, if_mx, if_mn, if_true, if_false, not_true_eq_false, not_false_eq_true, Int.reduceEq, Int.reduceLT, Int.reduceLE, sX12_greater]
  rfl
def supM (v : Nat → Int → Int) (i : Int) : Nat → Int
  | 0 => 0
  | k + 1 => if aM v i k = 0 then 0 else min 9999 (kM v i k + 2 * supM v i k)
theorem supM_b {i : Int} (hk : ∀ n : Int, 0 ≤ n → n < 10 → 0 ≤ kM v i n) : ∀ n : Nat, n ≤ 10 → 0 ≤ supM v i n ∧ supM v i n ≤ 9999 := by
  intro n
  induction n with
  | zero => intro _; unfold supM; omega
  | succ n ih =>
    intro hn
    have h1 := hk n (by omega) (by omega)
    have h2 := ih (by omega)
    unfold supM
    split <;> omega
theorem sX12_supplyOf_p {i : Int} {n : Nat} (hT : 18 ≤ T) (hi0 : 0 ≤ i) (hi1 : i < 5) (hn1 : n < 10) (ho : oM v i) (hk : ∀ n : Int, 0 ≤ n → n < 10 → 0 ≤ kM v i n ∧ kM v i n ≤ 20000) : ∃ p, jm_env (d + 5) 225 [.ref 411, .int (i3 i), .int (i3 n)] (qM X v w T c s) = some (.inl (some (.long (i6 (supM v i (n + 1))))), qM X v (fw w p) T c s) := by
  obtain ⟨⟨q, e⟩, -⟩ := lq1 (fun _ _ => True) (fun (k : Nat) (_ : Unit) (p : Int × Int) => jm_R (jm_env (d + 4)) jmM_X12_supplyOf 5 [some (.ref 411), some (.int (i3 i)), some (.int (i3 n)), some (.long (i6 (supM v i k))), none, some (.int (i3 k))] [] (qM X v (fw w p) T c s)) (fun a _ => a) (n + 1)
    (fun k a p hk1 _ => by
      have h2 := supM_b (fun n h0 h1 => (hk n h0 h1).1) k (by omega)
      have h3 : 0 ≤ v 412 (12 + 13 * i + 3 + k) ∧ v 412 (12 + 13 * i + 3 + k) ≤ 20000 := hk k (by omega) (by omega)
      rw [bX12_supplyOf_5]
      simp (disch := first | assumption | omega) only [eX12_supplyOf, bX12_supplyOf_0, bX12_supplyOf_11, bX12_supplyOf_21, bX12_supplyOf_25, bX12_supplyOf_48, bX12_supplyOf_55, r12_0, a12_0, w12_0, n12_0, i3_add, i3_sub, i3_mul, i3_neg, i6_add, i6_sub, i6_mul, i6_neg, i3_lt, i3_le, i3_eq, i6_lt, i6_eq, i3_div, i6_div, i6_i3, i3_i6, c6_lt, c6_ge, c6_gt, c6_le, c6_eq, i3_ite, i6_ite, ib_0, ib_z, ite_not, i1_0, i0_0, jB_1, jB_0, jB_ib, bI_v, bL_v, bD_v, bV_v, ob_s, ob_i, i3_ofNat, jx_e, bI_e, bL_e, bD_e, bV_e, i3_eq0, i6_eq0, if_mx, if_mn, if_true, if_false, not_true_eq_false, not_false_eq_true, Int.reduceEq, Int.reduceLT, Int.reduceLE, sX12_isVoid, sX12_stackAt, sX12_lesser, fw_fw]
      rw [if_neg (by omega)]
      by_cases hz : aM v i k = 0
      · rw [if_pos (Or.inr hz)]
        exact ⟨_, by rw [show supM v i (k + 1) = if aM v i k = 0 then 0 else min 9999 (kM v i k + 2 * supM v i k) from rfl, if_pos hz]; rfl⟩
      · rw [if_neg (by omega)]
        exact ⟨_, by rw [show supM v i (k + 1) = if aM v i k = 0 then 0 else min 9999 (kM v i k + 2 * supM v i k) from rfl, if_neg hz]; rfl⟩)
    (fun _ _ _ _ => trivial) () (w 411 9, w 411 10) trivial
  rw [fw_id] at e
  simp (disch := first | assumption | omega) only [eX12_supplyOf, bX12_supplyOf_0, bX12_supplyOf_11, bX12_supplyOf_21, bX12_supplyOf_25, bX12_supplyOf_48, bX12_supplyOf_55, r12_0, a12_0, w12_0, n12_0, i3_add, i3_sub, i3_mul, i3_neg, i6_add, i6_sub, i6_mul, i6_neg, i3_lt, i3_le, i3_eq, i6_lt, i6_eq, i3_div, i6_div, i6_i3, i3_i6, c6_lt, c6_ge, c6_gt, c6_le, c6_eq, i3_ite, i6_ite, ib_0, ib_z, ite_not, i1_0, i0_0, jB_1, jB_0, jB_ib, bI_v, bL_v, bD_v, bV_v, ob_s, ob_i, i3_ofNat, jx_e, bI_e, bL_e, bD_e, bV_e, i3_eq0, i6_eq0, if_mx, if_mn, if_true, if_false, not_true_eq_false, not_false_eq_true, Int.reduceEq, Int.reduceLT, Int.reduceLE]
  refine ⟨q, Eq.trans e ?_⟩
  rw [bX12_supplyOf_5]
  simp (disch := first | assumption | omega) only [eX12_supplyOf, bX12_supplyOf_0, bX12_supplyOf_11, bX12_supplyOf_21, bX12_supplyOf_25, bX12_supplyOf_48, bX12_supplyOf_55, r12_0, a12_0, w12_0, n12_0, i3_add, i3_sub, i3_mul, i3_neg, i6_add, i6_sub, i6_mul, i6_neg, i3_lt, i3_le, i3_eq, i6_lt, i6_eq, i3_div, i6_div, i6_i3, i3_i6, c6_lt, c6_ge, c6_gt, c6_le, c6_eq, i3_ite, i6_ite, ib_0, ib_z, ite_not, i1_0, i0_0, jB_1, jB_0, jB_ib, bI_v, bL_v, bD_v, bV_v, ob_s, ob_i, i3_ofNat, jx_e, bI_e, bL_e, bD_e, bV_e, i3_eq0, i6_eq0, if_mx, if_mn, if_true, if_false, not_true_eq_false, not_false_eq_true, Int.reduceEq, Int.reduceLT, Int.reduceLE]
  rw [if_pos (by omega)]
theorem sX12_supplyOf {i : Int} {n : Nat} (hT : 18 ≤ T) (hi0 : 0 ≤ i) (hi1 : i < 5) (hn1 : n < 10) (ho : oM v i) (hk : ∀ n : Int, 0 ≤ n → n < 10 → 0 ≤ kM v i n ∧ kM v i n ≤ 20000) : jm_env (d + 5) 225 [.ref 411, .int (i3 i), .int (i3 n)] (qM X v w T c s) = some (.inl (some (.long (i6 (supM v i (n + 1))))), qM X v (fw w (pq (hid (d + 5) 225 [.ref 411, .int (i3 i), .int (i3 n)] (qM X v w T c s)) X v w T c s)) T c s) := pq_eq (sX12_supplyOf_p hT hi0 hi1 hn1 ho hk)

theorem sX12_fits_p {i n pw ph : Int} (hT : 18 ≤ T) (hi0 : 0 ≤ i) (hi1 : i < 5) (hn0 : 0 ≤ n) (hn1 : n < 2147483647) (ho : oM v i) (he0 : 0 ≤ v 412 1) (he1 : v 412 1 ≤ 50) (h2 : 0 ≤ pw) (h3 : pw ≤ 2000) (h4 : 0 ≤ ph) (h5 : ph ≤ 2000) : ∃ p, jm_env (d + 3) 226 [.ref 411, .int (i3 i), .int (i3 n), .int (i3 pw), .int (i3 ph)] (qM X v w T c s) = some (.inl (some (.int (i3 (if (pw ≤ usE (szM v i n).1 (v 412 1) ∧ ph ≤ usE (szM v i n).2 (v 412 1)) ∨ (pw ≤ usE (szM v i n).2 (v 412 1) ∧ ph ≤ usE (szM v i n).1 (v 412 1)) then 1 else 0)))), qM X v (fw w p) T c s) := by
  obtain ⟨b0, b1, b2, b3⟩ := szM_b ho n
  have b4 := usE_b b0 b1 he0
  have b5 := usE_b b2 b3 he0
  simp (disch := first | assumption | omega) only [eX12_fits, bX12_fits_0, bX12_fits_32, bX12_fits_39, bX12_fits_45, bX12_fits_52, bX12_fits_56, bX12_fits_57, g12_9, g12_10, i3_add, i3_sub, i3_mul, i3_neg, i6_add, i6_sub, i6_mul, i6_neg, i3_lt, i3_le, i3_eq, i6_lt, i6_eq, i3_div, i6_div, i6_i3, i3_i6, c6_lt, c6_ge, c6_gt, c6_le, c6_eq, i3_ite, i6_ite, ib_0, ib_z, ite_not, i1_0, i0_0, jB_1, jB_0, jB_ib, bI_v, bL_v, bD_v, bV_v, ob_s, ob_i, i3_ofNat, jx_e, bI_e, bL_e, bD_e, bV_e, i3_eq0, i6_eq0, if_mx, if_mn, if_true, if_false, not_true_eq_false, not_false_eq_true, Int.reduceEq, Int.reduceLT, Int.reduceLE, sX12_finds, sX12_usable, fw_9, fw_10]
  refine ⟨szM v i n, ?_⟩
  all_goals ((repeat' split) <;> first | rfl | (apply fin_i; omega) | (exfalso; omega))
theorem sX12_fits {i n pw ph : Int} (hT : 18 ≤ T) (hi0 : 0 ≤ i) (hi1 : i < 5) (hn0 : 0 ≤ n) (hn1 : n < 2147483647) (ho : oM v i) (he0 : 0 ≤ v 412 1) (he1 : v 412 1 ≤ 50) (h2 : 0 ≤ pw) (h3 : pw ≤ 2000) (h4 : 0 ≤ ph) (h5 : ph ≤ 2000) : jm_env (d + 3) 226 [.ref 411, .int (i3 i), .int (i3 n), .int (i3 pw), .int (i3 ph)] (qM X v w T c s) = some (.inl (some (.int (i3 (if (pw ≤ usE (szM v i n).1 (v 412 1) ∧ ph ≤ usE (szM v i n).2 (v 412 1)) ∨ (pw ≤ usE (szM v i n).2 (v 412 1) ∧ ph ≤ usE (szM v i n).1 (v 412 1)) then 1 else 0)))), qM X v (fw w (pq (hid (d + 3) 226 [.ref 411, .int (i3 i), .int (i3 n), .int (i3 pw), .int (i3 ph)] (qM X v w T c s)) X v w T c s)) T c s) := pq_eq (sX12_fits_p hT hi0 hi1 hn0 hn1 ho he0 he1 h2 h3 h4 h5)

end MOD
