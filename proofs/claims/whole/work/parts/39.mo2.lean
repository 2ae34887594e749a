-- uses 24.zar 25.obj 26.ops 30.rd 31.re 34.gen 38.mod
/-! The reference: what is gone through. -/
def gM (v : Nat → Int → Int) : Prop := 0 ≤ v 412 0 ∧ v 412 0 ≤ 5 ∧ 0 ≤ v 412 1 ∧ v 412 1 ≤ 50 ∧ ∀ i : Int, 0 ≤ i → i < v 412 0 → oM v i ∧ ∀ n : Int, 0 ≤ n → n < 10 → 0 ≤ kM v i n ∧ kM v i n ≤ 9999
theorem gM.o {v : Nat → Int → Int} (h : gM v) {i : Int} (h0 : 0 ≤ i) (h1 : i < v 412 0) : oM v i := (h.2.2.2.2 i h0 h1).1
theorem gM.k {v : Nat → Int → Int} (h : gM v) {i : Int} (h0 : 0 ≤ i) (h1 : i < v 412 0) : ∀ n : Int, 0 ≤ n → n < 10 → 0 ≤ kM v i n ∧ kM v i n ≤ 20000 := fun n a b => by have := (h.2.2.2.2 i h0 h1).2 n a b; omega
theorem gM.s {v : Nat → Int → Int} (h : gM v) {i : Int} (h0 : 0 ≤ i) (h1 : i < v 412 0) {n : Nat} (hn : n ≤ 10) : 0 ≤ supM v i n ∧ supM v i n ≤ 9999 := supM_b (fun n a b => ((h.2.2.2.2 i h0 h1).2 n a b).1) n hn
/-- 1 where a print fits, 0 where not -/
def fitI (v : Nat → Int → Int) (i n pw ph : Int) : Int := if (pw ≤ usE (szM v i n).1 (v 412 1) ∧ ph ≤ usE (szM v i n).2 (v 412 1)) ∨ (pw ≤ usE (szM v i n).2 (v 412 1) ∧ ph ≤ usE (szM v i n).1 (v 412 1)) then 1 else 0
theorem fitI_01 {v : Nat → Int → Int} {i n pw ph : Int} : 0 ≤ fitI v i n pw ph ∧ fitI v i n pw ph ≤ 1 := by unfold fitI; split <;> omega
section MO2
variable {d : Nat} {X : Nat × (Nat → Int32)} {v w : Nat → Int → Int} {T c s : Nat}
theorem sX12_fitI_p {i n pw ph : Int} (hT : 18 ≤ T) (hi0 : 0 ≤ i) (hi1 : i < 5) (hn0 : 0 ≤ n) (hn1 : n < 2147483647) (ho : oM v i) (he0 : 0 ≤ v 412 1) (he1 : v 412 1 ≤ 50) (h2 : 0 ≤ pw) (h3 : pw ≤ 2000) (h4 : 0 ≤ ph) (h5 : ph ≤ 2000) : ∃ p, jm_env (d + 3) 226 [.ref 411, .int (i3 i), .int (i3 n), .int (i3 pw), .int (i3 ph)] (qM X v w T c s) = some (.inl (some (.int (i3 (fitI v i n pw ph)))), qM X v (fw w p) T c s) := by
  exact sX12_fits_p hT hi0 hi1 hn0 hn1 ho he0 he1 h2 h3 h4 h5
theorem sX12_fitI {i n pw ph : Int} (hT : 18 ≤ T) (hi0 : 0 ≤ i) (hi1 : i < 5) (hn0 : 0 ≤ n) (hn1 : n < 2147483647) (ho : oM v i) (he0 : 0 ≤ v 412 1) (he1 : v 412 1 ≤ 50) (h2 : 0 ≤ pw) (h3 : pw ≤ 2000) (h4 : 0 ≤ ph) (h5 : ph ≤ 2000) : jm_env (d + 3) 226 [.ref 411, .int (i3 i), .int (i3 n), .int (i3 pw), .int (i3 ph)] (qM X v w T c s) = some (.inl (some (.int (i3 (fitI v i n pw ph)))), qM X v (fw w (pq (hid (d + 3) 226 [.ref 411, .int (i3 i), .int (i3 n), .int (i3 pw), .int (i3 ph)] (qM X v w T c s)) X v w T c s)) T c s) := pq_eq (sX12_fitI_p hT hi0 hi1 hn0 hn1 ho he0 he1 h2 h3 h4 h5)

/-- the area of all -/
def areaG (v : Nat → Int → Int) (a : Int) (k n : Nat) : Int := a + kM v k n * aM v k n
theorem sX12_areaOfAll_p (hT : 18 ≤ T) (hg : gM v) : ∃ p, jm_env (d + 4) 223 [.ref 411] (qM X v w T c s) = some (.inl (some (.long (i6 (fo2 (areaG v) 0 (v 412 0).toNat)))), qM X v (fw w p) T c s) := by
  obtain ⟨hc0, hc1, -⟩ := id hg
  obtain ⟨⟨q, x, e⟩, -⟩ := lq2 (fun _ => True) (fun (k : Nat) (a : Int) (p : Int × Int) x => jm_R (jm_env (d + 3)) jmM_X12_areaOfAll 4 [some (.ref 411), some (.long (i6 a)), none, some (.int (i3 k)), x] [] (qM X v (fw w p) T c s)) (fun (k n : Nat) a p => jm_R (jm_env (d + 3)) jmM_X12_areaOfAll 19 [some (.ref 411), some (.long (i6 a)), none, some (.int (i3 k)), some (.int (i3 n))] [] (qM X v (fw w p) T c s)) (areaG v) (v 412 0).toNat
    (fun k a p x hk _ => ⟨p, by
      rw [bX12_areaOfAll_4]
      simp (disch := first | assumption | omega) only [eX12_areaOfAll, bX12_areaOfAll_0, bX12_areaOfAll_16, bX12_areaOfAll_26, bX12_areaOfAll_54, bX12_areaOfAll_60, r12_0, a12_0, w12_0, n12_0, i3_add, i3_sub, i3_mul, i3_neg, i6_add, i6_sub, i6_mul, i6_neg, i3_lt, i3_le, i3_eq, i6_lt, i6_eq, i3_div, i6_div, i6_i3, i3_i6, c6_lt, c6_ge, c6_gt, c6_le, c6_eq, i3_ite, i6_ite, ib_0, ib_z, ite_not, i1_0, i0_0, jB_1, jB_0, jB_ib, bI_v, bL_v, bD_v, bV_v, ob_s, ob_i, i3_ofNat, jx_e, bI_e, bL_e, bD_e, bV_e, i3_eq0, i6_eq0, if_mx, if_mn, if_true, if_false, not_true_eq_false, not_false_eq_true, Int.reduceEq, Int.reduceLT, Int.reduceLE]
      rw [if_neg (by omega)]
      rfl⟩)
    (fun k n a p hk hn _ => by
      have ho := hg.o (i := k) (by omega) (by omega)
      rw [bX12_areaOfAll_19]
      simp (disch := first | assumption | omega) only [eX12_areaOfAll, bX12_areaOfAll_0, bX12_areaOfAll_16, bX12_areaOfAll_26, bX12_areaOfAll_54, bX12_areaOfAll_60, r12_0, a12_0, w12_0, n12_0, i3_add, i3_sub, i3_mul, i3_neg, i6_add, i6_sub, i6_mul, i6_neg, i3_lt, i3_le, i3_eq, i6_lt, i6_eq, i3_div, i6_div, i6_i3, i3_i6, c6_lt, c6_ge, c6_gt, c6_le, c6_eq, i3_ite, i6_ite, ib_0, ib_z, ite_not, i1_0, i0_0, jB_1, jB_0, jB_ib, bI_v, bL_v, bD_v, bV_v, ob_s, ob_i, i3_ofNat, jx_e, bI_e, bL_e, bD_e, bV_e, i3_eq0, i6_eq0, if_mx, if_mn, if_true, if_false, not_true_eq_false, not_false_eq_true, Int.reduceEq, Int.reduceLT, Int.reduceLE, sX12_stackAt, sX12_areaOf, fw_fw]
      rw [if_neg (by omega)]
      exact ⟨_, rfl⟩)
    (fun k a p hk _ => ⟨p, some (.int (i3 10)), by
      rw [bX12_areaOfAll_19]
      simp (disch := first | assumption | omega) only [eX12_areaOfAll, bX12_areaOfAll_0, bX12_areaOfAll_16, bX12_areaOfAll_26, bX12_areaOfAll_54, bX12_areaOfAll_60, r12_0, a12_0, w12_0, n12_0, i3_add, i3_sub, i3_mul, i3_neg, i6_add, i6_sub, i6_mul, i6_neg, i3_lt, i3_le, i3_eq, i6_lt, i6_eq, i3_div, i6_div, i6_i3, i3_i6, c6_lt, c6_ge, c6_gt, c6_le, c6_eq, i3_ite, i6_ite, ib_0, ib_z, ite_not, i1_0, i0_0, jB_1, jB_0, jB_ib, bI_v, bL_v, bD_v, bV_v, ob_s, ob_i, i3_ofNat, jx_e, bI_e, bL_e, bD_e, bV_e, i3_eq0, i6_eq0, if_mx, if_mn, if_true, if_false, not_true_eq_false, not_false_eq_true, Int.reduceEq, Int.reduceLT, Int.reduceLE]
      rfl⟩)
    (fun _ _ _ _ _ _ => trivial) 0 (w 411 9, w 411 10) none trivial
  rw [fw_id] at e
  simp (disch := first | assumption | omega) only [eX12_areaOfAll, bX12_areaOfAll_0, bX12_areaOfAll_16, bX12_areaOfAll_26, bX12_areaOfAll_54, bX12_areaOfAll_60, r12_0, a12_0, w12_0, n12_0, i3_add, i3_sub, i3_mul, i3_neg, i6_add, i6_sub, i6_mul, i6_neg, i3_lt, i3_le, i3_eq, i6_lt, i6_eq, i3_div, i6_div, i6_i3, i3_i6, c6_lt, c6_ge, c6_gt, c6_le, c6_eq, i3_ite, i6_ite, ib_0, ib_z, ite_not, i1_0, i0_0, jB_1, jB_0, jB_ib, bI_v, bL_v, bD_v, bV_v, ob_s, ob_i, i3_ofNat, jx_e, bI_e, bL_e, bD_e, bV_e, i3_eq0, i6_eq0, if_mx, if_mn, if_true, if_false, not_true_eq_false, not_false_eq_true, Int.reduceEq, Int.reduceLT, Int.reduceLE]
  refine ⟨q, Eq.trans e ?_⟩
  rw [bX12_areaOfAll_4]
  simp (disch := first | assumption | omega) only [eX12_areaOfAll, bX12_areaOfAll_0, bX12_areaOfAll_16, bX12_areaOfAll_26, bX12_areaOfAll_54, bX12_areaOfAll_60, r12_0, a12_0, w12_0, n12_0, i3_add, i3_sub, i3_mul, i3_neg, i6_add, i6_sub, i6_mul, i6_neg, i3_lt, i3_le, i3_eq, i6_lt, i6_eq, i3_div, i6_div, i6_i3, i3_i6, c6_lt, c6_ge, c6_gt, c6_le, c6_eq, i3_ite, i6_ite, ib_0, ib_z, ite_not, i1_0, i0_0, jB_1, jB_0, jB_ib, bI_v, bL_v, bD_v, bV_v, ob_s, ob_i, i3_ofNat, jx_e, bI_e, bL_e, bD_e, bV_e, i3_eq0, i6_eq0, if_mx, if_mn, if_true, if_false, not_true_eq_false, not_false_eq_true, Int.reduceEq, Int.reduceLT, Int.reduceLE]
  rw [if_pos (by omega)]
theorem sX12_areaOfAll (hT : 18 ≤ T) (hg : gM v) : jm_env (d + 4) 223 [.ref 411] (qM X v w T c s) = some (.inl (some (.long (i6 (fo2 (areaG v) 0 (v 412 0).toNat)))), qM X v (fw w (pq (hid (d + 4) 223 [.ref 411] (qM X v w T c s)) X v w T c s)) T c s) := pq_eq (sX12_areaOfAll_p hT hg)

/-- how many sizes a print fits -/
def fitG (v : Nat → Int → Int) (pw ph : Int) (a : Int) (k n : Nat) : Int := a + fitI v k n pw ph
theorem fitG_b {v : Nat → Int → Int} {pw ph : Int} (m : Nat) : 0 ≤ fo2 (fitG v pw ph) 0 m := fo2_P (P := fun x => 0 ≤ x) m (by omega) (fun k n x _ _ hx => by have := fitI_01 (v := v) (i := k) (n := n) (pw := pw) (ph := ph); unfold fitG; omega)
theorem sX12_flagI {z : Int} {m : jm_Mem} (h0 : 0 ≤ z) (h1 : z ≤ 1) : jm_env (d + 1) 207 [.int (i3 z)] m = some (.inl (some (.int (i3 (z)))), m) := by
  have h : z = 0 ∨ z = 1 := by omega
  rcases h with rfl | rfl
  · exact sX12_flag_0
  · exact sX12_flag_1
theorem sX12_fittingOf_p {pw ph : Int} (hT : 18 ≤ T) (hg : gM v) (h2 : 0 ≤ pw) (h3 : pw ≤ 2000) (h4 : 0 ≤ ph) (h5 : ph ≤ 2000) : ∃ p, jm_env (d + 4) 231 [.ref 411, .int (i3 pw), .int (i3 ph)] (qM X v w T c s) = some (.inl (some (.int (i3 (fo2 (fitG v pw ph) 0 (v 412 0).toNat)))), qM X v (fw w p) T c s) := by
  obtain ⟨hc0, hc1, he0, he1, -⟩ := id hg
  obtain ⟨⟨q, x, e⟩, -⟩ := lq2 (fun _ => True) (fun (k : Nat) (a : Int) (p : Int × Int) x => jm_R (jm_env (d + 3)) jmM_X12_fittingOf 5 [some (.ref 411), some (.int (i3 pw)), some (.int (i3 ph)), some (.int (i3 a)), some (.int (i3 k)), x] [] (qM X v (fw w p) T c s)) (fun (k n : Nat) a p => jm_R (jm_env (d + 3)) jmM_X12_fittingOf 21 [some (.ref 411), some (.int (i3 pw)), some (.int (i3 ph)), some (.int (i3 a)), some (.int (i3 k)), some (.int (i3 n))] [] (qM X v (fw w p) T c s)) (fitG v pw ph) (v 412 0).toNat
    (fun k a p x hk _ => ⟨p, by
      rw [bX12_fittingOf_5]
      simp (disch := first | assumption | omega) only [eX12_fittingOf, bX12_fittingOf_0, bX12_fittingOf_18, bX12_fittingOf_28, bX12_fittingOf_50, bX12_fittingOf_56, r12_0, a12_0, w12_0, n12_0, i3_add, i3_sub, i3_mul, i3_neg, i6_add, i6_sub, i6_mul, i6_neg, i3_lt, i3_le, i3_eq, i6_lt, i6_eq, i3_div, i6_div, i6_i3, i3_i6, c6_lt, c6_ge, c6_gt, c6_le, c6_eq, i3_ite, i6_ite, ib_0, ib_z, ite_not, i1_0, i0_0, jB_1, jB_0, jB_ib, bI_v, bL_v, bD_v, bV_v, ob_s, ob_i, i3_ofNat, jx_e, bI_e, bL_e, bD_e, bV_e, i3_eq0, i6_eq0, if_mx, if_mn, if_true, if_false, not_true_eq_false, not_false_eq_true, Int.reduceEq, Int.reduceLT, Int.reduceLE]
      rw [if_neg (by omega)]
      rfl⟩)
    (fun k n a p hk hn _ => by
      have ho := hg.o (i := k) (by omega) (by omega)
      have hf := fitI_01 (v := v) (i := k) (n := n) (pw := pw) (ph := ph)
      rw [bX12_fittingOf_21]
      simp (disch := first | assumption | omega) only [eX12_fittingOf, bX12_fittingOf_0, bX12_fittingOf_18, bX12_fittingOf_28, bX12_fittingOf_50, bX12_fittingOf_56, r12_0, a12_0, w12_0, n12_0, i3_add, i3_sub, i3_mul, i3_neg, i6_add, i6_sub, i6_mul, i6_neg, i3_lt, i3_le, i3_eq, i6_lt, i6_eq, i3_div, i6_div, i6_i3, i3_i6, c6_lt, c6_ge, c6_gt, c6_le, c6_eq, i3_ite, i6_ite, ib_0, ib_z, ite_not, i1_0, i0_0, jB_1, jB_0, jB_ib, bI_v, bL_v, bD_v, bV_v, ob_s, ob_i, i3_ofNat, jx_e, bI_e, bL_e, bD_e, bV_e, i3_eq0, i6_eq0, if_mx, if_mn, if_true, if_false, not_true_eq_false, not_false_eq_true, Int.reduceEq, Int.reduceLT, Int.reduceLE, sX12_fitI, sX12_flagI, fw_fw]
      rw [if_neg (by omega)]
      exact ⟨_, rfl⟩)
    (fun k a p hk _ => ⟨p, some (.int (i3 10)), by
      rw [bX12_fittingOf_21]
      simp (disch := first | assumption | omega) only [eX12_fittingOf, bX12_fittingOf_0, bX12_fittingOf_18, bX12_fittingOf_28, bX12_fittingOf_50, bX12_fittingOf_56, r12_0, a12_0, w12_0, n12_0, i3_add, i3_sub, i3_mul, i3_neg, i6_add, i6_sub, i6_mul, i6_neg, i3_lt, i3_le, i3_eq, i6_lt, i6_eq, i3_div, i6_div, i6_i3, i3_i6, c6_lt, c6_ge, c6_gt, c6_le, c6_eq, i3_ite, i6_ite, ib_0, ib_z, ite_not, i1_0, i0_0, jB_1, jB_0, jB_ib, bI_v, bL_v, bD_v, bV_v, ob_s, ob_i, i3_ofNat, jx_e, bI_e, bL_e, bD_e, bV_e, i3_eq0, i6_eq0, if_mx, if_mn, if_true, if_false, not_true_eq_false, not_false_eq_true, Int.reduceEq, Int.reduceLT, Int.reduceLE]
      rfl⟩)
    (fun _ _ _ _ _ _ => trivial) 0 (w 411 9, w 411 10) none trivial
  rw [fw_id] at e
  simp (disch := first | assumption | omega) only [eX12_fittingOf, bX12_fittingOf_0, bX12_fittingOf_18, bX12_fittingOf_28, bX12_fittingOf_50, bX12_fittingOf_56, r12_0, a12_0, w12_0, n12_0, i3_add, i3_sub, i3_mul, i3_neg, i6_add, i6_sub, i6_mul, i6_neg, i3_lt, i3_le, i3_eq, i6_lt, i6_eq, i3_div, i6_div, i6_i3, i3_i6, c6_lt, c6_ge, c6_gt, c6_le, c6_eq, i3_ite, i6_ite, ib_0, ib_z, ite_not, i1_0, i0_0, jB_1, jB_0, jB_ib, bI_v, bL_v, bD_v, bV_v, ob_s, ob_i, i3_ofNat, jx_e, bI_e, bL_e, bD_e, bV_e, i3_eq0, i6_eq0, if_mx, if_mn, if_true, if_false, not_true_eq_false, not_false_eq_true, Int.reduceEq, Int.reduceLT, Int.reduceLE]
  refine ⟨q, Eq.trans e ?_⟩
  rw [bX12_fittingOf_5]
  simp (disch := first | assumption | omega) only [eX12_fittingOf, bX12_fittingOf_0, bX12_fittingOf_18, bX12_fittingOf_28, bX12_fittingOf_50, bX12_fittingOf_56, r12_0, a12_0, w12_0, n12_0, i3_add, i3_sub, i3_mul, i3_neg, i6_add, i6_sub, i6_mul, i6_neg, i3_lt, i3_le, i3_eq, i6_lt, i6_eq, i3_div, i6_div, i6_i3, i3_i6, c6_lt, c6_ge, c6_gt, c6_le, c6_eq, i3_ite, i6_ite, ib_0, ib_z, ite_not, i1_0, i0_0, jB_1, jB_0, jB_ib, bI_v, bL_v, bD_v, bV_v, ob_s, ob_i, i3_ofNat, jx_e, bI_e, bL_e, bD_e, bV_e, i3_eq0, i6_eq0, if_mx, if_mn, if_true, if_false, not_true_eq_false, not_false_eq_true, Int.reduceEq, Int.reduceLT, Int.reduceLE]
  rw [if_pos (by omega)]
theorem sX12_fittingOf {pw ph : Int} (hT : 18 ≤ T) (hg : gM v) (h2 : 0 ≤ pw) (h3 : pw ≤ 2000) (h4 : 0 ≤ ph) (h5 : ph ≤ 2000) : jm_env (d + 4) 231 [.ref 411, .int (i3 pw), .int (i3 ph)] (qM X v w T c s) = some (.inl (some (.int (i3 (fo2 (fitG v pw ph) 0 (v 412 0).toNat)))), qM X v (fw w (pq (hid (d + 4) 231 [.ref 411, .int (i3 pw), .int (i3 ph)] (qM X v w T c s)) X v w T c s)) T c s) := pq_eq (sX12_fittingOf_p hT hg h2 h3 h4 h5)

/-- the greatest supply of those that fit -/
def mosG (v : Nat → Int → Int) (pw ph : Int) (a : Int) (k n : Nat) : Int := if fitI v k n pw ph = 0 then a else max a (supM v k (n + 1))
theorem mosG_b {v : Nat → Int → Int} {pw ph : Int} (hg : gM v) (m : Nat) (hm : (m : Int) ≤ v 412 0) : 0 ≤ fo2 (mosG v pw ph) 0 m ∧ fo2 (mosG v pw ph) 0 m ≤ 9999 :=
  fo2_P (P := fun x => 0 ≤ x ∧ x ≤ 9999) m (by omega) (fun k n x hk hn hx => by
    have := hg.s (i := k) (n := n + 1) (by omega) (by omega) (by omega)
    unfold mosG; split <;> omega)
theorem sX12_mostSupply_p {pw ph : Int} (hT : 18 ≤ T) (hg : gM v) (h2 : 0 ≤ pw) (h3 : pw ≤ 2000) (h4 : 0 ≤ ph) (h5 : ph ≤ 2000) : ∃ p, jm_env (d + 6) 232 [.ref 411, .int (i3 pw), .int (i3 ph)] (qM X v w T c s) = some (.inl (some (.long (i6 (fo2 (mosG v pw ph) 0 (v 412 0).toNat)))), qM X v (fw w p) T c s) := by
  obtain ⟨hc0, hc1, he0, he1, -⟩ := id hg
  obtain ⟨⟨q, x, e⟩, -⟩ := lq2 (fun z => 0 ≤ z ∧ z ≤ 9999) (fun (k : Nat) (a : Int) (p : Int × Int) x => jm_R (jm_env (d + 5)) jmM_X12_mostSupply 5 [some (.ref 411), some (.int (i3 pw)), some (.int (i3 ph)), some (.long (i6 a)), none, some (.int (i3 k)), x] [] (qM X v (fw w p) T c s)) (fun (k n : Nat) a p => jm_R (jm_env (d + 5)) jmM_X12_mostSupply 21 [some (.ref 411), some (.int (i3 pw)), some (.int (i3 ph)), some (.long (i6 a)), none, some (.int (i3 k)), some (.int (i3 n))] [] (qM X v (fw w p) T c s)) (mosG v pw ph) (v 412 0).toNat
    (fun k a p x hk _ => ⟨p, by
      rw [bX12_mostSupply_5]
      simp (disch := first | assumption | omega) only [eX12_mostSupply, bX12_mostSupply_0, bX12_mostSupply_18, bX12_mostSupply_28, bX12_mostSupply_41, bX12_mostSupply_56, bX12_mostSupply_57, bX12_mostSupply_64, bX12_mostSupply_70, r12_0, a12_0, w12_0, n12_0, i3_add, i3_sub, i3_mul, i3_neg, i6_add, i6_sub, i6_mul, i6_neg, i3_lt, i3_le, i3_eq, i6_lt, i6_eq, i3_div, i6_div, i6_i3, i3_i6, c6_lt, c6_ge, c6_gt, c6_le, c6_eq, i3_ite, i6_ite, ib_0, ib_z, ite_not, i1_0, i0_0, jB_1, jB_0, jB_ib, bI_v, bL_v, bD_v, bV_v, ob_s, ob_i, i3_ofNat, jx_e, bI_e, bL_e, bD_e, bV_e, i3_eq0, i6_eq0, if_mx, if_mn, if_true, if_false, not_true_eq_false, not_false_eq_true, Int.reduceEq, Int.reduceLT, Int.reduceLE]
      rw [if_neg (by omega)]
      rfl⟩)
    (fun k n a p hk hn ha => by
      have ho := hg.o (i := k) (by omega) (by omega)
      have hk' := hg.k (i := k) (by omega) (by omega)
      have hs := hg.s (i := k) (n := n + 1) (by omega) (by omega) (by omega)
      have hf := fitI_01 (v := v) (i := k) (n := n) (pw := pw) (ph := ph)
      rw [bX12_mostSupply_21]
      simp (disch := first | assumption | omega) only [eX12_mostSupply, bX12_mostSupply_0, bX12_mostSupply_18, bX12_mostSupply_28, bX12_mostSupply_41, bX12_mostSupply_56, bX12_mostSupply_57, bX12_mostSupply_64, bX12_mostSupply_70, r12_0, a12_0, w12_0, n12_0, i3_add, i3_sub, i3_mul, i3_neg, i6_add, i6_sub, i6_mul, i6_neg, i3_lt, i3_le, i3_eq, i6_lt, i6_eq, i3_div, i6_div, i6_i3, i3_i6, c6_lt, c6_ge, c6_gt, c6_le, c6_eq, i3_ite, i6_ite, ib_0, ib_z, ite_not, i1_0, i0_0, jB_1, jB_0, jB_ib, bI_v, bL_v, bD_v, bV_v, ob_s, ob_i, i3_ofNat, jx_e, bI_e, bL_e, bD_e, bV_e, i3_eq0, i6_eq0, if_mx, if_mn, if_true, if_false, not_true_eq_false, not_false_eq_true, Int.reduceEq, Int.reduceLT, Int.reduceLE, sX12_fitI, sX12_supplyOf, sX12_greater, fw_fw]
      rw [if_neg (by omega)]
      unfold mosG
      by_cases hz : fitI v k n pw ph = 0
      · simp only [if_pos hz]
        exact ⟨_, rfl⟩
      · simp only [if_neg hz]
        exact ⟨_, rfl⟩)
    (fun k a p hk _ => ⟨p, some (.int (i3 10)), by
      rw [bX12_mostSupply_21]
      simp (disch := first | assumption | omega) only [eX12_mostSupply, bX12_mostSupply_0, bX12_mostSupply_18, bX12_mostSupply_28, bX12_mostSupply_41, bX12_mostSupply_56, bX12_mostSupply_57, bX12_mostSupply_64, bX12_mostSupply_70, r12_0, a12_0, w12_0, n12_0, i3_add, i3_sub, i3_mul, i3_neg, i6_add, i6_sub, i6_mul, i6_neg, i3_lt, i3_le, i3_eq, i6_lt, i6_eq, i3_div, i6_div, i6_i3, i3_i6, c6_lt, c6_ge, c6_gt, c6_le, c6_eq, i3_ite, i6_ite, ib_0, ib_z, ite_not, i1_0, i0_0, jB_1, jB_0, jB_ib, bI_v, bL_v, bD_v, bV_v, ob_s, ob_i, i3_ofNat, jx_e, bI_e, bL_e, bD_e, bV_e, i3_eq0, i6_eq0, if_mx, if_mn, if_true, if_false, not_true_eq_false, not_false_eq_true, Int.reduceEq, Int.reduceLT, Int.reduceLE]
      rfl⟩)
    (fun k n a hk hn ha => by
      have hs := hg.s (i := k) (n := n + 1) (by omega) (by omega) (by omega)
      unfold mosG; split <;> omega) 0 (w 411 9, w 411 10) none (by omega)
  rw [fw_id] at e
  simp (disch := first | assumption | omega) only [eX12_mostSupply, bX12_mostSupply_0, bX12_mostSupply_18, bX12_mostSupply_28, bX12_mostSupply_41, bX12_mostSupply_56, bX12_mostSupply_57, bX12_mostSupply_64, bX12_mostSupply_70, r12_0, a12_0, w12_0, n12_0, i3_add, i3_sub, i3_mul, i3_neg, i6_add, i6_sub, i6_mul, i6_neg, i3_lt, i3_le, i3_eq, i6_lt, i6_eq, i3_div, i6_div, i6_i3, i3_i6, c6_lt, c6_ge, c6_gt, c6_le, c6_eq, i3_ite, i6_ite, ib_0, ib_z, ite_not, i1_0, i0_0, jB_1, jB_0, jB_ib, bI_v, bL_v, bD_v, bV_v, ob_s, ob_i, i3_ofNat, jx_e, bI_e, bL_e, bD_e, bV_e, i3_eq0, i6_eq0, if_mx, if_mn, if_true, if_false, not_true_eq_false, not_false_eq_true, Int.reduceEq, Int.reduceLT, Int.reduceLE]
  refine ⟨q, Eq.trans e ?_⟩
  rw [bX12_mostSupply_5]
  simp (disch := first | assumption | omega) only [eX12_mostSupply, bX12_mostSupply_0, bX12_mostSupply_18, bX12_mostSupply_28, bX12_mostSupply_41, bX12_mostSupply_56, bX12_mostSupply_57, bX12_mostSupply_64, bX12_mostSupply_70, r12_0, a12_0, w12_0, n12_0, i3_add, i3_sub, i3_mul, i3_neg, i6_add, i6_sub, i6_mul, i6_neg, i3_lt, i3_le, i3_eq, i6_lt, i6_eq, i3_div, i6_div, i6_i3, i3_i6, c6_lt, c6_ge, c6_gt, c6_le, c6_eq, i3_ite, i6_ite, ib_0, ib_z, ite_not, i1_0, i0_0, jB_1, jB_0, jB_ib, bI_v, bL_v, bD_v, bV_v, ob_s, ob_i, i3_ofNat, jx_e, bI_e, bL_e, bD_e, bV_e, i3_eq0, i6_eq0, if_mx, if_mn, if_true, if_false, not_true_eq_false, not_false_eq_true, Int.reduceEq, Int.reduceLT, Int.reduceLE]
  rw [if_pos (by omega)]
theorem sX12_mostSupply {pw ph : Int} (hT : 18 ≤ T) (hg : gM v) (h2 : 0 ≤ pw) (h3 : pw ≤ 2000) (h4 : 0 ≤ ph) (h5 : ph ≤ 2000) : jm_env (d + 6) 232 [.ref 411, .int (i3 pw), .int (i3 ph)] (qM X v w T c s) = some (.inl (some (.long (i6 (fo2 (mosG v pw ph) 0 (v 412 0).toNat)))), qM X v (fw w (pq (hid (d + 6) 232 [.ref 411, .int (i3 pw), .int (i3 ph)] (qM X v w T c s)) X v w T c s)) T c s) := pq_eq (sX12_mostSupply_p hT hg h2 h3 h4 h5)

/-- the two fields in which the nearest size lies -/
def nw (w : Nat → Int → Int) (p : Int × Int) : Nat → Int → Int := up (up w 411 11 p.1) 411 12 p.2
section NWS
variable {p q : Int × Int} {z : Int} {n : Nat} {k : Int}
theorem nw_11 : nw w p 411 11 = p.1 := by unfold nw; rw [up_ne (by omega), up_eq]
theorem nw_12 : nw w p 411 12 = p.2 := by unfold nw; rw [up_eq]
theorem nw_ne (h : n ≠ 411 ∨ (k ≠ 11 ∧ k ≠ 12)) : nw w p n k = w n k := by unfold nw; rw [up_ne (by omega), up_ne (by omega)]
theorem nw_b (h : n ≠ 411) : nw w p n = w n := by funext k; exact nw_ne (Or.inl h)
theorem nw_u11 : up (nw w p) 411 11 z = nw w (z, p.2) := by unfold nw; rw [up_sw (by omega), up_up]
theorem nw_u12 : up (nw w p) 411 12 z = nw w (p.1, z) := by unfold nw; rw [up_up]
theorem nw_nw : nw (nw w p) q = nw w q := by
  rw [show nw (nw w p) q = up (up (nw w p) 411 11 q.1) 411 12 q.2 from rfl, nw_u11, nw_u12]
theorem nw_id : nw w (w 411 11, w 411 12) = w := by
  unfold nw
  rw [up_same, up_same]
theorem nw_i11 : nw w (z, w 411 12) = up w 411 11 z := by
  unfold nw
  rw [up_sw (by omega)]
  dsimp only
  rw [up_same]
end NWS
/-- nearer than what was found so far -/
def nrI (v : Nat → Int → Int) (st : Int × Int) (i a : Int) : Int := if st.1 = -1 ∨ a < aM v st.1 st.2 ∨ (a = aM v st.1 st.2 ∧ i = st.1) then 1 else 0
theorem sX12_isNearer_p {st : Int × Int} {i n a : Int} (hT : 18 ≤ T) (hw : w 411 11 = st.1) (hw2 : w 411 12 = st.2) (ha0 : 0 ≤ a) (ha1 : a ≤ 4000000) (hi0 : 0 ≤ i) (hi1 : i < 5) (hs : st.1 = -1 ∨ (0 ≤ st.1 ∧ st.1 < 5 ∧ 0 ≤ st.2 ∧ st.2 < 10 ∧ oM v st.1)) : ∃ p, jm_env (d + 4) 227 [.ref 411, .int (i3 i), .int (i3 n), .long (i6 a)] (qM X v w T c s) = some (.inl (some (.int (i3 (nrI v st i a)))), qM X v (fw w p) T c s) := by
  unfold nrI
  rcases hs with hs | ⟨h1, h2, h3, h4, h5⟩
  · rw [hs] at hw ⊢
    simp (disch := first | assumption | omega) only [eX12_isNearer, bX12_isNearer_0, bX12_isNearer_8, bX12_isNearer_10, bX12_isNearer_31, bX12_isNearer_38, bX12_isNearer_46, bX12_isNearer_50, bX12_isNearer_51, g12_11, g12_12, i3_add, i3_sub, i3_mul, i3_neg, i6_add, i6_sub, i6_mul, i6_neg, i3_lt, i3_le, i3_eq, i6_lt, i6_eq, i3_div, i6_div, i6_i3, i3_i6, c6_lt, c6_ge, c6_gt, c6_le, c6_eq, i3_ite, i6_ite, ib_0, ib_z, ite_not, i1_0, i0_0, jB_1, jB_0, jB_ib, bI_v, bL_v, bD_v, bV_v, ob_s, ob_i, i3_ofNat, jx_e, bI_e, bL_e, bD_e, bV_e, i3_eq0, i6_eq0, if_mx, if_mn, if_true, if_false, not_true_eq_false, not_false_eq_true, Int.reduceEq, Int.reduceLT, Int.reduceLE, hw]
    exact ⟨(w 411 9, w 411 10), by rw [fw_id]; simp⟩
  · have hb := aM_b h5 st.2
    simp (disch := first | assumption | omega) only [eX12_isNearer, bX12_isNearer_0, bX12_isNearer_8, bX12_isNearer_10, bX12_isNearer_31, bX12_isNearer_38, bX12_isNearer_46, bX12_isNearer_50, bX12_isNearer_51, g12_11, g12_12, i3_add, i3_sub, i3_mul, i3_neg, i6_add, i6_sub, i6_mul, i6_neg, i3_lt, i3_le, i3_eq, i6_lt, i6_eq, i3_div, i6_div, i6_i3, i3_i6, c6_lt, c6_ge, c6_gt, c6_le, c6_eq, i3_ite, i6_ite, ib_0, ib_z, ite_not, i1_0, i0_0, jB_1, jB_0, jB_ib, bI_v, bL_v, bD_v, bV_v, ob_s, ob_i, i3_ofNat, jx_e, bI_e, bL_e, bD_e, bV_e, i3_eq0, i6_eq0, if_mx, if_mn, if_true, if_false, not_true_eq_false, not_false_eq_true, Int.reduceEq, Int.reduceLT, Int.reduceLE, hw, hw2, sX12_areaOf, fw_ne]
    rw [if_neg (by omega)]
    refine ⟨szM v st.1 st.2, ?_⟩
    all_goals ((repeat' split) <;> first | rfl | (apply fin_i; omega) | (exfalso; omega))
theorem sX12_isNearer {st : Int × Int} {i n a : Int} (hT : 18 ≤ T) (hw : w 411 11 = st.1) (hw2 : w 411 12 = st.2) (ha0 : 0 ≤ a) (ha1 : a ≤ 4000000) (hi0 : 0 ≤ i) (hi1 : i < 5) (hs : st.1 = -1 ∨ (0 ≤ st.1 ∧ st.1 < 5 ∧ 0 ≤ st.2 ∧ st.2 < 10 ∧ oM v st.1)) : jm_env (d + 4) 227 [.ref 411, .int (i3 i), .int (i3 n), .long (i6 a)] (qM X v w T c s) = some (.inl (some (.int (i3 (nrI v st i a)))), qM X v (fw w (pq (hid (d + 4) 227 [.ref 411, .int (i3 i), .int (i3 n), .long (i6 a)] (qM X v w T c s)) X v w T c s)) T c s) := pq_eq (sX12_isNearer_p hT hw hw2 ha0 ha1 hi0 hi1 hs)

def nrG (v : Nat → Int → Int) (pw ph num : Int) (st : Int × Int) (k n : Nat) : Int × Int := if fitI v k n pw ph = 1 ∧ num ≤ supM v k (n + 1) ∧ nrI v st k (aM v k n) = 1 then ((k : Int), (n : Int)) else st
def nrP (v : Nat → Int → Int) (st : Int × Int) : Prop := st.1 = -1 ∨ (0 ≤ st.1 ∧ st.1 < v 412 0 ∧ 0 ≤ st.2 ∧ st.2 < 10)
theorem nrG_P {v : Nat → Int → Int} {pw ph num : Int} {st : Int × Int} {k n : Nat} (h : nrP v st) (hk : (k : Int) < v 412 0) (hn : n < 10) : nrP v (nrG v pw ph num st k n) := by
  unfold nrG
  split
  · exact Or.inr ⟨by simp, by simpa using hk, by simp, by simp; omega⟩
  · exact h
def nrM (v : Nat → Int → Int) (pw ph num x : Int) : Int × Int := fo2 (nrG v pw ph num) (-1, x) (v 412 0).toNat
theorem nrM_P {v : Nat → Int → Int} {pw ph num x : Int} : nrP v (nrM v pw ph num x) := fo2_P (P := nrP v) _ (Or.inl rfl) (fun k n y hk hn hy => nrG_P hy (by omega) hn)
theorem sX12_seeks_p {pw ph num : Int} (hT : 18 ≤ T) (hg : gM v) (h2 : 0 ≤ pw) (h3 : pw ≤ 2000) (h4 : 0 ≤ ph) (h5 : ph ≤ 2000) (h6 : 0 ≤ num) (h7 : num ≤ 10000) : ∃ p, jm_env (d + 6) 228 [.ref 411, .int (i3 pw), .int (i3 ph), .int (i3 num)] (qM X v w T c s) = some (.inl none, qM X v (fw (nw w (nrM v pw ph num (w 411 12))) p) T c s) := by
  obtain ⟨hc0, hc1, he0, he1, -⟩ := id hg
  obtain ⟨⟨q, x, e⟩, -⟩ := lq2 (nrP v) (fun (k : Nat) (a : Int × Int) (p : Int × Int) x => jm_R (jm_env (d + 5)) jmM_X12_seeks 8 [some (.ref 411), some (.int (i3 pw)), some (.int (i3 ph)), some (.int (i3 num)), some (.int (i3 k)), x] [] (qM X v (fw (nw w a) p) T c s)) (fun (k n : Nat) a p => jm_R (jm_env (d + 5)) jmM_X12_seeks 24 [some (.ref 411), some (.int (i3 pw)), some (.int (i3 ph)), some (.int (i3 num)), some (.int (i3 k)), some (.int (i3 n))] [] (qM X v (fw (nw w a) p) T c s)) (nrG v pw ph num) (v 412 0).toNat
    (fun k a p x hk _ => ⟨p, by
      rw [bX12_seeks_8]
      simp (disch := first | assumption | omega) only [eX12_seeks, bX12_seeks_0, bX12_seeks_21, bX12_seeks_31, bX12_seeks_44, bX12_seeks_58, bX12_seeks_77, bX12_seeks_89, bX12_seeks_95, bX12_seeks_101, p12_11, r12_0, a12_0, w12_0, n12_0, p12_12, i3_add, i3_sub, i3_mul, i3_neg, i6_add, i6_sub, i6_mul, i6_neg, i3_lt, i3_le, i3_eq, i6_lt, i6_eq, i3_div, i6_div, i6_i3, i3_i6, c6_lt, c6_ge, c6_gt, c6_le, c6_eq, i3_ite, i6_ite, ib_0, ib_z, ite_not, i1_0, i0_0, jB_1, jB_0, jB_ib, bI_v, bL_v, bD_v, bV_v, ob_s, ob_i, i3_ofNat, jx_e, bI_e, bL_e, bD_e, bV_e, i3_eq0, i6_eq0, if_mx, if_mn, if_true, if_false, not_true_eq_false, not_false_eq_true, Int.reduceEq, Int.reduceLT, Int.reduceLE]
      rw [if_neg (by omega)]
      rfl⟩)
    (fun k n a p hk hn ha => by
      have ho := hg.o (i := k) (by omega) (by omega)
      have hk' := hg.k (i := k) (by omega) (by omega)
      have hs := hg.s (i := k) (n := n + 1) (by omega) (by omega) (by omega)
      have hf := fitI_01 (v := v) (i := k) (n := n) (pw := pw) (ph := ph)
      have hab := aM_b ho n
      have hst : a.1 = -1 ∨ (0 ≤ a.1 ∧ a.1 < 5 ∧ 0 ≤ a.2 ∧ a.2 < 10 ∧ oM v a.1) := by
        rcases ha with ha | ⟨g1, g2, g3, g4⟩
        · exact Or.inl ha
        · exact Or.inr ⟨g1, by omega, g3, g4, hg.o g1 g2⟩
      have hni : 0 ≤ nrI v a k (aM v k n) ∧ nrI v a k (aM v k n) ≤ 1 := by unfold nrI; split <;> omega
      have e1 : ∀ p, (fw (nw w a) p) 411 11 = a.1 := fun p => by rw [fw_ne (by omega), nw_11]
      have e2 : ∀ p, (fw (nw w a) p) 411 12 = a.2 := fun p => by rw [fw_ne (by omega), nw_12]
      rw [bX12_seeks_24]
      simp (disch := first | assumption | omega) only [eX12_seeks, bX12_seeks_0, bX12_seeks_21, bX12_seeks_31, bX12_seeks_44, bX12_seeks_58, bX12_seeks_77, bX12_seeks_89, bX12_seeks_95, bX12_seeks_101, i3_add, i3_sub, i3_mul, i3_neg, i6_add, i6_sub, i6_mul, i6_neg, i3_lt, i3_le, i3_eq, i6_lt, i6_eq, i3_div, i6_div, i6_i3, i3_i6, c6_lt, c6_ge, c6_gt, c6_le, c6_eq, i3_ite, i6_ite, ib_0, ib_z, ite_not, i1_0, i0_0, jB_1, jB_0, jB_ib, bI_v, bL_v, bD_v, bV_v, ob_s, ob_i, i3_ofNat, jx_e, bI_e, bL_e, bD_e, bV_e, i3_eq0, i6_eq0, if_mx, if_mn, if_true, if_false, not_true_eq_false, not_false_eq_true, Int.reduceEq, Int.reduceLT, Int.reduceLE, r12_0, a12_0, sX12_fitI, sX12_supplyOf, sX12_areaOf, fw_fw]
      rw [if_neg (by omega)]
      by_cases hz : fitI v k n pw ph = 0
      · rw [if_pos hz]
        exact ⟨_, by rw [show nrG v pw ph num a k n = a from if_neg (by omega)]; rfl⟩
      · rw [if_neg hz]
        by_cases hz2 : supM v k (n + 1) < num
        · rw [if_pos hz2]
          exact ⟨_, by rw [show nrG v pw ph num a k n = a from if_neg (by omega)]; rfl⟩
        · rw [if_neg hz2]
          rw [sX12_isNearer (st := a) hT (e1 _) (e2 _) hab.1 hab.2 (by omega) (by omega) hst]
          simp (disch := first | assumption | omega) only [eX12_seeks, bX12_seeks_0, bX12_seeks_21, bX12_seeks_31, bX12_seeks_44, bX12_seeks_58, bX12_seeks_77, bX12_seeks_89, bX12_seeks_95, bX12_seeks_101, i3_add, i3_sub, i3_mul, i3_neg, i6_add, i6_sub, i6_mul, i6_neg, i3_lt, i3_le, i3_eq, i6_lt, i6_eq, i3_div, i6_div, i6_i3, i3_i6, c6_lt, c6_ge, c6_gt, c6_le, c6_eq, i3_ite, i6_ite, ib_0, ib_z, ite_not, i1_0, i0_0, jB_1, jB_0, jB_ib, bI_v, bL_v, bD_v, bV_v, ob_s, ob_i, i3_ofNat, jx_e, bI_e, bL_e, bD_e, bV_e, i3_eq0, i6_eq0, if_mx, if_mn, if_true, if_false, not_true_eq_false, not_false_eq_true, Int.reduceEq, Int.reduceLT, Int.reduceLE, r12_0, a12_0, p12_11, p12_12, fw_fw]
          by_cases hz3 : nrI v a k (aM v k n) = 0
          · rw [if_pos hz3]
            exact ⟨_, by rw [show nrG v pw ph num a k n = a from if_neg (by omega)]; rfl⟩
          · rw [if_neg hz3]
            simp (disch := first | assumption | omega) only [fw_up, nw_u11, nw_u12]
            exact ⟨_, by rw [show nrG v pw ph num a k n = ((k : Int), (n : Int)) from if_pos (by omega)]; rfl⟩)
    (fun k a p hk _ => ⟨p, some (.int (i3 10)), by
      rw [bX12_seeks_24]
      simp (disch := first | assumption | omega) only [eX12_seeks, bX12_seeks_0, bX12_seeks_21, bX12_seeks_31, bX12_seeks_44, bX12_seeks_58, bX12_seeks_77, bX12_seeks_89, bX12_seeks_95, bX12_seeks_101, i3_add, i3_sub, i3_mul, i3_neg, i6_add, i6_sub, i6_mul, i6_neg, i3_lt, i3_le, i3_eq, i6_lt, i6_eq, i3_div, i6_div, i6_i3, i3_i6, c6_lt, c6_ge, c6_gt, c6_le, c6_eq, i3_ite, i6_ite, ib_0, ib_z, ite_not, i1_0, i0_0, jB_1, jB_0, jB_ib, bI_v, bL_v, bD_v, bV_v, ob_s, ob_i, i3_ofNat, jx_e, bI_e, bL_e, bD_e, bV_e, i3_eq0, i6_eq0, if_mx, if_mn, if_true, if_false, not_true_eq_false, not_false_eq_true, Int.reduceEq, Int.reduceLT, Int.reduceLE]
      rfl⟩)
    (fun k n a hk hn ha => nrG_P ha (by omega) hn) (-1, w 411 12) (w 411 9, w 411 10) none (Or.inl rfl)
  have e0 : fw (nw w (-1, w 411 12)) (w 411 9, w 411 10) = up w 411 11 (-1) := by
    rw [nw_i11]
    have h := fw_id (w := up w 411 11 (-1))
    rw [up_ne (by omega), up_ne (by omega)] at h
    exact h
  rw [e0] at e
  simp (disch := first | assumption | omega) only [eX12_seeks, bX12_seeks_0, bX12_seeks_21, bX12_seeks_31, bX12_seeks_44, bX12_seeks_58, bX12_seeks_77, bX12_seeks_89, bX12_seeks_95, bX12_seeks_101, p12_11, r12_0, a12_0, w12_0, n12_0, p12_12, i3_add, i3_sub, i3_mul, i3_neg, i6_add, i6_sub, i6_mul, i6_neg, i3_lt, i3_le, i3_eq, i6_lt, i6_eq, i3_div, i6_div, i6_i3, i3_i6, c6_lt, c6_ge, c6_gt, c6_le, c6_eq, i3_ite, i6_ite, ib_0, ib_z, ite_not, i1_0, i0_0, jB_1, jB_0, jB_ib, bI_v, bL_v, bD_v, bV_v, ob_s, ob_i, i3_ofNat, jx_e, bI_e, bL_e, bD_e, bV_e, i3_eq0, i6_eq0, if_mx, if_mn, if_true, if_false, not_true_eq_false, not_false_eq_true, Int.reduceEq, Int.reduceLT, Int.reduceLE]
  refine ⟨q, Eq.trans e ?_⟩
  rw [bX12_seeks_8]
  simp (disch := first | assumption | omega) only [eX12_seeks, bX12_seeks_0, bX12_seeks_21, bX12_seeks_31, bX12_seeks_44, bX12_seeks_58, bX12_seeks_77, bX12_seeks_89, bX12_seeks_95, bX12_seeks_101, p12_11, r12_0, a12_0, w12_0, n12_0, p12_12, i3_add, i3_sub, i3_mul, i3_neg, i6_add, i6_sub, i6_mul, i6_neg, i3_lt, i3_le, i3_eq, i6_lt, i6_eq, i3_div, i6_div, i6_i3, i3_i6, c6_lt, c6_ge, c6_gt, c6_le, c6_eq, i3_ite, i6_ite, ib_0, ib_z, ite_not, i1_0, i0_0, jB_1, jB_0, jB_ib, bI_v, bL_v, bD_v, bV_v, ob_s, ob_i, i3_ofNat, jx_e, bI_e, bL_e, bD_e, bV_e, i3_eq0, i6_eq0, if_mx, if_mn, if_true, if_false, not_true_eq_false, not_false_eq_true, Int.reduceEq, Int.reduceLT, Int.reduceLE]
  rw [if_pos (by omega)]
  rfl
theorem sX12_seeks {pw ph num : Int} (hT : 18 ≤ T) (hg : gM v) (h2 : 0 ≤ pw) (h3 : pw ≤ 2000) (h4 : 0 ≤ ph) (h5 : ph ≤ 2000) (h6 : 0 ≤ num) (h7 : num ≤ 10000) : jm_env (d + 6) 228 [.ref 411, .int (i3 pw), .int (i3 ph), .int (i3 num)] (qM X v w T c s) = some (.inl none, qM X v (fw (nw w (nrM v pw ph num (w 411 12))) (pq (hid (d + 6) 228 [.ref 411, .int (i3 pw), .int (i3 ph), .int (i3 num)] (qM X v w T c s)) X v (nw w (nrM v pw ph num (w 411 12))) T c s)) T c s) := pq_eq (sX12_seeks_p hT hg h2 h3 h4 h5 h6 h7)

end MO2
