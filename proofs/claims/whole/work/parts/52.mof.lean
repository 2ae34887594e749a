-- uses 24.zar 25.obj 26.ops 30.rd 31.re 34.gen 38.mod 39.mo2 40.mo3 41.bit 42.mo4 43.mo5 44.mo6 45.mo7 46.mo8 47.mo9 48.moa 49.mob 50.moc 51.moe
/-! The reference: whyNot, ifOrder. -/
theorem gM_e {v : Nat → Int → Int} {e : Int} (h : gM v) (h0 : 0 ≤ e) (h1 : e ≤ 50) : gM (up v 412 1 e) := by
  obtain ⟨a, b, -, -, f⟩ := h
  unfold gM
  rw [up_ne (by omega), up_eq]
  refine ⟨a, b, h0, h1, fun i i0 i1 => ⟨oM_up (f i i0 i1).1 (by omega), fun n n0 n1 => ?_⟩⟩
  have := (f i i0 i1).2 n n0 n1
  unfold kM at this ⊢
  rw [up_ne (by omega)]
  exact this
/-- the greatest edge with which something fits -/
def besF (v : Nat → Int → Int) (a b : Int) : Int := fnd (fun k : Nat => 0 < fo2 (fitG (up v 412 1 (50 - (k : Int))) a b) 0 (v 412 0).toNat) (fun k => 50 - (k : Int)) (-1) 0 51
def whyA (v : Nat → Int → Int) (a b q : Int) : Int := if (nrA v a b q).1 = -1 then (if fo2 (fitG v a b) 0 (v 412 0).toNat = 0 then 1 else 2) else 0
def whyB (v : Nat → Int → Int) (a b q z : Int) : Int := if z = 0 then whyA v a b q else if whyA v a b q = 1 then besF v a b else if whyA v a b q = 2 then fo2 (mosG v a b) 0 (v 412 0).toNat else -1
def ifF (v : Nat → Int → Int) (i : Int) (n : Nat) (a b q z : Int) : Int := if z = 0 then cuS (kM v i) q n n else if z = 1 then fsS v i q n else if z = 2 then (aM v i n - a * b) * q else kM v i n + 2 * cuF (kM v i) q n ((n : Int) - 1) - q
def ifA (v : Nat → Int → Int) (a b q z : Int) : Int := if (nrA v a b q).1 = -1 then -1 else min 2147483647 (ifF v (nrA v a b q).1 (nrA v a b q).2.toNat a b q z)
theorem fitG_m {v : Nat → Int → Int} {a b : Int} {m : Nat} (hm : m ≤ 5) : 0 ≤ fo2 (fitG v a b) 0 m ∧ fo2 (fitG v a b) 0 m ≤ 50 := by
  refine ⟨fitG_b m, ?_⟩
  have h := fo_P (g := fun x k => fo (fun x n => fitG v a b x k n) x 10) (a := 0) (P := fun k x => x ≤ 10 * (k : Int)) (by omega) m (fun k x hk hx => by
    have h2 := fo_P (g := fun x n => fitG v a b x k n) (a := x) (P := fun n y => y ≤ 10 * (k : Int) + n) (by omega) 10 (fun n y hn hy => by
      have := fitI_01 (v := v) (i := k) (n := n) (pw := a) (ph := b)
      unfold fitG
      omega)
    omega)
  unfold fo2
  omega
theorem fsS_b {v : Nat → Int → Int} {i q : Int} {n : Nat} (hg : gM v) (hi0 : 0 ≤ i) (hi1 : i < v 412 0) (hn : n < 10) (hq0 : 0 ≤ q) (hq1 : q ≤ 1000) : -1000000000000 ≤ fsS v i q n ∧ fsS v i q n ≤ 1000000000000 := by
  have hk := hg.k hi0 hi1
  have h := fo_P (g := strM v i (cuF (kM v i) q n)) (a := 0) (P := fun k x => -(100000000000 * (k : Int)) ≤ x ∧ x ≤ 100000000000 * (k : Int)) (by omega) 10 (fun k x hk1 hx => by
    have h1 := cuF_b (K := kM v i) (q := q) (n := n) hq0 (fun k k0 k1 => (hk k k0 (by omega)).1) k
    have h2 := aM_b (hg.o hi0 hi1) k
    have h3 := aM_b (hg.o hi0 hi1) ((k : Int) + 1)
    have h4 : cuF (kM v i) q n k * (aM v i k - 2 * aM v i ((k : Int) + 1)) ≤ 1000 * 8000000 := by
      by_cases g : 0 ≤ aM v i k - 2 * aM v i ((k : Int) + 1)
      · exact Int.mul_le_mul (by omega) (by omega) g (by omega)
      · have := Int.mul_nonpos_of_nonneg_of_nonpos h1.1 (show aM v i k - 2 * aM v i ((k : Int) + 1) ≤ 0 by omega)
        omega
    have h5 : cuF (kM v i) q n k * (2 * aM v i ((k : Int) + 1) - aM v i k) ≤ 1000 * 8000000 := by
      by_cases g : 0 ≤ 2 * aM v i ((k : Int) + 1) - aM v i k
      · exact Int.mul_le_mul (by omega) (by omega) g (by omega)
      · have := Int.mul_nonpos_of_nonneg_of_nonpos h1.1 (show 2 * aM v i ((k : Int) + 1) - aM v i k ≤ 0 by omega)
        omega
    have h6 : cuF (kM v i) q n k * (2 * aM v i ((k : Int) + 1) - aM v i k) = -(cuF (kM v i) q n k * (aM v i k - 2 * aM v i ((k : Int) + 1))) := by
      rw [← Int.mul_neg, Int.neg_sub]
    unfold strM
    split <;> omega)
  unfold fsS
  omega
section MOF
variable {d : Nat} {X : Nat × (Nat → Int32)} {v w : Nat → Int → Int} {T c s : Nat}
theorem sX12_bestEdge_p {a b : Int} (hT : 18 ≤ T) (hg : gM v) (h2 : 0 ≤ a) (h3 : a ≤ 2000) (h4 : 0 ≤ b) (h5 : b ≤ 2000) : ∃ p, jm_env (d + 5) 328 [.ref 411, .int (i3 a), .int (i3 b)] (qM X v w T c s) = some (.inl (some (.int (i3 (besF v a b)))), qM X v (fw w p) T c s) := by
  obtain ⟨hc0, hc1, he0, he1, -⟩ := id hg
  have hl := ch_fp (p := fun k : Nat => 0 < fo2 (fitG (up v 412 1 (50 - (k : Int))) a b) 0 (v 412 0).toNat) (fun (k : Nat) (p : (Int × Int) × Int) => jm_R (jm_env (d + 4)) jmM_X12_bestEdge 14 [some (.ref 411), some (.int (i3 a)), some (.int (i3 b)), some (.long (i6 (v 412 1))), none, some (.int (i3 (-1))), some (.int (i3 (50 - (k : Int))))] [] (qM X (up v 412 1 p.2) (fw w p.1) T c s)) (fun (k : Nat) p => some (.inl (some (.int (i3 (50 - (k : Int))))), qM X v (fw w p.1) T c s)) (fun p => some (.inl (some (.int (i3 (-1)))), qM X v (fw w p.1) T c s)) (fun (k : Nat) p => some (.inl (some (.int (i3 (50 - (k : Int))))), qM X v (fw w p.1) T c s)) 51 (fun k hk p => by
    have hge := gM_e (e := 50 - (k : Int)) hg (by omega) (by omega)
    have hb := fitG_m (v := up v 412 1 (50 - (k : Int))) (a := a) (b := b) (m := (v 412 0).toNat) (by omega)
    have e0 : up v 412 1 (50 - (k : Int)) 412 0 = v 412 0 := up_ne (by omega)
    rw [bX12_bestEdge_14]
    simp (disch := first | assumption | omega) only [eX12_bestEdge, bX12_bestEdge_0, bX12_bestEdge_19, bX12_bestEdge_25, bX12_bestEdge_43, bX12_bestEdge_48, bX12_bestEdge_49, bX12_bestEdge_57, r12_0, a12_0, w12_0, n12_0, i3_add, i3_sub, i3_mul, i3_neg, i6_add, i6_sub, i6_mul, i6_neg, i3_lt, i3_le, i3_eq, i6_lt, i6_eq, i3_div, i6_div, i6_i3, i3_i6, c6_lt, c6_ge, c6_gt, c6_le, c6_eq, i3_ite, i6_ite, ib_0, ib_z, ite_not, i1_0, i0_0, jB_1, jB_0, jB_ib, bI_v, bL_v, bD_v, bV_v, ob_s, ob_i, i3_ofNat, jx_e, bI_e, bL_e, bD_e, bV_e, i3_eq0, i6_eq0, if_mx, if_mn, if_true, if_false, not_true_eq_false, not_false_eq_true, Int.reduceEq, Int.reduceLT, Int.reduceLE, up_up, sX12_fittingOf, fw_fw, e0]
    rw [if_neg (by omega)]
    by_cases q : 0 < fo2 (fitG (up v 412 1 (50 - (k : Int))) a b) 0 (v 412 0).toNat
    · simp only [if_pos q]
      rw [if_neg (by omega), bX12_bestEdge_14]
      simp (disch := first | assumption | omega) only [eX12_bestEdge, bX12_bestEdge_0, bX12_bestEdge_19, bX12_bestEdge_25, bX12_bestEdge_43, bX12_bestEdge_48, bX12_bestEdge_49, bX12_bestEdge_57, r12_0, a12_0, w12_0, n12_0, i3_add, i3_sub, i3_mul, i3_neg, i6_add, i6_sub, i6_mul, i6_neg, i3_lt, i3_le, i3_eq, i6_lt, i6_eq, i3_div, i6_div, i6_i3, i3_i6, c6_lt, c6_ge, c6_gt, c6_le, c6_eq, i3_ite, i6_ite, ib_0, ib_z, ite_not, i1_0, i0_0, jB_1, jB_0, jB_ib, bI_v, bL_v, bD_v, bV_v, ob_s, ob_i, i3_ofNat, jx_e, bI_e, bL_e, bD_e, bV_e, i3_eq0, i6_eq0, if_mx, if_mn, if_true, if_false, not_true_eq_false, not_false_eq_true, Int.reduceEq, Int.reduceLT, Int.reduceLE, up_up, up_same, show ¬ (50 - (k : Int) = -1) by omega, ite_self]
      exact ⟨⟨_, 0⟩, rfl⟩
    · simp only [if_neg q]
      rw [if_pos (by omega)]
      rw [show 50 - (k : Int) + -1 = 50 - ((k + 1 : Nat) : Int) by omega]
      exact ⟨⟨_, 50 - (k : Int)⟩, rfl⟩) (fun p => by
    rw [bX12_bestEdge_14]
    simp (disch := first | assumption | omega) only [eX12_bestEdge, bX12_bestEdge_0, bX12_bestEdge_19, bX12_bestEdge_25, bX12_bestEdge_43, bX12_bestEdge_48, bX12_bestEdge_49, bX12_bestEdge_57, r12_0, a12_0, w12_0, n12_0, i3_add, i3_sub, i3_mul, i3_neg, i6_add, i6_sub, i6_mul, i6_neg, i3_lt, i3_le, i3_eq, i6_lt, i6_eq, i3_div, i6_div, i6_i3, i3_i6, c6_lt, c6_ge, c6_gt, c6_le, c6_eq, i3_ite, i6_ite, ib_0, ib_z, ite_not, i1_0, i0_0, jB_1, jB_0, jB_ib, bI_v, bL_v, bD_v, bV_v, ob_s, ob_i, i3_ofNat, jx_e, bI_e, bL_e, bD_e, bV_e, i3_eq0, i6_eq0, if_mx, if_mn, if_true, if_false, not_true_eq_false, not_false_eq_true, Int.reduceEq, Int.reduceLT, Int.reduceLE, up_up, up_same]
    rw [if_pos (by omega)]
    exact ⟨p, rfl⟩)
  obtain ⟨y, hy⟩ := hl ((w 411 9, w 411 10), v 412 1)
  rw [fnd_map (fun z : Int => (some (.inl (some (.int (i3 (z)))), qM X v (fw w y.1) T c s) : Option jm_Res)), fw_id, up_same] at hy
  simp (disch := first | assumption | omega) only [eX12_bestEdge, bX12_bestEdge_0, bX12_bestEdge_19, bX12_bestEdge_25, bX12_bestEdge_43, bX12_bestEdge_48, bX12_bestEdge_49, bX12_bestEdge_57, r12_0, a12_0, w12_0, n12_0, i3_add, i3_sub, i3_mul, i3_neg, i6_add, i6_sub, i6_mul, i6_neg, i3_lt, i3_le, i3_eq, i6_lt, i6_eq, i3_div, i6_div, i6_i3, i3_i6, c6_lt, c6_ge, c6_gt, c6_le, c6_eq, i3_ite, i6_ite, ib_0, ib_z, ite_not, i1_0, i0_0, jB_1, jB_0, jB_ib, bI_v, bL_v, bD_v, bV_v, ob_s, ob_i, i3_ofNat, jx_e, bI_e, bL_e, bD_e, bV_e, i3_eq0, i6_eq0, if_mx, if_mn, if_true, if_false, not_true_eq_false, not_false_eq_true, Int.reduceEq, Int.reduceLT, Int.reduceLE]
  exact ⟨y.1, hy⟩
theorem sX12_bestEdge {a b : Int} (hT : 18 ≤ T) (hg : gM v) (h2 : 0 ≤ a) (h3 : a ≤ 2000) (h4 : 0 ≤ b) (h5 : b ≤ 2000) : jm_env (d + 5) 328 [.ref 411, .int (i3 a), .int (i3 b)] (qM X v w T c s) = some (.inl (some (.int (i3 (besF v a b)))), qM X v (fw w (pq (hid (d + 5) 328 [.ref 411, .int (i3 a), .int (i3 b)] (qM X v w T c s)) X v w T c s)) T c s) := pq_eq (sX12_bestEdge_p hT hg h2 h3 h4 h5)

theorem mX12_whyNot {a b q z : Int} (hT : 18 ≤ T) (hg : gM v) (ha : isI a) (hb : isI b) (hq : isI q) (hz : isI z) : mR (jm_env (d + 8) 329 [.ref 411, .int (i3 a), .int (i3 b), .int (i3 q), .int (i3 z)] (qM X v w T c s)) X v T c s (cd1 ((((1 ≤ a ∧ a ≤ 2000) ∧ 1 ≤ b ∧ b ≤ 2000) ∧ 1 ≤ q ∧ q ≤ 999) ∧ 0 ≤ z ∧ z ≤ 1)) (whyB v a b q z) := by
  obtain ⟨ha0, ha1⟩ := ha
  obtain ⟨hb0, hb1⟩ := hb
  obtain ⟨hq0, hq1⟩ := hq
  obtain ⟨hz0, hz1⟩ := hz
  obtain ⟨hc0, hc1, he0, he1, -⟩ := id hg
  by_cases g : ((1 ≤ a ∧ a ≤ 2000) ∧ 1 ≤ b ∧ b ≤ 2000) ∧ 1 ≤ q ∧ q ≤ 999
  · obtain ⟨⟨⟨g1, g2⟩, g3, g4⟩, g5, g6⟩ := id g
    by_cases g' : 0 ≤ z ∧ z ≤ 1
    · rw [cd1_0 ⟨g, g'⟩]
      apply mR_0
      have hfb := fitG_m (v := v) (a := a) (b := b) (m := (v 412 0).toNat) (by omega)
      have hmb := mosG_b (pw := a) (ph := b) hg (v 412 0).toNat (by omega)
      unfold whyB whyA
      have hz2 : z = 0 ∨ z = 1 := by omega
      have hz3 : (0 ≤ z ∧ z ≤ 1) = True := eq_true g'
      rcases nrA_c (v := v) a b q (up w 411 8 0 411 12) with ⟨h1, h2⟩ | ⟨h1, h3, h4, h5, h6⟩
      · by_cases k : fo2 (fitG v a b) 0 (v 412 0).toNat = 0
        · rcases hz2 with rfl | rfl
          · simp (disch := first | assumption | omega) only [↓reduceIte, eX12_whyNot, bX12_whyNot_0, bX12_whyNot_15, bX12_whyNot_27, bX12_whyNot_31, bX12_whyNot_32, bX12_whyNot_39, bX12_whyNot_41, bX12_whyNot_56, bX12_whyNot_60, bX12_whyNot_69, bX12_whyNot_73, bX12_whyNot_74, bX12_whyNot_81, bX12_whyNot_86, bX12_whyNot_92, bX12_whyNot_101, bX12_whyNot_107, bX12_whyNot_117, bX12_whyNot_118, p12_8, g12_11, i3_add, i3_sub, i3_mul, i3_neg, i6_add, i6_sub, i6_mul, i6_neg, i3_lt, i3_le, i3_eq, i6_lt, i6_eq, i3_div, i6_div, i6_i3, i3_i6, c6_lt, c6_ge, c6_gt, c6_le, c6_eq, i3_ite, i6_ite, ib_0, ib_z, ite_not, i1_0, i0_0, jB_1, jB_0, jB_ib, bI_v, bL_v, bD_v, bV_v, ob_s, ob_i, i3_ofNat, jx_e, bI_e, bL_e, bD_e, bV_e, i3_eq0, i6_eq0, if_mx, if_mn, if_true, if_false, not_true_eq_false, not_false_eq_true, Int.reduceEq, Int.reduceLT, Int.reduceLE, sX12_noOrder_0, sX12_in, sX12_stops_0, sX12_seeks, fw_ne, nw_11, h2, h1, sX12_fittingOf, fw_fw, k, hz3]
            exact ⟨_, rfl, by rw [fw_ne (by omega), nw_ne (by omega), up_eq]⟩
          · simp (disch := first | assumption | omega) only [↓reduceIte, eX12_whyNot, bX12_whyNot_0, bX12_whyNot_15, bX12_whyNot_27, bX12_whyNot_31, bX12_whyNot_32, bX12_whyNot_39, bX12_whyNot_41, bX12_whyNot_56, bX12_whyNot_60, bX12_whyNot_69, bX12_whyNot_73, bX12_whyNot_74, bX12_whyNot_81, bX12_whyNot_86, bX12_whyNot_92, bX12_whyNot_101, bX12_whyNot_107, bX12_whyNot_117, bX12_whyNot_118, p12_8, g12_11, i3_add, i3_sub, i3_mul, i3_neg, i6_add, i6_sub, i6_mul, i6_neg, i3_lt, i3_le, i3_eq, i6_lt, i6_eq, i3_div, i6_div, i6_i3, i3_i6, c6_lt, c6_ge, c6_gt, c6_le, c6_eq, i3_ite, i6_ite, ib_0, ib_z, ite_not, i1_0, i0_0, jB_1, jB_0, jB_ib, bI_v, bL_v, bD_v, bV_v, ob_s, ob_i, i3_ofNat, jx_e, bI_e, bL_e, bD_e, bV_e, i3_eq0, i6_eq0, if_mx, if_mn, if_true, if_false, not_true_eq_false, not_false_eq_true, Int.reduceEq, Int.reduceLT, Int.reduceLE, sX12_noOrder_0, sX12_in, sX12_stops_0, sX12_seeks, fw_ne, nw_11, h2, h1, sX12_fittingOf, fw_fw, k, hz3, sX12_bestEdge]
            exact ⟨_, rfl, by rw [fw_ne (by omega), nw_ne (by omega), up_eq]⟩
        · rcases hz2 with rfl | rfl
          · simp (disch := first | assumption | omega) only [↓reduceIte, eX12_whyNot, bX12_whyNot_0, bX12_whyNot_15, bX12_whyNot_27, bX12_whyNot_31, bX12_whyNot_32, bX12_whyNot_39, bX12_whyNot_41, bX12_whyNot_56, bX12_whyNot_60, bX12_whyNot_69, bX12_whyNot_73, bX12_whyNot_74, bX12_whyNot_81, bX12_whyNot_86, bX12_whyNot_92, bX12_whyNot_101, bX12_whyNot_107, bX12_whyNot_117, bX12_whyNot_118, p12_8, g12_11, i3_add, i3_sub, i3_mul, i3_neg, i6_add, i6_sub, i6_mul, i6_neg, i3_lt, i3_le, i3_eq, i6_lt, i6_eq, i3_div, i6_div, i6_i3, i3_i6, c6_lt, c6_ge, c6_gt, c6_le, c6_eq, i3_ite, i6_ite, ib_0, ib_z, ite_not, i1_0, i0_0, jB_1, jB_0, jB_ib, bI_v, bL_v, bD_v, bV_v, ob_s, ob_i, i3_ofNat, jx_e, bI_e, bL_e, bD_e, bV_e, i3_eq0, i6_eq0, if_mx, if_mn, if_true, if_false, not_true_eq_false, not_false_eq_true, Int.reduceEq, Int.reduceLT, Int.reduceLE, sX12_noOrder_0, sX12_in, sX12_stops_0, sX12_seeks, fw_ne, nw_11, h2, h1, sX12_fittingOf, fw_fw, k, hz3]
            exact ⟨_, rfl, by rw [fw_ne (by omega), nw_ne (by omega), up_eq]⟩
          · simp (disch := first | assumption | omega) only [↓reduceIte, eX12_whyNot, bX12_whyNot_0, bX12_whyNot_15, bX12_whyNot_27, bX12_whyNot_31, bX12_whyNot_32, bX12_whyNot_39, bX12_whyNot_41, bX12_whyNot_56, bX12_whyNot_60, bX12_whyNot_69, bX12_whyNot_73, bX12_whyNot_74, bX12_whyNot_81, bX12_whyNot_86, bX12_whyNot_92, bX12_whyNot_101, bX12_whyNot_107, bX12_whyNot_117, bX12_whyNot_118, p12_8, g12_11, i3_add, i3_sub, i3_mul, i3_neg, i6_add, i6_sub, i6_mul, i6_neg, i3_lt, i3_le, i3_eq, i6_lt, i6_eq, i3_div, i6_div, i6_i3, i3_i6, c6_lt, c6_ge, c6_gt, c6_le, c6_eq, i3_ite, i6_ite, ib_0, ib_z, ite_not, i1_0, i0_0, jB_1, jB_0, jB_ib, bI_v, bL_v, bD_v, bV_v, ob_s, ob_i, i3_ofNat, jx_e, bI_e, bL_e, bD_e, bV_e, i3_eq0, i6_eq0, if_mx, if_mn, if_true, if_false, not_true_eq_false, not_false_eq_true, Int.reduceEq, Int.reduceLT, Int.reduceLE, sX12_noOrder_0, sX12_in, sX12_stops_0, sX12_seeks, fw_ne, nw_11, h2, h1, sX12_fittingOf, fw_fw, k, hz3, sX12_mostSupply]
            exact ⟨_, rfl, by rw [fw_ne (by omega), nw_ne (by omega), up_eq]⟩
      · have h7 : ((nrA v a b q).1 = -1) = False := eq_false (by omega)
        rcases hz2 with rfl | rfl
        · simp (disch := first | assumption | omega) only [↓reduceIte, eX12_whyNot, bX12_whyNot_0, bX12_whyNot_15, bX12_whyNot_27, bX12_whyNot_31, bX12_whyNot_32, bX12_whyNot_39, bX12_whyNot_41, bX12_whyNot_56, bX12_whyNot_60, bX12_whyNot_69, bX12_whyNot_73, bX12_whyNot_74, bX12_whyNot_81, bX12_whyNot_86, bX12_whyNot_92, bX12_whyNot_101, bX12_whyNot_107, bX12_whyNot_117, bX12_whyNot_118, p12_8, g12_11, i3_add, i3_sub, i3_mul, i3_neg, i6_add, i6_sub, i6_mul, i6_neg, i3_lt, i3_le, i3_eq, i6_lt, i6_eq, i3_div, i6_div, i6_i3, i3_i6, c6_lt, c6_ge, c6_gt, c6_le, c6_eq, i3_ite, i6_ite, ib_0, ib_z, ite_not, i1_0, i0_0, jB_1, jB_0, jB_ib, bI_v, bL_v, bD_v, bV_v, ob_s, ob_i, i3_ofNat, jx_e, bI_e, bL_e, bD_e, bV_e, i3_eq0, i6_eq0, if_mx, if_mn, if_true, if_false, not_true_eq_false, not_false_eq_true, Int.reduceEq, Int.reduceLT, Int.reduceLE, sX12_noOrder_0, sX12_in, sX12_stops_0, sX12_seeks, fw_ne, nw_11, ← h1, h7, hz3]
          exact ⟨_, rfl, by rw [fw_ne (by omega), nw_ne (by omega), up_eq]⟩
        · simp (disch := first | assumption | omega) only [↓reduceIte, eX12_whyNot, bX12_whyNot_0, bX12_whyNot_15, bX12_whyNot_27, bX12_whyNot_31, bX12_whyNot_32, bX12_whyNot_39, bX12_whyNot_41, bX12_whyNot_56, bX12_whyNot_60, bX12_whyNot_69, bX12_whyNot_73, bX12_whyNot_74, bX12_whyNot_81, bX12_whyNot_86, bX12_whyNot_92, bX12_whyNot_101, bX12_whyNot_107, bX12_whyNot_117, bX12_whyNot_118, p12_8, g12_11, i3_add, i3_sub, i3_mul, i3_neg, i6_add, i6_sub, i6_mul, i6_neg, i3_lt, i3_le, i3_eq, i6_lt, i6_eq, i3_div, i6_div, i6_i3, i3_i6, c6_lt, c6_ge, c6_gt, c6_le, c6_eq, i3_ite, i6_ite, ib_0, ib_z, ite_not, i1_0, i0_0, jB_1, jB_0, jB_ib, bI_v, bL_v, bD_v, bV_v, ob_s, ob_i, i3_ofNat, jx_e, bI_e, bL_e, bD_e, bV_e, i3_eq0, i6_eq0, if_mx, if_mn, if_true, if_false, not_true_eq_false, not_false_eq_true, Int.reduceEq, Int.reduceLT, Int.reduceLE, sX12_noOrder_0, sX12_in, sX12_stops_0, sX12_seeks, fw_ne, nw_11, ← h1, h7, hz3]
          exact ⟨_, rfl, by rw [fw_ne (by omega), nw_ne (by omega), up_eq]⟩
    · rw [cd1_1 (fun h => g' h.2)]
      apply mR_1 (by decide)
      have hz3 : (0 ≤ z ∧ z ≤ 1) = False := eq_false g'
      simp (disch := first | assumption | omega) only [↓reduceIte, eX12_whyNot, bX12_whyNot_0, bX12_whyNot_15, bX12_whyNot_27, bX12_whyNot_31, bX12_whyNot_32, bX12_whyNot_39, bX12_whyNot_41, bX12_whyNot_56, bX12_whyNot_60, bX12_whyNot_69, bX12_whyNot_73, bX12_whyNot_74, bX12_whyNot_81, bX12_whyNot_86, bX12_whyNot_92, bX12_whyNot_101, bX12_whyNot_107, bX12_whyNot_117, bX12_whyNot_118, p12_8, g12_11, i3_add, i3_sub, i3_mul, i3_neg, i6_add, i6_sub, i6_mul, i6_neg, i3_lt, i3_le, i3_eq, i6_lt, i6_eq, i3_div, i6_div, i6_i3, i3_i6, c6_lt, c6_ge, c6_gt, c6_le, c6_eq, i3_ite, i6_ite, ib_0, ib_z, ite_not, i1_0, i0_0, jB_1, jB_0, jB_ib, bI_v, bL_v, bD_v, bV_v, ob_s, ob_i, i3_ofNat, jx_e, bI_e, bL_e, bD_e, bV_e, i3_eq0, i6_eq0, if_mx, if_mn, if_true, if_false, not_true_eq_false, not_false_eq_true, Int.reduceEq, Int.reduceLT, Int.reduceLE, sX12_noOrder_0, sX12_in, sX12_stops_1, hz3]
      exact ⟨_, _, rfl, up_eq⟩
  · rw [cd1_1 (fun h => g h.1)]
    apply mR_1 (by decide)
    simp (disch := first | assumption | omega) only [eX12_whyNot, bX12_whyNot_0, bX12_whyNot_39, p12_8, g12_11, i3_add, i3_sub, i3_mul, i3_neg, i6_add, i6_sub, i6_mul, i6_neg, i3_lt, i3_le, i3_eq, i6_lt, i6_eq, i3_div, i6_div, i6_i3, i3_i6, c6_lt, c6_ge, c6_gt, c6_le, c6_eq, i3_ite, i6_ite, ib_0, ib_z, ite_not, i1_0, i0_0, jB_1, jB_0, jB_ib, bI_v, bL_v, bD_v, bV_v, ob_s, ob_i, i3_ofNat, jx_e, bI_e, bL_e, bD_e, bV_e, i3_eq0, i6_eq0, if_mx, if_mn, if_true, if_false, not_true_eq_false, not_false_eq_true, Int.reduceEq, Int.reduceLT, Int.reduceLE, sX12_noOrder_1]
    exact ⟨_, _, rfl, up_eq⟩
theorem sX12_ifFilled {i a b q z : Int} {n : Nat} (hT : 18 ≤ T) (hg : gM v) (hi0 : 0 ≤ i) (hi1 : i < v 412 0) (hn : n < 10) (hw1 : w 411 11 = i) (hw2 : w 411 12 = n) (ha0 : 1 ≤ a) (ha1 : a ≤ 2000) (hb0 : 1 ≤ b) (hb1 : b ≤ 2000) (hq0 : 1 ≤ q) (hq1 : q ≤ 999) (hz0 : 0 ≤ z) (hz1 : z ≤ 3) :
    ∃ w', jm_env (d + 6) 330 [.ref 411, .int (i3 a), .int (i3 b), .int (i3 q), .int (i3 z)] (qM X v w T c s) = some (.inl (some (.long (i6 (ifF v i n a b q z)))), qM X v w' T c s) ∧ w' 411 8 = w 411 8 := by
  obtain ⟨hc0, hc1, he0, he1, -⟩ := id hg
  have hi5 : i < 5 := by omega
  have hk := hg.k hi0 hi1
  have ho := hg.o hi0 hi1
  have hq2 : q < 100000 := by omega
  have hq3 : 0 ≤ q := by omega
  have hab := mul_b (x := a) (y := b) (by omega) (by omega) (by omega) (by omega)
  have hcb := cuF_b (K := kM v i) (q := q) (n := n) (by omega) (fun k k0 k1 => (hk k k0 (by omega)).1)
  have hw3 : fil w 419 (cuF (kM v i) q n) 10 411 11 = i := by rw [fil_ne (by omega)]; exact hw1
  have hw4 : fil w 419 (cuF (kM v i) q n) 10 411 12 = n := by rw [fil_ne (by omega)]; exact hw2
  have hs := sX12_stripsOf_p (d := d) (X := X) (c := c) (s := s) (w := fil w 419 (cuF (kM v i) q n) 10) (f := cuF (kM v i) q n) hT hi0 hi5 ho (fun k k0 k1 => ⟨fil_in k0 k1, (hcb k).1, by have := (hcb k).2; omega⟩)
  obtain ⟨p, hs⟩ := hs
  have : z = 0 ∨ z = 1 ∨ z = 2 ∨ z = 3 := by omega
  unfold ifF
  rcases this with rfl | rfl | rfl | rfl
  · simp (disch := first | assumption | omega) only [eX12_ifFilled, bX12_ifFilled_0, bX12_ifFilled_18_0, bX12_ifFilled_18_1, bX12_ifFilled_18_2, bX12_ifFilled_18_d, bX12_ifFilled_44, bX12_ifFilled_47, bX12_ifFilled_56, bX12_ifFilled_78, bX12_ifFilled_101, bX12_ifFilled_119, bX12_ifFilled_120, g12_11, g12_12, r12_0, a12_0, w12_0, n12_0, r12_13, a12_13, w12_13, n12_13, i3_add, i3_sub, i3_mul, i3_neg, i6_add, i6_sub, i6_mul, i6_neg, i3_lt, i3_le, i3_eq, i6_lt, i6_eq, i3_div, i6_div, i6_i3, i3_i6, c6_lt, c6_ge, c6_gt, c6_le, c6_eq, i3_ite, i6_ite, ib_0, ib_z, ite_not, i1_0, i0_0, jB_1, jB_0, jB_ib, bI_v, bL_v, bD_v, bV_v, ob_s, ob_i, i3_ofNat, jx_e, bI_e, bL_e, bD_e, bV_e, i3_eq0, i6_eq0, if_mx, if_mn, if_true, if_false, not_true_eq_false, not_false_eq_true, Int.reduceEq, Int.reduceLT, Int.reduceLE, hw1, hw2, sX12_cutsOf]
    exact ⟨_, rfl, fil_ne (by omega)⟩
  · simp (disch := first | assumption | omega) only [eX12_ifFilled, bX12_ifFilled_0, bX12_ifFilled_18_0, bX12_ifFilled_18_1, bX12_ifFilled_18_2, bX12_ifFilled_18_d, bX12_ifFilled_44, bX12_ifFilled_47, bX12_ifFilled_56, bX12_ifFilled_78, bX12_ifFilled_101, bX12_ifFilled_119, bX12_ifFilled_120, g12_11, g12_12, r12_0, a12_0, w12_0, n12_0, r12_13, a12_13, w12_13, n12_13, i3_add, i3_sub, i3_mul, i3_neg, i6_add, i6_sub, i6_mul, i6_neg, i3_lt, i3_le, i3_eq, i6_lt, i6_eq, i3_div, i6_div, i6_i3, i3_i6, c6_lt, c6_ge, c6_gt, c6_le, c6_eq, i3_ite, i6_ite, ib_0, ib_z, ite_not, i1_0, i0_0, jB_1, jB_0, jB_ib, bI_v, bL_v, bD_v, bV_v, ob_s, ob_i, i3_ofNat, jx_e, bI_e, bL_e, bD_e, bV_e, i3_eq0, i6_eq0, if_mx, if_mn, if_true, if_false, not_true_eq_false, not_false_eq_true, Int.reduceEq, Int.reduceLT, Int.reduceLE, hw1, hw2, hw3, sX12_cutsOf, hs]
    exact ⟨_, rfl, by rw [fw_ne (by omega), fil_ne (by omega)]⟩
  · simp (disch := first | assumption | omega) only [eX12_ifFilled, bX12_ifFilled_0, bX12_ifFilled_18_0, bX12_ifFilled_18_1, bX12_ifFilled_18_2, bX12_ifFilled_18_d, bX12_ifFilled_44, bX12_ifFilled_47, bX12_ifFilled_56, bX12_ifFilled_78, bX12_ifFilled_101, bX12_ifFilled_119, bX12_ifFilled_120, g12_11, g12_12, r12_0, a12_0, w12_0, n12_0, r12_13, a12_13, w12_13, n12_13, i3_add, i3_sub, i3_mul, i3_neg, i6_add, i6_sub, i6_mul, i6_neg, i3_lt, i3_le, i3_eq, i6_lt, i6_eq, i3_div, i6_div, i6_i3, i3_i6, c6_lt, c6_ge, c6_gt, c6_le, c6_eq, i3_ite, i6_ite, ib_0, ib_z, ite_not, i1_0, i0_0, jB_1, jB_0, jB_ib, bI_v, bL_v, bD_v, bV_v, ob_s, ob_i, i3_ofNat, jx_e, bI_e, bL_e, bD_e, bV_e, i3_eq0, i6_eq0, if_mx, if_mn, if_true, if_false, not_true_eq_false, not_false_eq_true, Int.reduceEq, Int.reduceLT, Int.reduceLE, hw1, hw2, hw3, hw4, sX12_cutsOf, sX12_areaOf]
    exact ⟨_, rfl, by rw [fw_ne (by omega), fil_ne (by omega)]⟩
  · simp (disch := first | assumption | omega) only [eX12_ifFilled, bX12_ifFilled_0, bX12_ifFilled_18_0, bX12_ifFilled_18_1, bX12_ifFilled_18_2, bX12_ifFilled_18_d, bX12_ifFilled_44, bX12_ifFilled_47, bX12_ifFilled_56, bX12_ifFilled_78, bX12_ifFilled_101, bX12_ifFilled_119, bX12_ifFilled_120, g12_11, g12_12, r12_0, a12_0, w12_0, n12_0, r12_13, a12_13, w12_13, n12_13, i3_add, i3_sub, i3_mul, i3_neg, i6_add, i6_sub, i6_mul, i6_neg, i3_lt, i3_le, i3_eq, i6_lt, i6_eq, i3_div, i6_div, i6_i3, i3_i6, c6_lt, c6_ge, c6_gt, c6_le, c6_eq, i3_ite, i6_ite, ib_0, ib_z, ite_not, i1_0, i0_0, jB_1, jB_0, jB_ib, bI_v, bL_v, bD_v, bV_v, ob_s, ob_i, i3_ofNat, jx_e, bI_e, bL_e, bD_e, bV_e, i3_eq0, i6_eq0, if_mx, if_mn, if_true, if_false, not_true_eq_false, not_false_eq_true, Int.reduceEq, Int.reduceLT, Int.reduceLE, hw1, hw2, hw3, hw4, sX12_cutsOf, sX12_stackAt]
    by_cases g : (n : Int) ≤ 0
    · rw [if_pos g]
      refine ⟨fil w 419 (cuF (kM v i) q n) 10, ?_, fil_ne (by omega)⟩
      apply fin_l
      rw [show cuF (kM v i) q n ((n : Int) - 1) = 0 from if_neg (by omega)]
      rfl
    · rw [if_neg g, fil_in (by omega) (by omega)]
      exact ⟨_, rfl, fil_ne (by omega)⟩
theorem mX12_ifOrder {a b q z : Int} (hT : 18 ≤ T) (hg : gM v) (ha : isI a) (hb : isI b) (hq : isI q) (hz : isI z) : mR (jm_env (d + 8) 331 [.ref 411, .int (i3 a), .int (i3 b), .int (i3 q), .int (i3 z)] (qM X v w T c s)) X v T c s (cd1 ((((1 ≤ a ∧ a ≤ 2000) ∧ 1 ≤ b ∧ b ≤ 2000) ∧ 1 ≤ q ∧ q ≤ 999) ∧ 0 ≤ z ∧ z ≤ 3)) (ifA v a b q z) := by
  obtain ⟨ha0, ha1⟩ := ha
  obtain ⟨hb0, hb1⟩ := hb
  obtain ⟨hq0, hq1⟩ := hq
  obtain ⟨hz0, hz1⟩ := hz
  obtain ⟨hc0, hc1, he0, he1, -⟩ := id hg
  by_cases g : ((1 ≤ a ∧ a ≤ 2000) ∧ 1 ≤ b ∧ b ≤ 2000) ∧ 1 ≤ q ∧ q ≤ 999
  · obtain ⟨⟨⟨g1, g2⟩, g3, g4⟩, g5, g6⟩ := id g
    by_cases g' : 0 ≤ z ∧ z ≤ 3
    · rw [cd1_0 ⟨g, g'⟩]
      apply mR_0
      unfold ifA
      rcases nrA_c (v := v) a b q (up w 411 8 0 411 12) with ⟨h1, h2⟩ | ⟨h1, h3, h4, h5, h6⟩
      · rw [if_pos h1]
        simp (disch := first | assumption | omega) only [eX12_ifOrder, bX12_ifOrder_0, bX12_ifOrder_15, bX12_ifOrder_29, bX12_ifOrder_33, bX12_ifOrder_34, bX12_ifOrder_41, bX12_ifOrder_43, bX12_ifOrder_58, bX12_ifOrder_62, bX12_ifOrder_78, p12_8, g12_11, i3_add, i3_sub, i3_mul, i3_neg, i6_add, i6_sub, i6_mul, i6_neg, i3_lt, i3_le, i3_eq, i6_lt, i6_eq, i3_div, i6_div, i6_i3, i3_i6, c6_lt, c6_ge, c6_gt, c6_le, c6_eq, i3_ite, i6_ite, ib_0, ib_z, ite_not, i1_0, i0_0, jB_1, jB_0, jB_ib, bI_v, bL_v, bD_v, bV_v, ob_s, ob_i, i3_ofNat, jx_e, bI_e, bL_e, bD_e, bV_e, i3_eq0, i6_eq0, if_mx, if_mn, if_true, if_false, not_true_eq_false, not_false_eq_true, Int.reduceEq, Int.reduceLT, Int.reduceLE, sX12_noOrder_0, sX12_in, sX12_stops_0, sX12_seeks, fw_ne, nw_11, h2]
        rw [if_pos g']
        exact ⟨_, rfl, by rw [fw_ne (by omega), nw_ne (by omega), up_eq]⟩
      · rw [if_neg (by omega)]
        obtain ⟨n, hn⟩ : ∃ n : Nat, (nrA v a b q).2 = n := ⟨(nrA v a b q).2.toNat, (Int.toNat_of_nonneg h5).symm⟩
        have hn2 : (nrA v a b q).2.toNat = n := by omega
        obtain ⟨w', e1, e2⟩ := sX12_ifFilled (d := d + 1) (X := X) (c := c) (s := s) (v := v) (w := fw (nw (up w 411 8 0) (nrA v a b q)) (pq (hid (d + 7) 228 [.ref 411, .int (i3 a), .int (i3 b), .int (i3 q)] (qM X v (up w 411 8 0) T c s)) X v (nw (up w 411 8 0) (nrA v a b q)) T c s)) (i := (nrA v a b q).1) (a := a) (b := b) (q := q) (z := z) (n := n) hT hg h3 h4 (by omega) (by rw [fw_ne (by omega), nw_11]) (by rw [fw_ne (by omega), nw_12, hn]) g1 g2 g3 g4 g5 g6 g'.1 g'.2
        have hifb : -1000000000000 ≤ ifF v (nrA v a b q).1 n a b q z ∧ ifF v (nrA v a b q).1 n a b q z ≤ 1000000000000 := by
          have k1 := cuS_b (K := kM v (nrA v a b q).1) (q := q) (n := n) (by omega) (fun k k0 k1 => (hg.k h3 h4 k k0 (by omega)).1) n (Nat.le_refl n)
          have k2 := fsS_b (q := q) (n := n) hg h3 h4 (by omega) (by omega) (by omega)
          have k3 := aM_b (hg.o h3 h4) n
          have k4 := mul_b (x := a) (y := b) (by omega) (by omega) (by omega) (by omega)
          have k5 := hg.k h3 h4 n (by omega) (by omega)
          have k6 := cuF_b (K := kM v (nrA v a b q).1) (q := q) (n := n) (by omega) (fun k k0 k1 => (hg.k h3 h4 k k0 (by omega)).1) ((n : Int) - 1)
          have k7 : (n : Int) * q ≤ 10 * 1000 := Int.mul_le_mul (by omega) (by omega) (by omega) (by omega)
          have k8 : aM v (nrA v a b q).1 n * q ≤ 4000000 * 1000 := Int.mul_le_mul k3.2 (by omega) (by omega) (by omega)
          have k9 : a * b * q ≤ 4000000 * 1000 := Int.mul_le_mul k4.2 (by omega) (by omega) (by omega)
          have k10 := Int.mul_nonneg k3.1 (show 0 ≤ q by omega)
          have k11 := Int.mul_nonneg k4.1 (show 0 ≤ q by omega)
          unfold ifF
          rw [Int.sub_mul]
          (repeat' split) <;> omega
        rw [show d + 1 + 6 = d + 7 from rfl] at e1
        simp (disch := first | assumption | omega) only [eX12_ifOrder, bX12_ifOrder_0, bX12_ifOrder_15, bX12_ifOrder_29, bX12_ifOrder_33, bX12_ifOrder_34, bX12_ifOrder_41, bX12_ifOrder_43, bX12_ifOrder_58, bX12_ifOrder_62, bX12_ifOrder_78, p12_8, g12_11, i3_add, i3_sub, i3_mul, i3_neg, i6_add, i6_sub, i6_mul, i6_neg, i3_lt, i3_le, i3_eq, i6_lt, i6_eq, i3_div, i6_div, i6_i3, i3_i6, c6_lt, c6_ge, c6_gt, c6_le, c6_eq, i3_ite, i6_ite, ib_0, ib_z, ite_not, i1_0, i0_0, jB_1, jB_0, jB_ib, bI_v, bL_v, bD_v, bV_v, ob_s, ob_i, i3_ofNat, jx_e, bI_e, bL_e, bD_e, bV_e, i3_eq0, i6_eq0, if_mx, if_mn, if_true, if_false, not_true_eq_false, not_false_eq_true, Int.reduceEq, Int.reduceLT, Int.reduceLE, sX12_noOrder_0, sX12_in, sX12_stops_0, sX12_seeks, fw_ne, nw_11, ← h1, e1, sX12_lesser]
        rw [if_pos g', if_neg (by omega), hn2]
        exact ⟨_, rfl, e2.trans (by rw [fw_ne (by omega), nw_ne (by omega), up_eq])⟩
    · rw [cd1_1 (fun h => g' h.2)]
      apply mR_1 (by decide)
      simp (disch := first | assumption | omega) only [eX12_ifOrder, bX12_ifOrder_0, bX12_ifOrder_15, bX12_ifOrder_29, bX12_ifOrder_33, bX12_ifOrder_34, bX12_ifOrder_41, bX12_ifOrder_43, bX12_ifOrder_58, bX12_ifOrder_62, bX12_ifOrder_78, p12_8, g12_11, i3_add, i3_sub, i3_mul, i3_neg, i6_add, i6_sub, i6_mul, i6_neg, i3_lt, i3_le, i3_eq, i6_lt, i6_eq, i3_div, i6_div, i6_i3, i3_i6, c6_lt, c6_ge, c6_gt, c6_le, c6_eq, i3_ite, i6_ite, ib_0, ib_z, ite_not, i1_0, i0_0, jB_1, jB_0, jB_ib, bI_v, bL_v, bD_v, bV_v, ob_s, ob_i, i3_ofNat, jx_e, bI_e, bL_e, bD_e, bV_e, i3_eq0, i6_eq0, if_mx, if_mn, if_true, if_false, not_true_eq_false, not_false_eq_true, Int.reduceEq, Int.reduceLT, Int.reduceLE, sX12_noOrder_0, sX12_in, sX12_stops_1]
      rw [if_neg g']
      exact ⟨_, _, rfl, up_eq⟩
  · rw [cd1_1 (fun h => g h.1)]
    apply mR_1 (by decide)
    simp (disch := first | assumption | omega) only [eX12_ifOrder, bX12_ifOrder_0, bX12_ifOrder_15, bX12_ifOrder_29, bX12_ifOrder_33, bX12_ifOrder_34, bX12_ifOrder_41, bX12_ifOrder_43, bX12_ifOrder_58, bX12_ifOrder_62, bX12_ifOrder_78, p12_8, g12_11, i3_add, i3_sub, i3_mul, i3_neg, i6_add, i6_sub, i6_mul, i6_neg, i3_lt, i3_le, i3_eq, i6_lt, i6_eq, i3_div, i6_div, i6_i3, i3_i6, c6_lt, c6_ge, c6_gt, c6_le, c6_eq, i3_ite, i6_ite, ib_0, ib_z, ite_not, i1_0, i0_0, jB_1, jB_0, jB_ib, bI_v, bL_v, bD_v, bV_v, ob_s, ob_i, i3_ofNat, jx_e, bI_e, bL_e, bD_e, bV_e, i3_eq0, i6_eq0, if_mx, if_mn, if_true, if_false, not_true_eq_false, not_false_eq_true, Int.reduceEq, Int.reduceLT, Int.reduceLE, sX12_noOrder_1]
    exact ⟨_, _, rfl, up_eq⟩
end MOF
