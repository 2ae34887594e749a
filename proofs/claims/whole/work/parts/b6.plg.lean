-- uses 24.zar 25.obj 26.ops 30.rd 31.re 34.gen 38.mod 39.mo2 40.mo3 41.bit 42.mo4 43.mo5 44.mo6 45.mo7 46.mo8 47.mo9 48.moa 49.mob 50.moc
/-! An order of prints, with what the reference leaves alone. -/
/-- only the sides, the best place and the cuts -/
def frF (w' w : Nat → Int → Int) : Prop := ∀ (m : Nat) (k : Int), m ≠ 419 → (m ≠ 411 ∨ k < 9 ∨ 12 < k) → w' m k = w m k
section PLG
variable {d : Nat} {X : Nat × (Nat → Int32)} {v w : Nat → Int → Int} {T c s : Nat}
theorem fills_32f {i a b q : Int} {n : Nat} (hT : 18 ≤ T) (hi0 : 0 ≤ i) (hi1 : i < 5) (hn : n < 10) (hw1 : w 411 11 = i) (hw2 : w 411 12 = n) (ho : oM v i) (hk : ∀ n : Int, 0 ≤ n → n < 10 → 0 ≤ kM v i n ∧ kM v i n ≤ 20000) (hp : prOk v) (ha0 : 1 ≤ a) (ha1 : a ≤ 2000) (hb0 : 1 ≤ b) (hb1 : b ≤ 2000) (hq0 : 1 ≤ q) (hq1 : q ≤ 999) :
    ∃ w', jm_R (jm_env (d + 6)) jmM_X12_fills 32 [some (.ref 411), some (.int (i3 a)), some (.int (i3 b)), some (.int (i3 q)), none, none, none, none] [] (qM X v w T c s) = some (.inl (some (.int (i3 (100 * i + n)))), qM X (kpsV (flU v i n a b q) a b q) w' T c s) ∧ frF w' w := by
  have hcb := cuF_b (K := kM v i) (q := q) (n := n) (by omega) (fun k k0 k1 => (hk k k0 (by omega)).1)
  have ho1 : oM (up v 412 8 (v 412 8 + cuS (kM v i) q n n)) i := oM_up ho (by omega)
  obtain ⟨p, hs⟩ : ∃ p, jm_env (d + 6) 230 [.ref 411, .int (i3 i)] (qM X (up v 412 8 (v 412 8 + cuS (kM v i) q n n)) (fil w 419 (cuF (kM v i) q n) 10) T c s) = some (.inl (some (.long (i6 (fsS v i q n)))), qM X (up v 412 8 (v 412 8 + cuS (kM v i) q n n)) (fw (fil w 419 (cuF (kM v i) q n) 10) p) T c s) := by
    have h := sX12_stripsOf_p (d := d + 1) (X := X) (c := c) (s := s) (w := fil w 419 (cuF (kM v i) q n) 10) (f := cuF (kM v i) q n) hT hi0 hi1 ho1 (fun k k0 k1 => ⟨fil_in k0 k1, (hcb k).1, by have := (hcb k).2; omega⟩)
    have e : fo (strM (up v 412 8 (v 412 8 + cuS (kM v i) q n n)) i (cuF (kM v i) q n)) 0 10 = fsS v i q n := fo_congr 10 (fun k x _ => by
      unfold strM
      rw [aM_up (by omega), aM_up (by omega)])
    rw [e] at h
    exact h
  have hq2 : q < 100000 := by omega
  have hq3 : 0 ≤ q := by omega
  have hl := fills_loop (d := d + 5) (X := X) (c := c) (s := s) (i := i) (a := a) (b := b) (q := q) (n := n) (A := cuS (kM v i) q n n) (W := 0) (p := p) (xs := []) (f := kM v i) (u := up (up v 412 8 (v 412 8 + cuS (kM v i) q n n)) 412 7 (v 412 7 + fsS v i q n)) (w := fw (fil w 419 (cuF (kM v i) q n) 10) p) hT hi0 hi1 hn (by rw [fw_ne (by omega), fil_ne (by omega)]; exact hw1) (by rw [fw_ne (by omega), fil_ne (by omega)]; exact hw2) (fun k k0 k1 => by rw [fw_ne (by omega), fil_in k0 k1]) (fun k k0 k1 => by rw [up_ne (by omega), up_ne (by omega)]; rfl)
  rw [bX12_fills_32]
  have hw3 : fil w 419 (cuF (kM v i) q n) 10 411 11 = i := by rw [fil_ne (by omega)]; exact hw1
  simp (disch := first | assumption | omega) only [g12_11, g12_12, r12_0, a12_0, w12_0, n12_0, r12_13, a12_13, w12_13, n12_13, i3_add, i3_sub, i3_mul, i3_neg, i6_add, i6_sub, i6_mul, i6_neg, i3_lt, i3_le, i3_eq, i6_lt, i6_eq, i3_div, i6_div, i6_i3, i3_i6, c6_lt, c6_ge, c6_gt, c6_le, c6_eq, i3_ite, i6_ite, ib_0, ib_z, ite_not, i1_0, i0_0, jB_1, jB_0, jB_ib, bI_v, bL_v, bD_v, bV_v, ob_s, ob_i, i3_ofNat, jx_e, bI_e, bL_e, bD_e, bV_e, i3_eq0, i6_eq0, if_mx, if_mn, if_true, if_false, not_true_eq_false, not_false_eq_true, Int.reduceEq, Int.reduceLT, Int.reduceLE, hw1, hw2, hw3, sX12_cutsOf, hs, up_ne]
  generalize hU : up (up v 412 8 (v 412 8 + cuS (kM v i) q n n)) 412 7 (v 412 7 + fsS v i q n) = U at hl ⊢
  rw [show i3 0 = i3 ((0 : Nat) : Int) from rfl] at hl ⊢
  rw [show d + 5 + 1 = d + 6 from rfl] at hl
  refine ex_tr hl ?_
  rw [bX12_fills_81]
  have e1 : flo U 412 (12 + 13 * i + 3) (fsG (kM v i) q n n) ((n : Int) + 1) 412 (12 + 13 * i + 3 + n) = kM v i n + 2 * cuF (kM v i) q n ((n : Int) - 1) := by
    rw [flo_in (by omega) (by omega), show 12 + 13 * i + 3 + (n : Int) - (12 + 13 * i + 3) = n by omega]
    unfold fsG
    rw [if_neg (by omega)]
    omega
  have e2 : up (flo U 412 (12 + 13 * i + 3) (fsG (kM v i) q n n) ((n : Int) + 1)) 412 (12 + 13 * i + 3 + n) (kM v i n + 2 * cuF (kM v i) q n ((n : Int) - 1) - q) = flo U 412 (12 + 13 * i + 3) (fsF (kM v i) q n) ((n : Int) + 1) := by
    refine up_flo_in (by omega) (by omega) ?_ ?_
    · rw [show 12 + 13 * i + 3 + (n : Int) - (12 + 13 * i + 3) = n by omega]
      unfold fsF
      rw [if_pos rfl, show cuF (kM v i) q n n = 0 from if_neg (by omega)]
      omega
    · intro j j0 j1 j2
      unfold fsF fsG
      rw [if_neg (by omega), if_pos (by omega)]
      omega
  have oU : oM U i := by rw [← hU]; exact oM_up ho1 (by omega)
  have aU : ∀ n, aM U i n = aM v i n := fun n => by rw [← hU, aM_up (by omega), aM_up (by omega)]
  have u5 : U 412 5 = v 412 5 := by rw [← hU, up_ne (by omega), up_ne (by omega)]
  have u6 : U 412 6 = v 412 6 := by rw [← hU, up_ne (by omega), up_ne (by omega)]
  have u9 : U 412 9 = v 412 9 := by rw [← hU, up_ne (by omega), up_ne (by omega)]
  have u10 : U 412 10 = v 412 10 := by rw [← hU, up_ne (by omega), up_ne (by omega)]
  have oF : oM (flo U 412 (12 + 13 * i + 3) (fsF (kM v i) q n) ((n : Int) + 1)) i := oM_flo oU
  have hab := mul_b (x := a) (y := b) (by omega) (by omega) (by omega) (by omega)
  have hfw : (fw (fil w 419 (cuF (kM v i) q n) 10) p) 411 11 = i := by rw [fw_ne (by omega), fil_ne (by omega)]; exact hw1
  have hfw2 : (fw (fil w 419 (cuF (kM v i) q n) 10) p) 411 12 = n := by rw [fw_ne (by omega), fil_ne (by omega)]; exact hw2
  simp (disch := first | assumption | omega | (repeat (first | assumption | refine oM_up ?_ (by omega)))) only [eX12_fills, bX12_fills_0, bX12_fills_15, bX12_fills_24, bX12_fills_29, bX12_fills_31, bX12_fills_32, bX12_fills_90, bX12_fills_150, g12_11, g12_12, r12_0, a12_0, w12_0, n12_0, r12_13, a12_13, w12_13, n12_13, i3_add, i3_sub, i3_mul, i3_neg, i6_add, i6_sub, i6_mul, i6_neg, i3_lt, i3_le, i3_eq, i6_lt, i6_eq, i3_div, i6_div, i6_i3, i3_i6, c6_lt, c6_ge, c6_gt, c6_le, c6_eq, i3_ite, i6_ite, ib_0, ib_z, ite_not, i1_0, i0_0, jB_1, jB_0, jB_ib, bI_v, bL_v, bD_v, bV_v, ob_s, ob_i, i3_ofNat, jx_e, bI_e, bL_e, bD_e, bV_e, i3_eq0, i6_eq0, if_mx, if_mn, if_true, if_false, not_true_eq_false, not_false_eq_true, Int.reduceEq, Int.reduceLT, Int.reduceLE, hfw, hfw2, sX12_stackAt, sX12_areaOf, e1, e2, up_ne, flo_ne, aM_up, aM_flo, fw_fw, aU, u5, u6, u9, u10]
  rw [if_pos (by omega)]
  have eF : up (up (up (up (flo U 412 (12 + 13 * i + 3) (fsF (kM v i) q n) ((n : Int) + 1)) 412 5 (v 412 5 + a * b * q)) 412 6 (v 412 6 + (aM v i n - a * b) * q)) 412 9 (v 412 9 + 1)) 412 10 (v 412 10 + q) = flU v i n a b q := by rw [← hU]; rfl
  have hp2 : prOk (flU v i n a b q) := prOk_cg hp (fun k hk => by
    unfold flU
    rw [up_ne (by omega), up_ne (by omega), up_ne (by omega), up_ne (by omega), flo_ne (by omega), up_ne (by omega), up_ne (by omega)])
  have k0 : 0 ≤ a := by omega
  have k1 : 0 ≤ b := by omega
  have k2 : q ≤ 1000 := by omega
  simp (disch := first | assumption | omega) only [eF, sX12_keeps, i3_add, i3_sub, i3_mul, i3_neg, i6_add, i6_sub, i6_mul, i6_neg, i3_lt, i3_le, i3_eq, i6_lt, i6_eq, i3_div, i6_div, i6_i3, i3_i6, c6_lt, c6_ge, c6_gt, c6_le, c6_eq, i3_ite, i6_ite, ib_0, ib_z, ite_not, i1_0, i0_0, jB_1, jB_0, jB_ib, bI_v, bL_v, bD_v, bV_v, ob_s, ob_i, i3_ofNat, jx_e, bI_e, bL_e, bD_e, bV_e, i3_eq0, i6_eq0, if_mx, if_mn, if_true, if_false, not_true_eq_false, not_false_eq_true, Int.reduceEq, Int.reduceLT, Int.reduceLE, g12_11, g12_12, r12_0, a12_0, w12_0, n12_0, r12_13, a12_13, w12_13, n12_13, fw_ne, hw3, fil_ne, hw2]
  exact ⟨_, rfl, fun m k m1 m2 => by rw [fw_ne (by omega), fil_ne (by omega)]⟩
theorem sX12_fills_f {a b q : Int} (hT : 18 ≤ T) (hg : gM v) (hp : prOk v) (ha0 : 1 ≤ a) (ha1 : a ≤ 2000) (hb0 : 1 ≤ b) (hb1 : b ≤ 2000) (hq0 : 1 ≤ q) (hq1 : q ≤ 999) :
    ∃ w', jm_env (d + 7) 235 [.ref 411, .int (i3 a), .int (i3 b), .int (i3 q)] (qM X v w T c s) = some (.inl (some (.int (i3 (flR v a b q)))), qM X (flV v a b q) w' T c s) ∧ frF w' w := by
  obtain ⟨hc0, hc1, he0, he1, -⟩ := id hg
  have hfb := fitG_b (v := v) (pw := a) (ph := b) (v 412 0).toNat
  have hfb2 : fo2 (fitG v a b) 0 (v 412 0).toNat ≤ 100 := by
    have h := fo_P (g := fun x k => fo (fun x n => fitG v a b x k n) x 10) (a := 0) (P := fun k x => x ≤ 10 * (k : Int)) (by omega) (v 412 0).toNat (fun k x hk hx => by
      have h2 := fo_P (g := fun x n => fitG v a b x k n) (a := x) (P := fun n y => y ≤ 10 * (k : Int) + n) (by omega) 10 (fun n y hn hy => by
        have := fitI_01 (v := v) (i := k) (n := n) (pw := a) (ph := b)
        unfold fitG
        omega)
      omega)
    unfold fo2
    omega
  unfold flR flV
  rcases nrA_c (v := v) a b q (w 411 12) with ⟨h1, h2⟩ | ⟨h1, h3, h4, h5, h6⟩
  · rw [if_pos h1, if_pos h1]
    simp (disch := first | assumption | omega) only [eX12_fills, bX12_fills_0, bX12_fills_15, bX12_fills_24, bX12_fills_29, bX12_fills_31, bX12_fills_32, bX12_fills_90, bX12_fills_150, g12_11, g12_12, r12_0, a12_0, w12_0, n12_0, r12_13, a12_13, w12_13, n12_13, i3_add, i3_sub, i3_mul, i3_neg, i6_add, i6_sub, i6_mul, i6_neg, i3_lt, i3_le, i3_eq, i6_lt, i6_eq, i3_div, i6_div, i6_i3, i3_i6, c6_lt, c6_ge, c6_gt, c6_le, c6_eq, i3_ite, i6_ite, ib_0, ib_z, ite_not, i1_0, i0_0, jB_1, jB_0, jB_ib, bI_v, bL_v, bD_v, bV_v, ob_s, ob_i, i3_ofNat, jx_e, bI_e, bL_e, bD_e, bV_e, i3_eq0, i6_eq0, if_mx, if_mn, if_true, if_false, not_true_eq_false, not_false_eq_true, Int.reduceEq, Int.reduceLT, Int.reduceLE, sX12_seeks, fw_ne, nw_11, h2, sX12_fittingOf, fw_fw]
    by_cases g : fo2 (fitG v a b) 0 (v 412 0).toNat = 0
    · rw [if_pos g, if_pos g]
      exact ⟨_, rfl, fun m k m1 m2 => by rw [fw_ne (by omega), nw_ne (by omega)]⟩
    · rw [if_neg g, if_neg g]
      exact ⟨_, rfl, fun m k m1 m2 => by rw [fw_ne (by omega), nw_ne (by omega)]⟩
  · rw [if_neg (by omega), if_neg (by omega)]
    obtain ⟨n, hn⟩ : ∃ n : Nat, (nrA v a b q).2 = n := ⟨(nrA v a b q).2.toNat, (Int.toNat_of_nonneg h5).symm⟩
    have hn2 : (nrA v a b q).2.toNat = n := by omega
    rw [hn2, hn]
    rw [eX12_fills d.succ.succ.succ.succ.succ.succ a b q hT, bX12_fills_0]
    simp (disch := first | assumption | omega) only [i3_add, i3_sub, i3_mul, i3_neg, i6_add, i6_sub, i6_mul, i6_neg, i3_lt, i3_le, i3_eq, i6_lt, i6_eq, i3_div, i6_div, i6_i3, i3_i6, c6_lt, c6_ge, c6_gt, c6_le, c6_eq, i3_ite, i6_ite, ib_0, ib_z, ite_not, i1_0, i0_0, jB_1, jB_0, jB_ib, bI_v, bL_v, bD_v, bV_v, ob_s, ob_i, i3_ofNat, jx_e, bI_e, bL_e, bD_e, bV_e, i3_eq0, i6_eq0, if_mx, if_mn, if_true, if_false, not_true_eq_false, not_false_eq_true, Int.reduceEq, Int.reduceLT, Int.reduceLE, sX12_seeks, g12_11, g12_12, r12_0, a12_0, w12_0, n12_0, r12_13, a12_13, w12_13, n12_13, fw_ne, nw_11, nw_12, ← h1]
    rw [if_neg (by omega)]
    obtain ⟨w', e1, e2⟩ := fills_32f (d := d) (X := X) (c := c) (s := s) (v := v) (w := fw (nw w (nrA v a b q)) (pq (hid (d + 6) 228 [.ref 411, .int (i3 a), .int (i3 b), .int (i3 q)] (qM X v w T c s)) X v (nw w (nrA v a b q)) T c s)) (i := (nrA v a b q).1) (a := a) (b := b) (q := q) (n := n) hT h3 (by omega) (by omega) (by rw [fw_ne (by omega), nw_11]) (by rw [fw_ne (by omega), nw_12, hn]) (hg.o h3 h4) (hg.k h3 h4) hp ha0 ha1 hb0 hb1 hq0 hq1
    exact ⟨w', e1, fun m k m1 m2 => (e2 m k m1 m2).trans (by rw [fw_ne (by omega), nw_ne (by omega)])⟩
end PLG
