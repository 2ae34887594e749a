-- uses 24.zar 25.obj 26.ops 30.rd 31.re 32.rf 34.gen 38.mod 39.mo2 41.bit 42.mo4 43.mo5 44.mo6 46.mo8 53.cla 58.clf 62.clj 65.cll 72.clq 73.clr 80.wrf 88.ovr 89.rsa c0.foa c1.fob c2.foc c3.fod c4.foe c5.fof c6.fog c7.foh c8.foi c9.foj ca.fok cb.fol
/-! The gap of the pages, both sides. -/
section FOM
variable {d : Nat} {X : Nat × (Nat → Int32)} {v w : Nat → Int → Int} {T c s : Nat}
theorem mX12_pageGap {i n f : Int} (hT : 18 ≤ T) (hg : gM v) (hi : isI i) (hn : isI n) (hf : isI f) : mR (jm_env (d + 7) 325 [.ref 411, .int (i3 i), .int (i3 n), .int (i3 f)] (qM X v w T c s)) X v T c s (cd2 ((0 ≤ i ∧ i < v 412 0) ∧ 0 ≤ n ∧ n < 10) (0 ≤ f ∧ f ≤ fdM v i n)) 0 := by
  have q10 : ((1 : Int) = 0) = False := by decide
  by_cases gA : (0 ≤ i ∧ i < v 412 0) ∧ 0 ≤ n ∧ n < 10
  · by_cases gB : 0 ≤ f ∧ f ≤ fdM v i n
    · rw [cd2_0 gA gB]
      have hb := fdM_b (v := v) (i := i) (n := n)
      obtain ⟨x, x0, x1⟩ := ptn_e v i n (f := f.toNat) (by omega)
      obtain ⟨w1, w2, e1, e2, hw, h8⟩ := sX12_ready (d := d) (X := X) (w := w) (T := T) (c := c) (s := s) hT hg gA gB x1
      have hf6 : f.toNat < 6 := by omega
      obtain ⟨w3, e3, hk, g3⟩ := sX12_foldsAll (d := d + 3) (X := X) (v := v) (w := w2) (T := T) (c := c) (s := s) hT hf6 x0 hw
      have hw3 := lW_g hw g3
      have h83 : w3 411 8 = 0 := (g3 411 8 (by omega) (by omega) (by omega)).trans h8
      rw [Int.toNat_of_nonneg gB.1] at e3
      obtain ⟨z1, z2, z3, z4, z5, z6, z7⟩ := fo_1 f.toNat hf6 x x0
      obtain ⟨k1, k2, k3⟩ := fo_h f.toNat hf6
      have hpl : ∀ l : Nat, l < 2 ^ f.toNat → w3 425 l = qX x f.toNat f.toNat 0 0 l := fun l hl => by
        have h := (hk 0 0 (by omega) (by omega) (by omega) (by omega)).2 l (by omega) (by omega)
        rw [Int.mul_zero, Int.zero_add, Int.mul_zero, Int.zero_add] at h
        exact h
      have hl := lpI (S := (Nat → Int → Int) × Option Value × Option Value) (L := fun j y => jm_R (jm_env (d + 6)) jmM_X12_pageGap 35 [some (.ref 411), some (.int (i3 i)), some (.int (i3 n)), some (.int (i3 f)), some (.int (i3 0)), some (.int (i3 (j : Nat))), y.2.1, y.2.2] [] (qM X v y.1 T c s)) (I := fun _ y => fr78 y.1 w3) (2 ^ f.toNat) 0 (fun j y _ hj hy => by
        obtain ⟨u, o1, o2⟩ := y
        have hy : fr78 u w3 := hy
        have q : (htX f.toNat ≤ (j : Int)) = False := eq_false (by omega)
        have hu := lW_fr hw3 hy
        obtain ⟨y1, -, -, -⟩ := fo_5 f.toNat hf6 x x0 j (by omega)
        obtain ⟨b0, b1⟩ := fo_4 f.toNat hf6 x x0 f.toNat (by omega) 0 (by omega) 0 (by omega) j (by omega)
        have hQ : u 425 j = qX x f.toNat f.toNat 0 0 j := (hy 425 j (by omega)).trans (hpl j (by omega))
        have b0 : 0 ≤ qX x f.toNat f.toNat 0 0 j := b0
        have b1 : qX x f.toNat f.toNat 0 0 j < 2 * htX f.toNat := b1
        generalize qX x f.toNat f.toNat 0 0 j = Q at *
        unfold pgI at y1
        have hm : Q / 2 % clX x f.toNat = Q / 2 - Q / 2 / clX x f.toNat * clX x f.toNat := by rw [Int.emod_def, Int.mul_comm]
        have hr0 : 0 ≤ Q / 2 / clX x f.toNat := Int.ediv_nonneg (by omega) (by omega)
        have hr1 : Q / 2 / clX x f.toNat < rwX x f.toNat := Int.ediv_lt_of_lt_mul (by omega) (by rw [z1]; omega)
        have hc0 : 0 ≤ Q / 2 % clX x f.toNat := Int.emod_nonneg _ (by omega)
        have hc1 : Q / 2 % clX x f.toNat < clX x f.toNat := Int.emod_lt_of_pos _ (by omega)
        obtain ⟨u2, e4, f4⟩ := sX12_pageOf (d := d + 4) (X := X) (v := v) (w := u) (T := T) (c := c) (s := s) (r := Q / 2 / clX x f.toNat) (cc := Q / 2 % clX x f.toNat) (z := Q % 2) hT hf6 x0 hu ⟨⟨hr0, hr1⟩, hc0, hc1⟩ (by omega)
        rw [y1, Int.toNat_of_nonneg gB.1] at e4
        have qc : (clX x f.toNat = 0) = False := eq_false (by omega)
        have q1 : (2 * (j : Int) + 1 = 2 * (j : Int) + 1) = True := eq_true rfl
        have hc : ((j + 1 : Nat) : Int) = (j : Int) + 1 := by omega
        refine ⟨(u2, some (.int (i3 Q)), some (.int (i3 (Q / 2)))), ?_, fr78_tr f4 hy⟩
        show jm_R _ _ 35 [_, _, _, _, some (.int (i3 0)), some (.int (i3 (j : Nat))), o1, o2] [] (qM X v u T c s) = jm_R _ _ 35 [_, _, _, _, some (.int (i3 0)), some (.int (i3 ((j + 1 : Nat)))), some (.int (i3 Q)), some (.int (i3 (Q / 2)))] [] (qM X v u2 T c s)
        rw [hc, bX12_pageGap_35]
        rw [hm] at e4 hc0 hc1
        by_cases g : Q % 2 = 1
        · have g' : (Q - Q / 2 * 2 = 1) = True := eq_true (by omega)
          rw [g] at e4
          simp (disch := first | assumption | omega) only [↓reduceIte, i3_add, i3_sub, i3_mul, i3_neg, i6_add, i6_sub, i6_mul, i6_neg, i3_lt, i3_le, i3_eq, i6_lt, i6_eq, i3_div, i6_div, i6_i3, i3_i6, c6_lt, c6_ge, c6_gt, c6_le, c6_eq, i3_ite, i6_ite, ib_0, ib_z, ite_not, i1_0, i0_0, jB_1, jB_0, jB_ib, bI_v, bL_v, bD_v, bV_v, ob_s, ob_i, i3_ofNat, jx_e, bI_e, bL_e, bD_e, bV_e, i3_eq0, i6_eq0, if_mx, if_mn, if_true, if_false, not_true_eq_false, not_false_eq_true, Int.reduceEq, Int.reduceLT, Int.reduceLE, g12_34, g12_35, hu.1, hu.2.1, z1, q, bX12_pageGap_49, r12_39, a12_39, hQ, qc, g', bX12_pageGap_90, bX12_pageGap_95, e4, q1, bX12_pageGap_111, bX12_pageGap_112, eX12_flag, bX12_flag_0, bX12_flag_4, bX12_flag_8, bX12_flag_9, i3_add, i3_sub, i3_mul, i3_neg, i6_add, i6_sub, i6_mul, i6_neg, i3_lt, i3_le, i3_eq, i6_lt, i6_eq, i3_div, i6_div, i6_i3, i3_i6, c6_lt, c6_ge, c6_gt, c6_le, c6_eq, i3_ite, i6_ite, ib_0, ib_z, ite_not, i1_0, i0_0, jB_1, jB_0, jB_ib, bI_v, bL_v, bD_v, bV_v, ob_s, ob_i, i3_ofNat, jx_e, bI_e, bL_e, bD_e, bV_e, i3_eq0, i6_eq0, if_mx, if_mn, if_true, if_false, not_true_eq_false, not_false_eq_true, Int.reduceEq, Int.reduceLT, Int.reduceLE]
          rfl
        · have g' : (Q - Q / 2 * 2 = 1) = False := eq_false (by omega)
          rw [show Q % 2 = 0 by omega] at e4
          simp (disch := first | assumption | omega) only [↓reduceIte, i3_add, i3_sub, i3_mul, i3_neg, i6_add, i6_sub, i6_mul, i6_neg, i3_lt, i3_le, i3_eq, i6_lt, i6_eq, i3_div, i6_div, i6_i3, i3_i6, c6_lt, c6_ge, c6_gt, c6_le, c6_eq, i3_ite, i6_ite, ib_0, ib_z, ite_not, i1_0, i0_0, jB_1, jB_0, jB_ib, bI_v, bL_v, bD_v, bV_v, ob_s, ob_i, i3_ofNat, jx_e, bI_e, bL_e, bD_e, bV_e, i3_eq0, i6_eq0, if_mx, if_mn, if_true, if_false, not_true_eq_false, not_false_eq_true, Int.reduceEq, Int.reduceLT, Int.reduceLE, g12_34, g12_35, hu.1, hu.2.1, z1, q, bX12_pageGap_49, r12_39, a12_39, hQ, qc, g', bX12_pageGap_94, bX12_pageGap_95, e4, q1, bX12_pageGap_111, bX12_pageGap_112, eX12_flag, bX12_flag_0, bX12_flag_4, bX12_flag_8, bX12_flag_9, i3_add, i3_sub, i3_mul, i3_neg, i6_add, i6_sub, i6_mul, i6_neg, i3_lt, i3_le, i3_eq, i6_lt, i6_eq, i3_div, i6_div, i6_i3, i3_i6, c6_lt, c6_ge, c6_gt, c6_le, c6_eq, i3_ite, i6_ite, ib_0, ib_z, ite_not, i1_0, i0_0, jB_1, jB_0, jB_ib, bI_v, bL_v, bD_v, bV_v, ob_s, ob_i, i3_ofNat, jx_e, bI_e, bL_e, bD_e, bV_e, i3_eq0, i6_eq0, if_mx, if_mn, if_true, if_false, not_true_eq_false, not_false_eq_true, Int.reduceEq, Int.reduceLT, Int.reduceLE]
          rfl) (w3, none, none) fr78_id
      obtain ⟨y, e4, hy⟩ := hl
      have q3 : (htX f.toNat ≤ ((0 + 2 ^ f.toNat : Nat) : Int)) = True := eq_true (by omega)
      have e5 : jm_R (jm_env (d + 6)) jmM_X12_pageGap 35 [some (.ref 411), some (.int (i3 i)), some (.int (i3 n)), some (.int (i3 f)), some (.int (i3 0)), some (.int (i3 0)), none, none] [] (qM X v w3 T c s) = jm_R (jm_env (d + 6)) jmM_X12_pageGap 35 [some (.ref 411), some (.int (i3 i)), some (.int (i3 n)), some (.int (i3 f)), some (.int (i3 0)), some (.int (i3 ((0 + 2 ^ f.toNat : Nat) : Int))), y.2.1, y.2.2] [] (qM X v y.1 T c s) := e4
      have hy1 := lW_fr hw3 hy
      apply mR_0
      refine ⟨y.1, ?_, (hy 411 8 (by omega)).trans h83⟩
      rw [eX12_pageGap (h := hT), bX12_pageGap_0]
      simp (disch := first | assumption | omega) only [↓reduceIte, i3_add, i3_sub, i3_mul, i3_neg, i6_add, i6_sub, i6_mul, i6_neg, i3_lt, i3_le, i3_eq, i6_lt, i6_eq, i3_div, i6_div, i6_i3, i3_i6, c6_lt, c6_ge, c6_gt, c6_le, c6_eq, i3_ite, i6_ite, ib_0, ib_z, ite_not, i1_0, i0_0, jB_1, jB_0, jB_ib, bI_v, bL_v, bD_v, bV_v, ob_s, ob_i, i3_ofNat, jx_e, bI_e, bL_e, bD_e, bV_e, i3_eq0, i6_eq0, if_mx, if_mn, if_true, if_false, not_true_eq_false, not_false_eq_true, Int.reduceEq, Int.reduceLT, Int.reduceLE, p12_8, e1, bX12_pageGap_17, e2, e3]
      refine Eq.trans e5 ?_
      rw [bX12_pageGap_35]
      simp (disch := first | assumption | omega) only [↓reduceIte, i3_add, i3_sub, i3_mul, i3_neg, i6_add, i6_sub, i6_mul, i6_neg, i3_lt, i3_le, i3_eq, i6_lt, i6_eq, i3_div, i6_div, i6_i3, i3_i6, c6_lt, c6_ge, c6_gt, c6_le, c6_eq, i3_ite, i6_ite, ib_0, ib_z, ite_not, i1_0, i0_0, jB_1, jB_0, jB_ib, bI_v, bL_v, bD_v, bV_v, ob_s, ob_i, i3_ofNat, jx_e, bI_e, bL_e, bD_e, bV_e, i3_eq0, i6_eq0, if_mx, if_mn, if_true, if_false, not_true_eq_false, not_false_eq_true, Int.reduceEq, Int.reduceLT, Int.reduceLE, g12_34, g12_35, hy1.1, hy1.2.1, z1, q3, bX12_pageGap_124]
    · rw [cd2_2 gA gB]
      obtain ⟨w1, e1, h1⟩ := sX12_noFolds_2 (d := d) (X := X) (w := w) (T := T) (c := c) (s := s) hT hg hf gA gB
      apply mR_1 (by decide)
      refine ⟨w1, 0, ?_, h1⟩
      rw [eX12_pageGap (h := hT), bX12_pageGap_0]
      simp (disch := first | assumption | omega) only [↓reduceIte, i3_add, i3_sub, i3_mul, i3_neg, i6_add, i6_sub, i6_mul, i6_neg, i3_lt, i3_le, i3_eq, i6_lt, i6_eq, i3_div, i6_div, i6_i3, i3_i6, c6_lt, c6_ge, c6_gt, c6_le, c6_eq, i3_ite, i6_ite, ib_0, ib_z, ite_not, i1_0, i0_0, jB_1, jB_0, jB_ib, bI_v, bL_v, bD_v, bV_v, ob_s, ob_i, i3_ofNat, jx_e, bI_e, bL_e, bD_e, bV_e, i3_eq0, i6_eq0, if_mx, if_mn, if_true, if_false, not_true_eq_false, not_false_eq_true, Int.reduceEq, Int.reduceLT, Int.reduceLE, p12_8, e1, q10, bX12_pageGap_15]
  · rw [cd2_1 gA]
    obtain ⟨w1, e1, h1⟩ := sX12_noFolds_1 (d := d) (X := X) (w := w) (T := T) (c := c) (s := s) (f := f) hT hg hi hn gA
    apply mR_1 (by decide)
    refine ⟨w1, 0, ?_, h1⟩
    rw [eX12_pageGap (h := hT), bX12_pageGap_0]
    simp (disch := first | assumption | omega) only [↓reduceIte, i3_add, i3_sub, i3_mul, i3_neg, i6_add, i6_sub, i6_mul, i6_neg, i3_lt, i3_le, i3_eq, i6_lt, i6_eq, i3_div, i6_div, i6_i3, i3_i6, c6_lt, c6_ge, c6_gt, c6_le, c6_eq, i3_ite, i6_ite, ib_0, ib_z, ite_not, i1_0, i0_0, jB_1, jB_0, jB_ib, bI_v, bL_v, bD_v, bV_v, ob_s, ob_i, i3_ofNat, jx_e, bI_e, bL_e, bD_e, bV_e, i3_eq0, i6_eq0, if_mx, if_mn, if_true, if_false, not_true_eq_false, not_false_eq_true, Int.reduceEq, Int.reduceLT, Int.reduceLE, p12_8, e1, q10, bX12_pageGap_15]
end FOM
section FOM2
variable {d : Nat} {X : Nat × (Nat → Int32)} {v : Nat → Int → Int} {T : Nat} {n : Int}
theorem rp_pageGap {i k f : Int} (hR : RS v n) (hT : 18 ≤ T) (hi : isI i) (hk : isI k) (hf : isI f) : sIp (fun m => jm_env (d + 10) 165 [.ref 0, .int (i3 i), .int (i3 k), .int (i3 f)] m) (fun m => jm_env (d + 11) 325 [.ref 411, .int (i3 i), .int (i3 k), .int (i3 f)] m) eIB eIA X v T n :=
  sIp_ask (fun _ _ _ => cX11_pageGap (d := d + 4) hR.1.lo hi hk hf) (fun _ _ _ => mX12_pageGap (d := d + 4) hT hR.1.2.1.1 hi hk hf) cd2_c hR
end FOM2
