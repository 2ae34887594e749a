-- uses 24.zar 25.obj 26.ops 27.ra 29.rc 30.rd 31.re 34.gen 35.byt 36.ser 37.lnd 38.mod 39.mo2 40.mo3 41.bit 42.mo4 43.mo5 44.mo6 53.cla 58.clf 81.fpa
/-! The ratio of the sides. -/
def raM (v : Nat → Int → Int) (i n : Int) : UInt64 := if aM v i n = 0 then FP.dconst0 else FP.ddiv (FP.i2d (i3 (max (szM v i n).1 (szM v i n).2))) (FP.i2d (i3 (min (szM v i n).1 (szM v i n).2)))
section RAT
variable {d : Nat} {X : Nat × (Nat → Int32)} {v w : Nat → Int → Int} {T c s : Nat}
variable {μ : Nat → Int → Int}
theorem mX12_ratio {i n : Int} (hT : 18 ≤ T) (hg : gM v) (hz : zM v) (hi : isI i) (hn : isI n) : ∃ w' b, jm_env (d + 4) 306 [.ref 411, .int (i3 i), .int (i3 n)] (qM X v w T c s) = some (.inl (some (.double b)), qM X v w' T c s) ∧ w' 411 8 = cd1 ((0 ≤ i ∧ i < v 412 0) ∧ 0 ≤ n ∧ n < 10) ∧ (cd1 ((0 ≤ i ∧ i < v 412 0) ∧ 0 ≤ n ∧ n < 10) = 0 → b = raM v i n) := by
  obtain ⟨hi0, hi1⟩ := hi
  obtain ⟨hn0, hn1⟩ := hn
  obtain ⟨hc0, hc1, -⟩ := id hg
  by_cases g : (0 ≤ i ∧ i < v 412 0) ∧ 0 ≤ n ∧ n < 10
  · obtain ⟨⟨g1, g2⟩, g3, g4⟩ := id g
    rw [cd1_0 g]
    have ho := hg.o g1 g2
    have hsz := szM_b ho n
    have hzz := szM_z hz g1 g2 n
    have hw := aM_w hz g1 g2 n
    have h8 : fw (up w 411 8 0) (szM v i n) 411 8 = 0 := by
      first | (rw [fw_8, up_eq]) | (unfold fw; rw [up_ne (by omega), up_ne (by omega), up_eq])
    refine ⟨fw (up w 411 8 0) (szM v i n), raM v i n, ?_, h8, fun _ => rfl⟩
    unfold raM
    by_cases q : aM v i n = 0
    · have q2 := hw.mp q
      rw [if_pos q]
      simp (disch := first | assumption | omega) only [eX12_ratio, bX12_ratio_0, bX12_ratio_14, bX12_ratio_16, bX12_ratio_29, bX12_ratio_33, bX12_ratio_44, p12_8, g12_9, i3_add, i3_sub, i3_mul, i3_neg, i6_add, i6_sub, i6_mul, i6_neg, i3_lt, i3_le, i3_eq, i6_lt, i6_eq, i3_div, i6_div, i6_i3, i3_i6, c6_lt, c6_ge, c6_gt, c6_le, c6_eq, i3_ite, i6_ite, ib_0, ib_z, ite_not, i1_0, i0_0, jB_1, jB_0, jB_ib, bI_v, bL_v, bD_v, bV_v, ob_s, ob_i, i3_ofNat, jx_e, bI_e, bL_e, bD_e, bV_e, i3_eq0, i6_eq0, if_mx, if_mn, if_true, if_false, not_true_eq_false, not_false_eq_true, Int.reduceEq, Int.reduceLT, Int.reduceLE, sX12_noSize_0, sX12_finds, fw_9]
      rw [if_pos q2]
    · have q2 : ¬ (szM v i n).1 = 0 := fun e => q (hw.mpr e)
      have e1 := fp_l2d (a := max (szM v i n).1 (szM v i n).2) (by omega) (by omega)
      have e2 := fp_l2d (a := min (szM v i n).1 (szM v i n).2) (by omega) (by omega)
      rw [if_neg q]
      simp (disch := first | assumption | omega) only [eX12_ratio, bX12_ratio_0, bX12_ratio_14, bX12_ratio_16, bX12_ratio_29, bX12_ratio_33, bX12_ratio_44, p12_8, g12_9, i3_add, i3_sub, i3_mul, i3_neg, i6_add, i6_sub, i6_mul, i6_neg, i3_lt, i3_le, i3_eq, i6_lt, i6_eq, i3_div, i6_div, i6_i3, i3_i6, c6_lt, c6_ge, c6_gt, c6_le, c6_eq, i3_ite, i6_ite, ib_0, ib_z, ite_not, i1_0, i0_0, jB_1, jB_0, jB_ib, bI_v, bL_v, bD_v, bV_v, ob_s, ob_i, i3_ofNat, jx_e, bI_e, bL_e, bD_e, bV_e, i3_eq0, i6_eq0, if_mx, if_mn, if_true, if_false, not_true_eq_false, not_false_eq_true, Int.reduceEq, Int.reduceLT, Int.reduceLE, sX12_noSize_0, sX12_finds, fw_9, sX12_longer, sX12_shorter, e1, e2]
      rw [if_neg q2]
      exact fp_n64 (by omega) (by omega) (by omega) (by omega) _
  · rw [cd1_1 g]
    simp (disch := first | assumption | omega) only [eX12_ratio, bX12_ratio_0, bX12_ratio_14, bX12_ratio_16, bX12_ratio_29, bX12_ratio_33, bX12_ratio_44, p12_8, g12_9, i3_add, i3_sub, i3_mul, i3_neg, i6_add, i6_sub, i6_mul, i6_neg, i3_lt, i3_le, i3_eq, i6_lt, i6_eq, i3_div, i6_div, i6_i3, i3_i6, c6_lt, c6_ge, c6_gt, c6_le, c6_eq, i3_ite, i6_ite, ib_0, ib_z, ite_not, i1_0, i0_0, jB_1, jB_0, jB_ib, bI_v, bL_v, bD_v, bV_v, ob_s, ob_i, i3_ofNat, jx_e, bI_e, bL_e, bD_e, bV_e, i3_eq0, i6_eq0, if_mx, if_mn, if_true, if_false, not_true_eq_false, not_false_eq_true, Int.reduceEq, Int.reduceLT, Int.reduceLE, sX12_noSize_1]
    exact ⟨_, _, rfl, up_eq, fun e => absurd e (by decide)⟩
theorem cX11_ratio {i n : Int} (h : LO v 14 μ) (hi : isI i) (hn : isI n) : (cd1 ((0 ≤ i ∧ i < μ 412 0) ∧ 0 ≤ n ∧ n < 10) = 0 → ∃ w', jm_env (d + 3) 153 [.ref 0, .int (i3 i), .int (i3 n)] (qM X v w T c s) = some (.inl (some (.double (raM μ i n))), qM X v w' T c s)) ∧ (cd1 ((0 ≤ i ∧ i < μ 412 0) ∧ 0 ≤ n ∧ n < 10) = 1 → ∃ w', jm_env (d + 3) 153 [.ref 0, .int (i3 i), .int (i3 n)] (qM X v w T c s) = some (.inr eIB, qM X v w' T (c + 1) (s + 6))) := by
  obtain ⟨hi0, hi1⟩ := hi
  obtain ⟨hn0, hn1⟩ := hn
  have hln := h.1
  by_cases g : (0 ≤ i ∧ i < μ 412 0) ∧ 0 ≤ n ∧ n < 10
  · obtain ⟨⟨g1, g2⟩, g3, g4⟩ := id g
    rw [cd1_0 g]
    obtain ⟨i', rfl⟩ : ∃ i' : Nat, i = i' := ⟨i.toNat, (Int.toNat_of_nonneg g1).symm⟩
    have hc1 := h.2.2.1.2.1
    have ho := h.2.2.1.o g1 g2
    have hsz := szM_b ho n
    have hzz := szM_z h.2.2.2 g1 g2 n
    have hw := aM_w h.2.2.2 g1 g2 n
    refine ⟨fun _ => ⟨w, ?_⟩, fun e => absurd e (by decide)⟩
    unfold raM
    by_cases q : aM μ i' n = 0
    · rw [if_pos q]
      simp (disch := first | assumption | omega) only [eX11_ratio, bX11_ratio_0, bX11_ratio_24, bX11_ratio_28, bX11_ratio_41, r11_5, r4_3, q4_3, i3_add, i3_sub, i3_mul, i3_neg, i6_add, i6_sub, i6_mul, i6_neg, i3_lt, i3_le, i3_eq, i6_lt, i6_eq, i3_div, i6_div, i6_i3, i3_i6, c6_lt, c6_ge, c6_gt, c6_le, c6_eq, i3_ite, i6_ite, ib_0, ib_z, ite_not, i1_0, i0_0, jB_1, jB_0, jB_ib, bI_v, bL_v, bD_v, bV_v, ob_s, ob_i, i3_ofNat, jx_e, bI_e, bL_e, bD_e, bV_e, i3_eq0, i6_eq0, if_mx, if_mn, if_true, if_false, not_true_eq_false, not_false_eq_true, Int.reduceEq, Int.reduceLT, Int.reduceLE, tX11_requireSize_0 h, Int.toNat_natCast, tX9_isVoid h, q, or_true, if_true]
    · have q2 : ¬ (szM μ i' n).1 = 0 := fun e => q (hw.mpr e)
      have q3 : (10 ≤ n ∨ aM μ i' n = 0) = False := eq_false (by omega)
      have e3 := fp_n64 (a := max (szM μ i' n).1 (szM μ i' n).2) (b := min (szM μ i' n).1 (szM μ i' n).2) (by omega) (by omega) (by omega) (by omega)
      rw [if_neg q]
      simp (disch := first | assumption | omega) only [↓reduceIte, eX11_ratio, bX11_ratio_0, bX11_ratio_24, bX11_ratio_28, bX11_ratio_41, r11_5, r4_3, q4_3, i3_add, i3_sub, i3_mul, i3_neg, i6_add, i6_sub, i6_mul, i6_neg, i3_lt, i3_le, i3_eq, i6_lt, i6_eq, i3_div, i6_div, i6_i3, i3_i6, c6_lt, c6_ge, c6_gt, c6_le, c6_eq, i3_ite, i6_ite, ib_0, ib_z, ite_not, i1_0, i0_0, jB_1, jB_0, jB_ib, bI_v, bL_v, bD_v, bV_v, ob_s, ob_i, i3_ofNat, jx_e, bI_e, bL_e, bD_e, bV_e, i3_eq0, i6_eq0, if_mx, if_mn, if_true, if_false, not_true_eq_false, not_false_eq_true, Int.reduceEq, Int.reduceLT, Int.reduceLE, tX11_requireSize_0 h, Int.toNat_natCast, tX9_isVoid h, q3, tX9_longerAt h, tX9_shorterAt h, e3]
  · rw [cd1_1 g]
    refine ⟨fun e => absurd e (by decide), fun _ => ?_⟩
    simp (disch := first | assumption | omega) only [eX11_ratio, bX11_ratio_0, bX11_ratio_24, bX11_ratio_28, bX11_ratio_41, r11_5, r4_3, q4_3, i3_add, i3_sub, i3_mul, i3_neg, i6_add, i6_sub, i6_mul, i6_neg, i3_lt, i3_le, i3_eq, i6_lt, i6_eq, i3_div, i6_div, i6_i3, i3_i6, c6_lt, c6_ge, c6_gt, c6_le, c6_eq, i3_ite, i6_ite, ib_0, ib_z, ite_not, i1_0, i0_0, jB_1, jB_0, jB_ib, bI_v, bL_v, bD_v, bV_v, ob_s, ob_i, i3_ofNat, jx_e, bI_e, bL_e, bD_e, bV_e, i3_eq0, i6_eq0, if_mx, if_mn, if_true, if_false, not_true_eq_false, not_false_eq_true, Int.reduceEq, Int.reduceLT, Int.reduceLE, tX11_requireSize_1 h, exc_q]
    exact ⟨_, rfl⟩
end RAT
