-- uses 24.zar 25.obj 26.ops 27.ra 29.rc 34.gen 35.byt 36.ser 37.lnd 38.mod 39.mo2 40.mo3 44.mo6 45.mo7 46.mo8 47.mo9 48.moa 49.mob 50.moc 51.moe 52.mof 53.cla 54.clb 55.clc 56.cld 57.cle 58.clf 61.cli 62.clj 63.clk 64.okm 65.cll 66.clm 67.okf 68.okg 69.cln
/-! The class: orders; the calls that change the land. -/
section CLO
variable {d : Nat} {X : Nat × (Nat → Int32)} {v w : Nat → Int → Int} {T c s : Nat}
variable {μ : Nat → Int → Int} {m : Int}
theorem plD_fr {a b q : Int} {w w' : Nat → Int → Int} (h : plD μ a b q w) (e : ∀ n : Nat, 339 ≤ n → n ≤ 341 → w' n = w n) : plD μ a b q w' := by
  unfold plD at h ⊢
  rw [e 339 (by omega) (by omega), e 340 (by omega) (by omega), e 341 (by omega) (by omega)]
  exact h
theorem flR_b {a b q : Int} : (flR μ a b q < -1 ∧ flR μ a b q = -5 - whyA μ a b q ∧ (nrA μ a b q).1 = -1 ∧ 1 ≤ whyA μ a b q ∧ whyA μ a b q ≤ 2) ∨ (0 ≤ flR μ a b q ∧ flR μ a b q = 100 * (nrA μ a b q).1 + (nrA μ a b q).2 ∧ whyA μ a b q = 0 ∧ (nrA μ a b q).1 ≠ -1) := by
  unfold flR whyA
  rcases nrA_c (v := μ) a b q 0 with ⟨h1, -⟩ | ⟨-, h3, h4, h5, h6⟩
  · left
    rw [if_pos h1, if_pos h1]
    split <;> omega
  · right
    rw [if_neg (by omega), if_neg (by omega)]
    omega
theorem tX11_doPrintOrder (h : LQ v μ m) (hm : 0 ≤ m) {a b q z : Int} (ha : 1 ≤ a) (hA : a ≤ 2000) (hb : 1 ≤ b) (hB : b ≤ 2000) (q0 : 1 ≤ q) (q1 : q ≤ 999) (hz : z = 0 ∨ z = 1) : ∃ v' w', jm_env (d + 5) 119 [.ref 0, .int (i3 a), .int (i3 b), .int (i3 q), .int (i3 z)] (qM X v w T c s) = some (.inl (some (.int (i3 (flR μ a b q)))), qM X v' w' T c s) ∧ LQ v' (tzV μ (flR μ a b q) (flV μ a b q) z) (m + 1) ∧ frL v' v ∧ fr3 w w' := by
  obtain ⟨hl, ho, hh, hr⟩ := id h
  have hlo := h.lo
  obtain ⟨w', e, hp, hfw⟩ := tX5_make (d := d) (X := X) (T := T) (c := c) (s := s) (w := w) hlo ha hA hb hB q0 q1
  obtain ⟨p1, p2, p3, p4, p5, p6, -⟩ := id hp
  have hbB : ∀ k : Nat, k ≠ 412 → flV μ a b q k = μ k := fun k hk => flV_b hk
  rcases flR_b (μ := μ) (a := a) (b := b) (q := q) with ⟨r1, r2, r3, r4, r5⟩ | ⟨r1, r2, r3, r4⟩
  · obtain ⟨v', e2, hs, hf⟩ := tX11_refuse (d := d + 3) (X := X) (T := T) (c := c) (s := s) (w := w') (r := flR μ a b q) h (by omega) (by omega)
    refine ⟨v', w', ?_, ?_, hf, hfw⟩
    · have e5 : Int32.ofInt (-5) = i3 (-5) := rfl
      simp (disch := first | assumption | omega) only [eX11_doPrintOrder, bX11_doPrintOrder_0, bX11_doPrintOrder_24, bX11_doPrintOrder_39, bX11_doPrintOrder_44, bX11_doPrintOrder_55, r11_11, r11_5, g5_4, r11_7, i3_add, i3_sub, i3_mul, i3_neg, i6_add, i6_sub, i6_mul, i6_neg, i3_lt, i3_le, i3_eq, i6_lt, i6_eq, i3_div, i6_div, i6_i3, i3_i6, c6_lt, c6_ge, c6_gt, c6_le, c6_eq, i3_ite, i6_ite, ib_0, ib_z, ite_not, i1_0, i0_0, jB_1, jB_0, jB_ib, bI_v, bL_v, bD_v, bV_v, ob_s, ob_i, i3_ofNat, jx_e, bI_e, bL_e, bD_e, bV_e, i3_eq0, i6_eq0, if_mx, if_mn, if_true, if_false, not_true_eq_false, not_false_eq_true, Int.reduceEq, Int.reduceLT, Int.reduceLE, e, p4, e5, ← r2, e2]
      rw [if_neg (by omega)]
    · have e2 : tzV μ (flR μ a b q) (flV μ a b q) z = up μ 418 (flR μ a b q + 7) (μ 418 (flR μ a b q + 7) + 1) := by
        unfold tzV trV tsV
        rw [if_pos r1, if_pos r1]
        split <;> rfl
      rw [e2]
      exact LQ_le hs (by omega)
  · have hok := okM_fl ho ha hb hA hB q0 q1 hm r4
    have ht : ∀ (u : Nat → Int → Int), jm_env (d + 4) 58 [.ref 339] (qM X u w' T c s) = some (.inl (some (.int (i3 (flR μ a b q)))), qM X u w' T c s) := by
      intro u
      simp (disch := first | assumption | omega) only [eX5_told, bX5_told_0, g5_5, g5_6, i3_add, i3_sub, i3_mul, i3_neg, i6_add, i6_sub, i6_mul, i6_neg, i3_lt, i3_le, i3_eq, i6_lt, i6_eq, i3_div, i6_div, i6_i3, i3_i6, c6_lt, c6_ge, c6_gt, c6_le, c6_eq, i3_ite, i6_ite, ib_0, ib_z, ite_not, i1_0, i0_0, jB_1, jB_0, jB_ib, bI_v, bL_v, bD_v, bV_v, ob_s, ob_i, i3_ofNat, jx_e, bI_e, bL_e, bD_e, bV_e, i3_eq0, i6_eq0, if_mx, if_mn, if_true, if_false, not_true_eq_false, not_false_eq_true, Int.reduceEq, Int.reduceLT, Int.reduceLE, p5, p6, r2]
    rcases hz with rfl | rfl
    · obtain ⟨v', e2, hs, hf⟩ := tX4_fill (d := d) (X := X) (T := T) (c := c) (s := s) (w := w') h hm ha hA hb hB q0 q1 r4 hp
      refine ⟨v', w', ?_, ?_, hf.l, hfw⟩
      · simp (disch := first | assumption | omega) only [eX11_doPrintOrder, bX11_doPrintOrder_0, bX11_doPrintOrder_24, bX11_doPrintOrder_39, bX11_doPrintOrder_44, bX11_doPrintOrder_55, r11_11, r11_5, g5_4, r11_7, i3_add, i3_sub, i3_mul, i3_neg, i6_add, i6_sub, i6_mul, i6_neg, i3_lt, i3_le, i3_eq, i6_lt, i6_eq, i3_div, i6_div, i6_i3, i3_i6, c6_lt, c6_ge, c6_gt, c6_le, c6_eq, i3_ite, i6_ite, ib_0, ib_z, ite_not, i1_0, i0_0, jB_1, jB_0, jB_ib, bI_v, bL_v, bD_v, bV_v, ob_s, ob_i, i3_ofNat, jx_e, bI_e, bL_e, bD_e, bV_e, i3_eq0, i6_eq0, if_mx, if_mn, if_true, if_false, not_true_eq_false, not_false_eq_true, Int.reduceEq, Int.reduceLT, Int.reduceLE, e, p4, r3, e2, ht]
      · have e3 : tzV μ (flR μ a b q) (flV μ a b q) 0 = flV μ a b q := by
          unfold tzV tsV
          rw [if_neg (by omega), if_neg (by omega)]
        rw [e3]
        exact LQ_land h hm hs hok hf hbB
    · obtain ⟨v1, e1, hh1, hf1⟩ := tX3_keep (d := d + 1) (X := X) (T := T) (c := c) (s := s) (w := w') (b := 14) hh rfl hl ho
      have hlo1 := LO_keep h hf1
      obtain ⟨v', e2, hs, hf⟩ := tX4_fill' (d := d) (X := X) (T := T) (c := c) (s := s) (w := w') hlo1 ho hm ha hA hb hB q0 q1 r4 hp
      refine ⟨v', w', ?_, ?_, fun m hm => (hf m (by omega)).trans (hf1 m (by omega)), hfw⟩
      · simp (disch := first | assumption | omega) only [eX11_doPrintOrder, bX11_doPrintOrder_0, bX11_doPrintOrder_24, bX11_doPrintOrder_39, bX11_doPrintOrder_44, bX11_doPrintOrder_55, r11_11, r11_5, g5_4, r11_7, i3_add, i3_sub, i3_mul, i3_neg, i6_add, i6_sub, i6_mul, i6_neg, i3_lt, i3_le, i3_eq, i6_lt, i6_eq, i3_div, i6_div, i6_i3, i3_i6, c6_lt, c6_ge, c6_gt, c6_le, c6_eq, i3_ite, i6_ite, ib_0, ib_z, ite_not, i1_0, i0_0, jB_1, jB_0, jB_ib, bI_v, bL_v, bD_v, bV_v, ob_s, ob_i, i3_ofNat, jx_e, bI_e, bL_e, bD_e, bV_e, i3_eq0, i6_eq0, if_mx, if_mn, if_true, if_false, not_true_eq_false, not_false_eq_true, Int.reduceEq, Int.reduceLT, Int.reduceLE, e, p4, r3, e1, e2, ht]
      · have e3 : tzV μ (flR μ a b q) (flV μ a b q) 1 = kpV (flV μ a b q) (μ 412) := by
          unfold tzV trV
          rw [if_pos rfl, if_neg (by omega)]
        rw [e3]
        exact LQ_keep h hh1 hf1 hs hok hf hbB
end CLO
