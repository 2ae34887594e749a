-- uses 24.zar 25.obj 26.ops 27.ra 28.rb 29.rc 34.gen 35.byt 36.ser 37.lnd 38.mod 39.mo2 40.mo3 41.bit 44.mo6 45.mo7 46.mo8 47.mo9 48.moa 51.moe 53.cla 54.clb 58.clf 61.cli 62.clj 63.clk 64.okm 73.clr 74.cls 93.tka 94.tkb 95.drf
/-! Setups: what a text tells, and the class's reading of it. -/
theorem gS_k {X : Nat × (Nat → Int32)} {v w : Nat → Int → Int} {T c s k : Nat} (hT : T < 1000000000) (hk : k < 4) : jm_gS (qM X v w T c s) (1099511627776 + k) = some ((jm_strT.getD k []).length, fun i => (jm_strT.getD k []).getD i 0) := by
  unfold jm_gS
  have e : (qM X v w T c s).2.1 (1099511627776 + k) = jm_sE k := by
    show pl_H X v w (411 + T) (1099511627776 + k) = _
    unfold pl_H
    rw [if_neg (by omega)]
    unfold pl_sp jm_scr jm_str
    rw [if_neg (by omega), if_pos (by omega), show 1099511627776 + k - 1099511627776 = k by omega]
  rw [e]
  rfl
/-- the letters of a word of the class -/
def wLt (k : Nat) (j : Int) : Int := ((jm_strT.getD k []).getD j.toNat 0).toInt
def wLn (k : Nat) : Nat := (jm_strT.getD k []).length
def wNo (k : Nat) : Int := nk (wLt k) (wLn k)
theorem wLt_ok : ∀ k : Nat, 1 ≤ k → k < 4 → wLn k < 12 ∧ ltOk (wLt k) (wLn k) := by
  have h : ∀ k : Nat, k < 4 → 1 ≤ k → wLn k < 12 ∧ ∀ j : Nat, j < wLn k → 97 ≤ wLt k j ∧ wLt k j ≤ 122 := by decide +kernel
  intro k h1 h2
  obtain ⟨a, b⟩ := h k h2 h1
  refine ⟨a, fun j j0 j1 => ?_⟩
  have := b j.toNat (by omega)
  rw [show ((j.toNat : Nat) : Int) = j by omega] at this
  exact this
theorem wNo_1 : wNo 1 = 394692 := by decide +kernel
theorem wNo_2 : wNo 2 = 643376307 := by decide +kernel
theorem wNo_3 : wNo 3 = 632645 := by decide +kernel
section SRD
variable {d : Nat} {X : Nat × (Nat → Int32)} {v w : Nat → Int → Int} {T c s : Nat}
variable {b : Int → Int} {n : Nat}
theorem tX7_isWord {p k : Nat} (h : TB v b n) (hp : p ≤ n) (hT : T < 1000000000) (k1 : 1 ≤ k) (k2 : k < 4) : jm_env (d + 2) 68 [.ref 5, .ref (1099511627776 + k)] (qM X v (RD w b p) T c s) = some (.inl (some (.int (i3 (if isW b p (wNo k) then 1 else 0)))), qM X v (RD w b p) T c s) := by
  have ho := h.ok
  have hl := ho.1
  have hen := en_b ho hp
  have o1 := oByt_1
  obtain ⟨w1, w2⟩ := wLt_ok k k1 k2
  have hg := fun w' => gS_k (X := X) (v := v) (w := w') (c := c) (s := s) hT k2
  have hiw : kd b p ≠ 1 → ¬ isW b p (wNo k) := fun g q => g q.1
  have hkb : 0 ≤ kd b p ∧ kd b p ≤ 3 := by rcases kd_c b p with ⟨q, -⟩ | ⟨q, -⟩ | ⟨q, -⟩ | ⟨q, -⟩ <;> omega
  have hln : ((jm_strT.getD k []).length : Int) = wLn k := rfl
  by_cases g : kd b p = 1
  · have hI : (((en b p - p : Nat) : Int) = wLn k ∧ ∀ j : Nat, j < wLn k → b (p + j) = wLt k j) ↔ isW b p (wNo k) := isW_L ho hp w1 w2 g
    have hl := ch_a (p := fun j : Nat => b (p + j) = wLt k j) (fun j : Nat => jm_R (jm_env (d + 1)) jmM_X7_isWord 28 [some (.ref 5), some (.ref (1099511627776 + k)), some (.int (i3 j))] [] (qM X v (RD w b p) T c s)) (some (.inl (some (.int (i3 (0)))), qM X v (RD w b p) T c s)) (some (.inl (some (.int (i3 (1)))), qM X v (RD w b p) T c s)) (wLn k) (fun j hj => by
      have hbb := b_b ho (p + j)
      have hlt := w2 j (by omega) (by omega)
      have hjx : jm_ix (i3 j) (jm_strT.getD k []).length = some j := by
        have := ix_z (z := (j : Int)) (n := wLn k) (by omega) (by omega) (by omega)
        rw [Int.toNat_natCast] at this
        exact this
      have hlt2 : (jm_strT.getD k []).getD j 0 = i3 (wLt k j) := by
        unfold wLt i3
        rw [Int.toNat_natCast, Int32.ofInt_toInt]
      rw [bX7_isWord_28]
      unfold RD
      simp (disch := first | assumption | omega) only [eX7_isWord, bX7_isWord_0, bX7_isWord_8, bX7_isWord_24, bX7_isWord_26, bX7_isWord_36, bX7_isWord_57, bX7_isWord_59, bX7_isWord_65, g7_1, g7_3, g7_2, r7_0, i3_add, i3_sub, i3_mul, i3_neg, i6_add, i6_sub, i6_mul, i6_neg, i3_lt, i3_le, i3_eq, i6_lt, i6_eq, i3_div, i6_div, i6_i3, i3_i6, c6_lt, c6_ge, c6_gt, c6_le, c6_eq, i3_ite, i6_ite, ib_0, ib_z, ite_not, i1_0, i0_0, jB_1, jB_0, jB_ib, bI_v, bL_v, bD_v, bV_v, ob_s, ob_i, i3_ofNat, jx_e, bI_e, bL_e, bD_e, bV_e, i3_eq0, i6_eq0, if_mx, if_mn, if_true, if_false, not_true_eq_false, not_false_eq_true, Int.reduceEq, Int.reduceLT, Int.reduceLE, hg, hln, hjx, hlt2, rdU_2, tX0_byteAt h]
      rw [if_neg (by omega)]
      rfl) (by
      rw [bX7_isWord_28]
      unfold RD
      simp (disch := first | assumption | omega) only [eX7_isWord, bX7_isWord_0, bX7_isWord_8, bX7_isWord_24, bX7_isWord_26, bX7_isWord_36, bX7_isWord_57, bX7_isWord_59, bX7_isWord_65, g7_1, g7_3, g7_2, r7_0, i3_add, i3_sub, i3_mul, i3_neg, i6_add, i6_sub, i6_mul, i6_neg, i3_lt, i3_le, i3_eq, i6_lt, i6_eq, i3_div, i6_div, i6_i3, i3_i6, c6_lt, c6_ge, c6_gt, c6_le, c6_eq, i3_ite, i6_ite, ib_0, ib_z, ite_not, i1_0, i0_0, jB_1, jB_0, jB_ib, bI_v, bL_v, bD_v, bV_v, ob_s, ob_i, i3_ofNat, jx_e, bI_e, bL_e, bD_e, bV_e, i3_eq0, i6_eq0, if_mx, if_mn, if_true, if_false, not_true_eq_false, not_false_eq_true, Int.reduceEq, Int.reduceLT, Int.reduceLE, hg, hln]
      rw [if_pos (by omega)])
    unfold RD at hl ⊢
    simp (disch := first | assumption | omega) only [eX7_isWord, bX7_isWord_0, bX7_isWord_8, bX7_isWord_24, bX7_isWord_26, bX7_isWord_36, bX7_isWord_57, bX7_isWord_59, bX7_isWord_65, g7_1, g7_3, g7_2, r7_0, i3_add, i3_sub, i3_mul, i3_neg, i6_add, i6_sub, i6_mul, i6_neg, i3_lt, i3_le, i3_eq, i6_lt, i6_eq, i3_div, i6_div, i6_i3, i3_i6, c6_lt, c6_ge, c6_gt, c6_le, c6_eq, i3_ite, i6_ite, ib_0, ib_z, ite_not, i1_0, i0_0, jB_1, jB_0, jB_ib, bI_v, bL_v, bD_v, bV_v, ob_s, ob_i, i3_ofNat, jx_e, bI_e, bL_e, bD_e, bV_e, i3_eq0, i6_eq0, if_mx, if_mn, if_true, if_false, not_true_eq_false, not_false_eq_true, Int.reduceEq, Int.reduceLT, Int.reduceLE, hg, hln, rdU_1, rdU_2, rdU_3, g]
    push_cast at hl
    rw [g, if_neg (show ¬ ((1 : Int) = 2) by decide)] at hl
    by_cases q1 : ((en b p - p : Nat) : Int) = wLn k
    · rw [if_pos (by omega), hl]
      by_cases q2 : ∀ j : Nat, j < wLn k → b (p + j) = wLt k j
      · rw [if_pos q2, if_pos (hI.mp ⟨q1, q2⟩)]
      · rw [if_neg q2, if_neg (fun q => q2 (hI.mpr q).2)]
    · rw [if_neg (by omega), if_neg (fun q => q1 (hI.mpr q).1)]
  · rw [if_neg (hiw g)]
    have g' : (kd b p = 1) = False := eq_false g
    unfold RD
    simp (disch := first | assumption | omega) only [↓reduceIte, eX7_isWord, bX7_isWord_0, bX7_isWord_8, bX7_isWord_24, bX7_isWord_26, bX7_isWord_36, bX7_isWord_57, bX7_isWord_59, bX7_isWord_65, g7_1, g7_3, g7_2, r7_0, i3_add, i3_sub, i3_mul, i3_neg, i6_add, i6_sub, i6_mul, i6_neg, i3_lt, i3_le, i3_eq, i6_lt, i6_eq, i3_div, i6_div, i6_i3, i3_i6, c6_lt, c6_ge, c6_gt, c6_le, c6_eq, i3_ite, i6_ite, ib_0, ib_z, ite_not, i1_0, i0_0, jB_1, jB_0, jB_ib, bI_v, bL_v, bD_v, bV_v, ob_s, ob_i, i3_ofNat, jx_e, bI_e, bL_e, bD_e, bV_e, i3_eq0, i6_eq0, if_mx, if_mn, if_true, if_false, not_true_eq_false, not_false_eq_true, Int.reduceEq, Int.reduceLT, Int.reduceLE, rdU_1, g']
end SRD
