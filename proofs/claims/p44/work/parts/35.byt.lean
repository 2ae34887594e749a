-- uses 24.zar 25.obj 26.ops 27.ra 29.rc 34.gen
/-! Bytes. -/
def bOk (v : Nat → Int → Int) (a : Nat) : Prop := 0 ≤ v a 1 ∧ v a 1 ≤ bcap a ∧ ∀ k : Int, 0 ≤ k → k < v a 1 → 0 ≤ v (a + 1) k ∧ v (a + 1) k ≤ 255
def bat (v : Nat → Int → Int) (a : Nat) (k : Int) : Int := if 0 ≤ k ∧ k < v a 1 then v (a + 1) k else -1
theorem bat_b {v : Nat → Int → Int} {a : Nat} (h : bOk v a) (k : Int) : -1 ≤ bat v a k ∧ bat v a k ≤ 255 := by
  have := h.2.2 k
  unfold bat
  split <;> omega
theorem bcap_b (a : Nat) : (bcap a : Int) ≤ 650 ∧ 600 ≤ (bcap a : Int) := by unfold bcap; split <;> omega
def bputV (v : Nat → Int → Int) (a : Nat) (z : Int) : Nat → Int → Int := if v a 1 < bcap a then up (up v (a + 1) (v a 1) z) a 1 (v a 1 + 1) else v
section BYT
variable {d : Nat} {X : Nat × (Nat → Int32)} {v w : Nat → Int → Int} {T c s : Nat}
theorem tX11_setAt {a k : Nat} {z : Int} {at' : Int} {m m' : jm_Mem} (hl : jm_len m a = some k) (hk : (k : Int) < 1000) (h0 : 0 ≤ at') (h1 : at' < k) (hw : jm_wI m a (i3 at') (i3 z) = some m') : jm_env (d + 1) 132 [.ref a, .int (i3 at'), .int (i3 z)] m = some (.inl none, m') := by
  have q0 : (at' < 0) = False := eq_false (by omega)
  have q1 : ((k : Int) ≤ at') = False := eq_false (by omega)
  simp (disch := first | assumption | omega) only [↓reduceIte, eX11_setAt, bX11_setAt_0, bX11_setAt_4, bX11_setAt_10, bX11_setAt_14, i3_add, i3_sub, i3_mul, i3_neg, i6_add, i6_sub, i6_mul, i6_neg, i3_lt, i3_le, i3_eq, i6_lt, i6_eq, i3_div, i6_div, i6_i3, i3_i6, c6_lt, c6_ge, c6_gt, c6_le, c6_eq, i3_ite, i6_ite, ib_0, ib_z, ite_not, i1_0, i0_0, jB_1, jB_0, jB_ib, bI_v, bL_v, bD_v, bV_v, ob_s, ob_i, i3_ofNat, jx_e, bI_e, bL_e, bD_e, bV_e, i3_eq0, i6_eq0, if_mx, if_mn, if_true, if_false, not_true_eq_false, not_false_eq_true, Int.reduceEq, Int.reduceLT, Int.reduceLE, hl, q0, q1, hw]
theorem tX11_valueAt {a k : Nat} {z at' : Int} {m : jm_Mem} (hl : jm_len m a = some k) (hk : (k : Int) < 1000) (h0 : 0 ≤ at') (h1 : at' < k) (hr : jm_aI m a (i3 at') = some (i3 z)) : jm_env (d + 1) 131 [.ref a, .int (i3 at')] m = some (.inl (some (.int (i3 (z)))), m) := by
  have q0 : (at' < 0) = False := eq_false (by omega)
  have q1 : ((k : Int) ≤ at') = False := eq_false (by omega)
  simp (disch := first | assumption | omega) only [↓reduceIte, eX11_valueAt, bX11_valueAt_0, bX11_valueAt_4, bX11_valueAt_10, bX11_valueAt_16, bX11_valueAt_17, i3_add, i3_sub, i3_mul, i3_neg, i6_add, i6_sub, i6_mul, i6_neg, i3_lt, i3_le, i3_eq, i6_lt, i6_eq, i3_div, i6_div, i6_i3, i3_i6, c6_lt, c6_ge, c6_gt, c6_le, c6_eq, i3_ite, i6_ite, ib_0, ib_z, ite_not, i1_0, i0_0, jB_1, jB_0, jB_ib, bI_v, bL_v, bD_v, bV_v, ob_s, ob_i, i3_ofNat, jx_e, bI_e, bL_e, bD_e, bV_e, i3_eq0, i6_eq0, if_mx, if_mn, if_true, if_false, not_true_eq_false, not_false_eq_true, Int.reduceEq, Int.reduceLT, Int.reduceLE, hl, q0, q1, hr]
theorem sX11_isLetter {z : Int} (h0 : -2147483648 ≤ z) (h1 : z < 2147483648) : jm_env (d + 1) 128 [.int (i3 z)] (qM X v w T c s) = some (.inl (some (.int (i3 (if 97 ≤ z ∧ z ≤ 122 then 1 else 0)))), (qM X v w T c s)) := by
  simp (disch := first | assumption | omega) only [eX11_isLetter, bX11_isLetter_0, bX11_isLetter_6, bX11_isLetter_12, bX11_isLetter_16, bX11_isLetter_17, i3_add, i3_sub, i3_mul, i3_neg, i6_add, i6_sub, i6_mul, i6_neg, i3_lt, i3_le, i3_eq, i6_lt, i6_eq, i3_div, i6_div, i6_i3, i3_i6, c6_lt, c6_ge, c6_gt, c6_le, c6_eq, i3_ite, i6_ite, ib_0, ib_z, ite_not, i1_0, i0_0, jB_1, jB_0, jB_ib, bI_v, bL_v, bD_v, bV_v, ob_s, ob_i, i3_ofNat, jx_e, bI_e, bL_e, bD_e, bV_e, i3_eq0, i6_eq0, if_mx, if_mn, if_true, if_false, not_true_eq_false, not_false_eq_true, Int.reduceEq, Int.reduceLT, Int.reduceLE]
  all_goals ((repeat' split) <;> first | rfl | (apply fin_i; omega) | (exfalso; omega))
theorem sX11_isDigit {z : Int} (h0 : -2147483648 ≤ z) (h1 : z < 2147483648) : jm_env (d + 1) 129 [.int (i3 z)] (qM X v w T c s) = some (.inl (some (.int (i3 (if 48 ≤ z ∧ z ≤ 57 then 1 else 0)))), (qM X v w T c s)) := by
  simp (disch := first | assumption | omega) only [eX11_isDigit, bX11_isDigit_0, bX11_isDigit_6, bX11_isDigit_12, bX11_isDigit_16, bX11_isDigit_17, i3_add, i3_sub, i3_mul, i3_neg, i6_add, i6_sub, i6_mul, i6_neg, i3_lt, i3_le, i3_eq, i6_lt, i6_eq, i3_div, i6_div, i6_i3, i3_i6, c6_lt, c6_ge, c6_gt, c6_le, c6_eq, i3_ite, i6_ite, ib_0, ib_z, ite_not, i1_0, i0_0, jB_1, jB_0, jB_ib, bI_v, bL_v, bD_v, bV_v, ob_s, ob_i, i3_ofNat, jx_e, bI_e, bL_e, bD_e, bV_e, i3_eq0, i6_eq0, if_mx, if_mn, if_true, if_false, not_true_eq_false, not_false_eq_true, Int.reduceEq, Int.reduceLT, Int.reduceLE]
  all_goals ((repeat' split) <;> first | rfl | (apply fin_i; omega) | (exfalso; omega))
theorem sX11_isBlank {z : Int} (h0 : -2147483648 ≤ z) (h1 : z < 2147483648) : jm_env (d + 1) 130 [.int (i3 z)] (qM X v w T c s) = some (.inl (some (.int (i3 (if z = 32 ∨ z = 10 then 1 else 0)))), (qM X v w T c s)) := by
  simp (disch := first | assumption | omega) only [eX11_isBlank, bX11_isBlank_0, bX11_isBlank_6, bX11_isBlank_12, bX11_isBlank_16, bX11_isBlank_17, i3_add, i3_sub, i3_mul, i3_neg, i6_add, i6_sub, i6_mul, i6_neg, i3_lt, i3_le, i3_eq, i6_lt, i6_eq, i3_div, i6_div, i6_i3, i3_i6, c6_lt, c6_ge, c6_gt, c6_le, c6_eq, i3_ite, i6_ite, ib_0, ib_z, ite_not, i1_0, i0_0, jB_1, jB_0, jB_ib, bI_v, bL_v, bD_v, bV_v, ob_s, ob_i, i3_ofNat, jx_e, bI_e, bL_e, bD_e, bV_e, i3_eq0, i6_eq0, if_mx, if_mn, if_true, if_false, not_true_eq_false, not_false_eq_true, Int.reduceEq, Int.reduceLT, Int.reduceLE]
  all_goals ((repeat' split) <;> first | rfl | (apply fin_i; omega) | (exfalso; omega))
theorem sX0_hasRoomP {a : Nat} {z : Int} (h : oByt a) (h3 : 0 ≤ v a 1) (h4 : v a 1 ≤ bcap a) (h0 : 0 ≤ z) (h1 : z < 1000) : jm_env (d + 1) 19 [.ref a, .int (i3 z)] (qM X v w T c s) = some (.inl (some (.int (i3 (if v a 1 + z ≤ bcap a then 1 else 0)))), (qM X v w T c s)) := by
  have h2 := bcap_b a
  simp (disch := first | assumption | omega) only [eX0_hasRoom, bX0_hasRoom_0, bX0_hasRoom_14, bX0_hasRoom_18, bX0_hasRoom_19, g0_1, r0_0, a0_0, w0_0, n0_0, i3_add, i3_sub, i3_mul, i3_neg, i6_add, i6_sub, i6_mul, i6_neg, i3_lt, i3_le, i3_eq, i6_lt, i6_eq, i3_div, i6_div, i6_i3, i3_i6, c6_lt, c6_ge, c6_gt, c6_le, c6_eq, i3_ite, i6_ite, ib_0, ib_z, ite_not, i1_0, i0_0, jB_1, jB_0, jB_ib, bI_v, bL_v, bD_v, bV_v, ob_s, ob_i, i3_ofNat, jx_e, bI_e, bL_e, bD_e, bV_e, i3_eq0, i6_eq0, if_mx, if_mn, if_true, if_false, not_true_eq_false, not_false_eq_true, Int.reduceEq, Int.reduceLT, Int.reduceLE]
  all_goals ((repeat' split) <;> first | rfl | (apply fin_i; omega) | (exfalso; omega))
theorem sX0_hasRoom {a : Nat} {z : Int} (h : oByt a) (hb : bOk v a) (h0 : 0 ≤ z) (h1 : z < 1000) : jm_env (d + 1) 19 [.ref a, .int (i3 z)] (qM X v w T c s) = some (.inl (some (.int (i3 (if v a 1 + z ≤ bcap a then 1 else 0)))), (qM X v w T c s)) := sX0_hasRoomP h hb.1 hb.2.1 h0 h1
theorem sX0_put {a : Nat} {z : Int} (h : oByt a) (h3 : 0 ≤ v a 1) (h4 : v a 1 ≤ bcap a) : jm_env (d + 2) 20 [.ref a, .int (i3 z)] (qM X v w T c s) = some (.inl none, qM X (bputV v a z) w T c s) := by
  have h2 := bcap_b a
  have e1 := sX0_hasRoomP (d := d) (X := X) (w := w) (T := T) (c := c) (s := s) (z := 1) h h3 h4 (by omega) (by omega)
  unfold bputV
  by_cases hq : v a 1 < bcap a
  · have e2 := tX11_setAt (d := d) (a := a + 1) (k := bcap a) (z := z) (at' := v a 1) (n0_0 (X := X) (v := v) (w := w) (T := T) (c := c) (s := s) h) (by omega) h3 hq (w0_0 h h3 hq)
    rw [if_pos (by omega)] at e1
    rw [if_pos hq]
    simp (disch := first | assumption | omega) only [↓reduceIte, eX0_put, bX0_put_0, bX0_put_8, bX0_put_30, i3_add, i3_sub, i3_mul, i3_neg, i6_add, i6_sub, i6_mul, i6_neg, i3_lt, i3_le, i3_eq, i6_lt, i6_eq, i3_div, i6_div, i6_i3, i3_i6, c6_lt, c6_ge, c6_gt, c6_le, c6_eq, i3_ite, i6_ite, ib_0, ib_z, ite_not, i1_0, i0_0, jB_1, jB_0, jB_ib, bI_v, bL_v, bD_v, bV_v, ob_s, ob_i, i3_ofNat, jx_e, bI_e, bL_e, bD_e, bV_e, i3_eq0, i6_eq0, if_mx, if_mn, if_true, if_false, not_true_eq_false, not_false_eq_true, Int.reduceEq, Int.reduceLT, Int.reduceLE, r0_0, a0_0, w0_0, n0_0, g0_1, p0_1, e1, e2, up_ne]
  · rw [if_neg (by omega)] at e1
    rw [if_neg hq]
    simp (disch := first | assumption | omega) only [↓reduceIte, eX0_put, bX0_put_0, bX0_put_8, bX0_put_30, i3_add, i3_sub, i3_mul, i3_neg, i6_add, i6_sub, i6_mul, i6_neg, i3_lt, i3_le, i3_eq, i6_lt, i6_eq, i3_div, i6_div, i6_i3, i3_i6, c6_lt, c6_ge, c6_gt, c6_le, c6_eq, i3_ite, i6_ite, ib_0, ib_z, ite_not, i1_0, i0_0, jB_1, jB_0, jB_ib, bI_v, bL_v, bD_v, bV_v, ob_s, ob_i, i3_ofNat, jx_e, bI_e, bL_e, bD_e, bV_e, i3_eq0, i6_eq0, if_mx, if_mn, if_true, if_false, not_true_eq_false, not_false_eq_true, Int.reduceEq, Int.reduceLT, Int.reduceLE, r0_0, a0_0, w0_0, n0_0, g0_1, p0_1, e1]
theorem sX0_shorten {a : Nat} {z : Int} (h : oByt a) : jm_env (d + 1) 22 [.ref a, .int (i3 z)] (qM X v w T c s) = some (.inl none, qM X (up v a 1 z) w T c s) := by
  simp (disch := first | assumption | omega) only [eX0_shorten, bX0_shorten_0, p0_1, i3_add, i3_sub, i3_mul, i3_neg, i6_add, i6_sub, i6_mul, i6_neg, i3_lt, i3_le, i3_eq, i6_lt, i6_eq, i3_div, i6_div, i6_i3, i3_i6, c6_lt, c6_ge, c6_gt, c6_le, c6_eq, i3_ite, i6_ite, ib_0, ib_z, ite_not, i1_0, i0_0, jB_1, jB_0, jB_ib, bI_v, bL_v, bD_v, bV_v, ob_s, ob_i, i3_ofNat, jx_e, bI_e, bL_e, bD_e, bV_e, i3_eq0, i6_eq0, if_mx, if_mn, if_true, if_false, not_true_eq_false, not_false_eq_true, Int.reduceEq, Int.reduceLT, Int.reduceLE]
theorem sX0_byteAt {a : Nat} {z : Int} (h : oByt a) (hb : bOk v a) (h0 : -2147483648 ≤ z) (h1 : z < 2147483648) : jm_env (d + 1) 23 [.ref a, .int (i3 z)] (qM X v w T c s) = some (.inl (some (.int (i3 (bat v a z)))), (qM X v w T c s)) := by
  have h2 := bcap_b a
  obtain ⟨h3, h4, -⟩ := hb
  simp (disch := first | assumption | omega) only [eX0_byteAt, bX0_byteAt_0, bX0_byteAt_4, bX0_byteAt_12, bX0_byteAt_21, bX0_byteAt_30, bX0_byteAt_31, g0_1, r0_0, a0_0, w0_0, n0_0, i3_add, i3_sub, i3_mul, i3_neg, i6_add, i6_sub, i6_mul, i6_neg, i3_lt, i3_le, i3_eq, i6_lt, i6_eq, i3_div, i6_div, i6_i3, i3_i6, c6_lt, c6_ge, c6_gt, c6_le, c6_eq, i3_ite, i6_ite, ib_0, ib_z, ite_not, i1_0, i0_0, jB_1, jB_0, jB_ib, bI_v, bL_v, bD_v, bV_v, ob_s, ob_i, i3_ofNat, jx_e, bI_e, bL_e, bD_e, bV_e, i3_eq0, i6_eq0, if_mx, if_mn, if_true, if_false, not_true_eq_false, not_false_eq_true, Int.reduceEq, Int.reduceLT, Int.reduceLE]
  unfold bat
  all_goals ((repeat' split) <;> first | rfl | (apply fin_i; omega) | (exfalso; omega))
theorem bput_len {v : Nat → Int → Int} {a : Nat} {z : Int} : bputV v a z a 1 = if v a 1 < bcap a then v a 1 + 1 else v a 1 := by
  unfold bputV
  split
  · exact up_eq
  · rfl
/-- a byte of a number -/
def by8 (z : Int) (n : Nat) : Int := z / 2 ^ n % 256
theorem by8_b {z : Int} {n : Nat} : 0 ≤ by8 z n ∧ by8 z n ≤ 255 := by unfold by8; omega
end BYT
