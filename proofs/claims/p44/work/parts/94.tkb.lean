-- uses 24.zar 25.obj 26.ops 27.ra 28.rb 29.rc 34.gen 35.byt 38.mod 41.bit 93.tka
/-! The class's reader. -/
def rdU (w : Nat → Int → Int) (a1 a2 a3 a4 : Int) : Nat → Int → Int := up (up (up (up w 5 1 a1) 5 2 a2) 5 3 a3) 5 4 a4
section RDU
variable {w : Nat → Int → Int} {a1 a2 a3 a4 z : Int}
theorem rdU_1 : rdU w a1 a2 a3 a4 5 1 = a1 := by unfold rdU; rw [up_ne (by omega), up_ne (by omega), up_ne (by omega), up_eq]
theorem rdU_2 : rdU w a1 a2 a3 a4 5 2 = a2 := by unfold rdU; rw [up_ne (by omega), up_ne (by omega), up_eq]
theorem rdU_3 : rdU w a1 a2 a3 a4 5 3 = a3 := by unfold rdU; rw [up_ne (by omega), up_eq]
theorem rdU_4 : rdU w a1 a2 a3 a4 5 4 = a4 := by unfold rdU; rw [up_eq]
theorem rdU_u1 : up (rdU w a1 a2 a3 a4) 5 1 z = rdU w z a2 a3 a4 := by unfold rdU; rw [up_sw (i := 4) (by omega), up_sw (i := 3) (by omega), up_sw (i := 2) (by omega), up_up]
theorem rdU_u2 : up (rdU w a1 a2 a3 a4) 5 2 z = rdU w a1 z a3 a4 := by unfold rdU; rw [up_sw (i := 4) (by omega), up_sw (i := 3) (by omega), up_up]
theorem rdU_u3 : up (rdU w a1 a2 a3 a4) 5 3 z = rdU w a1 a2 z a4 := by unfold rdU; rw [up_sw (i := 4) (by omega), up_up]
theorem rdU_u4 : up (rdU w a1 a2 a3 a4) 5 4 z = rdU w a1 a2 a3 z := by unfold rdU; rw [up_up]
theorem rdU_id : rdU w (w 5 1) (w 5 2) (w 5 3) (w 5 4) = w := by unfold rdU; rw [up_same, up_same, up_same, up_same]
theorem rdU_b {n : Nat} (h : n ≠ 5) : rdU w a1 a2 a3 a4 n = w n := by unfold rdU; rw [up_b h, up_b h, up_b h, up_b h]
theorem rdU_o {n : Nat} {k : Int} (h : n ≠ 5) : up (rdU w a1 a2 a3 a4) n k z = rdU (up w n k z) a1 a2 a3 a4 := by unfold rdU; rw [up_sw (i := 4) (by omega), up_sw (i := 3) (by omega), up_sw (i := 2) (by omega), up_sw (i := 1) (by omega)]
end RDU
/-- the reader stands at the token that begins at p -/
def RD (w : Nat → Int → Int) (b : Int → Int) (p : Nat) : Nat → Int → Int := rdU w (kd b p) p (en b p) (if kd b p = 2 then nc b p else b p)
/-- the text is b -/
def TB (v : Nat → Int → Int) (b : Int → Int) (n : Nat) : Prop := bat v 1 = b ∧ v 1 1 = n ∧ bOk v 1
theorem TB.ok {v : Nat → Int → Int} {b : Int → Int} {n : Nat} (h : TB v b n) : okB b n := by
  obtain ⟨h1, h2, h3⟩ := h
  have hc : (bcap 1 : Int) = 600 := rfl
  have h4 := h3.2.1
  refine ⟨by omega, fun k k0 k1 => ?_, fun k hk => ?_⟩
  · rw [← h1]
    unfold bat
    rw [if_pos (by omega)]
    exact h3.2.2 k k0 (by omega)
  · rw [← h1]
    unfold bat
    rw [if_neg (by omega)]
section TKB
variable {d : Nat} {X : Nat × (Nat → Int32)} {v w : Nat → Int → Int} {T c s : Nat}
variable {b : Int → Int} {n : Nat} {a1 a2 a4 : Int}
theorem tX0_byteAt {z : Int} (h : TB v b n) (h0 : -2147483648 ≤ z) (h1 : z < 2147483648) : jm_env (d + 1) 23 [.ref 1, .int (i3 z)] (qM X v w T c s) = some (.inl (some (.int (i3 (b z)))), (qM X v w T c s)) := by
  rw [sX0_byteAt oByt_1 h.2.2 h0 h1, h.1]
/-- over the blanks -/
theorem sX7_adv_0 {e : Nat} (h : TB v b n) (he : e ≤ n) : jm_R (jm_env (d + 1)) jmM_X7_advance 0 [some (.ref 5)] [] (qM X v (rdU w a1 a2 e a4) T c s) = jm_R (jm_env (d + 1)) jmM_X7_advance 44 [some (.ref 5)] [] (qM X v (rdU w a1 a2 (sk b e : Nat) a4) T c s) := by
  have ho := h.ok
  have o1 := oByt_1
  have hn := h.2.1
  have hl := ho.1
  have e1 := skp_ch (p := blB) (fun j : Nat => jm_R (jm_env (d + 1)) jmM_X7_advance 0 [some (.ref 5)] [] (qM X v (rdU w a1 a2 j a4) T c s)) ho (by decide) he (fun j j0 j1 hb => by
    have hjn := (skp_s ho (p := blB) (by decide) he).1.2
    have hq : (b j = 32 ∨ b j = 10) = True := eq_true hb
    have hbb := b_b ho j
    rw [bX7_advance_0]
    simp (disch := first | assumption | omega) only [g7_3, r7_0, g0_1, p7_3, p7_2, g7_2, p7_4, g7_4, p7_1, i3_add, i3_sub, i3_mul, i3_neg, i6_add, i6_sub, i6_mul, i6_neg, i3_lt, i3_le, i3_eq, i6_lt, i6_eq, i3_div, i6_div, i6_i3, i3_i6, c6_lt, c6_ge, c6_gt, c6_le, c6_eq, i3_ite, i6_ite, ib_0, ib_z, ite_not, i1_0, i0_0, jB_1, jB_0, jB_ib, bI_v, bL_v, bD_v, bV_v, ob_s, ob_i, i3_ofNat, jx_e, bI_e, bL_e, bD_e, bV_e, i3_eq0, i6_eq0, if_mx, if_mn, if_true, if_false, not_true_eq_false, not_false_eq_true, Int.reduceEq, Int.reduceLT, Int.reduceLE, bX7_advance_14, bX7_advance_31, rdU_3, rdU_u3, hn, tX0_byteAt h, sX11_isBlank, hq]
    rw [if_neg (by omega)]
    rfl)
  refine e1.trans ?_
  obtain ⟨⟨s1, s2⟩, -, s3⟩ := skp_s ho (p := blB) (by decide) he
  have hbb := b_b ho (skp blB b e : Nat)
  have hq : (b (skp blB b e : Nat) = 32 ∨ b (skp blB b e : Nat) = 10) = False := eq_false s3
  show jm_R (jm_env (d + 1)) jmM_X7_advance 0 [some (.ref 5)] [] (qM X v (rdU w a1 a2 (skp blB b e : Nat) a4) T c s) = _
  rw [bX7_advance_0]
  simp (disch := first | assumption | omega) only [g7_3, r7_0, g0_1, p7_3, p7_2, g7_2, p7_4, g7_4, p7_1, i3_add, i3_sub, i3_mul, i3_neg, i6_add, i6_sub, i6_mul, i6_neg, i3_lt, i3_le, i3_eq, i6_lt, i6_eq, i3_div, i6_div, i6_i3, i3_i6, c6_lt, c6_ge, c6_gt, c6_le, c6_eq, i3_ite, i6_ite, ib_0, ib_z, ite_not, i1_0, i0_0, jB_1, jB_0, jB_ib, bI_v, bL_v, bD_v, bV_v, ob_s, ob_i, i3_ofNat, jx_e, bI_e, bL_e, bD_e, bV_e, i3_eq0, i6_eq0, if_mx, if_mn, if_true, if_false, not_true_eq_false, not_false_eq_true, Int.reduceEq, Int.reduceLT, Int.reduceLE, bX7_advance_14, rdU_3, hn, tX0_byteAt h, sX11_isBlank, hq]
  split <;> rfl
theorem sX7_adv_98 {e : Nat} (h : TB v b n) (he : e ≤ n) : jm_R (jm_env (d + 1)) jmM_X7_advance 98 [some (.ref 5)] [] (qM X v (rdU w a1 a2 e a4) T c s) = some (.inl none, qM X v (rdU w a1 a2 (skp smB b e : Nat) a4) T c s) := by
  have ho := h.ok
  have o1 := oByt_1
  have hn := h.2.1
  have hl := ho.1
  have e1 := skp_ch (p := smB) (fun j : Nat => jm_R (jm_env (d + 1)) jmM_X7_advance 98 [some (.ref 5)] [] (qM X v (rdU w a1 a2 j a4) T c s)) ho (by decide) he (fun j j0 j1 hb => by
    have hjn := (skp_s ho (p := smB) (by decide) he).1.2
    have hq : (97 ≤ b j ∧ b j ≤ 122) = True := eq_true hb
    have hbb := b_b ho j
    rw [bX7_advance_98]
    simp (disch := first | assumption | omega) only [g7_3, r7_0, g0_1, p7_3, p7_2, g7_2, p7_4, g7_4, p7_1, i3_add, i3_sub, i3_mul, i3_neg, i6_add, i6_sub, i6_mul, i6_neg, i3_lt, i3_le, i3_eq, i6_lt, i6_eq, i3_div, i6_div, i6_i3, i3_i6, c6_lt, c6_ge, c6_gt, c6_le, c6_eq, i3_ite, i6_ite, ib_0, ib_z, ite_not, i1_0, i0_0, jB_1, jB_0, jB_ib, bI_v, bL_v, bD_v, bV_v, ob_s, ob_i, i3_ofNat, jx_e, bI_e, bL_e, bD_e, bV_e, i3_eq0, i6_eq0, if_mx, if_mn, if_true, if_false, not_true_eq_false, not_false_eq_true, Int.reduceEq, Int.reduceLT, Int.reduceLE, bX7_advance_112, bX7_advance_129, rdU_3, rdU_u3, hn, tX0_byteAt h, sX11_isLetter, hq]
    rw [if_neg (by omega)]
    rfl)
  refine e1.trans ?_
  obtain ⟨⟨s1, s2⟩, -, s3⟩ := skp_s ho (p := smB) (by decide) he
  have hbb := b_b ho (skp smB b e : Nat)
  have hq : (97 ≤ b (skp smB b e : Nat) ∧ b (skp smB b e : Nat) ≤ 122) = False := eq_false s3
  show jm_R (jm_env (d + 1)) jmM_X7_advance 98 [some (.ref 5)] [] (qM X v (rdU w a1 a2 (skp smB b e : Nat) a4) T c s) = _
  rw [bX7_advance_98]
  simp (disch := first | assumption | omega) only [g7_3, r7_0, g0_1, p7_3, p7_2, g7_2, p7_4, g7_4, p7_1, i3_add, i3_sub, i3_mul, i3_neg, i6_add, i6_sub, i6_mul, i6_neg, i3_lt, i3_le, i3_eq, i6_lt, i6_eq, i3_div, i6_div, i6_i3, i3_i6, c6_lt, c6_ge, c6_gt, c6_le, c6_eq, i3_ite, i6_ite, ib_0, ib_z, ite_not, i1_0, i0_0, jB_1, jB_0, jB_ib, bI_v, bL_v, bD_v, bV_v, ob_s, ob_i, i3_ofNat, jx_e, bI_e, bL_e, bD_e, bV_e, i3_eq0, i6_eq0, if_mx, if_mn, if_true, if_false, not_true_eq_false, not_false_eq_true, Int.reduceEq, Int.reduceLT, Int.reduceLE, bX7_advance_112, bX7_advance_252, rdU_3, hn, tX0_byteAt h, sX11_isLetter, hq]
  split <;> rfl
theorem sX7_adv_162 {p : Nat} (h : TB v b n) (he : p ≤ n) : jm_R (jm_env (d + 1)) jmM_X7_advance 162 [some (.ref 5)] [] (qM X v (rdU w a1 a2 p 0) T c s) = some (.inl none, qM X v (rdU w a1 a2 (skp dgB b p : Nat) (nmC b p (skp dgB b p - p))) T c s) := by
  have ho := h.ok
  have o1 := oByt_1
  have hn := h.2.1
  have hl := ho.1
  obtain ⟨⟨s1, s2⟩, sp, s3⟩ := skp_s ho (p := dgB) (by decide) he
  have e1 := skp_ch (p := dgB) (fun j : Nat => jm_R (jm_env (d + 1)) jmM_X7_advance 162 [some (.ref 5)] [] (qM X v (rdU w a1 a2 j (nmC b p (j - p))) T c s)) ho (by decide) he (fun j j0 hj hb => by
    have hq : (48 ≤ b j ∧ b j ≤ 57) = True := eq_true hb
    have hbb := b_b ho j
    obtain ⟨m1, m2, m3⟩ := nm_b (b := b) (p := p) (j - p) (fun i hi => sp (p + i) (by omega) (by omega))
    rw [bX7_advance_162]
    simp (disch := first | assumption | omega) only [g7_3, r7_0, g0_1, p7_3, p7_2, g7_2, p7_4, g7_4, p7_1, i3_add, i3_sub, i3_mul, i3_neg, i6_add, i6_sub, i6_mul, i6_neg, i3_lt, i3_le, i3_eq, i6_lt, i6_eq, i3_div, i6_div, i6_i3, i3_i6, c6_lt, c6_ge, c6_gt, c6_le, c6_eq, i3_ite, i6_ite, ib_0, ib_z, ite_not, i1_0, i0_0, jB_1, jB_0, jB_ib, bI_v, bL_v, bD_v, bV_v, ob_s, ob_i, i3_ofNat, jx_e, bI_e, bL_e, bD_e, bV_e, i3_eq0, i6_eq0, if_mx, if_mn, if_true, if_false, not_true_eq_false, not_false_eq_true, Int.reduceEq, Int.reduceLT, Int.reduceLE, bX7_advance_176, bX7_advance_193, rdU_3, rdU_4, rdU_u3, rdU_u4, hn, tX0_byteAt h, sX11_isDigit, hq]
    rw [if_neg (by omega)]
    rw [show j + 1 - p = (j - p) + 1 by omega, show nmC b p (j - p + 1) = min 1000000 (10 * nmC b p (j - p) + b ((p + (j - p) : Nat) : Int) - 48) from rfl, show p + (j - p) = j by omega]
    rfl)
  rw [Nat.sub_self] at e1
  refine Eq.trans e1 ?_
  have hbb := b_b ho (skp dgB b p : Nat)
  have hq : (48 ≤ b (skp dgB b p : Nat) ∧ b (skp dgB b p : Nat) ≤ 57) = False := eq_false s3
  show jm_R (jm_env (d + 1)) jmM_X7_advance 162 [some (.ref 5)] [] (qM X v (rdU w a1 a2 (skp dgB b p : Nat) (nmC b p (skp dgB b p - p))) T c s) = _
  rw [bX7_advance_162]
  simp (disch := first | assumption | omega) only [g7_3, r7_0, g0_1, p7_3, p7_2, g7_2, p7_4, g7_4, p7_1, i3_add, i3_sub, i3_mul, i3_neg, i6_add, i6_sub, i6_mul, i6_neg, i3_lt, i3_le, i3_eq, i6_lt, i6_eq, i3_div, i6_div, i6_i3, i3_i6, c6_lt, c6_ge, c6_gt, c6_le, c6_eq, i3_ite, i6_ite, ib_0, ib_z, ite_not, i1_0, i0_0, jB_1, jB_0, jB_ib, bI_v, bL_v, bD_v, bV_v, ob_s, ob_i, i3_ofNat, jx_e, bI_e, bL_e, bD_e, bV_e, i3_eq0, i6_eq0, if_mx, if_mn, if_true, if_false, not_true_eq_false, not_false_eq_true, Int.reduceEq, Int.reduceLT, Int.reduceLE, bX7_advance_176, bX7_advance_252, rdU_3, hn, tX0_byteAt h, sX11_isDigit, hq]
  split <;> rfl
theorem tX7_advance_u {e : Nat} (h : TB v b n) (he : e ≤ n) : jm_env (d + 2) 66 [.ref 5] (qM X v (rdU w a1 a2 e a4) T c s) = some (.inl none, qM X v (RD w b (sk b e)) T c s) := by
  have ho := h.ok
  have o1 := oByt_1
  have hn := h.2.1
  have hl := ho.1
  rw [eX7_advance, sX7_adv_0 h he]
  obtain ⟨⟨s1, s2⟩, -, s3⟩ := sk_s ho he
  generalize hp : sk b e = p at *
  have hbb := b_b ho p
  unfold RD
  rcases kd_c b p with ⟨k1, k2⟩ | ⟨k1, k2⟩ | ⟨k1, k2⟩ | ⟨k1, k2, k3, k4⟩
  · rw [k1, en_0 k2]
    simp (disch := first | assumption | omega) only [g7_3, r7_0, g0_1, p7_3, p7_2, g7_2, p7_4, g7_4, p7_1, i3_add, i3_sub, i3_mul, i3_neg, i6_add, i6_sub, i6_mul, i6_neg, i3_lt, i3_le, i3_eq, i6_lt, i6_eq, i3_div, i6_div, i6_i3, i3_i6, c6_lt, c6_ge, c6_gt, c6_le, c6_eq, i3_ite, i6_ite, ib_0, ib_z, ite_not, i1_0, i0_0, jB_1, jB_0, jB_ib, bI_v, bL_v, bD_v, bV_v, ob_s, ob_i, i3_ofNat, jx_e, bI_e, bL_e, bD_e, bV_e, i3_eq0, i6_eq0, if_mx, if_mn, if_true, if_false, not_true_eq_false, not_false_eq_true, Int.reduceEq, Int.reduceLT, Int.reduceLE, bX7_advance_44, bX7_advance_75, bX7_advance_252, rdU_1, rdU_2, rdU_3, rdU_4, rdU_u1, rdU_u2, rdU_u3, rdU_u4, hn, tX0_byteAt h, k2]
  · have q1 : (b p = -1) = False := eq_false (by omega)
    have q2 : (97 ≤ b p ∧ b p ≤ 122) = True := eq_true k2
    rw [k1, en_1 k2]
    simp (disch := first | assumption | omega) only [g7_3, r7_0, g0_1, p7_3, p7_2, g7_2, p7_4, g7_4, p7_1, i3_add, i3_sub, i3_mul, i3_neg, i6_add, i6_sub, i6_mul, i6_neg, i3_lt, i3_le, i3_eq, i6_lt, i6_eq, i3_div, i6_div, i6_i3, i3_i6, c6_lt, c6_ge, c6_gt, c6_le, c6_eq, i3_ite, i6_ite, ib_0, ib_z, ite_not, i1_0, i0_0, jB_1, jB_0, jB_ib, bI_v, bL_v, bD_v, bV_v, ob_s, ob_i, i3_ofNat, jx_e, bI_e, bL_e, bD_e, bV_e, i3_eq0, i6_eq0, if_mx, if_mn, if_true, if_false, not_true_eq_false, not_false_eq_true, Int.reduceEq, Int.reduceLT, Int.reduceLE, bX7_advance_44, bX7_advance_83, bX7_advance_93, rdU_1, rdU_2, rdU_3, rdU_4, rdU_u1, rdU_u2, rdU_u3, rdU_u4, hn, tX0_byteAt h, sX11_isLetter, q1, q2, sX7_adv_98 h]
  · have q1 : (b p = -1) = False := eq_false (by omega)
    have q2 : (97 ≤ b p ∧ b p ≤ 122) = False := eq_false (by omega)
    have q3 : (48 ≤ b p ∧ b p ≤ 57) = True := eq_true k2
    have e2 : nc b p = nmC b p (skp dgB b p - p) := by unfold nc; rw [en_2 k2]
    rw [k1, if_pos rfl, e2, en_2 k2]
    simp (disch := first | assumption | omega) only [g7_3, r7_0, g0_1, p7_3, p7_2, g7_2, p7_4, g7_4, p7_1, i3_add, i3_sub, i3_mul, i3_neg, i6_add, i6_sub, i6_mul, i6_neg, i3_lt, i3_le, i3_eq, i6_lt, i6_eq, i3_div, i6_div, i6_i3, i3_i6, c6_lt, c6_ge, c6_gt, c6_le, c6_eq, i3_ite, i6_ite, ib_0, ib_z, ite_not, i1_0, i0_0, jB_1, jB_0, jB_ib, bI_v, bL_v, bD_v, bV_v, ob_s, ob_i, i3_ofNat, jx_e, bI_e, bL_e, bD_e, bV_e, i3_eq0, i6_eq0, if_mx, if_mn, if_true, if_false, not_true_eq_false, not_false_eq_true, Int.reduceEq, Int.reduceLT, Int.reduceLE, bX7_advance_44, bX7_advance_83, bX7_advance_142, bX7_advance_152, rdU_1, rdU_2, rdU_3, rdU_4, rdU_u1, rdU_u2, rdU_u3, rdU_u4, hn, tX0_byteAt h, sX11_isLetter, sX11_isDigit, q1, q2, q3, sX7_adv_162 h]
  · have q1 : (b p = -1) = False := eq_false k2
    have q2 : (97 ≤ b p ∧ b p ≤ 122) = False := eq_false k3
    have q3 : (48 ≤ b p ∧ b p ≤ 57) = False := eq_false k4
    rw [k1, en_3 k2 k3 k4]
    simp (disch := first | assumption | omega) only [g7_3, r7_0, g0_1, p7_3, p7_2, g7_2, p7_4, g7_4, p7_1, i3_add, i3_sub, i3_mul, i3_neg, i6_add, i6_sub, i6_mul, i6_neg, i3_lt, i3_le, i3_eq, i6_lt, i6_eq, i3_div, i6_div, i6_i3, i3_i6, c6_lt, c6_ge, c6_gt, c6_le, c6_eq, i3_ite, i6_ite, ib_0, ib_z, ite_not, i1_0, i0_0, jB_1, jB_0, jB_ib, bI_v, bL_v, bD_v, bV_v, ob_s, ob_i, i3_ofNat, jx_e, bI_e, bL_e, bD_e, bV_e, i3_eq0, i6_eq0, if_mx, if_mn, if_true, if_false, not_true_eq_false, not_false_eq_true, Int.reduceEq, Int.reduceLT, Int.reduceLE, bX7_advance_44, bX7_advance_83, bX7_advance_142, bX7_advance_237, bX7_advance_252, rdU_1, rdU_2, rdU_3, rdU_4, rdU_u1, rdU_u2, rdU_u3, rdU_u4, hn, tX0_byteAt h, sX11_isLetter, sX11_isDigit, q1, q2, q3]
    rfl
theorem tX7_advance {p : Nat} (h : TB v b n) (hp : p ≤ n) : jm_env (d + 2) 66 [.ref 5] (qM X v (RD w b p) T c s) = some (.inl none, qM X v (RD w b (nx b p)) T c s) := tX7_advance_u h (en_b h.ok hp).2
theorem TB_5 {k z : Int} (h : TB v b n) : TB (up v 5 k z) b n := by
  unfold TB bOk at h ⊢
  have e : bat (up v 5 k z) 1 = bat v 1 := by
    funext j
    unfold bat
    rw [up_b (show 1 ≠ 5 by omega), up_b (show 1 + 1 ≠ 5 by omega)]
  rw [e, up_b (show 1 ≠ 5 by omega), up_b (show 1 + 1 ≠ 5 by omega)]
  exact h
theorem tX7_begin (h : TB v b n) : jm_env (d + 3) 65 [.ref 5] (qM X v w T c s) = some (.inl none, qM X (up (up v 5 5 0) 5 6 (-1)) (RD w b (sk b 0)) T c s) := by
  have e := tX7_advance_u (d := d) (X := X) (w := w) (T := T) (c := c) (s := s) (a1 := w 5 1) (a2 := w 5 2) (a4 := w 5 4) (e := 0) (TB_5 (k := 6) (z := -1) (TB_5 (k := 5) (z := 0) h)) (by omega)
  have e2 : up w 5 3 0 = rdU w (w 5 1) (w 5 2) ((0 : Nat) : Int) (w 5 4) := by
    conv => lhs; rw [← rdU_id (w := w)]
    rw [rdU_u3]
    rfl
  simp (disch := first | assumption | omega) only [eX7_begin, bX7_begin_0, i3_add, i3_sub, i3_mul, i3_neg, i6_add, i6_sub, i6_mul, i6_neg, i3_lt, i3_le, i3_eq, i6_lt, i6_eq, i3_div, i6_div, i6_i3, i3_i6, c6_lt, c6_ge, c6_gt, c6_le, c6_eq, i3_ite, i6_ite, ib_0, ib_z, ite_not, i1_0, i0_0, jB_1, jB_0, jB_ib, bI_v, bL_v, bD_v, bV_v, ob_s, ob_i, i3_ofNat, jx_e, bI_e, bL_e, bD_e, bV_e, i3_eq0, i6_eq0, if_mx, if_mn, if_true, if_false, not_true_eq_false, not_false_eq_true, Int.reduceEq, Int.reduceLT, Int.reduceLE, p7_3, p7_5, p7_6, e2, e]
theorem tX7_fail {p : Nat} {z : Int} : jm_env (d + 1) 67 [.ref 5, .int (i3 z)] (qM X v (RD w b p) T c s) = some (.inl (some (.int (i3 (0)))), qM X (up (up v 5 5 z) 5 6 p) (RD w b p) T c s) := by
  unfold RD
  simp (disch := first | assumption | omega) only [eX7_fail, bX7_fail_0, p7_5, g7_2, p7_6, i3_add, i3_sub, i3_mul, i3_neg, i6_add, i6_sub, i6_mul, i6_neg, i3_lt, i3_le, i3_eq, i6_lt, i6_eq, i3_div, i6_div, i6_i3, i3_i6, c6_lt, c6_ge, c6_gt, c6_le, c6_eq, i3_ite, i6_ite, ib_0, ib_z, ite_not, i1_0, i0_0, jB_1, jB_0, jB_ib, bI_v, bL_v, bD_v, bV_v, ob_s, ob_i, i3_ofNat, jx_e, bI_e, bL_e, bD_e, bV_e, i3_eq0, i6_eq0, if_mx, if_mn, if_true, if_false, not_true_eq_false, not_false_eq_true, Int.reduceEq, Int.reduceLT, Int.reduceLE, rdU_2]
theorem tX7_isSign {p : Nat} {z : Int} (ho : okB b n) (hp : p ≤ n) (z0 : 0 ≤ z) (z1 : z < 1000) : jm_env (d + 1) 69 [.ref 5, .int (i3 z)] (qM X v (RD w b p) T c s) = some (.inl (some (.int (i3 (if isG b p z then 1 else 0)))), qM X v (RD w b p) T c s) := by
  have hbb := b_b ho p
  unfold RD isG
  rcases kd_c b p with ⟨k1, k2⟩ | ⟨k1, k2⟩ | ⟨k1, k2⟩ | ⟨k1, k2, k3, k4⟩ <;> rw [k1]
  · simp (disch := first | assumption | omega) only [eX7_isSign, bX7_isSign_0, bX7_isSign_8, bX7_isSign_16, bX7_isSign_20, bX7_isSign_21, g7_1, g7_4, i3_add, i3_sub, i3_mul, i3_neg, i6_add, i6_sub, i6_mul, i6_neg, i3_lt, i3_le, i3_eq, i6_lt, i6_eq, i3_div, i6_div, i6_i3, i3_i6, c6_lt, c6_ge, c6_gt, c6_le, c6_eq, i3_ite, i6_ite, ib_0, ib_z, ite_not, i1_0, i0_0, jB_1, jB_0, jB_ib, bI_v, bL_v, bD_v, bV_v, ob_s, ob_i, i3_ofNat, jx_e, bI_e, bL_e, bD_e, bV_e, i3_eq0, i6_eq0, if_mx, if_mn, if_true, if_false, not_true_eq_false, not_false_eq_true, Int.reduceEq, Int.reduceLT, Int.reduceLE, rdU_1, rdU_4, show ((0 : Int) = 3) = False from by decide, false_and]
  · simp (disch := first | assumption | omega) only [eX7_isSign, bX7_isSign_0, bX7_isSign_8, bX7_isSign_16, bX7_isSign_20, bX7_isSign_21, g7_1, g7_4, i3_add, i3_sub, i3_mul, i3_neg, i6_add, i6_sub, i6_mul, i6_neg, i3_lt, i3_le, i3_eq, i6_lt, i6_eq, i3_div, i6_div, i6_i3, i3_i6, c6_lt, c6_ge, c6_gt, c6_le, c6_eq, i3_ite, i6_ite, ib_0, ib_z, ite_not, i1_0, i0_0, jB_1, jB_0, jB_ib, bI_v, bL_v, bD_v, bV_v, ob_s, ob_i, i3_ofNat, jx_e, bI_e, bL_e, bD_e, bV_e, i3_eq0, i6_eq0, if_mx, if_mn, if_true, if_false, not_true_eq_false, not_false_eq_true, Int.reduceEq, Int.reduceLT, Int.reduceLE, rdU_1, rdU_4, show ((1 : Int) = 3) = False from by decide, false_and]
  · simp (disch := first | assumption | omega) only [eX7_isSign, bX7_isSign_0, bX7_isSign_8, bX7_isSign_16, bX7_isSign_20, bX7_isSign_21, g7_1, g7_4, i3_add, i3_sub, i3_mul, i3_neg, i6_add, i6_sub, i6_mul, i6_neg, i3_lt, i3_le, i3_eq, i6_lt, i6_eq, i3_div, i6_div, i6_i3, i3_i6, c6_lt, c6_ge, c6_gt, c6_le, c6_eq, i3_ite, i6_ite, ib_0, ib_z, ite_not, i1_0, i0_0, jB_1, jB_0, jB_ib, bI_v, bL_v, bD_v, bV_v, ob_s, ob_i, i3_ofNat, jx_e, bI_e, bL_e, bD_e, bV_e, i3_eq0, i6_eq0, if_mx, if_mn, if_true, if_false, not_true_eq_false, not_false_eq_true, Int.reduceEq, Int.reduceLT, Int.reduceLE, rdU_1, rdU_4, show ((2 : Int) = 3) = False from by decide, false_and]
  · simp (disch := first | assumption | omega) only [eX7_isSign, bX7_isSign_0, bX7_isSign_8, bX7_isSign_16, bX7_isSign_20, bX7_isSign_21, g7_1, g7_4, i3_add, i3_sub, i3_mul, i3_neg, i6_add, i6_sub, i6_mul, i6_neg, i3_lt, i3_le, i3_eq, i6_lt, i6_eq, i3_div, i6_div, i6_i3, i3_i6, c6_lt, c6_ge, c6_gt, c6_le, c6_eq, i3_ite, i6_ite, ib_0, ib_z, ite_not, i1_0, i0_0, jB_1, jB_0, jB_ib, bI_v, bL_v, bD_v, bV_v, ob_s, ob_i, i3_ofNat, jx_e, bI_e, bL_e, bD_e, bV_e, i3_eq0, i6_eq0, if_mx, if_mn, if_true, if_false, not_true_eq_false, not_false_eq_true, Int.reduceEq, Int.reduceLT, Int.reduceLE, rdU_1, rdU_4, true_and, show ((3 : Int) = 2) = False from by decide]
    split <;> rfl
theorem tX7_takeSign_1 {p : Nat} {z : Int} (h : TB v b n) (hp : p ≤ n) (z0 : 0 ≤ z) (z1 : z < 1000) (g : isG b p z) : jm_env (d + 3) 70 [.ref 5, .int (i3 z)] (qM X v (RD w b p) T c s) = some (.inl (some (.int (i3 (1)))), qM X v (RD w b (nx b p)) T c s) := by
  have e1 := tX7_isSign (d := d + 1) (X := X) (v := v) (w := w) (T := T) (c := c) (s := s) h.ok hp z0 z1
  rw [if_pos g] at e1
  simp (disch := first | assumption | omega) only [eX7_takeSign, bX7_takeSign_0, bX7_takeSign_8, bX7_takeSign_14, i3_add, i3_sub, i3_mul, i3_neg, i6_add, i6_sub, i6_mul, i6_neg, i3_lt, i3_le, i3_eq, i6_lt, i6_eq, i3_div, i6_div, i6_i3, i3_i6, c6_lt, c6_ge, c6_gt, c6_le, c6_eq, i3_ite, i6_ite, ib_0, ib_z, ite_not, i1_0, i0_0, jB_1, jB_0, jB_ib, bI_v, bL_v, bD_v, bV_v, ob_s, ob_i, i3_ofNat, jx_e, bI_e, bL_e, bD_e, bV_e, i3_eq0, i6_eq0, if_mx, if_mn, if_true, if_false, not_true_eq_false, not_false_eq_true, Int.reduceEq, Int.reduceLT, Int.reduceLE, e1, tX7_advance h]
theorem tX7_takeSign_0 {p : Nat} {z : Int} (h : TB v b n) (hp : p ≤ n) (z0 : 0 ≤ z) (z1 : z < 1000) (g : ¬ isG b p z) : jm_env (d + 3) 70 [.ref 5, .int (i3 z)] (qM X v (RD w b p) T c s) = some (.inl (some (.int (i3 (0)))), qM X (up (up v 5 5 1) 5 6 p) (RD w b p) T c s) := by
  have e1 := tX7_isSign (d := d + 1) (X := X) (v := v) (w := w) (T := T) (c := c) (s := s) h.ok hp z0 z1
  rw [if_neg g] at e1
  simp (disch := first | assumption | omega) only [eX7_takeSign, bX7_takeSign_0, bX7_takeSign_8, bX7_takeSign_14, i3_add, i3_sub, i3_mul, i3_neg, i6_add, i6_sub, i6_mul, i6_neg, i3_lt, i3_le, i3_eq, i6_lt, i6_eq, i3_div, i6_div, i6_i3, i3_i6, c6_lt, c6_ge, c6_gt, c6_le, c6_eq, i3_ite, i6_ite, ib_0, ib_z, ite_not, i1_0, i0_0, jB_1, jB_0, jB_ib, bI_v, bL_v, bD_v, bV_v, ob_s, ob_i, i3_ofNat, jx_e, bI_e, bL_e, bD_e, bV_e, i3_eq0, i6_eq0, if_mx, if_mn, if_true, if_false, not_true_eq_false, not_false_eq_true, Int.reduceEq, Int.reduceLT, Int.reduceLE, e1, tX7_fail]
theorem tX7_seesName_1 {p : Nat} (g : kd b p = 1) (hl : en b p - p ≤ 6) (ho : okB b n) (hp : p ≤ n) : jm_env (d + 2) 71 [.ref 5] (qM X v (RD w b p) T c s) = some (.inl (some (.int (i3 (1)))), qM X v (RD w b p) T c s) := by
  have h1 := en_b ho hp
  have h2 := ho.1
  unfold RD
  rw [g]
  simp (disch := first | assumption | omega) only [eX7_seesName, bX7_seesName_0, bX7_seesName_8, bX7_seesName_14, bX7_seesName_28, bX7_seesName_36, bX7_seesName_40, bX7_seesName_41, g7_1, g7_3, g7_2, i3_add, i3_sub, i3_mul, i3_neg, i6_add, i6_sub, i6_mul, i6_neg, i3_lt, i3_le, i3_eq, i6_lt, i6_eq, i3_div, i6_div, i6_i3, i3_i6, c6_lt, c6_ge, c6_gt, c6_le, c6_eq, i3_ite, i6_ite, ib_0, ib_z, ite_not, i1_0, i0_0, jB_1, jB_0, jB_ib, bI_v, bL_v, bD_v, bV_v, ob_s, ob_i, i3_ofNat, jx_e, bI_e, bL_e, bD_e, bV_e, i3_eq0, i6_eq0, if_mx, if_mn, if_true, if_false, not_true_eq_false, not_false_eq_true, Int.reduceEq, Int.reduceLT, Int.reduceLE, rdU_1, rdU_2, rdU_3]
  rw [if_pos (by omega)]
theorem tX7_seesName_0 {p : Nat} (g : kd b p ≠ 1) : jm_env (d + 2) 71 [.ref 5] (qM X v (RD w b p) T c s) = some (.inl (some (.int (i3 (0)))), qM X (up (up v 5 5 1) 5 6 p) (RD w b p) T c s) := by
  have e := tX7_fail (d := d) (X := X) (v := v) (w := w) (T := T) (c := c) (s := s) (b := b) (p := p) (z := 1)
  have hk : (kd b p = 1) = False := eq_false g
  have hkb : 0 ≤ kd b p ∧ kd b p ≤ 3 := by rcases kd_c b p with ⟨k1, -⟩ | ⟨k1, -⟩ | ⟨k1, -⟩ | ⟨k1, -⟩ <;> omega
  unfold RD at e ⊢
  simp (disch := first | assumption | omega) only [↓reduceIte, eX7_seesName, bX7_seesName_0, bX7_seesName_8, bX7_seesName_14, bX7_seesName_28, bX7_seesName_36, bX7_seesName_40, bX7_seesName_41, i3_add, i3_sub, i3_mul, i3_neg, i6_add, i6_sub, i6_mul, i6_neg, i3_lt, i3_le, i3_eq, i6_lt, i6_eq, i3_div, i6_div, i6_i3, i3_i6, c6_lt, c6_ge, c6_gt, c6_le, c6_eq, i3_ite, i6_ite, ib_0, ib_z, ite_not, i1_0, i0_0, jB_1, jB_0, jB_ib, bI_v, bL_v, bD_v, bV_v, ob_s, ob_i, i3_ofNat, jx_e, bI_e, bL_e, bD_e, bV_e, i3_eq0, i6_eq0, if_mx, if_mn, if_true, if_false, not_true_eq_false, not_false_eq_true, Int.reduceEq, Int.reduceLT, Int.reduceLE, g7_1, rdU_1, hk, e]
theorem tX7_seesName_2 {p : Nat} (g : kd b p = 1) (hl : ¬ en b p - p ≤ 6) (ho : okB b n) (hp : p ≤ n) : jm_env (d + 2) 71 [.ref 5] (qM X v (RD w b p) T c s) = some (.inl (some (.int (i3 (0)))), qM X (up (up v 5 5 2) 5 6 p) (RD w b p) T c s) := by
  have h1 := en_b ho hp
  have h2 := ho.1
  have e := tX7_fail (d := d) (X := X) (v := v) (w := w) (T := T) (c := c) (s := s) (b := b) (p := p) (z := 2)
  have hk : ((en b p : Int) - p ≤ 6) = False := eq_false (by omega)
  unfold RD at e ⊢
  rw [g, if_neg (show ¬ ((1 : Int) = 2) by decide)] at e ⊢
  simp (disch := first | assumption | omega) only [↓reduceIte, eX7_seesName, bX7_seesName_0, bX7_seesName_8, bX7_seesName_14, bX7_seesName_28, bX7_seesName_36, bX7_seesName_40, bX7_seesName_41, i3_add, i3_sub, i3_mul, i3_neg, i6_add, i6_sub, i6_mul, i6_neg, i3_lt, i3_le, i3_eq, i6_lt, i6_eq, i3_div, i6_div, i6_i3, i3_i6, c6_lt, c6_ge, c6_gt, c6_le, c6_eq, i3_ite, i6_ite, ib_0, ib_z, ite_not, i1_0, i0_0, jB_1, jB_0, jB_ib, bI_v, bL_v, bD_v, bV_v, ob_s, ob_i, i3_ofNat, jx_e, bI_e, bL_e, bD_e, bV_e, i3_eq0, i6_eq0, if_mx, if_mn, if_true, if_false, not_true_eq_false, not_false_eq_true, Int.reduceEq, Int.reduceLT, Int.reduceLE, g7_1, g7_2, g7_3, rdU_1, rdU_2, rdU_3, hk, e]
theorem tX7_seesNumber_1 {p : Nat} {x y : Int} (ho : okB b n) (hp : p ≤ n) (g : kd b p = 2) (x0 : 0 ≤ x) (hx : x ≤ nv b p) (hy : nv b p ≤ y) (y1 : y ≤ 9999) : jm_env (d + 2) 72 [.ref 5, .int (i3 x), .int (i3 y)] (qM X v (RD w b p) T c s) = some (.inl (some (.int (i3 (1)))), qM X v (RD w b p) T c s) := by
  obtain ⟨h1, h2, h3⟩ := nv_b ho hp g
  unfold RD
  rw [g, if_pos rfl]
  simp (disch := first | assumption | omega) only [eX7_seesNumber, bX7_seesNumber_0, bX7_seesNumber_8, bX7_seesNumber_14, bX7_seesNumber_22, bX7_seesNumber_30, bX7_seesNumber_38, bX7_seesNumber_42, bX7_seesNumber_43, g7_1, g7_4, i3_add, i3_sub, i3_mul, i3_neg, i6_add, i6_sub, i6_mul, i6_neg, i3_lt, i3_le, i3_eq, i6_lt, i6_eq, i3_div, i6_div, i6_i3, i3_i6, c6_lt, c6_ge, c6_gt, c6_le, c6_eq, i3_ite, i6_ite, ib_0, ib_z, ite_not, i1_0, i0_0, jB_1, jB_0, jB_ib, bI_v, bL_v, bD_v, bV_v, ob_s, ob_i, i3_ofNat, jx_e, bI_e, bL_e, bD_e, bV_e, i3_eq0, i6_eq0, if_mx, if_mn, if_true, if_false, not_true_eq_false, not_false_eq_true, Int.reduceEq, Int.reduceLT, Int.reduceLE, rdU_1, rdU_4]
  rw [if_neg (by omega), if_pos (by omega)]
theorem tX7_seesNumber_0 {p : Nat} {x y : Int} (g : kd b p ≠ 2) : jm_env (d + 2) 72 [.ref 5, .int (i3 x), .int (i3 y)] (qM X v (RD w b p) T c s) = some (.inl (some (.int (i3 (0)))), qM X (up (up v 5 5 1) 5 6 p) (RD w b p) T c s) := by
  have e := tX7_fail (d := d) (X := X) (v := v) (w := w) (T := T) (c := c) (s := s) (b := b) (p := p) (z := 1)
  have hk : (kd b p = 2) = False := eq_false g
  have hkb : 0 ≤ kd b p ∧ kd b p ≤ 3 := by rcases kd_c b p with ⟨k1, -⟩ | ⟨k1, -⟩ | ⟨k1, -⟩ | ⟨k1, -⟩ <;> omega
  unfold RD at e ⊢
  simp (disch := first | assumption | omega) only [↓reduceIte, eX7_seesNumber, bX7_seesNumber_0, bX7_seesNumber_8, bX7_seesNumber_14, bX7_seesNumber_22, bX7_seesNumber_30, bX7_seesNumber_38, bX7_seesNumber_42, bX7_seesNumber_43, i3_add, i3_sub, i3_mul, i3_neg, i6_add, i6_sub, i6_mul, i6_neg, i3_lt, i3_le, i3_eq, i6_lt, i6_eq, i3_div, i6_div, i6_i3, i3_i6, c6_lt, c6_ge, c6_gt, c6_le, c6_eq, i3_ite, i6_ite, ib_0, ib_z, ite_not, i1_0, i0_0, jB_1, jB_0, jB_ib, bI_v, bL_v, bD_v, bV_v, ob_s, ob_i, i3_ofNat, jx_e, bI_e, bL_e, bD_e, bV_e, i3_eq0, i6_eq0, if_mx, if_mn, if_true, if_false, not_true_eq_false, not_false_eq_true, Int.reduceEq, Int.reduceLT, Int.reduceLE, g7_1, rdU_1, hk] at e ⊢
  simp (disch := first | assumption | omega) only [i3_add, i3_sub, i3_mul, i3_neg, i6_add, i6_sub, i6_mul, i6_neg, i3_lt, i3_le, i3_eq, i6_lt, i6_eq, i3_div, i6_div, i6_i3, i3_i6, c6_lt, c6_ge, c6_gt, c6_le, c6_eq, i3_ite, i6_ite, ib_0, ib_z, ite_not, i1_0, i0_0, jB_1, jB_0, jB_ib, bI_v, bL_v, bD_v, bV_v, ob_s, ob_i, i3_ofNat, jx_e, bI_e, bL_e, bD_e, bV_e, i3_eq0, i6_eq0, if_mx, if_mn, if_true, if_false, not_true_eq_false, not_false_eq_true, Int.reduceEq, Int.reduceLT, Int.reduceLE, e]
theorem tX7_seesNumber_2 {p : Nat} {x y : Int} (ho : okB b n) (hp : p ≤ n) (g : kd b p = 2) (x0 : 0 ≤ x) (xy : x ≤ y) (hy : ¬ (x ≤ nv b p ∧ nv b p ≤ y)) (y1 : y ≤ 9999) : jm_env (d + 2) 72 [.ref 5, .int (i3 x), .int (i3 y)] (qM X v (RD w b p) T c s) = some (.inl (some (.int (i3 (0)))), qM X (up (up v 5 5 2) 5 6 p) (RD w b p) T c s) := by
  obtain ⟨h1, h2, h3⟩ := nv_b ho hp g
  have e := tX7_fail (d := d) (X := X) (v := v) (w := w) (T := T) (c := c) (s := s) (b := b) (p := p) (z := 2)
  unfold RD at e ⊢
  rw [g, if_pos rfl] at e ⊢
  simp (disch := first | assumption | omega) only [eX7_seesNumber, bX7_seesNumber_0, bX7_seesNumber_8, bX7_seesNumber_14, bX7_seesNumber_22, bX7_seesNumber_30, bX7_seesNumber_38, bX7_seesNumber_42, bX7_seesNumber_43, i3_add, i3_sub, i3_mul, i3_neg, i6_add, i6_sub, i6_mul, i6_neg, i3_lt, i3_le, i3_eq, i6_lt, i6_eq, i3_div, i6_div, i6_i3, i3_i6, c6_lt, c6_ge, c6_gt, c6_le, c6_eq, i3_ite, i6_ite, ib_0, ib_z, ite_not, i1_0, i0_0, jB_1, jB_0, jB_ib, bI_v, bL_v, bD_v, bV_v, ob_s, ob_i, i3_ofNat, jx_e, bI_e, bL_e, bD_e, bV_e, i3_eq0, i6_eq0, if_mx, if_mn, if_true, if_false, not_true_eq_false, not_false_eq_true, Int.reduceEq, Int.reduceLT, Int.reduceLE, g7_1, g7_4, rdU_1, rdU_4, e]
  (repeat' split) <;> first | rfl | (exfalso; omega)
end TKB
