-- uses 24.zar 25.obj 26.ops 27.ra 29.rc 30.rd 31.re 34.gen 35.byt 36.ser 37.lnd 38.mod 39.mo2 40.mo3 41.bit 42.mo4 43.mo5 44.mo6 53.cla 58.clf 62.clj 81.fpa 83.fpb 84.fpc 85.fpd 86.fpe
/-! What was lost, as bits: both sides. -/
theorem fp_l2f {a : Int} (h0 : 1 ≤ a) (h1 : a < 9223372036854775808) : ∃ c k, (FP.l2f (i6 a)).toNat = k * 8388608 + (c - 8388608) ∧ FP.Core.fromInt FP.Core.b32 a.toNat = k * 8388608 + (c - 8388608) ∧ 8388608 ≤ c ∧ c < 16777216 ∧ 127 ≤ k ∧ k ≤ 190 := by
  obtain ⟨c, k, e, c0, c1, k0, k1⟩ := fp_int2 (n := a.toNat) (by omega) (by omega)
  refine ⟨c, k, ?_, e, c0, c1, k0, k1⟩
  have h2 : (i6 a).toInt = a := Int64.toInt_ofInt_of_le (by omega) (by omega)
  show (UInt32.ofNat (FP.Core.fromInt FP.Core.b32 (i6 a).toInt)).toNat = _
  rw [h2, show a = ((a.toNat : Nat) : Int) by omega, e, UInt32.toNat_ofNat']
  exact Nat.mod_eq_of_lt (by omega)
/-- a share is nothing or a normal number up to 1 -/
theorem fp_sh {a b : Int} (a0 : 0 ≤ a) (h : a ≤ b) (b0 : 1 ≤ b) (b1 : b < 9223372036854775808) : (a = 0 ∧ FP.fdiv (FP.l2f (i6 a)) (FP.l2f (i6 b)) = 0) ∨ (1 ≤ a ∧ ∃ c k, FP.fdiv (FP.l2f (i6 a)) (FP.l2f (i6 b)) = nb c k ∧ 8388608 ≤ c ∧ c < 16777216 ∧ 1 ≤ k ∧ k ≤ 127) := by
  obtain ⟨c', k', e1, e2, d0, d1, k0', k1'⟩ := fp_l2f b0 b1
  by_cases g : a = 0
  · left
    refine ⟨g, ?_⟩
    subst g
    have ez : (FP.l2f (i6 0)).toNat = 0 := by decide +kernel
    have e3 : FP.Core.decode FP.Core.b32 0 = .fin false 0 (-149) := by decide +kernel
    show UInt32.ofNat (FP.Core.div FP.Core.b32 (FP.l2f (i6 0)).toNat (FP.l2f (i6 b)).toNat) = 0
    unfold FP.Core.div
    rw [ez, e1, e3, fp_d32 d0 d1 (by omega) (by omega)]
    show UInt32.ofNat (FP.Core.encode FP.Core.b32 (if c' = 0 then _ else _)) = 0
    rw [if_neg (by omega)]
    rfl
  · right
    refine ⟨by omega, ?_⟩
    obtain ⟨c, k, f1, f2, c0, c1, k0, k1⟩ := fp_l2f (a := a) (by omega) (by omega)
    have hm := fp_int_m (a := a.toNat) (b := b.toNat) (by omega) (by omega) (by omega)
    rw [f2, e2] at hm
    obtain ⟨x, y, ex, x0, x1, y0, y1⟩ := fp_share c0 c1 k0 d0 d1 k1' hm
    refine ⟨x, y, ?_, x0, x1, y0, y1⟩
    show UInt32.ofNat (FP.Core.div FP.Core.b32 (FP.l2f (i6 a)).toNat (FP.l2f (i6 b)).toNat) = _
    rw [f1, e1, ex]
    rfl
theorem fp_self {c k : Nat} (c0 : 8388608 ≤ c) (c1 : c < 16777216) (k0 : 1 ≤ k) (k1 : k ≤ 254) : Op.cmpValue (FP.fcmp (nb c k) (nb c k)) .l = 0 := by
  have e : FP.fcmp (nb c k) (nb c k) = some .eq := by
    show FP.Core.order (FP.Core.decode FP.Core.b32 (nb c k).toNat) (FP.Core.decode FP.Core.b32 (nb c k).toNat) = _
    rw [nb_n c0 c1 k1, fp_d32 c0 c1 k0 k1]
    exact congrArg some (Int.compare_eq_eq.mpr rfl)
  rw [e]
  rfl
theorem nb_i {c k : Nat} (c0 : 8388608 ≤ c) (c1 : c < 16777216) (k1 : k ≤ 254) : (nb c k).toInt32 = i3 ((k : Int) * 8388608 + ((c : Int) - 8388608)) := by
  show Int32.ofNat (k * 8388608 + (c - 8388608)) = _
  rw [← Int32.ofInt_eq_ofNat]
  show Int32.ofInt _ = Int32.ofInt _
  rw [show ((k * 8388608 + (c - 8388608) : Nat) : Int) = (k : Int) * 8388608 + ((c : Int) - 8388608) by omega]
/-- the bits of what was lost -/
def lbA (v : Nat → Int → Int) : Int := if v 412 4 = 0 then 0 else ((FP.fdiv (FP.l2f (i6 (v 412 6 + v 412 7))) (FP.l2f (i6 (v 412 4)))).toNat : Int)
section LST
variable {d : Nat} {X : Nat × (Nat → Int32)} {v w : Nat → Int → Int} {T c s : Nat}
variable {μ : Nat → Int → Int}
theorem mX12_lostBits (hT : 18 ≤ T) (h4 : 0 ≤ v 412 4 ∧ v 412 4 ≤ 2000000000000000000) (h6 : 0 ≤ v 412 6) (h7 : 0 ≤ v 412 7) (hs : v 412 6 + v 412 7 ≤ v 412 4) : mR (jm_env (d + 1) 312 [.ref 411] (qM X v w T c s)) X v T c s 0 (lbA v) := by
  apply mR_0
  refine ⟨up w 411 8 0, ?_, up_eq⟩
  unfold lbA
  by_cases g : v 412 4 = 0
  · rw [if_pos g]
    simp (disch := first | assumption | omega) only [eX12_lostBits, bX12_lostBits_0, bX12_lostBits_16, bX12_lostBits_20, bX12_lostBits_47, p12_8, r12_0, a12_0, w12_0, n12_0, i3_add, i3_sub, i3_mul, i3_neg, i6_add, i6_sub, i6_mul, i6_neg, i3_lt, i3_le, i3_eq, i6_lt, i6_eq, i3_div, i6_div, i6_i3, i3_i6, c6_lt, c6_ge, c6_gt, c6_le, c6_eq, i3_ite, i6_ite, ib_0, ib_z, ite_not, i1_0, i0_0, jB_1, jB_0, jB_ib, bI_v, bL_v, bD_v, bV_v, ob_s, ob_i, i3_ofNat, jx_e, bI_e, bL_e, bD_e, bV_e, i3_eq0, i6_eq0, if_mx, if_mn, if_true, if_false, not_true_eq_false, not_false_eq_true, Int.reduceEq, Int.reduceLT, Int.reduceLE, g]
    done
  · rw [if_neg g]
    simp (disch := first | assumption | omega) only [eX12_lostBits, bX12_lostBits_0, bX12_lostBits_16, bX12_lostBits_20, bX12_lostBits_47, p12_8, r12_0, a12_0, w12_0, n12_0, i3_add, i3_sub, i3_mul, i3_neg, i6_add, i6_sub, i6_mul, i6_neg, i3_lt, i3_le, i3_eq, i6_lt, i6_eq, i3_div, i6_div, i6_i3, i3_i6, c6_lt, c6_ge, c6_gt, c6_le, c6_eq, i3_ite, i6_ite, ib_0, ib_z, ite_not, i1_0, i0_0, jB_1, jB_0, jB_ib, bI_v, bL_v, bD_v, bV_v, ob_s, ob_i, i3_ofNat, jx_e, bI_e, bL_e, bD_e, bV_e, i3_eq0, i6_eq0, if_mx, if_mn, if_true, if_false, not_true_eq_false, not_false_eq_true, Int.reduceEq, Int.reduceLT, Int.reduceLE]
    rw [if_neg g]
    rcases fp_sh (a := v 412 6 + v 412 7) (b := v 412 4) (by omega) hs (by omega) (by omega) with ⟨-, e⟩ | ⟨-, x, y, e, x0, x1, y0, y1⟩
    · have e5 : Op.cmpValue (FP.fcmp 0 0) .l = 0 := by decide +kernel
      have e6 : UInt32.toInt32 0 = i3 0 := by decide +kernel
      rw [e, fp_n32 (x := 0) (by decide), if_pos e5, e6, bX12_lostBits_47]
      rfl
    · rw [e, fp_n32 (nb_le x0 x1 (by omega)), fp_self x0 x1 y0 (by omega), nb_i x0 x1 (by omega), nb_n x0 x1 (by omega), if_pos rfl, bX12_lostBits_47, show ((y * 8388608 + (x - 8388608) : Nat) : Int) = (y : Int) * 8388608 + ((x : Int) - 8388608) by omega]
theorem cX11_lostBits (h : LO v 14 μ) (h4 : 0 ≤ μ 412 4 ∧ μ 412 4 ≤ 2000000000000000000) (h6 : 0 ≤ μ 412 6) (h7 : 0 ≤ μ 412 7) (hs : μ 412 6 + μ 412 7 ≤ μ 412 4) : cR (jm_env (d + 2) 159 [.ref 0] (qM X v w T c s)) X v T c s eIB eIB 0 (lbA μ) := by
  apply cR_0
  refine ⟨w, ?_⟩
  have hln := h.1
  have e4 : v (14 + 6) 0 = μ 412 4 := h.2.1.2.1 0 (by omega) (by omega)
  have e6 : v (14 + 6) 2 = μ 412 6 := h.2.1.2.1 2 (by omega) (by omega)
  have e7 : v (14 + 6) 3 = μ 412 7 := h.2.1.2.1 3 (by omega) (by omega)
  unfold lbA
  by_cases g : μ 412 4 = 0
  · rw [if_pos g]
    simp (disch := first | assumption | omega) only [↓reduceIte, eX11_lostBits, bX11_lostBits_0, bX11_lostBits_16, bX11_lostBits_18, r11_5, r4_5, a4_5, w4_5, n4_5, i3_add, i3_sub, i3_mul, i3_neg, i6_add, i6_sub, i6_mul, i6_neg, i3_lt, i3_le, i3_eq, i6_lt, i6_eq, i3_div, i6_div, i6_i3, i3_i6, c6_lt, c6_ge, c6_gt, c6_le, c6_eq, i3_ite, i6_ite, ib_0, ib_z, ite_not, i1_0, i0_0, jB_1, jB_0, jB_ib, bI_v, bL_v, bD_v, bV_v, ob_s, ob_i, i3_ofNat, jx_e, bI_e, bL_e, bD_e, bV_e, i3_eq0, i6_eq0, if_mx, if_mn, if_true, if_false, not_true_eq_false, not_false_eq_true, Int.reduceEq, Int.reduceLT, Int.reduceLE, e4, g]
    done
  · rw [if_neg g]
    simp (disch := first | assumption | omega) only [eX11_lostBits, bX11_lostBits_0, bX11_lostBits_16, bX11_lostBits_18, r11_5, r4_5, a4_5, w4_5, n4_5, i3_add, i3_sub, i3_mul, i3_neg, i6_add, i6_sub, i6_mul, i6_neg, i3_lt, i3_le, i3_eq, i6_lt, i6_eq, i3_div, i6_div, i6_i3, i3_i6, c6_lt, c6_ge, c6_gt, c6_le, c6_eq, i3_ite, i6_ite, ib_0, ib_z, ite_not, i1_0, i0_0, jB_1, jB_0, jB_ib, bI_v, bL_v, bD_v, bV_v, ob_s, ob_i, i3_ofNat, jx_e, bI_e, bL_e, bD_e, bV_e, i3_eq0, i6_eq0, if_mx, if_mn, if_true, if_false, not_true_eq_false, not_false_eq_true, Int.reduceEq, Int.reduceLT, Int.reduceLE, e4, e6, e7]
    rw [if_neg g]
    rcases fp_sh (a := μ 412 6 + μ 412 7) (b := μ 412 4) (by omega) hs (by omega) (by omega) with ⟨-, e⟩ | ⟨-, x, y, e, x0, x1, y0, y1⟩
    · rw [e, fp_n32 (x := 0) (by decide), sX11_bitsOfShare_0]
      rfl
    · rw [e, fp_n32 (nb_le x0 x1 (by omega)), sX11_bitsOfShare x0 x1 y0 y1, nb_n x0 x1 (by omega), show ((y * 8388608 + (x - 8388608) : Nat) : Int) = (y : Int) * 8388608 + ((x : Int) - 8388608) by omega]
      rfl
end LST
theorem okM_lost {μ : Nat → Int → Int} {n : Int} (h : okM μ n) (hn : n ≤ 2000000) : (0 ≤ μ 412 4 ∧ μ 412 4 ≤ 2000000000000000000) ∧ 0 ≤ μ 412 6 ∧ 0 ≤ μ 412 7 ∧ μ 412 6 + μ 412 7 ≤ μ 412 4 := by
  obtain ⟨hg, -, -, -, -, ha, -, hc⟩ := h
  have a0 := ha 0 (by omega) (by omega)
  have a1 := ha 1 (by omega) (by omega)
  have a2 := ha 2 (by omega) (by omega)
  have a3 := ha 3 (by omega) (by omega)
  have hb := (areaG_b hg (μ 412 0).toNat (by have := hg.1; omega)).1
  unfold csM at hc
  rw [show (4 : Int) + 0 = 4 from rfl] at a0
  rw [show (4 : Int) + 1 = 5 from rfl] at a1
  rw [show (4 : Int) + 2 = 6 from rfl] at a2
  rw [show (4 : Int) + 3 = 7 from rfl] at a3
  omega
