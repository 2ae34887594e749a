-- uses 24.zar 25.obj 26.ops 27.ra 29.rc 34.gen 35.byt 36.ser 37.lnd 38.mod 39.mo2 40.mo3 41.bit 44.mo6 45.mo7 46.mo8 47.mo9 48.moa 51.moe 53.cla 58.clf 61.cli 62.clj 63.clk 64.okm 65.cll 66.clm
/-! The class: the text, names. -/
/-- the text buffers are alike -/
def TXr (v μ : Nat → Int → Int) : Prop := bOk v 1 ∧ v 1 1 = μ 411 16 ∧ ∀ k : Int, 0 ≤ k → k < v 1 1 → v 2 k = μ 420 k
/-- a byte put behind the text -/
def cpV (v : Nat → Int → Int) (z : Int) : Nat → Int → Int := up (up v 2 (v 1 1) z) 1 1 (v 1 1 + 1)
def fourC (v : Nat → Int → Int) (z : Int) : Nat → Int → Int := cpV (cpV (cpV (cpV v (by8 z 24)) (by8 z 16)) (by8 z 8)) (by8 z 0)
theorem cpV_n {v : Nat → Int → Int} {z : Int} : cpV v z 1 1 = v 1 1 + 1 := up_eq
theorem fourC_n {v : Nat → Int → Int} {z : Int} : fourC v z 1 1 = v 1 1 + 4 := by
  unfold fourC
  rw [cpV_n, cpV_n, cpV_n, cpV_n]
  omega
theorem cpV_b {v : Nat → Int → Int} {z : Int} {n : Nat} (h : n ≠ 1) (h2 : n ≠ 2) : cpV v z n = v n := by
  unfold cpV
  rw [up_b h, up_b h2]
theorem fourC_b {v : Nat → Int → Int} {z : Int} {n : Nat} (h : n ≠ 1) (h2 : n ≠ 2) : fourC v z n = v n := by
  unfold fourC
  rw [cpV_b h h2, cpV_b h h2, cpV_b h h2, cpV_b h h2]
theorem TXr_cp {v μ : Nat → Int → Int} {z : Int} (h : TXr v μ) (hl : v 1 1 ≤ 599) (z0 : 0 ≤ z) (z1 : z ≤ 255) : TXr (cpV v z) (apV μ z) := by
  obtain ⟨⟨b0, b1, b2⟩, h1, h2⟩ := h
  have e : cpV v z 1 1 = v 1 1 + 1 := cpV_n
  have hc : (bcap 1 : Int) = 600 := rfl
  refine ⟨⟨by omega, by omega, fun k k0 k1 => ?_⟩, ?_, fun k k0 k1 => ?_⟩
  · rw [e] at k1
    show 0 ≤ cpV v z 2 k ∧ cpV v z 2 k ≤ 255
    unfold cpV
    rw [up_ne (by omega)]
    by_cases g : k = v 1 1
    · rw [g, up_eq]; omega
    · rw [up_ne (by omega)]; exact b2 k k0 (by omega)
  · rw [e, apV_n, h1]
  · rw [e] at k1
    have e1 : cpV v z 2 k = up v 2 (v 1 1) z 2 k := up_ne (by omega)
    have e2 : apV μ z 420 k = up μ 420 (μ 411 16) z 420 k := up_ne (by omega)
    rw [e1, e2, ← h1]
    by_cases g : k = v 1 1
    · rw [g, up_eq, up_eq]
    · rw [up_ne (by omega), up_ne (by omega)]; exact h2 k k0 (by omega)
theorem TXr_four {v μ : Nat → Int → Int} {z : Int} (h : TXr v μ) (hl : v 1 1 ≤ 596) : TXr (fourC v z) (fourV μ z) := by
  have n1 : cpV v (by8 z 24) 1 1 = v 1 1 + 1 := cpV_n
  have n2 : cpV (cpV v (by8 z 24)) (by8 z 16) 1 1 = v 1 1 + 2 := by rw [cpV_n, n1]; omega
  have n3 : cpV (cpV (cpV v (by8 z 24)) (by8 z 16)) (by8 z 8) 1 1 = v 1 1 + 3 := by rw [cpV_n, n2]; omega
  exact TXr_cp (TXr_cp (TXr_cp (TXr_cp h (by omega) by8_b.1 by8_b.2) (by omega) by8_b.1 by8_b.2) (by omega) by8_b.1 by8_b.2) (by omega) by8_b.1 by8_b.2
section CLR
variable {d : Nat} {X : Nat × (Nat → Int32)} {v w : Nat → Int → Int} {T c s : Nat}
variable {μ : Nat → Int → Int} {m : Int}
theorem tX0_put {z : Int} (h0 : 0 ≤ v 1 1) (h1 : v 1 1 ≤ 599) : jm_env (d + 2) 20 [.ref 1, .int (i3 z)] (qM X v w T c s) = some (.inl none, qM X (cpV v z) w T c s) := by
  have hc : (bcap 1 : Int) = 600 := rfl
  rw [sX0_put oByt_1 h0 (by omega)]
  unfold bputV
  rw [if_pos (by omega)]
  rfl
theorem tX0_putFour {z : Int} (h0 : 0 ≤ v 1 1) (h1 : v 1 1 ≤ 596) : jm_env (d + 3) 21 [.ref 1, .int (i3 z)] (qM X v w T c s) = some (.inl none, qM X (fourC v z) w T c s) := by
  have o1 := oByt_1
  have n1 : cpV v (by8 z 24) 1 1 = v 1 1 + 1 := cpV_n
  have n2 : cpV (cpV v (by8 z 24)) (by8 z 16) 1 1 = v 1 1 + 2 := by rw [cpV_n, n1]; omega
  have n3 : cpV (cpV (cpV v (by8 z 24)) (by8 z 16)) (by8 z 8) 1 1 = v 1 1 + 3 := by rw [cpV_n, n2]; omega
  simp (disch := first | assumption | omega) only [eX0_putFour, bX0_putFour_0, i3_add, i3_sub, i3_mul, i3_neg, i6_add, i6_sub, i6_mul, i6_neg, i3_lt, i3_le, i3_eq, i6_lt, i6_eq, i3_div, i6_div, i6_i3, i3_i6, c6_lt, c6_ge, c6_gt, c6_le, c6_eq, i3_ite, i6_ite, ib_0, ib_z, ite_not, i1_0, i0_0, jB_1, jB_0, jB_ib, bI_v, bL_v, bD_v, bV_v, ob_s, ob_i, i3_ofNat, jx_e, bI_e, bL_e, bD_e, bV_e, i3_eq0, i6_eq0, if_mx, if_mn, if_true, if_false, not_true_eq_false, not_false_eq_true, Int.reduceEq, Int.reduceLT, Int.reduceLE, i3_u24, i3_u16, i3_u8, i3_u0, tX0_put]
  rfl
def twC (v : Nat → Int → Int) (a b e f g : Int) : Nat → Int → Int := fourC (fourC (fourC (fourC (fourC v a) b) e) f) g
theorem cX11_append {a b e f g : Int} (h : TXr v μ) : cW (jm_env (d + 4) 96 [.ref 0, .int (i3 a), .int (i3 b), .int (i3 e), .int (i3 f), .int (i3 g)] (qM X v w T c s)) X v T c s eIS eIS (cd1 (μ 411 16 ≤ 580)) (μ 411 16 + 20) (fun v' => TXr v' (twV μ a b e f g) ∧ ∀ k : Nat, k ≠ 1 → k ≠ 2 → v' k = v k) := by
  have o1 := oByt_1
  obtain ⟨hb, h1, h2⟩ := id h
  obtain ⟨b0, b1, -⟩ := id hb
  have hc : (bcap 1 : Int) = 600 := rfl
  by_cases q : μ 411 16 ≤ 580
  · rw [cd1_0 q]
    apply cW_0
    have k1 : fourC v a 1 1 = v 1 1 + 4 := fourC_n
    have k2 : fourC (fourC v a) b 1 1 = v 1 1 + 8 := by rw [fourC_n, k1]; omega
    have k3 : fourC (fourC (fourC v a) b) e 1 1 = v 1 1 + 12 := by rw [fourC_n, k2]; omega
    have k4 : fourC (fourC (fourC (fourC v a) b) e) f 1 1 = v 1 1 + 16 := by rw [fourC_n, k3]; omega
    have k5 : fourC (fourC (fourC (fourC (fourC v a) b) e) f) g 1 1 = v 1 1 + 20 := by rw [fourC_n, k4]; omega
    refine ⟨twC v a b e f g, w, ?_, ?_, fun k k0 k1 => ?_⟩
    · simp (disch := first | assumption | omega) only [eX11_append, bX11_append_0, bX11_append_12, bX11_append_22, r11_0, g0_1, i3_add, i3_sub, i3_mul, i3_neg, i6_add, i6_sub, i6_mul, i6_neg, i3_lt, i3_le, i3_eq, i6_lt, i6_eq, i3_div, i6_div, i6_i3, i3_i6, c6_lt, c6_ge, c6_gt, c6_le, c6_eq, i3_ite, i6_ite, ib_0, ib_z, ite_not, i1_0, i0_0, jB_1, jB_0, jB_ib, bI_v, bL_v, bD_v, bV_v, ob_s, ob_i, i3_ofNat, jx_e, bI_e, bL_e, bD_e, bV_e, i3_eq0, i6_eq0, if_mx, if_mn, if_true, if_false, not_true_eq_false, not_false_eq_true, Int.reduceEq, Int.reduceLT, Int.reduceLE, sX0_hasRoom, hc, tX0_putFour, k5]
      rw [if_pos (by omega), h1]
      rfl
    · exact TXr_four (TXr_four (TXr_four (TXr_four (TXr_four h (by omega)) (by omega)) (by omega)) (by omega)) (by omega)
    · unfold twC
      rw [fourC_b k0 k1, fourC_b k0 k1, fourC_b k0 k1, fourC_b k0 k1, fourC_b k0 k1]
  · rw [cd1_1 q]
    apply cW_1
    have hq : (v 1 1 + 20 ≤ 600) = False := eq_false (by omega)
    simp (disch := first | assumption | omega) only [↓reduceIte, eX11_append, bX11_append_0, bX11_append_12, bX11_append_22, r11_0, g0_1, i3_add, i3_sub, i3_mul, i3_neg, i6_add, i6_sub, i6_mul, i6_neg, i3_lt, i3_le, i3_eq, i6_lt, i6_eq, i3_div, i6_div, i6_i3, i3_i6, c6_lt, c6_ge, c6_gt, c6_le, c6_eq, i3_ite, i6_ite, ib_0, ib_z, ite_not, i1_0, i0_0, jB_1, jB_0, jB_ib, bI_v, bL_v, bD_v, bV_v, ob_s, ob_i, i3_ofNat, jx_e, bI_e, bL_e, bD_e, bV_e, i3_eq0, i6_eq0, if_mx, if_mn, if_true, if_false, not_true_eq_false, not_false_eq_true, Int.reduceEq, Int.reduceLT, Int.reduceLE, sX0_hasRoom, hc, hq, exc_q]
    exact ⟨_, rfl⟩
theorem cX11_truncate {k : Int} (h : TXr v μ) (hk : isI k) : cW (jm_env (d + 3) 97 [.ref 0, .int (i3 k)] (qM X v w T c s)) X v T c s eIA eIA (cd1 (0 ≤ k ∧ k ≤ μ 411 16)) k (fun v' => TXr v' (up μ 411 16 k) ∧ ∀ n : Nat, n ≠ 1 → v' n = v n) := by
  obtain ⟨k0, k1⟩ := hk
  have o1 := oByt_1
  obtain ⟨hb, h1, h2⟩ := id h
  obtain ⟨b0, b1, b2⟩ := id hb
  have hc : (bcap 1 : Int) = 600 := rfl
  by_cases q : 0 ≤ k ∧ k ≤ μ 411 16
  · obtain ⟨q0, q1⟩ := id q
    rw [cd1_0 q]
    apply cW_0
    refine ⟨up v 1 1 k, w, ?_, ⟨⟨?_, ?_, fun j j0 j1 => ?_⟩, ?_, fun j j0 j1 => ?_⟩, fun n hn => up_b hn⟩
    · simp (disch := first | assumption | omega) only [eX11_truncate, bX11_truncate_0, bX11_truncate_4, bX11_truncate_15, bX11_truncate_19, bX11_truncate_20, r11_0, g0_1, i3_add, i3_sub, i3_mul, i3_neg, i6_add, i6_sub, i6_mul, i6_neg, i3_lt, i3_le, i3_eq, i6_lt, i6_eq, i3_div, i6_div, i6_i3, i3_i6, c6_lt, c6_ge, c6_gt, c6_le, c6_eq, i3_ite, i6_ite, ib_0, ib_z, ite_not, i1_0, i0_0, jB_1, jB_0, jB_ib, bI_v, bL_v, bD_v, bV_v, ob_s, ob_i, i3_ofNat, jx_e, bI_e, bL_e, bD_e, bV_e, i3_eq0, i6_eq0, if_mx, if_mn, if_true, if_false, not_true_eq_false, not_false_eq_true, Int.reduceEq, Int.reduceLT, Int.reduceLE, sX11_require_1, sX11_require_0, sX0_shorten, up_eq]
      (repeat' split) <;> first | rfl | (exfalso; omega)
    · rw [up_eq]; exact q0
    · rw [up_eq]; omega
    · rw [up_eq] at j1
      rw [up_ne (by omega)]
      exact b2 j j0 (by omega)
    · rw [up_eq, up_eq]
    · rw [up_eq] at j1
      rw [up_ne (by omega), up_ne (by omega)]
      exact h2 j j0 (by omega)
  · rw [cd1_1 q]
    apply cW_1
    simp (disch := first | assumption | omega) only [eX11_truncate, bX11_truncate_0, bX11_truncate_4, bX11_truncate_15, bX11_truncate_19, bX11_truncate_20, r11_0, g0_1, i3_add, i3_sub, i3_mul, i3_neg, i6_add, i6_sub, i6_mul, i6_neg, i3_lt, i3_le, i3_eq, i6_lt, i6_eq, i3_div, i6_div, i6_i3, i3_i6, c6_lt, c6_ge, c6_gt, c6_le, c6_eq, i3_ite, i6_ite, ib_0, ib_z, ite_not, i1_0, i0_0, jB_1, jB_0, jB_ib, bI_v, bL_v, bD_v, bV_v, ob_s, ob_i, i3_ofNat, jx_e, bI_e, bL_e, bD_e, bV_e, i3_eq0, i6_eq0, if_mx, if_mn, if_true, if_false, not_true_eq_false, not_false_eq_true, Int.reduceEq, Int.reduceLT, Int.reduceLE, sX11_require_1, sX11_require_0, exc_q]
    ((repeat' split) <;> first | exact ⟨_, rfl⟩ | (exfalso; omega))
/-- the letters of a series are those of the text -/
abbrev nmT (v : Nat → Int → Int) (a : Nat) (st len : Int) : Prop := len = v a 1 ∧ ∀ k : Nat, k < (v a 1).toNat → v (a + 1) k = bat v 1 (st + k)
theorem v9_0 {a : Nat} {z : Int} (h : oSer a) (z0 : 0 ≤ z) (z1 : z < 6) : jm_env (d + 1) 131 [.ref (a + 1), .int (i3 z)] (qM X v w T c s) = some (.inl (some (.int (i3 (v (a + 1) z)))), (qM X v w T c s)) := tX11_valueAt (k := 6) (n9_0 h) (by decide) z0 z1 (a9_0 h z0 z1)
theorem tX9_hasName {a : Nat} {st len : Int} (h : oSer a) (hb : bOk v 1) (hn0 : 0 ≤ v a 1) (hn1 : v a 1 ≤ 6) (hl : ltOk (v (a + 1)) (v a 1).toNat) (s0 : 0 ≤ st) (s1 : st ≤ 600) (l0 : 0 ≤ len) (l1 : len ≤ 600) :
    jm_env (d + 2) 77 [.ref a, .ref 1, .int (i3 st), .int (i3 len)] (qM X v w T c s) = some (.inl (some (.int (i3 (if nmT v a st len then 1 else 0)))), (qM X v w T c s)) := by
  have o1 := oByt_1
  have hl := ch_a (p := fun k : Nat => v (a + 1) k = bat v 1 (st + k)) (fun k : Nat => jm_R (jm_env (d + 1)) jmM_X9_hasName 13 [some (.ref a), some (.ref 1), some (.int (i3 st)), some (.int (i3 len)), some (.int (i3 k))] [] (qM X v w T c s)) (some (.inl (some (.int (i3 (0)))), (qM X v w T c s))) (some (.inl (some (.int (i3 (1)))), (qM X v w T c s))) (v a 1).toNat (fun k hk => by
    have hq := bat_b hb (st + k)
    have hw := hl k (by omega) (by omega)
    rw [bX9_hasName_13]
    simp (disch := first | assumption | omega) only [eX9_hasName, bX9_hasName_0, bX9_hasName_8, bX9_hasName_10, bX9_hasName_22, bX9_hasName_42, bX9_hasName_44, bX9_hasName_50, g9_1, r9_0, a9_0, w9_0, n9_0, i3_add, i3_sub, i3_mul, i3_neg, i6_add, i6_sub, i6_mul, i6_neg, i3_lt, i3_le, i3_eq, i6_lt, i6_eq, i3_div, i6_div, i6_i3, i3_i6, c6_lt, c6_ge, c6_gt, c6_le, c6_eq, i3_ite, i6_ite, ib_0, ib_z, ite_not, i1_0, i0_0, jB_1, jB_0, jB_ib, bI_v, bL_v, bD_v, bV_v, ob_s, ob_i, i3_ofNat, jx_e, bI_e, bL_e, bD_e, bV_e, i3_eq0, i6_eq0, if_mx, if_mn, if_true, if_false, not_true_eq_false, not_false_eq_true, Int.reduceEq, Int.reduceLT, Int.reduceLE, v9_0, sX0_byteAt]
    rw [if_neg (by omega)]
    rfl) (by
    rw [bX9_hasName_13]
    simp (disch := first | assumption | omega) only [eX9_hasName, bX9_hasName_0, bX9_hasName_8, bX9_hasName_10, bX9_hasName_22, bX9_hasName_42, bX9_hasName_44, bX9_hasName_50, g9_1, r9_0, a9_0, w9_0, n9_0, i3_add, i3_sub, i3_mul, i3_neg, i6_add, i6_sub, i6_mul, i6_neg, i3_lt, i3_le, i3_eq, i6_lt, i6_eq, i3_div, i6_div, i6_i3, i3_i6, c6_lt, c6_ge, c6_gt, c6_le, c6_eq, i3_ite, i6_ite, ib_0, ib_z, ite_not, i1_0, i0_0, jB_1, jB_0, jB_ib, bI_v, bL_v, bD_v, bV_v, ob_s, ob_i, i3_ofNat, jx_e, bI_e, bL_e, bD_e, bV_e, i3_eq0, i6_eq0, if_mx, if_mn, if_true, if_false, not_true_eq_false, not_false_eq_true, Int.reduceEq, Int.reduceLT, Int.reduceLE]
    rw [if_pos (by omega)])
  simp (disch := first | assumption | omega) only [eX9_hasName, bX9_hasName_0, bX9_hasName_8, bX9_hasName_10, bX9_hasName_22, bX9_hasName_42, bX9_hasName_44, bX9_hasName_50, g9_1, r9_0, a9_0, w9_0, n9_0, i3_add, i3_sub, i3_mul, i3_neg, i6_add, i6_sub, i6_mul, i6_neg, i3_lt, i3_le, i3_eq, i6_lt, i6_eq, i3_div, i6_div, i6_i3, i3_i6, c6_lt, c6_ge, c6_gt, c6_le, c6_eq, i3_ite, i6_ite, ib_0, ib_z, ite_not, i1_0, i0_0, jB_1, jB_0, jB_ib, bI_v, bL_v, bD_v, bV_v, ob_s, ob_i, i3_ofNat, jx_e, bI_e, bL_e, bD_e, bV_e, i3_eq0, i6_eq0, if_mx, if_mn, if_true, if_false, not_true_eq_false, not_false_eq_true, Int.reduceEq, Int.reduceLT, Int.reduceLE]
  push_cast at hl
  rw [hl]
  simp only [nmT]
  by_cases hp : ∀ k : Nat, k < (v a 1).toNat → v (a + 1) k = bat v 1 (st + k)
  · simp only [if_pos hp, eq_true hp, and_true, if_true]
    all_goals ((repeat' split) <;> first | rfl | (apply fin_i; omega) | (exfalso; omega))
  · simp only [if_neg hp, eq_false hp, and_false, if_false]
    all_goals ((repeat' split) <;> first | rfl | (apply fin_i; omega) | (exfalso; omega))
theorem nk_cg {f g : Int → Int} : ∀ {n : Nat}, (∀ k : Int, 0 ≤ k → k < n → f k = g k) → nk f n = nk g n := by
  intro n
  induction n with
  | zero => intro _; rfl
  | succ n ih =>
    intro h
    show 32 * nk f n + (f n - 96) = 32 * nk g n + (g n - 96)
    rw [ih (fun k k0 k1 => h k k0 (by omega)), h n (by omega) (by omega)]
/-- .. where its name is the text's -/
theorem nmT_iff {a : Nat} {i st : Int} {n : Nat} (hr : rn v μ a i) (hs : ∀ k : Int, 0 ≤ k → k < n → bat v 1 (st + k) = v 2 (st + k)) (hl : ltOk (fun k => v 2 (st + k)) n) : nmT v a st n ↔ μ 412 (12 + 13 * i + 0) = nk (fun k => v 2 (st + k)) n := by
  obtain ⟨r0, r1, r2, r3⟩ := hr
  rw [r3]
  constructor
  · rintro ⟨e, h⟩
    have e2 : (v a 1).toNat = n := by omega
    rw [e2] at h ⊢
    refine nk_cg ?_
    intro k k0 k1
    have := h k.toNat (by omega)
    rw [show ((k.toNat : Nat) : Int) = k by omega] at this
    rw [this]
    exact hs k k0 k1
  · intro e
    obtain ⟨h1, h2⟩ := nk_inj r2 hl e
    refine ⟨by omega, fun k hk => ?_⟩
    rw [h2 k (by omega) (by omega), hs k (by omega) (by omega)]
theorem tX4_seriesNamed {b : Nat} {st : Int} {n : Nat} (h : LO v b μ) (hb : bOk v 1) (s0 : 0 ≤ st) (s1 : st + n ≤ 600) (hs : ∀ k : Int, 0 ≤ k → k < n → bat v 1 (st + k) = v 2 (st + k)) (hl : ltOk (fun k => v 2 (st + k)) n) :
    jm_env (d + 3) 44 [.ref b, .ref 1, .int (i3 st), .int (i3 n)] (qM X v w T c s) = some (.inl (some (.int (i3 (nmF μ (nk (fun k => v 2 (st + k)) n))))), (qM X v w T c s)) := by
  have o1 := h.1
  have hc := h.2.2.1.2.1
  have hc0 := h.2.2.1.1
  have he : v b 2 = μ 412 0 := h.2.1.1.2.2.1
  have hq := ch_f (p := fun k : Nat => nmT v (b + 7 + 5 * k) st n) (fun k : Nat => jm_R (jm_env (d + 2)) jmM_X4_seriesNamed 3 [some (.ref b), some (.ref 1), some (.int (i3 st)), some (.int (i3 n)), some (.int (i3 k))] [] (qM X v w T c s)) (fun k : Nat => some (.inl (some (.int (i3 (k)))), (qM X v w T c s))) (some (.inl (some (.int (i3 (-1)))), (qM X v w T c s))) (μ 412 0).toNat (fun k hk => by
    have hz := h.zs (i := k) (by omega)
    obtain ⟨r0, r1, r2, -⟩ := h.zn (i := k) (by omega)
    rw [bX4_seriesNamed_3]
    simp (disch := first | assumption | omega) only [eX4_seriesNamed, bX4_seriesNamed_0, bX4_seriesNamed_9, bX4_seriesNamed_18, bX4_seriesNamed_34, bX4_seriesNamed_37, bX4_seriesNamed_43, g4_2, r4_3, q4_3, i3_add, i3_sub, i3_mul, i3_neg, i6_add, i6_sub, i6_mul, i6_neg, i3_lt, i3_le, i3_eq, i6_lt, i6_eq, i3_div, i6_div, i6_i3, i3_i6, c6_lt, c6_ge, c6_gt, c6_le, c6_eq, i3_ite, i6_ite, ib_0, ib_z, ite_not, i1_0, i0_0, jB_1, jB_0, jB_ib, bI_v, bL_v, bD_v, bV_v, ob_s, ob_i, i3_ofNat, jx_e, bI_e, bL_e, bD_e, bV_e, i3_eq0, i6_eq0, if_mx, if_mn, if_true, if_false, not_true_eq_false, not_false_eq_true, Int.reduceEq, Int.reduceLT, Int.reduceLE, he, Int.toNat_natCast, tX9_hasName]
    rw [if_neg (by omega), if_neg (by omega)]
    by_cases g : nmT v (b + 7 + 5 * k) st n
    · simp only [if_pos g]
    · simp only [if_neg g]
      rfl) (by
    rw [bX4_seriesNamed_3]
    simp (disch := first | assumption | omega) only [eX4_seriesNamed, bX4_seriesNamed_0, bX4_seriesNamed_9, bX4_seriesNamed_18, bX4_seriesNamed_34, bX4_seriesNamed_37, bX4_seriesNamed_43, g4_2, r4_3, q4_3, i3_add, i3_sub, i3_mul, i3_neg, i6_add, i6_sub, i6_mul, i6_neg, i3_lt, i3_le, i3_eq, i6_lt, i6_eq, i3_div, i6_div, i6_i3, i3_i6, c6_lt, c6_ge, c6_gt, c6_le, c6_eq, i3_ite, i6_ite, ib_0, ib_z, ite_not, i1_0, i0_0, jB_1, jB_0, jB_ib, bI_v, bL_v, bD_v, bV_v, ob_s, ob_i, i3_ofNat, jx_e, bI_e, bL_e, bD_e, bV_e, i3_eq0, i6_eq0, if_mx, if_mn, if_true, if_false, not_true_eq_false, not_false_eq_true, Int.reduceEq, Int.reduceLT, Int.reduceLE, he]
    rw [ite2 (by omega)])
  rw [fnd_map (fun z : Int => (some (.inl (some (.int (i3 (z)))), (qM X v w T c s)) : Option jm_Res))] at hq
  simp (disch := first | assumption | omega) only [eX4_seriesNamed, bX4_seriesNamed_0, bX4_seriesNamed_9, bX4_seriesNamed_18, bX4_seriesNamed_34, bX4_seriesNamed_37, bX4_seriesNamed_43, g4_2, r4_3, q4_3, i3_add, i3_sub, i3_mul, i3_neg, i6_add, i6_sub, i6_mul, i6_neg, i3_lt, i3_le, i3_eq, i6_lt, i6_eq, i3_div, i6_div, i6_i3, i3_i6, c6_lt, c6_ge, c6_gt, c6_le, c6_eq, i3_ite, i6_ite, ib_0, ib_z, ite_not, i1_0, i0_0, jB_1, jB_0, jB_ib, bI_v, bL_v, bD_v, bV_v, ob_s, ob_i, i3_ofNat, jx_e, bI_e, bL_e, bD_e, bV_e, i3_eq0, i6_eq0, if_mx, if_mn, if_true, if_false, not_true_eq_false, not_false_eq_true, Int.reduceEq, Int.reduceLT, Int.reduceLE]
  refine hq.trans ?_
  unfold nmF
  rw [fnd_congr (μ 412 0).toNat 0 (fun k k0 k1 => nmT_iff (h.zn (i := k) (by omega)) hs hl) (fun k _ _ => rfl)]
theorem LO.nm {b : Nat} (h : LO v b μ) : nmOk μ := fun k k0 k1 => by
  obtain ⟨r0, r1, r2, r3⟩ := h.zn (i := k.toNat) (by omega)
  rw [show ((k.toNat : Nat) : Int) = k by omega] at r3
  obtain ⟨h1, h2, -⟩ := nk_b r2
  rw [r3]
  refine ⟨h1, ?_⟩
  have : (32 : Int) ^ (v (b + 7 + 5 * k.toNat) 1).toNat ≤ 32 ^ 6 := by
    have hn : (v (b + 7 + 5 * k.toNat) 1).toNat ≤ 6 := by omega
    exact_mod_cast Nat.pow_le_pow_right (by decide : 0 < 32) hn
  have e : (32 : Int) ^ 6 = 1073741824 := rfl
  omega
end CLR
