-- uses 24.zar 25.obj 26.ops 30.rd 31.re 32.rf 34.gen 38.mod 39.mo2 41.bit 42.mo4 43.mo5 44.mo6 46.mo8 53.cla 58.clf c0.foa c1.fob c2.foc c3.fod c4.foe c5.fof c6.fog c7.foh
/-! The reference lays one pile on another. -/
section FOJ
variable {d : Nat} {X : Nat × (Nat → Int32)} {v w : Nat → Int → Int} {T c s : Nat}
theorem sX12_foldsOver {a b h : Int} {hn : Nat} (hT : 18 ≤ T) (hh : h = hn) (h1 : 1 ≤ h) (h16 : h ≤ 16) (a0 : 0 ≤ a) (a1 : a < 32) (b0 : 0 ≤ b) (b1 : b < 32) (hab : a ≠ b) (ha : w 426 a = h) (hb : w 426 b = h) (hv : ∀ t : Int, 0 ≤ t → t < h → 0 ≤ w 425 (32 * b + t) ∧ w 425 (32 * b + t) < 64) :
    ∃ w', jm_env (d + 1) 323 [.ref 411, .int (i3 a), .int (i3 b)] (qM X v w T c s) = some (.inl none, qM X v w' T c s) ∧ (∀ t : Int, 0 ≤ t → t < h → w' 425 (32 * a + t) = xr (w 425 (32 * b + (h - 1 - t))) ∧ w' 425 (32 * a + h + t) = w 425 (32 * a + t)) ∧ w' 426 a = 2 * h ∧ (∀ (m : Nat) (j : Int), m ≠ 427 → (m ≠ 425 ∨ j < 32 * a ∨ 32 * a + 32 ≤ j) → (m ≠ 426 ∨ (j ≠ a ∧ j ≠ b)) → w' m j = w m j) := by
  have hl1 := lpI (S := Nat → Int → Int) (L := fun j u => jm_R (jm_env d) jmM_X12_foldsOver 10 [some (.ref 411), some (.int (i3 a)), some (.int (i3 b)), some (.int (i3 h)), some (.int (i3 (j : Nat)))] [] (qM X v u T c s)) (I := fun j u => (∀ t : Int, 0 ≤ t → t < (j : Nat) → u 427 t = xr (w 425 (32 * b + (h - 1 - t)))) ∧ ∀ (m : Nat) (k : Int), m ≠ 427 → u m k = w m k) hn 0 (fun j u _ hj ⟨i1, i2⟩ => by
    have q : (h ≤ (j : Int)) = False := eq_false (by omega)
    have hx := hv (h - 1 - j) (by omega) (by omega)
    have e1 := a12_39 (X := X) (v := v) (w := u) (T := T) (c := c) (s := s) (z := 32 * b + h - 1 - j) hT (by omega) (by omega)
    rw [i2 425 _ (by omega), show 32 * b + h - 1 - (j : Int) = 32 * b + (h - 1 - j) by omega] at e1
    refine ⟨up u 427 j (xr (w 425 (32 * b + (h - 1 - j)))), ?_, fun t t0 t1 => ?_, fun m k hm => ?_⟩
    · rw [bX12_foldsOver_10]
      simp (disch := first | assumption | omega) only [↓reduceIte, i3_add, i3_sub, i3_mul, i3_neg, i6_add, i6_sub, i6_mul, i6_neg, i3_lt, i3_le, i3_eq, i6_lt, i6_eq, i3_div, i6_div, i6_i3, i3_i6, c6_lt, c6_ge, c6_gt, c6_le, c6_eq, i3_ite, i6_ite, ib_0, ib_z, ite_not, i1_0, i0_0, jB_1, jB_0, jB_ib, bI_v, bL_v, bD_v, bV_v, ob_s, ob_i, i3_ofNat, jx_e, bI_e, bL_e, bD_e, bV_e, i3_eq0, i6_eq0, if_mx, if_mn, if_true, if_false, not_true_eq_false, not_false_eq_true, Int.reduceEq, Int.reduceLT, Int.reduceLE, q, bX12_foldsOver_16, r12_41, r12_39, show 32 * b + h - 1 - (j : Int) = 32 * b + (h - 1 - j) by omega, e1, i3_xr hx.1 hx.2, w12_41]
      rfl
    · by_cases g : t = j
      · rw [g, up_eq]
      · rw [up_ne (by omega)]; exact i1 t t0 (by omega)
    · rw [up_ne (by omega)]; exact i2 m k hm) w ⟨fun t t0 t1 => by omega, fun _ _ _ => rfl⟩
  obtain ⟨u1, e1, i1, i2⟩ := hl1
  rw [Nat.zero_add] at e1 i1
  have hl2 := lpI (S := Nat → Int → Int) (L := fun j u => jm_R (jm_env d) jmM_X12_foldsOver 57 [some (.ref 411), some (.int (i3 a)), some (.int (i3 b)), some (.int (i3 h)), some (.int (i3 (h - 1 - (j : Nat))))] [] (qM X v u T c s)) (I := fun j u => (∀ t : Int, h - (j : Nat) ≤ t → t < h → u 425 (32 * a + h + t) = w 425 (32 * a + t)) ∧ (∀ k : Int, k < 32 * a + h + (h - (j : Nat)) ∨ 32 * a + 2 * h ≤ k → u 425 k = w 425 k) ∧ ∀ (m : Nat) (k : Int), m ≠ 425 → u m k = u1 m k) hn 0 (fun j u _ hj ⟨j1, j2, j3⟩ => by
    have q : (h - 1 - (j : Int) < 0) = False := eq_false (by omega)
    have e1 := a12_39 (X := X) (v := v) (w := u) (T := T) (c := c) (s := s) (z := 32 * a + (h - 1 - j)) hT (by omega) (by omega)
    rw [j2 _ (Or.inl (by omega))] at e1
    have e2 := w12_39 (X := X) (v := v) (w := u) (T := T) (c := c) (s := s) (z := 32 * a + h + (h - 1 - j)) (y := w 425 (32 * a + (h - 1 - j))) hT (by omega) (by omega)
    refine ⟨up u 425 (32 * a + h + (h - 1 - j)) (w 425 (32 * a + (h - 1 - j))), ?_, fun t t0 t1 => ?_, fun k hk => ?_, fun m k hm => ?_⟩
    · show jm_R _ _ 57 [_, _, _, _, some (.int (i3 (h - 1 - (j : Nat))))] _ _ = jm_R _ _ 57 [_, _, _, _, some (.int (i3 (h - 1 - ((j + 1 : Nat) : Int))))] _ _
      rw [show h - 1 - ((j + 1 : Nat) : Int) = h - 1 - (j : Int) + -1 by omega, bX12_foldsOver_57]
      simp (disch := first | assumption | omega) only [↓reduceIte, i3_add, i3_sub, i3_mul, i3_neg, i6_add, i6_sub, i6_mul, i6_neg, i3_lt, i3_le, i3_eq, i6_lt, i6_eq, i3_div, i6_div, i6_i3, i3_i6, c6_lt, c6_ge, c6_gt, c6_le, c6_eq, i3_ite, i6_ite, ib_0, ib_z, ite_not, i1_0, i0_0, jB_1, jB_0, jB_ib, bI_v, bL_v, bD_v, bV_v, ob_s, ob_i, i3_ofNat, jx_e, bI_e, bL_e, bD_e, bV_e, i3_eq0, i6_eq0, if_mx, if_mn, if_true, if_false, not_true_eq_false, not_false_eq_true, Int.reduceEq, Int.reduceLT, Int.reduceLE, q, bX12_foldsOver_62, r12_39, e1, e2]
    · by_cases g : t = h - 1 - j
      · rw [g, up_eq]
      · rw [up_ne (by omega)]; exact j1 t (by omega) t1
    · rw [up_ne (by omega)]; exact j2 k (by omega)
    · rw [up_ne (by omega)]; exact j3 m k hm) u1 ⟨fun t t0 t1 => by omega, fun k _ => i2 425 k (by omega), fun _ _ _ => rfl⟩
  obtain ⟨u2, e2, j1, j2, j3⟩ := hl2
  rw [Nat.zero_add] at e2 j1 j2
  have hl3 := lpI (S := Nat → Int → Int) (L := fun j u => jm_R (jm_env d) jmM_X12_foldsOver 97 [some (.ref 411), some (.int (i3 a)), some (.int (i3 b)), some (.int (i3 h)), some (.int (i3 (j : Nat)))] [] (qM X v u T c s)) (I := fun j u => (∀ t : Int, 0 ≤ t → t < (j : Nat) → u 425 (32 * a + t) = xr (w 425 (32 * b + (h - 1 - t)))) ∧ (∀ k : Int, k < 32 * a ∨ 32 * a + (j : Nat) ≤ k → u 425 k = u2 425 k) ∧ ∀ (m : Nat) (k : Int), m ≠ 425 → u m k = u1 m k) hn 0 (fun j u _ hj ⟨k1, k2, k3⟩ => by
    have q : (h ≤ (j : Int)) = False := eq_false (by omega)
    have e1 := a12_41 (X := X) (v := v) (w := u) (T := T) (c := c) (s := s) (z := j) hT (by omega) (by omega)
    rw [k3 427 _ (by omega), i1 j (by omega) (by omega)] at e1
    have e2 := w12_39 (X := X) (v := v) (w := u) (T := T) (c := c) (s := s) (z := 32 * a + j) (y := xr (w 425 (32 * b + (h - 1 - j)))) hT (by omega) (by omega)
    refine ⟨up u 425 (32 * a + j) (xr (w 425 (32 * b + (h - 1 - j)))), ?_, fun t t0 t1 => ?_, fun k hk => ?_, fun m k hm => ?_⟩
    · rw [bX12_foldsOver_97]
      simp (disch := first | assumption | omega) only [↓reduceIte, i3_add, i3_sub, i3_mul, i3_neg, i6_add, i6_sub, i6_mul, i6_neg, i3_lt, i3_le, i3_eq, i6_lt, i6_eq, i3_div, i6_div, i6_i3, i3_i6, c6_lt, c6_ge, c6_gt, c6_le, c6_eq, i3_ite, i6_ite, ib_0, ib_z, ite_not, i1_0, i0_0, jB_1, jB_0, jB_ib, bI_v, bL_v, bD_v, bV_v, ob_s, ob_i, i3_ofNat, jx_e, bI_e, bL_e, bD_e, bV_e, i3_eq0, i6_eq0, if_mx, if_mn, if_true, if_false, not_true_eq_false, not_false_eq_true, Int.reduceEq, Int.reduceLT, Int.reduceLE, q, bX12_foldsOver_103, r12_39, r12_41, e1, e2]
      rfl
    · by_cases g : t = j
      · rw [g, up_eq]
      · rw [up_ne (by omega)]; exact k1 t t0 (by omega)
    · rw [up_ne (by omega)]; exact k2 k (by omega)
    · rw [up_ne (by omega)]; exact k3 m k hm) u2 ⟨fun t t0 t1 => by omega, fun k _ => rfl, j3⟩
  obtain ⟨u3, e3, k1, k2, k3⟩ := hl3
  rw [Nat.zero_add] at e3 k1 k2
  have q1 : (h ≤ ((hn : Nat) : Int)) = True := eq_true (by omega)
  have q2 : (h - 1 - ((hn : Nat) : Int) < 0) = True := eq_true (by omega)
  have ua : u1 426 a = h := (i2 426 a (by omega)).trans ha
  have ua3 : u3 426 a = h := (k3 426 a (by omega)).trans ua
  have e1' : jm_R (jm_env d) jmM_X12_foldsOver 10 [some (.ref 411), some (.int (i3 a)), some (.int (i3 b)), some (.int (i3 h)), some (.int (i3 0))] [] (qM X v w T c s) = _ := e1
  have e2' : jm_R (jm_env d) jmM_X12_foldsOver 57 [some (.ref 411), some (.int (i3 a)), some (.int (i3 b)), some (.int (i3 h)), some (.int (i3 (h - 1)))] [] (qM X v u1 T c s) = jm_R (jm_env d) jmM_X12_foldsOver 57 [some (.ref 411), some (.int (i3 a)), some (.int (i3 b)), some (.int (i3 h)), some (.int (i3 (h - 1 - (hn : Nat))))] [] (qM X v u2 T c s) := by
    have e := e2
    rw [show h - 1 - ((0 : Nat) : Int) = h - 1 by omega] at e
    exact e
  have e3' : jm_R (jm_env d) jmM_X12_foldsOver 97 [some (.ref 411), some (.int (i3 a)), some (.int (i3 b)), some (.int (i3 h)), some (.int (i3 0))] [] (qM X v u2 T c s) = _ := e3
  refine ⟨up (up u3 426 a (h + h)) 426 b 0, ?_, fun t t0 t1 => ⟨?_, ?_⟩, ?_, fun m j m1 m2 m3 => ?_⟩
  · rw [eX12_foldsOver (h := hT), bX12_foldsOver_0]
    simp (disch := first | assumption | omega) only [↓reduceIte, i3_add, i3_sub, i3_mul, i3_neg, i6_add, i6_sub, i6_mul, i6_neg, i3_lt, i3_le, i3_eq, i6_lt, i6_eq, i3_div, i6_div, i6_i3, i3_i6, c6_lt, c6_ge, c6_gt, c6_le, c6_eq, i3_ite, i6_ite, ib_0, ib_z, ite_not, i1_0, i0_0, jB_1, jB_0, jB_ib, bI_v, bL_v, bD_v, bV_v, ob_s, ob_i, i3_ofNat, jx_e, bI_e, bL_e, bD_e, bV_e, i3_eq0, i6_eq0, if_mx, if_mn, if_true, if_false, not_true_eq_false, not_false_eq_true, Int.reduceEq, Int.reduceLT, Int.reduceLE, r12_40, a12_40, hb]
    rw [e1', bX12_foldsOver_10]
    simp (disch := first | assumption | omega) only [↓reduceIte, i3_add, i3_sub, i3_mul, i3_neg, i6_add, i6_sub, i6_mul, i6_neg, i3_lt, i3_le, i3_eq, i6_lt, i6_eq, i3_div, i6_div, i6_i3, i3_i6, c6_lt, c6_ge, c6_gt, c6_le, c6_eq, i3_ite, i6_ite, ib_0, ib_z, ite_not, i1_0, i0_0, jB_1, jB_0, jB_ib, bI_v, bL_v, bD_v, bV_v, ob_s, ob_i, i3_ofNat, jx_e, bI_e, bL_e, bD_e, bV_e, i3_eq0, i6_eq0, if_mx, if_mn, if_true, if_false, not_true_eq_false, not_false_eq_true, Int.reduceEq, Int.reduceLT, Int.reduceLE, q1, bX12_foldsOver_47, r12_40, a12_40, ua]
    rw [e2', bX12_foldsOver_57]
    simp (disch := first | assumption | omega) only [↓reduceIte, i3_add, i3_sub, i3_mul, i3_neg, i6_add, i6_sub, i6_mul, i6_neg, i3_lt, i3_le, i3_eq, i6_lt, i6_eq, i3_div, i6_div, i6_i3, i3_i6, c6_lt, c6_ge, c6_gt, c6_le, c6_eq, i3_ite, i6_ite, ib_0, ib_z, ite_not, i1_0, i0_0, jB_1, jB_0, jB_ib, bI_v, bL_v, bD_v, bV_v, ob_s, ob_i, i3_ofNat, jx_e, bI_e, bL_e, bD_e, bV_e, i3_eq0, i6_eq0, if_mx, if_mn, if_true, if_false, not_true_eq_false, not_false_eq_true, Int.reduceEq, Int.reduceLT, Int.reduceLE, q2, bX12_foldsOver_94]
    rw [e3', bX12_foldsOver_97]
    simp (disch := first | assumption | omega) only [↓reduceIte, i3_add, i3_sub, i3_mul, i3_neg, i6_add, i6_sub, i6_mul, i6_neg, i3_lt, i3_le, i3_eq, i6_lt, i6_eq, i3_div, i6_div, i6_i3, i3_i6, c6_lt, c6_ge, c6_gt, c6_le, c6_eq, i3_ite, i6_ite, ib_0, ib_z, ite_not, i1_0, i0_0, jB_1, jB_0, jB_ib, bI_v, bL_v, bD_v, bV_v, ob_s, ob_i, i3_ofNat, jx_e, bI_e, bL_e, bD_e, bV_e, i3_eq0, i6_eq0, if_mx, if_mn, if_true, if_false, not_true_eq_false, not_false_eq_true, Int.reduceEq, Int.reduceLT, Int.reduceLE, q1, bX12_foldsOver_128, r12_40, a12_40, ua3, w12_40]
  · rw [up_ne (by omega), up_ne (by omega)]; exact k1 t t0 (by omega)
  · rw [up_ne (by omega), up_ne (by omega), k2 _ (Or.inr (by omega))]
    exact j1 t (by omega) t1
  · rw [up_ne (by omega), up_eq]; omega
  · rw [up_ne (by omega), up_ne (by omega)]
    by_cases g : m = 425
    · subst g
      rw [k2 j (by omega), j2 j (by omega)]
    · rw [k3 m j g, i2 m j m1]
end FOJ
