-- uses 24.zar 25.obj 26.ops 30.rd 31.re 32.rf 34.gen 35.byt 38.mod 39.mo2 40.mo3 41.bit 43.mo5 44.mo6 46.mo8 51.moe 53.cla 55.clc 62.clj 64.okm 74.cls 93.tka 97.srp a1.srs a2.rfa a3.rfb a4.rfc a5.rfd a6.rfe
/-! The reference: load. -/
section RFF
variable {d : Nat} {X : Nat × (Nat → Int32)} {v w : Nat → Int → Int} {T c s : Nat}
variable {b : Int → Int} {n : Nat}
theorem cX12_aside (hT : 18 ≤ T) : jm_env (d + 1) 212 [.ref 412, .int (i3 0), .ref 413, .int (i3 0)] (qM X v w T c s) = some (.inl none, qM X v (fil w 413 (v 412) 167) T c s) := by
  have h := sX12_copies (d := d) (a := 412) (b := 413) (fr := 0) (to := 0) (fun k => qM X v (fil w 413 (v 412) k) T c s) (v 412)
    (fun k hk => by rw [Int.zero_add, a12_0 hT (by omega) (by omega)])
    (fun k hk => by
      show _ = some (qM X v (fil w 413 (v 412) ((k : Int) + 1)) T c s)
      rw [Int.zero_add, w12_1 hT (by omega) (by omega), fil_up (by omega) rfl])
  rw [show fil w 413 (v 412) ((0 : Nat) : Int) = w from fil_0] at h
  exact h
theorem cX12_back (hT : 18 ≤ T) : jm_env (d + 1) 212 [.ref 413, .int (i3 0), .ref 412, .int (i3 0)] (qM X v w T c s) = some (.inl none, qM X (fil v 412 (w 413) 167) w T c s) := by
  have h := sX12_copies (d := d) (a := 413) (b := 412) (fr := 0) (to := 0) (fun k => qM X (fil v 412 (w 413) k) w T c s) (w 413)
    (fun k hk => by rw [Int.zero_add, a12_1 hT (by omega) (by omega)])
    (fun k hk => by
      show _ = some (qM X (fil v 412 (w 413) ((k : Int) + 1)) w T c s)
      rw [Int.zero_add, w12_0 hT (by omega) (by omega), fil_up (by omega) rfl])
  rw [show fil v 412 (w 413) ((0 : Nat) : Int) = v from fil_0] at h
  exact h
/-- the numbers that a setup is read into -/
def ldZ (v : Nat → Int → Int) : Nat → Int → Int := fil (up v 411 16 0) 412 (fun _ => 0) 167
theorem ldZ_0 : ∀ k : Int, 0 ≤ k → k < 167 → ldZ v 412 k = 0 := fun k k0 k1 => fil_in k0 k1
/-- what load leaves, when a setup is none, and when it is one -/
def ldE (v' v : Nat → Int → Int) (e : Int × Nat) : Prop := eqS v' v ∧ v' 411 16 = 0 ∧ v' 411 24 = e.1 ∧ v' 411 25 = e.2 ∧ (∀ m : Nat, m ≠ 411 → m ≠ 412 → v' m = v m) ∧ ∀ k : Int, k ≠ 16 → k ≠ 24 → k ≠ 25 → v' 411 k = v 411 k
def ldO (v' v : Nat → Int → Int) (u : Nat → Int → Int) : Prop := eqS v' (arU u) ∧ v' 411 16 = 0 ∧ v' 411 24 = 0 ∧ v' 411 25 = -1 ∧ v' 411 7 = 0 ∧ (v' 417 0 = 0 ∧ v' 417 1 = 0) ∧ (∀ k : Int, 0 ≤ k → k < 6 → v' 418 k = 0) ∧ (∀ m : Nat, m ≠ 411 → m ≠ 412 → m ≠ 417 → m ≠ 418 → v' m = v m) ∧ ∀ k : Int, k ≠ 7 → k ≠ 16 → k ≠ 24 → k ≠ 25 → v' 411 k = v 411 k
theorem mX12_load (hT : 20 ≤ T) (hT2 : T < 800000) (h : okB b n) (h16 : v 411 16 = n) (h420 : ∀ k : Int, 0 ≤ k → k < n → v 420 k = b k) :
    (∀ e, suP b (ldZ v) = .inl e → ∃ v' w' k, jm_env (d + 11) 261 [.ref 411] (qM X v w T c s) = some (.inl (some (.int (i3 (-1)))), qM X v' w' (T + k) (c + k) (s + 10 * k)) ∧ k ≤ 6 ∧ ldE v' v e) ∧
    (∀ u, suP b (ldZ v) = .inr u → ∃ v' w' k, jm_env (d + 11) 261 [.ref 411] (qM X v w T c s) = some (.inl (some (.int (i3 (u.1 412 0)))), qM X v' w' (T + k) (c + k) (s + 10 * k)) ∧ k ≤ 6 ∧ ldO v' v u.1) := by
  have hT' : 18 ≤ T := by omega
  obtain ⟨w0, e0, h21, hw0⟩ := qM_nm (X := X) (v := v) (w := w) (T := T) (c := c) (s := s) hT'
  rw [e0]
  obtain ⟨w1, e1, htx, hw1⟩ := sX12_takesText (d := d + 9) (X := X) (v := v) (w := up w0 411 8 0) (T := T) (c := c) (s := s) hT' h h16 h420
  have hz := ch_n (fun k : Nat => jm_R (jm_env (d + 10)) jmM_X12_load 24 [some (.ref 411), some (.int (i3 k))] [] (qM X (fil (up v 411 16 0) 412 (fun _ => 0) k) (fil w1 413 (up v 411 16 0 412) 167) T c s)) 167 (fun k hk => by
    show jm_R _ _ _ [_, some (.int (i3 k))] _ _ = jm_R _ _ _ _ _ _
    rw [bX12_load_24]
    simp (disch := first | assumption | omega) only [p12_8, r12_0, a12_0, w12_0, n12_0, r12_1, a12_1, w12_1, n12_1, g12_22, p12_7, r12_5, a12_5, w12_5, n12_5, r12_6, a12_6, w12_6, n12_6, i3_add, i3_sub, i3_mul, i3_neg, i6_add, i6_sub, i6_mul, i6_neg, i3_lt, i3_le, i3_eq, i6_lt, i6_eq, i3_div, i6_div, i6_i3, i3_i6, c6_lt, c6_ge, c6_gt, c6_le, c6_eq, i3_ite, i6_ite, ib_0, ib_z, ite_not, i1_0, i0_0, jB_1, jB_0, jB_ib, bI_v, bL_v, bD_v, bV_v, ob_s, ob_i, i3_ofNat, jx_e, bI_e, bL_e, bD_e, bV_e, i3_eq0, i6_eq0, if_mx, if_mn, if_true, if_false, not_true_eq_false, not_false_eq_true, Int.reduceEq, Int.reduceLT, Int.reduceLE, bX12_load_31, fil_up]
    rw [if_neg (by omega)]
    rfl)
  rw [show ((0 : Nat) : Int) = 0 from rfl, fil_0] at hz
  have e2 := cX12_aside (d := d + 9) (X := X) (v := up v 411 16 0) (w := w1) (T := T) (c := c) (s := s) hT'
  have htx2 : txW (fil w1 413 (up v 411 16 0 412) 167) b n := ⟨htx.1, by rw [fil_b (by omega)]; exact htx.2.1, fun k k0 k1 => by rw [fil_b (by omega)]; exact htx.2.2 k k0 k1⟩
  have h212 : isI (fil w1 413 (up v 411 16 0 412) 167 411 21) := by
    rw [fil_b (by omega), hw1 411 21 (by omega) (by omega), up_ne (by omega)]
    exact h21
  obtain ⟨w2, e3, hg, hf2⟩ := sX12_starts (d := d + 6) (X := X) (v := ldZ v) (T := T) (c := c) (s := s) hT' htx2 h212
  obtain ⟨r1, r2⟩ := sX12_setup (d := d) (X := X) (v := ldZ v) (w := w2) (T := T) (c := c) (s := s) hT hT2 hg ldZ_0
  have head : jm_env (d + 11) 261 [.ref 411] (qM X v w0 T c s) = (jm_env (d + 10) 258 [.ref 411] (qM X (ldZ v) w2 T c s)).bind (jm_bV (fun m2 => (jm_env (d + 10) 260 [.ref 411] m2).bind (jm_bV (fun m3 => (jm_gI m3 411 12 22).bind fun v4 => if v4 = i3 0 then jm_R (jm_env (d + 10)) jmM_X12_load 78 [some (.ref 411), some (.int (i3 167))] [] m3 else jm_R (jm_env (d + 10)) jmM_X12_load 63 [some (.ref 411), some (.int (i3 167))] [] m3) jm_x)) jm_x) := by
    rw [eX12_load (h := hT'), bX12_load_0]
    simp (disch := first | assumption | omega) only [p12_8, r12_0, a12_0, w12_0, n12_0, r12_1, a12_1, w12_1, n12_1, g12_22, p12_7, r12_5, a12_5, w12_5, n12_5, r12_6, a12_6, w12_6, n12_6, i3_add, i3_sub, i3_mul, i3_neg, i6_add, i6_sub, i6_mul, i6_neg, i3_lt, i3_le, i3_eq, i6_lt, i6_eq, i3_div, i6_div, i6_i3, i3_i6, c6_lt, c6_ge, c6_gt, c6_le, c6_eq, i3_ite, i6_ite, ib_0, ib_z, ite_not, i1_0, i0_0, jB_1, jB_0, jB_ib, bI_v, bL_v, bD_v, bV_v, ob_s, ob_i, i3_ofNat, jx_e, bI_e, bL_e, bD_e, bV_e, i3_eq0, i6_eq0, if_mx, if_mn, if_true, if_false, not_true_eq_false, not_false_eq_true, Int.reduceEq, Int.reduceLT, Int.reduceLE, p12_8, e1, e2]
    refine hz.trans ?_
    show jm_R _ _ _ [_, some (.int (i3 167))] _ _ = _
    rw [bX12_load_24]
    simp (disch := first | assumption | omega) only [i3_add, i3_sub, i3_mul, i3_neg, i6_add, i6_sub, i6_mul, i6_neg, i3_lt, i3_le, i3_eq, i6_lt, i6_eq, i3_div, i6_div, i6_i3, i3_i6, c6_lt, c6_ge, c6_gt, c6_le, c6_eq, i3_ite, i6_ite, ib_0, ib_z, ite_not, i1_0, i0_0, jB_1, jB_0, jB_ib, bI_v, bL_v, bD_v, bV_v, ob_s, ob_i, i3_ofNat, jx_e, bI_e, bL_e, bD_e, bV_e, i3_eq0, i6_eq0, if_mx, if_mn, if_true, if_false, not_true_eq_false, not_false_eq_true, Int.reduceEq, Int.reduceLT, Int.reduceLE, bX12_load_44]
    show ((jm_env (d + 10) 249 [.ref 411] (qM X (ldZ v) (fil w1 413 (up v 411 16 0 412) 167) T c s)).bind _) = _
    rw [e3]
    rfl
  have h413 : ∀ w' : Nat → Int → Int, (∀ (m : Nat) (k : Int), m < 411 + T → (m ≠ 411 ∨ (k ≠ 9 ∧ k ≠ 10 ∧ (k < 18 ∨ (23 < k ∧ k ≠ 26)))) → w' m k = w2 m k) → ∀ k : Int, 0 ≤ k → k < 167 → w' 413 k = v 412 k := fun w' hw k k0 k1 => by
    rw [hw 413 k (by omega) (by omega), hf2 413 k (by omega), fil_in k0 k1, up_b (by omega)]
  refine ⟨fun e he => ?_, fun u hu => ?_⟩
  · obtain ⟨v', w', k, x1, x2, x3, x4, x5⟩ := r1 e he
    have hTk : 18 ≤ T + k := by omega
    have e5 := sX12_tellsError_0 (d := d + 9) (X := X) (v := v') (T := T + k) (c := c + k) (s := s + 10 * k) hTk x2
    obtain ⟨h22, c1, c4⟩ := BD_b x2
    have hq : (e.1 = 0) = False := eq_false (by omega)
    have e6 := cX12_back (d := d + 9) (X := X) (v := up (up v' 411 24 e.1) 411 25 e.2) (w := w') (T := T + k) (c := c + k) (s := s + 10 * k) hTk
    have h411 : ∀ j : Int, v' 411 j = up v 411 16 0 411 j := fun j => by rw [x3 411 (by omega)]; unfold ldZ; rw [fil_b (by omega)]
    refine ⟨fil (up (up v' 411 24 e.1) 411 25 e.2) 412 (w' 413) 167, w', k, ?_, x4, ?_, ?_, ?_, ?_, fun m m1 m2 => ?_, fun j j1 j2 j3 => ?_⟩
    · rw [head]
      simp (disch := first | assumption | omega) only [↓reduceIte, x1, i3_add, i3_sub, i3_mul, i3_neg, i6_add, i6_sub, i6_mul, i6_neg, i3_lt, i3_le, i3_eq, i6_lt, i6_eq, i3_div, i6_div, i6_i3, i3_i6, c6_lt, c6_ge, c6_gt, c6_le, c6_eq, i3_ite, i6_ite, ib_0, ib_z, ite_not, i1_0, i0_0, jB_1, jB_0, jB_ib, bI_v, bL_v, bD_v, bV_v, ob_s, ob_i, i3_ofNat, jx_e, bI_e, bL_e, bD_e, bV_e, i3_eq0, i6_eq0, if_mx, if_mn, if_true, if_false, not_true_eq_false, not_false_eq_true, Int.reduceEq, Int.reduceLT, Int.reduceLE, e5, g12_22, h22, hq, bX12_load_63, r12_0, r12_1, e6]
    · intro j j0 j1
      rw [fil_in j0 j1]
      exact h413 w' x5 j j0 j1
    · rw [fil_b (by omega), up_ne (by omega), up_ne (by omega), h411, up_eq]
    · rw [fil_b (by omega), up_ne (by omega), up_eq]
    · rw [fil_b (by omega), up_eq]
    · rw [fil_b m2, up_b m1, up_b m1, x3 m m2]
      unfold ldZ
      rw [fil_b m2, up_b m1]
    · rw [fil_b (by omega), up_ne (by omega), up_ne (by omega), h411, up_ne (by omega)]
  · obtain ⟨w', k, x1, x2, x3, x4, x5⟩ := r2 u hu
    have hTk : 18 ≤ T + k := by omega
    obtain ⟨hs, -⟩ := suP_s h ldZ_0 hu
    have hb4 := areaG_b hs.1 (u.1 412 0).toNat (by have := hs.1.1; omega)
    have e5 := sX12_tellsError_1 (d := d + 9) (X := X) (v := u.1) (T := T + k) (c := c + k) (s := s + 10 * k) hTk x2.2
    obtain ⟨p, e6⟩ := sX12_areaOfAll_p (d := d + 6) (X := X) (v := up (up u.1 411 24 0) 411 25 (-1)) (w := w') (T := T + k) (c := c + k) (s := s + 10 * k) hTk hs.1
    have e6 : jm_env (d + 10) 223 [.ref 411] (qM X (up (up u.1 411 24 0) 411 25 (-1)) w' (T + k) (c + k) (s + 10 * k)) = some (.inl (some (.long (i6 (fo2 (areaG u.1) 0 (u.1 412 0).toNat)))), qM X (up (up u.1 411 24 0) 411 25 (-1)) (fw w' p) (T + k) (c + k) (s + 10 * k)) := e6
    obtain ⟨V, hV⟩ : ∃ V, V = up (up (up (up (up (up u.1 411 24 0) 411 25 (-1)) 412 4 (fo2 (areaG u.1) 0 (u.1 412 0).toNat)) 411 7 0) 417 0 0) 417 1 0 := ⟨_, rfl⟩
    have hr := ch_n (fun j : Nat => jm_R (jm_env (d + 10)) jmM_X12_load 109 [some (.ref 411), some (.int (i3 j))] [] (qM X (fil V 418 (fun _ => 0) j) (fw w' p) (T + k) (c + k) (s + 10 * k))) 6 (fun j hj => by
      show jm_R _ _ _ [_, some (.int (i3 j))] _ _ = jm_R _ _ _ _ _ _
      rw [bX12_load_109]
      simp (disch := first | assumption | omega) only [p12_8, r12_0, a12_0, w12_0, n12_0, r12_1, a12_1, w12_1, n12_1, g12_22, p12_7, r12_5, a12_5, w12_5, n12_5, r12_6, a12_6, w12_6, n12_6, i3_add, i3_sub, i3_mul, i3_neg, i6_add, i6_sub, i6_mul, i6_neg, i3_lt, i3_le, i3_eq, i6_lt, i6_eq, i3_div, i6_div, i6_i3, i3_i6, c6_lt, c6_ge, c6_gt, c6_le, c6_eq, i3_ite, i6_ite, ib_0, ib_z, ite_not, i1_0, i0_0, jB_1, jB_0, jB_ib, bI_v, bL_v, bD_v, bV_v, ob_s, ob_i, i3_ofNat, jx_e, bI_e, bL_e, bD_e, bV_e, i3_eq0, i6_eq0, if_mx, if_mn, if_true, if_false, not_true_eq_false, not_false_eq_true, Int.reduceEq, Int.reduceLT, Int.reduceLE, bX12_load_115, fil_up]
      rw [if_neg (by omega)]
      rfl)
    rw [show ((0 : Nat) : Int) = 0 from rfl, fil_0] at hr
    have h411 : ∀ j : Int, u.1 411 j = up v 411 16 0 411 j := fun j => by rw [x3 411 (by omega)]; unfold ldZ; rw [fil_b (by omega)]
    have hV411 : ∀ j : Int, V 411 j = if j = 7 then 0 else if j = 25 then -1 else if j = 24 then 0 else u.1 411 j := fun j => by
      rw [hV, up_b (by omega), up_b (by omega)]
      by_cases q7 : j = 7
      · rw [q7, up_eq, if_pos rfl]
      · rw [if_neg q7, up_ne (by omega), up_b (by omega)]
        by_cases q25 : j = 25
        · rw [q25, up_eq, if_pos rfl]
        · rw [if_neg q25, up_ne (by omega)]
          by_cases q24 : j = 24
          · rw [q24, up_eq, if_pos rfl]
          · rw [if_neg q24, up_ne (by omega)]
    have hV412 : ∀ j : Int, V 412 j = arU u.1 412 j := fun j => by
      rw [hV, up_b (by omega), up_b (by omega), up_b (by omega)]
      unfold arU
      by_cases q4 : j = 4
      · rw [q4, up_eq, up_eq]
      · rw [up_ne (by omega), up_ne (by omega), up_ne (by omega), up_ne (by omega)]
    have hc0 : V 412 0 = u.1 412 0 := by rw [hV412]; unfold arU; exact up_ne (by omega)
    refine ⟨fil V 418 (fun _ => 0) 6, fw w' p, k, ?_, x4, ?_, ?_, ?_, ?_, ?_, ⟨?_, ?_⟩, fun j j0 j1 => fil_in j0 j1, fun m m1 m2 m3 m4 => ?_, fun j j1 j2 j3 j4 => ?_⟩
    · rw [head]
      simp (disch := first | assumption | omega) only [↓reduceIte, x1, i3_add, i3_sub, i3_mul, i3_neg, i6_add, i6_sub, i6_mul, i6_neg, i3_lt, i3_le, i3_eq, i6_lt, i6_eq, i3_div, i6_div, i6_i3, i3_i6, c6_lt, c6_ge, c6_gt, c6_le, c6_eq, i3_ite, i6_ite, ib_0, ib_z, ite_not, i1_0, i0_0, jB_1, jB_0, jB_ib, bI_v, bL_v, bD_v, bV_v, ob_s, ob_i, i3_ofNat, jx_e, bI_e, bL_e, bD_e, bV_e, i3_eq0, i6_eq0, if_mx, if_mn, if_true, if_false, not_true_eq_false, not_false_eq_true, Int.reduceEq, Int.reduceLT, Int.reduceLE, e5, g12_22, x2.2, bX12_load_78, r12_0, e6, w12_0, p12_7, r12_5, w12_5]
      rw [← hV]
      refine hr.trans ?_
      show jm_R _ _ _ [_, some (.int (i3 6))] _ _ = _
      rw [bX12_load_109]
      simp (disch := first | assumption | omega) only [p12_8, r12_0, a12_0, w12_0, n12_0, r12_1, a12_1, w12_1, n12_1, g12_22, p12_7, r12_5, a12_5, w12_5, n12_5, r12_6, a12_6, w12_6, n12_6, i3_add, i3_sub, i3_mul, i3_neg, i6_add, i6_sub, i6_mul, i6_neg, i3_lt, i3_le, i3_eq, i6_lt, i6_eq, i3_div, i6_div, i6_i3, i3_i6, c6_lt, c6_ge, c6_gt, c6_le, c6_eq, i3_ite, i6_ite, ib_0, ib_z, ite_not, i1_0, i0_0, jB_1, jB_0, jB_ib, bI_v, bL_v, bD_v, bV_v, ob_s, ob_i, i3_ofNat, jx_e, bI_e, bL_e, bD_e, bV_e, i3_eq0, i6_eq0, if_mx, if_mn, if_true, if_false, not_true_eq_false, not_false_eq_true, Int.reduceEq, Int.reduceLT, Int.reduceLE, bX12_load_128, fil_b, hc0]
      rfl
    · intro j j0 j1
      rw [fil_b (by omega)]
      exact hV412 j
    · rw [fil_b (by omega), hV411, if_neg (by omega), if_neg (by omega), if_neg (by omega), h411, up_eq]
    · rw [fil_b (by omega), hV411, if_neg (by omega), if_neg (by omega), if_pos rfl]
    · rw [fil_b (by omega), hV411, if_neg (by omega), if_pos rfl]
    · rw [fil_b (by omega), hV411, if_pos rfl]
    · rw [fil_b (by omega), hV, up_ne (by omega), up_eq]
    · rw [fil_b (by omega), hV, up_eq]
    · rw [fil_b m4, hV, up_b m3, up_b m3, up_b m1, up_b m2, up_b m1, up_b m1, x3 m m2]
      unfold ldZ
      rw [fil_b m2, up_b m1]
    · rw [fil_b (by omega), hV411, if_neg j1, if_neg j4, if_neg j3, h411, up_ne (by omega)]
end RFF
