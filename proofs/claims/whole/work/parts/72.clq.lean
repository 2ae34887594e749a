-- uses 24.zar 25.obj 26.ops 27.ra 29.rc 34.gen 35.byt 36.ser 37.lnd 38.mod 39.mo2 40.mo3 44.mo6 45.mo7 46.mo8 47.mo9 48.moa 53.cla 58.clf 61.cli 62.clj 63.clk 64.okm 65.cll 66.clm
/-! The class: undo, saved states. -/
def sl3 (μ : Nat → Int → Int) (j : Int) : Nat → Int → Int := fun _ k => μ 416 (167 * j + k)
def SLr (v μ : Nat → Int → Int) (n : Int) : Prop := ∀ j : Int, 0 ≤ j → j < 2 → v 337 j = μ 417 j ∧ (μ 417 j = 0 ∨ μ 417 j = 1) ∧ (μ 417 j = 1 → lr v (347 + 32 * j.toNat) (sl3 μ j) ∧ okM (sl3 μ j) n)
section CLQ
variable {d : Nat} {X : Nat × (Nat → Int32)} {v w : Nat → Int → Int} {T c s : Nat}
variable {μ : Nat → Int → Int} {m : Int}
theorem SLr_fr {v' μ' : Nat → Int → Int} (h : SLr v μ m) (hf : ∀ k : Nat, 337 ≤ k → k ≠ 338 → k < 411 → (k < 339 ∨ 347 ≤ k) → v' k = v k) (h6 : μ' 416 = μ 416) (h7 : μ' 417 = μ 417) {m' : Int} (hm : m ≤ m') : SLr v' μ' m' := by
  intro j j0 j1
  obtain ⟨a, b, c⟩ := h j j0 j1
  have e : sl3 μ' j = sl3 μ j := by unfold sl3; rw [h6]
  rw [hf 337 (by omega) (by omega) (by omega) (by omega), h7, e]
  refine ⟨a, b, fun g => ?_⟩
  obtain ⟨hl, ho⟩ := c g
  exact ⟨lr_fr (fun n n0 n1 => hf n (by omega) (by omega) (by omega) (by omega)) ho.1.2.1 hl, okM_le ho hm⟩
theorem cX11_undo (h : LQ v μ m) : ∃ v', jm_env (d + 4) 188 [.ref 0] (qM X v w T c s) = some (.inl (some (.int (i3 (if μ 411 7 = 0 then -1 else μ 411 7 - 1)))), qM X v' w T c s) ∧ LQ v' (if μ 411 7 = 0 then μ else unV μ) m ∧ frL v' v := by
  obtain ⟨hl, ho, ⟨⟨h1, h2, h3, h4, h5⟩, hj⟩, hr⟩ := id h
  have hc5 := ho.1.2.1
  by_cases q : μ 411 7 = 0
  · refine ⟨v, ?_, by rw [if_pos q]; exact h, frL_id⟩
    have e : jm_env (d + 3) 57 [.ref 78, .ref 14] (qM X v w T c s) = some (.inl (some (.int (i3 (0)))), (qM X v w T c s)) := by
      simp (disch := first | assumption | omega) only [↓reduceIte, eX3_giveBack, bX3_giveBack_0, bX3_giveBack_7, g3_2, g3_1, r3_0, q3_0, p3_1, p3_2, i3_add, i3_sub, i3_mul, i3_neg, i6_add, i6_sub, i6_mul, i6_neg, i3_lt, i3_le, i3_eq, i6_lt, i6_eq, i3_div, i6_div, i6_i3, i3_i6, c6_lt, c6_ge, c6_gt, c6_le, c6_eq, i3_ite, i6_ite, ib_0, ib_z, ite_not, i1_0, i0_0, jB_1, jB_0, jB_ib, bI_v, bL_v, bD_v, bV_v, ob_s, ob_i, i3_ofNat, jx_e, bI_e, bL_e, bD_e, bV_e, i3_eq0, i6_eq0, if_mx, if_mn, if_true, if_false, not_true_eq_false, not_false_eq_true, Int.reduceEq, Int.reduceLT, Int.reduceLE, h1, q]
    simp (disch := first | assumption | omega) only [↓reduceIte, eX11_undo, bX11_undo_0, bX11_undo_14, bX11_undo_24, bX11_undo_25, r11_7, r11_5, g3_2, i3_add, i3_sub, i3_mul, i3_neg, i6_add, i6_sub, i6_mul, i6_neg, i3_lt, i3_le, i3_eq, i6_lt, i6_eq, i3_div, i6_div, i6_i3, i3_i6, c6_lt, c6_ge, c6_gt, c6_le, c6_eq, i3_ite, i6_ite, ib_0, ib_z, ite_not, i1_0, i0_0, jB_1, jB_0, jB_ib, bI_v, bL_v, bD_v, bV_v, ob_s, ob_i, i3_ofNat, jx_e, bI_e, bL_e, bD_e, bV_e, i3_eq0, i6_eq0, if_mx, if_mn, if_true, if_false, not_true_eq_false, not_false_eq_true, Int.reduceEq, Int.reduceLT, Int.reduceLE, e, q]
  · obtain ⟨hlr, hor⟩ := hj (μ 411 7 - 1) (by omega) (by omega)
    have o5 := hor.1.2.1
    have o3 := hor.2.2.2.1.2.1
    obtain ⟨y, hy⟩ : ∃ y : Nat, (v 78 1 - 1) % 8 = y := ⟨((v 78 1 - 1) % 8).toNat, (Int.toNat_of_nonneg (by omega)).symm⟩
    have hy8 : y < 8 := by omega
    have ly := oLnd_h hy8
    have l14 := oLnd_14
    have ei : ((v 78 1 - μ 411 7 + (μ 411 7 - 1)) % 8).toNat = y := by omega
    rw [ei] at hlr
    have ho2 : v (80 + 32 * y) 2 = (rw3 μ (μ 411 7 - 1)) 412 0 := hlr.1.2.2.1
    have hg0 := hor.1.1
    obtain ⟨v1, e2, hlc, hf⟩ := tX4_copyFrom (d := d) (X := X) (v := v) (w := w) (T := T) (c := c) (s := s) l14 ly (by omega) (by omega) (by omega)
    have efm : jm_fm (i3 (v 78 1 - 1)) (i3 8) = i3 (y : Int) := by rw [i3_fm8 (by omega) (by omega), hy]
    have em : v1 78 2 = μ 411 7 := (hf.k (by omega) 2).trans h1
    have e3 : jm_env (d + 3) 57 [.ref 78, .ref 14] (qM X v w T c s) = some (.inl (some (.int (i3 (1)))), qM X (up (up v1 78 1 (y : Int)) 78 2 (μ 411 7 - 1)) w T c s) := by
      have hq : (μ 411 7 = 0) = False := eq_false q
      simp (disch := first | assumption | omega) only [↓reduceIte, eX3_giveBack, bX3_giveBack_0, bX3_giveBack_7, bX3_giveBack_9, g3_2, g3_1, r3_0, q3_0, p3_1, p3_2, i3_add, i3_sub, i3_mul, i3_neg, i6_add, i6_sub, i6_mul, i6_neg, i3_lt, i3_le, i3_eq, i6_lt, i6_eq, i3_div, i6_div, i6_i3, i3_i6, c6_lt, c6_ge, c6_gt, c6_le, c6_eq, i3_ite, i6_ite, ib_0, ib_z, ite_not, i1_0, i0_0, jB_1, jB_0, jB_ib, bI_v, bL_v, bD_v, bV_v, ob_s, ob_i, i3_ofNat, jx_e, bI_e, bL_e, bD_e, bV_e, i3_eq0, i6_eq0, if_mx, if_mn, if_true, if_false, not_true_eq_false, not_false_eq_true, Int.reduceEq, Int.reduceLT, Int.reduceLE, h1, hq, efm, em, e2, up_ne, Int.toNat_natCast]
    obtain ⟨v2, hvd⟩ : ∃ v2, v2 = up (up v1 78 1 (y : Int)) 78 2 (μ 411 7 - 1) := ⟨_, rfl⟩
    rw [← hvd] at e3
    have hv2 : v2 78 2 = μ 411 7 - 1 := by rw [hvd, up_eq]
    have e78 : v2 78 1 = y := by rw [hvd, up_ne (by omega), up_eq]
    have hvb : ∀ n : Nat, n ≠ 78 → v2 n = v1 n := fun n hn => by rw [hvd, up_b (by omega), up_b (by omega)]
    have hE : eqS (unV μ) (rw3 μ (μ 411 7 - 1)) := fun k k0 k1 => by
      unfold unV
      rw [fil_in k0 k1]
      rfl
    have hu7 : unV μ 411 7 = μ 411 7 - 1 := by unfold unV; rw [fil_ne (by omega), up_eq]
    have hu415 : unV μ 415 = μ 415 := by unfold unV; rw [fil_b (by omega), up_b (by omega)]
    have hu418 : unV μ 418 = μ 418 := by unfold unV; rw [fil_b (by omega), up_b (by omega)]
    refine ⟨v2, ?_, ?_, fun k hk => ?_⟩
    · rw [if_neg q]
      simp (disch := first | assumption | omega) only [eX11_undo, bX11_undo_0, bX11_undo_14, bX11_undo_24, bX11_undo_25, r11_7, r11_5, g3_2, i3_add, i3_sub, i3_mul, i3_neg, i6_add, i6_sub, i6_mul, i6_neg, i3_lt, i3_le, i3_eq, i6_lt, i6_eq, i3_div, i6_div, i6_i3, i3_i6, c6_lt, c6_ge, c6_gt, c6_le, c6_eq, i3_ite, i6_ite, ib_0, ib_z, ite_not, i1_0, i0_0, jB_1, jB_0, jB_ib, bI_v, bL_v, bD_v, bV_v, ob_s, ob_i, i3_ofNat, jx_e, bI_e, bL_e, bD_e, bV_e, i3_eq0, i6_eq0, if_mx, if_mn, if_true, if_false, not_true_eq_false, not_false_eq_true, Int.reduceEq, Int.reduceLT, Int.reduceLE, e3, hv2]
    · rw [if_neg q]
      refine ⟨hE.lr o5 o3 (lr_fr (fun n n0 n1 => hvb n (by omega)) o5 (lr_cp hlc hlr o3)), hE.ok hor, ?_, fun k k0 k1 => ?_⟩
      · refine ⟨⟨by rw [hu7]; exact hv2, by omega, by omega, by omega, by omega⟩, fun j j0 j1 => ?_⟩
        rw [hu7] at j1
        obtain ⟨a, b⟩ := hj j j0 (by omega)
        have er : rw3 (unV μ) j = rw3 μ j := by unfold rw3; rw [hu415]
        rw [er, hu7, e78, show (((y : Int) - (μ 411 7 - 1) + j) % 8).toNat = ((v 78 1 - μ 411 7 + j) % 8).toNat by omega]
        refine ⟨lr_fr (fun n n0 n1 => ?_) b.1.2.1 a, b⟩
        rw [hvb n (by omega), hf n (by omega)]
      · rw [hu418, hvb 338 (by omega), hf 338 (by omega)]
        exact hr k k0 k1
    · rw [hvb k (by omega), hf k (by omega)]
theorem cX11_save (h : LQ v μ m) (hS : SLr v μ m) {q : Int} (hq : isI q) : cW (jm_env (d + 3) 189 [.ref 0, .int (i3 q)] (qM X v w T c s)) X v T c s eIB eIB (cd1 (0 ≤ q ∧ q < 2)) (μ 412 0) (fun v' => LQ v' (svV μ q) m ∧ SLr v' (svV μ q) m ∧ ∀ k : Nat, (k < 337 ∨ (338 ≤ k ∧ k < 347) ∨ 411 ≤ k) → v' k = v k) := by
  obtain ⟨q0, q1⟩ := hq
  by_cases g : 0 ≤ q ∧ q < 2
  · obtain ⟨g0, g1⟩ := id g
    rw [cd1_0 g]
    apply cW_0
    obtain ⟨hl, ho, hh, hr⟩ := id h
    have hc0 := ho.1.1
    have hc5 := ho.1.2.1
    have hp3 := ho.2.2.2.1.2.1
    have l2 := hl.1.2.2.1
    obtain ⟨q', rfl⟩ : ∃ q' : Nat, q = q' := ⟨q.toNat, (Int.toNat_of_nonneg g0).symm⟩
    have lq := oLnd_s (i := q') (by omega)
    have l14 := oLnd_14
    obtain ⟨v1, e1, hlc, hf⟩ := tX4_copyFrom (d := d) (X := X) (v := v) (w := w) (T := T) (c := c) (s := s) lq l14 (by omega) (by omega) (by omega)
    have e14 : up v1 337 (q' : Int) 1 14 2 = μ 412 0 := by rw [up_ne (by omega), hf.k (by omega), l2]
    have hsv : ∀ k : Nat, k ≠ 416 → k ≠ 417 → svV μ q' k = μ k := fun k k0 k1 => by unfold svV; rw [up_b k1, flo_b k0]
    have hE : eqS (svV μ q') μ := fun k _ _ => by rw [hsv 412 (by omega) (by omega)]
    refine ⟨up v1 337 (q' : Int) 1, w, ?_, ⟨?_, hE.ok ho, ?_, fun k k0 k1 => ?_⟩, fun j j0 j1 => ?_, fun k hk => ?_⟩
    · simp (disch := first | assumption | omega) only [eX11_save, bX11_save_0, r11_8, q11_8, r11_5, r11_9, a11_9, w11_9, n11_9, g4_2, i3_add, i3_sub, i3_mul, i3_neg, i6_add, i6_sub, i6_mul, i6_neg, i3_lt, i3_le, i3_eq, i6_lt, i6_eq, i3_div, i6_div, i6_i3, i3_i6, c6_lt, c6_ge, c6_gt, c6_le, c6_eq, i3_ite, i6_ite, ib_0, ib_z, ite_not, i1_0, i0_0, jB_1, jB_0, jB_ib, bI_v, bL_v, bD_v, bV_v, ob_s, ob_i, i3_ofNat, jx_e, bI_e, bL_e, bD_e, bV_e, i3_eq0, i6_eq0, if_mx, if_mn, if_true, if_false, not_true_eq_false, not_false_eq_true, Int.reduceEq, Int.reduceLT, Int.reduceLE, tX11_requireSlot_0, Int.toNat_natCast, e1, e14]
    · exact hE.lr hc5 hp3 (lr_fr (fun n n0 n1 => by rw [up_b (by omega), hf n (by omega)]) hc5 hl)
    · exact hR_fr (hR_cg hh (by rw [hsv 411 (by omega) (by omega)]) (hsv 415 (by omega) (by omega))) (fun n n0 n1 => by rw [up_b (by omega), hf n (by omega)])
    · rw [up_ne (by omega), hf 338 (by omega), hsv 418 (by omega) (by omega)]
      exact hr k k0 k1
    · obtain ⟨a, b, c'⟩ := hS j j0 j1
      by_cases e : j = q'
      · subst e
        rw [up_eq, Int.toNat_natCast]
        have e417 : svV μ q' 417 q' = 1 := up_eq
        rw [e417]
        refine ⟨rfl, Or.inr rfl, fun _ => ?_⟩
        have hE2 : eqS (sl3 (svV μ q') q') μ := fun k k0 k1 => by
          show svV μ q' 416 (167 * (q' : Int) + k) = μ 412 k
          unfold svV
          rw [up_ne (by omega), flo_in (by omega) (by omega), show 167 * (q' : Int) + k - 167 * q' = k by omega]
        exact ⟨hE2.lr hc5 hp3 (lr_fr (fun n n0 n1 => up_b (by omega)) hc5 (lr_cp hlc hl hp3)), hE2.ok ho⟩
      · have e417 : svV μ q' 417 j = μ 417 j := by unfold svV; rw [up_ne (by omega), flo_ne (by omega)]
        rw [up_ne (by omega), hf.k (by omega), e417]
        refine ⟨a, b, fun g => ?_⟩
        obtain ⟨hl2, ho2⟩ := c' g
        have hE2 : eqS (sl3 (svV μ q') j) (sl3 μ j) := fun k k0 k1 => by
          show svV μ q' 416 (167 * j + k) = μ 416 (167 * j + k)
          unfold svV
          rw [up_ne (by omega), flo_ne (by omega)]
        have o5 := ho2.1.2.1
        have o3 := ho2.2.2.2.1.2.1
        exact ⟨hE2.lr o5 o3 (lr_fr (fun n n0 n1 => by rw [up_b (by omega), hf n (by omega)]) o5 hl2), hE2.ok ho2⟩
    · rw [up_b (by omega), hf k (by omega)]
  · rw [cd1_1 g]
    apply cW_1
    simp (disch := first | assumption | omega) only [eX11_save, bX11_save_0, r11_8, q11_8, r11_5, r11_9, a11_9, w11_9, n11_9, g4_2, i3_add, i3_sub, i3_mul, i3_neg, i6_add, i6_sub, i6_mul, i6_neg, i3_lt, i3_le, i3_eq, i6_lt, i6_eq, i3_div, i6_div, i6_i3, i3_i6, c6_lt, c6_ge, c6_gt, c6_le, c6_eq, i3_ite, i6_ite, ib_0, ib_z, ite_not, i1_0, i0_0, jB_1, jB_0, jB_ib, bI_v, bL_v, bD_v, bV_v, ob_s, ob_i, i3_ofNat, jx_e, bI_e, bL_e, bD_e, bV_e, i3_eq0, i6_eq0, if_mx, if_mn, if_true, if_false, not_true_eq_false, not_false_eq_true, Int.reduceEq, Int.reduceLT, Int.reduceLE, tX11_requireSlot_1, exc_q]
    exact ⟨_, rfl⟩
theorem cX11_restore (h : LQ v μ m) (hS : SLr v μ m) {q : Int} (hq : isI q) : cW (jm_env (d + 3) 190 [.ref 0, .int (i3 q)] (qM X v w T c s)) X v T c s eIB eIS (cd2 (0 ≤ q ∧ q < 2) (μ 417 q = 1)) (μ 416 (167 * q + 0)) (fun v' => LQ v' (rsV μ q) m ∧ frL v' v) := by
  obtain ⟨q0, q1⟩ := hq
  by_cases g : 0 ≤ q ∧ q < 2
  · obtain ⟨g0, g1⟩ := id g
    obtain ⟨a, b, c'⟩ := hS q g0 g1
    by_cases k : μ 417 q = 1
    · obtain ⟨hl2, ho2⟩ := c' k
      rw [cd2_0 g k]
      apply cW_0
      obtain ⟨hl, ho, hh, hr⟩ := id h
      obtain ⟨q', rfl⟩ : ∃ q' : Nat, q = q' := ⟨q.toNat, (Int.toNat_of_nonneg g0).symm⟩
      rw [Int.toNat_natCast] at hl2
      have o0 := ho2.1.1
      have o5 := ho2.1.2.1
      have o3 := ho2.2.2.2.1.2.1
      have l2 : v (347 + 32 * q') 2 = (sl3 μ q') 412 0 := hl2.1.2.2.1
      have lq := oLnd_s (i := q') (by omega)
      have l14 := oLnd_14
      obtain ⟨v1, e1, hlc, hf⟩ := tX4_copyFrom (d := d) (X := X) (v := v) (w := w) (T := T) (c := c) (s := s) l14 lq (by omega) (by omega) (by omega)
      have e14 : up v1 78 2 0 14 2 = μ 416 (167 * (q' : Int) + 0) := by rw [up_ne (by omega), hlc.1.2.2.1, l2]; rfl
      have ka : v 337 (q' : Int) = 1 := by omega
      have hE : eqS (rsV μ q') (sl3 μ q') := fun k k0 k1 => by
        unfold rsV
        rw [up_ne (by omega), fil_in k0 k1]
        rfl
      refine ⟨up v1 78 2 0, w, ?_, ⟨?_, hE.ok ho2, ?_, fun k k0 k1 => ?_⟩, fun k hk => ?_⟩
      · simp (disch := first | assumption | omega) only [↓reduceIte, eX11_restore, bX11_restore_0, bX11_restore_13, bX11_restore_24, r11_9, a11_9, w11_9, n11_9, r11_5, r11_8, q11_8, r11_7, g4_2, i3_add, i3_sub, i3_mul, i3_neg, i6_add, i6_sub, i6_mul, i6_neg, i3_lt, i3_le, i3_eq, i6_lt, i6_eq, i3_div, i6_div, i6_i3, i3_i6, c6_lt, c6_ge, c6_gt, c6_le, c6_eq, i3_ite, i6_ite, ib_0, ib_z, ite_not, i1_0, i0_0, jB_1, jB_0, jB_ib, bI_v, bL_v, bD_v, bV_v, ob_s, ob_i, i3_ofNat, jx_e, bI_e, bL_e, bD_e, bV_e, i3_eq0, i6_eq0, if_mx, if_mn, if_true, if_false, not_true_eq_false, not_false_eq_true, Int.reduceEq, Int.reduceLT, Int.reduceLE, eX3_forget, bX3_forget_0, p3_2, i3_add, i3_sub, i3_mul, i3_neg, i6_add, i6_sub, i6_mul, i6_neg, i3_lt, i3_le, i3_eq, i6_lt, i6_eq, i3_div, i6_div, i6_i3, i3_i6, c6_lt, c6_ge, c6_gt, c6_le, c6_eq, i3_ite, i6_ite, ib_0, ib_z, ite_not, i1_0, i0_0, jB_1, jB_0, jB_ib, bI_v, bL_v, bD_v, bV_v, ob_s, ob_i, i3_ofNat, jx_e, bI_e, bL_e, bD_e, bV_e, i3_eq0, i6_eq0, if_mx, if_mn, if_true, if_false, not_true_eq_false, not_false_eq_true, Int.reduceEq, Int.reduceLT, Int.reduceLE, tX11_requireSlot_0, Int.toNat_natCast, ka, e1, e14]
      · exact hE.lr o5 o3 (lr_fr (fun n n0 n1 => up_b (by omega)) o5 (lr_cp hlc hl2 o3))
      · have e7 : rsV μ q' 411 7 = 0 := up_eq
        have e78 : v1 78 1 = v 78 1 := hf.k (by omega) 1
        refine ⟨⟨by rw [up_eq, e7], by omega, by omega, by rw [up_ne (by omega), e78]; exact hh.1.2.2.2.1, by rw [up_ne (by omega), e78]; exact hh.1.2.2.2.2⟩, fun j j0 j1 => by omega⟩
      · have e418 : rsV μ q' 418 = μ 418 := by unfold rsV; rw [up_b (by omega), fil_b (by omega)]
        rw [up_ne (by omega), hf 338 (by omega), e418]
        exact hr k k0 k1
      · rw [up_b (by omega), hf k (by omega)]
    · have ka : v 337 q = 0 := by omega
      rw [cd2_2 g k]
      apply cW_2
      simp (disch := first | assumption | omega) only [↓reduceIte, eX11_restore, bX11_restore_0, bX11_restore_13, bX11_restore_24, r11_9, a11_9, w11_9, n11_9, r11_5, r11_8, q11_8, r11_7, g4_2, i3_add, i3_sub, i3_mul, i3_neg, i6_add, i6_sub, i6_mul, i6_neg, i3_lt, i3_le, i3_eq, i6_lt, i6_eq, i3_div, i6_div, i6_i3, i3_i6, c6_lt, c6_ge, c6_gt, c6_le, c6_eq, i3_ite, i6_ite, ib_0, ib_z, ite_not, i1_0, i0_0, jB_1, jB_0, jB_ib, bI_v, bL_v, bD_v, bV_v, ob_s, ob_i, i3_ofNat, jx_e, bI_e, bL_e, bD_e, bV_e, i3_eq0, i6_eq0, if_mx, if_mn, if_true, if_false, not_true_eq_false, not_false_eq_true, Int.reduceEq, Int.reduceLT, Int.reduceLE, tX11_requireSlot_0, ka, exc_q]
      exact ⟨_, rfl⟩
  · rw [cd2_1 g]
    apply cW_1
    simp (disch := first | assumption | omega) only [eX11_restore, bX11_restore_0, i3_add, i3_sub, i3_mul, i3_neg, i6_add, i6_sub, i6_mul, i6_neg, i3_lt, i3_le, i3_eq, i6_lt, i6_eq, i3_div, i6_div, i6_i3, i3_i6, c6_lt, c6_ge, c6_gt, c6_le, c6_eq, i3_ite, i6_ite, ib_0, ib_z, ite_not, i1_0, i0_0, jB_1, jB_0, jB_ib, bI_v, bL_v, bD_v, bV_v, ob_s, ob_i, i3_ofNat, jx_e, bI_e, bL_e, bD_e, bV_e, i3_eq0, i6_eq0, if_mx, if_mn, if_true, if_false, not_true_eq_false, not_false_eq_true, Int.reduceEq, Int.reduceLT, Int.reduceLE, tX11_requireSlot_1, exc_q]
    exact ⟨_, rfl⟩
end CLQ
