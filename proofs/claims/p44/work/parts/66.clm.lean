-- uses 24.zar 25.obj 26.ops 27.ra 29.rc 34.gen 35.byt 36.ser 37.lnd 38.mod 39.mo2 40.mo3 44.mo6 45.mo7 46.mo8 47.mo9 48.moa 53.cla 58.clf 61.cli 62.clj 63.clk 64.okm 65.cll
/-! The class: cut, edge, ream; the calls. -/
/-- the answer of a call of the class that may change what lasts -/
def cW (x : Option jm_Res) (X : Nat × (Nat → Int32)) (v : Nat → Int → Int) (T c s : Nat) (E1 E2 : String) (cd ans : Int) (Q : (Nat → Int → Int) → Prop) : Prop :=
  (cd = 0 → ∃ v' w', x = some (.inl (some (.int (i3 (ans)))), qM X v' w' T c s) ∧ Q v') ∧ (cd = 1 → ∃ w', x = some (.inr E1, qM X v w' T (c + 1) (s + 6))) ∧ (cd = 2 → ∃ w', x = some (.inr E2, qM X v w' T (c + 1) (s + 6)))
section CWS
variable {x : Option jm_Res} {X : Nat × (Nat → Int32)} {v : Nat → Int → Int} {T c s : Nat} {E1 E2 : String} {ans : Int} {Q : (Nat → Int → Int) → Prop}
theorem cW_0 (h : ∃ v' w', x = some (.inl (some (.int (i3 (ans)))), qM X v' w' T c s) ∧ Q v') : cW x X v T c s E1 E2 0 ans Q := ⟨fun _ => h, fun h => absurd h (by decide), fun h => absurd h (by decide)⟩
theorem cW_1 (h : ∃ w', x = some (.inr E1, qM X v w' T (c + 1) (s + 6))) : cW x X v T c s E1 E2 1 ans Q := ⟨fun h => absurd h (by decide), fun _ => h, fun h => absurd h (by decide)⟩
theorem cW_2 (h : ∃ w', x = some (.inr E2, qM X v w' T (c + 1) (s + 6))) : cW x X v T c s E1 E2 2 ans Q := ⟨fun h => absurd h (by decide), fun h => absurd h (by decide), fun _ => h⟩
end CWS
section CLM
variable {d : Nat} {X : Nat × (Nat → Int32)} {v w : Nat → Int → Int} {T c s : Nat}
variable {μ : Nat → Int → Int} {m : Int}
theorem tX4_refusalToCut (h : LO v 14 μ) {i n q : Int} (i0 : 0 ≤ i) (i1 : i < μ 412 0) (n0 : 0 ≤ n) (n1 : n < 10) (q0 : 1 ≤ q) (q1 : q ≤ 9999) : jm_env (d + 2) 51 [.ref 14, .int (i3 i), .int (i3 n), .int (i3 q)] (qM X v w T c s) = some (.inl (some (.int (i3 (if ctR μ i n q < -1 then ctR μ i n q else 0)))), (qM X v w T c s)) := by
  obtain ⟨i', rfl⟩ : ∃ i' : Nat, i = i' := ⟨i.toNat, (Int.toNat_of_nonneg i0).symm⟩
  obtain ⟨hln, ⟨⟨l0, l1, l2, l3⟩, -⟩, hg, hz⟩ := id h
  have hc5 := hg.2.1
  have hk := (hg.2.2.2.2 i' i0 i1).2 n n0 n1
  have n2 : 0 ≤ n + 1 := by omega
  have n3 : n + 1 < 100 := by omega
  have hv : ((10 ≤ n ∨ aM μ i' n = 0) ∨ (10 ≤ n + 1 ∨ aM μ i' (n + 1) = 0)) ↔ (10 ≤ n + 1 ∨ aM μ i' (n + 1) = 0) := by
    constructor
    · rintro ((g | g) | g)
      · omega
      · exact Or.inr (aM_n hz i0 i1 n0 g)
      · exact g
    · exact Or.inr
  unfold ctR
  by_cases g : 10 ≤ n + 1 ∨ aM μ i' (n + 1) = 0
  · rw [if_pos (hv.mpr g)]
    simp (disch := first | assumption | omega) only [↓reduceIte, eX4_refusalToCut, bX4_refusalToCut_0, bX4_refusalToCut_19, bX4_refusalToCut_22, bX4_refusalToCut_32, bX4_refusalToCut_35, bX4_refusalToCut_53, bX4_refusalToCut_58, bX4_refusalToCut_59, r4_3, q4_3, i3_add, i3_sub, i3_mul, i3_neg, i6_add, i6_sub, i6_mul, i6_neg, i3_lt, i3_le, i3_eq, i6_lt, i6_eq, i3_div, i6_div, i6_i3, i3_i6, c6_lt, c6_ge, c6_gt, c6_le, c6_eq, i3_ite, i6_ite, ib_0, ib_z, ite_not, i1_0, i0_0, jB_1, jB_0, jB_ib, bI_v, bL_v, bD_v, bV_v, ob_s, ob_i, i3_ofNat, jx_e, bI_e, bL_e, bD_e, bV_e, i3_eq0, i6_eq0, if_mx, if_mn, if_true, if_false, not_true_eq_false, not_false_eq_true, Int.reduceEq, Int.reduceLT, Int.reduceLE, Int.toNat_natCast, tX9_isVoid h, eq_true g]
  · have hk2 := (hg.2.2.2.2 i' i0 i1).2 (n + 1) (by omega) (by omega)
    have n4 : n + 1 < 10 := by omega
    rw [if_neg (fun q => g (hv.mp q))]
    simp (disch := first | assumption | omega) only [eX4_refusalToCut, bX4_refusalToCut_0, bX4_refusalToCut_19, bX4_refusalToCut_22, bX4_refusalToCut_32, bX4_refusalToCut_35, bX4_refusalToCut_53, bX4_refusalToCut_58, bX4_refusalToCut_59, r4_3, q4_3, i3_add, i3_sub, i3_mul, i3_neg, i6_add, i6_sub, i6_mul, i6_neg, i3_lt, i3_le, i3_eq, i6_lt, i6_eq, i3_div, i6_div, i6_i3, i3_i6, c6_lt, c6_ge, c6_gt, c6_le, c6_eq, i3_ite, i6_ite, ib_0, ib_z, ite_not, i1_0, i0_0, jB_1, jB_0, jB_ib, bI_v, bL_v, bD_v, bV_v, ob_s, ob_i, i3_ofNat, jx_e, bI_e, bL_e, bD_e, bV_e, i3_eq0, i6_eq0, if_mx, if_mn, if_true, if_false, not_true_eq_false, not_false_eq_true, Int.reduceEq, Int.reduceLT, Int.reduceLE, Int.toNat_natCast, tX9_isVoid h, tX9_sheetsAt h, eq_false g]
    (repeat' split) <;> first | rfl | (apply fin_i; omega) | (exfalso; omega)
theorem tX4_cutUp (h : LO v 14 μ) {i n q : Int} (i0 : 0 ≤ i) (i1 : i < μ 412 0) (n0 : 0 ≤ n) (n1 : n < 10) (q0 : 1 ≤ q) (q1 : q ≤ 9999) (hp : μ 412 3 ≤ 30) (hb : ¬ ctR μ i n q < -1) : ∃ v', jm_env (d + 3) 52 [.ref 14, .int (i3 i), .int (i3 n), .int (i3 q)] (qM X v w T c s) = some (.inl (some (.int (i3 (ctR μ i n q)))), qM X v' w T c s) ∧ lr v' 14 (ctV μ i n q) ∧ frM v' v := by
  obtain ⟨i', rfl⟩ : ∃ i' : Nat, i = i' := ⟨i.toNat, (Int.toNat_of_nonneg i0).symm⟩
  obtain ⟨hln, ⟨⟨l0, l1, l2, l3⟩, la, -⟩, hg, hz⟩ := id h
  have hc5 := hg.2.1
  have i5 : i' < 5 := by omega
  have hs := oSer_of hln i5
  have hr : ¬ ((10 ≤ n ∨ aM μ i' n = 0) ∨ (10 ≤ n + 1 ∨ aM μ i' (n + 1) = 0)) ∧ q ≤ kM μ i' n ∧ kM μ i' (n + 1) + 2 * q ≤ 9999 ∧ ctR μ i' n q = kM μ i' (n + 1) + 2 * q := by
    unfold ctR at hb ⊢
    split at hb
    · omega
    · next g =>
      rw [if_neg g]
      split at hb
      · omega
      · next g2 =>
        rw [if_neg g2]
        split at hb
        · omega
        · next g3 =>
          rw [if_neg g3]
          exact ⟨g, by omega, by omega, rfl⟩
  obtain ⟨hr1, hr2, hr3, eR⟩ := hr
  have n9 : n < 9 := by omega
  have a3 : v (14 + 6) 3 = μ 412 7 := la 3 (by omega) (by omega)
  have a4 : v (14 + 6) 4 = μ 412 8 := la 4 (by omega) (by omega)
  have hA := aM_b (hg.o i0 i1) n
  have hA2 := aM_b (hg.o i0 i1) (n + 1)
  have hw := h.zw (i := i') i1 n0 n1
  have hh := h.zh (i := i') i1 n0 n1
  have hw2 := h.zw (i := i') (n := n + 1) i1 (by omega) (by omega)
  have hh2 := h.zh (i := i') (n := n + 1) i1 (by omega) (by omega)
  have hk1 : v (14 + 7 + 5 * i' + 4) n = kM μ i' n := (h.zr i1 n n0 n1).2.2
  have hk2 : v (14 + 7 + 5 * i' + 4) (n + 1) = kM μ i' (n + 1) := (h.zr i1 (n + 1) (by omega) (by omega)).2.2
  have n2 : -2147483647 ≤ n := by omega
  have n3 : n < 2147483647 := by omega
  have n4 : 0 ≤ n + 1 := by omega
  have n5 : n + 1 < 10 := by omega
  have eV : ctV μ i' n q = up (up (up (up μ 412 (12 + 13 * i' + 3 + n) (kM μ i' n - q)) 412 (12 + 13 * i' + 3 + (n + 1)) (kM μ i' (n + 1) + 2 * q)) 412 7 (μ 412 7 + q * (aM μ i' n - 2 * aM μ i' (n + 1)))) 412 8 (μ 412 8 + q) := if_neg hb
  have est : stripF (tr (v (14 + 7 + 5 * i' + 2))) (tr (v (14 + 7 + 5 * i' + 3))) n = aM μ i' n - 2 * aM μ i' (n + 1) := by
    unfold stripF
    rw [hw, hh, hw2, hh2, if_neg]
    · rfl
    · intro g
      exact hr1 (Or.inr (Or.inr ((aM_w hz i0 i1 (n + 1)).mpr g)))
  have hso : sOk (up (up v (14 + 7 + 5 * i' + 4) n (kM μ i' n - q)) (14 + 7 + 5 * i' + 4) (n + 1) (kM μ i' (n + 1) + 2 * q)) (14 + 7 + 5 * i') := by
    intro k k0 k1
    have := h.sOk i1 k k0 k1
    have hkk := (hg.2.2.2.2 i' i0 i1).2 n n0 n1
    have hkk2 := (hg.2.2.2.2 i' i0 i1).2 (n + 1) n4 n5
    rw [up_b (by omega), up_b (by omega), up_b (by omega), up_b (by omega)]
    by_cases g : k = n + 1
    · subst g; rw [up_eq]; omega
    · rw [up_ne (by omega)]
      by_cases g2 : k = n
      · subst g2; rw [up_eq]; omega
      · rw [up_ne (by omega)]; omega
  have et : tr (up (up v (14 + 7 + 5 * i' + 4) n (kM μ i' n - q)) (14 + 7 + 5 * i' + 4) (n + 1) (kM μ i' (n + 1) + 2 * q) (14 + 7 + 5 * i' + 4)) (n + 1) = kM μ i' (n + 1) + 2 * q := by
    rw [tr_in n4 n5, up_eq]
  have esub : kM μ i' n + -q = kM μ i' n - q := by omega
  simp (disch := first | assumption | omega) only [eX4_cutUp, bX4_cutUp_0, r4_3, q4_3, r4_5, a4_5, w4_5, n4_5, i3_add, i3_sub, i3_mul, i3_neg, i6_add, i6_sub, i6_mul, i6_neg, i3_lt, i3_le, i3_eq, i6_lt, i6_eq, i3_div, i6_div, i6_i3, i3_i6, c6_lt, c6_ge, c6_gt, c6_le, c6_eq, i3_ite, i6_ite, ib_0, ib_z, ite_not, i1_0, i0_0, jB_1, jB_0, jB_ib, bI_v, bL_v, bD_v, bV_v, ob_s, ob_i, i3_ofNat, jx_e, bI_e, bL_e, bD_e, bV_e, i3_eq0, i6_eq0, if_mx, if_mn, if_true, if_false, not_true_eq_false, not_false_eq_true, Int.reduceEq, Int.reduceLT, Int.reduceLE, Int.toNat_natCast, sX9_addSheets, sX9_stripAt, sX9_sheetsAt, up_b, hk1, hk2, esub, up_ne, a3, a4, est, et]
  rw [eR]
  refine ⟨up (up (up (up v (14 + 7 + 5 * i' + 4) n (kM μ i' n - q)) (14 + 7 + 5 * i' + 4) (n + 1) (kM μ i' (n + 1) + 2 * q)) (14 + 6) 3 (μ 412 7 + (aM μ i' n - 2 * aM μ i' (n + 1)) * q)) (14 + 6) 4 (μ 412 8 + q), ?_, ?_, ?_⟩
  · rfl
  · rw [eV, show q * (aM μ i' n - 2 * aM μ i' (n + 1)) = (aM μ i' n - 2 * aM μ i' (n + 1)) * q from Int.mul_comm _ _]
    have e1 := lr_stack (z := kM μ i' n - q) h.2.1 hc5 hp (i := i') i1 n0 n1
    have e2 := lr_stack (z := kM μ i' (n + 1) + 2 * q) e1 (by rw [up_ne (by omega)]; exact hc5) (by rw [up_ne (by omega)]; exact hp) (i := i') (n := n + 1) (by rw [up_ne (by omega)]; exact i1) (by omega) (by omega)
    have e3 := lr_acc (z := μ 412 7 + (aM μ i' n - 2 * aM μ i' (n + 1)) * q) e2 (by rw [up_ne (by omega), up_ne (by omega)]; exact hc5) (k := 3) (by omega) (by omega)
    have e4 := lr_acc (z := μ 412 8 + q) e3 (by rw [up_ne (by omega), up_ne (by omega), up_ne (by omega)]; exact hc5) (k := 4) (by omega) (by omega)
    exact e4
  · intro m hm
    rw [up_b (by omega), up_b (by omega), up_b (by omega), up_b (by omega)]
/-- the land changed, with undo and without -/
theorem LQ_land (h : LQ v μ m) {v' u : Nat → Int → Int} (hm : 0 ≤ m) (hs : lr v' 14 u) (hok : okM u (m + 1)) (hf : frM v' v) (hu : ∀ k : Nat, k ≠ 412 → u k = μ k) : LQ v' u (m + 1) := by
  obtain ⟨hl, ho, hh, hr⟩ := h
  refine ⟨hs, hok, hR_le (hR_fr (hR_cg hh (by rw [hu _ (by omega)]) (hu _ (by omega))) (fun n n0 n1 => hf n (by omega))) (by omega), fun k k0 k1 => ?_⟩
  rw [hf 338 (by omega), hu 418 (by omega)]
  exact hr k k0 k1
theorem LQ_keep {v1 : Nat → Int → Int} (h : LQ v μ m) (hh1 : hR v1 (kpV μ (μ 412)) m) (hf1 : ∀ k : Nat, k < 78 ∨ 336 ≤ k → v1 k = v k) {v' u : Nat → Int → Int} (hs : lr v' 14 u) (hok : okM u (m + 1)) (hf : frM v' v1) (hu : ∀ k : Nat, k ≠ 412 → u k = μ k) : LQ v' (kpV u (μ 412)) (m + 1) := by
  obtain ⟨hl, ho, hh, hr⟩ := h
  have ek := kpV_415 (u := u) (μ := μ) (g := μ 412) (by rw [hu _ (by omega)]) (hu _ (by omega))
  have e412 : kpV u (μ 412) 412 = u 412 := kpV_b (by omega) (by omega)
  have hE : eqS (kpV u (μ 412)) u := fun k _ _ => by rw [e412]
  refine ⟨hE.lr hok.1.2.1 hok.2.2.2.1.2.1 hs, hE.ok hok, hR_le (hR_fr (hR_cg hh1 ek.2 ek.1) (fun n n0 n1 => hf n (by omega))) (by omega), fun k k0 k1 => ?_⟩
  rw [hf 338 (by omega), hf1 338 (by omega), kpV_b (by omega) (by omega), hu 418 (by omega)]
  exact hr k k0 k1
theorem LQ_le {n n' : Int} (h : LQ v μ n) (hn : n ≤ n') : LQ v μ n' := ⟨h.1, okM_le h.2.1 hn, hR_le h.2.2.1 hn, h.2.2.2⟩
theorem LO_keep {v1 : Nat → Int → Int} (h : LQ v μ m) (hf1 : ∀ k : Nat, k < 78 ∨ 336 ≤ k → v1 k = v k) : LO v1 14 μ := ⟨oLnd_14, lr_fr (fun n n0 n1 => hf1 n (by omega)) h.2.1.1.2.1 h.1, h.2.1.1, h.2.1.2.2.1⟩
theorem tX11_doCut (h : LQ v μ m) (hm : 0 ≤ m) {i n r z : Int} (i0 : 0 ≤ i) (i1 : i < μ 412 0) (n0 : 0 ≤ n) (n1 : n < 10) (r0 : 1 ≤ r) (r1 : r ≤ 9999) (hz : z = 0 ∨ z = 1) : ∃ v', jm_env (d + 4) 118 [.ref 0, .int (i3 i), .int (i3 n), .int (i3 r), .int (i3 z)] (qM X v w T c s) = some (.inl (some (.int (i3 (ctR μ i n r)))), qM X v' w T c s) ∧ LQ v' (tzV μ (ctR μ i n r) (ctV μ i n r) z) (m + 1) ∧ frL v' v := by
  obtain ⟨hl, ho, hh, hr⟩ := id h
  have hlo := h.lo
  have hp3 := ho.2.2.2.1.2.1
  have hbd := ctR_b (q := r) ho.1 i0 i1 n0 n1 (by omega)
  by_cases hb : ctR μ i n r < -1
  · obtain ⟨v', e, hs, hf⟩ := tX11_refuse (d := d + 2) (X := X) (T := T) (c := c) (s := s) (w := w) (r := ctR μ i n r) h (by omega) (by omega)
    refine ⟨v', ?_, ?_, hf⟩
    · simp (disch := first | assumption | omega) only [eX11_doCut, bX11_doCut_0, bX11_doCut_17, bX11_doCut_24, bX11_doCut_29, bX11_doCut_40, r11_5, r11_7, i3_add, i3_sub, i3_mul, i3_neg, i6_add, i6_sub, i6_mul, i6_neg, i3_lt, i3_le, i3_eq, i6_lt, i6_eq, i3_div, i6_div, i6_i3, i3_i6, c6_lt, c6_ge, c6_gt, c6_le, c6_eq, i3_ite, i6_ite, ib_0, ib_z, ite_not, i1_0, i0_0, jB_1, jB_0, jB_ib, bI_v, bL_v, bD_v, bV_v, ob_s, ob_i, i3_ofNat, jx_e, bI_e, bL_e, bD_e, bV_e, i3_eq0, i6_eq0, if_mx, if_mn, if_true, if_false, not_true_eq_false, not_false_eq_true, Int.reduceEq, Int.reduceLT, Int.reduceLE, tX4_refusalToCut hlo]
      rw [if_pos hb, if_neg (by omega), e]
      simp (disch := first | assumption | omega) only [eX11_doCut, bX11_doCut_0, bX11_doCut_17, bX11_doCut_24, bX11_doCut_29, bX11_doCut_40, r11_5, r11_7, i3_add, i3_sub, i3_mul, i3_neg, i6_add, i6_sub, i6_mul, i6_neg, i3_lt, i3_le, i3_eq, i6_lt, i6_eq, i3_div, i6_div, i6_i3, i3_i6, c6_lt, c6_ge, c6_gt, c6_le, c6_eq, i3_ite, i6_ite, ib_0, ib_z, ite_not, i1_0, i0_0, jB_1, jB_0, jB_ib, bI_v, bL_v, bD_v, bV_v, ob_s, ob_i, i3_ofNat, jx_e, bI_e, bL_e, bD_e, bV_e, i3_eq0, i6_eq0, if_mx, if_mn, if_true, if_false, not_true_eq_false, not_false_eq_true, Int.reduceEq, Int.reduceLT, Int.reduceLE]
    · have e2 : tzV μ (ctR μ i n r) (ctV μ i n r) z = up μ 418 (ctR μ i n r + 7) (μ 418 (ctR μ i n r + 7) + 1) := by
        unfold tzV trV tsV
        rw [if_pos hb, if_pos hb]
        split <;> rfl
      rw [e2]
      exact LQ_le hs (by omega)
  · have hok := okM_ct ho i0 i1 n0 n1 r0 r1 hm hb
    have hbB : ∀ k : Nat, k ≠ 412 → ctV μ i n r k = μ k := fun k hk => ctV_b hk
    rcases hz with rfl | rfl
    · obtain ⟨v', e, hs, hf⟩ := tX4_cutUp (d := d) (X := X) (T := T) (c := c) (s := s) (w := w) hlo i0 i1 n0 n1 r0 r1 hp3 hb
      refine ⟨v', ?_, ?_, hf.l⟩
      · simp (disch := first | assumption | omega) only [eX11_doCut, bX11_doCut_0, bX11_doCut_17, bX11_doCut_24, bX11_doCut_29, bX11_doCut_40, r11_5, r11_7, i3_add, i3_sub, i3_mul, i3_neg, i6_add, i6_sub, i6_mul, i6_neg, i3_lt, i3_le, i3_eq, i6_lt, i6_eq, i3_div, i6_div, i6_i3, i3_i6, c6_lt, c6_ge, c6_gt, c6_le, c6_eq, i3_ite, i6_ite, ib_0, ib_z, ite_not, i1_0, i0_0, jB_1, jB_0, jB_ib, bI_v, bL_v, bD_v, bV_v, ob_s, ob_i, i3_ofNat, jx_e, bI_e, bL_e, bD_e, bV_e, i3_eq0, i6_eq0, if_mx, if_mn, if_true, if_false, not_true_eq_false, not_false_eq_true, Int.reduceEq, Int.reduceLT, Int.reduceLE, tX4_refusalToCut hlo, e]
        rw [if_neg hb]
        simp (disch := first | assumption | omega) only [eX11_doCut, bX11_doCut_0, bX11_doCut_17, bX11_doCut_24, bX11_doCut_29, bX11_doCut_40, r11_5, r11_7, i3_add, i3_sub, i3_mul, i3_neg, i6_add, i6_sub, i6_mul, i6_neg, i3_lt, i3_le, i3_eq, i6_lt, i6_eq, i3_div, i6_div, i6_i3, i3_i6, c6_lt, c6_ge, c6_gt, c6_le, c6_eq, i3_ite, i6_ite, ib_0, ib_z, ite_not, i1_0, i0_0, jB_1, jB_0, jB_ib, bI_v, bL_v, bD_v, bV_v, ob_s, ob_i, i3_ofNat, jx_e, bI_e, bL_e, bD_e, bV_e, i3_eq0, i6_eq0, if_mx, if_mn, if_true, if_false, not_true_eq_false, not_false_eq_true, Int.reduceEq, Int.reduceLT, Int.reduceLE]
      · have e2 : tzV μ (ctR μ i n r) (ctV μ i n r) 0 = ctV μ i n r := by
          unfold tzV tsV
          rw [if_neg (by omega), if_neg hb]
        rw [e2]
        exact LQ_land h hm hs hok hf hbB
    · obtain ⟨v1, e1, hh1, hf1⟩ := tX3_keep (d := d) (X := X) (T := T) (c := c) (s := s) (w := w) (b := 14) hh rfl hl ho
      obtain ⟨v', e, hs, hf⟩ := tX4_cutUp (d := d) (X := X) (T := T) (c := c) (s := s) (w := w) (LO_keep h hf1) i0 i1 n0 n1 r0 r1 hp3 hb
      refine ⟨v', ?_, ?_, fun m hm => (hf m (by omega)).trans (hf1 m (by omega))⟩
      · simp (disch := first | assumption | omega) only [eX11_doCut, bX11_doCut_0, bX11_doCut_17, bX11_doCut_24, bX11_doCut_29, bX11_doCut_40, r11_5, r11_7, i3_add, i3_sub, i3_mul, i3_neg, i6_add, i6_sub, i6_mul, i6_neg, i3_lt, i3_le, i3_eq, i6_lt, i6_eq, i3_div, i6_div, i6_i3, i3_i6, c6_lt, c6_ge, c6_gt, c6_le, c6_eq, i3_ite, i6_ite, ib_0, ib_z, ite_not, i1_0, i0_0, jB_1, jB_0, jB_ib, bI_v, bL_v, bD_v, bV_v, ob_s, ob_i, i3_ofNat, jx_e, bI_e, bL_e, bD_e, bV_e, i3_eq0, i6_eq0, if_mx, if_mn, if_true, if_false, not_true_eq_false, not_false_eq_true, Int.reduceEq, Int.reduceLT, Int.reduceLE, tX4_refusalToCut hlo, e1, e]
        rw [if_neg hb]
        simp (disch := first | assumption | omega) only [eX11_doCut, bX11_doCut_0, bX11_doCut_17, bX11_doCut_24, bX11_doCut_29, bX11_doCut_40, r11_5, r11_7, i3_add, i3_sub, i3_mul, i3_neg, i6_add, i6_sub, i6_mul, i6_neg, i3_lt, i3_le, i3_eq, i6_lt, i6_eq, i3_div, i6_div, i6_i3, i3_i6, c6_lt, c6_ge, c6_gt, c6_le, c6_eq, i3_ite, i6_ite, ib_0, ib_z, ite_not, i1_0, i0_0, jB_1, jB_0, jB_ib, bI_v, bL_v, bD_v, bV_v, ob_s, ob_i, i3_ofNat, jx_e, bI_e, bL_e, bD_e, bV_e, i3_eq0, i6_eq0, if_mx, if_mn, if_true, if_false, not_true_eq_false, not_false_eq_true, Int.reduceEq, Int.reduceLT, Int.reduceLE, e1, e]
      · have e2 : tzV μ (ctR μ i n r) (ctV μ i n r) 1 = kpV (ctV μ i n r) (μ 412) := by
          unfold tzV trV
          rw [if_pos rfl, if_neg hb]
        rw [e2]
        exact LQ_keep h hh1 hf1 hs hok hf hbB
theorem tX11_doSetEdge (h : LQ v μ m) (hm : 0 ≤ m) {e z : Int} (e0 : 0 ≤ e) (e1 : e ≤ 50) (hz : z = 0 ∨ z = 1) : ∃ v', jm_env (d + 4) 120 [.ref 0, .int (i3 e), .int (i3 z)] (qM X v w T c s) = some (.inl (some (.int (i3 (μ 412 1)))), qM X v' w T c s) ∧ LQ v' (if z = 1 then kpV (up μ 412 1 e) (μ 412) else up μ 412 1 e) (m + 1) ∧ frL v' v := by
  obtain ⟨hl, ho, hh, hr⟩ := id h
  have hln := oLnd_14
  have h5 := ho.1.2.1
  have l0 := hl.1.1
  have hok : okM (up μ 412 1 e) (m + 1) := okM_le (okM_e ho (Or.inl ⟨rfl, e0, e1⟩)) (by omega)
  have hu : ∀ k : Nat, k ≠ 412 → up μ 412 1 e k = μ k := fun k hk => up_b hk
  rcases hz with rfl | rfl
  · refine ⟨up v 14 0 e, ?_, ?_, fun m hm => up_b (by omega)⟩
    · simp (disch := first | assumption | omega) only [eX11_doSetEdge, bX11_doSetEdge_0, bX11_doSetEdge_12, bX11_doSetEdge_23, r11_5, g4_0, r11_7, p4_0, i3_add, i3_sub, i3_mul, i3_neg, i6_add, i6_sub, i6_mul, i6_neg, i3_lt, i3_le, i3_eq, i6_lt, i6_eq, i3_div, i6_div, i6_i3, i3_i6, c6_lt, c6_ge, c6_gt, c6_le, c6_eq, i3_ite, i6_ite, ib_0, ib_z, ite_not, i1_0, i0_0, jB_1, jB_0, jB_ib, bI_v, bL_v, bD_v, bV_v, ob_s, ob_i, i3_ofNat, jx_e, bI_e, bL_e, bD_e, bV_e, i3_eq0, i6_eq0, if_mx, if_mn, if_true, if_false, not_true_eq_false, not_false_eq_true, Int.reduceEq, Int.reduceLT, Int.reduceLE, l0]
    · rw [if_neg (by omega)]
      exact LQ_land h hm (lr_edge (k := 0) hl h5 (Or.inl rfl)) hok (fun m hm => up_b (by omega)) hu
  · obtain ⟨v1, e2, hh1, hf1⟩ := tX3_keep (d := d) (X := X) (T := T) (c := c) (s := s) (w := w) (b := 14) hh rfl hl ho
    refine ⟨up v1 14 0 e, ?_, ?_, fun m hm => (up_b (by omega)).trans (hf1 m (by omega))⟩
    · simp (disch := first | assumption | omega) only [eX11_doSetEdge, bX11_doSetEdge_0, bX11_doSetEdge_12, bX11_doSetEdge_23, r11_5, g4_0, r11_7, p4_0, i3_add, i3_sub, i3_mul, i3_neg, i6_add, i6_sub, i6_mul, i6_neg, i3_lt, i3_le, i3_eq, i6_lt, i6_eq, i3_div, i6_div, i6_i3, i3_i6, c6_lt, c6_ge, c6_gt, c6_le, c6_eq, i3_ite, i6_ite, ib_0, ib_z, ite_not, i1_0, i0_0, jB_1, jB_0, jB_ib, bI_v, bL_v, bD_v, bV_v, ob_s, ob_i, i3_ofNat, jx_e, bI_e, bL_e, bD_e, bV_e, i3_eq0, i6_eq0, if_mx, if_mn, if_true, if_false, not_true_eq_false, not_false_eq_true, Int.reduceEq, Int.reduceLT, Int.reduceLE, l0, e2]
    · rw [if_pos rfl]
      exact LQ_keep h hh1 hf1 (lr_edge (k := 0) (LO_keep h hf1).2.1 h5 (Or.inl rfl)) hok (fun m hm => up_b (by omega)) hu
end CLM
