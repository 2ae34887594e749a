-- uses 24.zar 25.obj 26.ops 27.ra 29.rc 34.gen 35.byt 36.ser 37.lnd 38.mod 39.mo2 40.mo3 44.mo6 45.mo7 46.mo8 47.mo9 48.moa 53.cla 58.clf 61.cli 62.clj 63.clk 64.okm
/-! The class: bought, cut, edges, reams. -/
def LQ (v μ : Nat → Int → Int) (n : Int) : Prop := lr v 14 μ ∧ okM μ n ∧ hR v μ n ∧ ∀ k : Int, 0 ≤ k → k < 6 → v 338 k = μ 418 (5 - k)
theorem LQ.lo {v μ : Nat → Int → Int} {n : Int} (h : LQ v μ n) : LO v 14 μ := ⟨oLnd_14, h.1, h.2.1.1, h.2.1.2.2.1⟩
/-- only the land, the ring and the refusals changed -/
def frL (v' v : Nat → Int → Int) : Prop := ∀ m : Nat, m < 14 ∨ (46 ≤ m ∧ m < 78) ∨ (336 ≤ m ∧ m ≠ 338) → v' m = v m
theorem frL_id {v : Nat → Int → Int} : frL v v := fun _ _ => rfl
theorem frL_tr {v v' v'' : Nat → Int → Int} (h : frL v'' v') (g : frL v' v) : frL v'' v := fun m hm => (h m hm).trans (g m hm)
/-- only the land -/
def frM (v' v : Nat → Int → Int) : Prop := ∀ m : Nat, m < 14 ∨ 46 ≤ m → v' m = v m
theorem frM.l {v' v : Nat → Int → Int} (h : frM v' v) : frL v' v := fun m hm => h m (by omega)
/-- what is kept where no undo is -/
def tsV (μ : Nat → Int → Int) (r : Int) (u : Nat → Int → Int) : Nat → Int → Int := if r < -1 then up μ 418 (r + 7) (μ 418 (r + 7) + 1) else u
def tzV (μ : Nat → Int → Int) (r : Int) (u : Nat → Int → Int) (z : Int) : Nat → Int → Int := if z = 1 then trV μ r u else tsV μ r u
section CLL
variable {d : Nat} {X : Nat × (Nat → Int32)} {v w : Nat → Int → Int} {T c s : Nat}
variable {μ : Nat → Int → Int} {m : Int}
theorem tX11_refuse {r : Int} (h : LQ v μ m) (h0 : -7 ≤ r) (h1 : r ≤ -2) : ∃ v', jm_env (d + 1) 121 [.ref 0, .int (i3 r)] (qM X v w T c s) = some (.inl (some (.int (i3 (r)))), qM X v' w T c s) ∧ LQ v' (up μ 418 (r + 7) (μ 418 (r + 7) + 1)) m ∧ frL v' v := by
  obtain ⟨hl, ho, hh, hr⟩ := h
  have h5 := ho.1.2.1
  have e : v 338 (-2 - r) = μ 418 (r + 7) := by rw [hr _ (by omega) (by omega), show 5 - (-2 - r) = r + 7 by omega]
  refine ⟨up v 338 (-2 - r) (μ 418 (r + 7) + 1), ?_, ⟨?_, okM_418 ho, ?_, fun k k0 k1 => ?_⟩, fun m hm => up_b (by omega)⟩
  · simp (disch := first | assumption | omega) only [eX11_refuse, bX11_refuse_0, bX11_refuse_9, bX11_refuse_15, bX11_refuse_25, r11_10, a11_10, w11_10, n11_10, i3_add, i3_sub, i3_mul, i3_neg, i6_add, i6_sub, i6_mul, i6_neg, i3_lt, i3_le, i3_eq, i6_lt, i6_eq, i3_div, i6_div, i6_i3, i3_i6, c6_lt, c6_ge, c6_gt, c6_le, c6_eq, i3_ite, i6_ite, ib_0, ib_z, ite_not, i1_0, i0_0, jB_1, jB_0, jB_ib, bI_v, bL_v, bD_v, bV_v, ob_s, ob_i, i3_ofNat, jx_e, bI_e, bL_e, bD_e, bV_e, i3_eq0, i6_eq0, if_mx, if_mn, if_true, if_false, not_true_eq_false, not_false_eq_true, Int.reduceEq, Int.reduceLT, Int.reduceLE, i3_m2, e]
    (repeat' split) <;> first | rfl | (exfalso; omega)
  · have hE : eqS (up μ 418 (r + 7) (μ 418 (r + 7) + 1)) μ := fun k _ _ => up_ne (by omega)
    exact hE.lr h5 ho.2.2.2.1.2.1 (lr_fr (fun n n0 n1 => up_b (by omega)) h5 hl)
  · exact hR_fr (hR_cg hh (up_ne (by omega)) (up_b (by omega))) (fun n n0 n1 => up_b (by omega))
  · by_cases g : k = -2 - r
    · subst g
      rw [up_eq, show 5 - (-2 - r) = r + 7 by omega, up_eq]
    · rw [up_ne (by omega), up_ne (by omega)]
      exact hr k k0 k1
theorem tX4_refusalToBuy (h : LO v 14 μ) {i n r : Int} (i0 : 0 ≤ i) (i1 : i < μ 412 0) (n0 : 0 ≤ n) (n1 : n < 10) (r0 : 1 ≤ r) (r1 : r ≤ 99) (m0 : 1 ≤ μ 412 2) (m1 : μ 412 2 ≤ 500) : jm_env (d + 2) 49 [.ref 14, .int (i3 i), .int (i3 n), .int (i3 r)] (qM X v w T c s) = some (.inl (some (.int (i3 (if byR μ i n r < -1 then byR μ i n r else 0)))), (qM X v w T c s)) := by
  obtain ⟨i', rfl⟩ : ∃ i' : Nat, i = i' := ⟨i.toNat, (Int.toNat_of_nonneg i0).symm⟩
  obtain ⟨hln, ⟨⟨l0, l1, l2, l3⟩, -⟩, hg, hz⟩ := id h
  have hc5 := hg.2.1
  have hk := (hg.2.2.2.2 i' i0 i1).2 n n0 n1
  have hx : 0 ≤ r * μ 412 2 ∧ r * μ 412 2 ≤ 4000000 := mul_b (by omega) (by omega) (by omega) (by omega)
  unfold byR
  simp (disch := first | assumption | omega) only [eX4_refusalToBuy, bX4_refusalToBuy_0, bX4_refusalToBuy_13, bX4_refusalToBuy_16, bX4_refusalToBuy_39, bX4_refusalToBuy_44, bX4_refusalToBuy_45, r4_3, q4_3, g4_1, i3_add, i3_sub, i3_mul, i3_neg, i6_add, i6_sub, i6_mul, i6_neg, i3_lt, i3_le, i3_eq, i6_lt, i6_eq, i3_div, i6_div, i6_i3, i3_i6, c6_lt, c6_ge, c6_gt, c6_le, c6_eq, i3_ite, i6_ite, ib_0, ib_z, ite_not, i1_0, i0_0, jB_1, jB_0, jB_ib, bI_v, bL_v, bD_v, bV_v, ob_s, ob_i, i3_ofNat, jx_e, bI_e, bL_e, bD_e, bV_e, i3_eq0, i6_eq0, if_mx, if_mn, if_true, if_false, not_true_eq_false, not_false_eq_true, Int.reduceEq, Int.reduceLT, Int.reduceLE, Int.toNat_natCast, tX9_isVoid h, tX9_sheetsAt h, l1]
  (repeat' split) <;> first | rfl | (apply fin_i; omega) | (exfalso; omega)
theorem tX4_takeIn (h : LO v 14 μ) {i n r : Int} (i0 : 0 ≤ i) (i1 : i < μ 412 0) (n0 : 0 ≤ n) (n1 : n < 10) (r0 : 1 ≤ r) (r1 : r ≤ 99) (m0 : 1 ≤ μ 412 2) (m1 : μ 412 2 ≤ 500) (hp : μ 412 3 ≤ 30) (hb : ¬ byR μ i n r < -1) : ∃ v', jm_env (d + 2) 50 [.ref 14, .int (i3 i), .int (i3 n), .int (i3 r)] (qM X v w T c s) = some (.inl (some (.int (i3 (byR μ i n r)))), qM X v' w T c s) ∧ lr v' 14 (byV μ i n r) ∧ frM v' v := by
  obtain ⟨i', rfl⟩ : ∃ i' : Nat, i = i' := ⟨i.toNat, (Int.toNat_of_nonneg i0).symm⟩
  obtain ⟨hln, ⟨⟨l0, l1, l2, l3⟩, la, -⟩, hg, hz⟩ := id h
  have hc5 := hg.2.1
  have i5 : i' < 5 := by omega
  have hs := oSer_of hln i5
  have a0 : v (14 + 6) 0 = μ 412 4 := la 0 (by omega) (by omega)
  have a7 : v (14 + 6) 7 = μ 412 11 := la 7 (by omega) (by omega)
  have hk := (hg.2.2.2.2 i' i0 i1).2 n n0 n1
  have hA := aM_b (hg.o i0 i1) n
  have hA' : 0 ≤ (szM μ i' n).1 * (szM μ i' n).2 ∧ (szM μ i' n).1 * (szM μ i' n).2 ≤ 4000000 := hA
  have hx : 0 ≤ r * μ 412 2 ∧ r * μ 412 2 ≤ 4000000 := mul_b (by omega) (by omega) (by omega) (by omega)
  have hw := h.zw (i := i') i1 n0 n1
  have hh := h.zh (i := i') i1 n0 n1
  have hkk : v (14 + 7 + 5 * i' + 4) n = kM μ i' n := (h.zr i1 n n0 n1).2.2
  have n2 : -2147483648 ≤ n := by omega
  have n3 : n < 2147483648 := by omega
  have eR : byR μ i' n r = kM μ i' n + r * μ 412 2 := by
    unfold byR at hb ⊢
    split at hb
    · omega
    · next g =>
      rw [if_neg g]
      split at hb
      · omega
      · next g2 => rw [if_neg g2]
  have eV : byV μ i' n r = up (up (up μ 412 (12 + 13 * i' + 3 + n) (kM μ i' n + r * μ 412 2)) 412 4 (μ 412 4 + r * μ 412 2 * aM μ i' n)) 412 11 (μ 412 11 + r) := if_neg hb
  have et : tr (up v (14 + 7 + 5 * i' + 4) n (kM μ i' n + r * μ 412 2) (14 + 7 + 5 * i' + 4)) n = kM μ i' n + r * μ 412 2 := by
    rw [tr_in n0 n1, up_eq]
  simp (disch := first | assumption | omega) only [eX4_takeIn, bX4_takeIn_0, r4_3, q4_3, g4_1, r4_5, a4_5, w4_5, n4_5, i3_add, i3_sub, i3_mul, i3_neg, i6_add, i6_sub, i6_mul, i6_neg, i3_lt, i3_le, i3_eq, i6_lt, i6_eq, i3_div, i6_div, i6_i3, i3_i6, c6_lt, c6_ge, c6_gt, c6_le, c6_eq, i3_ite, i6_ite, ib_0, ib_z, ite_not, i1_0, i0_0, jB_1, jB_0, jB_ib, bI_v, bL_v, bD_v, bV_v, ob_s, ob_i, i3_ofNat, jx_e, bI_e, bL_e, bD_e, bV_e, i3_eq0, i6_eq0, if_mx, if_mn, if_true, if_false, not_true_eq_false, not_false_eq_true, Int.reduceEq, Int.reduceLT, Int.reduceLE, Int.toNat_natCast, sX9_addSheets, sX9_areaAt, sX9_sheetsAt, up_b, hw, hh, hkk, l1, up_ne, a0, a7, et]
  rw [eR]
  refine ⟨up (up (up v (14 + 7 + 5 * i' + 4) n (kM μ i' n + r * μ 412 2)) (14 + 6) 0 (μ 412 4 + (szM μ i' n).1 * (szM μ i' n).2 * (r * μ 412 2))) (14 + 6) 7 (μ 412 11 + r), rfl, ?_, ?_⟩
  · rw [eV, show r * μ 412 2 * aM μ i' n = (szM μ i' n).1 * (szM μ i' n).2 * (r * μ 412 2) from Int.mul_comm _ _]
    have e1 := lr_stack (z := kM μ i' n + r * μ 412 2) h.2.1 hc5 hp (i := i') i1 n0 n1
    have e2 := lr_acc (z := μ 412 4 + (szM μ i' n).1 * (szM μ i' n).2 * (r * μ 412 2)) e1 (by rw [up_ne (by omega)]; exact hc5) (k := 0) (by omega) (by omega)
    have e3 := lr_acc (z := μ 412 11 + r) e2 (by rw [up_ne (by omega), up_ne (by omega)]; exact hc5) (k := 7) (by omega) (by omega)
    exact e3
  · intro m hm
    rw [up_b (by omega), up_b (by omega), up_b (by omega)]
theorem tX11_doBuy (h : LQ v μ m) (hm : 0 ≤ m) {i n r z : Int} (i0 : 0 ≤ i) (i1 : i < μ 412 0) (n0 : 0 ≤ n) (n1 : n < 10) (r0 : 1 ≤ r) (r1 : r ≤ 99) (hz : z = 0 ∨ z = 1) : ∃ v', jm_env (d + 4) 117 [.ref 0, .int (i3 i), .int (i3 n), .int (i3 r), .int (i3 z)] (qM X v w T c s) = some (.inl (some (.int (i3 (byR μ i n r)))), qM X v' w T c s) ∧ LQ v' (tzV μ (byR μ i n r) (byV μ i n r) z) (m + 1) ∧ frL v' v := by
  obtain ⟨hl, ho, hh, hr⟩ := id h
  have hlo := h.lo
  have h5 := ho.1.2.1
  have hp3 := ho.2.2.2.1.2.1
  obtain ⟨m0, m1⟩ := ho.2.1
  have hx : 0 ≤ r * μ 412 2 := Int.mul_nonneg (by omega) (by omega)
  have hbd := byR_b ho.1 i0 i1 n0 n1 hx
  by_cases hb : byR μ i n r < -1
  · obtain ⟨v', e, hs, hf⟩ := tX11_refuse (d := d + 2) (X := X) (T := T) (c := c) (s := s) (w := w) (r := byR μ i n r) h (by omega) (by omega)
    refine ⟨v', ?_, ?_, hf⟩
    · simp (disch := first | assumption | omega) only [eX11_doBuy, bX11_doBuy_0, bX11_doBuy_17, bX11_doBuy_24, bX11_doBuy_29, bX11_doBuy_40, r11_5, r11_7, i3_add, i3_sub, i3_mul, i3_neg, i6_add, i6_sub, i6_mul, i6_neg, i3_lt, i3_le, i3_eq, i6_lt, i6_eq, i3_div, i6_div, i6_i3, i3_i6, c6_lt, c6_ge, c6_gt, c6_le, c6_eq, i3_ite, i6_ite, ib_0, ib_z, ite_not, i1_0, i0_0, jB_1, jB_0, jB_ib, bI_v, bL_v, bD_v, bV_v, ob_s, ob_i, i3_ofNat, jx_e, bI_e, bL_e, bD_e, bV_e, i3_eq0, i6_eq0, if_mx, if_mn, if_true, if_false, not_true_eq_false, not_false_eq_true, Int.reduceEq, Int.reduceLT, Int.reduceLE, tX4_refusalToBuy hlo]
      rw [if_pos hb, if_neg (by omega), e]
      simp (disch := first | assumption | omega) only [eX11_doBuy, bX11_doBuy_0, bX11_doBuy_17, bX11_doBuy_24, bX11_doBuy_29, bX11_doBuy_40, r11_5, r11_7, i3_add, i3_sub, i3_mul, i3_neg, i6_add, i6_sub, i6_mul, i6_neg, i3_lt, i3_le, i3_eq, i6_lt, i6_eq, i3_div, i6_div, i6_i3, i3_i6, c6_lt, c6_ge, c6_gt, c6_le, c6_eq, i3_ite, i6_ite, ib_0, ib_z, ite_not, i1_0, i0_0, jB_1, jB_0, jB_ib, bI_v, bL_v, bD_v, bV_v, ob_s, ob_i, i3_ofNat, jx_e, bI_e, bL_e, bD_e, bV_e, i3_eq0, i6_eq0, if_mx, if_mn, if_true, if_false, not_true_eq_false, not_false_eq_true, Int.reduceEq, Int.reduceLT, Int.reduceLE]
    · have e2 : tzV μ (byR μ i n r) (byV μ i n r) z = up μ 418 (byR μ i n r + 7) (μ 418 (byR μ i n r + 7) + 1) := by
        unfold tzV trV tsV
        rw [if_pos hb, if_pos hb]
        split <;> rfl
      rw [e2]
      exact ⟨hs.1, okM_le hs.2.1 (by omega), hR_le hs.2.2.1 (by omega), hs.2.2.2⟩
  · have hok := okM_by ho i0 i1 n0 n1 r0 r1 hm hb
    have hbB : ∀ k : Nat, k ≠ 412 → byV μ i n r k = μ k := fun k hk => byV_b hk
    rcases hz with rfl | rfl
    · obtain ⟨v', e, hs, hf⟩ := tX4_takeIn (d := d + 1) (X := X) (T := T) (c := c) (s := s) (w := w) hlo i0 i1 n0 n1 r0 r1 m0 m1 hp3 hb
      refine ⟨v', ?_, ?_, hf.l⟩
      · simp (disch := first | assumption | omega) only [eX11_doBuy, bX11_doBuy_0, bX11_doBuy_17, bX11_doBuy_24, bX11_doBuy_29, bX11_doBuy_40, r11_5, r11_7, i3_add, i3_sub, i3_mul, i3_neg, i6_add, i6_sub, i6_mul, i6_neg, i3_lt, i3_le, i3_eq, i6_lt, i6_eq, i3_div, i6_div, i6_i3, i3_i6, c6_lt, c6_ge, c6_gt, c6_le, c6_eq, i3_ite, i6_ite, ib_0, ib_z, ite_not, i1_0, i0_0, jB_1, jB_0, jB_ib, bI_v, bL_v, bD_v, bV_v, ob_s, ob_i, i3_ofNat, jx_e, bI_e, bL_e, bD_e, bV_e, i3_eq0, i6_eq0, if_mx, if_mn, if_true, if_false, not_true_eq_false, not_false_eq_true, Int.reduceEq, Int.reduceLT, Int.reduceLE, tX4_refusalToBuy hlo, e]
        rw [if_neg hb]
        simp (disch := first | assumption | omega) only [eX11_doBuy, bX11_doBuy_0, bX11_doBuy_17, bX11_doBuy_24, bX11_doBuy_29, bX11_doBuy_40, r11_5, r11_7, i3_add, i3_sub, i3_mul, i3_neg, i6_add, i6_sub, i6_mul, i6_neg, i3_lt, i3_le, i3_eq, i6_lt, i6_eq, i3_div, i6_div, i6_i3, i3_i6, c6_lt, c6_ge, c6_gt, c6_le, c6_eq, i3_ite, i6_ite, ib_0, ib_z, ite_not, i1_0, i0_0, jB_1, jB_0, jB_ib, bI_v, bL_v, bD_v, bV_v, ob_s, ob_i, i3_ofNat, jx_e, bI_e, bL_e, bD_e, bV_e, i3_eq0, i6_eq0, if_mx, if_mn, if_true, if_false, not_true_eq_false, not_false_eq_true, Int.reduceEq, Int.reduceLT, Int.reduceLE]
      · have e2 : tzV μ (byR μ i n r) (byV μ i n r) 0 = byV μ i n r := by
          unfold tzV tsV
          rw [if_neg (by omega), if_neg hb]
        rw [e2]
        refine ⟨hs, hok, hR_le (hR_fr (hR_cg hh (by rw [hbB _ (by omega)]) (hbB _ (by omega))) (fun n n0 n1 => hf n (by omega))) (by omega), fun k k0 k1 => ?_⟩
        rw [hf 338 (by omega), hbB 418 (by omega)]
        exact hr k k0 k1
    · obtain ⟨v1, e1, hh1, hf1⟩ := tX3_keep (d := d) (X := X) (T := T) (c := c) (s := s) (w := w) (b := 14) hh rfl hl ho
      have hlo1 : LO v1 14 μ := ⟨oLnd_14, lr_fr (fun n n0 n1 => hf1 n (by omega)) h5 hl, ho.1, ho.2.2.1⟩
      obtain ⟨v', e, hs, hf⟩ := tX4_takeIn (d := d + 1) (X := X) (T := T) (c := c) (s := s) (w := w) hlo1 i0 i1 n0 n1 r0 r1 m0 m1 hp3 hb
      refine ⟨v', ?_, ?_, fun m hm => (hf m (by omega)).trans (hf1 m (by omega))⟩
      · simp (disch := first | assumption | omega) only [eX11_doBuy, bX11_doBuy_0, bX11_doBuy_17, bX11_doBuy_24, bX11_doBuy_29, bX11_doBuy_40, r11_5, r11_7, i3_add, i3_sub, i3_mul, i3_neg, i6_add, i6_sub, i6_mul, i6_neg, i3_lt, i3_le, i3_eq, i6_lt, i6_eq, i3_div, i6_div, i6_i3, i3_i6, c6_lt, c6_ge, c6_gt, c6_le, c6_eq, i3_ite, i6_ite, ib_0, ib_z, ite_not, i1_0, i0_0, jB_1, jB_0, jB_ib, bI_v, bL_v, bD_v, bV_v, ob_s, ob_i, i3_ofNat, jx_e, bI_e, bL_e, bD_e, bV_e, i3_eq0, i6_eq0, if_mx, if_mn, if_true, if_false, not_true_eq_false, not_false_eq_true, Int.reduceEq, Int.reduceLT, Int.reduceLE, tX4_refusalToBuy hlo, e1, e]
        rw [if_neg hb]
        simp (disch := first | assumption | omega) only [eX11_doBuy, bX11_doBuy_0, bX11_doBuy_17, bX11_doBuy_24, bX11_doBuy_29, bX11_doBuy_40, r11_5, r11_7, i3_add, i3_sub, i3_mul, i3_neg, i6_add, i6_sub, i6_mul, i6_neg, i3_lt, i3_le, i3_eq, i6_lt, i6_eq, i3_div, i6_div, i6_i3, i3_i6, c6_lt, c6_ge, c6_gt, c6_le, c6_eq, i3_ite, i6_ite, ib_0, ib_z, ite_not, i1_0, i0_0, jB_1, jB_0, jB_ib, bI_v, bL_v, bD_v, bV_v, ob_s, ob_i, i3_ofNat, jx_e, bI_e, bL_e, bD_e, bV_e, i3_eq0, i6_eq0, if_mx, if_mn, if_true, if_false, not_true_eq_false, not_false_eq_true, Int.reduceEq, Int.reduceLT, Int.reduceLE, e1, e]
      · have e2 : tzV μ (byR μ i n r) (byV μ i n r) 1 = kpV (byV μ i n r) (μ 412) := by
          unfold tzV trV
          rw [if_pos rfl, if_neg hb]
        rw [e2]
        have ek := kpV_415 (u := byV μ i n r) (μ := μ) (g := μ 412) (by rw [hbB _ (by omega)]) (hbB _ (by omega))
        have e412 : kpV (byV μ i n r) (μ 412) 412 = byV μ i n r 412 := kpV_b (by omega) (by omega)
        have hE : eqS (kpV (byV μ i n r) (μ 412)) (byV μ i n r) := fun k _ _ => by rw [e412]
        refine ⟨hE.lr hok.1.2.1 hok.2.2.2.1.2.1 hs, hE.ok hok, hR_le (hR_fr (hR_cg hh1 ek.2 ek.1) (fun n n0 n1 => hf n (by omega))) (by omega), fun k k0 k1 => ?_⟩
        rw [hf 338 (by omega), hf1 338 (by omega), kpV_b (by omega) (by omega), hbB 418 (by omega)]
        exact hr k k0 k1
end CLL
