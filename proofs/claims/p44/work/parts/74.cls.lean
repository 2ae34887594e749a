-- uses 24.zar 25.obj 26.ops 27.ra 29.rc 34.gen 35.byt 36.ser 37.lnd 38.mod 39.mo2 40.mo3 41.bit 44.mo6 45.mo7 46.mo8 47.mo9 48.moa 51.moe 53.cla 58.clf 61.cli 62.clj 63.clk 64.okm 65.cll 66.clm 73.clr
/-! The class: a new series. -/
section CMV
variable {μ : Nat → Int → Int} {x a b : Int}
theorem cm_b {n : Nat} (h : n ≠ 412) : cmV μ x a b n = μ n := by
  unfold cmV
  rw [up_b h, up_b h, up_b h, up_b h]
theorem cm_0 (h : 0 ≤ μ 412 0) : cmV μ x a b 412 0 = μ 412 0 + 1 := by
  unfold cmV
  rw [up_ne (by omega), up_ne (by omega), up_ne (by omega), up_eq]
theorem cm_o {k : Int} (h0 : k ≠ 0) (h : k < 12 + 13 * μ 412 0 ∨ 12 + 13 * μ 412 0 + 3 ≤ k) : cmV μ x a b 412 k = μ 412 k := by
  unfold cmV
  rw [up_ne (by omega), up_ne (by omega), up_ne (by omega), up_ne (by omega)]
theorem cm_x (h : 0 ≤ μ 412 0) : cmV μ x a b 412 (12 + 13 * μ 412 0 + 0) = x := by
  unfold cmV
  rw [up_ne (by omega), up_ne (by omega), up_eq]
theorem cm_1 (h : 0 ≤ μ 412 0) : cmV μ x a b 412 (12 + 13 * μ 412 0 + 1) = a := by
  unfold cmV
  rw [up_ne (by omega), up_eq]
theorem cm_2 (h : 0 ≤ μ 412 0) : cmV μ x a b 412 (12 + 13 * μ 412 0 + 2) = b := by
  unfold cmV
  rw [up_eq]
theorem cm_k {i n : Int} (h : 0 ≤ μ 412 0) (i0 : 0 ≤ i) (n0 : 0 ≤ n) (n1 : n < 10) : kM (cmV μ x a b) i n = kM μ i n := cm_o (by omega) (by omega)
theorem cm_s {i n : Int} (h : 0 ≤ μ 412 0) (i0 : 0 ≤ i) (hi : i < μ 412 0) : szM (cmV μ x a b) i n = szM μ i n := by
  unfold szM
  rw [cm_o (by omega) (by omega), cm_o (by omega) (by omega)]
theorem okM_cm {n : Int} (h : okM μ n) (hc : μ 412 0 < 5) (a0 : 1 ≤ a) (a1 : a ≤ 2000) (b0 : 1 ≤ b) (b1 : b ≤ 2000) : okM (cmV μ x a b) n := by
  obtain ⟨hg, ⟨q0, q1⟩, hz, ⟨p0, p1, p2⟩, hn, ha, hs, hcs⟩ := h
  have c0 := hg.1
  have e0 : cmV μ x a b 412 0 = μ 412 0 + 1 := cm_0 c0
  refine ⟨⟨by omega, by omega, ?_, ?_, fun i i0 i1 => ⟨?_, fun m m0 m1 => ?_⟩⟩, ?_, fun i i0 i1 => ?_, ⟨?_, ?_, fun k k0 k1 => ?_⟩, fun j j0 j1 => ?_, fun k k0 k1 => ?_, fun i m i0 i1 m0 m1 => ?_, ?_⟩
  · rw [cm_o (by omega) (by omega)]; exact hg.2.2.1
  · rw [cm_o (by omega) (by omega)]; exact hg.2.2.2.1
  · rw [e0] at i1
    unfold oM
    by_cases g : i = μ 412 0
    · rw [g, cm_1 c0, cm_2 c0]; omega
    · rw [cm_o (by omega) (by omega), cm_o (by omega) (by omega)]
      exact hg.o i0 (by omega)
  · rw [e0] at i1
    rw [cm_k c0 i0 m0 m1]
    by_cases g : i = μ 412 0
    · rw [hs i m (by omega) (by omega) m0 m1]; omega
    · exact (hg.2.2.2.2 i i0 (by omega)).2 m m0 m1
  · rw [cm_o (by omega) (by omega)]; exact ⟨q0, q1⟩
  · rw [e0] at i1
    by_cases g : i = μ 412 0
    · rw [g, cm_1 c0, cm_2 c0]; omega
    · rw [cm_o (by omega) (by omega), cm_o (by omega) (by omega)]
      exact hz i i0 (by omega)
  · rw [cm_o (by omega) (by omega)]; exact p0
  · rw [cm_o (by omega) (by omega)]; exact p1
  · rw [cm_o (by omega) (by omega)] at k1
    rw [cm_o (by omega) (by omega), cm_o (by omega) (by omega)]
    exact p2 k k0 k1
  · rw [cm_o (by omega) (by omega)] at j1
    rw [cm_o (by omega) (by omega)]
    exact hn j j0 j1
  · rw [cm_o (by omega) (by omega)]
    exact ha k k0 k1
  · rw [e0] at i0
    rw [cm_k c0 (by omega) m0 m1]
    exact hs i m (by omega) i1 m0 m1
  · unfold csM at hcs ⊢
    rw [cm_o (by omega) (by omega), cm_o (by omega) (by omega), cm_o (by omega) (by omega), cm_o (by omega) (by omega), e0, hcs]
    have e : fo2 (areaG (cmV μ x a b)) 0 (μ 412 0 + 1).toNat = fo2 (areaG μ) 0 (μ 412 0).toNat := by
      rw [show (μ 412 0 + 1).toNat = (μ 412 0).toNat + 1 by omega]
      show fo (fun y m => areaG (cmV μ x a b) y (μ 412 0).toNat m) (fo2 (areaG (cmV μ x a b)) 0 (μ 412 0).toNat) 10 = _
      have e2 : fo2 (areaG (cmV μ x a b)) 0 (μ 412 0).toNat = fo2 (areaG μ) 0 (μ 412 0).toNat := fo2_congr _ (fun k m y hk hm => by
        unfold areaG aM
        rw [cm_k c0 (by omega) (by omega) (by omega), cm_s c0 (by omega) (by omega)])
      rw [e2]
      exact fo_P (g := fun y m => areaG (cmV μ x a b) y (μ 412 0).toNat m) (P := fun _ y => y = fo2 (areaG μ) 0 (μ 412 0).toNat) rfl 10 (fun m y hm hy => by
        have e9 : areaG (cmV μ x a b) y (μ 412 0).toNat m = y := by
          unfold areaG
          rw [cm_k c0 (by omega) (by omega) (by omega), hs _ _ (by omega) (by omega) (by omega) (by omega)]
          omega
        exact e9.trans hy)
    rw [e]
theorem kp_cm {g : Int → Int} : cmV (kpV μ g) x a b = kpV (cmV μ x a b) g := by
  have e := kpV_415 (u := cmV μ x a b) (μ := μ) (g := g) (by rw [cm_b (by omega)]) (cm_b (by omega))
  have e2 : kpV μ g 412 = μ 412 := kpV_b (by omega) (by omega)
  have e3 : kpV (cmV μ x a b) g 412 = cmV μ x a b 412 := kpV_b (by omega) (by omega)
  funext n
  by_cases q : n = 412
  · rw [q, e3]
    unfold cmV
    rw [e2]
    funext k
    simp only [up, e2]
  · rw [cm_b q]
    by_cases q1 : n = 415
    · rw [q1, e.1]
    · by_cases q2 : n = 411
      · rw [q2]
        funext k
        by_cases q3 : k = 7
        · rw [q3, e.2]
        · rw [kpV_o q3, kpV_o q3, cm_b (by omega)]
      · rw [kpV_b q2 q1, kpV_b q2 q1, cm_b q]
/-- the land with a new series -/
def addV (v : Nat → Int → Int) (c : Nat) (f : Int → Int) (n a b : Int) : Nat → Int → Int := up (sidV (fil (up v (14 + 7 + 5 * c) 1 n) (14 + 7 + 5 * c + 1) f n) (14 + 7 + 5 * c) (a, b) 10) 14 2 (c + 1)
theorem addV_b {v : Nat → Int → Int} {c : Nat} {f : Int → Int} {n : Int} {m : Nat} (h : m ≠ 14) (h2 : m < 14 + 7 + 5 * c ∨ 14 + 7 + 5 * c + 5 ≤ m) : addV v c f n a b m = v m := by
  unfold addV sidV
  rw [up_b h, fil_b (by omega), fil_b (by omega), fil_b (by omega), fil_b (by omega), up_b (by omega)]
theorem lr_add {v : Nat → Int → Int} {c n : Nat} {f : Int → Int} (h : lr v 14 μ) (hc : μ 412 0 = c) (c1 : c < 5) (hp : μ 412 3 ≤ 30) (hs : stZ μ) (n0 : 1 ≤ n) (n1 : n ≤ 6) (hf : ltOk f n) : lr (addV v c f n a b) 14 (cmV μ (nk f n) a b) := by
  obtain ⟨⟨q0, q1, q2, q3⟩, qa, qp, qs⟩ := h
  have c0 : 0 ≤ μ 412 0 := by omega
  have e0 : cmV μ (nk f n) a b 412 0 = μ 412 0 + 1 := cm_0 c0
  have e14 : ∀ k : Int, k ≠ 2 → addV v c f n a b 14 k = v 14 k := fun k hk => by
    unfold addV sidV
    rw [up_ne (by omega), fil_b (by omega), fil_b (by omega), fil_b (by omega), fil_b (by omega), up_b (by omega)]
  refine ⟨⟨?_, ?_, ?_, ?_⟩, fun k k0 k1 => ?_, fun j j0 j1 => ?_, fun i hi => ?_⟩
  · rw [e14 _ (by omega), cm_o (by omega) (by omega)]; exact q0
  · rw [e14 _ (by omega), cm_o (by omega) (by omega)]; exact q1
  · rw [e0, hc]; exact up_eq
  · rw [addV_b (by omega) (by omega), cm_o (by omega) (by omega)]; exact q3
  · rw [addV_b (by omega) (by omega), cm_o (by omega) (by omega)]; exact qa k k0 k1
  · rw [cm_o (by omega) (by omega)] at j1
    rw [addV_b (by omega) (by omega), addV_b (by omega) (by omega), addV_b (by omega) (by omega), cm_o (by omega) (by omega), cm_o (by omega) (by omega), cm_o (by omega) (by omega)]
    exact qp j j0 j1
  · rw [e0] at hi
    by_cases g : i = c
    · subst g
      refine ⟨fun m m0 m1 => ?_, ?_⟩
      · have es : szM (cmV μ (nk f n) a b) i m = hv (a, b) m.toNat := by
          unfold szM
          rw [← hc, cm_1 c0, cm_2 c0]
        rw [es, cm_k c0 (by omega) m0 m1, hs _ _ (by omega) (by omega) m0 m1]
        refine ⟨?_, ?_, ?_⟩
        · unfold addV sidV
          rw [up_b (by omega), fil_b (by omega), fil_b (by omega), fil_in m0 m1]
        · unfold addV sidV
          rw [up_b (by omega), fil_b (by omega), fil_in m0 m1]
        · unfold addV sidV
          rw [up_b (by omega), fil_in m0 m1]
      · have e1 : addV v i f n a b (14 + 7 + 5 * i) 1 = n := by
          unfold addV sidV
          rw [up_b (by omega), fil_b (by omega), fil_b (by omega), fil_b (by omega), fil_b (by omega), up_eq]
        have e2 : ∀ k : Int, 0 ≤ k → k < n → addV v i f n a b (14 + 7 + 5 * i + 1) k = f k := fun k k0 k1 => by
          unfold addV sidV
          rw [up_b (by omega), fil_b (by omega), fil_b (by omega), fil_b (by omega), fil_in k0 k1]
        unfold rn
        rw [e1, Int.toNat_natCast, ← hc, cm_x c0]
        refine ⟨by omega, by omega, fun k k0 k1 => ?_, ?_⟩
        · rw [e2 k k0 k1]; exact hf k k0 k1
        · exact nk_cg (fun k k0 k1 => (e2 k k0 k1).symm)
    · obtain ⟨r, nn⟩ := qs i (by omega)
      refine ⟨fun m m0 m1 => ?_, ?_⟩
      · rw [addV_b (by omega) (by omega), addV_b (by omega) (by omega), addV_b (by omega) (by omega), cm_s c0 (by omega) (by omega), cm_k c0 (by omega) m0 m1]
        exact r m m0 m1
      · unfold rn
        rw [addV_b (by omega) (by omega), addV_b (by omega) (by omega), cm_o (by omega) (by omega)]
        exact nn
end CMV
section CLS
variable {d : Nat} {X : Nat × (Nat → Int32)} {v w : Nat → Int → Int} {T c s : Nat}
variable {μ : Nat → Int → Int} {m : Int}
theorem bat_cg {u : Nat → Int → Int} {a : Nat} {k : Int} (h : u a = v a) (h2 : u (a + 1) = v (a + 1)) : bat u a k = bat v a k := by
  unfold bat
  rw [h, h2]
theorem tX9_setName {a : Nat} {st : Int} {n : Nat} (h : oSer a) (ha : 14 ≤ a) (hb : bOk v 1) (s0 : 0 ≤ st) (s1 : st + n ≤ 600) (n1 : n ≤ 6) (hs : ∀ k : Int, 0 ≤ k → k < n → bat v 1 (st + k) = v 2 (st + k)) :
    jm_env (d + 2) 76 [.ref a, .ref 1, .int (i3 st), .int (i3 n)] (qM X v w T c s) = some (.inl none, qM X (fil (up v a 1 n) (a + 1) (fun k => v 2 (st + k)) n) w T c s) := by
  have o1 := oByt_1
  have hl := ch_n (fun k : Nat => jm_R (jm_env (d + 1)) jmM_X9_setName 17 [some (.ref a), some (.ref 1), some (.int (i3 st)), some (.int (i3 n)), some (.int (i3 k))] [] (qM X (fil (up v a 1 n) (a + 1) (fun k => v 2 (st + k)) k) w T c s)) n (fun k hk => by
    have e1 : fil (up v a 1 n) (a + 1) (fun k => v 2 (st + k)) k 1 = v 1 := by rw [fil_b (by omega), up_b (by omega)]
    have e2 : fil (up v a 1 n) (a + 1) (fun k => v 2 (st + k)) k 2 = v 2 := by rw [fil_b (by omega), up_b (by omega)]
    have e3 : fil (up v a 1 n) (a + 1) (fun k => v 2 (st + k)) k a 1 = n := by rw [fil_b (by omega), up_eq]
    have hb2 : bOk (fil (up v a 1 n) (a + 1) (fun k => v 2 (st + k)) k) 1 := by
      unfold bOk
      rw [e1, e2]
      exact hb
    have hq := bat_b hb (st + k)
    have e4 : bat (fil (up v a 1 n) (a + 1) (fun k => v 2 (st + k)) k) 1 (st + k) = v 2 (st + k) := (bat_cg e1 e2).trans (hs k (by omega) (by omega))
    rw [bX9_setName_17]
    simp (disch := first | assumption | omega) only [eX9_setName, bX9_setName_0, bX9_setName_26, bX9_setName_47, p9_1, g9_1, r9_0, a9_0, w9_0, n9_0, i3_add, i3_sub, i3_mul, i3_neg, i6_add, i6_sub, i6_mul, i6_neg, i3_lt, i3_le, i3_eq, i6_lt, i6_eq, i3_div, i6_div, i6_i3, i3_i6, c6_lt, c6_ge, c6_gt, c6_le, c6_eq, i3_ite, i6_ite, ib_0, ib_z, ite_not, i1_0, i0_0, jB_1, jB_0, jB_ib, bI_v, bL_v, bD_v, bV_v, ob_s, ob_i, i3_ofNat, jx_e, bI_e, bL_e, bD_e, bV_e, i3_eq0, i6_eq0, if_mx, if_mn, if_true, if_false, not_true_eq_false, not_false_eq_true, Int.reduceEq, Int.reduceLT, Int.reduceLE, e3, sX0_byteAt, e4]
    rw [if_neg (by omega), fil_up (by omega) rfl]
    rfl)
  rw [show ((0 : Nat) : Int) = 0 from rfl, fil_0] at hl
  simp (disch := first | assumption | omega) only [eX9_setName, bX9_setName_0, bX9_setName_26, bX9_setName_47, p9_1, g9_1, r9_0, a9_0, w9_0, n9_0, i3_add, i3_sub, i3_mul, i3_neg, i6_add, i6_sub, i6_mul, i6_neg, i3_lt, i3_le, i3_eq, i6_lt, i6_eq, i3_div, i6_div, i6_i3, i3_i6, c6_lt, c6_ge, c6_gt, c6_le, c6_eq, i3_ite, i6_ite, ib_0, ib_z, ite_not, i1_0, i0_0, jB_1, jB_0, jB_ib, bI_v, bL_v, bD_v, bV_v, ob_s, ob_i, i3_ofNat, jx_e, bI_e, bL_e, bD_e, bV_e, i3_eq0, i6_eq0, if_mx, if_mn, if_true, if_false, not_true_eq_false, not_false_eq_true, Int.reduceEq, Int.reduceLT, Int.reduceLE]
  refine Eq.trans ?_ (hl.trans ?_)
  · rw [show max 0 (min 6 (n : Int)) = n by omega]
  · have e3 : fil (up v a 1 n) (a + 1) (fun k => v 2 (st + k)) n a 1 = n := by rw [fil_b (by omega), up_eq]
    rw [bX9_setName_17]
    simp (disch := first | assumption | omega) only [eX9_setName, bX9_setName_0, bX9_setName_26, bX9_setName_47, p9_1, g9_1, r9_0, a9_0, w9_0, n9_0, i3_add, i3_sub, i3_mul, i3_neg, i6_add, i6_sub, i6_mul, i6_neg, i3_lt, i3_le, i3_eq, i6_lt, i6_eq, i3_div, i6_div, i6_i3, i3_i6, c6_lt, c6_ge, c6_gt, c6_le, c6_eq, i3_ite, i6_ite, ib_0, ib_z, ite_not, i1_0, i0_0, jB_1, jB_0, jB_ib, bI_v, bL_v, bD_v, bV_v, ob_s, ob_i, i3_ofNat, jx_e, bI_e, bL_e, bD_e, bV_e, i3_eq0, i6_eq0, if_mx, if_mn, if_true, if_false, not_true_eq_false, not_false_eq_true, Int.reduceEq, Int.reduceLT, Int.reduceLE, e3]
    rw [if_pos (by omega)]
theorem tX4_addSeries {st a b : Int} {c' n : Nat} (h : v 14 2 = c') (hc : c' < 5) (hb : bOk v 1) (s0 : 0 ≤ st) (s1 : st + n ≤ 600) (n1 : n ≤ 6) (hs : ∀ k : Int, 0 ≤ k → k < n → bat v 1 (st + k) = v 2 (st + k)) (a0 : 0 ≤ a) (a1 : a ≤ 2000) (b0 : 0 ≤ b) (b1 : b ≤ 2000) :
    jm_env (d + 3) 45 [.ref 14, .ref 1, .int (i3 st), .int (i3 n), .int (i3 a), .int (i3 b)] (qM X v w T c s) = some (.inl none, qM X (addV v c' (fun k => v 2 (st + k)) n a b) w T c s) := by
  have o1 := oLnd_14
  have hz : oSer (14 + 7 + 5 * c') := oSer_of o1 (by omega)
  have e1 := tX9_setName (d := d) (X := X) (w := w) (T := T) (c := c) (s := s) (v := v) (st := st) (n := n) hz (by omega) hb s0 s1 n1 hs
  have e2 := sX9_setSides (d := d + 1) (X := X) (w := w) (T := T) (c := c) (s := s) (v := fil (up v (14 + 7 + 5 * c') 1 n) (14 + 7 + 5 * c' + 1) (fun k => v 2 (st + k)) n) (p := (a, b)) hz (by dsimp only; omega)
  have e3 : fil (up v (14 + 7 + 5 * c') 1 n) (14 + 7 + 5 * c' + 1) (fun k => v 2 (st + k)) n 14 2 = c' := by rw [fil_b (by omega), up_b (by omega), h]
  have e4 : sidV (fil (up v (14 + 7 + 5 * c') 1 n) (14 + 7 + 5 * c' + 1) (fun k => v 2 (st + k)) n) (14 + 7 + 5 * c') (a, b) 10 14 2 = c' := by
    unfold sidV
    rw [fil_b (by omega), fil_b (by omega), fil_b (by omega), e3]
  rw [show d + 1 + 1 = d + 2 from rfl] at e2
  dsimp only at e2
  simp (disch := first | assumption | omega) only [eX4_addSeries, bX4_addSeries_0, bX4_addSeries_8, bX4_addSeries_49, g4_2, r4_3, q4_3, p4_2, i3_add, i3_sub, i3_mul, i3_neg, i6_add, i6_sub, i6_mul, i6_neg, i3_lt, i3_le, i3_eq, i6_lt, i6_eq, i3_div, i6_div, i6_i3, i3_i6, c6_lt, c6_ge, c6_gt, c6_le, c6_eq, i3_ite, i6_ite, ib_0, ib_z, ite_not, i1_0, i0_0, jB_1, jB_0, jB_ib, bI_v, bL_v, bD_v, bV_v, ob_s, ob_i, i3_ofNat, jx_e, bI_e, bL_e, bD_e, bV_e, i3_eq0, i6_eq0, if_mx, if_mn, if_true, if_false, not_true_eq_false, not_false_eq_true, Int.reduceEq, Int.reduceLT, Int.reduceLE, h, Int.toNat_natCast, e1, e3, e2, e4]
  rw [if_neg (by omega)]
  rfl
/-- a name's text: its number, or 0 -/
theorem whF_1 {n : Nat} (h : μ 411 16 = n) (h1 : n ≤ 6) (hl : ltOk (μ 420) n) : whF μ = nk (μ 420) n := by
  unfold whF
  rw [h, Int.toNat_natCast]
  exact fnd_none n 0 (fun i i0 i1 => by
    have := hl i (by omega) (by omega)
    omega)
theorem fnd_any {α : Type} {p : Nat → Prop} [DecidablePred p] {z e : α} : ∀ (r k : Nat), (∃ i, k ≤ i ∧ i < k + r ∧ p i) → fnd p (fun _ => z) e k r = z := by
  intro r
  induction r with
  | zero => rintro k ⟨i, i0, i1, -⟩; omega
  | succ r ih =>
    rintro k ⟨i, i0, i1, i2⟩
    unfold fnd
    by_cases q : p k
    · rw [if_pos q]
    · rw [if_neg q]
      have : i ≠ k := fun e => q (e ▸ i2)
      exact ih (k + 1) ⟨i, by omega, by omega, i2⟩
theorem whF_0 {n : Nat} (h : μ 411 16 = n) (h2 : ¬ (1 ≤ n ∧ n ≤ 6 ∧ ltOk (μ 420) n)) : whF μ = 0 := by
  unfold whF
  rw [h, Int.toNat_natCast]
  by_cases g : n = 0
  · rw [g]; rfl
  · by_cases g2 : n ≤ 6
    · have g3 : ¬ ltOk (μ 420) n := fun q => h2 ⟨by omega, g2, q⟩
      refine fnd_any n 0 ?_
      refine Classical.byContradiction (fun q => g3 (fun k k0 k1 => ?_))
      refine Classical.byContradiction (fun q2 => q ⟨k.toNat, by omega, by omega, Or.inl ?_⟩)
      rw [show ((k.toNat : Nat) : Int) = k by omega]
      exact q2
    · exact fnd_any n 0 ⟨6, by omega, by omega, Or.inr rfl⟩
theorem nmF_b {u : Nat → Int → Int} (h0 : 0 ≤ u 412 0) (h1 : u 412 0 ≤ 5) (x : Int) : -1 ≤ nmF u x ∧ nmF u x ≤ 5 := by
  unfold nmF
  exact fnd_P (P := fun z : Int => -1 ≤ z ∧ z ≤ 5) _ _ (by omega) (fun j j0 j1 _ => by omega)
theorem LQ_tx (h : LQ v μ m) {v' μ' : Nat → Int → Int} (hf : ∀ k : Nat, 14 ≤ k → k < 339 → v' k = v k) (h412 : μ' 412 = μ 412) (h7 : μ' 411 7 = μ 411 7) (h415 : μ' 415 = μ 415) (h418 : μ' 418 = μ 418) : LQ v' μ' m := by
  obtain ⟨hl, ho, hh, hr⟩ := h
  have hE : eqS μ' μ := fun k _ _ => by rw [h412]
  refine ⟨lr_fr (fun k k0 k1 => hf k (by omega) (by omega)) (by rw [h412]; exact ho.1.2.1) (hE.lr ho.1.2.1 ho.2.2.2.1.2.1 hl), hE.ok ho, hR_fr (hR_cg hh h7 h415) (fun k k0 k1 => hf k (by omega) (by omega)), fun k k0 k1 => ?_⟩
  rw [hf 338 (by omega) (by omega), h418]
  exact hr k k0 k1
end CLS
