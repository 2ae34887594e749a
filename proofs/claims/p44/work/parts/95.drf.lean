-- uses 24.zar 25.obj 26.ops 27.ra 28.rb 29.rc 34.gen 35.byt 36.ser 37.lnd 38.mod 39.mo2 40.mo3 41.bit 44.mo6 45.mo7 46.mo8 47.mo9 48.moa 51.moe 53.cla 58.clf 61.cli 62.clj 63.clk 64.okm 73.clr 74.cls
/-! The draft land (as 63 and 74, at 46). -/
section DRA
variable {v μ : Nat → Int → Int} {z : Int}
theorem lr_stackD (h : lr v 46 μ) (hc : μ 412 0 ≤ 5) (hp : μ 412 3 ≤ 30) {i : Nat} {n : Int} (hi : (i : Int) < μ 412 0) (n0 : 0 ≤ n) (n1 : n < 10) : lr (up v (46 + 7 + 5 * i + 4) n z) 46 (up μ 412 (12 + 13 * i + 3 + n) z) := by
  obtain ⟨⟨q0, q1, q2, q3⟩, qa, qp, qs⟩ := h
  refine ⟨⟨?_, ?_, ?_, ?_⟩, fun k k0 k1 => ?_, fun j j0 j1 => ?_, fun i' hi' => ?_⟩
  · rw [up_ne (by omega), up_ne (by omega)]; exact q0
  · rw [up_ne (by omega), up_ne (by omega)]; exact q1
  · rw [up_ne (by omega), up_ne (by omega)]; exact q2
  · rw [up_ne (by omega), up_ne (by omega)]; exact q3
  · rw [up_ne (by omega), up_ne (by omega)]; exact qa k k0 k1
  · rw [up_ne (by omega)] at j1
    rw [up_ne (by omega), up_ne (by omega), up_ne (by omega), up_ne (by omega), up_ne (by omega), up_ne (by omega)]; exact qp j j0 j1
  · rw [up_ne (by omega)] at hi'
    obtain ⟨r, nn⟩ := qs i' hi'
    refine ⟨fun m m0 m1 => ?_, ?_⟩
    · obtain ⟨r1, r2, r3⟩ := r m m0 m1
      rw [szM_up (by omega)]
      refine ⟨?_, ?_, ?_⟩
      · rw [up_ne (by omega)]; exact r1
      · rw [up_ne (by omega)]; exact r2
      · unfold kM at r3 ⊢
        by_cases g : i' = i ∧ m = n
        · obtain ⟨rfl, rfl⟩ := g
          rw [up_eq, up_eq]
        · rw [up_ne (by omega), up_ne (by omega)]; exact r3
    · unfold rn
      rw [up_ne (by omega), up_b (by omega), up_ne (by omega)]
      exact nn
theorem lr_accD (h : lr v 46 μ) (hc : μ 412 0 ≤ 5) {k : Int} (k0 : 0 ≤ k) (k1 : k < 8) : lr (up v (46 + 6) k z) 46 (up μ 412 (4 + k) z) := by
  obtain ⟨⟨q0, q1, q2, q3⟩, qa, qp, qs⟩ := h
  refine ⟨⟨?_, ?_, ?_, ?_⟩, fun j j0 j1 => ?_, fun j j0 j1 => ?_, fun i' hi' => ?_⟩
  · rw [up_ne (by omega), up_ne (by omega)]; exact q0
  · rw [up_ne (by omega), up_ne (by omega)]; exact q1
  · rw [up_ne (by omega), up_ne (by omega)]; exact q2
  · rw [up_ne (by omega), up_ne (by omega)]; exact q3
  · by_cases g : j = k
    · subst g; rw [up_eq, up_eq]
    · rw [up_ne (by omega), up_ne (by omega)]; exact qa j j0 j1
  · rw [up_ne (by omega)] at j1
    rw [up_ne (by omega), up_ne (by omega), up_ne (by omega), up_ne (by omega), up_ne (by omega), up_ne (by omega)]; exact qp j j0 j1
  · rw [up_ne (by omega)] at hi'
    obtain ⟨r, nn⟩ := qs i' hi'
    refine ⟨fun m m0 m1 => ?_, ?_⟩
    · obtain ⟨r1, r2, r3⟩ := r m m0 m1
      unfold kM at r3 ⊢
      rw [szM_up (by omega), up_ne (by omega), up_ne (by omega), up_ne (by omega), up_ne (by omega)]
      exact ⟨r1, r2, r3⟩
    · unfold rn
      rw [up_ne (by omega), up_b (by omega), up_ne (by omega)]
      exact nn
theorem lr_edgeD (h : lr v 46 μ) (hc : μ 412 0 ≤ 5) {k : Int} (hk : k = 0 ∨ k = 1) : lr (up v 46 k z) 46 (up μ 412 (1 + k) z) := by
  obtain ⟨⟨q0, q1, q2, q3⟩, qa, qp, qs⟩ := h
  refine ⟨⟨?_, ?_, ?_, ?_⟩, fun j j0 j1 => ?_, fun j j0 j1 => ?_, fun i' hi' => ?_⟩
  · rcases hk with rfl | rfl
    · rw [up_eq]; exact up_eq.symm
    · rw [up_ne (by omega), up_ne (by omega)]; exact q0
  · rcases hk with rfl | rfl
    · rw [up_ne (by omega), up_ne (by omega)]; exact q1
    · rw [up_eq]; exact up_eq.symm
  · rw [up_ne (by omega), up_ne (by omega)]; exact q2
  · rw [up_ne (by omega), up_ne (by omega)]; exact q3
  · rw [up_ne (by omega), up_ne (by omega)]; exact qa j j0 j1
  · rw [up_ne (by omega)] at j1
    rw [up_ne (by omega), up_ne (by omega), up_ne (by omega), up_ne (by omega), up_ne (by omega), up_ne (by omega)]; exact qp j j0 j1
  · rw [up_ne (by omega)] at hi'
    obtain ⟨r, nn⟩ := qs i' hi'
    refine ⟨fun m m0 m1 => ?_, ?_⟩
    · obtain ⟨r1, r2, r3⟩ := r m m0 m1
      unfold kM at r3 ⊢
      rw [szM_up (by omega), up_ne (by omega), up_ne (by omega), up_ne (by omega), up_ne (by omega)]
      exact ⟨r1, r2, r3⟩
    · unfold rn
      rw [up_ne (by omega), up_b (by omega), up_ne (by omega)]
      exact nn
end DRA
section DRB
variable {μ : Nat → Int → Int} {nm a b : Int}
def adV (v : Nat → Int → Int) (c : Nat) (f : Int → Int) (n a b : Int) : Nat → Int → Int := up (sidV (fil (up v (46 + 7 + 5 * c) 1 n) (46 + 7 + 5 * c + 1) f n) (46 + 7 + 5 * c) (a, b) 10) 46 2 (c + 1)
theorem adV_b {v : Nat → Int → Int} {c : Nat} {f : Int → Int} {n : Int} {m : Nat} (h : m ≠ 46) (h2 : m < 46 + 7 + 5 * c ∨ 46 + 7 + 5 * c + 5 ≤ m) : adV v c f n a b m = v m := by
  unfold adV sidV
  rw [up_b h, fil_b (by omega), fil_b (by omega), fil_b (by omega), fil_b (by omega), up_b (by omega)]
theorem lr_adD {v : Nat → Int → Int} {c n : Nat} {f : Int → Int} (h : lr v 46 μ) (hc : μ 412 0 = c) (c1 : c < 5) (hp : μ 412 3 ≤ 30) (hs : stZ μ) (n0 : 1 ≤ n) (n1 : n ≤ 6) (hf : ltOk f n) : lr (adV v c f n a b) 46 (cmV μ (nk f n) a b) := by
  obtain ⟨⟨q0, q1, q2, q3⟩, qa, qp, qs⟩ := h
  have c0 : 0 ≤ μ 412 0 := by omega
  have e0 : cmV μ (nk f n) a b 412 0 = μ 412 0 + 1 := cm_0 c0
  have e14 : ∀ k : Int, k ≠ 2 → adV v c f n a b 46 k = v 46 k := fun k hk => by
    unfold adV sidV
    rw [up_ne (by omega), fil_b (by omega), fil_b (by omega), fil_b (by omega), fil_b (by omega), up_b (by omega)]
  refine ⟨⟨?_, ?_, ?_, ?_⟩, fun k k0 k1 => ?_, fun j j0 j1 => ?_, fun i hi => ?_⟩
  · rw [e14 _ (by omega), cm_o (by omega) (by omega)]; exact q0
  · rw [e14 _ (by omega), cm_o (by omega) (by omega)]; exact q1
  · rw [e0, hc]; exact up_eq
  · rw [adV_b (by omega) (by omega), cm_o (by omega) (by omega)]; exact q3
  · rw [adV_b (by omega) (by omega), cm_o (by omega) (by omega)]; exact qa k k0 k1
  · rw [cm_o (by omega) (by omega)] at j1
    rw [adV_b (by omega) (by omega), adV_b (by omega) (by omega), adV_b (by omega) (by omega), cm_o (by omega) (by omega), cm_o (by omega) (by omega), cm_o (by omega) (by omega)]
    exact qp j j0 j1
  · rw [e0] at hi
    by_cases g : i = c
    · subst g
      refine ⟨fun m m0 m1 => ?_, ?_⟩
      · have es : szM (cmV μ (nk f n) a b) i m = hv (a, b) m.toNat := by
          unfold szM
          rw [← hc, cm_1 c0, cm_2 c0]
        rw [es, cm_k c0 (by omega) m0 m1, hs _ _ (by omega) (by omega) m0 m1]
        refine ⟨?_, ?_, ?_⟩
        · unfold adV sidV
          rw [up_b (by omega), fil_b (by omega), fil_b (by omega), fil_in m0 m1]
        · unfold adV sidV
          rw [up_b (by omega), fil_b (by omega), fil_in m0 m1]
        · unfold adV sidV
          rw [up_b (by omega), fil_in m0 m1]
      · have e1 : adV v i f n a b (46 + 7 + 5 * i) 1 = n := by
          unfold adV sidV
          rw [up_b (by omega), fil_b (by omega), fil_b (by omega), fil_b (by omega), fil_b (by omega), up_eq]
        have e2 : ∀ k : Int, 0 ≤ k → k < n → adV v i f n a b (46 + 7 + 5 * i + 1) k = f k := fun k k0 k1 => by
          unfold adV sidV
          rw [up_b (by omega), fil_b (by omega), fil_b (by omega), fil_b (by omega), fil_in k0 k1]
        unfold rn
        rw [e1, Int.toNat_natCast, ← hc, cm_x c0]
        refine ⟨by omega, by omega, fun k k0 k1 => ?_, ?_⟩
        · rw [e2 k k0 k1]; exact hf k k0 k1
        · exact nk_cg (fun k k0 k1 => (e2 k k0 k1).symm)
    · obtain ⟨r, nn⟩ := qs i (by omega)
      refine ⟨fun m m0 m1 => ?_, ?_⟩
      · rw [adV_b (by omega) (by omega), adV_b (by omega) (by omega), adV_b (by omega) (by omega), cm_s c0 (by omega) (by omega), cm_k c0 (by omega) m0 m1]
        exact r m m0 m1
      · unfold rn
        rw [adV_b (by omega) (by omega), adV_b (by omega) (by omega), cm_o (by omega) (by omega)]
        exact nn
end DRB
section DRC
variable {d : Nat} {X : Nat × (Nat → Int32)} {v w : Nat → Int → Int} {T c s : Nat}
variable {μ : Nat → Int → Int} {m : Int}
theorem tX4_adS {st a b : Int} {c' n : Nat} (h : v 46 2 = c') (hc : c' < 5) (hb : bOk v 1) (s0 : 0 ≤ st) (s1 : st + n ≤ 600) (n1 : n ≤ 6) (hs : ∀ k : Int, 0 ≤ k → k < n → bat v 1 (st + k) = v 2 (st + k)) (a0 : 0 ≤ a) (a1 : a ≤ 2000) (b0 : 0 ≤ b) (b1 : b ≤ 2000) :
    jm_env (d + 3) 45 [.ref 46, .ref 1, .int (i3 st), .int (i3 n), .int (i3 a), .int (i3 b)] (qM X v w T c s) = some (.inl none, qM X (adV v c' (fun k => v 2 (st + k)) n a b) w T c s) := by
  have o1 := oLnd_46
  have hz : oSer (46 + 7 + 5 * c') := oSer_of o1 (by omega)
  have e1 := tX9_setName (d := d) (X := X) (w := w) (T := T) (c := c) (s := s) (v := v) (st := st) (n := n) hz (by omega) hb s0 s1 n1 hs
  have e2 := sX9_setSides (d := d + 1) (X := X) (w := w) (T := T) (c := c) (s := s) (v := fil (up v (46 + 7 + 5 * c') 1 n) (46 + 7 + 5 * c' + 1) (fun k => v 2 (st + k)) n) (p := (a, b)) hz (by dsimp only; omega)
  have e3 : fil (up v (46 + 7 + 5 * c') 1 n) (46 + 7 + 5 * c' + 1) (fun k => v 2 (st + k)) n 46 2 = c' := by rw [fil_b (by omega), up_b (by omega), h]
  have e4 : sidV (fil (up v (46 + 7 + 5 * c') 1 n) (46 + 7 + 5 * c' + 1) (fun k => v 2 (st + k)) n) (46 + 7 + 5 * c') (a, b) 10 46 2 = c' := by
    unfold sidV
    rw [fil_b (by omega), fil_b (by omega), fil_b (by omega), e3]
  rw [show d + 1 + 1 = d + 2 from rfl] at e2
  dsimp only at e2
  simp (disch := first | assumption | omega) only [eX4_addSeries, bX4_addSeries_0, bX4_addSeries_8, bX4_addSeries_49, g4_2, r4_3, q4_3, p4_2, i3_add, i3_sub, i3_mul, i3_neg, i6_add, i6_sub, i6_mul, i6_neg, i3_lt, i3_le, i3_eq, i6_lt, i6_eq, i3_div, i6_div, i6_i3, i3_i6, c6_lt, c6_ge, c6_gt, c6_le, c6_eq, i3_ite, i6_ite, ib_0, ib_z, ite_not, i1_0, i0_0, jB_1, jB_0, jB_ib, bI_v, bL_v, bD_v, bV_v, ob_s, ob_i, i3_ofNat, jx_e, bI_e, bL_e, bD_e, bV_e, i3_eq0, i6_eq0, if_mx, if_mn, if_true, if_false, not_true_eq_false, not_false_eq_true, Int.reduceEq, Int.reduceLT, Int.reduceLE, h, Int.toNat_natCast, e1, e3, e2, e4]
  rw [if_neg (by omega)]
  rfl
end DRC
