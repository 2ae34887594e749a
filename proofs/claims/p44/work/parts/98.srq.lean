-- uses 24.zar 25.obj 26.ops 27.ra 28.rb 29.rc 34.gen 35.byt 36.ser 37.lnd 38.mod 39.mo2 40.mo3 41.bit 44.mo6 45.mo7 46.mo8 47.mo9 48.moa 51.moe 53.cla 54.clb 55.clc 58.clf 61.cli 62.clj 63.clk 64.okm 73.clr 74.cls 93.tka 94.tkb 95.drf 96.srd 97.srp
/-! The class's reading of a setup. -/
/-- only the draft and the error changed -/
def frD (v' v : Nat → Int → Int) : Prop := ∀ m : Nat, (m < 46 ∨ 78 ≤ m) → m ≠ 5 → v' m = v m
theorem frD_id {v : Nat → Int → Int} : frD v v := fun _ _ _ => rfl
theorem frD_tr {v v' v'' : Nat → Int → Int} (h : frD v'' v') (g : frD v' v) : frD v'' v := fun m h1 h2 => (h m h1 h2).trans (g m h1 h2)
theorem frD_e {v : Nat → Int → Int} {c p : Int} : frD (up (up v 5 5 c) 5 6 p) v := fun m _ h2 => by rw [up_b h2, up_b h2]
theorem TB_fr {v v' : Nat → Int → Int} {b : Int → Int} {n : Nat} (h : TB v b n) (hf : frD v' v) : TB v' b n := by
  have e1 : v' 1 = v 1 := hf 1 (by omega) (by omega)
  have e2 : v' 2 = v 2 := hf 2 (by omega) (by omega)
  obtain ⟨h1, h2, h3⟩ := h
  refine ⟨?_, by rw [e1]; exact h2, ?_⟩
  · rw [← h1]
    funext k
    exact bat_cg e1 e2
  · unfold bOk
    rw [e1, show (1 : Nat) + 1 = 2 from rfl, e2]
    exact h3
def oC (x : Option jm_Res) (X : Nat × (Nat → Int32)) (v : Nat → Int → Int) (T c s : Nat) (b : Int → Int) (r : pR) : Prop :=
  (∀ e, r = .inl e → ∃ v' w', x = some (.inl (some (.int (i3 (0)))), qM X v' w' T c s) ∧ v' 5 5 = e.1 ∧ v' 5 6 = e.2 ∧ frD v' v) ∧
  (∀ u, r = .inr u → ∃ v' w', x = some (.inl (some (.int (i3 (1)))), qM X v' (RD w' b u.2) T c s) ∧ lr v' 46 u.1 ∧ v' 5 = v 5 ∧ frD v' v)
theorem oC_l {x : Option jm_Res} {X : Nat × (Nat → Int32)} {v : Nat → Int → Int} {T c s : Nat} {b : Int → Int} {r : pR} {z : Int} {q : Nat} (hr : r = .inl (z, q)) (h : ∃ v' w', x = some (.inl (some (.int (i3 (0)))), qM X v' w' T c s) ∧ v' 5 5 = z ∧ v' 5 6 = q ∧ frD v' v) : oC x X v T c s b r := by
  subst hr
  exact ⟨fun e he => by cases he; exact h, fun u hu => by cases hu⟩
theorem oC_r {x : Option jm_Res} {X : Nat × (Nat → Int32)} {v : Nat → Int → Int} {T c s : Nat} {b : Int → Int} {r : pR} {μ : Nat → Int → Int} {q : Nat} (hr : r = .inr (μ, q)) (h : ∃ v' w', x = some (.inl (some (.int (i3 (1)))), qM X v' (RD w' b q) T c s) ∧ lr v' 46 μ ∧ v' 5 = v 5 ∧ frD v' v) : oC x X v T c s b r := by
  subst hr
  exact ⟨fun e he => (by cases he), fun u hu => (by cases hu; exact h)⟩
theorem oC_fr {x : Option jm_Res} {X : Nat × (Nat → Int32)} {v v0 : Nat → Int → Int} {T c s : Nat} {b : Int → Int} {r : pR} (h : oC x X v T c s b r) (h5 : v 5 = v0 5) (hf : frD v v0) : oC x X v0 T c s b r := by
  refine ⟨fun e he => ?_, fun u hu => ?_⟩
  · obtain ⟨v', w', a, b, c, d⟩ := h.1 e he
    exact ⟨v', w', a, b, c, frD_tr d hf⟩
  · obtain ⟨v', w', a, b, c, d⟩ := h.2 u hu
    exact ⟨v', w', a, b, c.trans h5, frD_tr d hf⟩
section RDS
variable {w : Nat → Int → Int} {b : Int → Int} {p : Nat}
theorem RD_2 : RD w b p 5 2 = p := rdU_2
theorem RD_3 : RD w b p 5 3 = en b p := rdU_3
theorem RD_1 : RD w b p 5 1 = kd b p := rdU_1
theorem RD_b {n : Nat} (h : n ≠ 5) : RD w b p n = w n := rdU_b h
theorem RD_o {n : Nat} {k z : Int} (h : n ≠ 5) : up (RD w b p) n k z = RD (up w n k z) b p := rdU_o h
theorem RD_4 {n : Nat} {x y : Int} (ho : okB b n) (hp : p ≤ n) (h : isN b p x y) (hy : y ≤ 9999) : RD w b p 5 4 = nv b p := by
  have := nv_b ho hp h.1
  unfold RD
  rw [rdU_4, if_pos h.1]
  omega
end RDS
section SRQ
variable {d : Nat} {X : Nat × (Nat → Int32)} {v w : Nat → Int → Int} {T c s : Nat}
variable {b : Int → Int} {n : Nat} {μ : Nat → Int → Int}
theorem tX7_seesNo_1 {p : Nat} {x y : Int} (h : TB v b n) (hp : p ≤ n) (x0 : 0 ≤ x) (y1 : y ≤ 9999) (g : isN b p x y) : jm_env (d + 2) 72 [.ref 5, .int (i3 x), .int (i3 y)] (qM X v (RD w b p) T c s) = some (.inl (some (.int (i3 (1)))), qM X v (RD w b p) T c s) := tX7_seesNumber_1 h.ok hp g.1 x0 g.2.1 g.2.2 y1
theorem tX7_seesNo_0 {p : Nat} {x y : Int} (h : TB v b n) (hp : p ≤ n) (x0 : 0 ≤ x) (xy : x ≤ y) (y1 : y ≤ 9999) (g : ¬ isN b p x y) : jm_env (d + 2) 72 [.ref 5, .int (i3 x), .int (i3 y)] (qM X v (RD w b p) T c s) = some (.inl (some (.int (i3 (0)))), qM X (up (up v 5 5 (ecN b p)) 5 6 p) (RD w b p) T c s) := by
  unfold ecN
  by_cases k : kd b p = 2
  · rw [if_pos k]
    exact tX7_seesNumber_2 h.ok hp k x0 xy (fun q => g ⟨k, q⟩) y1
  · rw [if_neg k]
    exact tX7_seesNumber_0 k
theorem tX7_seesNa_0 {p : Nat} (h : TB v b n) (hp : p ≤ n) (g : ¬ isM b p) : jm_env (d + 2) 71 [.ref 5] (qM X v (RD w b p) T c s) = some (.inl (some (.int (i3 (0)))), qM X (up (up v 5 5 (ecM b p)) 5 6 p) (RD w b p) T c s) := by
  unfold ecM
  by_cases k : kd b p = 1
  · rw [if_pos k]
    exact tX7_seesName_2 k (fun q => g ⟨k, q⟩) h.ok hp
  · rw [if_neg k]
    exact tX7_seesName_0 k
theorem tX7_isW_1 {p k : Nat} (h : TB v b n) (hp : p ≤ n) (hT : T < 1000000000) (k1 : 1 ≤ k) (k2 : k < 4) (g : isW b p (wNo k)) : jm_env (d + 2) 68 [.ref 5, .ref (1099511627776 + k)] (qM X v (RD w b p) T c s) = some (.inl (some (.int (i3 (1)))), qM X v (RD w b p) T c s) := by
  rw [tX7_isWord h hp hT k1 k2, if_pos g]
theorem tX7_isW_0 {p k : Nat} (h : TB v b n) (hp : p ≤ n) (hT : T < 1000000000) (k1 : 1 ≤ k) (k2 : k < 4) (g : ¬ isW b p (wNo k)) : jm_env (d + 2) 68 [.ref 5, .ref (1099511627776 + k)] (qM X v (RD w b p) T c s) = some (.inl (some (.int (i3 (0)))), qM X v (RD w b p) T c s) := by
  rw [tX7_isWord h hp hT k1 k2, if_neg g]
/-- one size: it fails -/
theorem tX10_readStack_0 {p i : Nat} {to : Int → Int} (h : TB v b n) (hp : p ≤ n) (hlo : LO v 46 μ) (hi : (i : Int) < μ 412 0) (hto : ∀ k : Int, 0 ≤ k → k < 10 → w 7 k = to k ∧ (to k = 0 ∨ to k = 1))
    {z : Int} {q : Nat} (hz : (¬ isN b p 0 9 ∧ z = ecN b p ∧ q = p) ∨ (isN b p 0 9 ∧ (to (nv b p) ≠ 0 ∨ aM μ i (nv b p) = 0) ∧ z = 3 ∧ q = p) ∨ (isN b p 0 9 ∧ ¬ (to (nv b p) ≠ 0 ∨ aM μ i (nv b p) = 0) ∧ ¬ isN b (nx b p) 0 9999 ∧ z = ecN b (nx b p) ∧ q = nx b p)) :
    ∃ w', jm_env (d + 4) 94 [.ref 6, .ref (46 + 7 + 5 * i)] (qM X v (RD w b p) T c s) = some (.inl (some (.int (i3 (0)))), qM X (up (up v 5 5 z) 5 6 q) w' T c s) := by
  have ho := h.ok
  have b1 := (nx_b ho hp).2
  rcases hz with ⟨g, rfl, rfl⟩ | ⟨g, g2, rfl, rfl⟩ | ⟨g, g2, g3, rfl, rfl⟩
  · have e := tX7_seesNo_0 (d := d + 1) (X := X) (w := w) (T := T) (c := c) (s := s) h hp (by omega) (by omega) (by omega) g
    refine ⟨RD w b q, ?_⟩
    simp (disch := first | assumption | omega) only [eX10_readStack, bX10_readStack_0, bX10_readStack_13, bX10_readStack_15, bX10_readStack_32, bX10_readStack_40, bX10_readStack_49, bX10_readStack_77, bX10_readStack_79, r10_0, g7_4, r10_1, a10_1, w10_1, n10_1, i3_add, i3_sub, i3_mul, i3_neg, i6_add, i6_sub, i6_mul, i6_neg, i3_lt, i3_le, i3_eq, i6_lt, i6_eq, i3_div, i6_div, i6_i3, i3_i6, c6_lt, c6_ge, c6_gt, c6_le, c6_eq, i3_ite, i6_ite, ib_0, ib_z, ite_not, i1_0, i0_0, jB_1, jB_0, jB_ib, bI_v, bL_v, bD_v, bV_v, ob_s, ob_i, i3_ofNat, jx_e, bI_e, bL_e, bD_e, bV_e, i3_eq0, i6_eq0, if_mx, if_mn, if_true, if_false, not_true_eq_false, not_false_eq_true, Int.reduceEq, Int.reduceLT, Int.reduceLE, e]
  · have e := tX7_seesNo_1 (d := d + 1) (X := X) (w := w) (T := T) (c := c) (s := s) h hp (by omega) (by omega) g
    have e4 := RD_4 (w := w) ho hp g (by omega)
    obtain ⟨-, y0, y1⟩ := g
    obtain ⟨t1, t2⟩ := hto (nv b q) y0 (by omega)
    have e7 : RD w b q 7 (nv b q) = to (nv b q) := by rw [RD_b (by omega), t1]
    have ef := tX7_fail (d := d + 2) (X := X) (v := v) (w := w) (T := T) (c := c) (s := s) (b := b) (p := q) (z := 3)
    refine ⟨RD w b q, ?_⟩
    by_cases k : to (nv b q) = 0
    · have k2 : (10 ≤ nv b q ∨ aM μ i (nv b q) = 0) = True := eq_true (by rcases g2 with g2 | g2; exact absurd k g2; exact Or.inr g2)
      simp (disch := first | assumption | omega) only [eX10_readStack, bX10_readStack_0, bX10_readStack_13, bX10_readStack_15, bX10_readStack_32, bX10_readStack_40, bX10_readStack_49, bX10_readStack_77, bX10_readStack_79, r10_0, g7_4, r10_1, a10_1, w10_1, n10_1, i3_add, i3_sub, i3_mul, i3_neg, i6_add, i6_sub, i6_mul, i6_neg, i3_lt, i3_le, i3_eq, i6_lt, i6_eq, i3_div, i6_div, i6_i3, i3_i6, c6_lt, c6_ge, c6_gt, c6_le, c6_eq, i3_ite, i6_ite, ib_0, ib_z, ite_not, i1_0, i0_0, jB_1, jB_0, jB_ib, bI_v, bL_v, bD_v, bV_v, ob_s, ob_i, i3_ofNat, jx_e, bI_e, bL_e, bD_e, bV_e, i3_eq0, i6_eq0, if_mx, if_mn, if_true, if_false, not_true_eq_false, not_false_eq_true, Int.reduceEq, Int.reduceLT, Int.reduceLE, e, e4, e7, k, tX9_isVoid hlo, k2, ef]
    · have k2 : (to (nv b q) = 0) = False := eq_false k
      simp (disch := first | assumption | omega) only [↓reduceIte, eX10_readStack, bX10_readStack_0, bX10_readStack_13, bX10_readStack_15, bX10_readStack_32, bX10_readStack_40, bX10_readStack_49, bX10_readStack_77, bX10_readStack_79, r10_0, g7_4, r10_1, a10_1, w10_1, n10_1, i3_add, i3_sub, i3_mul, i3_neg, i6_add, i6_sub, i6_mul, i6_neg, i3_lt, i3_le, i3_eq, i6_lt, i6_eq, i3_div, i6_div, i6_i3, i3_i6, c6_lt, c6_ge, c6_gt, c6_le, c6_eq, i3_ite, i6_ite, ib_0, ib_z, ite_not, i1_0, i0_0, jB_1, jB_0, jB_ib, bI_v, bL_v, bD_v, bV_v, ob_s, ob_i, i3_ofNat, jx_e, bI_e, bL_e, bD_e, bV_e, i3_eq0, i6_eq0, if_mx, if_mn, if_true, if_false, not_true_eq_false, not_false_eq_true, Int.reduceEq, Int.reduceLT, Int.reduceLE, e, e4, e7, k2, ef]
  · have e := tX7_seesNo_1 (d := d + 1) (X := X) (w := w) (T := T) (c := c) (s := s) h hp (by omega) (by omega) g
    have e4 := RD_4 (w := w) ho hp g (by omega)
    obtain ⟨-, y0, y1⟩ := g
    obtain ⟨t1, t2⟩ := hto (nv b p) y0 (by omega)
    have e7 : RD w b p 7 (nv b p) = to (nv b p) := by rw [RD_b (by omega), t1]
    have k : to (nv b p) = 0 := by
      by_cases k : to (nv b p) = 0
      · exact k
      · exact absurd (Or.inl k) g2
    have k2 : (10 ≤ nv b p ∨ aM μ i (nv b p) = 0) = False := eq_false (fun q => by rcases q with q | q; omega; exact g2 (Or.inr q))
    have ea := tX7_advance (d := d + 1) (X := X) (v := v) (w := up w 7 (nv b p) 1) (T := T) (c := c) (s := s) h hp
    have e2 := tX7_seesNo_0 (d := d + 1) (X := X) (v := v) (w := up w 7 (nv b p) 1) (T := T) (c := c) (s := s) h b1 (by omega) (by omega) (by omega) g3
    refine ⟨RD (up w 7 (nv b p) 1) b (nx b p), ?_⟩
    simp (disch := first | assumption | omega) only [eX10_readStack, bX10_readStack_0, bX10_readStack_13, bX10_readStack_15, bX10_readStack_32, bX10_readStack_40, bX10_readStack_49, bX10_readStack_77, bX10_readStack_79, r10_0, g7_4, r10_1, a10_1, w10_1, n10_1, i3_add, i3_sub, i3_mul, i3_neg, i6_add, i6_sub, i6_mul, i6_neg, i3_lt, i3_le, i3_eq, i6_lt, i6_eq, i3_div, i6_div, i6_i3, i3_i6, c6_lt, c6_ge, c6_gt, c6_le, c6_eq, i3_ite, i6_ite, ib_0, ib_z, ite_not, i1_0, i0_0, jB_1, jB_0, jB_ib, bI_v, bL_v, bD_v, bV_v, ob_s, ob_i, i3_ofNat, jx_e, bI_e, bL_e, bD_e, bV_e, i3_eq0, i6_eq0, if_mx, if_mn, if_true, if_false, not_true_eq_false, not_false_eq_true, Int.reduceEq, Int.reduceLT, Int.reduceLE, e, e4, e7, k, tX9_isVoid hlo, k2, RD_o, ea, e2]
/-- one size -/
theorem tX10_readStack_1 {p i : Nat} {to : Int → Int} (h : TB v b n) (hp : p ≤ n) (hlo : LO v 46 μ) (hi : (i : Int) < μ 412 0) (hto : ∀ k : Int, 0 ≤ k → k < 10 → w 7 k = to k ∧ (to k = 0 ∨ to k = 1)) (hk0 : kM μ i (nv b p) = 0)
    (g : isN b p 0 9) (g2 : ¬ (to (nv b p) ≠ 0 ∨ aM μ i (nv b p) = 0)) (g3 : isN b (nx b p) 0 9999) :
    jm_env (d + 4) 94 [.ref 6, .ref (46 + 7 + 5 * i)] (qM X v (RD w b p) T c s) = some (.inl (some (.int (i3 (1)))), qM X (up v (46 + 7 + 5 * i + 4) (nv b p) (nv b (nx b p))) (RD (up w 7 (nv b p) 1) b (nx b (nx b p))) T c s) := by
  have ho := h.ok
  have b1 := (nx_b ho hp).2
  have hc5 := hlo.2.2.1.2.1
  have hs := oSer_of oLnd_46 (i := i) (by omega)
  have e := tX7_seesNo_1 (d := d + 1) (X := X) (w := w) (T := T) (c := c) (s := s) h hp (by omega) (by omega) g
  have e4 := RD_4 (w := w) ho hp g (by omega)
  obtain ⟨-, y0, y1⟩ := g
  obtain ⟨t1, t2⟩ := hto (nv b p) y0 (by omega)
  have e7 : RD w b p 7 (nv b p) = to (nv b p) := by rw [RD_b (by omega), t1]
  have k : to (nv b p) = 0 := by
    by_cases k : to (nv b p) = 0
    · exact k
    · exact absurd (Or.inl k) g2
  have k2 : (10 ≤ nv b p ∨ aM μ i (nv b p) = 0) = False := eq_false (fun q => by rcases q with q | q; omega; exact g2 (Or.inr q))
  have ea := tX7_advance (d := d + 1) (X := X) (v := v) (w := up w 7 (nv b p) 1) (T := T) (c := c) (s := s) h hp
  have e2 := tX7_seesNo_1 (d := d + 1) (X := X) (v := v) (w := up w 7 (nv b p) 1) (T := T) (c := c) (s := s) h b1 (by omega) (by omega) g3
  have e44 := RD_4 (w := up w 7 (nv b p) 1) ho b1 g3 (by omega)
  have ek : v (46 + 7 + 5 * i + 4) (nv b p) = 0 := ((hlo.zr hi (nv b p) y0 (by omega)).2.2).trans hk0
  have h2 : TB (up v (46 + 7 + 5 * i + 4) (nv b p) (nv b (nx b p))) b n := TB_fr h (fun m m1 _ => up_b (by omega))
  have ea2 := tX7_advance (d := d + 1) (X := X) (w := up w 7 (nv b p) 1) (T := T) (c := c) (s := s) h2 b1
  have esum : (0 : Int) + nv b (nx b p) = nv b (nx b p) := by omega
  simp (disch := first | assumption | omega) only [eX10_readStack, bX10_readStack_0, bX10_readStack_13, bX10_readStack_15, bX10_readStack_32, bX10_readStack_40, bX10_readStack_49, bX10_readStack_77, bX10_readStack_79, r10_0, g7_4, r10_1, a10_1, w10_1, n10_1, i3_add, i3_sub, i3_mul, i3_neg, i6_add, i6_sub, i6_mul, i6_neg, i3_lt, i3_le, i3_eq, i6_lt, i6_eq, i3_div, i6_div, i6_i3, i3_i6, c6_lt, c6_ge, c6_gt, c6_le, c6_eq, i3_ite, i6_ite, ib_0, ib_z, ite_not, i1_0, i0_0, jB_1, jB_0, jB_ib, bI_v, bL_v, bD_v, bV_v, ob_s, ob_i, i3_ofNat, jx_e, bI_e, bL_e, bD_e, bV_e, i3_eq0, i6_eq0, if_mx, if_mn, if_true, if_false, not_true_eq_false, not_false_eq_true, Int.reduceEq, Int.reduceLT, Int.reduceLE, e, e4, e7, k, tX9_isVoid hlo, k2, RD_o, ea, e2, e44, sX9_addSheets, ek, esum, ea2]
/-- the sizes of a series -/
theorem tX10_sizes {i : Nat} : ∀ (f j : Nat) (v w : Nat → Int → Int) (μ : Nat → Int → Int) (to : Int → Int) (p : Nat), j + f = 11 → TB v b n → p ≤ n → lr v 46 μ → suM μ → (i : Int) < μ 412 0 → (∀ k : Int, 0 ≤ k → k < 10 → w 7 k = to k ∧ (to k = 0 ∨ to k = 1)) → (∀ k : Int, 0 ≤ k → k < 10 → to k = 0 → kM μ i k = 0) → T < 1000000000 →
    oC (jm_R (jm_env (d + 4)) jmM_X10_readSizes 23 [some (.ref 6), some (.ref (46 + 7 + 5 * i)), some (.int (i3 j))] [] (qM X v (RD w b p) T c s)) X v T c s b (szP b i f μ to p) := by
  intro f
  induction f with
  | zero =>
    intro j v w μ to p hj h hp hl hs hi hto hk0 hT
    refine oC_r rfl ⟨v, w, ?_, hl, rfl, frD_id⟩
    rw [bX10_readSizes_23]
    simp (disch := first | assumption | omega) only [i3_add, i3_sub, i3_mul, i3_neg, i6_add, i6_sub, i6_mul, i6_neg, i3_lt, i3_le, i3_eq, i6_lt, i6_eq, i3_div, i6_div, i6_i3, i3_i6, c6_lt, c6_ge, c6_gt, c6_le, c6_eq, i3_ite, i6_ite, ib_0, ib_z, ite_not, i1_0, i0_0, jB_1, jB_0, jB_ib, bI_v, bL_v, bD_v, bV_v, ob_s, ob_i, i3_ofNat, jx_e, bI_e, bL_e, bD_e, bV_e, i3_eq0, i6_eq0, if_mx, if_mn, if_true, if_false, not_true_eq_false, not_false_eq_true, Int.reduceEq, Int.reduceLT, Int.reduceLE, bX10_readSizes_64]
    rw [if_pos (by omega)]
  | succ f ih =>
    intro j v w μ to p hj h hp hl hs hi hto hk0 hT
    have ho := h.ok
    have b1 := (nx_b ho hp).2
    have b2 := (nx_b ho b1).2
    have b3 := (nx_b ho b2).2
    have hlo : LO v 46 μ := ⟨oLnd_46, hl, hs.1, hs.2.2.1⟩
    have hj10 : (10 < (j : Int)) = False := eq_false (by omega)
    unfold szP
    by_cases q1 : isW b p 632645
    · have q1' : isW b p (wNo 3) := by rw [wNo_3]; exact q1
      have e1 := tX7_isW_1 (d := d + 2) (X := X) (w := w) (c := c) (s := s) h hp hT (by omega) (by omega) q1'
      have ea := tX7_advance (d := d + 2) (X := X) (w := w) (T := T) (c := c) (s := s) h hp
      have head : jm_R (jm_env (d + 4)) jmM_X10_readSizes 23 [some (.ref 6), some (.ref (46 + 7 + 5 * i)), some (.int (i3 j))] [] (qM X v (RD w b p) T c s) = (jm_env (d + 4) 94 [.ref 6, .ref (46 + 7 + 5 * i)] (qM X v (RD w b (nx b p)) T c s)).bind (jm_bI (fun v3 m4 => if v3 = i3 0 then jm_R (jm_env (d + 4)) jmM_X10_readSizes 56 [some (.ref 6), some (.ref (46 + 7 + 5 * i)), some (.int (i3 j))] [] m4 else jm_R (jm_env (d + 4)) jmM_X10_readSizes 58 [some (.ref 6), some (.ref (46 + 7 + 5 * i)), some (.int (i3 j))] [] m4) jm_x) := by
        rw [bX10_readSizes_23]
        simp (disch := first | assumption | omega) only [↓reduceIte, i3_add, i3_sub, i3_mul, i3_neg, i6_add, i6_sub, i6_mul, i6_neg, i3_lt, i3_le, i3_eq, i6_lt, i6_eq, i3_div, i6_div, i6_i3, i3_i6, c6_lt, c6_ge, c6_gt, c6_le, c6_eq, i3_ite, i6_ite, ib_0, ib_z, ite_not, i1_0, i0_0, jB_1, jB_0, jB_ib, bI_v, bL_v, bD_v, bV_v, ob_s, ob_i, i3_ofNat, jx_e, bI_e, bL_e, bD_e, bV_e, i3_eq0, i6_eq0, if_mx, if_mn, if_true, if_false, not_true_eq_false, not_false_eq_true, Int.reduceEq, Int.reduceLT, Int.reduceLE, hj10, bX10_readSizes_29, bX10_readSizes_41, r10_0, show (1099511627779 : Nat) = 1099511627776 + 3 from rfl, e1, ea]
      rw [head, if_pos q1]
      have hfail : ∀ {z : Int} {q : Nat} {r : pR}, r = .inl (z, q) → (∃ w', jm_env (d + 4) 94 [.ref 6, .ref (46 + 7 + 5 * i)] (qM X v (RD w b (nx b p)) T c s) = some (.inl (some (.int (i3 (0)))), qM X (up (up v 5 5 z) 5 6 q) w' T c s)) → oC ((jm_env (d + 4) 94 [.ref 6, .ref (46 + 7 + 5 * i)] (qM X v (RD w b (nx b p)) T c s)).bind (jm_bI (fun v3 m4 => if v3 = i3 0 then jm_R (jm_env (d + 4)) jmM_X10_readSizes 56 [some (.ref 6), some (.ref (46 + 7 + 5 * i)), some (.int (i3 j))] [] m4 else jm_R (jm_env (d + 4)) jmM_X10_readSizes 58 [some (.ref 6), some (.ref (46 + 7 + 5 * i)), some (.int (i3 j))] [] m4) jm_x)) X v T c s b r := by
        intro z q r hr hw
        obtain ⟨w', hw⟩ := hw
        refine oC_l hr ⟨up (up v 5 5 z) 5 6 q, w', ?_, by rw [up_ne (by omega), up_eq], up_eq, frD_e⟩
        simp (disch := first | assumption | omega) only [hw, i3_add, i3_sub, i3_mul, i3_neg, i6_add, i6_sub, i6_mul, i6_neg, i3_lt, i3_le, i3_eq, i6_lt, i6_eq, i3_div, i6_div, i6_i3, i3_i6, c6_lt, c6_ge, c6_gt, c6_le, c6_eq, i3_ite, i6_ite, ib_0, ib_z, ite_not, i1_0, i0_0, jB_1, jB_0, jB_ib, bI_v, bL_v, bD_v, bV_v, ob_s, ob_i, i3_ofNat, jx_e, bI_e, bL_e, bD_e, bV_e, i3_eq0, i6_eq0, if_mx, if_mn, if_true, if_false, not_true_eq_false, not_false_eq_true, Int.reduceEq, Int.reduceLT, Int.reduceLE, bX10_readSizes_56]
      by_cases q2 : isN b (nx b p) 0 9
      · rw [if_pos q2]
        by_cases q3 : to (nv b (nx b p)) ≠ 0 ∨ aM μ i (nv b (nx b p)) = 0
        · rw [if_pos q3]
          exact hfail rfl (tX10_readStack_0 h b1 hlo hi hto (Or.inr (Or.inl ⟨q2, q3, rfl, rfl⟩)))
        · rw [if_neg q3]
          by_cases q4 : isN b (nx b (nx b p)) 0 9999
          · rw [if_pos q4]
            obtain ⟨-, y0, y1⟩ := id q2
            obtain ⟨-, z0, z1⟩ := id q4
            have hto0 : to (nv b (nx b p)) = 0 := by
              by_cases k : to (nv b (nx b p)) = 0
              · exact k
              · exact absurd (Or.inl k) q3
            have e5 := tX10_readStack_1 (d := d) (X := X) (w := w) (T := T) (c := c) (s := s) h b1 hlo hi hto (hk0 _ y0 (by omega) hto0) q2 q3 q4
            simp (disch := first | assumption | omega) only [e5, i3_add, i3_sub, i3_mul, i3_neg, i6_add, i6_sub, i6_mul, i6_neg, i3_lt, i3_le, i3_eq, i6_lt, i6_eq, i3_div, i6_div, i6_i3, i3_i6, c6_lt, c6_ge, c6_gt, c6_le, c6_eq, i3_ite, i6_ite, ib_0, ib_z, ite_not, i1_0, i0_0, jB_1, jB_0, jB_ib, bI_v, bL_v, bD_v, bV_v, ob_s, ob_i, i3_ofNat, jx_e, bI_e, bL_e, bD_e, bV_e, i3_eq0, i6_eq0, if_mx, if_mn, if_true, if_false, not_true_eq_false, not_false_eq_true, Int.reduceEq, Int.reduceLT, Int.reduceLE, bX10_readSizes_58]
            have hf : frD (up v (46 + 7 + 5 * i + 4) (nv b (nx b p)) (nv b (nx b (nx b p)))) v := fun m m1 _ => up_b (by have := hs.1.2.1; omega)
            refine oC_fr ?_ (up_b (by omega)) hf
            have hr := ih (j + 1) (up v (46 + 7 + 5 * i + 4) (nv b (nx b p)) (nv b (nx b (nx b p)))) (up w 7 (nv b (nx b p)) 1) (up μ 412 (12 + 13 * i + 3 + nv b (nx b p)) (nv b (nx b (nx b p)))) (st1 to (nv b (nx b p)) 1) (nx b (nx b (nx b p))) (by omega) (TB_fr h hf) b3 (lr_stackD hl hs.1.2.1 (by rw [hs.2.2.2.2 3 (by omega) (by omega)]; omega) hi y0 (by omega)) (suM_st hs (by omega) hi y0 (by omega) z0 z1) (by rw [up_ne (by omega)]; exact hi) (fun k k0 k1 => ?_) (fun k k0 k1 k2 => ?_) hT
            · exact hr
            · unfold st1
              by_cases e : k = nv b (nx b p)
              · rw [e, up_eq, if_pos rfl]; exact ⟨rfl, Or.inr rfl⟩
              · rw [up_ne (by omega), if_neg e]; exact hto k k0 k1
            · unfold st1 at k2
              by_cases e : k = nv b (nx b p)
              · rw [if_pos e] at k2; omega
              · rw [if_neg e] at k2
                rw [kM_up (by omega)]
                exact hk0 k k0 k1 k2
          · rw [if_neg q4]
            exact hfail rfl (tX10_readStack_0 h b1 hlo hi hto (Or.inr (Or.inr ⟨q2, q3, q4, rfl, rfl⟩)))
      · rw [if_neg q2]
        exact hfail rfl (tX10_readStack_0 h b1 hlo hi hto (Or.inl ⟨q2, rfl, rfl⟩))
    · have q1' : ¬ isW b p (wNo 3) := by rw [wNo_3]; exact q1
      have e1 := tX7_isW_0 (d := d + 2) (X := X) (w := w) (c := c) (s := s) h hp hT (by omega) (by omega) q1'
      rw [if_neg q1]
      refine oC_r rfl ⟨v, w, ?_, hl, rfl, frD_id⟩
      rw [bX10_readSizes_23]
      simp (disch := first | assumption | omega) only [↓reduceIte, i3_add, i3_sub, i3_mul, i3_neg, i6_add, i6_sub, i6_mul, i6_neg, i3_lt, i3_le, i3_eq, i6_lt, i6_eq, i3_div, i6_div, i6_i3, i3_i6, c6_lt, c6_ge, c6_gt, c6_le, c6_eq, i3_ite, i6_ite, ib_0, ib_z, ite_not, i1_0, i0_0, jB_1, jB_0, jB_ib, bI_v, bL_v, bD_v, bV_v, ob_s, ob_i, i3_ofNat, jx_e, bI_e, bL_e, bD_e, bV_e, i3_eq0, i6_eq0, if_mx, if_mn, if_true, if_false, not_true_eq_false, not_false_eq_true, Int.reduceEq, Int.reduceLT, Int.reduceLE, hj10, bX10_readSizes_29, bX10_readSizes_64, r10_0, show (1099511627779 : Nat) = 1099511627776 + 3 from rfl, e1]
end SRQ
