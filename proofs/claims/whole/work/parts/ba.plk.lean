-- uses 24.zar 25.obj 26.ops 31.re 34.gen 38.mod 39.mo2 40.mo3 44.mo6 46.mo8 53.cla 62.clj 64.okm 93.tka 96.srd 97.srp a2.rfa a3.rfb a4.rfc a5.rfd b0.pla b7.plh b8.pli b9.plj
/-! The reference's loop over a script: one step. -/
theorem GD_fr {w w' : Nat → Int → Int} {b : Int → Int} {n p : Nat} (h : GD w b n p) (e : ∀ k : Int, 17 ≤ k → k ≤ 26 → w' 411 k = w 411 k) (e2 : ∀ k : Int, w' 421 k = w 421 k) : GD w' b n p := by
  obtain ⟨⟨⟨t1, t2, t3⟩, s1, s2, s3, s4, s5, s6, s7⟩, h22⟩ := h
  refine ⟨⟨⟨t1, (e 17 (by omega) (by omega)).trans t2, fun k k0 k1 => (e2 k).trans (t3 k k0 k1)⟩, s1, (e 18 (by omega) (by omega)).trans s2, (e 19 (by omega) (by omega)).trans s3, (e 20 (by omega) (by omega)).trans s4, ?_, fun q => (e 21 (by omega) (by omega)).trans (s6 q), fun q => (e 26 (by omega) (by omega)).trans (s7 q)⟩, (e 22 (by omega) (by omega)).trans h22⟩
  rw [e 21 (by omega) (by omega)]; exact s5
theorem BD_fr {w w' : Nat → Int → Int} {b : Int → Int} {n q : Nat} {cd : Int} (h : BD w b n cd q) (e : ∀ k : Int, 17 ≤ k → k ≤ 26 → w' 411 k = w 411 k) (e2 : ∀ k : Int, w' 421 k = w 421 k) : BD w' b n cd q := by
  obtain ⟨⟨p, ⟨t1, t2, t3⟩, s1, s2, s3, s4, s5, s6, s7⟩, h22, h23, hc⟩ := h
  refine ⟨⟨p, ⟨t1, (e 17 (by omega) (by omega)).trans t2, fun k k0 k1 => (e2 k).trans (t3 k k0 k1)⟩, s1, (e 18 (by omega) (by omega)).trans s2, (e 19 (by omega) (by omega)).trans s3, (e 20 (by omega) (by omega)).trans s4, ?_, fun q => (e 21 (by omega) (by omega)).trans (s6 q), fun q => (e 26 (by omega) (by omega)).trans (s7 q)⟩, (e 22 (by omega) (by omega)).trans h22, (e 23 (by omega) (by omega)).trans h23, hc⟩
  rw [e 21 (by omega) (by omega)]; exact s5
theorem GD_u {w : Nat → Int → Int} {b : Int → Int} {n p : Nat} {k z : Int} (h : GD w b n p) (hk : 26 < k) : GD (up w 411 k z) b n p := GD_fr h (fun j j0 j1 => up_ne (by omega)) (fun j => up_ne (by omega))
theorem BD_u {w : Nat → Int → Int} {b : Int → Int} {n q : Nat} {cd k z : Int} (h : BD w b n cd q) (hk : 26 < k) : BD (up w 411 k z) b n cd q := BD_fr h (fun j j0 j1 => up_ne (by omega)) (fun j => up_ne (by omega))
theorem GD_a {w : Nat → Int → Int} {b : Int → Int} {n p m : Nat} {k z : Int} (h : GD w b n p) (hm : m = 422 ∨ m = 423) : GD (up w m k z) b n p := GD_fr h (fun j j0 j1 => up_ne (by omega)) (fun j => up_ne (by omega))
/-- what the first going through may change -/
def frP (w' w : Nat → Int → Int) : Prop := ∀ (m : Nat) (k : Int), m ≠ 422 → m ≠ 423 → (m ≠ 411 ∨ k < 18 ∨ (23 < k ∧ k ≠ 26 ∧ k ≠ 29 ∧ k ≠ 30)) → w' m k = w m k
theorem frP_id {w : Nat → Int → Int} : frP w w := fun _ _ _ _ _ => rfl
theorem frP_tr {w w' w'' : Nat → Int → Int} (h : frP w'' w') (g : frP w' w) : frP w'' w := fun m k a b c => (h m k a b c).trans (g m k a b c)
theorem frT.p {w w' : Nat → Int → Int} (h : frT w' w) : frP w' w := fun m k _ _ hk => h m k (by omega)
theorem frP_u {w : Nat → Int → Int} {k z : Int} (hk : k = 29 ∨ k = 30) : frP (up w 411 k z) w := fun m j _ _ hj => up_ne (by omega)
section PLK
variable {d : Nat} {X : Nat × (Nat → Int32)} {v w : Nat → Int → Int} {T c s : Nat}
variable {b : Int → Int} {n : Nat}
theorem sX12_orderText_e {p : Nat} {tot dep : Int} (hT : 18 ≤ T) (h : GD w b n p) (h27 : w 411 27 = 0) (h29 : w 411 29 = tot) (h30 : w 411 30 = dep) (t0 : 0 ≤ tot) (t1 : tot ≤ 30) (d0 : 0 ≤ dep) (d1 : dep ≤ 3) (hk : kw b p = -1) :
    ∃ w', jm_env (d + 10) 271 [.ref 411] (qM X v w T c s) = some (.inl none, qM X v w' T c s) ∧ BD w' b n 1 p ∧ frP w' w := by
  have e1 := sX12_isOrder (d := d + 7) (X := X) (v := v) (T := T) (c := c) (s := s) hT h
  rw [if_pos hk] at e1
  have e2 := sX12_must_0 (d := d + 8) (X := X) (v := v) (T := T) (c := c) (s := s) (z := 1) hT h.2 h.1
  obtain ⟨hb, f1⟩ := BD_mk (z := 1) h.1 (by omega) (by omega)
  have w27 := (f1 411 27 (by omega)).trans h27
  have w29 := (f1 411 29 (by omega)).trans h29
  generalize up (up w 411 22 1) 411 23 (p : Int) = w1 at *
  obtain ⟨h22, -⟩ := BD_b hb
  have e3 := sX12_isWord_bad (d := d + 8) (X := X) (v := v) (T := T) (c := c) (s := s) (W := 1279278) hT hb
  have e4 := sX12_must_bad (d := d + 8) (X := X) (v := v) (T := T) (c := c) (s := s) (z := 4) (x := 1) hT h22 (by omega) (by omega) (Or.inr rfl)
  have e5 := sX12_must_bad (d := d + 8) (X := X) (v := v) (T := T) (c := c) (s := s) (z := 4) (x := 0) hT h22 (by omega) (by omega) (Or.inl rfl)
  have u22 : up w1 411 29 (tot + 1) 411 22 = 1 := by rw [up_ne (by omega)]; exact h22
  have q10 : ((1 : Int) = 0) = False := by decide
  refine ⟨up w1 411 29 (tot + 1), ?_, BD_u hb (by omega), frP_tr (frP_u (by omega)) f1.p⟩
  rw [eX12_orderText (h := hT), bX12_orderText_0]
  by_cases g : 30 ≤ tot
  · have q : (30 ≤ tot) = True := eq_true g
    simp (disch := first | assumption | omega) only [↓reduceIte, i3_add, i3_sub, i3_mul, i3_neg, i6_add, i6_sub, i6_mul, i6_neg, i3_lt, i3_le, i3_eq, i6_lt, i6_eq, i3_div, i6_div, i6_i3, i3_i6, c6_lt, c6_ge, c6_gt, c6_le, c6_eq, i3_ite, i6_ite, ib_0, ib_z, ite_not, i1_0, i0_0, jB_1, jB_0, jB_ib, bI_v, bL_v, bD_v, bV_v, ob_s, ob_i, i3_ofNat, jx_e, bI_e, bL_e, bD_e, bV_e, i3_eq0, i6_eq0, if_mx, if_mn, if_true, if_false, not_true_eq_false, not_false_eq_true, Int.reduceEq, Int.reduceLT, Int.reduceLE, e1, e2, e3, q10, bX12_orderText_30, bX12_orderText_35, e4, g12_27, w27, bX12_orderText_46, g12_29, w29, q, bX12_orderText_60, bX12_orderText_61, e5, p12_29, bX12_orderText_75, g12_22, u22, bX12_orderText_82]
  · have q : (30 ≤ tot) = False := eq_false g
    simp (disch := first | assumption | omega) only [↓reduceIte, i3_add, i3_sub, i3_mul, i3_neg, i6_add, i6_sub, i6_mul, i6_neg, i3_lt, i3_le, i3_eq, i6_lt, i6_eq, i3_div, i6_div, i6_i3, i3_i6, c6_lt, c6_ge, c6_gt, c6_le, c6_eq, i3_ite, i6_ite, ib_0, ib_z, ite_not, i1_0, i0_0, jB_1, jB_0, jB_ib, bI_v, bL_v, bD_v, bV_v, ob_s, ob_i, i3_ofNat, jx_e, bI_e, bL_e, bD_e, bV_e, i3_eq0, i6_eq0, if_mx, if_mn, if_true, if_false, not_true_eq_false, not_false_eq_true, Int.reduceEq, Int.reduceLT, Int.reduceLE, e1, e2, e3, q10, bX12_orderText_30, bX12_orderText_35, e4, g12_27, w27, bX12_orderText_46, g12_29, w29, q, bX12_orderText_56, bX12_orderText_61, p12_29, bX12_orderText_75, g12_22, u22, bX12_orderText_82]
theorem sX12_orderText_f {p : Nat} {tot dep : Int} (hT : 18 ≤ T) (h : GD w b n p) (h27 : w 411 27 = 0) (h29 : w 411 29 = tot) (h30 : w 411 30 = dep) (t0 : 0 ≤ tot) (t1 : tot ≤ 30) (d0 : 0 ≤ dep) (d1 : dep ≤ 3) (hk : kw b p ≠ -1) (hf : 30 ≤ tot ∨ (kw b p = 5 ∧ 3 ≤ dep)) :
    ∃ w', jm_env (d + 10) 271 [.ref 411] (qM X v w T c s) = some (.inl none, qM X v w' T c s) ∧ BD w' b n 4 p ∧ frP w' w := by
  have e1 := sX12_isOrder (d := d + 7) (X := X) (v := v) (T := T) (c := c) (s := s) hT h
  rw [if_neg hk] at e1
  have e2 := sX12_must_1 (d := d + 8) (X := X) (v := v) (T := T) (c := c) (s := s) (z := 1) hT h.2
  have e3 := sX12_isWord (d := d + 8) (X := X) (v := v) (T := T) (c := c) (s := s) (W := 1279278) hT h (by omega) (by omega)
  have e4 := sX12_must_1 (d := d + 8) (X := X) (v := v) (T := T) (c := c) (s := s) (z := 4) hT h.2
  have e5 := sX12_must_0 (d := d + 8) (X := X) (v := v) (T := T) (c := c) (s := s) (z := 4) hT h.2 h.1
  obtain ⟨hb, f1⟩ := BD_mk (z := 4) h.1 (by omega) (by omega)
  have w27 := (f1 411 27 (by omega)).trans h27
  have w29 := (f1 411 29 (by omega)).trans h29
  generalize up (up w 411 22 4) 411 23 (p : Int) = w1 at *
  obtain ⟨h22, -⟩ := BD_b hb
  have e6 := sX12_must_bad (d := d + 8) (X := X) (v := v) (T := T) (c := c) (s := s) (z := 4) (x := 0) hT h22 (by omega) (by omega) (Or.inl rfl)
  have e7 := sX12_must_bad (d := d + 8) (X := X) (v := v) (T := T) (c := c) (s := s) (z := 4) (x := 1) hT h22 (by omega) (by omega) (Or.inr rfl)
  have u22 : up w1 411 29 (tot + 1) 411 22 = 4 := by rw [up_ne (by omega)]; exact h22
  have q10 : ((1 : Int) = 0) = False := by decide
  have q11 : ((4 : Int) = 0) = False := by decide
  refine ⟨up w1 411 29 (tot + 1), ?_, BD_u hb (by omega), frP_tr (frP_u (by omega)) f1.p⟩
  rw [eX12_orderText (h := hT), bX12_orderText_0]
  by_cases g5 : kw b p = 5
  · rw [if_pos (kw_5.mpr g5)] at e3
    by_cases g3 : 3 ≤ dep
    · have q3 : (3 ≤ dep) = True := eq_true g3
      by_cases g : 30 ≤ tot
      · have q : (30 ≤ tot) = True := eq_true g
        simp (disch := first | assumption | omega) only [↓reduceIte, i3_add, i3_sub, i3_mul, i3_neg, i6_add, i6_sub, i6_mul, i6_neg, i3_lt, i3_le, i3_eq, i6_lt, i6_eq, i3_div, i6_div, i6_i3, i3_i6, c6_lt, c6_ge, c6_gt, c6_le, c6_eq, i3_ite, i6_ite, ib_0, ib_z, ite_not, i1_0, i0_0, jB_1, jB_0, jB_ib, bI_v, bL_v, bD_v, bV_v, ob_s, ob_i, i3_ofNat, jx_e, bI_e, bL_e, bD_e, bV_e, i3_eq0, i6_eq0, if_mx, if_mn, if_true, if_false, not_true_eq_false, not_false_eq_true, Int.reduceEq, Int.reduceLT, Int.reduceLE, e1, e2, e3, q10, bX12_orderText_22, g12_30, h30, q3, bX12_orderText_34, bX12_orderText_35, e5, g12_27, w27, bX12_orderText_46, g12_29, w29, q, bX12_orderText_60, bX12_orderText_61, e6, p12_29, bX12_orderText_75, g12_22, u22, q11, bX12_orderText_82]
      · have q : (30 ≤ tot) = False := eq_false g
        simp (disch := first | assumption | omega) only [↓reduceIte, i3_add, i3_sub, i3_mul, i3_neg, i6_add, i6_sub, i6_mul, i6_neg, i3_lt, i3_le, i3_eq, i6_lt, i6_eq, i3_div, i6_div, i6_i3, i3_i6, c6_lt, c6_ge, c6_gt, c6_le, c6_eq, i3_ite, i6_ite, ib_0, ib_z, ite_not, i1_0, i0_0, jB_1, jB_0, jB_ib, bI_v, bL_v, bD_v, bV_v, ob_s, ob_i, i3_ofNat, jx_e, bI_e, bL_e, bD_e, bV_e, i3_eq0, i6_eq0, if_mx, if_mn, if_true, if_false, not_true_eq_false, not_false_eq_true, Int.reduceEq, Int.reduceLT, Int.reduceLE, e1, e2, e3, q10, bX12_orderText_22, g12_30, h30, q3, bX12_orderText_34, bX12_orderText_35, e5, g12_27, w27, bX12_orderText_46, g12_29, w29, q, bX12_orderText_56, bX12_orderText_61, e7, p12_29, bX12_orderText_75, g12_22, u22, q11, bX12_orderText_82]
    · have q3 : (3 ≤ dep) = False := eq_false g3
      have q : (30 ≤ tot) = True := eq_true (by omega)
      simp (disch := first | assumption | omega) only [↓reduceIte, i3_add, i3_sub, i3_mul, i3_neg, i6_add, i6_sub, i6_mul, i6_neg, i3_lt, i3_le, i3_eq, i6_lt, i6_eq, i3_div, i6_div, i6_i3, i3_i6, c6_lt, c6_ge, c6_gt, c6_le, c6_eq, i3_ite, i6_ite, ib_0, ib_z, ite_not, i1_0, i0_0, jB_1, jB_0, jB_ib, bI_v, bL_v, bD_v, bV_v, ob_s, ob_i, i3_ofNat, jx_e, bI_e, bL_e, bD_e, bV_e, i3_eq0, i6_eq0, if_mx, if_mn, if_true, if_false, not_true_eq_false, not_false_eq_true, Int.reduceEq, Int.reduceLT, Int.reduceLE, e1, e2, e3, q10, bX12_orderText_22, g12_30, h30, q3, bX12_orderText_30, bX12_orderText_35, e4, g12_27, h27, bX12_orderText_46, g12_29, h29, q, bX12_orderText_60, bX12_orderText_61, e5, w29, p12_29, bX12_orderText_75, g12_22, u22, q11, bX12_orderText_82]
  · rw [if_neg (fun q => g5 (kw_5.mp q))] at e3
    have q : (30 ≤ tot) = True := eq_true (by omega)
    simp (disch := first | assumption | omega) only [↓reduceIte, i3_add, i3_sub, i3_mul, i3_neg, i6_add, i6_sub, i6_mul, i6_neg, i3_lt, i3_le, i3_eq, i6_lt, i6_eq, i3_div, i6_div, i6_i3, i3_i6, c6_lt, c6_ge, c6_gt, c6_le, c6_eq, i3_ite, i6_ite, ib_0, ib_z, ite_not, i1_0, i0_0, jB_1, jB_0, jB_ib, bI_v, bL_v, bD_v, bV_v, ob_s, ob_i, i3_ofNat, jx_e, bI_e, bL_e, bD_e, bV_e, i3_eq0, i6_eq0, if_mx, if_mn, if_true, if_false, not_true_eq_false, not_false_eq_true, Int.reduceEq, Int.reduceLT, Int.reduceLE, e1, e2, e3, q10, bX12_orderText_30, bX12_orderText_35, e4, g12_27, h27, bX12_orderText_46, g12_29, h29, q, bX12_orderText_60, bX12_orderText_61, e5, w29, p12_29, bX12_orderText_75, g12_22, u22, q11, bX12_orderText_82]
/-- past the head -/
theorem sX12_orderText_h {p : Nat} {tot dep g : Int} (hT : 18 ≤ T) (h : GD w b n p) (hg : g = 0 ∨ g = 1) (h27 : w 411 27 = g) (h29 : g = 0 → w 411 29 = tot) (h30 : w 411 30 = dep) (t0 : 0 ≤ tot) (t1 : tot ≤ 30) (d0 : 0 ≤ dep) (d1 : dep ≤ 3) (hk : kw b p ≠ -1) (hf : (g = 0 → tot < 30) ∧ (kw b p = 5 → dep < 3)) :
    jm_env (d + 10) 271 [.ref 411] (qM X v w T c s) = jm_R (jm_env (d + 9)) jmM_X12_orderText 83 [some (.ref 411), some (.int (i3 (if kw b p = 5 then 1 else 0))), none, none] [] (qM X v (if g = 0 then up w 411 29 (tot + 1) else w) T c s) := by
  have e1 := sX12_isOrder (d := d + 7) (X := X) (v := v) (T := T) (c := c) (s := s) hT h
  rw [if_neg hk] at e1
  have e2 := sX12_must_1 (d := d + 8) (X := X) (v := v) (T := T) (c := c) (s := s) (z := 1) hT h.2
  have e3 := sX12_isWord (d := d + 8) (X := X) (v := v) (T := T) (c := c) (s := s) (W := 1279278) hT h (by omega) (by omega)
  have e4 := sX12_must_1 (d := d + 8) (X := X) (v := v) (T := T) (c := c) (s := s) (z := 4) hT h.2
  have u22 : up w 411 29 (tot + 1) 411 22 = 0 := by rw [up_ne (by omega)]; exact h.2
  have h22 := h.2
  have q10 : ((1 : Int) = 0) = False := by decide
  rw [eX12_orderText (h := hT), bX12_orderText_0]
  by_cases g5 : kw b p = 5
  · rw [if_pos (kw_5.mpr g5)] at e3
    rw [if_pos g5]
    have q3 : (3 ≤ dep) = False := eq_false (by have := hf.2 g5; omega)
    rcases hg with rfl | rfl
    · have q : (30 ≤ tot) = False := eq_false (by have := hf.1 rfl; omega)
      have h29 := h29 rfl
      simp (disch := first | assumption | omega) only [↓reduceIte, i3_add, i3_sub, i3_mul, i3_neg, i6_add, i6_sub, i6_mul, i6_neg, i3_lt, i3_le, i3_eq, i6_lt, i6_eq, i3_div, i6_div, i6_i3, i3_i6, c6_lt, c6_ge, c6_gt, c6_le, c6_eq, i3_ite, i6_ite, ib_0, ib_z, ite_not, i1_0, i0_0, jB_1, jB_0, jB_ib, bI_v, bL_v, bD_v, bV_v, ob_s, ob_i, i3_ofNat, jx_e, bI_e, bL_e, bD_e, bV_e, i3_eq0, i6_eq0, if_mx, if_mn, if_true, if_false, not_true_eq_false, not_false_eq_true, Int.reduceEq, Int.reduceLT, Int.reduceLE, e1, e2, e3, q10, bX12_orderText_22, g12_30, h30, q3, bX12_orderText_30, bX12_orderText_35, e4, g12_27, h27, bX12_orderText_46, g12_29, h29, q, bX12_orderText_56, bX12_orderText_61, p12_29, bX12_orderText_75, g12_22, u22]
    · simp (disch := first | assumption | omega) only [↓reduceIte, i3_add, i3_sub, i3_mul, i3_neg, i6_add, i6_sub, i6_mul, i6_neg, i3_lt, i3_le, i3_eq, i6_lt, i6_eq, i3_div, i6_div, i6_i3, i3_i6, c6_lt, c6_ge, c6_gt, c6_le, c6_eq, i3_ite, i6_ite, ib_0, ib_z, ite_not, i1_0, i0_0, jB_1, jB_0, jB_ib, bI_v, bL_v, bD_v, bV_v, ob_s, ob_i, i3_ofNat, jx_e, bI_e, bL_e, bD_e, bV_e, i3_eq0, i6_eq0, if_mx, if_mn, if_true, if_false, not_true_eq_false, not_false_eq_true, Int.reduceEq, Int.reduceLT, Int.reduceLE, e1, e2, e3, q10, bX12_orderText_22, g12_30, h30, q3, bX12_orderText_30, bX12_orderText_35, e4, g12_27, h27, bX12_orderText_75, g12_22, h22]
  · rw [if_neg (fun q => g5 (kw_5.mp q))] at e3
    rw [if_neg g5]
    rcases hg with rfl | rfl
    · have q : (30 ≤ tot) = False := eq_false (by have := hf.1 rfl; omega)
      have h29 := h29 rfl
      simp (disch := first | assumption | omega) only [↓reduceIte, i3_add, i3_sub, i3_mul, i3_neg, i6_add, i6_sub, i6_mul, i6_neg, i3_lt, i3_le, i3_eq, i6_lt, i6_eq, i3_div, i6_div, i6_i3, i3_i6, c6_lt, c6_ge, c6_gt, c6_le, c6_eq, i3_ite, i6_ite, ib_0, ib_z, ite_not, i1_0, i0_0, jB_1, jB_0, jB_ib, bI_v, bL_v, bD_v, bV_v, ob_s, ob_i, i3_ofNat, jx_e, bI_e, bL_e, bD_e, bV_e, i3_eq0, i6_eq0, if_mx, if_mn, if_true, if_false, not_true_eq_false, not_false_eq_true, Int.reduceEq, Int.reduceLT, Int.reduceLE, e1, e2, e3, q10, bX12_orderText_30, bX12_orderText_35, e4, g12_27, h27, bX12_orderText_46, g12_29, h29, q, bX12_orderText_56, bX12_orderText_61, p12_29, bX12_orderText_75, g12_22, u22]
    · simp (disch := first | assumption | omega) only [↓reduceIte, i3_add, i3_sub, i3_mul, i3_neg, i6_add, i6_sub, i6_mul, i6_neg, i3_lt, i3_le, i3_eq, i6_lt, i6_eq, i3_div, i6_div, i6_i3, i3_i6, c6_lt, c6_ge, c6_gt, c6_le, c6_eq, i3_ite, i6_ite, ib_0, ib_z, ite_not, i1_0, i0_0, jB_1, jB_0, jB_ib, bI_v, bL_v, bD_v, bV_v, ob_s, ob_i, i3_ofNat, jx_e, bI_e, bL_e, bD_e, bV_e, i3_eq0, i6_eq0, if_mx, if_mn, if_true, if_false, not_true_eq_false, not_false_eq_true, Int.reduceEq, Int.reduceLT, Int.reduceLE, e1, e2, e3, q10, bX12_orderText_30, bX12_orderText_35, e4, g12_27, h27, bX12_orderText_75, g12_22, h22]
end PLK
