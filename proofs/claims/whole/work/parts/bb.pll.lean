-- uses 24.zar 25.obj 26.ops 31.re 34.gen 38.mod 39.mo2 40.mo3 44.mo6 46.mo8 53.cla 62.clj 64.okm 93.tka 96.srd 97.srp a2.rfa a3.rfb a4.rfc a5.rfd b0.pla b7.plh b8.pli b9.plj ba.plk
/-! The reference's loop over a script: an order, brackets, the end. -/
section PLL
variable {d : Nat} {X : Nat × (Nat → Int32)} {v w : Nat → Int → Int} {T c s : Nat}
variable {b : Int → Int} {n : Nat}
/-- an order up to its sign -/
def sgO (b : Int → Int) (r : aR) : aR := match r with
  | .inl e => .inl e
  | .inr r => if isG b r.1 59 then .inr (nx b r.1, r.2) else .inl (1, r.1)
theorem sX12_orderText_o {p : Nat} {g D m : Int} (hT : 18 ≤ T) (h : GD w b n p) (ho : okM v m) (hnm : nmOk v) (hg : g = 0 ∨ g = 1) (h27 : w 411 27 = g) (h28 : w 411 28 = 0) (h31 : w 411 31 = D) (D0 : 0 ≤ D) (D1 : D < 40) (k0 : 0 ≤ kw b p) (k4 : kw b p ≤ 4) (hs : g = 1 → ∀ e, sgO b (aO b (nmF v) (kw b p) (nx b p)) ≠ .inl e) :
    oD (jm_R (jm_env (d + 10)) jmM_X12_orderText 83 [some (.ref 411), some (.int (i3 0)), none, none] [] (qM X v w T c s)) X v w T c s b n g D (sgO b (aO b (nmF v) (kw b p) (nx b p))) := by
  obtain ⟨c1, c2⟩ := kw_wK k0 k4
  have h26 : w 411 26 = wK (kw b p) := by rw [← c2]; exact h.1.2.2.2.2.2.2.2 c1
  obtain ⟨w1, e1, g1, f1⟩ := sX12_goesOn_1 (d := d + 6) (X := X) (v := v) (T := T) (c := c) (s := s) hT h
  obtain ⟨r1, r2, r3⟩ := sX12_does (d := d + 1) (X := X) (v := v) (w := w1) (T := T) (c := c) (s := s) hT g1 ho hnm hg ((f1 411 27 (by omega)).trans h27) ((f1 411 28 (by omega)).trans h28) ((f1 411 31 (by omega)).trans h31) D0 D1 k0 k4
  rw [bX12_orderText_83]
  have head : ∀ m, jm_env (d + 10) 270 [.ref 411, .long (i6 (wK (kw b p)))] (qM X v w1 T c s) = some (.inl none, m) → ∀ m', jm_env (d + 10) 252 [.ref 411, .int (i3 59)] m = some (.inl none, m') → ((jm_gL (qM X v w T c s) 411 12 26).bind fun v1 => (jm_env (d + 10) 248 [.ref 411] (qM X v w T c s)).bind (jm_bV (fun m2 => if (i3 0) = (i3 0) then jm_R (jm_env (d + 10)) jmM_X12_orderText 101 [some (.ref 411), some (.int (i3 0)), some (.long v1), none] [] m2 else jm_R (jm_env (d + 10)) jmM_X12_orderText 96 [some (.ref 411), some (.int (i3 0)), some (.long v1), none] [] m2) jm_x)) = some (.inl none, m') := by
    intro m hm m' hm'
    simp (disch := first | assumption | omega) only [↓reduceIte, i3_add, i3_sub, i3_mul, i3_neg, i6_add, i6_sub, i6_mul, i6_neg, i3_lt, i3_le, i3_eq, i6_lt, i6_eq, i3_div, i6_div, i6_i3, i3_i6, c6_lt, c6_ge, c6_gt, c6_le, c6_eq, i3_ite, i6_ite, ib_0, ib_z, ite_not, i1_0, i0_0, jB_1, jB_0, jB_ib, bI_v, bL_v, bD_v, bV_v, ob_s, ob_i, i3_ofNat, jx_e, bI_e, bL_e, bD_e, bV_e, i3_eq0, i6_eq0, if_mx, if_mn, if_true, if_false, not_true_eq_false, not_false_eq_true, Int.reduceEq, Int.reduceLT, Int.reduceLE, g12_26, h26, e1, bX12_orderText_101, hm, hm']
  generalize aO b (nmF v) (kw b p) (nx b p) = r at *
  rcases r with e | u
  · obtain ⟨w2, x1, x2, x3⟩ := r1 e rfl
    refine oD_l ⟨w2, head _ x1 _ (sX12_sign_bad (d := d + 5) hT x2), x2, frT_tr x3 f1⟩
  · have sg : ∀ (v' w2 : Nat → Int → Int), GD w2 b n u.1 → (isG b u.1 59 → ∃ w3, jm_env (d + 10) 252 [.ref 411, .int (i3 59)] (qM X v' w2 T c s) = some (.inl none, qM X v' w3 T c s) ∧ GD w3 b n (nx b u.1) ∧ frT w3 w2) ∧ (¬ isG b u.1 59 → ∃ w3, jm_env (d + 10) 252 [.ref 411, .int (i3 59)] (qM X v' w2 T c s) = some (.inl none, qM X v' w3 T c s) ∧ BD w3 b n 1 u.1 ∧ frT w3 w2) := by
      intro v' w2 g2
      exact ⟨fun q => sX12_sign_1 (d := d + 5) hT g2 (Or.inl rfl) q, fun q => sX12_sign_0 (d := d + 5) hT g2 (Or.inl rfl) q⟩
    unfold sgO
    dsimp only
    by_cases q : isG b u.1 59
    · rw [if_pos q]
      rcases hg with rfl | rfl
      · obtain ⟨w2, x1, x2, x3⟩ := r2 u rfl rfl
        obtain ⟨w3, y1, y2, y3⟩ := (sg v w2 x2).1 q
        exact oD_0 ⟨w3, head _ x1 _ y1, y2, frT_tr y3 (frT_tr x3 f1)⟩
      · obtain ⟨w2, x1, x2, x3, x4, x5⟩ := r3 u rfl rfl
        obtain ⟨w3, y1, y2, y3⟩ := (sg _ w2 x2).1 q
        exact oD_1 ⟨w3, head _ x1 _ y1, y2, frC_tr y3.c (frC_tr x3 f1.c), (y3 411 28 (by omega)).trans x4, (y3 411 31 (by omega)).trans x5⟩
    · rw [if_neg q]
      rcases hg with rfl | rfl
      · obtain ⟨w2, x1, x2, x3⟩ := r2 u rfl rfl
        obtain ⟨w3, y1, y2, y3⟩ := (sg v w2 x2).2 q
        exact oD_l ⟨w3, head _ x1 _ y1, y2, frT_tr y3 (frT_tr x3 f1)⟩
      · refine absurd ?_ (hs rfl (1, u.1))
        unfold sgO
        dsimp only
        rw [if_neg q]
theorem sX12_orderText_a {p : Nat} {dep : Int} (hT : 18 ≤ T) (h : GD w b n p) (h30 : w 411 30 = dep) (d0 : 0 ≤ dep) (d1 : dep < 3) :
    (¬ isN b (nx b p) 1 20 → ∃ w', jm_R (jm_env (d + 9)) jmM_X12_orderText 83 [some (.ref 411), some (.int (i3 1)), none, none] [] (qM X v w T c s) = some (.inl none, qM X v w' T c s) ∧ BD w' b n (ecN b (nx b p)) (nx b p) ∧ frT w' w) ∧
    (isN b (nx b p) 1 20 → ¬ isG b (nx b (nx b p)) 40 → ∃ w', jm_R (jm_env (d + 9)) jmM_X12_orderText 83 [some (.ref 411), some (.int (i3 1)), none, none] [] (qM X v w T c s) = some (.inl none, qM X v w' T c s) ∧ BD w' b n 1 (nx b (nx b p)) ∧ frT w' w) ∧
    (isN b (nx b p) 1 20 → isG b (nx b (nx b p)) 40 → ∃ w1, jm_R (jm_env (d + 9)) jmM_X12_orderText 83 [some (.ref 411), some (.int (i3 1)), none, none] [] (qM X v w T c s) = some (.inl none, qM X v (up (up (up w1 411 30 (dep + 1)) 422 dep (nx b (nx b (nx b p)) : Nat)) 423 dep (nv b (nx b p))) T c s) ∧ GD w1 b n (nx b (nx b (nx b p))) ∧ frT w1 w) := by
  have hok := h.1.1.1
  have hpn := h.1.2.1
  have b1 := (nx_b hok hpn).2
  have b2 := (nx_b hok b1).2
  have b3 := (nx_b hok b2).2
  have q10 : ((1 : Int) = 0) = False := by decide
  have hn6 := hok.1
  obtain ⟨w1, e1, g1, f1⟩ := sX12_goesOn_1 (d := d + 5) (X := X) (v := v) (T := T) (c := c) (s := s) hT h
  have e1' : jm_env (d + 9) 248 [.ref 411] (qM X v w T c s) = some (.inl none, qM X v w1 T c s) := e1
  have head : ∀ m, jm_env (d + 9) 268 [.ref 411] (qM X v w1 T c s) = some (.inl none, m) → jm_R (jm_env (d + 9)) jmM_X12_orderText 83 [some (.ref 411), some (.int (i3 1)), none, none] [] (qM X v w T c s) = some (.inl none, m) := by
    intro m hm
    rw [bX12_orderText_83]
    simp (disch := first | assumption | omega) only [↓reduceIte, i3_add, i3_sub, i3_mul, i3_neg, i6_add, i6_sub, i6_mul, i6_neg, i3_lt, i3_le, i3_eq, i6_lt, i6_eq, i3_div, i6_div, i6_i3, i3_i6, c6_lt, c6_ge, c6_gt, c6_le, c6_eq, i3_ite, i6_ite, ib_0, ib_z, ite_not, i1_0, i0_0, jB_1, jB_0, jB_ib, bI_v, bL_v, bD_v, bV_v, ob_s, ob_i, i3_ofNat, jx_e, bI_e, bL_e, bD_e, bV_e, i3_eq0, i6_eq0, if_mx, if_mn, if_true, if_false, not_true_eq_false, not_false_eq_true, Int.reduceEq, Int.reduceLT, Int.reduceLE, g12_26, e1', q10, bX12_orderText_96, hm]
  refine ⟨fun q1 => ?_, fun q1 q2 => ?_, fun q1 q2 => ?_⟩
  · obtain ⟨w2, e2, g2, f2⟩ := sX12_reads_0 (d := d + 3) (X := X) (v := v) (T := T) (c := c) (s := s) (x := 1) (y := 20) hT g1 (by omega) (by omega) (by omega) q1
    obtain ⟨h22, c1, c4⟩ := BD_b g2
    have e3 := sX12_isSign_bad (d := d + 7) (X := X) (v := v) (T := T) (c := c) (s := s) (z := 40) hT g2
    have e4 := sX12_must_bad (d := d + 7) (X := X) (v := v) (T := T) (c := c) (s := s) (z := 1) (x := 0) hT h22 c1 c4 (Or.inl rfl)
    have e5 := sX12_goesOn_0 (d := d + 4) (X := X) (v := v) (T := T) (c := c) (s := s) hT g2
    have qc : (ecN b (nx b p) = 0) = False := eq_false (by omega)
    refine ⟨w2, head _ ?_, g2, frT_tr f2 f1⟩
    rw [eX12_againOrder (h := hT), bX12_againOrder_0]
    simp (disch := first | assumption | omega) only [↓reduceIte, i3_add, i3_sub, i3_mul, i3_neg, i6_add, i6_sub, i6_mul, i6_neg, i3_lt, i3_le, i3_eq, i6_lt, i6_eq, i3_div, i6_div, i6_i3, i3_i6, c6_lt, c6_ge, c6_gt, c6_le, c6_eq, i3_ite, i6_ite, ib_0, ib_z, ite_not, i1_0, i0_0, jB_1, jB_0, jB_ib, bI_v, bL_v, bD_v, bV_v, ob_s, ob_i, i3_ofNat, jx_e, bI_e, bL_e, bD_e, bV_e, i3_eq0, i6_eq0, if_mx, if_mn, if_true, if_false, not_true_eq_false, not_false_eq_true, Int.reduceEq, Int.reduceLT, Int.reduceLE, e2, e3, e4, e5, g12_22, h22, qc, bX12_againOrder_67]
  · obtain ⟨w2, e2, g2, f2⟩ := sX12_reads_1 (d := d + 3) (X := X) (v := v) (T := T) (c := c) (s := s) hT g1 (by omega) (by omega) q1
    have hn := q1.2
    have e3 := sX12_isSign (d := d + 7) (X := X) (v := v) (T := T) (c := c) (s := s) (z := 40) hT g2 (by omega)
    rw [if_neg q2] at e3
    have e4 := sX12_must_0 (d := d + 7) (X := X) (v := v) (T := T) (c := c) (s := s) (z := 1) hT g2.2 g2.1
    obtain ⟨g3, f3⟩ := BD_mk (z := 1) g2.1 (by omega) (by omega)
    obtain ⟨h22, c1, c4⟩ := BD_b g3
    have e5 := sX12_goesOn_0 (d := d + 4) (X := X) (v := v) (T := T) (c := c) (s := s) hT g3
    refine ⟨_, head _ ?_, g3, frT_tr f3 (frT_tr f2 f1)⟩
    rw [eX12_againOrder (h := hT), bX12_againOrder_0]
    simp (disch := first | assumption | omega) only [↓reduceIte, i3_add, i3_sub, i3_mul, i3_neg, i6_add, i6_sub, i6_mul, i6_neg, i3_lt, i3_le, i3_eq, i6_lt, i6_eq, i3_div, i6_div, i6_i3, i3_i6, c6_lt, c6_ge, c6_gt, c6_le, c6_eq, i3_ite, i6_ite, ib_0, ib_z, ite_not, i1_0, i0_0, jB_1, jB_0, jB_ib, bI_v, bL_v, bD_v, bV_v, ob_s, ob_i, i3_ofNat, jx_e, bI_e, bL_e, bD_e, bV_e, i3_eq0, i6_eq0, if_mx, if_mn, if_true, if_false, not_true_eq_false, not_false_eq_true, Int.reduceEq, Int.reduceLT, Int.reduceLE, e2, e3, e4, e5, g12_22, h22, q10, bX12_againOrder_67]
  · obtain ⟨w2, e2, g2, f2⟩ := sX12_reads_1 (d := d + 3) (X := X) (v := v) (T := T) (c := c) (s := s) hT g1 (by omega) (by omega) q1
    have hn := q1.2
    have e3 := sX12_isSign (d := d + 7) (X := X) (v := v) (T := T) (c := c) (s := s) (z := 40) hT g2 (by omega)
    rw [if_pos q2] at e3
    have e4 := sX12_must_1 (d := d + 7) (X := X) (v := v) (T := T) (c := c) (s := s) (z := 1) hT g2.2
    obtain ⟨w3, e5, g3, f3⟩ := sX12_goesOn_1 (d := d + 4) (X := X) (v := v) (T := T) (c := c) (s := s) hT g2
    have h22 := g3.2
    have ff := frT_tr f3 (frT_tr f2 f1)
    have w30 := (ff 411 30 (by omega)).trans h30
    have w19 := g3.1.2.2.2.1
    refine ⟨w3, head _ ?_, g3, ff⟩
    rw [eX12_againOrder (h := hT), bX12_againOrder_0]
    have u19 : up w3 411 30 (dep + 1) 411 19 = (nx b (nx b (nx b p)) : Nat) := by rw [up_ne (by omega)]; exact w19
    have u30 : ∀ z, up (up w3 411 30 (dep + 1)) 422 dep z 411 30 = dep + 1 := fun z => by rw [up_ne (by omega), up_eq]
    have a1 : dep + 1 - 1 = dep := by omega
    simp (disch := first | assumption | omega) only [↓reduceIte, i3_add, i3_sub, i3_mul, i3_neg, i6_add, i6_sub, i6_mul, i6_neg, i3_lt, i3_le, i3_eq, i6_lt, i6_eq, i3_div, i6_div, i6_i3, i3_i6, c6_lt, c6_ge, c6_gt, c6_le, c6_eq, i3_ite, i6_ite, ib_0, ib_z, ite_not, i1_0, i0_0, jB_1, jB_0, jB_ib, bI_v, bL_v, bD_v, bV_v, ob_s, ob_i, i3_ofNat, jx_e, bI_e, bL_e, bD_e, bV_e, i3_eq0, i6_eq0, if_mx, if_mn, if_true, if_false, not_true_eq_false, not_false_eq_true, Int.reduceEq, Int.reduceLT, Int.reduceLE, e2, e3, e4, e5, g12_22, h22, bX12_againOrder_30, g12_30, w30, p12_30, r12_32, up_eq, g12_19, u19, a1, w12_32, r12_33, u30, w12_33, bX12_againOrder_67]
theorem sX12_closes_0 {p : Nat} (hT : 18 ≤ T) (h : GD w b n p) (h30 : w 411 30 = 0) : ∃ w', jm_env (d + 6) 269 [.ref 411] (qM X v w T c s) = some (.inl none, qM X v w' T c s) ∧ BD w' b n 1 p ∧ frT w' w := by
  have e4 := sX12_must_0 (d := d + 4) (X := X) (v := v) (T := T) (c := c) (s := s) (z := 1) hT h.2 h.1
  obtain ⟨g3, f3⟩ := BD_mk (z := 1) h.1 (by omega) (by omega)
  obtain ⟨h22, c1, c4⟩ := BD_b g3
  have q10 : ((1 : Int) = 0) = False := by decide
  refine ⟨_, ?_, g3, f3⟩
  rw [eX12_closes (h := hT), bX12_closes_0]
  have a1 : ((0 : Int) ≤ 0) = True := by decide
  simp (disch := first | assumption | omega) only [↓reduceIte, i3_add, i3_sub, i3_mul, i3_neg, i6_add, i6_sub, i6_mul, i6_neg, i3_lt, i3_le, i3_eq, i6_lt, i6_eq, i3_div, i6_div, i6_i3, i3_i6, c6_lt, c6_ge, c6_gt, c6_le, c6_eq, i3_ite, i6_ite, ib_0, ib_z, ite_not, i1_0, i0_0, jB_1, jB_0, jB_ib, bI_v, bL_v, bD_v, bV_v, ob_s, ob_i, i3_ofNat, jx_e, bI_e, bL_e, bD_e, bV_e, i3_eq0, i6_eq0, if_mx, if_mn, if_true, if_false, not_true_eq_false, not_false_eq_true, Int.reduceEq, Int.reduceLT, Int.reduceLE, g12_30, h30, a1, bX12_closes_12, bX12_closes_13, e4, g12_22, h22, q10, bX12_closes_24]
/-- the brackets close for good -/
theorem sX12_closes_1 {p : Nat} {dep g : Int} (hT : 18 ≤ T) (h : GD w b n p) (hg : g = 0 ∨ g = 1) (h27 : w 411 27 = g) (h30 : w 411 30 = dep + 1) (d0 : 0 ≤ dep) (d1 : dep < 3) (ha : g = 1 → w 423 dep = 1) :
    (isG b (nx b p) 59 → ∃ w1, jm_env (d + 6) 269 [.ref 411] (qM X v w T c s) = some (.inl none, qM X v w1 T c s) ∧ GD w1 b n (nx b (nx b p)) ∧ frT w1 (up (up w 423 dep (w 423 dep - 1)) 411 30 dep)) ∧
    (¬ isG b (nx b p) 59 → ∃ w1, jm_env (d + 6) 269 [.ref 411] (qM X v w T c s) = some (.inl none, qM X v w1 T c s) ∧ BD w1 b n 1 (nx b p) ∧ frT w1 (up (up w 423 dep (w 423 dep - 1)) 411 30 dep)) := by
  have e4 := sX12_must_1 (d := d + 4) (X := X) (v := v) (T := T) (c := c) (s := s) (z := 1) hT h.2
  have h22 := h.2
  have q10 : ((1 : Int) = 0) = False := by decide
  have a0 : (dep + 1 ≤ 0) = False := eq_false (by omega)
  have a1 : dep + 1 - 1 = dep := by omega
  have g2 : GD (up (up w 423 dep (w 423 dep - 1)) 411 30 dep) b n p := GD_u (GD_a h (Or.inr rfl)) (by omega)
  obtain ⟨w2, e5, g3, f3⟩ := sX12_goesOn_1 (d := d + 1) (X := X) (v := v) (T := T) (c := c) (s := s) hT g2
  have u27 : ∀ z, up w 423 dep z 411 27 = g := fun z => by rw [up_ne (by omega)]; exact h27
  have u30 : ∀ z, up w 423 dep z 411 30 = dep + 1 := fun z => by rw [up_ne (by omega)]; exact h30
  have head : ∀ m, jm_env (d + 5) 252 [.ref 411, .int (i3 59)] (qM X v w2 T c s) = some (.inl none, m) → jm_env (d + 6) 269 [.ref 411] (qM X v w T c s) = some (.inl none, m) := by
    intro m hm
    rw [eX12_closes (h := hT), bX12_closes_0]
    rcases hg with rfl | rfl
    · simp (disch := first | assumption | omega) only [↓reduceIte, i3_add, i3_sub, i3_mul, i3_neg, i6_add, i6_sub, i6_mul, i6_neg, i3_lt, i3_le, i3_eq, i6_lt, i6_eq, i3_div, i6_div, i6_i3, i3_i6, c6_lt, c6_ge, c6_gt, c6_le, c6_eq, i3_ite, i6_ite, ib_0, ib_z, ite_not, i1_0, i0_0, jB_1, jB_0, jB_ib, bI_v, bL_v, bD_v, bV_v, ob_s, ob_i, i3_ofNat, jx_e, bI_e, bL_e, bD_e, bV_e, i3_eq0, i6_eq0, if_mx, if_mn, if_true, if_false, not_true_eq_false, not_false_eq_true, Int.reduceEq, Int.reduceLT, Int.reduceLE, g12_30, h30, a0, bX12_closes_8, bX12_closes_13, e4, g12_22, h22, bX12_closes_25, r12_33, a1, a12_33, w12_33, g12_27, u27, bX12_closes_81, u30, p12_30, e5, hm]
    · have ha := ha rfl
      rw [ha, show (1 : Int) - 1 = 0 from rfl] at e5
      have a2 : ((0 : Int) ≤ 0) = True := by decide
      simp (disch := first | assumption | omega) only [↓reduceIte, i3_add, i3_sub, i3_mul, i3_neg, i6_add, i6_sub, i6_mul, i6_neg, i3_lt, i3_le, i3_eq, i6_lt, i6_eq, i3_div, i6_div, i6_i3, i3_i6, c6_lt, c6_ge, c6_gt, c6_le, c6_eq, i3_ite, i6_ite, ib_0, ib_z, ite_not, i1_0, i0_0, jB_1, jB_0, jB_ib, bI_v, bL_v, bD_v, bV_v, ob_s, ob_i, i3_ofNat, jx_e, bI_e, bL_e, bD_e, bV_e, i3_eq0, i6_eq0, if_mx, if_mn, if_true, if_false, not_true_eq_false, not_false_eq_true, Int.reduceEq, Int.reduceLT, Int.reduceLE, g12_30, h30, a0, bX12_closes_8, bX12_closes_13, e4, g12_22, h22, bX12_closes_25, r12_33, a1, a12_33, ha, w12_33, g12_27, u27, q10, bX12_closes_47, u30, up_eq, show (1 : Int) - 1 = 0 from rfl, a2, bX12_closes_81, p12_30, e5, hm]
  refine ⟨fun q => ?_, fun q => ?_⟩
  · obtain ⟨w3, y1, y2, y3⟩ := sX12_sign_1 (d := d) (X := X) (v := v) (T := T) (c := c) (s := s) (z := 59) hT g3 (by omega) q
    exact ⟨w3, head _ y1, y2, frT_tr y3 f3⟩
  · obtain ⟨w3, y1, y2, y3⟩ := sX12_sign_0 (d := d) (X := X) (v := v) (T := T) (c := c) (s := s) (z := 59) hT g3 (by omega) q
    exact ⟨w3, head _ y1, y2, frT_tr y3 f3⟩
/-- the brackets begin again -/
theorem sX12_closes_2 {p q0 : Nat} {dep j : Int} (hT : 18 ≤ T) (h : GD w b n p) (h27 : w 411 27 = 1) (h30 : w 411 30 = dep + 1) (d0 : 0 ≤ dep) (d1 : dep < 3) (ha : w 423 dep = j) (j2 : 2 ≤ j) (j9 : j ≤ 20) (hq : w 422 dep = q0) (hqn : q0 ≤ n) (hqs : sk b q0 = q0) :
    ∃ w1, jm_env (d + 6) 269 [.ref 411] (qM X v w T c s) = some (.inl none, qM X v w1 T c s) ∧ GD w1 b n q0 ∧ frT w1 (up w 423 dep (j - 1)) := by
  have e4 := sX12_must_1 (d := d + 4) (X := X) (v := v) (T := T) (c := c) (s := s) (z := 1) hT h.2
  have h22 := h.2
  have q10 : ((1 : Int) = 0) = False := by decide
  have a0 : (dep + 1 ≤ 0) = False := eq_false (by omega)
  have a1 : dep + 1 - 1 = dep := by omega
  have a2 : (j - 1 ≤ 0) = False := eq_false (by omega)
  have g2 : GD (up w 423 dep (j - 1)) b n p := GD_a h (Or.inr rfl)
  have hok := h.1.1.1
  have hn6 := hok.1
  have h421 : txW (up (up w 423 dep (j - 1)) 411 18 q0) b n := txW_u g2.1.1 (by omega)
  obtain ⟨w2, e5, g3, g22, g23, f3⟩ := sX12_scan (d := d + 2) (X := X) (v := v) (T := T) (c := c) (s := s) (e := q0) hT h421 hqn up_eq (by rw [up_ne (by omega)]; exact g2.1.2.2.2.2.2.1)
  rw [hqs] at g3
  have u27 : ∀ z, up w 423 dep z 411 27 = 1 := fun z => by rw [up_ne (by omega)]; exact h27
  have u30 : ∀ z, up w 423 dep z 411 30 = dep + 1 := fun z => by rw [up_ne (by omega)]; exact h30
  have u422 : ∀ z, up w 423 dep z 422 dep = q0 := fun z => by rw [up_ne (by omega)]; exact hq
  refine ⟨w2, ?_, ⟨g3, ?_⟩, frT_tr f3 (frT_u (by omega))⟩
  · rw [eX12_closes (h := hT), bX12_closes_0]
    simp (disch := first | assumption | omega) only [↓reduceIte, i3_add, i3_sub, i3_mul, i3_neg, i6_add, i6_sub, i6_mul, i6_neg, i3_lt, i3_le, i3_eq, i6_lt, i6_eq, i3_div, i6_div, i6_i3, i3_i6, c6_lt, c6_ge, c6_gt, c6_le, c6_eq, i3_ite, i6_ite, ib_0, ib_z, ite_not, i1_0, i0_0, jB_1, jB_0, jB_ib, bI_v, bL_v, bD_v, bV_v, ob_s, ob_i, i3_ofNat, jx_e, bI_e, bL_e, bD_e, bV_e, i3_eq0, i6_eq0, if_mx, if_mn, if_true, if_false, not_true_eq_false, not_false_eq_true, Int.reduceEq, Int.reduceLT, Int.reduceLE, g12_30, h30, a0, bX12_closes_8, bX12_closes_13, e4, g12_22, h22, bX12_closes_25, r12_33, a1, a12_33, ha, w12_33, g12_27, u27, q10, bX12_closes_47, u30, up_eq, a2, bX12_closes_61, r12_32, a12_32, u422, p12_18, e5]
  · rw [g22, up_ne (by omega)]; exact g2.2
/-- the loop, by where it stands -/
theorem sX12_loop_bad {cd g : Int} {q : Nat} (hT : 18 ≤ T) (h : BD w b n cd q) (h28 : w 411 28 = 0) : jm_R (jm_env (d + 1)) jmM_X12_goesThrough 29 [some (.ref 411), some (.int (i3 g))] [] (qM X v w T c s) = some (.inl none, (qM X v w T c s)) := by
  obtain ⟨h22, c1, c4⟩ := BD_b h
  have qc : (cd = 0) = False := eq_false (by omega)
  rw [bX12_goesThrough_29]
  have e0 := sX12_must_bad (d := d) (X := X) (v := v) (T := T) (c := c) (s := s) (z := 1) (x := 0) hT h22 c1 c4 (Or.inl rfl)
  have e1 := sX12_must_bad (d := d) (X := X) (v := v) (T := T) (c := c) (s := s) (z := 1) (x := 1) hT h22 c1 c4 (Or.inr rfl)
  simp (disch := first | assumption | omega) only [↓reduceIte, i3_add, i3_sub, i3_mul, i3_neg, i6_add, i6_sub, i6_mul, i6_neg, i3_lt, i3_le, i3_eq, i6_lt, i6_eq, i3_div, i6_div, i6_i3, i3_i6, c6_lt, c6_ge, c6_gt, c6_le, c6_eq, i3_ite, i6_ite, ib_0, ib_z, ite_not, i1_0, i0_0, jB_1, jB_0, jB_ib, bI_v, bL_v, bD_v, bV_v, ob_s, ob_i, i3_ofNat, jx_e, bI_e, bL_e, bD_e, bV_e, i3_eq0, i6_eq0, if_mx, if_mn, if_true, if_false, not_true_eq_false, not_false_eq_true, Int.reduceEq, Int.reduceLT, Int.reduceLE, g12_22, h22, qc, bX12_goesThrough_73, g12_28, h28, bX12_goesThrough_81, g12_30]
  split
  · simp (disch := first | assumption | omega) only [↓reduceIte, i3_add, i3_sub, i3_mul, i3_neg, i6_add, i6_sub, i6_mul, i6_neg, i3_lt, i3_le, i3_eq, i6_lt, i6_eq, i3_div, i6_div, i6_i3, i3_i6, c6_lt, c6_ge, c6_gt, c6_le, c6_eq, i3_ite, i6_ite, ib_0, ib_z, ite_not, i1_0, i0_0, jB_1, jB_0, jB_ib, bI_v, bL_v, bD_v, bV_v, ob_s, ob_i, i3_ofNat, jx_e, bI_e, bL_e, bD_e, bV_e, i3_eq0, i6_eq0, if_mx, if_mn, if_true, if_false, not_true_eq_false, not_false_eq_true, Int.reduceEq, Int.reduceLT, Int.reduceLE, bX12_goesThrough_88, bX12_goesThrough_93, e1]
  · simp (disch := first | assumption | omega) only [↓reduceIte, i3_add, i3_sub, i3_mul, i3_neg, i6_add, i6_sub, i6_mul, i6_neg, i3_lt, i3_le, i3_eq, i6_lt, i6_eq, i3_div, i6_div, i6_i3, i3_i6, c6_lt, c6_ge, c6_gt, c6_le, c6_eq, i3_ite, i6_ite, ib_0, ib_z, ite_not, i1_0, i0_0, jB_1, jB_0, jB_ib, bI_v, bL_v, bD_v, bV_v, ob_s, ob_i, i3_ofNat, jx_e, bI_e, bL_e, bD_e, bV_e, i3_eq0, i6_eq0, if_mx, if_mn, if_true, if_false, not_true_eq_false, not_false_eq_true, Int.reduceEq, Int.reduceLT, Int.reduceLE, bX12_goesThrough_92, bX12_goesThrough_93, e0]
theorem sX12_loop_over {g : Int} {p : Nat} (hT : 18 ≤ T) (h : GD w b n p) (h28 : w 411 28 = 1) : jm_R (jm_env (d + 1)) jmM_X12_goesThrough 29 [some (.ref 411), some (.int (i3 g))] [] (qM X v w T c s) = some (.inl none, (qM X v w T c s)) := by
  have h22 := h.2
  have q10 : ((1 : Int) = 0) = False := by decide
  have e1 := sX12_must_1 (d := d) (X := X) (v := v) (T := T) (c := c) (s := s) (z := 1) hT h.2
  rw [bX12_goesThrough_29]
  simp (disch := first | assumption | omega) only [↓reduceIte, i3_add, i3_sub, i3_mul, i3_neg, i6_add, i6_sub, i6_mul, i6_neg, i3_lt, i3_le, i3_eq, i6_lt, i6_eq, i3_div, i6_div, i6_i3, i3_i6, c6_lt, c6_ge, c6_gt, c6_le, c6_eq, i3_ite, i6_ite, ib_0, ib_z, ite_not, i1_0, i0_0, jB_1, jB_0, jB_ib, bI_v, bL_v, bD_v, bV_v, ob_s, ob_i, i3_ofNat, jx_e, bI_e, bL_e, bD_e, bV_e, i3_eq0, i6_eq0, if_mx, if_mn, if_true, if_false, not_true_eq_false, not_false_eq_true, Int.reduceEq, Int.reduceLT, Int.reduceLE, g12_22, h22, bX12_goesThrough_36, g12_28, h28, q10, bX12_goesThrough_73, bX12_goesThrough_88, bX12_goesThrough_93, e1]
theorem sX12_loop_end {g dep : Int} {p : Nat} (hT : 18 ≤ T) (h : GD w b n p) (h28 : w 411 28 = 0) (h30 : w 411 30 = dep) (d0 : 0 ≤ dep) (d1 : dep ≤ 3) (hk : kd b p = 0) :
    (dep = 0 → jm_R (jm_env (d + 1)) jmM_X12_goesThrough 29 [some (.ref 411), some (.int (i3 g))] [] (qM X v w T c s) = some (.inl none, (qM X v w T c s))) ∧
    (dep ≠ 0 → ∃ w', jm_R (jm_env (d + 1)) jmM_X12_goesThrough 29 [some (.ref 411), some (.int (i3 g))] [] (qM X v w T c s) = some (.inl none, qM X v w' T c s) ∧ BD w' b n 1 p ∧ frT w' w) := by
  have h22 := h.2
  have h20 : w 411 20 = 0 := by rw [h.1.2.2.2.2.1]; exact tkM_e.2.2.mpr hk
  refine ⟨fun q => ?_, fun q => ?_⟩
  · have e1 := sX12_must_1 (d := d) (X := X) (v := v) (T := T) (c := c) (s := s) (z := 1) hT h.2
    have q9 : (dep = 0) = True := eq_true q
    rw [bX12_goesThrough_29]
    simp (disch := first | assumption | omega) only [↓reduceIte, i3_add, i3_sub, i3_mul, i3_neg, i6_add, i6_sub, i6_mul, i6_neg, i3_lt, i3_le, i3_eq, i6_lt, i6_eq, i3_div, i6_div, i6_i3, i3_i6, c6_lt, c6_ge, c6_gt, c6_le, c6_eq, i3_ite, i6_ite, ib_0, ib_z, ite_not, i1_0, i0_0, jB_1, jB_0, jB_ib, bI_v, bL_v, bD_v, bV_v, ob_s, ob_i, i3_ofNat, jx_e, bI_e, bL_e, bD_e, bV_e, i3_eq0, i6_eq0, if_mx, if_mn, if_true, if_false, not_true_eq_false, not_false_eq_true, Int.reduceEq, Int.reduceLT, Int.reduceLE, g12_22, h22, bX12_goesThrough_36, g12_28, h28, bX12_goesThrough_43, g12_20, h20, bX12_goesThrough_73, bX12_goesThrough_81, g12_30, h30, q9, bX12_goesThrough_88, bX12_goesThrough_93, e1]
  · have e1 := sX12_must_0 (d := d) (X := X) (v := v) (T := T) (c := c) (s := s) (z := 1) hT h.2 h.1
    obtain ⟨g3, f3⟩ := BD_mk (z := 1) h.1 (by omega) (by omega)
    have q9 : (dep = 0) = False := eq_false q
    refine ⟨_, ?_, g3, f3⟩
    rw [bX12_goesThrough_29]
    simp (disch := first | assumption | omega) only [↓reduceIte, i3_add, i3_sub, i3_mul, i3_neg, i6_add, i6_sub, i6_mul, i6_neg, i3_lt, i3_le, i3_eq, i6_lt, i6_eq, i3_div, i6_div, i6_i3, i3_i6, c6_lt, c6_ge, c6_gt, c6_le, c6_eq, i3_ite, i6_ite, ib_0, ib_z, ite_not, i1_0, i0_0, jB_1, jB_0, jB_ib, bI_v, bL_v, bD_v, bV_v, ob_s, ob_i, i3_ofNat, jx_e, bI_e, bL_e, bD_e, bV_e, i3_eq0, i6_eq0, if_mx, if_mn, if_true, if_false, not_true_eq_false, not_false_eq_true, Int.reduceEq, Int.reduceLT, Int.reduceLE, g12_22, h22, bX12_goesThrough_36, g12_28, h28, bX12_goesThrough_43, g12_20, h20, bX12_goesThrough_73, bX12_goesThrough_81, g12_30, h30, q9, bX12_goesThrough_92, bX12_goesThrough_93, e1]
theorem sX12_loop_c {g : Int} {p : Nat} (hT : 18 ≤ T) (h : GD w b n p) (h28 : w 411 28 = 0) (hk : isG b p 41) {m : jm_Mem} (hm : jm_env (d + 1) 269 [.ref 411] (qM X v w T c s) = some (.inl none, m)) : jm_R (jm_env (d + 1)) jmM_X12_goesThrough 29 [some (.ref 411), some (.int (i3 g))] [] (qM X v w T c s) = jm_R (jm_env (d + 1)) jmM_X12_goesThrough 29 [some (.ref 411), some (.int (i3 g))] [] m := by
  have h22 := h.2
  have q10 : ((1 : Int) = 0) = False := by decide
  have htk := tkM_b b p
  have h20 : (w 411 20 = 0) = False := eq_false (by rw [h.1.2.2.2.2.1]; exact fun q => by have := tkM_e.2.2.mp q; have := hk.1; omega)
  have e1 := sX12_isSign (d := d) (X := X) (v := v) (T := T) (c := c) (s := s) (z := 41) hT h (by omega)
  rw [if_pos hk] at e1
  have hb20 : 0 ≤ w 411 20 ∧ w 411 20 ≤ 4 := by rw [h.1.2.2.2.2.1]; exact htk
  rw [bX12_goesThrough_29]
  simp (disch := first | assumption | omega) only [↓reduceIte, i3_add, i3_sub, i3_mul, i3_neg, i6_add, i6_sub, i6_mul, i6_neg, i3_lt, i3_le, i3_eq, i6_lt, i6_eq, i3_div, i6_div, i6_i3, i3_i6, c6_lt, c6_ge, c6_gt, c6_le, c6_eq, i3_ite, i6_ite, ib_0, ib_z, ite_not, i1_0, i0_0, jB_1, jB_0, jB_ib, bI_v, bL_v, bD_v, bV_v, ob_s, ob_i, i3_ofNat, jx_e, bI_e, bL_e, bD_e, bV_e, i3_eq0, i6_eq0, if_mx, if_mn, if_true, if_false, not_true_eq_false, not_false_eq_true, Int.reduceEq, Int.reduceLT, Int.reduceLE, g12_22, h22, bX12_goesThrough_36, g12_28, h28, bX12_goesThrough_43, g12_20, h20, bX12_goesThrough_50, e1, q10, bX12_goesThrough_59, hm]
theorem sX12_loop_o {g : Int} {p : Nat} (hT : 18 ≤ T) (h : GD w b n p) (h28 : w 411 28 = 0) (hk : ¬ isG b p 41) (hk0 : kd b p ≠ 0) {m : jm_Mem} (hm : jm_env (d + 1) 271 [.ref 411] (qM X v w T c s) = some (.inl none, m)) : jm_R (jm_env (d + 1)) jmM_X12_goesThrough 29 [some (.ref 411), some (.int (i3 g))] [] (qM X v w T c s) = jm_R (jm_env (d + 1)) jmM_X12_goesThrough 29 [some (.ref 411), some (.int (i3 g))] [] m := by
  have h22 := h.2
  have q10 : ((1 : Int) = 0) = False := by decide
  have htk := tkM_b b p
  have h20 : (w 411 20 = 0) = False := eq_false (by rw [h.1.2.2.2.2.1]; exact fun q => hk0 (tkM_e.2.2.mp q))
  have e1 := sX12_isSign (d := d) (X := X) (v := v) (T := T) (c := c) (s := s) (z := 41) hT h (by omega)
  rw [if_neg hk] at e1
  have hb20 : 0 ≤ w 411 20 ∧ w 411 20 ≤ 4 := by rw [h.1.2.2.2.2.1]; exact htk
  rw [bX12_goesThrough_29]
  simp (disch := first | assumption | omega) only [↓reduceIte, i3_add, i3_sub, i3_mul, i3_neg, i6_add, i6_sub, i6_mul, i6_neg, i3_lt, i3_le, i3_eq, i6_lt, i6_eq, i3_div, i6_div, i6_i3, i3_i6, c6_lt, c6_ge, c6_gt, c6_le, c6_eq, i3_ite, i6_ite, ib_0, ib_z, ite_not, i1_0, i0_0, jB_1, jB_0, jB_ib, bI_v, bL_v, bD_v, bV_v, ob_s, ob_i, i3_ofNat, jx_e, bI_e, bL_e, bD_e, bV_e, i3_eq0, i6_eq0, if_mx, if_mn, if_true, if_false, not_true_eq_false, not_false_eq_true, Int.reduceEq, Int.reduceLT, Int.reduceLE, g12_22, h22, bX12_goesThrough_36, g12_28, h28, bX12_goesThrough_43, g12_20, h20, bX12_goesThrough_50, e1, bX12_goesThrough_66, hm]
end PLL
