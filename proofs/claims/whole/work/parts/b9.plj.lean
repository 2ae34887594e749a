-- uses 24.zar 25.obj 26.ops 30.rd 31.re 34.gen 38.mod 39.mo2 40.mo3 41.bit 42.mo4 44.mo6 45.mo7 46.mo8 47.mo9 48.moa 49.mob 50.moc 51.moe 53.cla 62.clj 64.okm 65.cll 68.okg 70.clo 93.tka 96.srd 97.srp a2.rfa a3.rfb a4.rfc a5.rfd b0.pla b3.pld b4.ple b6.plg b7.plh b8.pli
/-! The reference reads an order, and does it, further. -/
section PLJ
variable {d : Nat} {X : Nat × (Nat → Int32)} {v w : Nat → Int → Int} {T c s : Nat}
variable {b : Int → Int} {n : Nat}
theorem sX12_printOrder {p : Nat} {g D m : Int} (hT : 18 ≤ T) (h : GD w b n p) (ho : okM v m) (hg : g = 0 ∨ g = 1) (h27 : w 411 27 = g) (h28 : w 411 28 = 0) (h31 : w 411 31 = D) (D0 : 0 ≤ D) (D1 : D < 40) :
    oD (jm_env (d + 8) 266 [.ref 411] (qM X v w T c s)) X v w T c s b n g D (aO2 b p) := by
  have hok := h.1.1.1
  have hpn := h.1.2.1
  have hc0 := ho.1.1
  have hc5 := ho.1.2.1
  unfold aO2
  have b1 := (nx_b hok hpn).2
  by_cases q1 : isN b p 1 2000
  · rw [if_pos q1]
    obtain ⟨w1, e1, g1, f1⟩ := sX12_reads_1 (d := d + 2) (X := X) (v := v) (T := T) (c := c) (s := s) hT h (by omega) (by omega) q1
    by_cases q2 : isN b (nx b p) 1 2000
    · rw [if_pos q2]
      obtain ⟨w2, e3, g2, f2⟩ := sX12_reads_1 (d := d + 2) (X := X) (v := v) (T := T) (c := c) (s := s) hT g1 (by omega) (by omega) q2
      by_cases q3 : isN b (nx b (nx b p)) 1 999
      · rw [if_pos q3]
        obtain ⟨w3, e4, g3, f3⟩ := sX12_reads_1 (d := d + 2) (X := X) (v := v) (T := T) (c := c) (s := s) hT g2 (by omega) (by omega) q3
        have hn0 := q1.2
        have hn1 := q2.2
        have hn2 := q3.2
        have ff := frT_tr f3 (frT_tr f2 f1)
        have w27 := (ff 411 27 (by omega)).trans h27
        have w28 := (ff 411 28 (by omega)).trans h28
        have w31 := (ff 411 31 (by omega)).trans h31
        have head : ∀ z, jm_env (d + 7) 263 [.ref 411] (qM X v w3 T c s) = some (.inl (some (.int (i3 (z)))), qM X v w3 T c s) → (z = 0 ∨ z = 1) → jm_env (d + 8) 266 [.ref 411] (qM X v w T c s) = jm_R (jm_env (d + 7)) jmM_X12_printOrder (if z = 0 then 45 else 34) [some (.ref 411), some (.int (i3 (nv b p))), some (.int (i3 (nv b (nx b p)))), some (.int (i3 (nv b (nx b (nx b p)))))] [] (qM X v w3 T c s) := by
          intro z hz hz1
          rw [eX12_printOrder (h := hT), bX12_printOrder_0]
          rcases hz1 with rfl | rfl
          · simp (disch := first | assumption | omega) only [↓reduceIte, i3_add, i3_sub, i3_mul, i3_neg, i6_add, i6_sub, i6_mul, i6_neg, i3_lt, i3_le, i3_eq, i6_lt, i6_eq, i3_div, i6_div, i6_i3, i3_i6, c6_lt, c6_ge, c6_gt, c6_le, c6_eq, i3_ite, i6_ite, ib_0, ib_z, ite_not, i1_0, i0_0, jB_1, jB_0, jB_ib, bI_v, bL_v, bD_v, bV_v, ob_s, ob_i, i3_ofNat, jx_e, bI_e, bL_e, bD_e, bV_e, i3_eq0, i6_eq0, if_mx, if_mn, if_true, if_false, not_true_eq_false, not_false_eq_true, Int.reduceEq, Int.reduceLT, Int.reduceLE, e1, e3, e4, hz]
          · have q9 : ((1 : Int) = 0) = False := by decide
            simp (disch := first | assumption | omega) only [↓reduceIte, i3_add, i3_sub, i3_mul, i3_neg, i6_add, i6_sub, i6_mul, i6_neg, i3_lt, i3_le, i3_eq, i6_lt, i6_eq, i3_div, i6_div, i6_i3, i3_i6, c6_lt, c6_ge, c6_gt, c6_le, c6_eq, i3_ite, i6_ite, ib_0, ib_z, ite_not, i1_0, i0_0, jB_1, jB_0, jB_ib, bI_v, bL_v, bD_v, bV_v, ob_s, ob_i, i3_ofNat, jx_e, bI_e, bL_e, bD_e, bV_e, i3_eq0, i6_eq0, if_mx, if_mn, if_true, if_false, not_true_eq_false, not_false_eq_true, Int.reduceEq, Int.reduceLT, Int.reduceLE, e1, e3, e4, hz, q9]
        rcases hg with rfl | rfl
        · refine oD_0 ⟨w3, ?_, g3, ff⟩
          rw [head 0 (sX12_isActive_0 (d := d + 6) hT w27) (Or.inl rfl), if_pos rfl, bX12_printOrder_45]
        · apply oD_1
          rw [head 1 (sX12_isActive_1 (d := d + 6) hT w27 g3.2 w28) (Or.inr rfl), if_neg (by decide), bX12_printOrder_34]
          show ∃ w', _ = some (_, qM X (tsV v (flR v (nv b p) (nv b (nx b p)) (nv b (nx b (nx b p)))) (flV v (nv b p) (nv b (nx b p)) (nv b (nx b (nx b p))))) w' T c s) ∧ GD w' b n (nx b (nx b (nx b p))) ∧ frC w' w ∧ cmW w' (flR v (nv b p) (nv b (nx b p)) (nv b (nx b (nx b p)))) D
          generalize nv b p = a1 at *
          generalize nv b (nx b p) = a2 at *
          generalize nv b (nx b (nx b p)) = a3 at *
          obtain ⟨wf, e6, ffw⟩ := sX12_fills_f (d := d) (X := X) (v := v) (w := w3) (T := T) (c := c) (s := s) (a := a1) (b := a2) (q := a3) hT ho.1 ho.2.2.2.1 hn0.1 hn0.2 hn1.1 hn1.2 hn2.1 hn2.2
          have w31' : wf 411 31 = D := by rw [ffw 411 31 (by omega) (by omega)]; exact w31
          have hbd : -7 ≤ flR v a1 a2 a3 ∧ flR v a1 a2 a3 < 1000000 ∧ (flR v a1 a2 a3 < -1 → flV v a1 a2 a3 = v) := by
            rcases flR_b (μ := v) (a := a1) (b := a2) (q := a3) with ⟨r1, r2, r3, r4, r5⟩ | ⟨r1, r2, r3, r4⟩
            · exact ⟨by omega, by omega, fun _ => if_pos r3⟩
            · rcases nrA_c (v := v) a1 a2 a3 0 with ⟨h1, -⟩ | ⟨-, g3, g4, g5, g6⟩
              · exact absurd h1 r4
              · exact ⟨by omega, by omega, fun _ => by omega⟩
          obtain ⟨w4, e5, g4, f4⟩ := sX12_came (d := d + 6) (X := X) (v := v) (w := wf) (T := T) (c := c) (s := s) (z := flR v a1 a2 a3) (u := flV v a1 a2 a3) hT hbd.1 (by omega) w31' D0 D1 hbd.2.2
          have f4' : frG w4 w3 := frG_tr (fun m k _ hk => f4 m k (by omega)) ffw.g
          refine ⟨w4, ?_, GD_G g3 f4', frC_tr f4'.c ff.c, g4⟩
          simp (disch := first | assumption | omega) only [↓reduceIte, i3_add, i3_sub, i3_mul, i3_neg, i6_add, i6_sub, i6_mul, i6_neg, i3_lt, i3_le, i3_eq, i6_lt, i6_eq, i3_div, i6_div, i6_i3, i3_i6, c6_lt, c6_ge, c6_gt, c6_le, c6_eq, i3_ite, i6_ite, ib_0, ib_z, ite_not, i1_0, i0_0, jB_1, jB_0, jB_ib, bI_v, bL_v, bD_v, bV_v, ob_s, ob_i, i3_ofNat, jx_e, bI_e, bL_e, bD_e, bV_e, i3_eq0, i6_eq0, if_mx, if_mn, if_true, if_false, not_true_eq_false, not_false_eq_true, Int.reduceEq, Int.reduceLT, Int.reduceLE, e6, e5, bX12_printOrder_45]
      · rw [if_neg q3]
        obtain ⟨w3, e4, g3, f3⟩ := sX12_reads_0 (d := d + 2) (X := X) (v := v) (T := T) (c := c) (s := s) (x := 1) (y := 999) hT g2 (by omega) (by omega) (by omega) q3
        have ff := frT_tr f3 (frT_tr f2 f1)
        have e5 := sX12_isActive_b (d := d + 6) (X := X) (v := v) (T := T) (c := c) (s := s) hT ((ff 411 27 (by omega)).trans h27) hg g3
        refine oD_l ⟨w3, ?_, g3, ff⟩
        rw [eX12_printOrder (h := hT), bX12_printOrder_0]
        simp (disch := first | assumption | omega) only [↓reduceIte, i3_add, i3_sub, i3_mul, i3_neg, i6_add, i6_sub, i6_mul, i6_neg, i3_lt, i3_le, i3_eq, i6_lt, i6_eq, i3_div, i6_div, i6_i3, i3_i6, c6_lt, c6_ge, c6_gt, c6_le, c6_eq, i3_ite, i6_ite, ib_0, ib_z, ite_not, i1_0, i0_0, jB_1, jB_0, jB_ib, bI_v, bL_v, bD_v, bV_v, ob_s, ob_i, i3_ofNat, jx_e, bI_e, bL_e, bD_e, bV_e, i3_eq0, i6_eq0, if_mx, if_mn, if_true, if_false, not_true_eq_false, not_false_eq_true, Int.reduceEq, Int.reduceLT, Int.reduceLE, e1, e3, e4, e5, bX12_printOrder_45]
    · rw [if_neg q2]
      obtain ⟨w2, e3, g2, f2⟩ := sX12_reads_0 (d := d + 2) (X := X) (v := v) (T := T) (c := c) (s := s) (x := 1) (y := 2000) hT g1 (by omega) (by omega) (by omega) q2
      have e4 := sX12_reads_bad (d := d + 2) (X := X) (v := v) (T := T) (c := c) (s := s) (x := 1) (y := 999) hT g2 (by omega) (by omega) (by omega)
      have ff := frT_tr f2 f1
      have e5 := sX12_isActive_b (d := d + 6) (X := X) (v := v) (T := T) (c := c) (s := s) hT ((ff 411 27 (by omega)).trans h27) hg g2
      refine oD_l ⟨w2, ?_, g2, ff⟩
      rw [eX12_printOrder (h := hT), bX12_printOrder_0]
      simp (disch := first | assumption | omega) only [↓reduceIte, i3_add, i3_sub, i3_mul, i3_neg, i6_add, i6_sub, i6_mul, i6_neg, i3_lt, i3_le, i3_eq, i6_lt, i6_eq, i3_div, i6_div, i6_i3, i3_i6, c6_lt, c6_ge, c6_gt, c6_le, c6_eq, i3_ite, i6_ite, ib_0, ib_z, ite_not, i1_0, i0_0, jB_1, jB_0, jB_ib, bI_v, bL_v, bD_v, bV_v, ob_s, ob_i, i3_ofNat, jx_e, bI_e, bL_e, bD_e, bV_e, i3_eq0, i6_eq0, if_mx, if_mn, if_true, if_false, not_true_eq_false, not_false_eq_true, Int.reduceEq, Int.reduceLT, Int.reduceLE, e1, e3, e4, e5, bX12_printOrder_45]
  · rw [if_neg q1]
    obtain ⟨w1, e1, g1, f1⟩ := sX12_reads_0 (d := d + 2) (X := X) (v := v) (T := T) (c := c) (s := s) (x := 1) (y := 2000) hT h (by omega) (by omega) (by omega) q1
    have e3 := sX12_reads_bad (d := d + 2) (X := X) (v := v) (T := T) (c := c) (s := s) (x := 1) (y := 2000) hT g1 (by omega) (by omega) (by omega)
    have e4 := sX12_reads_bad (d := d + 2) (X := X) (v := v) (T := T) (c := c) (s := s) (x := 1) (y := 999) hT g1 (by omega) (by omega) (by omega)
    have e5 := sX12_isActive_b (d := d + 6) (X := X) (v := v) (T := T) (c := c) (s := s) hT ((f1 411 27 (by omega)).trans h27) hg g1
    refine oD_l ⟨w1, ?_, g1, f1⟩
    rw [eX12_printOrder (h := hT), bX12_printOrder_0]
    simp (disch := first | assumption | omega) only [↓reduceIte, i3_add, i3_sub, i3_mul, i3_neg, i6_add, i6_sub, i6_mul, i6_neg, i3_lt, i3_le, i3_eq, i6_lt, i6_eq, i3_div, i6_div, i6_i3, i3_i6, c6_lt, c6_ge, c6_gt, c6_le, c6_eq, i3_ite, i6_ite, ib_0, ib_z, ite_not, i1_0, i0_0, jB_1, jB_0, jB_ib, bI_v, bL_v, bD_v, bV_v, ob_s, ob_i, i3_ofNat, jx_e, bI_e, bL_e, bD_e, bV_e, i3_eq0, i6_eq0, if_mx, if_mn, if_true, if_false, not_true_eq_false, not_false_eq_true, Int.reduceEq, Int.reduceLT, Int.reduceLE, e1, e3, e4, e5, bX12_printOrder_45]
theorem sX12_setOrder_1 {p : Nat} {g D m : Int} (hT : 18 ≤ T) (h : GD w b n p) (ho : okM v m) (hg : g = 0 ∨ g = 1) (h27 : w 411 27 = g) (h28 : w 411 28 = 0) (h31 : w 411 31 = D) (D0 : 0 ≤ D) (D1 : D < 40) :
    oD (jm_env (d + 8) 267 [.ref 411, .int (i3 1)] (qM X v w T c s)) X v w T c s b n g D (aO1 b 3 0 50 p) := by
  have hok := h.1.1.1
  have hpn := h.1.2.1
  have h1 := ho.1.2.2.1
  have h2 := ho.1.2.2.2.1
  have h3 := ho.2.1
  have z0 : ((1 : Int) = 0) = False := by decide
  unfold aO1
  by_cases q1 : isN b p 0 50
  · rw [if_pos q1]
    obtain ⟨w1, e1, g1, f1⟩ := sX12_reads_1 (d := d + 2) (X := X) (v := v) (T := T) (c := c) (s := s) hT h (by omega) (by omega) q1
    have hn0 := q1.2
    have w27 := (f1 411 27 (by omega)).trans h27
    have w28 := (f1 411 28 (by omega)).trans h28
    have w31 := (f1 411 31 (by omega)).trans h31
    rcases hg with rfl | rfl
    · refine oD_0 ⟨w1, ?_, g1, f1⟩
      have e2 := sX12_isActive_0 (d := d + 6) (X := X) (v := v) (T := T) (c := c) (s := s) hT w27
      rw [eX12_setOrder (h := hT), bX12_setOrder_0]
      simp (disch := first | assumption | omega) only [↓reduceIte, i3_add, i3_sub, i3_mul, i3_neg, i6_add, i6_sub, i6_mul, i6_neg, i3_lt, i3_le, i3_eq, i6_lt, i6_eq, i3_div, i6_div, i6_i3, i3_i6, c6_lt, c6_ge, c6_gt, c6_le, c6_eq, i3_ite, i6_ite, ib_0, ib_z, ite_not, i1_0, i0_0, jB_1, jB_0, jB_ib, bI_v, bL_v, bD_v, bV_v, ob_s, ob_i, i3_ofNat, jx_e, bI_e, bL_e, bD_e, bV_e, i3_eq0, i6_eq0, if_mx, if_mn, if_true, if_false, not_true_eq_false, not_false_eq_true, Int.reduceEq, Int.reduceLT, Int.reduceLE, z0, bX12_setOrder_4, e1, bX12_setOrder_22, e2, bX12_setOrder_48]
    · apply oD_1
      have e2 := sX12_isActive_1 (d := d + 6) (X := X) (v := v) (T := T) (c := c) (s := s) hT w27 g1.2 w28
      have e3 := sX12_sets (d := d + 6) (X := X) (v := v) (w := w1) (T := T) (c := c) (s := s) (k := 1) (z := nv b p) hT (by omega) (by omega) (by omega) (by omega)
      obtain ⟨w4, e5, g4, f4⟩ := sX12_came (d := d + 6) (X := X) (v := v) (w := w1) (T := T) (c := c) (s := s) (z := v 412 1) (u := up v 412 1 (nv b p)) hT (by omega) (by omega) w31 D0 D1 (fun g => by omega)
      have e6 : tsV v (v 412 1) (up v 412 1 (nv b p)) = up v 412 1 (nv b p) := if_neg (by omega)
      rw [e6] at e5
      have f4' : frG w4 w1 := fun m k _ hk => f4 m k (by omega)
      refine ⟨w4, ?_, GD_G g1 f4', frC_tr f4'.c f1.c, g4⟩
      show _ = some (_, qM X (up v 412 1 (nv b p)) w4 T c s)
      have q9 : ((1 : Int) = 0) = False := by decide
      rw [eX12_setOrder (h := hT), bX12_setOrder_0]
      simp (disch := first | assumption | omega) only [↓reduceIte, i3_add, i3_sub, i3_mul, i3_neg, i6_add, i6_sub, i6_mul, i6_neg, i3_lt, i3_le, i3_eq, i6_lt, i6_eq, i3_div, i6_div, i6_i3, i3_i6, c6_lt, c6_ge, c6_gt, c6_le, c6_eq, i3_ite, i6_ite, ib_0, ib_z, ite_not, i1_0, i0_0, jB_1, jB_0, jB_ib, bI_v, bL_v, bD_v, bV_v, ob_s, ob_i, i3_ofNat, jx_e, bI_e, bL_e, bD_e, bV_e, i3_eq0, i6_eq0, if_mx, if_mn, if_true, if_false, not_true_eq_false, not_false_eq_true, Int.reduceEq, Int.reduceLT, Int.reduceLE, z0, bX12_setOrder_4, e1, bX12_setOrder_22, e2, q9, bX12_setOrder_30, bX12_setOrder_36, bX12_setOrder_41, e3, e5, bX12_setOrder_48]
  · rw [if_neg q1]
    obtain ⟨w1, e1, g1, f1⟩ := sX12_reads_0 (d := d + 2) (X := X) (v := v) (T := T) (c := c) (s := s) (x := 0) (y := 50) hT h (by omega) (by omega) (by omega) q1
    have e5 := sX12_isActive_b (d := d + 6) (X := X) (v := v) (T := T) (c := c) (s := s) hT ((f1 411 27 (by omega)).trans h27) hg g1
    refine oD_l ⟨w1, ?_, g1, f1⟩
    rw [eX12_setOrder (h := hT), bX12_setOrder_0]
    simp (disch := first | assumption | omega) only [↓reduceIte, i3_add, i3_sub, i3_mul, i3_neg, i6_add, i6_sub, i6_mul, i6_neg, i3_lt, i3_le, i3_eq, i6_lt, i6_eq, i3_div, i6_div, i6_i3, i3_i6, c6_lt, c6_ge, c6_gt, c6_le, c6_eq, i3_ite, i6_ite, ib_0, ib_z, ite_not, i1_0, i0_0, jB_1, jB_0, jB_ib, bI_v, bL_v, bD_v, bV_v, ob_s, ob_i, i3_ofNat, jx_e, bI_e, bL_e, bD_e, bV_e, i3_eq0, i6_eq0, if_mx, if_mn, if_true, if_false, not_true_eq_false, not_false_eq_true, Int.reduceEq, Int.reduceLT, Int.reduceLE, z0, bX12_setOrder_4, e1, bX12_setOrder_22, e5, bX12_setOrder_48]
theorem sX12_setOrder_0 {p : Nat} {g D m : Int} (hT : 18 ≤ T) (h : GD w b n p) (ho : okM v m) (hg : g = 0 ∨ g = 1) (h27 : w 411 27 = g) (h28 : w 411 28 = 0) (h31 : w 411 31 = D) (D0 : 0 ≤ D) (D1 : D < 40) :
    oD (jm_env (d + 8) 267 [.ref 411, .int (i3 0)] (qM X v w T c s)) X v w T c s b n g D (aO1 b 4 1 500 p) := by
  have hok := h.1.1.1
  have hpn := h.1.2.1
  have h1 := ho.1.2.2.1
  have h2 := ho.1.2.2.2.1
  have h3 := ho.2.1
  have z0 : ((0 : Int) = 0) = True := by decide
  unfold aO1
  by_cases q1 : isN b p 1 500
  · rw [if_pos q1]
    obtain ⟨w1, e1, g1, f1⟩ := sX12_reads_1 (d := d + 2) (X := X) (v := v) (T := T) (c := c) (s := s) hT h (by omega) (by omega) q1
    have hn0 := q1.2
    have w27 := (f1 411 27 (by omega)).trans h27
    have w28 := (f1 411 28 (by omega)).trans h28
    have w31 := (f1 411 31 (by omega)).trans h31
    rcases hg with rfl | rfl
    · refine oD_0 ⟨w1, ?_, g1, f1⟩
      have e2 := sX12_isActive_0 (d := d + 6) (X := X) (v := v) (T := T) (c := c) (s := s) hT w27
      rw [eX12_setOrder (h := hT), bX12_setOrder_0]
      simp (disch := first | assumption | omega) only [↓reduceIte, i3_add, i3_sub, i3_mul, i3_neg, i6_add, i6_sub, i6_mul, i6_neg, i3_lt, i3_le, i3_eq, i6_lt, i6_eq, i3_div, i6_div, i6_i3, i3_i6, c6_lt, c6_ge, c6_gt, c6_le, c6_eq, i3_ite, i6_ite, ib_0, ib_z, ite_not, i1_0, i0_0, jB_1, jB_0, jB_ib, bI_v, bL_v, bD_v, bV_v, ob_s, ob_i, i3_ofNat, jx_e, bI_e, bL_e, bD_e, bV_e, i3_eq0, i6_eq0, if_mx, if_mn, if_true, if_false, not_true_eq_false, not_false_eq_true, Int.reduceEq, Int.reduceLT, Int.reduceLE, z0, bX12_setOrder_14, e1, bX12_setOrder_22, e2, bX12_setOrder_48]
    · apply oD_1
      have e2 := sX12_isActive_1 (d := d + 6) (X := X) (v := v) (T := T) (c := c) (s := s) hT w27 g1.2 w28
      have e3 := sX12_sets (d := d + 6) (X := X) (v := v) (w := w1) (T := T) (c := c) (s := s) (k := 2) (z := nv b p) hT (by omega) (by omega) (by omega) (by omega)
      obtain ⟨w4, e5, g4, f4⟩ := sX12_came (d := d + 6) (X := X) (v := v) (w := w1) (T := T) (c := c) (s := s) (z := v 412 2) (u := up v 412 2 (nv b p)) hT (by omega) (by omega) w31 D0 D1 (fun g => by omega)
      have e6 : tsV v (v 412 2) (up v 412 2 (nv b p)) = up v 412 2 (nv b p) := if_neg (by omega)
      rw [e6] at e5
      have f4' : frG w4 w1 := fun m k _ hk => f4 m k (by omega)
      refine ⟨w4, ?_, GD_G g1 f4', frC_tr f4'.c f1.c, g4⟩
      show _ = some (_, qM X (up v 412 2 (nv b p)) w4 T c s)
      have q9 : ((1 : Int) = 0) = False := by decide
      rw [eX12_setOrder (h := hT), bX12_setOrder_0]
      simp (disch := first | assumption | omega) only [↓reduceIte, i3_add, i3_sub, i3_mul, i3_neg, i6_add, i6_sub, i6_mul, i6_neg, i3_lt, i3_le, i3_eq, i6_lt, i6_eq, i3_div, i6_div, i6_i3, i3_i6, c6_lt, c6_ge, c6_gt, c6_le, c6_eq, i3_ite, i6_ite, ib_0, ib_z, ite_not, i1_0, i0_0, jB_1, jB_0, jB_ib, bI_v, bL_v, bD_v, bV_v, ob_s, ob_i, i3_ofNat, jx_e, bI_e, bL_e, bD_e, bV_e, i3_eq0, i6_eq0, if_mx, if_mn, if_true, if_false, not_true_eq_false, not_false_eq_true, Int.reduceEq, Int.reduceLT, Int.reduceLE, z0, bX12_setOrder_14, e1, bX12_setOrder_22, e2, q9, bX12_setOrder_30, bX12_setOrder_40, bX12_setOrder_41, e3, e5, bX12_setOrder_48]
  · rw [if_neg q1]
    obtain ⟨w1, e1, g1, f1⟩ := sX12_reads_0 (d := d + 2) (X := X) (v := v) (T := T) (c := c) (s := s) (x := 1) (y := 500) hT h (by omega) (by omega) (by omega) q1
    have e5 := sX12_isActive_b (d := d + 6) (X := X) (v := v) (T := T) (c := c) (s := s) hT ((f1 411 27 (by omega)).trans h27) hg g1
    refine oD_l ⟨w1, ?_, g1, f1⟩
    rw [eX12_setOrder (h := hT), bX12_setOrder_0]
    simp (disch := first | assumption | omega) only [↓reduceIte, i3_add, i3_sub, i3_mul, i3_neg, i6_add, i6_sub, i6_mul, i6_neg, i3_lt, i3_le, i3_eq, i6_lt, i6_eq, i3_div, i6_div, i6_i3, i3_i6, c6_lt, c6_ge, c6_gt, c6_le, c6_eq, i3_ite, i6_ite, ib_0, ib_z, ite_not, i1_0, i0_0, jB_1, jB_0, jB_ib, bI_v, bL_v, bD_v, bV_v, ob_s, ob_i, i3_ofNat, jx_e, bI_e, bL_e, bD_e, bV_e, i3_eq0, i6_eq0, if_mx, if_mn, if_true, if_false, not_true_eq_false, not_false_eq_true, Int.reduceEq, Int.reduceLT, Int.reduceLE, z0, bX12_setOrder_14, e1, bX12_setOrder_22, e5, bX12_setOrder_48]
def wK (k : Int) : Int := if k = 0 then 2745 else if k = 1 then 3764 else if k = 2 then 16322738 else if k = 3 then 168165 else 594989
theorem oD_x {x y : Option jm_Res} {g D : Int} {r : aR} (h : oD x X v w T c s b n g D r) (hxy : ∀ m, x = some (.inl none, m) → y = some (.inl none, m)) : oD y X v w T c s b n g D r :=
  ⟨fun e he => let ⟨w', a, b⟩ := h.1 e he; ⟨w', hxy _ a, b⟩, fun u hu h0 => let ⟨w', a, b⟩ := h.2.1 u hu h0; ⟨w', hxy _ a, b⟩, fun u hu h0 => let ⟨w', a, b⟩ := h.2.2 u hu h0; ⟨w', hxy _ a, b⟩⟩
theorem sX12_does {p : Nat} {g D m k : Int} (hT : 18 ≤ T) (h : GD w b n p) (ho : okM v m) (hnm : nmOk v) (hg : g = 0 ∨ g = 1) (h27 : w 411 27 = g) (h28 : w 411 28 = 0) (h31 : w 411 31 = D) (D0 : 0 ≤ D) (D1 : D < 40) (k0 : 0 ≤ k) (k4 : k ≤ 4) :
    oD (jm_env (d + 9) 270 [.ref 411, .long (i6 (wK k))] (qM X v w T c s)) X v w T c s b n g D (aO b (nmF v) k p) := by
  have k5 : k = 0 ∨ k = 1 ∨ k = 2 ∨ k = 3 ∨ k = 4 := by omega
  have q10 : ((1 : Int) = 0) = False := by decide
  rcases k5 with rfl | rfl | rfl | rfl | rfl
  · refine oD_x (sX12_stackOrder_1 (d := d) (X := X) (c := c) (s := s) hT h ho hnm hg h27 h28 h31 D0 D1) (fun m hm => ?_)
    rw [show wK 0 = 2745 from rfl, eX12_does (h := hT), bX12_does_0]
    simp (disch := first | assumption | omega) only [↓reduceIte, i3_add, i3_sub, i3_mul, i3_neg, i6_add, i6_sub, i6_mul, i6_neg, i3_lt, i3_le, i3_eq, i6_lt, i6_eq, i3_div, i6_div, i6_i3, i3_i6, c6_lt, c6_ge, c6_gt, c6_le, c6_eq, i3_ite, i6_ite, ib_0, ib_z, ite_not, i1_0, i0_0, jB_1, jB_0, jB_ib, bI_v, bL_v, bD_v, bV_v, ob_s, ob_i, i3_ofNat, jx_e, bI_e, bL_e, bD_e, bV_e, i3_eq0, i6_eq0, if_mx, if_mn, if_true, if_false, not_true_eq_false, not_false_eq_true, Int.reduceEq, Int.reduceLT, Int.reduceLE, bX12_does_16, bX12_does_25, bX12_does_30, hm, bX12_does_68]
  · refine oD_x (sX12_stackOrder_0 (d := d) (X := X) (c := c) (s := s) hT h ho hnm hg h27 h28 h31 D0 D1) (fun m hm => ?_)
    have a1 : ((3764 : Int) = 2745) = False := by decide
    rw [show wK 1 = 3764 from rfl, eX12_does (h := hT), bX12_does_0]
    simp (disch := first | assumption | omega) only [↓reduceIte, i3_add, i3_sub, i3_mul, i3_neg, i6_add, i6_sub, i6_mul, i6_neg, i3_lt, i3_le, i3_eq, i6_lt, i6_eq, i3_div, i6_div, i6_i3, i3_i6, c6_lt, c6_ge, c6_gt, c6_le, c6_eq, i3_ite, i6_ite, ib_0, ib_z, ite_not, i1_0, i0_0, jB_1, jB_0, jB_ib, bI_v, bL_v, bD_v, bV_v, ob_s, ob_i, i3_ofNat, jx_e, bI_e, bL_e, bD_e, bV_e, i3_eq0, i6_eq0, if_mx, if_mn, if_true, if_false, not_true_eq_false, not_false_eq_true, Int.reduceEq, Int.reduceLT, Int.reduceLE, a1, bX12_does_8, bX12_does_16, bX12_does_29, bX12_does_30, hm, bX12_does_68]
  · refine oD_x (sX12_printOrder (d := d) (X := X) (c := c) (s := s) hT h ho hg h27 h28 h31 D0 D1) (fun m hm => ?_)
    have a1 : ((16322738 : Int) = 2745) = False := by decide
    have a2 : ((16322738 : Int) = 3764) = False := by decide
    rw [show wK 2 = 16322738 from rfl, eX12_does (h := hT), bX12_does_0]
    simp (disch := first | assumption | omega) only [↓reduceIte, i3_add, i3_sub, i3_mul, i3_neg, i6_add, i6_sub, i6_mul, i6_neg, i3_lt, i3_le, i3_eq, i6_lt, i6_eq, i3_div, i6_div, i6_i3, i3_i6, c6_lt, c6_ge, c6_gt, c6_le, c6_eq, i3_ite, i6_ite, ib_0, ib_z, ite_not, i1_0, i0_0, jB_1, jB_0, jB_ib, bI_v, bL_v, bD_v, bV_v, ob_s, ob_i, i3_ofNat, jx_e, bI_e, bL_e, bD_e, bV_e, i3_eq0, i6_eq0, if_mx, if_mn, if_true, if_false, not_true_eq_false, not_false_eq_true, Int.reduceEq, Int.reduceLT, Int.reduceLE, a1, a2, bX12_does_8, bX12_does_36, bX12_does_44, hm, bX12_does_68]
  · refine oD_x (sX12_setOrder_1 (d := d) (X := X) (c := c) (s := s) hT h ho hg h27 h28 h31 D0 D1) (fun m hm => ?_)
    have a1 : ((168165 : Int) = 2745) = False := by decide
    have a2 : ((168165 : Int) = 3764) = False := by decide
    have a3 : ((168165 : Int) = 16322738) = False := by decide
    rw [show wK 3 = 168165 from rfl, eX12_does (h := hT), bX12_does_0]
    simp (disch := first | assumption | omega) only [↓reduceIte, i3_add, i3_sub, i3_mul, i3_neg, i6_add, i6_sub, i6_mul, i6_neg, i3_lt, i3_le, i3_eq, i6_lt, i6_eq, i3_div, i6_div, i6_i3, i3_i6, c6_lt, c6_ge, c6_gt, c6_le, c6_eq, i3_ite, i6_ite, ib_0, ib_z, ite_not, i1_0, i0_0, jB_1, jB_0, jB_ib, bI_v, bL_v, bD_v, bV_v, ob_s, ob_i, i3_ofNat, jx_e, bI_e, bL_e, bD_e, bV_e, i3_eq0, i6_eq0, if_mx, if_mn, if_true, if_false, not_true_eq_false, not_false_eq_true, Int.reduceEq, Int.reduceLT, Int.reduceLE, a1, a2, a3, bX12_does_8, bX12_does_36, bX12_does_51, bX12_does_60, bX12_does_65, hm, bX12_does_68]
  · refine oD_x (sX12_setOrder_0 (d := d) (X := X) (c := c) (s := s) hT h ho hg h27 h28 h31 D0 D1) (fun m hm => ?_)
    have a1 : ((594989 : Int) = 2745) = False := by decide
    have a2 : ((594989 : Int) = 3764) = False := by decide
    have a3 : ((594989 : Int) = 16322738) = False := by decide
    have a4 : ((594989 : Int) = 168165) = False := by decide
    rw [show wK 4 = 594989 from rfl, eX12_does (h := hT), bX12_does_0]
    simp (disch := first | assumption | omega) only [↓reduceIte, i3_add, i3_sub, i3_mul, i3_neg, i6_add, i6_sub, i6_mul, i6_neg, i3_lt, i3_le, i3_eq, i6_lt, i6_eq, i3_div, i6_div, i6_i3, i3_i6, c6_lt, c6_ge, c6_gt, c6_le, c6_eq, i3_ite, i6_ite, ib_0, ib_z, ite_not, i1_0, i0_0, jB_1, jB_0, jB_ib, bI_v, bL_v, bD_v, bV_v, ob_s, ob_i, i3_ofNat, jx_e, bI_e, bL_e, bD_e, bV_e, i3_eq0, i6_eq0, if_mx, if_mn, if_true, if_false, not_true_eq_false, not_false_eq_true, Int.reduceEq, Int.reduceLT, Int.reduceLE, a1, a2, a3, a4, bX12_does_8, bX12_does_36, bX12_does_51, bX12_does_64, bX12_does_65, hm, bX12_does_68]
theorem sX12_isOrder {p : Nat} (hT : 18 ≤ T) (h : GD w b n p) : jm_env (d + 2) 262 [.ref 411] (qM X v w T c s) = some (.inl (some (.int (i3 (if kw b p = -1 then 0 else 1)))), (qM X v w T c s)) := by
  have e1 := sX12_isWord (d := d) (X := X) (v := v) (T := T) (c := c) (s := s) (W := 2745) hT h (by omega) (by omega)
  have e2 := sX12_isWord (d := d) (X := X) (v := v) (T := T) (c := c) (s := s) (W := 3764) hT h (by omega) (by omega)
  have e3 := sX12_isWord (d := d) (X := X) (v := v) (T := T) (c := c) (s := s) (W := 16322738) hT h (by omega) (by omega)
  have e4 := sX12_isWord (d := d) (X := X) (v := v) (T := T) (c := c) (s := s) (W := 168165) hT h (by omega) (by omega)
  have e5 := sX12_isWord (d := d) (X := X) (v := v) (T := T) (c := c) (s := s) (W := 594989) hT h (by omega) (by omega)
  have e6 := sX12_isWord (d := d) (X := X) (v := v) (T := T) (c := c) (s := s) (W := 1279278) hT h (by omega) (by omega)
  have q10 : ((1 : Int) = 0) = False := by decide
  unfold kw
  rw [eX12_isOrder (h := hT), bX12_isOrder_0]
  by_cases g1 : isW b p 2745
  · rw [if_pos g1] at e1 ⊢
    simp (disch := first | assumption | omega) only [↓reduceIte, i3_add, i3_sub, i3_mul, i3_neg, i6_add, i6_sub, i6_mul, i6_neg, i3_lt, i3_le, i3_eq, i6_lt, i6_eq, i3_div, i6_div, i6_i3, i3_i6, c6_lt, c6_ge, c6_gt, c6_le, c6_eq, i3_ite, i6_ite, ib_0, ib_z, ite_not, i1_0, i0_0, jB_1, jB_0, jB_ib, bI_v, bL_v, bD_v, bV_v, ob_s, ob_i, i3_ofNat, jx_e, bI_e, bL_e, bD_e, bV_e, i3_eq0, i6_eq0, if_mx, if_mn, if_true, if_false, not_true_eq_false, not_false_eq_true, Int.reduceEq, Int.reduceLT, Int.reduceLE, e1, q10, bX12_isOrder_60, bX12_isOrder_65]
  rw [if_neg g1] at e1 ⊢
  by_cases g2 : isW b p 3764
  · rw [if_pos g2] at e2 ⊢
    simp (disch := first | assumption | omega) only [↓reduceIte, i3_add, i3_sub, i3_mul, i3_neg, i6_add, i6_sub, i6_mul, i6_neg, i3_lt, i3_le, i3_eq, i6_lt, i6_eq, i3_div, i6_div, i6_i3, i3_i6, c6_lt, c6_ge, c6_gt, c6_le, c6_eq, i3_ite, i6_ite, ib_0, ib_z, ite_not, i1_0, i0_0, jB_1, jB_0, jB_ib, bI_v, bL_v, bD_v, bV_v, ob_s, ob_i, i3_ofNat, jx_e, bI_e, bL_e, bD_e, bV_e, i3_eq0, i6_eq0, if_mx, if_mn, if_true, if_false, not_true_eq_false, not_false_eq_true, Int.reduceEq, Int.reduceLT, Int.reduceLE, e1, e2, q10, bX12_isOrder_10, bX12_isOrder_60, bX12_isOrder_65]
  rw [if_neg g2] at e2 ⊢
  by_cases g3 : isW b p 16322738
  · rw [if_pos g3] at e3 ⊢
    simp (disch := first | assumption | omega) only [↓reduceIte, i3_add, i3_sub, i3_mul, i3_neg, i6_add, i6_sub, i6_mul, i6_neg, i3_lt, i3_le, i3_eq, i6_lt, i6_eq, i3_div, i6_div, i6_i3, i3_i6, c6_lt, c6_ge, c6_gt, c6_le, c6_eq, i3_ite, i6_ite, ib_0, ib_z, ite_not, i1_0, i0_0, jB_1, jB_0, jB_ib, bI_v, bL_v, bD_v, bV_v, ob_s, ob_i, i3_ofNat, jx_e, bI_e, bL_e, bD_e, bV_e, i3_eq0, i6_eq0, if_mx, if_mn, if_true, if_false, not_true_eq_false, not_false_eq_true, Int.reduceEq, Int.reduceLT, Int.reduceLE, e1, e2, e3, q10, bX12_isOrder_10, bX12_isOrder_20, bX12_isOrder_60, bX12_isOrder_65]
  rw [if_neg g3] at e3 ⊢
  by_cases g4 : isW b p 168165
  · rw [if_pos g4] at e4 ⊢
    simp (disch := first | assumption | omega) only [↓reduceIte, i3_add, i3_sub, i3_mul, i3_neg, i6_add, i6_sub, i6_mul, i6_neg, i3_lt, i3_le, i3_eq, i6_lt, i6_eq, i3_div, i6_div, i6_i3, i3_i6, c6_lt, c6_ge, c6_gt, c6_le, c6_eq, i3_ite, i6_ite, ib_0, ib_z, ite_not, i1_0, i0_0, jB_1, jB_0, jB_ib, bI_v, bL_v, bD_v, bV_v, ob_s, ob_i, i3_ofNat, jx_e, bI_e, bL_e, bD_e, bV_e, i3_eq0, i6_eq0, if_mx, if_mn, if_true, if_false, not_true_eq_false, not_false_eq_true, Int.reduceEq, Int.reduceLT, Int.reduceLE, e1, e2, e3, e4, q10, bX12_isOrder_10, bX12_isOrder_20, bX12_isOrder_30, bX12_isOrder_60, bX12_isOrder_65]
  rw [if_neg g4] at e4 ⊢
  by_cases g5 : isW b p 594989
  · rw [if_pos g5] at e5 ⊢
    simp (disch := first | assumption | omega) only [↓reduceIte, i3_add, i3_sub, i3_mul, i3_neg, i6_add, i6_sub, i6_mul, i6_neg, i3_lt, i3_le, i3_eq, i6_lt, i6_eq, i3_div, i6_div, i6_i3, i3_i6, c6_lt, c6_ge, c6_gt, c6_le, c6_eq, i3_ite, i6_ite, ib_0, ib_z, ite_not, i1_0, i0_0, jB_1, jB_0, jB_ib, bI_v, bL_v, bD_v, bV_v, ob_s, ob_i, i3_ofNat, jx_e, bI_e, bL_e, bD_e, bV_e, i3_eq0, i6_eq0, if_mx, if_mn, if_true, if_false, not_true_eq_false, not_false_eq_true, Int.reduceEq, Int.reduceLT, Int.reduceLE, e1, e2, e3, e4, e5, q10, bX12_isOrder_10, bX12_isOrder_20, bX12_isOrder_30, bX12_isOrder_40, bX12_isOrder_60, bX12_isOrder_65]
  rw [if_neg g5] at e5 ⊢
  by_cases g6 : isW b p 1279278
  · rw [if_pos g6] at e6 ⊢
    simp (disch := first | assumption | omega) only [↓reduceIte, i3_add, i3_sub, i3_mul, i3_neg, i6_add, i6_sub, i6_mul, i6_neg, i3_lt, i3_le, i3_eq, i6_lt, i6_eq, i3_div, i6_div, i6_i3, i3_i6, c6_lt, c6_ge, c6_gt, c6_le, c6_eq, i3_ite, i6_ite, ib_0, ib_z, ite_not, i1_0, i0_0, jB_1, jB_0, jB_ib, bI_v, bL_v, bD_v, bV_v, ob_s, ob_i, i3_ofNat, jx_e, bI_e, bL_e, bD_e, bV_e, i3_eq0, i6_eq0, if_mx, if_mn, if_true, if_false, not_true_eq_false, not_false_eq_true, Int.reduceEq, Int.reduceLT, Int.reduceLE, e1, e2, e3, e4, e5, e6, q10, bX12_isOrder_10, bX12_isOrder_20, bX12_isOrder_30, bX12_isOrder_40, bX12_isOrder_50, bX12_isOrder_60, bX12_isOrder_65]
  rw [if_neg g6] at e6 ⊢
  simp (disch := first | assumption | omega) only [↓reduceIte, i3_add, i3_sub, i3_mul, i3_neg, i6_add, i6_sub, i6_mul, i6_neg, i3_lt, i3_le, i3_eq, i6_lt, i6_eq, i3_div, i6_div, i6_i3, i3_i6, c6_lt, c6_ge, c6_gt, c6_le, c6_eq, i3_ite, i6_ite, ib_0, ib_z, ite_not, i1_0, i0_0, jB_1, jB_0, jB_ib, bI_v, bL_v, bD_v, bV_v, ob_s, ob_i, i3_ofNat, jx_e, bI_e, bL_e, bD_e, bV_e, i3_eq0, i6_eq0, if_mx, if_mn, if_true, if_false, not_true_eq_false, not_false_eq_true, Int.reduceEq, Int.reduceLT, Int.reduceLE, e1, e2, e3, e4, e5, e6, q10, bX12_isOrder_10, bX12_isOrder_20, bX12_isOrder_30, bX12_isOrder_40, bX12_isOrder_50, bX12_isOrder_64, bX12_isOrder_65]
theorem kw_5 {p : Nat} : isW b p 1279278 ↔ kw b p = 5 := by
  unfold kw
  constructor
  · intro h
    have h3 := h.2.2
    rw [if_neg (fun q => by have := q.2.2; omega), if_neg (fun q => by have := q.2.2; omega), if_neg (fun q => by have := q.2.2; omega), if_neg (fun q => by have := q.2.2; omega), if_neg (fun q => by have := q.2.2; omega), if_pos h]
  · intro h
    split at h
    · omega
    · split at h
      · omega
      · split at h
        · omega
        · split at h
          · omega
          · split at h
            · omega
            · split at h
              · assumption
              · omega
theorem kw_wK {p : Nat} (h0 : 0 ≤ kw b p) (h4 : kw b p ≤ 4) : kd b p = 1 ∧ wd b p = wK (kw b p) := by
  unfold kw at h0 h4 ⊢
  split
  · next q => exact ⟨q.1, q.2.2⟩
  · split
    · next q => exact ⟨q.1, q.2.2⟩
    · split
      · next q => exact ⟨q.1, q.2.2⟩
      · split
        · next q => exact ⟨q.1, q.2.2⟩
        · split
          · next q => exact ⟨q.1, q.2.2⟩
          · exfalso
            rw [if_neg (by assumption), if_neg (by assumption), if_neg (by assumption), if_neg (by assumption), if_neg (by assumption)] at h0 h4
            split at h4
            · omega
            · rw [if_neg (by assumption)] at h0; omega
end PLJ
