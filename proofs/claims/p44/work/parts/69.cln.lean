-- uses 24.zar 25.obj 26.ops 27.ra 29.rc 34.gen 35.byt 36.ser 37.lnd 38.mod 39.mo2 40.mo3 44.mo6 45.mo7 46.mo8 47.mo9 48.moa 49.mob 50.moc 51.moe 52.mof 53.cla 54.clb 55.clc 56.cld 57.cle 58.clf 61.cli 62.clj 63.clk 64.okm 65.cll 66.clm 67.okf 68.okg
/-! The class: an order filled. -/
theorem lr_flo {v μ : Nat → Int → Int} {g : Int → Int} (h : lr v 14 μ) (hc : μ 412 0 ≤ 5) (hp : μ 412 3 ≤ 30) {i : Nat} (hi : (i : Int) < μ 412 0) : lr (fil v (14 + 7 + 5 * i + 4) g 10) 14 (flo μ 412 (12 + 13 * i + 3) g 10) := by
  obtain ⟨⟨q0, q1, q2, q3⟩, qa, qp, qs⟩ := h
  refine ⟨⟨?_, ?_, ?_, ?_⟩, fun k k0 k1 => ?_, fun j j0 j1 => ?_, fun i' hi' => ?_⟩
  · rw [fil_ne (by omega), flo_ne (by omega)]; exact q0
  · rw [fil_ne (by omega), flo_ne (by omega)]; exact q1
  · rw [fil_ne (by omega), flo_ne (by omega)]; exact q2
  · rw [fil_ne (by omega), flo_ne (by omega)]; exact q3
  · rw [fil_ne (by omega), flo_ne (by omega)]; exact qa k k0 k1
  · rw [flo_ne (by omega)] at j1
    rw [fil_ne (by omega), fil_ne (by omega), fil_ne (by omega), flo_ne (by omega), flo_ne (by omega), flo_ne (by omega)]; exact qp j j0 j1
  · rw [flo_ne (by omega)] at hi'
    obtain ⟨r, nn⟩ := qs i' hi'
    refine ⟨fun m m0 m1 => ?_, ?_⟩
    · obtain ⟨r1, r2, r3⟩ := r m m0 m1
      have ez : szM (flo μ 412 (12 + 13 * i + 3) g 10) i' m = szM μ i' m := by
        unfold szM
        rw [flo_ne (by omega), flo_ne (by omega)]
      rw [ez]
      refine ⟨?_, ?_, ?_⟩
      · rw [fil_ne (by omega)]; exact r1
      · rw [fil_ne (by omega)]; exact r2
      · unfold kM at r3 ⊢
        by_cases e : i' = i
        · subst e
          rw [fil_in m0 m1, flo_in (by omega) (by omega), show 12 + 13 * (i' : Int) + 3 + m - (12 + 13 * i' + 3) = m by omega]
        · rw [fil_ne (by omega), flo_ne (by omega)]; exact r3
    · unfold rn
      rw [fil_ne (by omega), fil_b (by omega), flo_ne (by omega)]
      exact nn
theorem up_fil_in {v : Nat → Int → Int} {b : Nat} {m k z : Int} {g h : Int → Int} (h0 : 0 ≤ k) (h1 : k < m) (hk : h k = z) (hh : ∀ j, 0 ≤ j → j < m → j ≠ k → h j = g j) : up (fil v b g m) b k z = fil v b h m := by
  funext n j
  unfold up fil
  by_cases e : n = b ∧ j = k
  · rw [if_pos e, if_pos (by omega), e.2, hk]
  · rw [if_neg e]
    by_cases q : n = b ∧ 0 ≤ j ∧ j < m
    · rw [if_pos q, if_pos q, hh _ (by omega) (by omega) (by omega)]
    · rw [if_neg q, if_neg q]
theorem flU_eq {μ : Nat → Int → Int} {i a b q : Int} {n : Nat} (i0 : 0 ≤ i) (hn : n < 10) : eqS (flU μ i n a b q) (up (up (up (up (up (up (flo μ 412 (12 + 13 * i + 3) (fsF (kM μ i) q n) 10) 412 5 (μ 412 5 + a * b * q)) 412 6 (μ 412 6 + (aM μ i n - a * b) * q)) 412 7 (μ 412 7 + fsS μ i q n)) 412 8 (μ 412 8 + cuS (kM μ i) q n n)) 412 9 (μ 412 9 + 1)) 412 10 (μ 412 10 + q)) := by
  intro k k0 k1
  unfold flU
  by_cases h10 : k = 10
  · subst h10; rw [up_eq, up_eq]
  · by_cases h9 : k = 9
    · subst h9; rw [up_ne (by omega), up_eq, up_ne (by omega), up_eq]
    · by_cases h8 : k = 8
      · subst h8; rw [up_ne (by omega), up_ne (by omega), up_ne (by omega), up_ne (by omega), flo_ne (by omega), up_ne (by omega), up_eq, up_ne (by omega), up_ne (by omega), up_eq]
      · by_cases h7 : k = 7
        · subst h7; rw [up_ne (by omega), up_ne (by omega), up_ne (by omega), up_ne (by omega), flo_ne (by omega), up_eq, up_ne (by omega), up_ne (by omega), up_ne (by omega), up_eq]
        · by_cases h6 : k = 6
          · subst h6; rw [up_ne (by omega), up_ne (by omega), up_eq, up_ne (by omega), up_ne (by omega), up_ne (by omega), up_ne (by omega), up_eq]
          · by_cases h5 : k = 5
            · subst h5; rw [up_ne (by omega), up_ne (by omega), up_ne (by omega), up_eq, up_ne (by omega), up_ne (by omega), up_ne (by omega), up_ne (by omega), up_ne (by omega), up_eq]
            · rw [up_ne (by omega), up_ne (by omega), up_ne (by omega), up_ne (by omega), up_ne (by omega), up_ne (by omega), up_ne (by omega), up_ne (by omega), up_ne (by omega), up_ne (by omega)]
              by_cases g : 12 + 13 * i + 3 ≤ k ∧ k < 12 + 13 * i + 3 + 10
              · rw [flo_in (to := 12 + 13 * i + 3) (m := 10) g.1 g.2]
                by_cases g2 : k < 12 + 13 * i + 3 + ((n : Int) + 1)
                · rw [flo_in g.1 g2]
                · rw [flo_ne (by omega), up_ne (by omega), up_ne (by omega), fsF_out (by omega)]
                  unfold kM
                  rw [show 12 + 13 * i + 3 + (k - (12 + 13 * i + 3)) = k by omega]
              · rw [flo_ne (by omega), flo_ne (by omega), up_ne (by omega), up_ne (by omega)]
section CLN
variable {d : Nat} {X : Nat × (Nat → Int32)} {v w : Nat → Int → Int} {T c s : Nat}
variable {μ : Nat → Int → Int} {m : Int}
theorem tX1_doWith {i : Nat} {K f : Int → Int} (hs : oSer (14 + 7 + 5 * i)) (hk : ∀ k : Int, 0 ≤ k → k < 10 → v (14 + 7 + 5 * i + 4) k = K k) (hf : ∀ k : Int, 0 ≤ k → k < 10 → w 341 k = f k) (hf0 : f (-1) = 0) :
    jm_env (d + 2) 27 [.ref 340, .ref (14 + 7 + 5 * i)] (qM X v w T c s) = some (.inl none, qM X (fil v (14 + 7 + 5 * i + 4) (fun k => K k + (2 * f (k - 1) - f k)) 10) w T c s) := by
  have hh : ∀ (u : Nat → Int → Int) (k : Nat), k < 10 → jm_env (d + 1) 26 [.ref 340, .int (i3 k)] (qM X u w T c s) = some (.inl (some (.int (i3 (2 * f ((k : Int) - 1))))), qM X u w T c s) := by
    intro u k hk
    simp (disch := first | assumption | omega) only [eX1_halvesOf, bX1_halvesOf_0, bX1_halvesOf_4, bX1_halvesOf_10, bX1_halvesOf_23, bX1_halvesOf_24, r1_0, a1_0, w1_0, n1_0, i3_add, i3_sub, i3_mul, i3_neg, i6_add, i6_sub, i6_mul, i6_neg, i3_lt, i3_le, i3_eq, i6_lt, i6_eq, i3_div, i6_div, i6_i3, i3_i6, c6_lt, c6_ge, c6_gt, c6_le, c6_eq, i3_ite, i6_ite, ib_0, ib_z, ite_not, i1_0, i0_0, jB_1, jB_0, jB_ib, bI_v, bL_v, bD_v, bV_v, ob_s, ob_i, i3_ofNat, jx_e, bI_e, bL_e, bD_e, bV_e, i3_eq0, i6_eq0, if_mx, if_mn, if_true, if_false, not_true_eq_false, not_false_eq_true, Int.reduceEq, Int.reduceLT, Int.reduceLE]
    by_cases g : (k : Int) ≤ 0
    · have e : (k : Int) - 1 = -1 := by omega
      rw [if_pos g, e, hf0]
      rfl
    · rw [if_neg g]
      first | rw [if_neg (by omega)] | rw [if_pos (by omega)]
      rw [hf _ (by omega) (by omega)]
  have hl := ch_n (fun k : Nat => jm_R (jm_env (d + 1)) jmM_X1_doWith 2 [some (.ref 340), some (.ref (14 + 7 + 5 * i)), some (.int (i3 k))] [] (qM X (fil v (14 + 7 + 5 * i + 4) (fun k => K k + (2 * f (k - 1) - f k)) k) w T c s)) 10 (fun k hk1 => by
    have e : fil v (14 + 7 + 5 * i + 4) (fun k => K k + (2 * f (k - 1) - f k)) ((k + 1 : Nat) : Int) = up (fil v (14 + 7 + 5 * i + 4) (fun k => K k + (2 * f (k - 1) - f k)) k) (14 + 7 + 5 * i + 4) k (K k + (2 * f ((k : Int) - 1) - f k)) := (fil_up (Int.natCast_nonneg k) rfl).symm
    have h1 := hf k (by omega) (by omega)
    have h2 := hk k (by omega) (by omega)
    rw [e, bX1_doWith_2]
    simp (disch := first | assumption | omega) only [eX1_doWith, bX1_doWith_0, bX1_doWith_8, bX1_doWith_31, r1_0, a1_0, w1_0, n1_0, i3_add, i3_sub, i3_mul, i3_neg, i6_add, i6_sub, i6_mul, i6_neg, i3_lt, i3_le, i3_eq, i6_lt, i6_eq, i3_div, i6_div, i6_i3, i3_i6, c6_lt, c6_ge, c6_gt, c6_le, c6_eq, i3_ite, i6_ite, ib_0, ib_z, ite_not, i1_0, i0_0, jB_1, jB_0, jB_ib, bI_v, bL_v, bD_v, bV_v, ob_s, ob_i, i3_ofNat, jx_e, bI_e, bL_e, bD_e, bV_e, i3_eq0, i6_eq0, if_mx, if_mn, if_true, if_false, not_true_eq_false, not_false_eq_true, Int.reduceEq, Int.reduceLT, Int.reduceLE, hh, h1, sX9_addSheets, fil_ne, h2]
    rw [if_neg (by omega)]
    rfl)
  rw [show fil v (14 + 7 + 5 * i + 4) (fun k => K k + (2 * f (k - 1) - f k)) ((0 : Nat) : Int) = v from fil_0] at hl
  simp (disch := first | assumption | omega) only [eX1_doWith, bX1_doWith_0, bX1_doWith_8, bX1_doWith_31, r1_0, a1_0, w1_0, n1_0, i3_add, i3_sub, i3_mul, i3_neg, i6_add, i6_sub, i6_mul, i6_neg, i3_lt, i3_le, i3_eq, i6_lt, i6_eq, i3_div, i6_div, i6_i3, i3_i6, c6_lt, c6_ge, c6_gt, c6_le, c6_eq, i3_ite, i6_ite, ib_0, ib_z, ite_not, i1_0, i0_0, jB_1, jB_0, jB_ib, bI_v, bL_v, bD_v, bV_v, ob_s, ob_i, i3_ofNat, jx_e, bI_e, bL_e, bD_e, bV_e, i3_eq0, i6_eq0, if_mx, if_mn, if_true, if_false, not_true_eq_false, not_false_eq_true, Int.reduceEq, Int.reduceLT, Int.reduceLE]
  refine Eq.trans hl ?_
  rw [bX1_doWith_2]
  simp (disch := first | assumption | omega) only [eX1_doWith, bX1_doWith_0, bX1_doWith_8, bX1_doWith_31, r1_0, a1_0, w1_0, n1_0, i3_add, i3_sub, i3_mul, i3_neg, i6_add, i6_sub, i6_mul, i6_neg, i3_lt, i3_le, i3_eq, i6_lt, i6_eq, i3_div, i6_div, i6_i3, i3_i6, c6_lt, c6_ge, c6_gt, c6_le, c6_eq, i3_ite, i6_ite, ib_0, ib_z, ite_not, i1_0, i0_0, jB_1, jB_0, jB_ib, bI_v, bL_v, bD_v, bV_v, ob_s, ob_i, i3_ofNat, jx_e, bI_e, bL_e, bD_e, bV_e, i3_eq0, i6_eq0, if_mx, if_mn, if_true, if_false, not_true_eq_false, not_false_eq_true, Int.reduceEq, Int.reduceLT, Int.reduceLE]
  first | done | rw [if_pos (by omega)]
  rfl
theorem tX6_note (h : LO v 14 μ) (hp : prOk μ) {a b q : Int} (h2 : 0 ≤ a) (h3 : a ≤ 2000) (h4 : 0 ≤ b) (h5 : b ≤ 2000) : ∃ v', jm_env (d + 3) 63 [.ref (14 + 2), .int (i3 a), .int (i3 b), .int (i3 q)] (qM X v w T c s) = some (.inl none, qM X v' w T c s) ∧ lr v' 14 (kpsV μ a b q) ∧ frM v' v := by
  obtain ⟨hln, ⟨⟨l0, l1, l2, l3⟩, la, lp, -⟩, hg, hz⟩ := id h
  obtain ⟨p0, p1, -⟩ := id hp
  have hc5 := hg.2.1
  have hpi := oPri_of hln
  have hpf := prF_c (v := μ) a b
  unfold kpsV
  rcases hpf with hpf | ⟨f0, f1⟩
  · rw [if_pos hpf]
    by_cases g : μ 412 3 = 30
    · refine ⟨v, ?_, ?_, fun _ _ => rfl⟩
      · simp (disch := first | assumption | omega) only [eX6_note, bX6_note_0, bX6_note_14, bX6_note_37, bX6_note_46, bX6_note_92, r6_2, a6_2, w6_2, n6_2, g6_3, r6_0, a6_0, w6_0, n6_0, r6_1, a6_1, w6_1, n6_1, p6_3, i3_add, i3_sub, i3_mul, i3_neg, i6_add, i6_sub, i6_mul, i6_neg, i3_lt, i3_le, i3_eq, i6_lt, i6_eq, i3_div, i6_div, i6_i3, i3_i6, c6_lt, c6_ge, c6_gt, c6_le, c6_eq, i3_ite, i6_ite, ib_0, ib_z, ite_not, i1_0, i0_0, jB_1, jB_0, jB_ib, bI_v, bL_v, bD_v, bV_v, ob_s, ob_i, i3_ofNat, jx_e, bI_e, bL_e, bD_e, bV_e, i3_eq0, i6_eq0, if_mx, if_mn, if_true, if_false, not_true_eq_false, not_false_eq_true, Int.reduceEq, Int.reduceLT, Int.reduceLE, tX6_placeOf h hp, hpf, l3, s6_0, s6_1, s6_2]
        first | rw [if_pos (by omega)] | rw [if_neg (by omega)]
      · rw [if_pos g]; exact h.2.1
    · refine ⟨up (up (up (up v (14 + 3) (μ 412 3) a) (14 + 4) (μ 412 3) b) (14 + 5) (μ 412 3) q) (14 + 2) 3 (μ 412 3 + 1), ?_, ?_, fun m hm => by rw [up_b (by omega), up_b (by omega), up_b (by omega), up_b (by omega)]⟩
      · have g2 : μ 412 3 < 30 := by omega
        simp (disch := first | assumption | omega) only [eX6_note, bX6_note_0, bX6_note_14, bX6_note_37, bX6_note_46, bX6_note_92, r6_2, a6_2, w6_2, n6_2, g6_3, r6_0, a6_0, w6_0, n6_0, r6_1, a6_1, w6_1, n6_1, p6_3, i3_add, i3_sub, i3_mul, i3_neg, i6_add, i6_sub, i6_mul, i6_neg, i3_lt, i3_le, i3_eq, i6_lt, i6_eq, i3_div, i6_div, i6_i3, i3_i6, c6_lt, c6_ge, c6_gt, c6_le, c6_eq, i3_ite, i6_ite, ib_0, ib_z, ite_not, i1_0, i0_0, jB_1, jB_0, jB_ib, bI_v, bL_v, bD_v, bV_v, ob_s, ob_i, i3_ofNat, jx_e, bI_e, bL_e, bD_e, bV_e, i3_eq0, i6_eq0, if_mx, if_mn, if_true, if_false, not_true_eq_false, not_false_eq_true, Int.reduceEq, Int.reduceLT, Int.reduceLE, tX6_placeOf h hp, hpf, l3, up_ne, s6_0, s6_1, s6_2]
        first | rw [if_neg (by omega)] | rw [if_pos (by omega)]
      · rw [if_neg g]
        exact lr_pnew h.2.1 hc5 p0
  · rw [if_neg (by omega)]
    have e5 : v (14 + 2 + 3) (prF μ a b) = μ 412 (77 + 3 * prF μ a b + 2) := (lp _ f0 f1).2.2
    refine ⟨up v (14 + 5) (prF μ a b) (μ 412 (77 + 3 * prF μ a b + 2) + q), ?_, lr_pnum h.2.1 hc5 f0 f1, fun m hm => up_b (by omega)⟩
    have q0 : (prF μ a b = -1) = False := eq_false (by omega)
    have hpn : -2147483648 ≤ prF μ a b ∧ prF μ a b < 2147483648 := by omega
    simp (disch := first | assumption | omega) only [↓reduceIte, eX6_note, bX6_note_0, bX6_note_14, bX6_note_37, bX6_note_46, bX6_note_92, r6_2, a6_2, w6_2, n6_2, g6_3, r6_0, a6_0, w6_0, n6_0, r6_1, a6_1, w6_1, n6_1, p6_3, i3_add, i3_sub, i3_mul, i3_neg, i6_add, i6_sub, i6_mul, i6_neg, i3_lt, i3_le, i3_eq, i6_lt, i6_eq, i3_div, i6_div, i6_i3, i3_i6, c6_lt, c6_ge, c6_gt, c6_le, c6_eq, i3_ite, i6_ite, ib_0, ib_z, ite_not, i1_0, i0_0, jB_1, jB_0, jB_ib, bI_v, bL_v, bD_v, bV_v, ob_s, ob_i, i3_ofNat, jx_e, bI_e, bL_e, bD_e, bV_e, i3_eq0, i6_eq0, if_mx, if_mn, if_true, if_false, not_true_eq_false, not_false_eq_true, Int.reduceEq, Int.reduceLT, Int.reduceLE, tX6_placeOf h hp, q0, v6_2, s6_2, e5]
theorem tX4_fill' (hlo : LO v 14 μ) (hok : okM μ m) (hm : 0 ≤ m) {a b q : Int} (ha : 1 ≤ a) (hA : a ≤ 2000) (hb : 1 ≤ b) (hB : b ≤ 2000) (q0 : 1 ≤ q) (q1 : q ≤ 999) (hN : (nrA μ a b q).1 ≠ -1) (hw : plD μ a b q w) : ∃ v', jm_env (d + 4) 53 [.ref 14, .ref 339] (qM X v w T c s) = some (.inl none, qM X v' w T c s) ∧ lr v' 14 (flV μ a b q) ∧ frM v' v := by
  have hln := oLnd_14
  have hl := hlo.2.1
  obtain ⟨hg, -, hz, hp, -⟩ := id hok
  have hc5 := hg.2.1
  have hp3 := hp.2.1
  obtain ⟨w1, w2, w3, -, w5, w6, -, -, w7⟩ := hw
  obtain ⟨w7, wt, ws, wc⟩ := w7 hN
  have hP := (nrM_P (v := μ) (pw := a) (ph := b) (num := q) (x := -1)).resolve_left hN
  have hP' : 0 ≤ (nrA μ a b q).1 ∧ (nrA μ a b q).1 < μ 412 0 ∧ 0 ≤ (nrA μ a b q).2 ∧ (nrA μ a b q).2 < 10 := hP
  have hs := (nrA_s (μ := μ) (a := a) (b := b) (q := q)).resolve_left hN
  have hf := (nrA_f (μ := μ) (a := a) (b := b) (q := q)).resolve_left hN
  have eV : flV μ a b q = kpsV (flU μ (nrA μ a b q).1 (nrA μ a b q).2.toNat a b q) a b q := if_neg hN
  rw [eV]
  generalize (nrA μ a b q).1 = i at *
  generalize (nrA μ a b q).2 = n at *
  obtain ⟨c0, c1, c2, c3⟩ := hP'
  obtain ⟨i', rfl⟩ : ∃ i' : Nat, i = i' := ⟨i.toNat, (Int.toNat_of_nonneg c0).symm⟩
  obtain ⟨n', rfl⟩ : ∃ n' : Nat, n = n' := ⟨n.toNat, (Int.toNat_of_nonneg c2).symm⟩
  rw [Int.toNat_natCast] at *
  have i5 : i' < 5 := by omega
  have hse := oSer_of hln i5
  have hok1 := okM_flU hok c0 c1 (by omega) ha hb hA hB q0 q1 hm hs hf
  have hab := fit_area (hg.o c0 c1) hg.2.2.1 ha hb hf
  have hab0 := mul_b (x := a) (y := b) (by omega) hA (by omega) hB
  have hAm := aM_b (hg.o c0 c1) n'
  have hC := cuS_b (K := kM μ i') (q := q) (n := n') (by omega) (fun k k0 k1 => (hg.k c0 c1 k k0 (by omega)).1) n' (Nat.le_refl n')
  have hC1 : (n' : Int) * q ≤ 10 * 999 := Int.mul_le_mul (by omega) q1 (by omega) (by omega)
  have hdw := tX1_doWith (d := d + 1) (X := X) (T := T) (c := c) (s := s) (v := v) (w := w) (i := i') (K := kM μ i') (f := cuF (kM μ i') q n') hse (fun k k0 k1 => (hlo.zr c1 k k0 k1).2.2) wc (if_neg (by omega))
  have hst : up (fil v (14 + 7 + 5 * i' + 4) (fun k => kM μ i' k + (2 * cuF (kM μ i') q n' (k - 1) - cuF (kM μ i') q n' k)) 10) (14 + 7 + 5 * i' + 4) n' (kM μ i' n' + (2 * cuF (kM μ i') q n' ((n' : Int) - 1) - cuF (kM μ i') q n' n') + -q) = fil v (14 + 7 + 5 * i' + 4) (fsF (kM μ i') q n') 10 := by
    refine up_fil_in (by omega) (by omega) ?_ ?_
    · unfold fsF
      rw [if_pos rfl]
      omega
    · intro j j0 j1 jn
      unfold fsF
      rw [if_neg jn]
      omega
  have b1 : v (14 + 6) 1 = μ 412 5 := hl.2.1 1 (by omega) (by omega)
  have b2 : v (14 + 6) 2 = μ 412 6 := hl.2.1 2 (by omega) (by omega)
  have b3 : v (14 + 6) 3 = μ 412 7 := hl.2.1 3 (by omega) (by omega)
  have b4 : v (14 + 6) 4 = μ 412 8 := hl.2.1 4 (by omega) (by omega)
  have b5 : v (14 + 6) 5 = μ 412 9 := hl.2.1 5 (by omega) (by omega)
  have b6 : v (14 + 6) 6 = μ 412 10 := hl.2.1 6 (by omega) (by omega)
  have l1 := lr_flo (g := fsF (kM μ i') q n') hl hc5 hp3 c1
  have l2 := lr_acc (z := μ 412 5 + a * b * q) l1 (by rw [flo_ne (by omega)]; exact hc5) (k := 1) (by omega) (by omega)
  have l3 := lr_acc (z := μ 412 6 + (aM μ i' n' - a * b) * q) l2 (by rw [up_ne (by omega), flo_ne (by omega)]; exact hc5) (k := 2) (by omega) (by omega)
  have l4 := lr_acc (z := μ 412 7 + fsS μ i' q n') l3 (by rw [up_ne (by omega), up_ne (by omega), flo_ne (by omega)]; exact hc5) (k := 3) (by omega) (by omega)
  have l5 := lr_acc (z := μ 412 8 + cuS (kM μ i') q n' n') l4 (by rw [up_ne (by omega), up_ne (by omega), up_ne (by omega), flo_ne (by omega)]; exact hc5) (k := 4) (by omega) (by omega)
  have l6 := lr_acc (z := μ 412 9 + 1) l5 (by rw [up_ne (by omega), up_ne (by omega), up_ne (by omega), up_ne (by omega), flo_ne (by omega)]; exact hc5) (k := 5) (by omega) (by omega)
  have l7 := lr_acc (z := μ 412 10 + q) l6 (by rw [up_ne (by omega), up_ne (by omega), up_ne (by omega), up_ne (by omega), up_ne (by omega), flo_ne (by omega)]; exact hc5) (k := 6) (by omega) (by omega)
  have hE := flU_eq (μ := μ) (i := i') (a := a) (b := b) (q := q) (n := n') c0 (by omega)
  have l8 := hE.lr (by rw [up_ne (by omega), up_ne (by omega), up_ne (by omega), up_ne (by omega), up_ne (by omega), up_ne (by omega), flo_ne (by omega)]; exact hc5) (by rw [up_ne (by omega), up_ne (by omega), up_ne (by omega), up_ne (by omega), up_ne (by omega), up_ne (by omega), flo_ne (by omega)]; exact hp3) l7
  have hlo2 : LO _ 14 (flU μ i' n' a b q) := ⟨hln, l8, hok1.1, hok1.2.2.1⟩
  obtain ⟨v', e, hl', hf'⟩ := tX6_note (d := d) (X := X) (T := T) (c := c) (s := s) (w := w) (a := a) (b := b) (q := q) hlo2 hok1.2.2.2.1 (by omega) hA (by omega) hB
  refine ⟨v', ?_, hl', fun m hm => ?_⟩
  · simp (disch := first | assumption | omega) only [eX4_fill, bX4_fill_0, r4_3, q4_3, g5_5, r5_0, g5_6, g5_3, r4_5, a4_5, w4_5, n4_5, g5_1, g5_2, g5_7, g1_2, g1_1, r4_4, i3_add, i3_sub, i3_mul, i3_neg, i6_add, i6_sub, i6_mul, i6_neg, i3_lt, i3_le, i3_eq, i6_lt, i6_eq, i3_div, i6_div, i6_i3, i3_i6, c6_lt, c6_ge, c6_gt, c6_le, c6_eq, i3_ite, i6_ite, ib_0, ib_z, ite_not, i1_0, i0_0, jB_1, jB_0, jB_ib, bI_v, bL_v, bD_v, bV_v, ob_s, ob_i, i3_ofNat, jx_e, bI_e, bL_e, bD_e, bV_e, i3_eq0, i6_eq0, if_mx, if_mn, if_true, if_false, not_true_eq_false, not_false_eq_true, Int.reduceEq, Int.reduceLT, Int.reduceLE, w1, w2, w3, w5, w6, w7, wt, ws, Int.toNat_natCast, hdw, sX9_addSheets, fil_in, hst, up_ne, fil_ne, b1, b2, b3, b4, b5, b6, e]
  · rw [hf' m hm, up_b (by omega), up_b (by omega), up_b (by omega), up_b (by omega), up_b (by omega), up_b (by omega), fil_b (by omega)]
theorem tX4_fill (h : LQ v μ m) (hm : 0 ≤ m) {a b q : Int} (ha : 1 ≤ a) (hA : a ≤ 2000) (hb : 1 ≤ b) (hB : b ≤ 2000) (q0 : 1 ≤ q) (q1 : q ≤ 999) (hN : (nrA μ a b q).1 ≠ -1) (hw : plD μ a b q w) : ∃ v', jm_env (d + 4) 53 [.ref 14, .ref 339] (qM X v w T c s) = some (.inl none, qM X v' w T c s) ∧ lr v' 14 (flV μ a b q) ∧ frM v' v := tX4_fill' h.lo h.2.1 hm ha hA hb hB q0 q1 hN hw
end CLN
