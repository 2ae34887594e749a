-- uses 24.zar 25.obj 26.ops 27.ra 29.rc 34.gen 35.byt 36.ser 37.lnd 38.mod 39.mo2 40.mo3 41.bit 42.mo4 43.mo5 44.mo6 52.mof 53.cla 54.clb 55.clc 56.cld
/-! The class: a plan made. -/
def plD (μ : Nat → Int → Int) (a b q : Int) (w : Nat → Int → Int) : Prop :=
  w 339 1 = a ∧ w 339 2 = b ∧ w 339 3 = q ∧ w 339 4 = whyA μ a b q ∧ w 339 5 = (nrA μ a b q).1 ∧ w 339 6 = (nrA μ a b q).2 ∧ w 339 8 = fo2 (fitG μ a b) 0 (μ 412 0).toNat ∧ w 339 9 = fo2 (mosG μ a b) 0 (μ 412 0).toNat ∧
  ((nrA μ a b q).1 ≠ -1 → w 339 7 = aM μ (nrA μ a b q).1 (nrA μ a b q).2 - a * b ∧ w 340 1 = cuS (kM μ (nrA μ a b q).1) q (nrA μ a b q).2.toNat (nrA μ a b q).2.toNat ∧ w 340 2 = fsS μ (nrA μ a b q).1 q (nrA μ a b q).2.toNat ∧ ∀ k : Int, 0 ≤ k → k < 10 → w 341 k = cuF (kM μ (nrA μ a b q).1) q (nrA μ a b q).2.toNat k)
def fr3 (w w' : Nat → Int → Int) : Prop := ∀ (n : Nat) (k : Int), n ≠ 339 → n ≠ 340 → n ≠ 341 → w' n k = w n k
theorem nrA_s {μ : Nat → Int → Int} {a b q : Int} : (nrA μ a b q).1 = -1 ∨ q ≤ supM μ (nrA μ a b q).1 ((nrA μ a b q).2.toNat + 1) :=
  fo2_P (P := fun st : Int × Int => st.1 = -1 ∨ q ≤ supM μ st.1 (st.2.toNat + 1)) _ (Or.inl rfl) (fun k n x _ _ hx => by
    unfold nrG
    split
    · next g => exact Or.inr g.2.1
    · exact hx)
theorem sg_t {μ : Nat → Int → Int} {a b q : Int} (m : Nat) : fo2 (fun st k n => sg μ a b q k st n) ((-1, -1), 0, 0) m = (fo2 (nrG μ a b q) (-1, -1) m, fo2 (fitG μ a b) 0 m, fo2 (mosG μ a b) 0 m) :=
  Prod.ext (fo2_map (R := fun (st : (Int × Int) × Int × Int) x => st.1 = x) m rfl (fun k n x y _ _ h => by subst h; rfl))
    (Prod.ext (fo2_map (R := fun (st : (Int × Int) × Int × Int) x => st.2.1 = x) m rfl (fun k n x y _ _ h => by subst h; rfl))
      (fo2_map (R := fun (st : (Int × Int) × Int × Int) x => st.2.2 = x) m rfl (fun k n x y _ _ h => by subst h; rfl)))
section CLE
variable {d : Nat} {X : Nat × (Nat → Int32)} {v w : Nat → Int → Int} {T c s : Nat}
variable {b : Nat} {μ : Nat → Int → Int}
theorem tX5_make (h : LO v b μ) {pw ph num : Int} (h2 : 1 ≤ pw) (h3 : pw ≤ 2000) (h4 : 1 ≤ ph) (h5 : ph ≤ 2000) (h6 : 1 ≤ num) (h7 : num ≤ 999) :
    ∃ w', jm_env (d + 4) 55 [.ref 339, .ref b, .int (i3 pw), .int (i3 ph), .int (i3 num)] (qM X v w T c s) = some (.inl none, qM X v w' T c s) ∧ plD μ pw ph num w' ∧ fr3 w w' := by
  obtain ⟨hln, ⟨⟨he, -, hcn, -⟩, -⟩, hg, hz⟩ := id h
  obtain ⟨hc0, hc1, he0, he1, -⟩ := id hg
  obtain ⟨g, e1, hR⟩ := lr1 (fun (k : Nat) st (g : Int → Int) => plR' μ pw ph num g st (10 * (k : Int))) (fun (k : Nat) _ g => jm_R (jm_env (d + 3)) jmM_X5_make 44 [some (.ref 339), some (.ref b), some (.int (i3 pw)), some (.int (i3 ph)), some (.int (i3 num)), some (.int (i3 k))] [] (qM X v (ov w 339 g) T c s)) (fun st k => fo (sg μ pw ph num k) st 10) (μ 412 0).toNat (fun k st g hk hR => by
    obtain ⟨g', e, hR'⟩ := tX5_weighSeries (d := d) (X := X) (c := c) (s := s) (w := w) (T := T) h (k := k) (by omega) h2 h3 h4 h5 (by omega) (by omega) he hR
    refine ⟨g', ?_, hR'⟩
    rw [bX5_make_44]
    simp (disch := first | assumption | omega) only [eX5_make, bX5_make_0, bX5_make_50, bX5_make_59, bX5_make_82, bX5_make_93, bX5_make_125, bX5_make_133, bX5_make_137, bX5_make_138, bX5_make_141, p5_1, p5_2, p5_3, p5_5, p5_6, p5_7, p5_8, p5_9, g4_2, r4_3, q4_3, g4_0, g5_5, p5_4, r5_0, g5_6, g5_3, g5_8, i3_add, i3_sub, i3_mul, i3_neg, i6_add, i6_sub, i6_mul, i6_neg, i3_lt, i3_le, i3_eq, i6_lt, i6_eq, i3_div, i6_div, i6_i3, i3_i6, c6_lt, c6_ge, c6_gt, c6_le, c6_eq, i3_ite, i6_ite, ib_0, ib_z, ite_not, i1_0, i0_0, jB_1, jB_0, jB_ib, bI_v, bL_v, bD_v, bV_v, ob_s, ob_i, i3_ofNat, jx_e, bI_e, bL_e, bD_e, bV_e, i3_eq0, i6_eq0, if_mx, if_mn, if_true, if_false, not_true_eq_false, not_false_eq_true, Int.reduceEq, Int.reduceLT, Int.reduceLE, hcn, Int.toNat_natCast, e]
    rw [if_neg (by omega), if_neg (by omega)]
    rfl) ((-1, -1), 0, 0) (st1 (st1 (st1 (st1 (st1 (st1 (st1 (st1 (w 339) 1 pw) 2 ph) 3 num) 5 (-1)) 6 (-1)) 7 0) 8 0) 9 0) (by
      unfold plR'
      simp (disch := first | assumption | omega) only [st1_ne, st1_eq]
      refine ⟨?_, ?_, ?_, ?_, ?_, ?_, ?_, ?_, ?_, ?_, ?_, ?_, ?_⟩ <;> first | rfl | trivial | omega | exact Or.inl rfl | exact fun h => absurd rfl h)
  have et := sg_t (μ := μ) (a := pw) (b := ph) (q := num) (μ 412 0).toNat
  have et' : fo (fun st k => fo (sg μ pw ph num k) st 10) ((-1, -1), 0, 0) (μ 412 0).toNat = (nrA μ pw ph num, fo2 (fitG μ pw ph) 0 (μ 412 0).toNat, fo2 (mosG μ pw ph) 0 (μ 412 0).toNat) := et
  rw [et'] at hR
  obtain ⟨r1, r2, r3, r5, r6, r8, r9, r7, rP, c0, c1, s0, s1⟩ := hR
  dsimp only at r5 r6 r8 r9 r7 rP c0 c1 s0 s1
  have hmem : (qM X v w T c s) = qM X v (ov w 339 (w 339)) T c s := by rw [ov_id]
  rw [hmem]
  simp (disch := first | assumption | omega) only [eX5_make, bX5_make_0, bX5_make_50, bX5_make_59, bX5_make_82, bX5_make_93, bX5_make_125, bX5_make_133, bX5_make_137, bX5_make_138, bX5_make_141, p5_1, p5_2, p5_3, p5_5, p5_6, p5_7, p5_8, p5_9, g4_2, r4_3, q4_3, g4_0, g5_5, p5_4, r5_0, g5_6, g5_3, g5_8, i3_add, i3_sub, i3_mul, i3_neg, i6_add, i6_sub, i6_mul, i6_neg, i3_lt, i3_le, i3_eq, i6_lt, i6_eq, i3_div, i6_div, i6_i3, i3_i6, c6_lt, c6_ge, c6_gt, c6_le, c6_eq, i3_ite, i6_ite, ib_0, ib_z, ite_not, i1_0, i0_0, jB_1, jB_0, jB_ib, bI_v, bL_v, bD_v, bV_v, ob_s, ob_i, i3_ofNat, jx_e, bI_e, bL_e, bD_e, bV_e, i3_eq0, i6_eq0, if_mx, if_mn, if_true, if_false, not_true_eq_false, not_false_eq_true, Int.reduceEq, Int.reduceLT, Int.reduceLE, ov_up]
  refine ex_tr e1 ?_
  have eh : jm_R (jm_env (d + 3)) jmM_X5_make 44 [some (.ref 339), some (.ref b), some (.int (i3 pw)), some (.int (i3 ph)), some (.int (i3 num)), some (.int (i3 ((μ 412 0).toNat : Nat)))] [] (qM X v (ov w 339 g) T c s) = jm_R (jm_env (d + 3)) jmM_X5_make 82 [some (.ref 339), some (.ref b), some (.int (i3 pw)), some (.int (i3 ph)), some (.int (i3 num)), some (.int (i3 ((μ 412 0).toNat : Nat)))] [] (qM X v (ov w 339 g) T c s) := by
    rw [bX5_make_44]
    simp (disch := first | assumption | omega) only [bX5_make_50, p5_1, p5_2, p5_3, p5_5, p5_6, p5_7, p5_8, p5_9, g4_2, r4_3, q4_3, g4_0, g5_5, p5_4, r5_0, g5_6, g5_3, g5_8, i3_add, i3_sub, i3_mul, i3_neg, i6_add, i6_sub, i6_mul, i6_neg, i3_lt, i3_le, i3_eq, i6_lt, i6_eq, i3_div, i6_div, i6_i3, i3_i6, c6_lt, c6_ge, c6_gt, c6_le, c6_eq, i3_ite, i6_ite, ib_0, ib_z, ite_not, i1_0, i0_0, jB_1, jB_0, jB_ib, bI_v, bL_v, bD_v, bV_v, ob_s, ob_i, i3_ofNat, jx_e, bI_e, bL_e, bD_e, bV_e, i3_eq0, i6_eq0, if_mx, if_mn, if_true, if_false, not_true_eq_false, not_false_eq_true, Int.reduceEq, Int.reduceLT, Int.reduceLE, hcn]
    by_cases h5' : (5 : Int) ≤ ((μ 412 0).toNat : Nat)
    · rw [if_pos (by omega)]
    · rw [if_neg (by omega), if_pos (by omega)]
  rw [eh]
  by_cases q : (nrA μ pw ph num).1 = -1
  · have hb5 : g 5 = -1 := by omega
    have hy : whyA μ pw ph num = if fo2 (fitG μ pw ph) 0 (μ 412 0).toNat = 0 then 1 else 2 := if_pos q
    have es := sX4_hasSeries (d := d + 2) (X := X) (v := v) (w := ov w 339 g) (T := T) (c := c) (s := s) (i := -1) hln (by omega) (by omega) (by omega) (by omega)
    rw [if_neg (by omega)] at es
    simp (disch := first | assumption | omega) only [↓reduceIte, eX5_make, bX5_make_0, bX5_make_50, bX5_make_59, bX5_make_82, bX5_make_93, bX5_make_125, bX5_make_133, bX5_make_137, bX5_make_138, bX5_make_141, p5_1, p5_2, p5_3, p5_5, p5_6, p5_7, p5_8, p5_9, g4_2, r4_3, q4_3, g4_0, g5_5, p5_4, r5_0, g5_6, g5_3, g5_8, i3_add, i3_sub, i3_mul, i3_neg, i6_add, i6_sub, i6_mul, i6_neg, i3_lt, i3_le, i3_eq, i6_lt, i6_eq, i3_div, i6_div, i6_i3, i3_i6, c6_lt, c6_ge, c6_gt, c6_le, c6_eq, i3_ite, i6_ite, ib_0, ib_z, ite_not, i1_0, i0_0, jB_1, jB_0, jB_ib, bI_v, bL_v, bD_v, bV_v, ob_s, ob_i, i3_ofNat, jx_e, bI_e, bL_e, bD_e, bV_e, i3_eq0, i6_eq0, if_mx, if_mn, if_true, if_false, not_true_eq_false, not_false_eq_true, Int.reduceEq, Int.reduceLT, Int.reduceLE, hcn, ov_in, hb5, r8, ov_up, es]
    by_cases q2 : fo2 (fitG μ pw ph) 0 (μ 412 0).toNat = 0
    · rw [if_pos q2] at hy ⊢
      refine ⟨_, rfl, ?_, fun n k n0 n1 n2 => ov_ne n0⟩
      unfold plD
      simp (disch := first | assumption | omega) only [ov_in, st1_ne, st1_eq, hy]
      refine ⟨r1, r2, r3, ?_, r5, r6, r8, r9, fun h => absurd q h⟩ <;> first | rfl | trivial
    · rw [if_neg q2] at hy ⊢
      refine ⟨_, rfl, ?_, fun n k n0 n1 n2 => ov_ne n0⟩
      unfold plD
      simp (disch := first | assumption | omega) only [ov_in, st1_ne, st1_eq, hy]
      refine ⟨r1, r2, r3, ?_, r5, r6, r8, r9, fun h => absurd q h⟩ <;> first | rfl | trivial
  · rcases rP with rP | ⟨p1, p2, p3, p4⟩
    · exact absurd rP q
    · have hb5 : ¬ g 5 = -1 := by omega
      have hy : whyA μ pw ph num = 0 := if_neg q
      have hs := (nrA_s (μ := μ) (a := pw) (b := ph) (q := num)).resolve_left q
      generalize hi : (nrA μ pw ph num).1 = i at *
      generalize hn : (nrA μ pw ph num).2 = n at *
      obtain ⟨i', rfl⟩ : ∃ i' : Nat, i = i' := ⟨i.toNat, (Int.toNat_of_nonneg p1).symm⟩
      obtain ⟨n', rfl⟩ : ∃ n' : Nat, n = n' := ⟨n.toNat, (Int.toNat_of_nonneg p3).symm⟩
      have ha : aM μ i' n' ≠ 0 := by
        intro g
        rw [Int.toNat_natCast, show supM μ i' (n' + 1) = if aM μ i' n' = 0 then 0 else min 9999 (kM μ i' n' + 2 * supM μ i' n') from rfl, if_pos g] at hs
        omega
      have hss := ssF_eq hz (q := num) p1 p2 (by omega) (Or.inl ha) (fun k k0 k1 => (hg.k p1 p2 k k0 (by omega)).1)
      have p4' : n' < 10 := by omega
      have h60 : 0 ≤ num := by omega
      have h70 : num ≤ 10000 := by omega
      have r5' : g 5 = (i' : Int) := r5
      have es := sX4_hasSeries (d := d + 2) (X := X) (v := v) (w := ov w 339 g) (T := T) (c := c) (s := s) (i := i') hln (by omega) (by omega) (by omega) (by omega)
      rw [if_pos (by omega)] at es
      simp (disch := first | assumption | omega) only [↓reduceIte, eX5_make, bX5_make_0, bX5_make_50, bX5_make_59, bX5_make_82, bX5_make_93, bX5_make_125, bX5_make_133, bX5_make_137, bX5_make_138, bX5_make_141, p5_1, p5_2, p5_3, p5_5, p5_6, p5_7, p5_8, p5_9, g4_2, r4_3, q4_3, g4_0, g5_5, p5_4, r5_0, g5_6, g5_3, g5_8, i3_add, i3_sub, i3_mul, i3_neg, i6_add, i6_sub, i6_mul, i6_neg, i3_lt, i3_le, i3_eq, i6_lt, i6_eq, i3_div, i6_div, i6_i3, i3_i6, c6_lt, c6_ge, c6_gt, c6_le, c6_eq, i3_ite, i6_ite, ib_0, ib_z, ite_not, i1_0, i0_0, jB_1, jB_0, jB_ib, bI_v, bL_v, bD_v, bV_v, ob_s, ob_i, i3_ofNat, jx_e, bI_e, bL_e, bD_e, bV_e, i3_eq0, i6_eq0, if_mx, if_mn, if_true, if_false, not_true_eq_false, not_false_eq_true, Int.reduceEq, Int.reduceLT, Int.reduceLE, hcn, ov_in, r5', r6, r3, ov_up, st1_ne, st1_eq, Int.toNat_natCast, tX1_make h, es]
      refine ⟨_, rfl, ?_, fun n k n0 n1 n2 => ?_⟩
      · unfold plD
        rw [hi, hn, hy]
        unfold ctW
        simp (disch := first | assumption | omega) only [up_ne, up_eq, fil_ne, ov_in, st1_ne, st1_eq, Int.toNat_natCast]
        refine ⟨r1, r2, r3, ?_, r5', r6, r8, r9, fun _ => ⟨r7 (by omega), ?_, hss, fun k k0 k1 => ?_⟩⟩
        · first | rfl | trivial
        · first | rfl | trivial
        · rw [fil_in k0 k1]
      · unfold ctW
        rw [up_ne (by omega), up_ne (by omega), fil_ne (by omega), ov_ne n0]
end CLE
