-- uses 24.zar 25.obj 26.ops 27.ra 29.rc 30.rd 31.re 34.gen 35.byt 36.ser 37.lnd 38.mod 39.mo2 40.mo3 41.bit 42.mo4 43.mo5 44.mo6 53.cla 75.wra 76.wrb 77.wrc 78.wrd
/-! The reference: all stacks written. -/
def wsM (u : Nat → Int → Int) (f : Int → Int) (ln : Nat) (i : Int) : Nat → Int → Int := fo (fun u n => wrM u f ln i n) u 10
def waM (v : Nat → Int → Int) (fs : Nat → Int → Int) (ls : Nat → Nat) (c' : Nat) : Nat → Int → Int := fo (fun u i => wsM u (fs i) (ls i) i) (up v 411 43 0) c'
/-- only the written text changed -/
def frW (u v : Nat → Int → Int) : Prop := ∀ (k : Nat) (j : Int), k ≠ 428 → k ≠ 411 ∨ j ≠ 43 → u k j = v k j
theorem wrM_f {u v : Nat → Int → Int} {f : Int → Int} {ln : Nat} {i n : Int} (h : frW u v) : frW (wrM u f ln i n) v := fun k j h3 h4 => by
  unfold wrM
  split
  · exact h k j h3 h4
  · rw [wpL_o h3 h4]; exact h k j h3 h4
theorem wrM_n {u : Nat → Int → Int} {f : Int → Int} {ln : Nat} {i n : Int} (hn : ln ≤ 6) (n1 : n ≤ 9) (k1 : kM u i n ≤ 9999) : u 411 43 ≤ wrM u f ln i n 411 43 ∧ wrM u f ln i n 411 43 ≤ u 411 43 + 13 := by
  unfold wrM
  split
  · omega
  · have := skL_len (f := f) (n := ln) (z := n) (k := kM u i n) (len := u 411 43) hn n1 k1
    rw [wpL_n]
    omega
section WRE
variable {d : Nat} {X : Nat × (Nat → Int32)} {v w : Nat → Int → Int} {T c s : Nat}
theorem sX12_ws {f : Int → Int} {ln i : Nat} {u : Nat → Int → Int} (hT : 18 ≤ T) (hi : i < 5) (hl : ltOk f ln) (hn : ln ≤ 6) (hu : frW u v) (he : v 412 (12 + 13 * i + 0) = nk f ln) (hk : ∀ n : Int, 0 ≤ n → n < 10 → 0 ≤ kM v i n ∧ kM v i n ≤ 9999) (h0 : 0 ≤ u 411 43) (h1 : u 411 43 ≤ 130 * i) :
    jm_R (jm_env (d + 3)) jmM_X12_writeStacks 26 [some (.ref 411), some (.int (i3 i)), some (.int (i3 0))] [] (qM X u w T c s) = jm_R (jm_env (d + 3)) jmM_X12_writeStacks 26 [some (.ref 411), some (.int (i3 i)), some (.int (i3 10))] [] (qM X (wsM u f ln i) w T c s) ∧ frW (wsM u f ln i) v ∧ 0 ≤ wsM u f ln i 411 43 ∧ wsM u f ln i 411 43 ≤ 130 * i + 130 := by
  have hK : ∀ {u' : Nat → Int → Int} {n : Int}, frW u' v → kM u' i n = kM v i n := fun {u' n} h => h 412 _ (by omega) (Or.inl (by omega))
  obtain ⟨⟨_, e⟩, hP⟩ := lq1 (P := fun (n : Nat) (u : Nat → Int → Int) => frW u v ∧ 0 ≤ u 411 43 ∧ u 411 43 ≤ 130 * i + 13 * n) (A := fun (n : Nat) (u : Nat → Int → Int) (_ : Unit) => jm_R (jm_env (d + 3)) jmM_X12_writeStacks 26 [some (.ref 411), some (.int (i3 i)), some (.int (i3 n))] [] (qM X u w T c s)) (g := fun u n => wrM u f ln i n) 10 (fun n u _ hn' hu => ⟨(), by
    have k1 := hk n (by omega) (by omega)
    rw [← hK hu.1] at k1
    have e1 := sX12_writesStack (d := d) (X := X) (w := w) (T := T) (c := c) (s := s) (v := u) (f := f) (ln := ln) (i := i) (n := n) hT hi hn' hl hn ((hu.1 412 _ (by omega) (Or.inl (by omega))).trans he) k1.1 k1.2 hu.2.1 (by omega)
    show jm_R _ _ _ _ _ _ = jm_R _ _ _ _ _ _
    rw [bX12_writeStacks_26]
    simp (disch := first | assumption | omega) only [eX12_writeStacks, bX12_writeStacks_0, bX12_writeStacks_24, bX12_writeStacks_32, bX12_writeStacks_44, bX12_writeStacks_50, p12_8, p12_43, r12_0, a12_0, w12_0, n12_0, g12_43, i3_add, i3_sub, i3_mul, i3_neg, i6_add, i6_sub, i6_mul, i6_neg, i3_lt, i3_le, i3_eq, i6_lt, i6_eq, i3_div, i6_div, i6_i3, i3_i6, c6_lt, c6_ge, c6_gt, c6_le, c6_eq, i3_ite, i6_ite, ib_0, ib_z, ite_not, i1_0, i0_0, jB_1, jB_0, jB_ib, bI_v, bL_v, bD_v, bV_v, ob_s, ob_i, i3_ofNat, jx_e, bI_e, bL_e, bD_e, bV_e, i3_eq0, i6_eq0, if_mx, if_mn, if_true, if_false, not_true_eq_false, not_false_eq_true, Int.reduceEq, Int.reduceLT, Int.reduceLE, e1]
    rw [if_neg (by omega)]
    rfl⟩) (fun n u hn' hu => by
    have k1 := hk n (by omega) (by omega)
    rw [← hK hu.1] at k1
    have b := wrM_n (u := u) (f := f) (i := (i : Int)) (n := (n : Int)) hn (by omega) k1.2
    exact ⟨wrM_f hu.1, by omega, by rw [show (13 * ((n + 1 : Nat) : Int)) = 13 * n + 13 by omega]; omega⟩) u () ⟨hu, h0, by omega⟩
  exact ⟨e, hP.1, hP.2.1, by have := hP.2.2; unfold wsM; omega⟩
theorem sX12_writeStacks {fs : Nat → Int → Int} {ls : Nat → Nat} {c' : Nat} (hT : 18 ≤ T) (h2 : v 412 0 = c') (hc : c' ≤ 5) (hn : ∀ i : Nat, i < c' → ltOk (fs i) (ls i) ∧ ls i ≤ 6 ∧ v 412 (12 + 13 * i + 0) = nk (fs i) (ls i)) (hk : ∀ (i : Nat) (n : Int), i < c' → 0 ≤ n → n < 10 → 0 ≤ kM v i n ∧ kM v i n ≤ 9999) :
    jm_env (d + 4) 337 [.ref 411] (qM X v w T c s) = some (.inl (some (.int (i3 (waM v fs ls c' 411 43)))), qM X (waM v fs ls c') (up w 411 8 0) T c s) ∧ frW (waM v fs ls c') v ∧ 0 ≤ waM v fs ls c' 411 43 ∧ waM v fs ls c' 411 43 ≤ 650 := by
  have f0 : frW (up v 411 43 0) v := fun k j h3 h4 => by rw [up_ne (by omega)]
  obtain ⟨⟨x, e⟩, hP⟩ := lq1 (P := fun (i : Nat) (u : Nat → Int → Int) => frW u v ∧ 0 ≤ u 411 43 ∧ u 411 43 ≤ 130 * i) (A := fun (i : Nat) (u : Nat → Int → Int) (x : Option Value) => jm_R (jm_env (d + 3)) jmM_X12_writeStacks 12 [some (.ref 411), some (.int (i3 i)), x] [] (qM X u (up w 411 8 0) T c s)) (g := fun u i => wsM u (fs i) (ls i) i) c' (fun i u x hi hu => ⟨some (.int (i3 10)), by
    obtain ⟨n1, n2, n3⟩ := hn i hi
    have e0 : u 412 0 = c' := (hu.1 412 0 (by omega) (Or.inl (by omega))).trans h2
    have e1 := (sX12_ws (d := d) (X := X) (w := up w 411 8 0) (T := T) (c := c) (s := s) (v := v) (u := u) hT (by omega) n1 n2 hu.1 n3 (fun n n0 n1 => hk i n hi n0 n1) hu.2.1 hu.2.2).1
    show jm_R _ _ _ _ _ _ = jm_R _ _ _ _ _ _
    rw [bX12_writeStacks_12]
    simp (disch := first | assumption | omega) only [p12_8, p12_43, r12_0, a12_0, w12_0, n12_0, g12_43, i3_add, i3_sub, i3_mul, i3_neg, i6_add, i6_sub, i6_mul, i6_neg, i3_lt, i3_le, i3_eq, i6_lt, i6_eq, i3_div, i6_div, i6_i3, i3_i6, c6_lt, c6_ge, c6_gt, c6_le, c6_eq, i3_ite, i6_ite, ib_0, ib_z, ite_not, i1_0, i0_0, jB_1, jB_0, jB_ib, bI_v, bL_v, bD_v, bV_v, ob_s, ob_i, i3_ofNat, jx_e, bI_e, bL_e, bD_e, bV_e, i3_eq0, i6_eq0, if_mx, if_mn, if_true, if_false, not_true_eq_false, not_false_eq_true, Int.reduceEq, Int.reduceLT, Int.reduceLE, bX12_writeStacks_24, e0, e1]
    rw [bX12_writeStacks_26]
    simp (disch := first | assumption | omega) only [p12_8, p12_43, r12_0, a12_0, w12_0, n12_0, g12_43, i3_add, i3_sub, i3_mul, i3_neg, i6_add, i6_sub, i6_mul, i6_neg, i3_lt, i3_le, i3_eq, i6_lt, i6_eq, i3_div, i6_div, i6_i3, i3_i6, c6_lt, c6_ge, c6_gt, c6_le, c6_eq, i3_ite, i6_ite, ib_0, ib_z, ite_not, i1_0, i0_0, jB_1, jB_0, jB_ib, bI_v, bL_v, bD_v, bV_v, ob_s, ob_i, i3_ofNat, jx_e, bI_e, bL_e, bD_e, bV_e, i3_eq0, i6_eq0, if_mx, if_mn, if_true, if_false, not_true_eq_false, not_false_eq_true, Int.reduceEq, Int.reduceLT, Int.reduceLE, bX12_writeStacks_44]
    rw [if_neg (by omega)]
    rfl⟩) (fun i u hi hu => by
    obtain ⟨n1, n2, n3⟩ := hn i hi
    have e1 := (sX12_ws (d := 0) (X := X) (w := w) (T := T) (c := c) (s := s) (v := v) (u := u) hT (by omega) n1 n2 hu.1 n3 (fun n n0 n1 => hk i n hi n0 n1) hu.2.1 hu.2.2).2
    exact ⟨e1.1, e1.2.1, by have := e1.2.2; omega⟩) (up v 411 43 0) none ⟨f0, by rw [up_eq]; omega, by rw [up_eq]; omega⟩
  refine ⟨?_, hP.1, hP.2.1, by have := hP.2.2; unfold waM; omega⟩
  have e0 : waM v fs ls c' 412 0 = c' := (hP.1 412 0 (by omega) (Or.inl (by omega))).trans h2
  simp (disch := first | assumption | omega) only [eX12_writeStacks, bX12_writeStacks_0, bX12_writeStacks_24, bX12_writeStacks_32, bX12_writeStacks_44, bX12_writeStacks_50, i3_add, i3_sub, i3_mul, i3_neg, i6_add, i6_sub, i6_mul, i6_neg, i3_lt, i3_le, i3_eq, i6_lt, i6_eq, i3_div, i6_div, i6_i3, i3_i6, c6_lt, c6_ge, c6_gt, c6_le, c6_eq, i3_ite, i6_ite, ib_0, ib_z, ite_not, i1_0, i0_0, jB_1, jB_0, jB_ib, bI_v, bL_v, bD_v, bV_v, ob_s, ob_i, i3_ofNat, jx_e, bI_e, bL_e, bD_e, bV_e, i3_eq0, i6_eq0, if_mx, if_mn, if_true, if_false, not_true_eq_false, not_false_eq_true, Int.reduceEq, Int.reduceLT, Int.reduceLE, p12_8, p12_43, r12_0, a12_0, w12_0, n12_0, g12_43]
  refine Eq.trans ?_ (e.trans ?_)
  · rfl
  · show jm_R (jm_env (d + 3)) jmM_X12_writeStacks 12 [some (.ref 411), some (.int (i3 c')), x] [] (qM X (waM v fs ls c') (up w 411 8 0) T c s) = _
    rw [bX12_writeStacks_12]
    simp (disch := first | assumption | omega) only [eX12_writeStacks, bX12_writeStacks_0, bX12_writeStacks_24, bX12_writeStacks_32, bX12_writeStacks_44, bX12_writeStacks_50, p12_8, p12_43, r12_0, a12_0, w12_0, n12_0, g12_43, i3_add, i3_sub, i3_mul, i3_neg, i6_add, i6_sub, i6_mul, i6_neg, i3_lt, i3_le, i3_eq, i6_lt, i6_eq, i3_div, i6_div, i6_i3, i3_i6, c6_lt, c6_ge, c6_gt, c6_le, c6_eq, i3_ite, i6_ite, ib_0, ib_z, ite_not, i1_0, i0_0, jB_1, jB_0, jB_ib, bI_v, bL_v, bD_v, bV_v, ob_s, ob_i, i3_ofNat, jx_e, bI_e, bL_e, bD_e, bV_e, i3_eq0, i6_eq0, if_mx, if_mn, if_true, if_false, not_true_eq_false, not_false_eq_true, Int.reduceEq, Int.reduceLT, Int.reduceLE, e0]
    rw [if_pos (by omega)]
end WRE
