-- uses 24.zar 25.obj 26.ops 30.rd 31.re 34.gen 35.byt 36.ser 38.mod 39.mo2 40.mo3 41.bit 43.mo5 44.mo6 75.wra 76.wrb 77.wrc
/-! The reference: a stack written. -/
theorem ltL_len {f : Int → Int} {n : Nat} : (ltL f n).length = n := by
  unfold ltL
  rw [List.length_map, List.length_range]
theorem skL_len {f : Int → Int} {n : Nat} {z k len : Int} (hn : n ≤ 6) (z1 : z ≤ 9) (k1 : k ≤ 9999) : (skL f n z k len).length ≤ 13 := by
  have e1 := dg_len (z := z) (by omega)
  have e2 := dg_len (z := k) k1
  rw [if_neg (by omega), if_neg (by omega), if_neg (by omega)] at e1
  have e3 : ((dg k).length : Int) ≤ 4 := by rw [e2]; (repeat' split) <;> omega
  unfold skL
  rw [List.length_append, List.length_append, List.length_append, List.length_append, ltL_len]
  have e4 : (if len ≤ 0 then ([] : List Int) else [32]).length ≤ 1 := by split <;> simp
  have e5 : ([58] : List Int).length = 1 := rfl
  omega
def wrM (u : Nat → Int → Int) (f : Int → Int) (ln : Nat) (i n : Int) : Nat → Int → Int := if kM u i n = 0 then u else wpL u (skL f ln n (kM u i n) (u 411 43))
theorem wpL_1 {v : Nat → Int → Int} {z : Int} : wpV v z = wpL v [z] := rfl
section WRD
variable {d : Nat} {X : Nat × (Nat → Int32)} {v w : Nat → Int → Int} {T c s : Nat}
theorem sX12_letters {f : Int → Int} {ln : Nat} {i n : Int} {u : Nat → Int → Int} (hT : 18 ≤ T) (hl : ltOk f ln) (hn : ln ≤ 6) (h0 : 0 ≤ u 411 43) (h1 : u 411 43 + ln ≤ 649) :
    jm_R (jm_env (d + 2)) jmM_X12_writesStack 44 [some (.ref 411), some (.int (i3 i)), some (.int (i3 n)), some (.int (i3 (nk f ln))), some (.int (i3 0))] [] (qM X u w T c s) = jm_R (jm_env (d + 2)) jmM_X12_writesStack 69 [some (.ref 411), some (.int (i3 i)), some (.int (i3 n)), some (.int (i3 (nk f ln))), some (.int (i3 ln))] [] (qM X (wpL u (ltL f ln)) w T c s) := by
  have hq := ch_n (fun k : Nat => jm_R (jm_env (d + 2)) jmM_X12_writesStack 44 [some (.ref 411), some (.int (i3 i)), some (.int (i3 n)), some (.int (i3 (nk f ln))), some (.int (i3 k))] [] (qM X (wpL u (ltL f k)) w T c s)) ln (fun k hk => by
    have e1 : wpL u (ltL f k) 411 43 = u 411 43 + k := by rw [wpL_n, ltL_len]
    have hk' : isI (k : Int) := ⟨by omega, by omega⟩
    rw [bX12_writesStack_44]
    simp (disch := first | assumption | omega) only [eX12_writesStack, bX12_writesStack_0, bX12_writesStack_15, bX12_writesStack_16, bX12_writesStack_23, bX12_writesStack_29, bX12_writesStack_53, bX12_writesStack_69, r12_0, a12_0, w12_0, n12_0, g12_43, i3_add, i3_sub, i3_mul, i3_neg, i6_add, i6_sub, i6_mul, i6_neg, i3_lt, i3_le, i3_eq, i6_lt, i6_eq, i3_div, i6_div, i6_i3, i3_i6, c6_lt, c6_ge, c6_gt, c6_le, c6_eq, i3_ite, i6_ite, ib_0, ib_z, ite_not, i1_0, i0_0, jB_1, jB_0, jB_ib, bI_v, bL_v, bD_v, bV_v, ob_s, ob_i, i3_ofNat, jx_e, bI_e, bL_e, bD_e, bV_e, i3_eq0, i6_eq0, if_mx, if_mn, if_true, if_false, not_true_eq_false, not_false_eq_true, Int.reduceEq, Int.reduceLT, Int.reduceLE, sX12_lettersOf hl hn, sX12_letterOf hl hn hk', sX12_writes]
    rw [if_neg (by omega), if_pos (by omega), ltL_s, wpL_app]
    rfl)
  rw [show ((0 : Nat) : Int) = 0 from rfl, show ltL f 0 = [] from rfl, show wpL u [] = u from rfl] at hq
  refine hq.trans ?_
  rw [bX12_writesStack_44]
  simp (disch := first | assumption | omega) only [eX12_writesStack, bX12_writesStack_0, bX12_writesStack_15, bX12_writesStack_16, bX12_writesStack_23, bX12_writesStack_29, bX12_writesStack_53, bX12_writesStack_69, r12_0, a12_0, w12_0, n12_0, g12_43, i3_add, i3_sub, i3_mul, i3_neg, i6_add, i6_sub, i6_mul, i6_neg, i3_lt, i3_le, i3_eq, i6_lt, i6_eq, i3_div, i6_div, i6_i3, i3_i6, c6_lt, c6_ge, c6_gt, c6_le, c6_eq, i3_ite, i6_ite, ib_0, ib_z, ite_not, i1_0, i0_0, jB_1, jB_0, jB_ib, bI_v, bL_v, bD_v, bV_v, ob_s, ob_i, i3_ofNat, jx_e, bI_e, bL_e, bD_e, bV_e, i3_eq0, i6_eq0, if_mx, if_mn, if_true, if_false, not_true_eq_false, not_false_eq_true, Int.reduceEq, Int.reduceLT, Int.reduceLE, sX12_lettersOf hl hn]
  rw [if_pos (by omega)]
theorem sX12_writesStack {f : Int → Int} {ln i n : Nat} (hT : 18 ≤ T) (hi : i < 5) (hn' : n < 10) (hl : ltOk f ln) (hn : ln ≤ 6) (he : v 412 (12 + 13 * i + 0) = nk f ln) (k0 : 0 ≤ kM v i n) (k1 : kM v i n ≤ 9999) (h0 : 0 ≤ v 411 43) (h1 : v 411 43 ≤ 637) :
    jm_env (d + 3) 336 [.ref 411, .int (i3 i), .int (i3 n)] (qM X v w T c s) = some (.inl none, qM X (wrM v f ln i n) w T c s) := by
  have hnb := nk_b hl
  have hp : (32 : Int) ^ ln ≤ 1073741824 := by
    have : ∀ n : Nat, n ≤ 6 → (32 : Int) ^ n ≤ 1073741824 := by decide
    exact this ln hn
  have ek : kM v i n = v 412 (12 + 13 * i + 3 + n) := rfl
  have l1 := dg_len (z := (n : Int)) (by omega)
  rw [if_neg (by omega), if_neg (by omega), if_neg (by omega)] at l1
  have l2 := dg_len k1
  have l3 : ((dg (kM v i n)).length : Int) ≤ 4 := by rw [l2]; (repeat' split) <;> omega
  have key : ∀ u' : Nat → Int → Int, (∀ (k : Nat) (j : Int), k ≠ 428 → k ≠ 411 ∨ j ≠ 43 → u' k j = v k j) → 0 ≤ u' 411 43 → u' 411 43 ≤ 638 → jm_R (jm_env (d + 2)) jmM_X12_writesStack 29 [some (.ref 411), some (.int (i3 i)), some (.int (i3 n)), none, none] [] (qM X u' w T c s) = some (.inl none, qM X (wpL u' (ltL f ln ++ (dg n ++ ([58] ++ dg (kM v i n))))) w T c s) := fun u' hu g0 g1 => by
    have e1 : u' 412 (12 + 13 * i + 0) = nk f ln := (hu _ _ (by omega) (Or.inl (by omega))).trans he
    have e3 := sX12_letters (d := d) (X := X) (w := w) (T := T) (c := c) (s := s) (i := i) (n := n) (u := u') hT hl hn g0 (by omega)
    have m1 : wpL u' (ltL f ln) 411 43 = u' 411 43 + ln := by rw [wpL_n, ltL_len]
    have m2 : wpL (wpL u' (ltL f ln)) (dg n) 411 43 = u' 411 43 + ln + 1 := by rw [wpL_n, m1, l1]
    have m3 : wpL (wpL (wpL u' (ltL f ln)) (dg n)) [58] 411 43 = u' 411 43 + ln + 2 := by rw [wpL_n, m2, show (([58] : List Int).length : Int) = 1 from rfl]; omega
    have e4 : wpL (wpL (wpL u' (ltL f ln)) (dg n)) [58] 412 (12 + 13 * i + 3 + n) = kM v i n := by
      rw [wpL_o (by omega) (Or.inl (by omega)), wpL_o (by omega) (Or.inl (by omega)), wpL_o (by omega) (Or.inl (by omega))]
      exact hu _ _ (by omega) (Or.inl (by omega))
    have q1 := sX12_writesNumber (d := d) (X := X) (w := w) (T := T) (c := c) (s := s) (v := wpL u' (ltL f ln)) (z := n) hT (by omega) (by omega) (by omega) (by omega)
    have q2 := sX12_writesNumber (d := d) (X := X) (w := w) (T := T) (c := c) (s := s) (v := wpL (wpL (wpL u' (ltL f ln)) (dg n)) [58]) (z := kM v i n) hT k0 k1 (by omega) (by omega)
    have q3 := sX12_writes (d := d + 1) (X := X) (w := w) (T := T) (c := c) (s := s) (v := wpL (wpL u' (ltL f ln)) (dg n)) (z := 58) hT (by omega) (by omega)
    rw [wpL_app, wpL_app, wpL_app, bX12_writesStack_29]
    simp (disch := first | assumption | omega) only [eX12_writesStack, bX12_writesStack_0, bX12_writesStack_15, bX12_writesStack_16, bX12_writesStack_23, bX12_writesStack_29, bX12_writesStack_53, bX12_writesStack_69, r12_0, a12_0, w12_0, n12_0, g12_43, i3_add, i3_sub, i3_mul, i3_neg, i6_add, i6_sub, i6_mul, i6_neg, i3_lt, i3_le, i3_eq, i6_lt, i6_eq, i3_div, i6_div, i6_i3, i3_i6, c6_lt, c6_ge, c6_gt, c6_le, c6_eq, i3_ite, i6_ite, ib_0, ib_z, ite_not, i1_0, i0_0, jB_1, jB_0, jB_ib, bI_v, bL_v, bD_v, bV_v, ob_s, ob_i, i3_ofNat, jx_e, bI_e, bL_e, bD_e, bV_e, i3_eq0, i6_eq0, if_mx, if_mn, if_true, if_false, not_true_eq_false, not_false_eq_true, Int.reduceEq, Int.reduceLT, Int.reduceLE, sX12_seriesAt, e1, e3, q1, q3, wpL_1, sX12_stackAt, e4]
    rw [q2]
    rfl
  unfold wrM skL
  by_cases g : kM v i n = 0
  · rw [if_pos g]
    simp (disch := first | assumption | omega) only [eX12_writesStack, bX12_writesStack_0, bX12_writesStack_15, bX12_writesStack_16, bX12_writesStack_23, bX12_writesStack_29, bX12_writesStack_53, bX12_writesStack_69, r12_0, a12_0, w12_0, n12_0, g12_43, i3_add, i3_sub, i3_mul, i3_neg, i6_add, i6_sub, i6_mul, i6_neg, i3_lt, i3_le, i3_eq, i6_lt, i6_eq, i3_div, i6_div, i6_i3, i3_i6, c6_lt, c6_ge, c6_gt, c6_le, c6_eq, i3_ite, i6_ite, ib_0, ib_z, ite_not, i1_0, i0_0, jB_1, jB_0, jB_ib, bI_v, bL_v, bD_v, bV_v, ob_s, ob_i, i3_ofNat, jx_e, bI_e, bL_e, bD_e, bV_e, i3_eq0, i6_eq0, if_mx, if_mn, if_true, if_false, not_true_eq_false, not_false_eq_true, Int.reduceEq, Int.reduceLT, Int.reduceLE, sX12_stackAt, ← ek, g]
  · rw [if_neg g]
    by_cases g2 : v 411 43 ≤ 0
    · rw [if_pos g2, List.nil_append, ← key v (fun _ _ _ _ => rfl) h0 (by omega)]
      simp (disch := first | assumption | omega) only [i3_add, i3_sub, i3_mul, i3_neg, i6_add, i6_sub, i6_mul, i6_neg, i3_lt, i3_le, i3_eq, i6_lt, i6_eq, i3_div, i6_div, i6_i3, i3_i6, c6_lt, c6_ge, c6_gt, c6_le, c6_eq, i3_ite, i6_ite, ib_0, ib_z, ite_not, i1_0, i0_0, jB_1, jB_0, jB_ib, bI_v, bL_v, bD_v, bV_v, ob_s, ob_i, i3_ofNat, jx_e, bI_e, bL_e, bD_e, bV_e, i3_eq0, i6_eq0, if_mx, if_mn, if_true, if_false, not_true_eq_false, not_false_eq_true, Int.reduceEq, Int.reduceLT, Int.reduceLE, eX12_writesStack, bX12_writesStack_0, bX12_writesStack_16, r12_0, a12_0, w12_0, n12_0, g12_43, sX12_stackAt, ← ek]
      rw [if_neg g, if_pos g2]
    · have m1 : wpL v [32] 411 43 = v 411 43 + 1 := wpL_n
      rw [if_neg g2, wpL_app, ← key (wpL v [32]) (fun k j h3 h4 => wpL_o h3 h4) (by omega) (by omega)]
      simp (disch := first | assumption | omega) only [i3_add, i3_sub, i3_mul, i3_neg, i6_add, i6_sub, i6_mul, i6_neg, i3_lt, i3_le, i3_eq, i6_lt, i6_eq, i3_div, i6_div, i6_i3, i3_i6, c6_lt, c6_ge, c6_gt, c6_le, c6_eq, i3_ite, i6_ite, ib_0, ib_z, ite_not, i1_0, i0_0, jB_1, jB_0, jB_ib, bI_v, bL_v, bD_v, bV_v, ob_s, ob_i, i3_ofNat, jx_e, bI_e, bL_e, bD_e, bV_e, i3_eq0, i6_eq0, if_mx, if_mn, if_true, if_false, not_true_eq_false, not_false_eq_true, Int.reduceEq, Int.reduceLT, Int.reduceLE, eX12_writesStack, bX12_writesStack_0, bX12_writesStack_16, bX12_writesStack_23, r12_0, a12_0, w12_0, n12_0, g12_43, sX12_stackAt, sX12_writes, wpL_1, ← ek]
      rw [if_neg g, if_neg g2]
end WRD
