-- uses 24.zar 25.obj 26.ops 30.rd 31.re 34.gen 55.clc e0.lwa e1.lwb e2.lwc e3.lwd e4.lwe e5.lwf
/-! The law buys, cuts and prints. -/
section LWG
variable {m m' : jm_Mem} {P : Nat → Nat} {K d : Nat} {e r : Int} {A A' : Int → Int} {W H S : Nat → Int → Int}
theorem okS_W {W H K : Int → Int} (h : okS W H K) : okW W H := fun n h0 h1 => ⟨(h n h0 h1).1, (h n h0 h1).2.1⟩
def byL (W H S : Int → Int) (r n q : Int) : Int := if W n * H n = 0 then -3 else if 9999 < S n + q * r then -5 else S n + q * r
theorem sL_buys (h : LH m P K e r A W H S) (hn : LHn m P K) (ho : LHo K e r W H S) {i : Nat} (hi : i < K) {n q : Int} (n0 : 0 ≤ n) (n1 : n < 10) (q0 : 1 ≤ q) (q1 : q ≤ 99) : ∃ m' A' S', jm_env (d + 2) 9 [.ref (P 0), .ref (P (4 + 4 * i)), .int (i3 n), .int (i3 q)] m = some (.inl (some (.int (i3 (byL (W i) (H i) (S i) r n q)))), m') ∧ LH m' P K e r A' W H (st2 S i S') ∧ frK m m' (fun j => j = P 3 ∨ j = P (7 + 4 * i)) 0 ∧
    (A', S') = (if byL (W i) (H i) (S i) r n q < 0 then (A, S i) else (st1 (st1 A 0 (A 0 + W i n * H i n * q * r)) 7 (A 7 + q), st1 (S i) n (S i n + q * r))) := by
  have s := h.2.2.2 i hi
  have hk := ho.2.2.2.2.2 i hi
  have hb := hk n n0 n1
  have hw := okS_W hk
  have hm := mul_2k hb.1.1 hb.1.2 hb.2.1.1 hb.2.1.2
  have r0 := ho.2.2.2.1
  have r1 := ho.2.2.2.2.1
  have hq0 : 1 * 1 ≤ q * r := Int.mul_le_mul q0 r0 (by omega) (by omega)
  have hq1 : q * r ≤ 99 * 500 := Int.mul_le_mul q1 r1 (by omega) (by omega)
  have ea1 := sX12_ar (d := d) s hw n0 n1
  rw [eL_buys _ _ _ _ _ _ (q_C h.1), bL_buys_0, ea1, ob_s, bL_v, le6_eq (by omega) (by omega) (by omega) (by omega)]
  unfold byL
  by_cases g1 : W i n * H i n = 0
  · rw [if_pos g1, if_pos g1, bL_buys_10]
    exact ⟨m, A, S i, rfl, by rw [st2_s]; exact h, frK_0, (if_pos (by omega)).symm⟩
  · rw [if_neg g1, if_neg g1, bL_buys_13, q_gR s.1 (k := 2) rfl, ob_s, q_aI s.2.2.2 n0 (by omega : n < (10 : Nat)) (by omega), ob_s, q_gI h.1 (k := 3) rfl, ob_s, i3_mul, i3_add, ie_le (by omega) (by omega) (by omega) (by omega)]
    by_cases g2 : 9999 < S i n + q * r
    · rw [if_neg (by omega), if_pos g2, bL_buys_32]
      exact ⟨m, A, S i, rfl, by rw [st2_s]; exact h, frK_0, (if_pos (by omega)).symm⟩
    · rw [if_pos (by omega), if_neg g2, bL_buys_35, q_gR s.1 (k := 2) rfl, ob_s, q_aI s.2.2.2 n0 (by omega : n < (10 : Nat)) (by omega), ob_s, q_gI h.1 (k := 3) rfl, ob_s, i3_mul, i3_add]
      obtain ⟨m1, e1, a1, f1⟩ := q_wI (y := S i n + q * r) s.2.2.2 n0 (by omega : n < (10 : Nat)) (by omega)
      have h1 := LH_wS h hn hi a1 f1
      have n1' := LHn_f1 hn f1
      have s1 := h1.2.2.2 i hi
      have ea2 := sX12_ar (d := d) s1 hw n0 n1
      obtain ⟨m2, e2, a2, f2⟩ := q_wL (z := 0) (y := A 0 + W i n * H i n * q * r) h1.2.2.1 (by omega) (by omega) (by omega)
      have h2 := LH_wA h1 n1' a2 f2
      have n2' := LHn_f1 n1' f2
      obtain ⟨m3, e3, a3, f3⟩ := q_wL (z := 7) (y := A 7 + q) h2.2.2.1 (by omega) (by omega) (by omega)
      have h3 := LH_wA h2 n2' a3 f3
      have s3 := h3.2.2.2 i hi
      rw [st2_i] at s3
      have r7 : jm_aL m2 (P 3) (i3 7) = some (i6 (A 7)) := by
        rw [q_aL h2.2.2.1 (z := 7) (by omega) (by omega) (by omega)]
        rfl
      have rS : jm_aI m3 (P (7 + 4 * i)) (i3 n) = some (i3 (S i n + q * r)) := by
        rw [q_aI s3.2.2.2 n0 (by omega : n < (10 : Nat)) (by omega)]
        unfold st1
        rw [if_pos rfl]
      refine ⟨m3, _, _, ?_, h3, fr1_S f1 (fr1_S f2 (fr1_1 f3 (Or.inl rfl)) (Or.inl rfl)) (Or.inr rfl), (if_neg (by omega)).symm⟩
      rw [e1, ob_s, q_gR h1.1 (k := 1) rfl, ob_s, q_aL h1.2.2.1 (z := 0) (by omega) (by omega) (by omega), ob_s, ea2, ob_s, bL_v, q_gI h1.1 (k := 3) rfl, ob_s, i3_i6 (by omega) (by omega), i3_i6 (by omega) (by omega), i6_mul, i6_mul, i6_add, e2, ob_s, q_gR h2.1 (k := 1) rfl, ob_s, r7, ob_s, i6_add, e3, ob_s, q_gR s3.1 (k := 2) rfl, ob_s, rS, ob_s]
def ctL (W H S : Int → Int) (n q : Int) : Int := if W n * H n = 0 ∨ ¬ (n < 9 ∧ W (n + 1) * H (n + 1) ≠ 0) then -3 else if S n < q then -4 else if 9999 < S (n + 1) + 2 * q then -5 else S (n + 1) + 2 * q
def cuN (W H : Int → Int) (n q : Int) (st : (Int → Int) × (Int → Int)) : (Int → Int) × (Int → Int) := (st1 (st1 st.1 n (st.1 n - q)) (n + 1) (st.1 (n + 1) + 2 * q), st1 (st1 st.2 3 (st.2 3 + q * (W n * H n - 2 * (W (n + 1) * H (n + 1))))) 4 (st.2 4 + q))
theorem cuN_0 {W H : Int → Int} {n : Int} {st : (Int → Int) × (Int → Int)} : cuN W H n 0 st = st := by
  unfold cuN
  refine Prod.ext ?_ ?_
  · funext k
    show (if k = n + 1 then st.1 (n + 1) + 2 * 0 else if k = n then st.1 n - 0 else st.1 k) = st.1 k
    split
    · next g => rw [g]; omega
    · split
      · next g => rw [g]; omega
      · rfl
  · funext k
    show (if k = 4 then st.2 4 + 0 else if k = 3 then st.2 3 + 0 * _ else st.2 k) = st.2 k
    rw [Int.zero_mul]
    split
    · next g => rw [g]; omega
    · split
      · next g => rw [g]; omega
      · rfl
theorem cuN_s {W H : Int → Int} {n q : Int} {st : (Int → Int) × (Int → Int)} : cu0 W H n (cuN W H n q st) = cuN W H n (q + 1) st := by
  refine Prod.ext ?_ ?_
  · funext k
    show (if k = n + 1 then (if n + 1 = n + 1 then st.1 (n + 1) + 2 * q else _) + 2 else if k = n then (if n = n + 1 then _ else if n = n then st.1 n - q else _) - 1 else if k = n + 1 then _ else if k = n then _ else st.1 k) = (if k = n + 1 then st.1 (n + 1) + 2 * (q + 1) else if k = n then st.1 n - (q + 1) else st.1 k)
    rw [if_pos rfl, if_neg (show ¬ n = n + 1 by omega), if_pos rfl]
    by_cases g : k = n + 1
    · rw [if_pos g, if_pos g]; omega
    · rw [if_neg g, if_neg g]
      by_cases g2 : k = n
      · rw [if_pos g2, if_pos g2]; omega
      · rw [if_neg g2, if_neg g2, if_neg g, if_neg g2]
  · funext k
    show (if k = 4 then (st.2 4 + q) + 1 else if k = 3 then (st.2 3 + q * (W n * H n - 2 * (W (n + 1) * H (n + 1)))) + (W n * H n - 2 * (W (n + 1) * H (n + 1))) else if k = 4 then _ else if k = 3 then _ else st.2 k) = (if k = 4 then st.2 4 + (q + 1) else if k = 3 then st.2 3 + (q + 1) * (W n * H n - 2 * (W (n + 1) * H (n + 1))) else st.2 k)
    by_cases g : k = 4
    · rw [if_pos g, if_pos g]; omega
    · rw [if_neg g, if_neg g]
      by_cases g2 : k = 3
      · rw [if_pos g2, if_pos g2, Int.add_mul]; omega
      · rw [if_neg g2, if_neg g2, if_neg g, if_neg g2]
theorem sL_cuts (h : LH m P K e r A W H S) (hn : LHn m P K) (ho : LHo K e r W H S) {i : Nat} (hi : i < K) {n q : Int} (n0 : 0 ≤ n) (n1 : n < 10) (q0 : 1 ≤ q) (q1 : q ≤ 9999) : ∃ m' A' S', jm_env (d + 12) 10 [.ref (P 0), .ref (P (4 + 4 * i)), .int (i3 n), .int (i3 q)] m = some (.inl (some (.int (i3 (ctL (W i) (H i) (S i) n q)))), m') ∧ LH m' P K e r A' W H (st2 S i S') ∧ frK m m' (fun j => j = P 3 ∨ j = P (7 + 4 * i)) 0 ∧
    (S', A') = (if ctL (W i) (H i) (S i) n q < 0 then (S i, A) else cuN (W i) (H i) n q (S i, A)) := by
  have s := h.2.2.2 i hi
  have hk := ho.2.2.2.2.2 i hi
  have hb := hk n n0 n1
  have hw := okS_W hk
  have hm := mul_2k hb.1.1 hb.1.2 hb.2.1.1 hb.2.1.2
  have ea1 := sX12_ar (d := d + 10) s hw n0 n1
  have ec := sX12_canBeCut (d := d + 9) s hk n0 n1
  rw [eL_cuts _ _ _ _ _ _ (q_C h.1), bL_cuts_0, ea1, ob_s, bL_v, le6_eq (by omega) (by omega) (by omega) (by omega)]
  unfold ctL
  by_cases g1 : W i n * H i n = 0
  · rw [if_pos g1, if_pos (Or.inl g1), bL_cuts_18]
    exact ⟨m, A, S i, rfl, by rw [st2_s]; exact h, frK_0, (if_pos (by omega)).symm⟩
  · rw [if_neg g1, bL_cuts_10, ec, ob_s, bI_v]
    by_cases g2 : n < 9 ∧ W i (n + 1) * H i (n + 1) ≠ 0
    · have hb2 := hk (n + 1) (by omega) (by omega)
      rw [if_pos g2, ie_eq (by omega) (by omega) (by omega) (by omega), if_neg (by omega), if_neg (show ¬ (W i n * H i n = 0 ∨ ¬ (n < 9 ∧ W i (n + 1) * H i (n + 1) ≠ 0)) from fun t => t.elim g1 (fun t => t g2)), bL_cuts_21, q_gR s.1 (k := 2) rfl, ob_s, q_aI s.2.2.2 n0 (by omega : n < (10 : Nat)) (by omega), ob_s, ie_le (by omega) (by omega) (by omega) (by omega)]
      by_cases g3 : S i n < q
      · rw [if_neg (by omega), if_pos g3, bL_cuts_31]
        exact ⟨m, A, S i, rfl, by rw [st2_s]; exact h, frK_0, (if_pos (by omega)).symm⟩
      · rw [if_pos (by omega), if_neg g3, bL_cuts_34, q_gR s.1 (k := 2) rfl, ob_s, i3_add, q_aI s.2.2.2 (z := n + 1) (by omega) (by omega) (by omega), ob_s, i3_mul, i3_add, ie_le (by omega) (by omega) (by omega) (by omega)]
        by_cases g4 : 9999 < S i (n + 1) + 2 * q
        · rw [if_neg (by omega), if_pos g4, bL_cuts_52]
          exact ⟨m, A, S i, rfl, by rw [st2_s]; exact h, frK_0, (if_pos (by omega)).symm⟩
        · rw [if_pos (by omega), if_neg g4, bL_cuts_55]
          have loop : ∀ t : Nat, (t : Int) ≤ q → ∃ m', jm_R (jm_env (d + 11)) jmM_L_cuts 58 [some (.ref (P 0)), some (.ref (P (4 + 4 * i))), some (.int (i3 n)), some (.int (i3 q)), some (.int (i3 0))] [] m = jm_R (jm_env (d + 11)) jmM_L_cuts 58 [some (.ref (P 0)), some (.ref (P (4 + 4 * i))), some (.int (i3 n)), some (.int (i3 q)), some (.int (i3 t))] [] m' ∧ LH m' P K e r (cuN (W i) (H i) n t (S i, A)).2 W H (st2 S i (cuN (W i) (H i) n t (S i, A)).1) ∧ frK m m' (fun j => j = P 3 ∨ j = P (7 + 4 * i)) 0 := by
            intro t
            induction t with
            | zero =>
              intro _
              refine ⟨m, rfl, ?_, frK_0⟩
              rw [show ((0 : Nat) : Int) = 0 from rfl, cuN_0]
              rw [st2_s]
              exact h
            | succ t ih =>
              intro ht
              obtain ⟨m1, e1, h1, f1⟩ := ih (by omega)
              have s1 := h1.2.2.2 i hi
              have en : n = (n.toNat : Int) := by omega
              have vn : (cuN (W i) (H i) n t (S i, A)).1 n = S i n - t := by
                show (if n = n + 1 then _ else if n = n then S i n - (t : Int) else _) = _
                rw [if_neg (by omega), if_pos rfl]
              obtain ⟨m2, e2, h2, f2⟩ := sL_cut0 (d := d + 9) (n := n) h1 (LHn_fr hn f1) hi hw n0 g2.1
              rw [st2_i, st2_2] at h2
              have ep : ((cuN (W i) (H i) n t (S i, A)).1, (cuN (W i) (H i) n t (S i, A)).2) = cuN (W i) (H i) n t (S i, A) := rfl
              rw [ep, cuN_s] at h2
              refine ⟨m2, ?_, h2, frK_t (k := 0) (j := 0) f1 f2⟩
              rw [e1, bL_cuts_58, ie_le (by omega) (by omega) (by omega) (by omega), if_neg (by omega), bL_cuts_64, eL_cutsOne _ _ _ _ _ (q_C h1.1), bL_cutsOne_0, q_gR s1.1 (k := 2) rfl, ob_s, q_aI s1.2.2.2 n0 (by omega : n < (10 : Nat)) (by omega), ob_s]
              rw [st2_i, vn, ie_eq (by omega) (by omega) (by omega) (by omega), if_neg (by omega), e2, ob_s, bV_v, i3_add]
              rfl
          obtain ⟨m1, e1, h1, f1⟩ := loop q.toNat (by omega)
          rw [show ((q.toNat : Nat) : Int) = q by omega] at e1 h1
          have s1 := h1.2.2.2 i hi
          have vn : (cuN (W i) (H i) n q (S i, A)).1 (n + 1) = S i (n + 1) + 2 * q := by
            show (if n + 1 = n + 1 then S i (n + 1) + 2 * q else _) = _
            rw [if_pos rfl]
          refine ⟨m1, _, _, ?_, h1, f1, (if_neg (by omega)).symm⟩
          rw [e1, bL_cuts_58, ie_le (by omega) (by omega) (by omega) (by omega), if_pos (by omega), bL_cuts_76, q_gR s1.1 (k := 2) rfl, ob_s, i3_add, q_aI s1.2.2.2 (z := n + 1) (by omega) (by omega) (by omega), st2_i, vn]
          rfl
    · rw [if_neg g2, if_pos rfl, if_pos (Or.inr g2), bL_cuts_18]
      exact ⟨m, A, S i, rfl, by rw [st2_s]; exact h, frK_0, (if_pos (by omega)).symm⟩
end LWG
