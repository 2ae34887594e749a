-- uses 24.zar 25.obj 26.ops 30.rd 31.re 34.gen 55.clc e0.lwa e1.lwb e2.lwc e3.lwd
/-! The law's own land told anew. -/
def st2 (S : Nat → Int → Int) (i : Nat) (f : Int → Int) : Nat → Int → Int := fun k => if k = i then f else S k
theorem st2_i {S : Nat → Int → Int} {i : Nat} {f : Int → Int} : st2 S i f i = f := if_pos rfl
theorem st2_2 {S : Nat → Int → Int} {i : Nat} {f g : Int → Int} : st2 (st2 S i f) i g = st2 S i g := by
  funext k
  unfold st2
  split <;> rfl
theorem st2_s {S : Nat → Int → Int} {i : Nat} : st2 S i (S i) = S := by
  funext k
  unfold st2
  split
  · next h => rw [h]
  · rfl
section LWE
variable {m m' : jm_Mem} {P : Nat → Nat} {K d : Nat} {e r : Int} {A A' : Int → Int} {W H S : Nat → Int → Int}
theorem LHn_fr {S : Nat → Prop} {k : Nat} (h : LHn m P K) (f : frK m m' S k) : LHn m' P K := ⟨fun j hj h2 => ⟨(h.1 j hj h2).1, by have := (h.1 j hj h2).2; have := f.1; omega⟩, h.2⟩
/-- where nothing of it is touched -/
theorem LH_fr (h : LH m P K e r A W H S) (h1 : m.1 ≤ m'.1) (hf : ∀ j, j < 4 + 4 * K → m'.2.1 (P j) = m.2.1 (P j)) : LH m' P K e r A W H S := by
  obtain ⟨q1, ⟨cap, q2⟩, q3, q4⟩ := h
  refine ⟨isO_fr q1 (hf 0 (by omega)), ⟨cap, isLs_fr q2 h1 (hf 1 (by omega)) (hf 2 (by omega))⟩, isL_fr q3 (hf 3 (by omega)), fun i hi => ?_⟩
  obtain ⟨s1, s2, s3, s4⟩ := q4 i hi
  exact ⟨isO_fr s1 (hf _ (by omega)), isA_fr s2 (hf _ (by omega)), isA_fr s3 (hf _ (by omega)), isA_fr s4 (hf _ (by omega))⟩
theorem LH_wS {i : Nat} {f : Int → Int} (h : LH m P K e r A W H S) (hn : LHn m P K) (hi : i < K) (ha : isA m' (P (7 + 4 * i)) 10 f) (hf : fr1 m m' (P (7 + 4 * i))) : LH m' P K e r A W H (st2 S i f) := by
  obtain ⟨q1, ⟨cap, q2⟩, q3, q4⟩ := h
  have ne : ∀ j, j < 4 + 4 * K → j ≠ 7 + 4 * i → m'.2.1 (P j) = m.2.1 (P j) := fun j hj hne => hf.2.2 _ fun q => hne (hn.2 _ _ hj (by omega) q)
  refine ⟨isO_fr q1 (ne 0 (by omega) (by omega)), ⟨cap, isLs_fr q2 (by rw [hf.1]; exact Nat.le_refl _) (ne 1 (by omega) (by omega)) (ne 2 (by omega) (by omega))⟩, isL_fr q3 (ne 3 (by omega) (by omega)), fun k hk => ?_⟩
  obtain ⟨s1, s2, s3, s4⟩ := q4 k hk
  refine ⟨isO_fr s1 (ne _ (by omega) (by omega)), isA_fr s2 (ne _ (by omega) (by omega)), isA_fr s3 (ne _ (by omega) (by omega)), ?_⟩
  unfold st2
  by_cases g : k = i
  · rw [if_pos g, g]; exact ha
  · rw [if_neg g]; exact isA_fr s4 (ne _ (by omega) (by omega))
theorem LH_wA {f : Int → Int} (h : LH m P K e r A W H S) (hn : LHn m P K) (ha : isL m' (P 3) 8 f) (hf : fr1 m m' (P 3)) : LH m' P K e r f W H S := by
  obtain ⟨q1, ⟨cap, q2⟩, q3, q4⟩ := h
  have ne : ∀ j, j < 4 + 4 * K → j ≠ 3 → m'.2.1 (P j) = m.2.1 (P j) := fun j hj hne => hf.2.2 _ fun q => hne (hn.2 _ _ hj (by omega) q)
  refine ⟨isO_fr q1 (ne 0 (by omega) (by omega)), ⟨cap, isLs_fr q2 (by rw [hf.1]; exact Nat.le_refl _) (ne 1 (by omega) (by omega)) (ne 2 (by omega) (by omega))⟩, ha, fun k hk => ?_⟩
  obtain ⟨s1, s2, s3, s4⟩ := q4 k hk
  exact ⟨isO_fr s1 (ne _ (by omega) (by omega)), isA_fr s2 (ne _ (by omega) (by omega)), isA_fr s3 (ne _ (by omega) (by omega)), isA_fr s4 (ne _ (by omega) (by omega))⟩
theorem LHn_f1 {a : Nat} (h : LHn m P K) (f : fr1 m m' a) : LHn m' P K := ⟨fun j hj h2 => by rw [f.1]; exact h.1 j hj h2, h.2⟩
/-- same numbers -/
theorem LH_cg {e' r' : Int} {W' H' S' : Nat → Int → Int} (h : LH m P K e r A W H S) (he : e = e') (hr : r = r') (hA : ∀ k : Int, 0 ≤ k → k < 8 → A k = A' k) (hS : ∀ i : Nat, i < K → ∀ n : Int, 0 ≤ n → n < 10 → W i n = W' i n ∧ H i n = H' i n ∧ S i n = S' i n) : LH m P K e' r' A' W' H' S' := by
  obtain ⟨q1, q2, q3, q4⟩ := h
  subst he hr
  refine ⟨q1, q2, isL_cg q3 hA, fun i hi => ?_⟩
  obtain ⟨s1, s2, s3, s4⟩ := q4 i hi
  exact ⟨s1, isA_cg s2 fun k h0 h1 => (hS i hi k h0 h1).1, isA_cg s3 fun k h0 h1 => (hS i hi k h0 h1).2.1, isA_cg s4 fun k h0 h1 => (hS i hi k h0 h1).2.2⟩
def okW (W H : Int → Int) : Prop := ∀ n : Int, 0 ≤ n → n < 10 → (0 ≤ W n ∧ W n ≤ 2000) ∧ (0 ≤ H n ∧ H n ≤ 2000)
theorem sX12_ar {a w h t : Nat} {W H K : Int → Int} (hs : isS m a w h t W H K) (ho : okW W H) {n : Int} (h0 : 0 ≤ n) (h1 : n < 10) : jm_env (d + 1) 134 [.ref a, .int (i3 n)] m = some (.inl (some (.long (i6 (W n * H n)))), m) := by
  obtain ⟨s0, s1, s2, s3⟩ := hs
  have := ho n h0 h1
  rw [eX12_area _ _ _ _ (q_C s0), bX12_area_0]
  simp only [q_gR s0 (k := 0) rfl, q_gR s0 (k := 1) rfl, q_aI s1 h0 h1 (by omega), q_aI s2 h0 h1 (by omega), ob_s]
  rw [i3_i6 (by omega) (by omega), i3_i6 (by omega) (by omega), i6_mul]
/-- one sheet cut in two -/
def cu0 (W H : Int → Int) (n : Int) (st : (Int → Int) × (Int → Int)) : (Int → Int) × (Int → Int) := (st1 (st1 st.1 n (st.1 n - 1)) (n + 1) (st.1 (n + 1) + 2), st1 (st1 st.2 3 (st.2 3 + (W n * H n - 2 * (W (n + 1) * H (n + 1))))) 4 (st.2 4 + 1))
/-- .., a larger one before it where there is none -/
def cu1 (W H : Int → Int) : Nat → (Int → Int) × (Int → Int) → (Int → Int) × (Int → Int)
  | 0, st => cu0 W H 0 st
  | n + 1, st => cu0 W H ((n + 1 : Nat) : Int) (if st.1 ((n + 1 : Nat) : Int) = 0 then cu1 W H n st else st)
theorem sL_cut0 {i : Nat} {n : Int} (h : LH m P K e r A W H S) (hn : LHn m P K) (hi : i < K) (ho : okW (W i) (H i)) (n0 : 0 ≤ n) (n1 : n < 9) : ∃ m', jm_R (jm_env (d + 1)) jmM_L_cutsOne 17 [some (.ref (P 0)), some (.ref (P (4 + 4 * i))), some (.int (i3 n))] [] m = some (.inl none, m') ∧ LH m' P K e r (cu0 (W i) (H i) n (S i, A)).2 W H (st2 S i (cu0 (W i) (H i) n (S i, A)).1) ∧ frK m m' (fun j => j = P 3 ∨ j = P (7 + 4 * i)) 0 := by
  have s := h.2.2.2 i hi
  obtain ⟨m1, e1, a1, f1⟩ := q_wI (y := S i n - 1) s.2.2.2 n0 (by omega : n < (10 : Nat)) (by omega)
  have h1 := LH_wS h hn hi a1 f1
  have n1' := LHn_f1 hn f1
  have s' := h1.2.2.2 i hi
  rw [st2_i] at s'
  obtain ⟨m2, e2, a2, f2⟩ := q_wI (z := n + 1) (y := S i (n + 1) + 2) s'.2.2.2 (by omega) (by omega) (by omega)
  have h2 := LH_wS h1 n1' hi a2 f2
  rw [st2_2] at h2
  have n2' := LHn_f1 n1' f2
  have s2 := h2.2.2.2 i hi
  have r1 : jm_aI m1 (P (7 + 4 * i)) (i3 (n + 1)) = some (i3 (S i (n + 1))) := by
    rw [q_aI s'.2.2.2 (z := n + 1) (by omega) (by omega) (by omega)]
    unfold st1
    rw [if_neg (by omega)]
  have ea1 := sX12_ar (d := d) s2 ho n0 (by omega : n < 10)
  have ea2 := sX12_ar (d := d) s2 ho (n := n + 1) (by omega) (by omega)
  obtain ⟨m3, e3, a3, f3⟩ := q_wL (z := 3) (y := A 3 + (W i n * H i n - 2 * (W i (n + 1) * H i (n + 1)))) h2.2.2.1 (by omega) (by omega) (by omega)
  have h3 := LH_wA h2 n2' a3 f3
  have n3' := LHn_f1 n2' f3
  obtain ⟨m4, e4, a4, f4⟩ := q_wL (z := 4) (y := A 4 + 1) h3.2.2.1 (by omega) (by omega) (by omega)
  have h4 := LH_wA h3 n3' a4 f4
  have r3 : jm_aL m3 (P 3) (i3 4) = some (i6 (A 4)) := by
    rw [q_aL h3.2.2.1 (z := 4) (by omega) (by omega) (by omega)]
    rfl
  refine ⟨m4, ?_, h4, ?_⟩
  · rw [bL_cutsOne_17, q_gR s.1 (k := 2) rfl, ob_s, q_aI s.2.2.2 n0 (by omega : n < (10 : Nat)) (by omega), ob_s, i3_sub, e1, ob_s, q_gR s'.1 (k := 2) rfl, ob_s, i3_add, r1, ob_s, i3_add, e2, ob_s, q_gR h2.1 (k := 1) rfl, ob_s, q_aL h2.2.2.1 (z := 3) (by omega) (by omega) (by omega), ob_s, ea1, ob_s, bL_v, ea2, ob_s, bL_v, i6_mul, i6_sub, i6_add, e3, ob_s, q_gR h3.1 (k := 1) rfl, ob_s, r3, ob_s, i6_add, e4, ob_s]
  · exact fr1_S f1 (fr1_S f2 (fr1_S f3 (fr1_1 f4 (Or.inl rfl)) (Or.inl rfl)) (Or.inr rfl)) (Or.inr rfl)
theorem sL_cutsOne {i : Nat} (hi : i < K) (ho : okW (W i) (H i)) : ∀ (n : Nat) {d : Nat} {m : jm_Mem} {A : Int → Int} {S : Nat → Int → Int}, LH m P K e r A W H S → LHn m P K → n < 9 → (∀ k : Nat, k ≤ n → 0 ≤ S i k ∧ S i k ≤ 1000000) → (∃ k : Nat, k ≤ n ∧ S i k ≠ 0) → ∃ m', jm_env (d + n + 2) 7 [.ref (P 0), .ref (P (4 + 4 * i)), .int (i3 n)] m = some (.inl none, m') ∧ LH m' P K e r (cu1 (W i) (H i) n (S i, A)).2 W H (st2 S i (cu1 (W i) (H i) n (S i, A)).1) ∧ frK m m' (fun j => j = P 3 ∨ j = P (7 + 4 * i)) 0 := by
  intro n
  induction n with
  | zero =>
    intro d m A S h hn h9 hS hk
    have s := h.2.2.2 i hi
    have hb := hS 0 (by omega)
    obtain ⟨k, k0, k1⟩ := hk
    have k0 : k = 0 := by omega
    subst k0
    obtain ⟨m1, e1, h1, f1⟩ := sL_cut0 (d := d) (n := ((0 : Nat) : Int)) h hn hi ho (by omega) (by omega)
    refine ⟨m1, ?_, h1, f1⟩
    rw [eL_cutsOne _ _ _ _ _ (q_C h.1), bL_cutsOne_0, q_gR s.1 (k := 2) rfl, ob_s, q_aI s.2.2.2 (by omega) (by omega) (by omega), ob_s, ie_eq (by omega) (by omega) (by omega) (by omega), if_neg k1]
    exact e1
  | succ n ih =>
    intro d m A S h hn h9 hS hk
    have s := h.2.2.2 i hi
    have hb := hS (n + 1) (by omega)
    by_cases g : S i ((n + 1 : Nat) : Int) = 0
    · obtain ⟨m1, e1, h1, f1⟩ := ih (d := d) h hn (by omega) (fun k hk => hS k (by omega)) (by
        obtain ⟨k, k0, k1⟩ := hk
        refine ⟨k, ?_, k1⟩
        by_cases q : k = n + 1
        · rw [q] at k1; exact absurd g k1
        · omega)
      obtain ⟨m2, e2, h2, f2⟩ := sL_cut0 (d := d + n + 1) (n := ((n + 1 : Nat) : Int)) h1 (LHn_fr hn f1) hi ho (by omega) (by omega)
      rw [st2_i, st2_2] at h2
      have ec : cu1 (W i) (H i) (n + 1) (S i, A) = cu0 (W i) (H i) ((n + 1 : Nat) : Int) ((cu1 (W i) (H i) n (S i, A)).1, (cu1 (W i) (H i) n (S i, A)).2) := by
        show cu0 (W i) (H i) ((n + 1 : Nat) : Int) (if S i ((n + 1 : Nat) : Int) = 0 then cu1 (W i) (H i) n (S i, A) else (S i, A)) = _
        rw [if_pos g]
      refine ⟨m2, ?_, by rw [ec]; exact h2, frK_t (k := 0) (j := 0) f1 f2⟩
      rw [show d + (n + 1) + 2 = (d + n + 2) + 1 by omega, eL_cutsOne _ _ _ _ _ (q_C h.1), bL_cutsOne_0, q_gR s.1 (k := 2) rfl, ob_s, q_aI s.2.2.2 (by omega) (by omega) (by omega), ob_s, ie_eq (by omega) (by omega) (by omega) (by omega), if_pos g, bL_cutsOne_9, i3_sub, show ((n + 1 : Nat) : Int) - 1 = (n : Int) by omega, e1, ob_s, bV_v]
      exact e2
    · obtain ⟨m2, e2, h2, f2⟩ := sL_cut0 (d := d + n + 1) (n := ((n + 1 : Nat) : Int)) h hn hi ho (by omega) (by omega)
      have ec : cu1 (W i) (H i) (n + 1) (S i, A) = cu0 (W i) (H i) ((n + 1 : Nat) : Int) (S i, A) := by
        show cu0 (W i) (H i) ((n + 1 : Nat) : Int) (if S i ((n + 1 : Nat) : Int) = 0 then cu1 (W i) (H i) n (S i, A) else (S i, A)) = _
        rw [if_neg g]
      refine ⟨m2, ?_, by rw [ec]; exact h2, f2⟩
      rw [show d + (n + 1) + 2 = (d + n + 2) + 1 by omega, eL_cutsOne _ _ _ _ _ (q_C h.1), bL_cutsOne_0, q_gR s.1 (k := 2) rfl, ob_s, q_aI s.2.2.2 (by omega) (by omega) (by omega), ob_s, ie_eq (by omega) (by omega) (by omega) (by omega), if_neg g]
      exact e2
end LWE
