-- uses 24.zar 25.obj 26.ops 30.rd 31.re 34.gen 55.clc e0.lwa e1.lwb e2.lwc
/-! The law's own land. -/
def LH (m : jm_Mem) (P : Nat → Nat) (K : Nat) (e r : Int) (A : Int → Int) (W H S : Nat → Int → Int) : Prop :=
  isO m (P 0) 13 [.ref (P 1), .ref (P 3), .int (i3 e), .int (i3 r)] ∧ (∃ cap, isLs m (P 1) (P 2) cap K (fun i => P (4 + 4 * i))) ∧ isL m (P 3) 8 A ∧
  (∀ i, i < K → isS m (P (4 + 4 * i)) (P (5 + 4 * i)) (P (6 + 4 * i)) (P (7 + 4 * i)) (W i) (H i) (S i))
/-- its numbers, and its names -/
def LHo (K : Nat) (e r : Int) (W H S : Nat → Int → Int) : Prop := K ≤ 5 ∧ 0 ≤ e ∧ e ≤ 50 ∧ 1 ≤ r ∧ r ≤ 500 ∧ ∀ i, i < K → okS (W i) (H i) (S i)
def LHn (m : jm_Mem) (P : Nat → Nat) (K : Nat) : Prop := (∀ j, j < 4 + 4 * K → (j ≠ 2 ∨ 1 ≤ K) → 411 ≤ P j ∧ P j < m.1) ∧ ∀ i j, i < 4 + 4 * K → j < 4 + 4 * K → P i = P j → i = j
section LWD
variable {m : jm_Mem} {P : Nat → Nat} {K d : Nat} {e r : Int} {A : Int → Int} {W H S : Nat → Int → Int}
theorem LH_sz (h : LH m P K e r A W H S) : jm_env (d + 1) 171 [.ref (P 1)] m = some (.inl (some (.int (i3 K))), m) := by
  obtain ⟨-, ⟨cap, h2⟩, -, -⟩ := h
  exact sAL_size h2
theorem LH_get (h : LH m P K e r A W H S) {i : Nat} (hi : i < K) : jm_env (d + 2) 173 [.ref (P 1), .int (i3 i)] m = some (.inl (some (.ref (P (4 + 4 * i)))), m) ∧ jm_caO m (P (4 + 4 * i)) 12 = true := by
  obtain ⟨-, ⟨cap, h2⟩, -, h4⟩ := h
  exact ⟨sAL_get h2 (by omega) (by omega), caO_o (h4 i hi).1 (Or.inl rfl)⟩
theorem sL_paper (h : LH m P K e r A W H S) (ho : LHo K e r W H S) : jm_env (d + 3) 4 [.ref (P 0)] m = some (.inl (some (.long (i6 (fo2 (fun a k n => a + S k n * (W k n * H k n)) 0 K)))), m) := by
  have h0 := h.1
  obtain ⟨⟨q, x, e1⟩, -⟩ := lq2 (fun _ => True) (fun (k : Nat) (a : Int) (_ : Unit) x => jm_R (jm_env (d + 2)) jmM_L_paper 4 [some (.ref (P 0)), some (.long (i6 a)), none, some (.int (i3 k)), x] [] m) (fun (k n : Nat) a _ => jm_R (jm_env (d + 2)) jmM_L_paper 20 [some (.ref (P 0)), some (.long (i6 a)), none, some (.int (i3 k)), some (.int (i3 n))] [] m) (fun a k n => a + S k n * (W k n * H k n)) K
    (fun k a p x hk _ => ⟨(), by
      have := ho.1
      rw [bL_paper_4, q_gR h0 (k := 0) rfl, ob_s, LH_sz h, ob_s, bI_v, ie_le (by omega) (by omega) (by omega) (by omega), if_neg (by omega), bL_paper_17]
      rfl⟩)
    (fun k n a p hk hn _ => ⟨(), by
      have := ho.1
      obtain ⟨g1, g2⟩ := LH_get (d := d) h hk
      have hs := h.2.2.2 k hk
      have hk2 := ho.2.2.2.2.2 k hk
      have hb := hk2 n (by omega) (by omega)
      rw [bL_paper_20, ie_le (by omega) (by omega) (by omega) (by omega), if_neg (by omega), bL_paper_27, q_gR h0 (k := 0) rfl, ob_s, g1, ob_s, bR_w, if_pos g2, q_gR hs.1 (k := 2) rfl, ob_s, q_aI hs.2.2.2 (by omega) (by omega) (by omega), ob_s]
      simp only [ob_s, q_gR h0 (k := 0) (x := P 1) rfl]
      rw [g1, ob_s, bR_w, if_pos g2, sX12_area hs hk2 (by omega) (by omega), ob_s, bL_v, i3_i6 (by omega) (by omega), i6_mul, i6_add, i3_add]
      rfl⟩)
    (fun k a p hk _ => ⟨(), some (.int (i3 10)), by
      have := ho.1
      rw [bL_paper_20, ie_le (by omega) (by omega) (by omega) (by omega), if_pos (by omega), bL_paper_75, i3_add]
      rfl⟩)
    (fun _ _ _ _ _ _ => trivial) 0 () none trivial
  rw [eL_paper _ _ _ (q_C h0), bL_paper_0]
  refine Eq.trans e1 ?_
  have := ho.1
  rw [bL_paper_4, q_gR h0 (k := 0) rfl, ob_s, LH_sz h, ob_s, bI_v, ie_le (by omega) (by omega) (by omega) (by omega), if_pos (by omega), bL_paper_81]
def ftL (W H : Nat → Int → Int) (e x y : Int) (k n : Nat) : Int := if min x y ≤ min (max 0 (W k n - 2 * e)) (max 0 (H k n - 2 * e)) ∧ max x y ≤ max (max 0 (W k n - 2 * e)) (max 0 (H k n - 2 * e)) then 1 else 0
theorem ftL_b {e x y : Int} {k n : Nat} : ftL W H e x y k n = 0 ∨ ftL W H e x y k n = 1 := by unfold ftL; split <;> simp
theorem sL_fitting (h : LH m P K e r A W H S) (ho : LHo K e r W H S) {x y : Int} (x0 : 0 ≤ x) (x1 : x ≤ 2000) (y0 : 0 ≤ y) (y1 : y ≤ 2000) : jm_env (d + 3) 6 [.ref (P 0), .int (i3 x), .int (i3 y)] m = some (.inl (some (.int (i3 (fo2 (fun a k n => a + ftL W H e x y k n) 0 K)))), m) := by
  have h0 := h.1
  obtain ⟨⟨q, z, e1⟩, -⟩ := lq2 (fun _ => True) (fun (k : Nat) (a : Int) (_ : Unit) z => jm_R (jm_env (d + 2)) jmM_L_fitting 5 [some (.ref (P 0)), some (.int (i3 x)), some (.int (i3 y)), some (.int (i3 a)), some (.int (i3 k)), z] [] m) (fun (k n : Nat) a _ => jm_R (jm_env (d + 2)) jmM_L_fitting 22 [some (.ref (P 0)), some (.int (i3 x)), some (.int (i3 y)), some (.int (i3 a)), some (.int (i3 k)), some (.int (i3 n))] [] m) (fun a k n => a + ftL W H e x y k n) K
    (fun k a p z hk _ => ⟨(), by
      have := ho.1
      rw [bL_fitting_5, q_gR h0 (k := 0) rfl, ob_s, LH_sz h, ob_s, bI_v, ie_le (by omega) (by omega) (by omega) (by omega), if_neg (by omega), bL_fitting_19]
      rfl⟩)
    (fun k n a p hk hn _ => ⟨(), by
      have := ho.1
      obtain ⟨g1, g2⟩ := LH_get (d := d) h hk
      have hs := h.2.2.2 k hk
      have hk2 := ho.2.2.2.2.2 k hk
      have hf := sX12_fits (d := d + 1) hs hk2 (n := (n : Int)) (e := e) (x := x) (y := y) (by omega) (by omega) ho.2.1 ho.2.2.1 x0 x1 y0 y1
      have hb : (if min x y ≤ min (max 0 (W k n - 2 * e)) (max 0 (H k n - 2 * e)) ∧ max x y ≤ max (max 0 (W k n - 2 * e)) (max 0 (H k n - 2 * e)) then (1 : Int) else 0) = ftL W H e x y k n := rfl
      rw [hb] at hf
      rw [bL_fitting_22, ie_le (by omega) (by omega) (by omega) (by omega), if_neg (by omega), bL_fitting_29, q_gR h0 (k := 0) rfl, ob_s, g1, ob_s, bR_w, if_pos g2, q_gI h0 (k := 2) rfl, ob_s, hf, ob_s, bI_v]
      rcases ftL_b (W := W) (H := H) (e := e) (x := x) (y := y) (k := k) (n := n) with g | g
      · rw [g, if_pos rfl, bL_fitting_62, bL_fitting_63, i3_add, i3_add]; rfl
      · rw [g, ie_eq (by omega) (by omega) (by omega) (by omega), if_neg (by omega), bL_fitting_58, bL_fitting_63, i3_add, i3_add]; rfl⟩)
    (fun k a p hk _ => ⟨(), some (.int (i3 10)), by
      have := ho.1
      rw [bL_fitting_22, ie_le (by omega) (by omega) (by omega) (by omega), if_pos (by omega), bL_fitting_71, i3_add]
      rfl⟩)
    (fun _ _ _ _ _ _ => trivial) 0 () none trivial
  rw [eL_fitting _ _ _ _ _ (q_C h0), bL_fitting_0]
  refine Eq.trans e1 ?_
  have := ho.1
  rw [bL_fitting_5, q_gR h0 (k := 0) rfl, ob_s, LH_sz h, ob_s, bI_v, ie_le (by omega) (by omega) (by omega) (by omega), if_pos (by omega), bL_fitting_77]
/-- the nearest size, the series upwards, the sizes downwards -/
def neG (W H S : Nat → Int → Int) (e x y q : Int) (st : Int × Int) (k j : Nat) : Int × Int := if ftL W H e x y k (9 - j) = 1 ∧ q ≤ supL (W k) (H k) (S k) (9 - j) ∧ W k ((9 - j : Nat) : Int) * H k ((9 - j : Nat) : Int) < st.2 then (100 * (k : Int) + ((9 - j : Nat) : Int), W k ((9 - j : Nat) : Int) * H k ((9 - j : Nat) : Int)) else st
theorem sL_nearest (h : LH m P K e r A W H S) (ho : LHo K e r W H S) {x y q : Int} (x0 : 0 ≤ x) (x1 : x ≤ 2000) (y0 : 0 ≤ y) (y1 : y ≤ 2000) (q0 : 0 ≤ q) (q1 : q ≤ 9999) : jm_env (d + 12) 5 [.ref (P 0), .int (i3 x), .int (i3 y), .int (i3 q)] m = some (.inl (some (.int (i3 (fo2 (neG W H S e x y q) (-1, 9223372036854775807) K).1))), m) := by
  have h0 := h.1
  have hP0 : ∀ k n (a : Int × Int), k < K → n < 10 → (0 ≤ a.2 ∧ a.2 < 9223372036854775808) → (0 ≤ (neG W H S e x y q a k n).2 ∧ (neG W H S e x y q a k n).2 < 9223372036854775808) := by
    intro k n a hk hn ha
    have hb := ho.2.2.2.2.2 k hk ((9 - n : Nat) : Int) (by omega) (by omega)
    have hm := mul_2k hb.1.1 hb.1.2 hb.2.1.1 hb.2.1.2
    unfold neG
    split
    · dsimp only; omega
    · exact ha
  obtain ⟨⟨p, z, e1⟩, -⟩ := lq2 (fun a : Int × Int => 0 ≤ a.2 ∧ a.2 < 9223372036854775808) (fun (k : Nat) (a : Int × Int) (p : Option Value) z => jm_R (jm_env (d + 11)) jmM_L_nearest 11 [some (.ref (P 0)), some (.int (i3 x)), some (.int (i3 y)), some (.int (i3 q)), some (.int (i3 a.1)), some (.long (i6 a.2)), none, some (.int (i3 k)), z, p] [] m) (fun (k n : Nat) (a : Int × Int) p => jm_R (jm_env (d + 11)) jmM_L_nearest 29 [some (.ref (P 0)), some (.int (i3 x)), some (.int (i3 y)), some (.int (i3 q)), some (.int (i3 a.1)), some (.long (i6 a.2)), none, some (.int (i3 k)), some (.int (i3 (9 - (n : Int)))), p] [] m) (neG W H S e x y q) K
    (fun k a p z hk _ => ⟨p, by
      have := ho.1
      rw [bL_nearest_11, q_gR h0 (k := 0) rfl, ob_s, LH_sz h, ob_s, bI_v, ie_le (by omega) (by omega) (by omega) (by omega), if_neg (by omega), bL_nearest_25]
      rfl⟩)
    (fun k n a p hk hn ha => ⟨some (.ref (P (4 + 4 * k))), by
      have := ho.1
      obtain ⟨g1, g2⟩ := LH_get (d := d + 9) h hk
      have hs := h.2.2.2 k hk
      have hk2 := ho.2.2.2.2.2 k hk
      have e9 : 9 - (n : Int) = ((9 - n : Nat) : Int) := by omega
      have hf := sX12_fits (d := d + 10) hs hk2 (n := ((9 - n : Nat) : Int)) (e := e) (x := x) (y := y) (by omega) (by omega) ho.2.1 ho.2.2.1 x0 x1 y0 y1
      have hb : (if min x y ≤ min (max 0 (W k ((9 - n : Nat) : Int) - 2 * e)) (max 0 (H k ((9 - n : Nat) : Int) - 2 * e)) ∧ max x y ≤ max (max 0 (W k ((9 - n : Nat) : Int) - 2 * e)) (max 0 (H k ((9 - n : Nat) : Int) - 2 * e)) then (1 : Int) else 0) = ftL W H e x y k (9 - n) := rfl
      rw [hb] at hf
      have hp := sX12_supply hs hk2 (n := 9 - n) (d := d + n) (by omega)
      rw [show d + n + (9 - n) + 2 = d + 11 by omega] at hp
      have hpb := supL_b hk2 (9 - n) (by omega)
      have har := sX12_area (d := d + 10) hs hk2 (n := ((9 - n : Nat) : Int)) (by omega) (by omega)
      have hbb := hk2 ((9 - n : Nat) : Int) (by omega) (by omega)
      have hm := mul_2k hbb.1.1 hbb.1.2 hbb.2.1.1 hbb.2.1.2
      have en : i3 ((9 - n : Nat) : Int) + i3 (-1) = i3 (9 - ((n + 1 : Nat) : Int)) := by rw [i3_add]; congr 1; omega
      rw [e9, bL_nearest_29, ie_lt (by omega) (by omega) (by omega) (by omega), if_neg (by omega), bL_nearest_34, q_gR h0 (k := 0) rfl, ob_s, g1, ob_s, bR_w, if_pos g2, q_gI h0 (k := 2) rfl, ob_s, hf, ob_s, bI_v]
      unfold neG
      rcases ftL_b (W := W) (H := H) (e := e) (x := x) (y := y) (k := k) (n := 9 - n) with g | g
      · rw [g, if_pos rfl, bL_nearest_112, en, if_neg (by omega)]
      · rw [g, ie_eq (by omega) (by omega) (by omega) (by omega), if_neg (by omega), bL_nearest_66, hp, ob_s, bI_v, ie_lt (by omega) (by omega) (by omega) (by omega)]
        by_cases c1 : q ≤ supL (W k) (H k) (S k) (9 - n)
        · rw [if_neg (by omega), bL_nearest_77, har, ob_s, bL_v, le6_lt (by omega) (by omega) (by omega) (by omega)]
          by_cases c2 : W k ((9 - n : Nat) : Int) * H k ((9 - n : Nat) : Int) < a.2
          · rw [if_pos c2, if_pos ⟨rfl, c1, c2⟩, bL_nearest_93, har, ob_s, bL_v, i3_mul, i3_add, bL_nearest_112, en]
          · rw [if_neg c2, if_neg (fun t => c2 t.2.2), bL_nearest_90, bL_nearest_112, en]
        · rw [if_pos (by omega), if_neg (fun t => c1 t.2.1), bL_nearest_112, en]⟩)
    (fun k a p hk _ => ⟨p, some (.int (i3 (-1))), by
      have := ho.1
      rw [bL_nearest_29, ie_lt (by omega) (by omega) (by omega) (by omega), if_pos (by omega), bL_nearest_118, i3_add]
      rfl⟩)
    hP0 (-1, 9223372036854775807) none none ⟨by decide, by decide⟩
  rw [eL_nearest _ _ _ _ _ _ (q_C h0), bL_nearest_0]
  refine Eq.trans e1 ?_
  have := ho.1
  rw [bL_nearest_11, q_gR h0 (k := 0) rfl, ob_s, LH_sz h, ob_s, bI_v, ie_le (by omega) (by omega) (by omega) (by omega), if_pos (by omega), bL_nearest_124]
end LWD
