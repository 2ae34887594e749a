-- uses 24.zar 25.obj 26.ops 31.re 34.gen 41.bit 07.rel 75.wra e0.lwa e1.lwb e2.lwc f3.lwn g0.lwu
/-! A StringBuilder. -/
def isSB (m : jm_Mem) (b e cap n : Nat) (T : Nat → Int) : Prop := (∃ ml, isO m b 15 [.ref e, .int (i3 0), .int ml, .int (i3 n)]) ∧ (∃ T', isY m e cap T' ∧ ∀ k, k < n → T' k = T k) ∧ n ≤ cap ∧ cap ≤ 1000 ∧ b < m.1 ∧ e < m.1 ∧ e ≠ b
/-- a constant String -/
def isK (m : jm_Mem) (a L : Nat) (S : Nat → Int) : Prop := 1000000 ≤ a ∧ ∃ f : Nat → Int32, m.2.1 a = .inl (7, L, .inl f) ∧ ∀ k, k < L → f k = i3 (S k) ∧ 0 ≤ S k ∧ S k < 128
/-- one text behind another -/
def apT (T : Nat → Int) (n : Nat) (S : Nat → Int) : Nat → Int := fun k => if k < n then T k else S (k - n)
section LWV
variable {m m' : jm_Mem} {d b e cap n L a : Nat} {T S : Nat → Int}
theorem isSB_fr (h : isSB m b e cap n T) (h1 : m.1 ≤ m'.1) (hb : m'.2.1 b = m.2.1 b) (he : m'.2.1 e = m.2.1 e) : isSB m' b e cap n T := by
  obtain ⟨⟨ml, q1⟩, ⟨T', q2, q3⟩, q4, q5, q6, q7, q8⟩ := h
  exact ⟨⟨ml, hb.trans q1⟩, ⟨T', isY_fr q2 he, q3⟩, q4, q5, by omega, by omega, q8⟩
theorem isSB_cg {T2 : Nat → Int} (h : isSB m b e cap n T) (ht : ∀ k, k < n → T k = T2 k) : isSB m b e cap n T2 := by
  obtain ⟨q1, ⟨T', q2, q3⟩, q4⟩ := h
  exact ⟨q1, ⟨T', q2, fun k hk => (q3 k hk).trans (ht k hk)⟩, q4⟩
theorem isK_fr (h : isK m a L S) (he : m'.2.1 a = m.2.1 a) : isK m' a L S := by
  obtain ⟨q1, f, q2, q3⟩ := h
  exact ⟨q1, f, he.trans q2, q3⟩
theorem i3_l0 {z : Int} : i3 z <<< (i3 0 &&& 31) = i3 z := by
  have h : i3 0 &&& 31 = 0 := by decide
  rw [h]
  exact Int32.shiftLeft_zero
theorem i3_r0 {z : Int} (h0 : -2147483648 ≤ z) (h1 : z < 2147483648) : i3 z >>> (i3 0 &&& 31) = i3 z := by
  rw [show i3 0 = i3 ((0 : Nat) : Int) from rfl, i3_sar h0 h1 (by omega)]
  congr 1
  omega
theorem nw_fk {e : jm_Ent} {s k : Nat} (h : m.1 < 1000000) (h1 : 1 ≤ k) (hs : s ≤ 200 * k) : frK m (jm_new m e s) (fun _ => False) k := by
  refine ⟨Nat.le_succ _, ?_, ?_, ?_, fun n hn _ => if_neg (by omega)⟩
  · show m.1 + 1 ≤ m.1 + k; omega
  · show m.2.2.1 + 1 ≤ m.2.2.1 + k; omega
  · show m.2.2.2 + s ≤ m.2.2.2 + 200 * k; omega
theorem sJ_newLength {a b c : Int} (a0 : 0 ≤ a) (a1 : a < 100000) (b0 : 0 ≤ b) (b1 : b < 100000) (c0 : 0 ≤ c) (c1 : c < 100000) (h : 0 < a + max b c) : jm_env (d + 1) 180 [.int (i3 a), .int (i3 b), .int (i3 c)] m = some (.inl (some (.int (i3 (a + max b c)))), m) := by
  rw [eJ8_newLength_cabcc, bJ8_newLength_cabcc_0]
  rw [ie_lt (by omega) (by omega) (by omega) (by omega), i3_ite, if_mx, i3_add, ie_le (by omega) (by omega) (by omega) (by omega), if_neg (by omega), bJ8_newLength_cabcc_13, ie_lt (by omega) (by omega) (by omega) (by omega), if_neg (by omega), bJ8_newLength_cabcc_19]
/-- bytes copied into a new row -/
theorem q_cpB {r0 r1 n0 n1 k : Nat} {f g : Nat → Int32} (h0 : m.2.1 r0 = .inl (9, n0, .inl f)) (h1 : m.2.1 r1 = .inl (9, n1, .inl g)) (hr : r0 ≠ r1) (k0 : k ≤ n0) (k1 : k ≤ n1) (hk : k < 100000) (hb : ∀ j, j < k → jm_by (f j) = true) : jm_cpY m r0 (i3 0) r1 (i3 0) (i3 k) = some (jm_up m r1 (.inl (9, n1, .inl (va_cpy f g 0 0 k)))) := by
  unfold jm_cpY
  have e1 : jm_cpy m r0 (i3 0) r1 (i3 0) (i3 k) = none := by
    unfold jm_cpy
    rw [h0, h1]
    exact if_neg (by omega)
  rw [e1]
  unfold jm_cpB
  rw [h0, h1]
  show (if r0 ≠ r1 ∧ 9 = 9 ∧ 9 = 9 ∧ ¬ i3 0 < 0 ∧ ¬ i3 0 < 0 ∧ ¬ i3 (k : Int) < 0 ∧ (i3 0).toNatClampNeg + (i3 (k : Int)).toNatClampNeg ≤ n0 ∧ (i3 0).toNatClampNeg + (i3 (k : Int)).toNatClampNeg ≤ n1 ∧ (∀ j, j < (i3 (k : Int)).toNatClampNeg → jm_by (f ((i3 0).toNatClampNeg + j)) = true) then some _ else none) = _
  have ek : (i3 (k : Int)).toNatClampNeg = k := by rw [i3_nat (by omega) (by omega)]; omega
  have e0 : (i3 0).toNatClampNeg = 0 := rfl
  rw [ek, e0, if_pos ⟨hr, rfl, rfl, i3_neg0 (by omega) (by omega), i3_neg0 (by omega) (by omega), i3_neg0 (by omega) (by omega), by omega, by omega, fun j hj => by rw [Nat.zero_add]; exact hb j hj⟩]
/-- room for k bytes -/
theorem sSB_ens (h : isSB m b e cap n T) {k : Int} (k0 : 0 ≤ k) (k1 : k ≤ 480) (hm : m.1 < 1000000) : ∃ m' e' cap', jm_env (d + 3) 140 [.ref b, .int (i3 k)] m = some (.inl none, m') ∧ isSB m' b e' cap' n T ∧ k ≤ cap' ∧ (e' = e ∨ m.1 ≤ e') ∧ frK m m' (fun j => j = b) 5 := by
  obtain ⟨⟨ml, q1⟩, ⟨T', q2, q3⟩, q4, q5, q6, q7, q8⟩ := id h
  obtain ⟨G, g1, g2⟩ := id q2
  have hl : jm_len m e = some cap := q_len (y := (cap, .inl G)) (by rw [g1]) (by decide) (by decide)
  rw [eJ5_ensureCapacityInternal_d00df _ _ _ _ (q_C q1), bJ5_ensureCapacityInternal_d00df_0, q_gR q1 (k := 0) rfl, ob_s, hl, ob_s, q_gI q1 (k := 1) rfl, ob_s, i3_ofNat, i3_r0 (by omega) (by omega), i3_sub, ie_le (by omega) (by omega) (by omega) (by omega)]
  by_cases g : k ≤ cap
  · rw [if_pos (by omega), bJ5_ensureCapacityInternal_d00df_38]
    exact ⟨m, e, cap, rfl, h, g, Or.inl rfl, frK_0⟩
  · have hnc := sJ_newLength (d := d) (m := m) (a := (cap : Int)) (b := k - cap) (c := (cap : Int) + 2) (by omega) (by omega) (by omega) (by omega) (by omega) (by omega) (by omega)
    generalize hcp : (cap : Int) + max (k - cap) ((cap : Int) + 2) = cp at hnc
    have hcb : cap < cp ∧ k ≤ cp ∧ cp ≤ 1000 := by omega
    have e141 : jm_env (d + 2) 141 [.ref b, .int (i3 k)] m = some (.inl (some (.int (i3 cp))), m) := by
      rw [eJ5_newCapacity_0f7a4 _ _ _ _ (q_C q1), bJ5_newCapacity_0f7a4_0, q_gR q1 (k := 0) rfl, ob_s, hl, ob_s, q_gI q1 (k := 1) rfl, ob_s, ob_s, i3_l0, i3_l0, i3_ofNat, i3_sub, i3_add, hnc, ob_s, bI_v, ie_eq (by omega) (by omega) (by omega) (by omega), if_neg (by omega), bJ5_newCapacity_0f7a4_51, q_gI q1 (k := 1) rfl, ob_s, i3_r0 (by omega) (by omega)]
    have hg0 : ∀ j, j < cap → jm_by (G j) = true := fun j hj => by rw [(g2 j hj).1]; exact by_t (by have := (g2 j hj).2; omega) (g2 j hj).2.2
    have n1 : (jm_new m (.inl (9, cp.toNat, .inl fun _ => 0)) cp.toNat).2.1 e = .inl (9, cap, .inl G) := (if_neg (by omega)).trans g1
    have n2 : (jm_new m (.inl (9, cp.toNat, .inl fun _ => 0)) cp.toNat).2.1 m.1 = .inl (9, cp.toNat, .inl fun _ => 0) := nw_at
    have hcp2 := q_cpB (m := jm_new m (.inl (9, cp.toNat, .inl fun _ => 0)) cp.toNat) (k := cap) n1 n2 (by omega) (Nat.le_refl _) (by omega) (by omega) hg0
    have e176 : jm_env (d + 2) 176 [.ref e, .int (i3 cp)] m = some (.inl (some (.ref m.1)), jm_up (jm_new m (.inl (9, cp.toNat, .inl fun _ => 0)) cp.toNat) m.1 (.inl (9, cp.toNat, .inl (va_cpy G (fun _ => 0) 0 0 cap)))) := by
      rw [eJ7_copyOf_9075b, bJ7_copyOf_9075b_0, hl, ob_s, i3_ofNat, ie_eq (by omega) (by omega) (by omega) (by omega), if_neg (by omega), bJ7_copyOf_9075b_14, i3_nat (by omega) (by omega), if_neg (by rintro (t | t); exact i3_neg0 (by omega) (by omega) t; omega), q_mk hm]
      rw [q_len (y := (cap, .inl G)) (by rw [n1]) (by decide) (by decide), ob_s, i3_ofNat, ie_lt (by omega) (by omega) (by omega) (by omega), if_neg (by omega), hcp2]
      rfl
    generalize hm1 : jm_up (jm_new m (.inl (9, cp.toNat, .inl fun _ => 0)) cp.toNat) m.1 (.inl (9, cp.toNat, .inl (va_cpy G (fun _ => 0) 0 0 cap))) = m1 at e176
    have o1 : isO m1 b 15 [.ref e, .int (i3 0), .int ml, .int (i3 n)] := by
      rw [← hm1]
      exact ((if_neg (by omega)).trans (if_neg (by omega))).trans q1
    have y1 : m1.2.1 m.1 = .inl (9, cp.toNat, .inl (va_cpy G (fun _ => 0) 0 0 cap)) := by rw [← hm1]; exact if_pos rfl
    have f1 : frK m m1 (fun _ => False) 5 := by
      rw [← hm1]
      exact frK_m (frK_u (k := 5) (j := 0) (nw_fk hm (by omega) (by omega)) (fr1_1 (a := m.1) ⟨rfl, rfl, fun j hj => if_neg hj⟩ (S := fun j => j = m.1) rfl) (fun j hj q => by omega)) (fun _ _ q => q) (Nat.le_refl _)
    obtain ⟨m2, e2, o2, f2⟩ := q_put (x := .ref m.1) o1 (k := 0) (by show 0 < 4; omega)
    have hm11 : m1.1 = m.1 + 1 := by rw [← hm1]; rfl
    refine ⟨m2, m.1, cp.toNat, ?_, ⟨⟨ml, o2⟩, ⟨fun j => if j < cap then T' j else 0, ⟨_, (f2.2.2 _ (by omega)).trans y1, fun j hj => ?_⟩, fun j hj => (if_pos (show j < cap by omega)).trans (q3 j hj)⟩, by omega, by omega, by rw [f2.1]; omega, by rw [f2.1]; omega, by omega⟩, by omega, Or.inr (Nat.le_refl _), ?_⟩
    · rw [if_neg (by omega), bJ5_ensureCapacityInternal_d00df_17, q_gR q1 (k := 0) rfl, ob_s, e141, ob_s, bI_v, q_gI q1 (k := 1) rfl, ob_s, i3_l0, e176, ob_s, bR_w, e2, ob_s, bJ5_ensureCapacityInternal_d00df_38]
    · unfold va_cpy
      dsimp only
      by_cases c : j < cap
      · rw [if_pos (by omega), if_pos c, show 0 + (j - 0) = j by omega]
        exact g2 j c
      · rw [if_neg (by omega), if_neg c]
        exact ⟨rfl, by omega, by omega⟩
    · exact frK_m (frK_u (k := 5) (j := 0) (frK_m f1 (fun _ _ q => q.elim) (Nat.le_refl _)) (fr1_1 f2 (S := fun j => j = b) rfl) (fun _ _ q => q)) (fun _ _ q => q) (Nat.le_refl _)
theorem sSB_lat (h : isSB m b e cap n T) : jm_env (d + 1) 146 [.ref b] m = some (.inl (some (.int (i3 1))), m) := by
  obtain ⟨⟨ml, q1⟩, -⟩ := h
  rw [eJ5_isLatin1_aae02 _ _ _ (q_C q1), bJ5_isLatin1_aae02_0, ie_eq (by omega) (by omega) (by omega) (by omega), if_neg (by omega), bJ5_isLatin1_aae02_6, q_gI q1 (k := 1) rfl, ob_s, if_pos rfl, bJ5_isLatin1_aae02_13, bJ5_isLatin1_aae02_18]
  rfl
end LWV
