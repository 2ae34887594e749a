-- uses 24.zar 25.obj 26.ops 31.re 34.gen 41.bit 07.rel 75.wra e0.lwa e1.lwb e2.lwc f3.lwn g0.lwu g1.lwv g2.lww
/-! A StringBuilder begun, and its String. -/
def isT (m : jm_Mem) (s e n : Nat) (T : Nat → Int) : Prop := (∃ h hz, isO m s 14 [.ref e, .int (i3 0), .int h, .int hz]) ∧ isY m e n T ∧ n ≤ 1000 ∧ s < m.1 ∧ e < m.1
section LWX
variable {m m' : jm_Mem} {d b e cap n L a s : Nat} {T S : Nat → Int}
theorem sSB_init (ho : isO m b 15 [.null, .int 0, .int 0, .int 0]) (hb : b < m.1) (hk : isK m a L S) (hL : L ≤ 100) (hm : m.1 < 800000) : ∃ m' e' cap', jm_env (d + 8) 157 [.ref b, .ref a] m = some (.inl none, m') ∧ isSB m' b e' cap' L S ∧ m.1 ≤ e' ∧ frK m m' (fun j => j = b) 10 := by
  obtain ⟨f, g1, g2⟩ := gS_c hk
  obtain ⟨m1, e1, o1, f1⟩ := q_put (x := .int (i3 0)) ho (k := 1) (by show 1 < 4; omega)
  have hm1 : m1.1 < 1000000 := by rw [f1.1]; omega
  have o2 : isO (jm_new m1 (.inl (9, L + 16, .inl fun _ => 0)) (L + 16)) b 15 [.null, .int (i3 0), .int 0, .int 0] := (if_neg (by rw [f1.1]; omega)).trans o1
  have y2 : (jm_new m1 (.inl (9, L + 16, .inl fun _ => 0)) (L + 16)).2.1 m1.1 = .inl (9, L + 16, .inl fun _ => 0) := nw_at
  have fn : frK m1 (jm_new m1 (.inl (9, L + 16, .inl fun _ => 0)) (L + 16)) (fun _ => False) 1 := nw_fk hm1 (by omega) (by omega)
  generalize hmm : jm_new m1 (.inl (9, L + 16, .inl fun _ => 0)) (L + 16) = m2 at o2 y2 fn
  have hm2 : m2.1 = m1.1 + 1 := by rw [← hmm]; rfl
  obtain ⟨m3, e3, o3, f3⟩ := q_put (x := .ref m1.1) o2 (k := 0) (by show 0 < 4; omega)
  have h1 : m1.1 = m.1 := f1.1
  have h3 : m3.1 = m2.1 := f3.1
  have hka := hk.1
  have hSB : isSB m3 b m1.1 (L + 16) 0 S := by
    refine ⟨⟨0, o3⟩, ⟨fun _ => 0, ⟨_, (f3.2.2 _ (by omega)).trans y2, fun k hk => ⟨rfl, by show (0 : Int) ≤ 0; omega, by show (0 : Int) < 128; omega⟩⟩, fun k hk => by omega⟩, by omega, by omega, by omega, by omega, by omega⟩
  have hk3 : isK m3 a L S := isK_fr hk ((f3.2.2 _ (by omega)).trans ((fn.2.2.2.2 _ (Or.inr hka) id).trans (f1.2.2 _ (by omega))))
  obtain ⟨m4, e4, cap4, r4, h4, l4, f4⟩ := sSB_str (d := d) hSB hk3 (by omega) (by omega)
  refine ⟨m4, e4, cap4, ?_, ?_, by rcases l4 with u | u <;> omega, ?_⟩
  · have eb : jm_env (d + 6) 162 [.ref b, .ref a] m3 = some (.inl (some (.ref b)), m4) := by
      rw [eJ4_append_cf1ce _ _ _ _ (q_C o3), bJ4_append_cf1ce_0, r4, ob_s, bR_w]
    have e1' : jm_put m b 15 1 (.int (i3 0)) = some m1 := e1
    have em : jm_mk m1 (.inl (9, (((L : Int) + 16).toNat), .inl fun _ => 0)) (((L : Int) + 16).toNat) = fun F => F m2 := by
      funext F
      rw [show ((L : Int) + 16).toNat = L + 16 by omega, q_mk hm1, hmm]
    rw [eJ4_init_a7421 _ _ _ _ (q_C ho), bJ4_init_a7421_0, eJ5_init_a7421 _ _ _ _ (q_C ho), bJ5_init_a7421_0, g1, ob_s, i3_ofNat, ie_le (by omega) (by omega) (by omega) (by omega), if_neg (by omega), bJ5_init_a7421_15, i3_add, bJ5_init_a7421_24, g1, ob_s, e1', ob_s, if_pos rfl, bJ5_init_a7421_43, i3_nat (by omega) (by omega), if_neg (by rintro (t | t); exact i3_neg0 (by omega) (by omega) t; omega), em]
    dsimp only
    rw [bJ5_init_a7421_53, e3, ob_s, eb, ob_s, bR_w, ob_s, bV_v]
  · rw [Nat.zero_add] at h4
    exact isSB_cg h4 fun k hk => by unfold apT; rw [if_neg (by omega), Nat.sub_zero]
  · refine frK_m (frK_u (frK_u (k := 1) (j := 0) (fr1_S f1 (frK_m fn (fun _ _ q => q.elim) (Nat.le_refl _)) (S := fun j => j = b) rfl) (fr1_1 f3 (S := fun j => j = b) rfl) (fun _ _ q => q)) f4 (fun j hj q => ?_)) (fun _ _ q => q) (by omega)
    rcases q with q | q
    · exact q
    · omega
theorem sSB_len (h : isSB m b e cap n T) : jm_env (d + 1) 139 [.ref b] m = some (.inl (some (.int (i3 n))), m) := by
  obtain ⟨⟨ml, q1⟩, -⟩ := h
  rw [eJ5_length_8abf5 _ _ _ (q_C q1), bJ5_length_8abf5_0, q_gI q1 (k := 3) rfl, ob_s]
theorem sSB_lenV (h : isSB m b e cap n T) : jm_env (d + 2) 163 [.ref b] m = some (.inl (some (.int (i3 n))), m) := by
  obtain ⟨⟨ml, q1⟩, -⟩ := id h
  rw [eJ4_length_8abf5 _ _ _ (q_C q1), bJ4_length_8abf5_0, sSB_len (d := d) h, ob_s, bI_v]
theorem sSB_val (h : isSB m b e cap n T) : jm_env (d + 1) 145 [.ref b] m = some (.inl (some (.ref e)), m) := by
  obtain ⟨⟨ml, q1⟩, -⟩ := h
  rw [eJ5_getValue_6d5f1 _ _ _ (q_C q1), bJ5_getValue_6d5f1_0, q_gR q1 (k := 0) rfl, ob_s]
/-- the first n bytes, anew -/
theorem sY_range (h : isY m e cap T) (he : e < m.1) (hn : n ≤ cap) (hc : cap ≤ 1000) (hm : m.1 < 1000000) : ∃ m', jm_env (d + 3) 178 [.ref e, .int (i3 0), .int (i3 n)] m = some (.inl (some (.ref m.1)), m') ∧ isY m' m.1 n T ∧ m'.1 = m.1 + 1 ∧ frK m m' (fun _ => False) 5 := by
  obtain ⟨G, g1, g2⟩ := h
  have hl : jm_len m e = some cap := q_len (y := (cap, .inl G)) (by rw [g1]) (by decide) (by decide)
  have hg0 : ∀ j, j < cap → jm_by (G j) = true := fun j hj => by rw [(g2 j hj).1]; exact by_t (by have := (g2 j hj).2; omega) (g2 j hj).2.2
  rw [eJ7_copyOfRange_39247, bJ7_copyOfRange_39247_0, if_pos rfl, bJ7_copyOfRange_39247_4, hl, ob_s, i3_ofNat, ie_eq (by omega) (by omega) (by omega) (by omega)]
  by_cases g : (n : Int) = cap
  · have g : n = cap := by omega
    subst g
    have ecl : ∀ F, jm_cl m e F = F (jm_new m (.inl (9, n, .inl G)) n) := fun F => by
      unfold jm_cl
      rw [g1]
      show (if 9 = 9 ∧ (∀ k, k < n → jm_by (G k) = true) then jm_mk m (.inl (9, n, .inl G)) n F else none) = _
      rw [if_pos ⟨rfl, hg0⟩, q_mk hm]
    refine ⟨jm_new m (.inl (9, n, .inl G)) n, ?_, ⟨G, nw_at, g2⟩, rfl, nw_fk hm (by omega) (by omega)⟩
    rw [if_pos rfl, bJ7_copyOfRange_39247_17, ecl]
    have ec : jm_caO (jm_new m (.inl (9, n, .inl G)) n) m.1 9 = true := by
      unfold jm_caO
      rw [nw_at]
      rfl
    rw [if_pos ec]
  · have n1 : (jm_new m (.inl (9, n, .inl fun _ => 0)) n).2.1 e = .inl (9, cap, .inl G) := (if_neg (by omega)).trans g1
    have n2 : (jm_new m (.inl (9, n, .inl fun _ => 0)) n).2.1 m.1 = .inl (9, n, .inl fun _ => 0) := nw_at
    have hcp2 := q_cpB (m := jm_new m (.inl (9, n, .inl fun _ => 0)) n) (k := n) n1 n2 (by omega) hn (Nat.le_refl _) (by omega) (fun j hj => hg0 j (by omega))
    refine ⟨jm_up (jm_new m (.inl (9, n, .inl fun _ => 0)) n) m.1 (.inl (9, n, .inl (va_cpy G (fun _ => 0) 0 0 n))), ?_, ⟨_, if_pos rfl, fun j hj => ?_⟩, rfl, ?_⟩
    · rw [if_neg g, bJ7_copyOfRange_39247_10, eJ7_copyOfRangeByte_39247, bJ7_copyOfRangeByte_39247_0, eJ7_checkLength_df160, bJ7_checkLength_df160_0, ie_le (by omega) (by omega) (by omega) (by omega), if_pos (by omega), bJ7_checkLength_df160_37, ob_s, bV_v, i3_sub, Int.sub_zero, i3_nat (by omega) (by omega), if_neg (by rintro (t | t); exact i3_neg0 (by omega) (by omega) t; omega), Int.toNat_natCast, q_mk hm]
      rw [q_len (y := (cap, .inl G)) (by rw [n1]) (by decide) (by decide), ob_s, i3_ofNat, i3_sub, Int.sub_zero, ie_lt (by omega) (by omega) (by omega) (by omega), if_pos (by omega), hcp2, ob_s, ob_s, bR_w]
    · unfold va_cpy
      rw [if_pos (by omega), show 0 + (j - 0) = j by omega]
      exact g2 j (by omega)
    · exact frK_m (frK_u (k := 5) (j := 0) (nw_fk hm (by omega) (by omega)) (fr1_1 (a := m.1) ⟨rfl, rfl, fun j hj => if_neg hj⟩ (S := fun j => j = m.1) rfl) (fun j hj q => by omega)) (fun _ _ q => q) (Nat.le_refl _)
/-- the text as a String -/
theorem sSB_toS (h : isSB m b e cap n T) (hT : ∀ k, k < n → 0 ≤ T k ∧ T k < 128) (hm : m.1 < 900000) : ∃ m' s' e', jm_env (d + 6) 161 [.ref b] m = some (.inl (some (.ref s')), m') ∧ isT m' s' e' n T ∧ m.1 ≤ s' ∧ m.1 ≤ e' ∧ frK m m' (fun _ => False) 6 := by
  obtain ⟨⟨ml, q1⟩, -, -, -, qb, qe, -⟩ := id h
  have o1 : isO (jm_new m (.inr (14, [.null, .int 0, .int 0, .int 0])) 4) m.1 14 [.null, .int 0, .int 0, .int 0] := nw_at
  have fn : frK m (jm_new m (.inr (14, [.null, .int 0, .int 0, .int 0])) 4) (fun _ => False) 1 := nw_fk (by omega) (by omega) (by omega)
  generalize hmm : jm_new m (.inr (14, [.null, .int 0, .int 0, .int 0])) 4 = m1 at o1 fn
  have hm1 : m1.1 = m.1 + 1 := by rw [← hmm]; rfl
  have h1 : isSB m1 b e cap n T := isSB_fr h (by omega) (fn.2.2.2.2 _ (Or.inl qb) id) (fn.2.2.2.2 _ (Or.inl qe) id)
  obtain ⟨m2, e2, o2, f2⟩ := q_put (x := .int (i3 0)) o1 (k := 1) (by show 1 < 4; omega)
  obtain ⟨⟨ml1, u1⟩, ⟨T', y1, t1⟩, p1, p2, p3, p4, p5⟩ := id h1
  have y2 : isY m2 e cap T' := isY_fr y1 (f2.2.2 _ (by omega))
  have hm2 : m2.1 = m1.1 := f2.1
  obtain ⟨m3, r3, y3, n3, f3⟩ := sY_range (d := d) (n := n) y2 (by omega) p1 p2 (by omega)
  have o3 : isO m3 m.1 14 [.null, .int (i3 0), .int 0, .int 0] := (f3.2.2.2.2 _ (Or.inl (by omega)) id).trans o2
  obtain ⟨m4, e4, o4, f4⟩ := q_put (x := .ref m2.1) o3 (k := 0) (by show 0 < 4; omega)
  have y4 : isY m4 m2.1 n T := by
    obtain ⟨G, w1, w2⟩ := isY_fr y3 (f4.2.2 _ (by omega))
    exact ⟨G, w1, fun k hk => by rw [← t1 k hk]; exact w2 k hk⟩
  refine ⟨m4, m.1, m2.1, ?_, ⟨⟨0, 0, o4⟩, y4, by omega, by rw [f4.1]; omega, by rw [f4.1]; omega⟩, Nat.le_refl _, by omega, ?_⟩
  · have ev := sSB_val (d := d + 2) h1
    have el := sSB_lenV (d := d + 1) h1
    have ea := sSB_lat (d := d + 2) h1
    have em : jm_mk m (.inr (14, [.null, .int 0, .int 0, .int 0])) 4 = fun F => F m1 := by
      funext F
      rw [q_mk (by omega), hmm]
    rw [eJ4_toString_0e30d _ _ _ (q_C q1), bJ4_toString_0e30d_0, em]
    dsimp only
    rw [eJ0_init_81219 _ _ _ _ (q_C o1), bJ0_init_81219_0, eJ0_init_db425 _ _ _ _ (q_C o1), bJ0_init_db425_0, ev, ob_s, bR_w, el, ob_s, bI_v, ea, ob_s, bI_v, ie_eq (by omega) (by omega) (by omega) (by omega), if_neg (by omega), bJ0_init_db425_22, e2, ob_s, r3, ob_s, bR_w, e4, ob_s, bJ0_init_db425_97, ob_s, bV_v, ob_s, bV_v]
  · exact frK_m (frK_u (k := 6) (j := 0) (frK_u (k := 1) (j := 5) fn (fr1_S f2 (frK_m f3 (fun _ _ q => q.elim) (Nat.le_refl _)) (S := fun j => j = m.1) rfl) (fun j hj q => by omega)) (fr1_1 f4 (S := fun j => j = m.1) rfl) (fun j hj q => by omega)) (fun _ _ q => q) (Nat.le_refl _)
theorem isT_fr (h : isT m s e n T) (h1 : m.1 ≤ m'.1) (hs : m'.2.1 s = m.2.1 s) (he : m'.2.1 e = m.2.1 e) : isT m' s e n T := by
  obtain ⟨⟨u, uz, q1⟩, q2, q3, q4, q5⟩ := h
  exact ⟨⟨u, uz, hs.trans q1⟩, isY_fr q2 he, q3, by omega, by omega⟩
theorem sT_len (h : isT m s e n T) : jm_env (d + 2) 152 [.ref s] m = some (.inl (some (.int (i3 n))), m) := by
  obtain ⟨⟨u, uz, q1⟩, ⟨G, y1, y2⟩, q3, -⟩ := h
  have hl : jm_len m e = some n := q_len (y := (n, .inl G)) (by rw [y1]) (by decide) (by decide)
  have ec : jm_env (d + 1) 155 [.ref s] m = some (.inl (some (.int (i3 0))), m) := by
    rw [eJ0_coder_7d493 _ _ _ (q_C q1), bJ0_coder_7d493_0, ie_eq (by omega) (by omega) (by omega) (by omega), if_neg (by omega), bJ0_coder_7d493_6, q_gI q1 (k := 1) rfl, ob_s, bJ0_coder_7d493_14, if_pos (by_t (by omega) (by omega))]
  rw [eJ0_length_8abf5 _ _ _ (q_C q1), bJ0_length_8abf5_0, q_gR q1 (k := 0) rfl, ob_s, hl, ob_s, ec, ob_s, bI_v, i3_ofNat, i3_r0 (by omega) (by omega)]
theorem sT_at (h : isT m s e n T) {z : Int} {j : Nat} (hz : z = j) (hj : j < n) : jm_env (d + 2) 153 [.ref s, .int (i3 z)] m = some (.inl (some (.int (i3 (T j)))), m) := by
  obtain ⟨⟨u, uz, q1⟩, yy, q3, -⟩ := h
  obtain ⟨G, y1, y2⟩ := id yy
  have hT := (y2 j hj).2
  have hl : jm_len m e = some n := q_len (y := (n, .inl G)) (by rw [y1]) (by decide) (by decide)
  have ea := q_aY yy hz hj (by omega)
  have e1 : jm_env (d + 1) 156 [.ref s] m = some (.inl (some (.int (i3 1))), m) := by
    rw [eJ0_isLatin1_aae02 _ _ _ (q_C q1), bJ0_isLatin1_aae02_0, ie_eq (by omega) (by omega) (by omega) (by omega), if_neg (by omega), bJ0_isLatin1_aae02_6, q_gI q1 (k := 1) rfl, ob_s, if_pos rfl, bJ0_isLatin1_aae02_13, bJ0_isLatin1_aae02_18]
    rfl
  have eT : i3 (T j) &&& i3 255 = i3 (T j) := by
    rw [i3_a255]
    congr 1
    omega
  have eb : i3 0 ≤ i3 (T j) ∧ i3 (T j) < i3 65536 := by
    rw [i3_le (by omega) (by omega) (by omega) (by omega), i3_lt (by omega) (by omega) (by omega) (by omega)]
    omega
  have e2 : jm_env (d + 1) 164 [.ref e, .int (i3 z)] m = some (.inl (some (.int (i3 (T j)))), m) := by
    rw [eJ1_charAt_3b067, bJ1_charAt_3b067_0, hl, ob_s, i3_ofNat, if_pos (by rw [i3_le (by omega) (by omega) (by omega) (by omega), i3_lt (by omega) (by omega) (by omega) (by omega)]; omega), ea, ob_s, eT, if_pos eb, if_pos eb]
  rw [eJ0_charAt_5068e _ _ _ _ (q_C q1), bJ0_charAt_5068e_0, e1, ob_s, bI_v, ie_eq (by omega) (by omega) (by omega) (by omega), if_neg (by omega), bJ0_charAt_5068e_7, q_gR q1 (k := 0) rfl, ob_s, e2, ob_s, bI_v, if_pos eb]
end LWX
