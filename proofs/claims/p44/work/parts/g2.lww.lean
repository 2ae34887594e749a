-- uses 24.zar 25.obj 26.ops 31.re 34.gen 41.bit 07.rel 75.wra e0.lwa e1.lwb e2.lwc f3.lwn g0.lwu g1.lwv
/-! What is put behind a text. -/
section LWW
variable {m m' : jm_Mem} {d b e cap n L a : Nat} {T S : Nat → Int}
theorem gS_c (h : isK m a L S) : ∃ f : Nat → Int32, jm_gS m a = some (L, f) ∧ ∀ k, k < L → f k = i3 (S k) ∧ 0 ≤ S k ∧ S k < 128 := by
  obtain ⟨-, f, h2, h3⟩ := h
  refine ⟨f, ?_, h3⟩
  unfold jm_gS
  rw [h2]
  exact if_pos rfl
/-- .. a constant -/
theorem sSB_str (h : isSB m b e cap n T) (hk : isK m a L S) (hn : n + L ≤ 480) (hm : m.1 < 900000) : ∃ m' e' cap', jm_env (d + 5) 158 [.ref b, .ref a] m = some (.inl (some (.ref b)), m') ∧ isSB m' b e' cap' (n + L) (apT T n S) ∧ (e' = e ∨ m.1 ≤ e') ∧ frK m m' (fun j => j = b ∨ j = e) 5 := by
  obtain ⟨⟨ml, q1⟩, -⟩ := id h
  obtain ⟨f, g1, g2⟩ := gS_c hk
  obtain ⟨m1, e1, cap1, r1, h1, c1, l1, f1⟩ := sSB_ens (d := d) h (k := (n : Int) + L) (by omega) (by omega) (by omega)
  have hk1 : isK m1 a L S := isK_fr hk (f1.2.2.2.2 a (Or.inr hk.1) (fun q => by have := hk.1; have := h.2.2.2.2.1; omega))
  obtain ⟨⟨ml1, o1⟩, ⟨T', ⟨G, y1, y2⟩, t1⟩, p1, p2, p3, p4, p5⟩ := id h1
  obtain ⟨f', g1', g2'⟩ := gS_c hk1
  obtain ⟨-, ff, k2, k3⟩ := id hk1
  have hff : ff = f' := by
    unfold jm_gS at g1'
    rw [k2] at g1'
    have : (some (L, ff) : Option (Nat × (Nat → Int32))) = some (L, f') := g1'
    cases this
    rfl
  have egtb : jm_gtb m1 a e1 (i3 n) (i3 0) = some (jm_up m1 e1 (.inl (9, cap1, .inl (va_cpy ff G 0 n L)))) := by
    unfold jm_gtb
    rw [k2, y1]
    show (if 7 = 7 ∧ 9 = 9 ∧ i3 0 = 0 ∧ ¬ i3 (n : Int) < 0 ∧ (i3 (n : Int)).toNatClampNeg + L ≤ cap1 then some (jm_up m1 e1 (.inl (9, cap1, .inl (va_cpy ff G 0 (i3 (n : Int)).toNatClampNeg L)))) else none) = _
    have ek : (i3 (n : Int)).toNatClampNeg = n := by rw [i3_nat (by omega) (by omega)]; omega
    rw [ek, if_pos ⟨rfl, rfl, rfl, i3_neg0 (by omega) (by omega), by omega⟩]
  have e147 : jm_env (d + 2) 147 [.ref b, .ref a] m1 = some (.inl none, m1) := by
    rw [eJ5_inflateIfNeededFor_a7421 _ _ _ _ (q_C o1), bJ5_inflateIfNeededFor_a7421_0, ie_eq (by omega) (by omega) (by omega) (by omega), if_neg (by omega), bJ5_inflateIfNeededFor_a7421_6, q_gI o1 (k := 1) rfl, ob_s, g1', ob_s, if_pos rfl, bJ5_inflateIfNeededFor_a7421_21]
  generalize hm2 : jm_up m1 e1 (.inl (9, cap1, .inl (va_cpy ff G 0 n L))) = m2 at egtb
  have e148 : jm_env (d + 3) 148 [.ref b, .int (i3 n), .ref a] m1 = some (.inl none, m2) := by
    rw [eJ5_putStringAt_47b60 _ _ _ _ _ (q_C o1), bJ5_putStringAt_47b60_0, e147, ob_s, bV_v, q_gR o1 (k := 0) rfl, ob_s, q_gI o1 (k := 1) rfl, ob_s, egtb, ob_s]
  have f2 : fr1 m1 m2 e1 := by rw [← hm2]; exact ⟨rfl, rfl, fun j hj => if_neg hj⟩
  have o2 : isO m2 b 15 [.ref e1, .int (i3 0), .int ml1, .int (i3 n)] := isO_fr o1 (f2.2.2 _ (by omega))
  obtain ⟨m3, e3, o3, f3⟩ := q_put (x := .int (i3 ((n : Int) + L))) o2 (k := 3) (by show 3 < 4; omega)
  have y3 : m3.2.1 e1 = .inl (9, cap1, .inl (va_cpy ff G 0 n L)) := by rw [f3.2.2 _ p5, ← hm2]; exact if_pos rfl
  have f15 := f1.1
  have f15' := f1.2.1
  have hem := h.2.2.2.2.2.1
  refine ⟨m3, e1, cap1, ?_, ⟨⟨ml1, o3⟩, ⟨fun j => if n ≤ j ∧ j < n + L then S (j - n) else T' j, ⟨_, y3, fun j hj => ?_⟩, fun j hj => ?_⟩, by omega, p2, by rw [f3.1, f2.1]; omega, by rw [f3.1, f2.1]; omega, p5⟩, l1, ?_⟩
  · rw [eJ4_append_15ec4 _ _ _ _ (q_C q1), bJ4_append_15ec4_0, eJ5_append_cf1ce _ _ _ _ (q_C q1), bJ5_append_cf1ce_0, bJ5_append_cf1ce_9, g1, ob_s, q_gI q1 (k := 3) rfl, ob_s, i3_ofNat, i3_add, r1, ob_s, bV_v, q_gI o1 (k := 3) rfl, ob_s, e148, ob_s, bV_v, q_gI o2 (k := 3) rfl, ob_s, i3_add, e3, ob_s, ob_s, bR_w]
  · unfold va_cpy
    dsimp only
    by_cases c : n ≤ j ∧ j < n + L
    · rw [if_pos c, if_pos c, Nat.zero_add]
      exact k3 _ (by omega)
    · rw [if_neg c, if_neg c]
      exact y2 j hj
  · unfold apT
    dsimp only
    by_cases c : j < n
    · rw [if_pos c, if_neg (by omega)]
      exact t1 j c
    · rw [if_neg c, if_pos (by omega)]
  · refine frK_m (frK_u (frK_m f1 (fun _ _ q => Or.inl q) (Nat.le_refl _)) (fr1_S (k := 0) f2 (fr1_1 f3 (S := fun j => j = b ∨ j = e1) (Or.inl rfl)) (Or.inr rfl)) (fun j hj q => ?_)) (fun _ _ q => q) (Nat.le_refl _)
    rcases q with q | q
    · exact Or.inl q
    · rcases l1 with u | u
      · exact Or.inr (q.trans u)
      · omega
/-- .. a letter -/
theorem sSB_chr (h : isSB m b e cap n T) {z : Int} (z0 : 0 ≤ z) (z1 : z < 128) (hn : n + 1 ≤ 480) (hm : m.1 < 900000) : ∃ m' e' cap', jm_env (d + 5) 159 [.ref b, .int (i3 z)] m = some (.inl (some (.ref b)), m') ∧ isSB m' b e' cap' (n + 1) (apT T n (fun _ => z)) ∧ (e' = e ∨ m.1 ≤ e') ∧ frK m m' (fun j => j = b ∨ j = e) 5 := by
  obtain ⟨⟨ml, q1⟩, -⟩ := id h
  obtain ⟨m1, e1, cap1, r1, h1, c1, l1, f1⟩ := sSB_ens (d := d) h (k := (n : Int) + 1) (by omega) (by omega) (by omega)
  obtain ⟨⟨ml1, o1⟩, ⟨T', y1, t1⟩, p1, p2, p3, p4, p5⟩ := id h1
  have hla := sSB_lat (d := d + 2) h1
  obtain ⟨m2, e2, o2, f2⟩ := q_put (x := .int (i3 ((n : Int) + 1))) o1 (k := 3) (by show 3 < 4; omega)
  have ez : Int8.toInt32 (Int32.toInt8 (i3 z)) = i3 z := by
    rw [← Int32.toInt_inj, Int8.toInt_toInt32, i3_toInt (by omega) (by omega)]
    show (Int32.toInt8 (Int32.ofInt z)).toInt = z
    rw [Int32.toInt8_ofInt, Int8.toInt_ofInt_of_le (by omega) (by omega)]
  have y2 : isY m2 e1 cap1 T' := isY_fr y1 (f2.2.2 _ p5)
  obtain ⟨m3, e3, y3, f3⟩ := q_wY (z := (n : Int)) (y := z) y2 rfl (by omega) (by omega) z0 z1
  have o3 := isO_fr o2 (f3.2.2 _ (fun q => p5 q.symm))
  have ecan : jm_env (d + 3) 165 [.int (i3 z)] m1 = some (.inl (some (.int (i3 1))), m1) := by
    rw [eJ1_canEncode_fc78d, bJ1_canEncode_fc78d_0, ie_lt (by omega) (by omega) (by omega) (by omega), if_neg (by omega), bJ1_canEncode_fc78d_7, bJ1_canEncode_fc78d_12]
    rfl
  have f15 := f1.1
  have f15' := f1.2.1
  have hem := h.2.2.2.2.2.1
  refine ⟨m3, e1, cap1, ?_, ⟨⟨ml1, o3⟩, ⟨_, y3, fun j hj => ?_⟩, by omega, p2, by rw [f3.1, f2.1]; omega, by rw [f3.1, f2.1]; omega, p5⟩, l1, ?_⟩
  · rw [eJ4_append_cf468 _ _ _ _ (q_C q1), bJ4_append_cf468_0, eJ5_append_3fe6f _ _ _ _ (q_C q1), bJ5_append_3fe6f_0, q_gI q1 (k := 3) rfl, ob_s, i3_add, r1, ob_s, bV_v, hla, ob_s, bI_v, ie_eq (by omega) (by omega) (by omega) (by omega), if_neg (by omega), bJ5_append_3fe6f_17, ecan, ob_s, bI_v, ie_eq (by omega) (by omega) (by omega) (by omega), if_neg (by omega), bJ5_append_3fe6f_24, q_gR o1 (k := 0) rfl, ob_s, q_gI o1 (k := 3) rfl, ob_s, i3_add, e2, ob_s, ez, e3, ob_s, bJ5_append_3fe6f_75, ob_s, bR_w]
  · unfold uT apT
    by_cases c : j < n
    · rw [if_pos c, if_neg (by omega)]
      exact t1 j c
    · rw [if_neg c, if_pos (by omega)]
  · refine frK_m (frK_u (frK_m f1 (fun _ _ q => Or.inl q) (Nat.le_refl _)) (fr1_S (k := 0) f2 (fr1_1 f3 (S := fun j => j = b ∨ j = e1) (Or.inr rfl)) (Or.inl rfl)) (fun j hj q => ?_)) (fun _ _ q => q) (Nat.le_refl _)
    rcases q with q | q
    · exact Or.inl q
    · rcases l1 with u | u
      · exact Or.inr (q.trans u)
      · omega
/-- .. a number -/
theorem sSB_num (h : isSB m b e cap n T) {z : Int} (z0 : 0 ≤ z) (z1 : z < 1000) (hn : n + 3 ≤ 480) (hm : m.1 < 900000) (d1 : m.2.1 jm_dgt = jm_dgE (fun i => i / 10)) (d2 : m.2.1 jm_dgo = jm_dgE (fun i => i % 10)) : ∃ m' e' cap', jm_env (d + 5) 160 [.ref b, .int (i3 z)] m = some (.inl (some (.ref b)), m') ∧ isSB m' b e' cap' (n + dL z) (apT T n (fun k => (dg z).getD k 0)) ∧ (e' = e ∨ m.1 ≤ e') ∧ frK m m' (fun j => j = b ∨ j = e) 5 := by
  have hL : 1 ≤ dL z ∧ dL z ≤ 3 := by unfold dL; split; omega; split <;> omega
  obtain ⟨⟨ml, q1⟩, -, -, -, qb, -⟩ := id h
  obtain ⟨m1, e1, cap1, r1, h1, c1, l1, f1⟩ := sSB_ens (d := d) h (k := (n : Int) + dL z) (by omega) (by omega) (by omega)
  obtain ⟨⟨ml1, o1⟩, ⟨T', y1, t1⟩, p1, p2, p3, p4, p5⟩ := id h1
  have hla := sSB_lat (d := d + 2) h1
  have g1 : 1000000 ≤ jm_dgt := by decide
  have g2 : 1000000 ≤ jm_dgo := by decide
  have f15 := f1.1
  have f15' := f1.2.1
  have hem := h.2.2.2.2.2.1
  have hsz := sJ_size (d := d + 2) (m := m) z0 z1
  obtain ⟨m2, e2, y2, f2⟩ := sJ_getChars (d := d + 2) (n := n) y1 (by omega) z0 z1 (by omega) ⟨by rcases l1 with u | u <;> omega, by rcases l1 with u | u <;> omega⟩ ((f1.2.2.2.2 _ (Or.inr g1) (fun q => by omega)).trans d1) ((f1.2.2.2.2 _ (Or.inr g2) (fun q => by omega)).trans d2)
  have o2 := isO_fr o1 (f2.2.2 _ (fun q => p5 q.symm))
  obtain ⟨m3, e3, o3, f3⟩ := q_put (x := .int (i3 ((n : Int) + dL z))) o2 (k := 3) (by show 3 < 4; omega)
  refine ⟨m3, e1, cap1, ?_, ⟨⟨ml1, o3⟩, ⟨_, isY_fr y2 (f3.2.2 _ p5), fun j hj => ?_⟩, by omega, p2, by rw [f3.1, f2.1]; omega, by rw [f3.1, f2.1]; omega, p5⟩, l1, ?_⟩
  · rw [eJ4_append_bf812 _ _ _ _ (q_C q1), bJ4_append_bf812_0, eJ5_append_c97b9 _ _ _ _ (q_C q1), bJ5_append_c97b9_0, q_gI q1 (k := 3) rfl, ob_s, hsz, ob_s, bI_v, i3_add, r1, ob_s, bV_v, hla, ob_s, bI_v, ie_eq (by omega) (by omega) (by omega) (by omega), if_neg (by omega), bJ5_append_c97b9_24, q_gR o1 (k := 0) rfl, ob_s, e2, ob_s, bI_v, bJ5_append_c97b9_48, e3, ob_s, ob_s, bR_w]
  · unfold apT
    dsimp only
    by_cases c : j < n
    · rw [if_pos c, if_neg (by omega)]
      exact t1 j c
    · rw [if_neg c, if_pos (by omega)]
  · refine frK_m (frK_u (frK_m f1 (fun _ _ q => Or.inl q) (Nat.le_refl _)) (fr1_S (k := 0) f2 (fr1_1 f3 (S := fun j => j = b ∨ j = e1) (Or.inl rfl)) (Or.inr rfl)) (fun j hj q => ?_)) (fun _ _ q => q) (Nat.le_refl _)
    rcases q with q | q
    · exact Or.inl q
    · rcases l1 with u | u
      · exact Or.inr (q.trans u)
      · omega
end LWW
