-- uses 24.zar 25.obj 26.ops 30.rd 31.re 34.gen 38.mod 46.mo8 51.moe 55.clc 74.cls 75.wra d8.frm d9.frn e0.lwa e1.lwb e2.lwc e3.lwd e4.lwe e8.lwi f0.lwk f1.lwl f4.lwo f7.lwr g0.lwu g1.lwv g2.lww g4.lwy g5.lwz g8.lxc g9.lxd h0.lxe h1.lxf h2.lxg h3.lxh
/-! The series, one after another. -/
/-- what is known of the series so far -/
def okE (E R : Int) (L : seL) : Prop := oL L ∧ srV (muE E R) L 412 0 = L.length ∧ (∀ k : Int, 12 + 13 * (L.length : Int) ≤ k → k < 77 → srV (muE E R) L 412 k = 0) ∧ (suT E R L).length ≤ 12 + 127 * L.length ∧ (∀ e ∈ L, ∀ x ∈ e.2.2, (0 ≤ x.1 ∧ x.1 < 10) ∧ 0 ≤ x.2 ∧ x.2 < 30)
section LXI
variable {m m' : jm_Mem} {X : Nat × (Nat → Int32)} {v w μ : Nat → Int → Int} {P : Nat → Nat} {g b e d : Nat} {E R : Int} {L : seL}
theorem oL_a {ws hs : Int} {l : List (Int × Int)} (h : oL L) (w0 : 1 ≤ ws) (w1 : ws ≤ 240) (h0 : 1 ≤ hs) (h1 : hs ≤ 240) (hl : okl (ws, hs) l 10) : oL (L ++ [(ws, hs, l)]) := by
  intro A w' h' l' C hC
  rcases List.append_eq_append_iff.mp hC with ⟨D, q1, q2⟩ | ⟨D, q1, q2⟩
  · cases D with
    | nil =>
      have q2 : [(ws, hs, l)] = (w', h', l') :: C := q2
      cases q2
      obtain ⟨o1, o2, o3, o4⟩ := hl
      exact ⟨⟨w0, by omega⟩, ⟨h0, by omega⟩, by omega, fun e he => by obtain ⟨⟨x1, x2⟩, ⟨x3, x4⟩, x5⟩ := o1 e he; exact ⟨⟨x1, by omega⟩, ⟨x3, by omega⟩, x5⟩, o2⟩
    | cons y D =>
      have q2 : [(ws, hs, l)] = y :: (D ++ (w', h', l') :: C) := q2
      have := congrArg List.length q2
      simp at this
  · cases D with
    | nil =>
      have q2 : (w', h', l') :: C = [(ws, hs, l)] := q2
      cases q2
      obtain ⟨o1, o2, o3, o4⟩ := hl
      exact ⟨⟨w0, by omega⟩, ⟨h0, by omega⟩, by omega, fun e he => by obtain ⟨⟨x1, x2⟩, ⟨x3, x4⟩, x5⟩ := o1 e he; exact ⟨⟨x1, by omega⟩, ⟨x3, by omega⟩, x5⟩, o2⟩
    | cons y D =>
      have q2 : (w', h', l') :: C = y :: (D ++ [(ws, hs, l)]) := q2
      have q3 : y = (w', h', l') := by cases q2; rfl
      rw [q3] at q1
      exact h A w' h' l' D q1
theorem suT_a {ws hs : Int} {l : List (Int × Int)} : ((((((suT E R L ++ kL 5) ++ [97 + (L.length : Int)]) ++ [32]) ++ dg ws) ++ [32]) ++ dg hs) ++ szT l = suT E R (L ++ [(ws, hs, l)]) := by
  unfold suT
  rw [seT_a, kL_5, Nat.zero_add]
  simp only [List.append_assoc, List.cons_append, List.nil_append]
theorem okE_a {ws hs : Int} {l : List (Int × Int)} (h : okE E R L) (w0 : 1 ≤ ws) (w1 : ws ≤ 240) (h0 : 1 ≤ hs) (h1 : hs ≤ 240) (hl : okl (ws, hs) l 10) : okE E R (L ++ [(ws, hs, l)]) := by
  obtain ⟨a1, a2, a3, a4, a5⟩ := h
  have hb : ∀ e ∈ l, 0 ≤ e.1 ∧ e.1 ≤ 9 := fun e he => by have := (hl.1 e he).1; omega
  have c0 : 0 ≤ srV (muE E R) L 412 0 := by omega
  refine ⟨oL_a a1 w0 w1 h0 h1 hl, ?_, fun k k0 k1 => ?_, ?_, fun e he x hx => ?_⟩
  · rw [srV_a, szV_o l _ hb (by omega), cm_0 c0, a2, List.length_append]
    rfl
  · rw [List.length_append] at k0
    have k0 : 12 + 13 * ((L.length + 1 : Nat) : Int) ≤ k := k0
    rw [srV_a, szV_o l _ hb (by omega), cm_o (by omega) (by omega)]
    exact a3 k (by omega) k1
  · have d1 : (dg ws).length ≤ 3 := by rw [dg_L (by omega) (by omega)]; unfold dL; split; omega; split <;> omega
    have d2 : (dg hs).length ≤ 3 := by rw [dg_L (by omega) (by omega)]; unfold dL; split; omega; split <;> omega
    have o3 := hl.2.2.1
    have o4 := hl.2.2.2
    rw [← suT_a, kL_5]
    simp only [List.length_append, List.length_cons, List.length_nil]
    have d5 : wSeries.length = 6 := rfl
    omega
  · rcases List.mem_append.mp he with he | he
    · exact a5 e he x hx
    · rw [List.mem_singleton.mp he] at hx
      have := hl.1 x hx
      exact ⟨by omega, this.2.1⟩
theorem IB_K2 {S : Nat → Prop} {i K k : Nat} {TL : List Int} (h : IB m X v w P i K g b e E R μ TL) (f : frK m m' S k) (hS : ∀ j, S j → (411 ≤ j ∧ j < 1000000) ∧ j ≠ g ∧ j ≠ b ∧ j ≠ e ∧ ∀ q, q < 4 + 4 * K → P q ≠ j) : IB m' X v w P i K g b e E R μ TL := by
  obtain ⟨h1, ⟨u, h2⟩, h3, h4, ⟨cap, h5⟩, h6⟩ := h
  obtain ⟨a1, a2, a3, a4, a5, a6, a7, a8, a9, a10⟩ := id h3
  have g1 := f.1
  exact ⟨CR_fr h1 f h6 (fun j q => (hS j q).1), ⟨u, isA_fr h2 (f.2.2.2.2 g (Or.inl a3.2) fun q => (hS g q).2.1 rfl)⟩, nmI_m h3 g1, LHq_fr h4 g1 (fun j hj => f.2.2.2.2 _ (nmI_old h3 hj) fun q => (hS _ q).2.2.2.2 j hj rfl), ⟨cap, isSB_fr h5 g1 (f.2.2.2.2 b (Or.inl a4.2) fun q => (hS b q).2.2.1 rfl) (f.2.2.2.2 e (Or.inl a5.2) fun q => (hS e q).2.2.2.1 rfl)⟩, by omega⟩
theorem IB_serie {i : Nat} {a4 : Int} {x5 x6 : Option Value} (h : IB m X v w P i i g b e E R (srV (muE E R) L) (suT E R L)) (hi : L.length = i) (i2 : i ≤ 2) (ho : okE E R L) (hm : m.1 < 500000) (h4 : 1 ≤ a4) (h4' : a4 ≤ 10) :
    ∃ m' P' e' ws hs l y5 y6, jm_R (jm_env (d + 5)) jmM_L_begins 68 [some (.ref 0), some (.ref g), some (.ref (P 0)), some (.ref b), some (.int (i3 a4)), x5, x6] [] m = jm_R (jm_env (d + 5)) jmM_L_begins 68 [some (.ref 0), some (.ref g), some (.ref (P 0)), some (.ref b), some (.int (i3 (a4 - 1))), y5, y6] [] m' ∧ P' 0 = P 0 ∧ IB m' X v w P' (i + 1) (i + 1) g b e' E R (srV (muE E R) (L ++ [(ws, hs, l)])) (suT E R (L ++ [(ws, hs, l)])) ∧ okE E R (L ++ [(ws, hs, l)]) ∧ bd m m' 300 := by
  obtain ⟨oo1, oo2, oo3, oo4, oo5⟩ := id ho
  have hN := h.2.2.1
  have F1 : frK m (jm_new m (.inr (12, [.null, .null, .null])) 3) (fun _ => False) 1 := nw_fr (by omega) (by omega)
  have O1 : isO (jm_new m (.inr (12, [.null, .null, .null])) 3) m.1 12 [.null, .null, .null] := nw_at
  generalize hm1 : jm_new m (.inr (12, [.null, .null, .null])) 3 = m1 at F1 O1
  have n1 : m1.1 = m.1 + 1 := by rw [← hm1]; rfl
  have b1 := IB_K h (by omega) F1 (fun _ q => q.elim)
  have g0 := hN.2.2.1
  obtain ⟨ws, m2, r2, w0, w1, b2, f2⟩ := IB_side (d := d + 3) b1 (by omega)
  have O2 := isO_fr O1 (f2.2.2 m.1 (by omega))
  obtain ⟨hs, m3, r3, h0, h1, b3, f3⟩ := IB_side (d := d + 3) b2 (by rw [f2.1]; omega)
  have O3 := isO_fr O2 (f3.2.2 m.1 (by omega))
  have n3 : m3.1 = m.1 + 1 := by rw [f3.1, f2.1, n1]
  obtain ⟨m4, r4, S4, n4, F4⟩ := sX12_init (d := d + 4) O3 (by omega) w0 (by omega : ws ≤ 2000) h0 (by omega : hs ≤ 2000) (by omega)
  have hdc : 1000000 ≤ jm_dcp := by decide
  have hPs : ∀ q, q < 4 + 4 * i → (q ≠ 2 ∨ 1 ≤ i) → P q < m.1 := fun q hq hk => (hN.1 q hq hk).2
  have b4 := IB_K2 b3 F4 (fun j q => by
    have e1 : j = m.1 := q
    refine ⟨by have := hN.2.2.1; omega, by have := hN.2.2.1; omega, by have := hN.2.2.2.1; omega, by have := hN.2.2.2.2.1; omega, fun q hq t => ?_⟩
    by_cases c : q ≠ 2 ∨ 1 ≤ i
    · have := hPs q hq c; omega
    · have : q = 2 ∧ i = 0 := by omega
      rw [this.1, hN.2.2.2.2.2.2.2.2.2 this.2] at t
      omega)
  rw [n3] at S4
  have b5 := IB_ext (x := (i : Int) + 1) b4 (s := m.1) (ws := ws) (hs := hs) S4 (by omega) (by omega) (fun j hj => hPs j hj.1 hj.2) (by have := hN.2.2.1; have := hN.2.2.2.1; have := hN.2.2.2.2.1; omega) (by have := hN.2.2.1; omega) (by rw [oo2, hi]) (fun k k0 k1 => oo3 k (by omega) (by omega))
  have eP : ∀ j, j < 4 → exP P i m.1 j = P j := fun j hj => if_neg (by omega)
  have eS : exP P i m.1 (4 + 4 * i) = m.1 := (if_pos (by omega)).trans (by omega)
  have mu0 : srV (muE E R) L 412 0 = i := by rw [oo2, hi]
  have hsz : ∀ n : Int, szM (cmV (srV (muE E R) L) ((i : Int) + 1) ws hs) i n = hv (ws, hs) n.toNat := fun n => by
    unfold szM
    rw [← mu0, cm_1 (by omega), cm_2 (by omega)]
  generalize hP1 : exP P i m.1 = P1 at b5 eP eS
  generalize hmc : cmV (srV (muE E R) L) ((i : Int) + 1) ws hs = μc at b5 hsz
  have d1 : (dg ws).length ≤ 3 := by rw [dg_L (by omega) (by omega)]; unfold dL; split; omega; split <;> omega
  have d2 : (dg hs).length ≤ 3 := by rw [dg_L (by omega) (by omega)]; unfold dL; split; omega; split <;> omega
  have k5 : (kL 5).length = 8 := by rw [kL_5]; rfl
  obtain ⟨m6, e6, r6, b6, c6⟩ := IB_str (d := d) b5 (k := 5) (by omega) (by omega) (by omega)
  have m6b := c6.2.1
  obtain ⟨m7, e7, r7, b7, c7⟩ := IB_chr (d := d) b6 (z := 97 + (i : Int)) (by omega) (by omega) (by rw [List.length_append, k5]; omega) (by omega)
  have m7b := c7.2.1
  obtain ⟨m8, e8, r8, b8, c8⟩ := IB_chr (d := d) b7 (z := 32) (by omega) (by omega) (by rw [List.length_append, List.length_append, k5]; show _ + 8 + 1 + 1 ≤ 480; omega) (by omega)
  have m8b := c8.2.1
  obtain ⟨m9, e9, r9, b9, c9⟩ := IB_num (d := d) b8 (z := ws) (by omega) (by omega) (by rw [List.length_append, List.length_append, List.length_append, k5]; show _ + 8 + 1 + 1 + 3 ≤ 480; omega) (by omega)
  have m9b := c9.2.1
  obtain ⟨m10, e10, r10, b10, c10⟩ := IB_chr (d := d) b9 (z := 32) (by omega) (by omega) (by rw [List.length_append, List.length_append, List.length_append, List.length_append, k5]; show _ + 8 + 1 + 1 + _ + 1 ≤ 480; omega) (by omega)
  have m10b := c10.2.1
  obtain ⟨m11, e11, r11, b11, c11⟩ := IB_num (d := d) b10 (z := hs) (by omega) (by omega) (by rw [List.length_append, List.length_append, List.length_append, List.length_append, List.length_append, k5]; show _ + 8 + 1 + 1 + _ + 1 + 3 ≤ 480; omega) (by omega)
  have m11b := c11.2.1
  have plen : (((((suT E R L ++ kL 5 ++ [97 + (i : Int)]) ++ [32]) ++ dg ws) ++ [32]) ++ dg hs).length ≤ 300 := by
    rw [List.length_append, List.length_append, List.length_append, List.length_append, List.length_append, List.length_append, k5]
    show _ + 8 + 1 + 1 + _ + 1 + _ ≤ 300
    omega
  obtain ⟨m12, e12, l, r12, b12, o12, c12⟩ := IB_sizes (d := d) (a4 := a4) w0 (by omega : ws ≤ 2000) h0 (by omega : hs ≤ 2000) plen hsz b11 (by omega) 10 (Nat.le_refl _)
  have m12b := c12.2.1
  obtain ⟨m13, e13, r13, b13, c13⟩ := IB_add (d := d) b12 (by omega) (by omega)
  have bb1 : bd m m1 1 := bd_K F1
  have bb4 : bd m m4 (1 + (0 + (0 + 3))) := bd_t bb1 (bd_t (bd_1 f2) (bd_t (bd_1 f3) (bd_K F4)))
  have emu : szV μc i l = srV (muE E R) (L ++ [(ws, hs, l)]) := by rw [srV_a, mu0, hmc]
  have etx : (((((suT E R L ++ kL 5 ++ [97 + (i : Int)]) ++ [32]) ++ dg ws) ++ [32]) ++ dg hs) ++ szT l = suT E R (L ++ [(ws, hs, l)]) := by rw [← suT_a, hi]
  rw [emu, etx] at b13
  refine ⟨m13, setP P1 e13, e12, ws, hs, l, some (.ref m.1), some (.int (i3 1)), ?_, by rw [← eP 0 (by omega)]; exact if_neg (by omega), b13, okE_a ho w0 w1 h0 h1 o12, bd_m (bd_t bb4 (bd_t c6 (bd_t c7 (bd_t c8 (bd_t c9 (bd_t c10 (bd_t c11 (bd_t c12 c13)))))))) (by omega)⟩
  obtain ⟨o6, ⟨cq6, l6⟩, -, -⟩ := b6.2.2.2.1
  have hsize := sAL_size (d := d + 4) l6
  have s8 := b8.2.2.2.1.2.2.2 i (by omega)
  have s10 := b10.2.2.2.1.2.2.2 i (by omega)
  have o12' := b12.2.2.2.1.1
  rw [eS] at s8 s10
  rw [eS] at r12 r13
  rw [eP 0 (by omega)] at o6 r12 o12'
  have aw : jm_aI m8 (P1 (5 + 4 * i)) (i3 0) = some (i3 ws) := by
    rw [q_aI s8.2.1 (z := 0) (by omega) (by omega) (by omega)]
    show some (i3 (szM μc i 0).1) = _
    rw [hsz]
    rfl
  have ah : jm_aI m10 (P1 (6 + 4 * i)) (i3 0) = some (i3 hs) := by
    rw [q_aI s10.2.2.1 (z := 0) (by omega) (by omega) (by omega)]
    show some (i3 (szM μc i 0).2) = _
    rw [hsz]
    rfl
  have hsr : jm_str + 5 = 1099511627781 := rfl
  rw [hsr] at r6
  rw [bL_begins_68, ie_le (by omega) (by omega) (by omega) (by omega), if_neg (by omega), bL_begins_73, q_mk (by omega), hm1, r2, ob_s, bI_v, r3, ob_s, bI_v, r4, ob_s, bV_v, r6, ob_s, bR_w, q_gR o6 (k := 0) rfl, ob_s, hsize, ob_s, bI_v, i3_add, if_pos (by rw [i3_le (by omega) (by omega) (by omega) (by omega), i3_lt (by omega) (by omega) (by omega) (by omega)]; omega), r7, ob_s, bR_w, r8, ob_s, bR_w, q_gR s8.1 (k := 0) rfl, ob_s, aw, ob_s, r9, ob_s, bR_w, r10, ob_s, bR_w, q_gR s10.1 (k := 1) rfl, ob_s, ah, ob_s, r11, ob_s, bR_w]
  refine r12.trans ?_
  rw [bL_begins_146, ie_le (by omega) (by omega) (by omega) (by omega), if_pos (by omega), bL_begins_224, q_gR o12' (k := 0) rfl, ob_s, r13, ob_s, bI_v, i3_add]
  rfl
end LXI
