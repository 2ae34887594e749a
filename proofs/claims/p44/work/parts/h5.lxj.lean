-- uses 24.zar 25.obj 26.ops 30.rd 31.re 34.gen 38.mod 46.mo8 51.moe 55.clc 74.cls 75.wra 07.rel d8.frm d9.frn e0.lwa e1.lwb e2.lwc e3.lwd e4.lwe e8.lwi f0.lwk f1.lwl f4.lwo f7.lwr g0.lwu g1.lwv g2.lww g3.lwx g4.lwy g5.lwz g7.lxb g8.lxc g9.lxd h0.lxe h1.lxf h2.lxg h3.lxh h4.lxi
/-! A land begun: its text and its series. -/
section LXJ
variable {m m' : jm_Mem} {X : Nat × (Nat → Int32)} {v w μ : Nat → Int → Int} {d g : Nat} {E R : Int}
theorem IB_series : ∀ (c i : Nat) {m : jm_Mem} {P : Nat → Nat} {b e : Nat} {L : seL} {x5 x6 : Option Value}, IB m X v w P i i g b e E R (srV (muE E R) L) (suT E R L) → L.length = i → i + c ≤ 3 → okE E R L → m.1 + 300 * c < 500000 →
    ∃ m' P' e' L' y5 y6, jm_R (jm_env (d + 5)) jmM_L_begins 68 [some (.ref 0), some (.ref g), some (.ref (P 0)), some (.ref b), some (.int (i3 (c : Int))), x5, x6] [] m = jm_R (jm_env (d + 5)) jmM_L_begins 68 [some (.ref 0), some (.ref g), some (.ref (P 0)), some (.ref b), some (.int (i3 0)), y5, y6] [] m' ∧ P' 0 = P 0 ∧ IB m' X v w P' (i + c) (i + c) g b e' E R (srV (muE E R) L') (suT E R L') ∧ okE E R L' ∧ L'.length = i + c ∧ bd m m' (300 * c) := by
  intro c
  induction c with
  | zero => intro i m P b e L x5 x6 h hi hc ho hm; exact ⟨m, P, e, L, x5, x6, rfl, rfl, h, ho, hi, bd_0⟩
  | succ c ih =>
    intro i m P b e L x5 x6 h hi hc ho hm
    obtain ⟨m1, P1, e1, ws, hs, l, y5, y6, r1, p1, b1, o1, d1⟩ := IB_serie (d := d) (a4 := ((c + 1 : Nat) : Int)) (x5 := x5) (x6 := x6) h hi (by omega) ho (by omega) (by omega) (by omega)
    have hd1 := d1.2.1
    obtain ⟨m2, P2, e2, L2, z5, z6, r2, p2, b2, o2, l2, d2⟩ := ih (i + 1) (x5 := y5) (x6 := y6) b1 (by rw [List.length_append, hi]; rfl) (by omega) o1 (by omega)
    refine ⟨m2, P2, e2, L2, z5, z6, ?_, p2.trans p1, by rw [show i + (c + 1) = i + 1 + c by omega]; exact b2, o2, by omega, bd_m (bd_t d1 d2) (by omega)⟩
    rw [r1, show ((c + 1 : Nat) : Int) - 1 = (c : Int) by omega, ← p1]
    exact r2
def hP (h : Nat) : Nat → Nat := fun j => if j = 0 then h else if j = 1 then h + 1 else if j = 2 then jm_dcp else if j = 3 then h + 2 else 0
theorem sL_begins_a {u : Int → Int} (hC : CR m X v w) (hA : isA m g 1 u) (hg : 411 ≤ g ∧ g < m.1) (h411 : 411 ≤ m.1) (hm : m.1 < 300000) : ∃ m' P e b E R L y5 y6, jm_env (d + 9) 12 [.ref 0, .ref g] m = jm_R (jm_env (d + 8)) jmM_L_begins 68 [some (.ref 0), some (.ref g), some (.ref (P 0)), some (.ref b), some (.int (i3 0)), y5, y6] [] m' ∧ IB m' X v w P L.length L.length g b e E R (srV (muE E R) L) (suT E R L) ∧ okE E R L ∧ 1 ≤ L.length ∧ L.length ≤ 3 ∧ (0 ≤ E ∧ E ≤ 50) ∧ (1 ≤ R ∧ R ≤ 500) ∧ bd m m' 1000 := by
  have hdc : 1000000 ≤ jm_dcp := by decide
  have F1 : frK m (jm_new m (.inr (13, [.null, .null, .int 0, .int 0])) 4) (fun _ => False) 1 := nw_fr (by omega) (by omega)
  have O1 : isO (jm_new m (.inr (13, [.null, .null, .int 0, .int 0])) 4) m.1 13 [.null, .null, .int 0, .int 0] := nw_at
  generalize hm1 : jm_new m (.inr (13, [.null, .null, .int 0, .int 0])) 4 = m1 at F1 O1
  have n1 : m1.1 = m.1 + 1 := by rw [← hm1]; rfl
  have C1 := CR_fr hC F1 h411 (fun _ q => q.elim)
  have A1 := isA_fr hA (F1.2.2.2.2 g (Or.inl hg.2) id)
  obtain ⟨m2, r2, O2, l2, L2, n2, F2⟩ := sL_init (d := d + 4) O1 (by omega) (by omega) (CR_dg C1).1
  rw [n1] at O2 l2 L2 n2
  have C2 := CR_fr C1 F2 (by omega) (fun j q => by omega)
  have A2 := isA_fr A1 (F2.2.2.2.2 g (Or.inl (by omega)) (by omega))
  obtain ⟨E, m3, u3, r3, E0, E1, A3, f3⟩ := sL_draw (d := d + 7) A2 (k := 6) (by omega) (by omega)
  have C3 := CR_f1 C2 f3 (by omega)
  have O3 := isO_fr O2 (f3.2.2 m.1 (by omega))
  obtain ⟨m4, r4, O4, f4⟩ := q_put (x := .int (i3 E)) O3 (k := 2) (by show 2 < 4; omega)
  have C4 := CR_f1 C3 f4 (by omega)
  have A4 := isA_fr A3 (f4.2.2 g (by omega))
  obtain ⟨z, m5, u5, r5, z0, z1, A5, f5⟩ := sL_draw (d := d + 7) A4 (k := 40) (by omega) (by omega)
  have C5 := CR_f1 C4 f5 (by omega)
  have O5 := isO_fr O4 (f5.2.2 m.1 (by omega))
  obtain ⟨m6, r6, O6, f6⟩ := q_put (x := .int (i3 (1 + z))) O5 (k := 3) (by show 3 < 4; omega)
  have C6 := CR_f1 C5 f6 (by omega)
  have A6 := isA_fr A5 (f6.2.2 g (by omega))
  have n6 : m6.1 = m.1 + 3 := by rw [f6.1, f5.1, f4.1, f3.1, n2]
  have no6 : ∀ j, j ≠ m.1 → j ≠ g → m6.2.1 j = m2.2.1 j := fun j h1 h2 => by rw [f6.2.2 j h1, f5.2.2 j h2, f4.2.2 j h1, f3.2.2 j h2]
  have F7 : frK m6 (jm_new m6 (.inr (15, [.null, .int 0, .int 0, .int 0])) 4) (fun _ => False) 1 := nw_fr (by omega) (by omega)
  have O7 : isO (jm_new m6 (.inr (15, [.null, .int 0, .int 0, .int 0])) 4) m6.1 15 [.null, .int 0, .int 0, .int 0] := nw_at
  generalize hm7 : jm_new m6 (.inr (15, [.null, .int 0, .int 0, .int 0])) 4 = m7 at F7 O7
  have n7 : m7.1 = m.1 + 4 := by rw [← hm7]; show m6.1 + 1 = _; omega
  have C7 := CR_fr C6 F7 (by omega) (fun _ q => q.elim)
  rw [n6] at O7
  have k4 : (jm_strT.getD 4 []).length = 5 := by decide
  obtain ⟨m8, e8, cap8, r8, s8, l8, F8⟩ := sSB_init (d := d) O7 (by omega) (isK_c C7 (k := 4) (by omega) (kL_b 4 (by omega))) (by rw [k4]; omega) (by omega)
  have C8 := CR_fr C7 F8 (by omega) (fun j q => by omega)
  have g8 := F8.1
  have g8' := F8.2.1
  have e8m := s8.2.2.2.2.2.1
  have old8 : ∀ j, j < m.1 + 3 → m8.2.1 j = m6.2.1 j := fun j hj => by rw [F8.2.2.2.2 j (Or.inl (by omega)) (by omega), F7.2.2.2.2 j (Or.inl (by omega)) id]
  have dcp8 : m8.2.1 jm_dcp = m2.2.1 jm_dcp := by rw [(CR_dg C8).1, (CR_dg C2).1]
  have k4L : kL 4 = wLand ++ [32] := kL_4
  have IB8 : IB m8 X v w (hP m.1) 0 0 g (m.1 + 3) e8 E (1 + z) (srV (muE E (1 + z)) []) (kL 4) := by
    refine ⟨C8, ⟨u5, isA_fr A6 (old8 g (by omega))⟩, ⟨fun j hj hk => ?_, fun j k hj hk q => ?_, by omega, by omega, by omega, fun j hj => ?_, by omega, by omega, by omega, fun _ => rfl⟩, ⟨?_, ⟨0, ?_⟩, ?_, fun j hj => by omega⟩, ⟨cap8, ?_⟩, by omega⟩
    · have : j = 0 ∨ j = 1 ∨ j = 3 := by omega
      rcases this with rfl | rfl | rfl
      · show 411 ≤ m.1 ∧ m.1 < m8.1; omega
      · show 411 ≤ m.1 + 1 ∧ m.1 + 1 < m8.1; omega
      · show 411 ≤ m.1 + 2 ∧ m.1 + 2 < m8.1; omega
    · have hj' : j = 0 ∨ j = 1 ∨ j = 2 ∨ j = 3 := by omega
      have hk' : k = 0 ∨ k = 1 ∨ k = 2 ∨ k = 3 := by omega
      have e0 : hP m.1 0 = m.1 := rfl
      have e1 : hP m.1 1 = m.1 + 1 := rfl
      have e2 : hP m.1 2 = jm_dcp := rfl
      have e3 : hP m.1 3 = m.1 + 2 := rfl
      rcases hj' with rfl | rfl | rfl | rfl <;> rcases hk' with rfl | rfl | rfl | rfl <;> simp only [e0, e1, e2, e3] at q <;> omega
    · have hj' : j = 0 ∨ j = 1 ∨ j = 2 ∨ j = 3 := by omega
      rcases hj' with rfl | rfl | rfl | rfl
      · show m.1 ≠ g ∧ m.1 ≠ m.1 + 3 ∧ m.1 ≠ e8; omega
      · show m.1 + 1 ≠ g ∧ m.1 + 1 ≠ m.1 + 3 ∧ m.1 + 1 ≠ e8; omega
      · show jm_dcp ≠ g ∧ jm_dcp ≠ m.1 + 3 ∧ jm_dcp ≠ e8; omega
      · show m.1 + 2 ≠ g ∧ m.1 + 2 ≠ m.1 + 3 ∧ m.1 + 2 ≠ e8; omega
    · exact isO_fr O6 (old8 m.1 (by omega))
    · have := isLs_fr (m' := m8) l2 (by omega) ((old8 _ (by omega)).trans (no6 _ (by omega) (by omega))) dcp8
      exact isLs_cg this fun k hk => by omega
    · exact isL_fr L2 ((old8 (m.1 + 1 + 1) (by omega)).trans (no6 (m.1 + 1 + 1) (by omega) (by omega)))
    · rw [k4] at s8
      have e4 : (kL 4).length = 5 := by rw [kL_4]; rfl
      rw [e4]
      exact isSB_cg s8 fun k hk => (map_gD _ k (by rw [k4]; exact hk)).symm
  have e4 : (kL 4).length = 5 := by rw [kL_4]; rfl
  obtain ⟨m9, e9, r9, b9, d9⟩ := IB_num (d := d + 3) IB8 (z := E) E0 (by omega) (by omega) (by omega)
  have m9b := d9.2.1
  have dE : (dg E).length ≤ 3 := by rw [dg_L (by omega) (by omega)]; unfold dL; split; omega; split <;> omega
  have dR : (dg (1 + z)).length ≤ 3 := by rw [dg_L (by omega) (by omega)]; unfold dL; split; omega; split <;> omega
  obtain ⟨m10, e10, r10, b10, d10⟩ := IB_chr (d := d + 3) b9 (z := 32) (by omega) (by omega) (by rw [List.length_append]; omega) (by omega)
  have m10b := d10.2.1
  obtain ⟨m11, e11, r11, b11, d11⟩ := IB_num (d := d + 3) b10 (z := 1 + z) (by omega) (by omega) (by rw [List.length_append, List.length_append]; show _ + _ + 1 + 3 ≤ 480; omega) (by omega)
  have m11b := d11.2.1
  have etx : ((kL 4 ++ dg E) ++ [32]) ++ dg (1 + z) = suT E (1 + z) [] := by
    rw [kL_4]
    unfold suT seT
    simp only [List.append_assoc, List.cons_append, List.nil_append, List.append_nil]
  rw [etx] at b11
  obtain ⟨c, m12, r12, c0, c1, b12, f12⟩ := IB_draw (d := d + 7) b11 (by omega) (k := 3) (by omega) (by omega)
  have m12b : m12.1 = m11.1 := f12.1
  have ok0 : okE E (1 + z) [] := by
    refine ⟨fun A w h l C hC => absurd hC (by simp), ?_, fun k k0 k1 => ?_, ?_, fun e he => absurd he List.not_mem_nil⟩
    · show muE E (1 + z) 412 0 = 0
      unfold muE
      rw [up_ne (by omega), up_ne (by omega)]
    · have k0 : 12 + 13 * (0 : Int) ≤ k := k0
      show muE E (1 + z) 412 k = 0
      unfold muE
      rw [up_ne (by omega), up_ne (by omega)]
    · rw [← etx, List.length_append, List.length_append, List.length_append, e4]
      show _ + _ + 1 + _ ≤ 12 + 127 * 0
      have : (dg E).length = 1 := by rw [dg_L (by omega) (by omega)]; exact if_pos (by omega)
      omega
  obtain ⟨m13, P13, e13, L13, y5, y6, r13, p13, b13, o13, l13', d13⟩ := IB_series (d := d + 3) (c + 1).toNat 0 (x5 := none) (x6 := none) b12 rfl (by omega) ok0 (by omega)
  refine ⟨m13, P13, e13, m.1 + 3, E, 1 + z, L13, y5, y6, ?_, ?_, o13, by omega, by omega, ⟨E0, by omega⟩, ⟨by omega, by omega⟩, ?_⟩
  · have h0 : hP m.1 0 = m.1 := rfl
    rw [p13, h0]
    rw [h0, show (((c + 1).toNat : Nat) : Int) = 1 + c by omega] at r13
    have q10 := b9.2.2.2.1.1
    have qO8 := IB8.2.2.2.1.1
    have qO10 := b10.2.2.2.1.1
    have hsr : jm_str + 4 = 1099511627780 := rfl
    rw [hsr] at r8
    have r4' : jm_put m3 m.1 13 2 (.int (i3 E)) = some m4 := r4
    have gE : jm_gI m8 m.1 13 2 = some (i3 E) := q_gI qO8 (k := 2) rfl
    have gR : jm_gI m10 m.1 13 3 = some (i3 (1 + z)) := q_gI qO10 (k := 3) rfl
    rw [eL_begins, bL_begins_0, q_mk (by omega), hm1, r2, ob_s, bV_v, r3, ob_s, bI_v, r4', ob_s, r5, ob_s, bI_v, i3_add, r6, ob_s, q_mk (by omega), hm7, n6, r8, ob_s, bV_v, gE, ob_s, r9, ob_s, bR_w, r10, ob_s, bR_w, gR, ob_s, r11, ob_s, bR_w, r12, ob_s, bI_v, i3_add]
    exact r13
  · rw [l13']; exact b13
  · exact bd_m (bd_t (bd_K F1) (bd_t (bd_K F2) (bd_t (bd_1 f3) (bd_t (bd_1 f4) (bd_t (bd_1 f5) (bd_t (bd_1 f6) (bd_t (bd_K F7) (bd_t (bd_K F8) (bd_t d9 (bd_t d10 (bd_t d11 (bd_t (bd_1 f12) d13)))))))))))) (by omega)
end LXJ
