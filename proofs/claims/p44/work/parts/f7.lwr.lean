-- uses 24.zar 25.obj 26.ops 30.rd 31.re 34.gen 41.bit 07.rel c0.foa c1.fob e0.lwa e1.lwb e2.lwc e4.lwe f3.lwn f4.lwo f5.lwp f6.lwq
/-! The leaves. -/
section LWR
variable {m m0 m' : jm_Mem} {d p e s : Nat} {x f k : Nat}
theorem isS_K {w h t : Nat} {W H K : Int → Int} {n : Nat} {S : Nat → Prop} (hs : isS m s w h t W H K) (f : frK m m' S n) (hn : (s < m.1 ∧ w < m.1 ∧ h < m.1 ∧ t < m.1) ∧ ¬ S s ∧ ¬ S w ∧ ¬ S h ∧ ¬ S t) : isS m' s w h t W H K := by
  obtain ⟨s1, s2, s3, s4⟩ := hs
  obtain ⟨⟨n1, n2, n3, n4⟩, n5, n6, n7, n8⟩ := hn
  exact ⟨isO_fr s1 (f.2.2.2.2 _ (Or.inl n1) n5), isA_fr s2 (f.2.2.2.2 _ (Or.inl n2) n6), isA_fr s3 (f.2.2.2.2 _ (Or.inl n3) n7), isA_fr s4 (f.2.2.2.2 _ (Or.inl n4) n8)⟩
theorem sP_init {nn ff : Int} {R C : Nat} {x9 x10 x11 x12 x13 x14 x15 x16 x17 x18 x19 : Option Value} (h32 : R * C ≤ 32) (hR : R ≤ 32) (hC : C ≤ 32) (hb : isB m0 m p jm_dcp 0 (fun _ => 0)) (hm : m0.1 < 600000) (hd : m0.2.1 jm_dcp = jm_dcE) (x7 x8 : Option Value) : ∀ j : Nat, j ≤ R * C → ∃ m' e a eP y7 y8, jm_R (jm_env (d + 5)) jmM_L_leaves 12 [some (.ref s), some (.int (i3 nn)), some (.int (i3 ff)), some (.int (i3 R)), some (.int (i3 C)), some (.ref p), some (.int (i3 0)), x7, x8, x9, x10, x11, x12, x13, x14, x15, x16, x17, x18, x19] [] m =
      jm_R (jm_env (d + 5)) jmM_L_leaves 12 [some (.ref s), some (.int (i3 nn)), some (.int (i3 ff)), some (.int (i3 R)), some (.int (i3 C)), some (.ref p), some (.int (i3 j)), y7, y8, x9, x10, x11, x12, x13, x14, x15, x16, x17, x18, x19] [] m' ∧ PL m' p e j 1 a eP (fun j _ => 2 * (j : Int)) ∧ m0.1 ≤ p ∧ m0.1 ≤ e ∧ frK m0 m' (fun _ => False) (1 + 3 * j) := by
  have hdc : 1000000 ≤ jm_dcp := by decide
  have hRC : (R : Int) * C = ((R * C : Nat) : Int) := by rw [Int.natCast_mul]
  intro j
  induction j with
  | zero =>
    intro _
    obtain ⟨⟨cq, lq⟩, b2, b3, b4⟩ := hb
    exact ⟨m, jm_dcp, fun _ => 0, fun _ => 0, x7, x8, rfl, ⟨⟨cq, isLs_cg lq fun k hk => by omega⟩, fun j hj => by omega⟩, b2, b3, frK_m b4 (fun _ _ q => q) (by omega)⟩
  | succ j ih =>
    intro hj
    obtain ⟨m1, e, a, eP, y7, y8, r1, h1, p1, p2, f1⟩ := ih (by omega)
    have hm1 := f1.2.1
    obtain ⟨m2, e2, b2⟩ := sP_new (d := d + 2) (m := m1) (by omega) ((f1.2.2.2.2 _ (Or.inr hdc) id).trans hd) (G := fun m2 => if jm_by ((i3 2) * (i3 j)) = true then (jm_env (d + 5) 175 [.ref m1.1, .ref (jm_int + (Int32.toInt ((i3 2) * (i3 j)) + 128).toNat)] m2).bind (jm_bI (fun v3 m4 => if v3 = (i3 0) then jm_R (jm_env (d + 5)) jmM_L_leaves 63 [some (.ref s), some (.int (i3 nn)), some (.int (i3 ff)), some (.int (i3 R)), some (.int (i3 C)), some (.ref p), some (.int (i3 j)), some (.ref m1.1), y8, x9, x10, x11, x12, x13, x14, x15, x16, x17, x18, x19] [] m4 else jm_R (jm_env (d + 5)) jmM_L_leaves 47 [some (.ref s), some (.int (i3 nn)), some (.int (i3 ff)), some (.int (i3 R)), some (.int (i3 C)), some (.ref p), some (.int (i3 j)), some (.ref m1.1), y8, x9, x10, x11, x12, x13, x14, x15, x16, x17, x18, x19] [] m4) jm_y) else none) (g := jm_y)
    have hm2 := b2.2.2.2.2.1
    obtain ⟨m3, e3, r3, b3, -⟩ := sP_add (d := d) (z := 2 * (j : Int)) b2 (by omega) (by omega) (by omega) (fun k hk => by omega) (by omega)
    have f13 := b3.2.2.2
    have hm3 := f13.2.1
    have hP3 := PL_0 h1 f13
    have hx3 : isP m3 m1.1 e3 1 (fun _ => 2 * (j : Int)) := isP_cg b3.1 fun k hk => if_pos (by omega)
    have he3 := isP_n hx3 (by omega)
    obtain ⟨⟨cp, lp⟩, -⟩ := h1
    have hp := lp.2.2.2.1
    have hee := isLs_e lp
    have hge : m1.1 ≤ e3 := b3.2.2.1
    obtain ⟨m4, e4, r4, h4, le4, f4⟩ := PL_add (d := d) (x := m1.1) (ex := e3) hP3 (by omega) hx3 (by omega) (by omega) (by omega) (by omega) (by omega) (by omega) (by omega)
    have m13 := f13.1
    refine ⟨m4, e4, _, _, some (.ref m1.1), some (.int (i3 1)), ?_, PL_cg h4 (fun k hk t ht => ?_), p1, ?_, ?_⟩
    · rw [r1, bL_leaves_12, i3_mul, hRC, ie_le (by omega) (by omega) (by omega) (by omega), if_neg (by omega), bL_leaves_21]
      refine e2.trans ?_
      rw [i3_mul, if_pos (by_t (by omega) (by omega)), iN_e (by omega) (by omega), r3, ob_s, bI_v, ie_eq (by omega) (by omega) (by omega) (by omega), if_neg (by omega), bL_leaves_47, r4, ob_s, bI_v, ie_eq (by omega) (by omega) (by omega) (by omega), if_neg (by omega), bL_leaves_59, bL_leaves_64, i3_add]
      rfl
    · by_cases g : k = j
      · rw [if_pos g, g]
      · rw [if_neg g]
    · rcases le4 with q | q <;> omega
    · refine frK_m (frK_u (frK_u f1 f13 (fun _ _ q => q)) f4 (fun i hi q => ?_)) (fun _ _ q => q) (by omega)
      rcases q with q | ⟨q, q'⟩ <;> omega
theorem sP_folds {w h t : Nat} {W H K : Int → Int} {nn R C : Int} {x9 x10 x11 x12 x13 x14 x15 x16 x17 x18 x19 : Option Value} (hP : PK m p x f 0) (hf : f < 6) (hx : x < 2 ^ f) (hs : isS m s w h t W H K) (hsn : s < m.1 ∧ w < m.1 ∧ h < m.1 ∧ t < m.1) (hw : okW W H) (n0 : 0 ≤ nn) (n1 : nn + f ≤ 10) (hb : ∀ k, k < f → (bt x k = true ↔ W (nn + k) ≤ H (nn + k))) (hm : m.1 < 600000) (hd : m.2.1 jm_dcp = jm_dcE) :
    ∀ k : Nat, k ≤ f → ∃ m' q y9 y10 y11 y12 y13 y14 y15 y16 y17 y18 y19, jm_R (jm_env (d + 5)) jmM_L_leaves 82 [some (.ref s), some (.int (i3 nn)), some (.int (i3 f)), some (.int (i3 R)), some (.int (i3 C)), some (.ref p), some (.int (i3 (Dn x f 0))), some (.int (i3 (Cn x f 0))), some (.int (i3 0)), x9, x10, x11, x12, x13, x14, x15, x16, x17, x18, x19] [] m =
      jm_R (jm_env (d + 5)) jmM_L_leaves 82 [some (.ref s), some (.int (i3 nn)), some (.int (i3 f)), some (.int (i3 R)), some (.int (i3 C)), some (.ref q), some (.int (i3 (Dn x f k))), some (.int (i3 (Cn x f k))), some (.int (i3 k)), y9, y10, y11, y12, y13, y14, y15, y16, y17, y18, y19] [] m' ∧ PK m' q x f k ∧ frK m m' (fun _ => False) (65 * k) := by
  have hdc : 1000000 ≤ jm_dcp := by decide
  intro k
  induction k with
  | zero => intro _; exact ⟨m, p, x9, x10, x11, x12, x13, x14, x15, x16, x17, x18, x19, rfl, hP, frK_0⟩
  | succ k ih =>
    intro hk
    obtain ⟨m1, q, y9, y10, y11, y12, y13, y14, y15, y16, y17, y18, y19, r1, h1, f1⟩ := ih (by omega)
    have hm1 := f1.2.1
    obtain ⟨m2, q2, z9, z10, z11, z12, z13, z14, z15, z16, z17, z18, z19, r2, h2, f2⟩ := sP_fold (d := d) (s := s) (nn := nn) (R := R) (C := C) (x9 := y9) (x10 := y10) (x11 := y11) (x12 := y12) (x13 := y13) (x14 := y14) (x15 := y15) (x16 := y16) (x17 := y17) (x18 := y18) (x19 := y19) h1 hf hx (by omega) (isS_K hs f1 ⟨hsn, id, id, id, id⟩) hw (by omega) (by omega) (hb k (by omega)) (by omega) ((f1.2.2.2.2 _ (Or.inr hdc) id).trans hd)
    exact ⟨m2, q2, z9, z10, z11, z12, z13, z14, z15, z16, z17, z18, z19, r1.trans r2, h2, frK_m (frK_t f1 f2) (fun _ _ q => q) (by omega)⟩
/-- the leaves of a sheet that is folded f times -/
theorem sL_leaves {w h t : Nat} {W H K : Int → Int} {nn : Int} (hf : f < 6) (hx : x < 2 ^ f) (hs : isS m s w h t W H K) (hsn : s < m.1 ∧ w < m.1 ∧ h < m.1 ∧ t < m.1) (hw : okW W H) (n0 : 0 ≤ nn) (n1 : nn + f ≤ 10) (hb : ∀ k, k < f → (bt x k = true ↔ W (nn + k) ≤ H (nn + k))) (hm : m.1 < 500000) (hd : m.2.1 jm_dcp = jm_dcE) :
    ∃ m' A eA, jm_env (d + 6) 13 [.ref s, .int (i3 nn), .int (i3 f), .int (i3 (rwX x f)), .int (i3 (clX x f))] m = some (.inl (some (.ref A)), m') ∧ isP m' A eA (2 ^ f) (fun t => qX x f f 0 0 t) ∧ frK m m' (fun _ => False) 450 := by
  have hdc : 1000000 ≤ jm_dcp := by decide
  obtain ⟨a1, a2, a3, a4, a5, a6, a7, a8, a9, a10⟩ := fz hf hx (Nat.zero_le f)
  have hR : rwX x f = (Dn x f 0 : Int) := a1.symm
  have hC : clX x f = (Cn x f 0 : Int) := a2.symm
  rw [hR, hC]
  obtain ⟨m1, e1, b1⟩ := sP_new (d := d + 2) (m := m) (by omega) hd (G := fun m2 => jm_R (jm_env (d + 5)) jmM_L_leaves 12 [some (.ref s), some (.int (i3 nn)), some (.int (i3 f)), some (.int (i3 (Dn x f 0))), some (.int (i3 (Cn x f 0))), some (.ref m.1), some (.int (i3 0)), none, none, none, none, none, none, none, none, none, none, none, none, none] [] m2) (g := jm_y)
  obtain ⟨m2, e, a, eP, y7, y8, r2, h2, -, -, f2⟩ := sP_init (d := d) (s := s) (nn := nn) (ff := (f : Int)) (R := Dn x f 0) (C := Cn x f 0) (x9 := none) (x10 := none) (x11 := none) (x12 := none) (x13 := none) (x14 := none) (x15 := none) (x16 := none) (x17 := none) (x18 := none) (x19 := none) a10 a8 a9 b1 (by omega) hd none none (Dn x f 0 * Cn x f 0) (Nat.le_refl _)
  have hP : PK m2 m.1 x f 0 := ⟨e, a, eP, PL_cg h2 fun j hj t ht => by
    show 2 * (j : Int) = 2 * (((j / Cn x f 0 : Nat) : Int) * clX x f + ((j % Cn x f 0 : Nat) : Int))
    rw [hC, ← Int.natCast_mul, ← Int.natCast_add]
    congr 2
    have := Nat.div_add_mod j (Cn x f 0)
    rw [Nat.mul_comm] at this
    omega⟩
  have hm2 := f2.2.1
  have hs2 := isS_K hs f2 ⟨hsn, id, id, id, id⟩
  have g2 := f2.1
  obtain ⟨m3, q, y9, y10, y11, y12, y13, y14, y15, y16, y17, y18, y19, r3, h3, f3⟩ := sP_folds (d := d) (s := s) (nn := nn) (R := (Dn x f 0 : Int)) (C := (Cn x f 0 : Int)) (x9 := none) (x10 := none) (x11 := none) (x12 := none) (x13 := none) (x14 := none) (x15 := none) (x16 := none) (x17 := none) (x18 := none) (x19 := none) hP hf hx hs2 (by omega) hw n0 n1 hb (by omega) ((f2.2.2.2.2 _ (Or.inr hdc) id).trans hd) f (Nat.le_refl _)
  obtain ⟨e3, a3', eP3, h3⟩ := h3
  obtain ⟨z1, z2, z3', z4, z5, z6, z7⟩ := fo_1 f hf x hx
  have hD : Dn x f f = 1 := by unfold Dn; omega
  have hCf : Cn x f f = 1 := by unfold Cn; omega
  rw [hD, hCf] at h3
  obtain ⟨⟨c3, l3⟩, h3⟩ := h3
  have hA := (h3 0 (by omega)).1
  obtain ⟨fs, oA⟩ := isP_o hA
  refine ⟨m3, a3' 0, eP3 0, ?_, isP_cg hA (fun k hk => rfl), frK_m (frK_t f2 f3) (fun _ _ q => q) (by omega)⟩
  rw [eL_leaves, bL_leaves_0]
  refine e1.trans ?_
  refine r2.trans ?_
  have hRC : (Dn x f 0 : Int) * (Cn x f 0 : Int) = ((Dn x f 0 * Cn x f 0 : Nat) : Int) := by rw [Int.natCast_mul]
  rw [bL_leaves_12, i3_mul, hRC, ie_le (by omega) (by omega) (by omega) (by omega), if_pos (by omega), bL_leaves_72]
  refine r3.trans ?_
  have hg := sAL_get (d := d + 3) l3 (z := 0) (by omega) (by omega)
  rw [bL_leaves_82, ie_le (by omega) (by omega) (by omega) (by omega), if_pos (by omega), bL_leaves_389, hg, ob_s, bR_w]
  exact if_pos (caO_o oA (Or.inr rfl))
end LWR
