-- uses 24.zar 25.obj 26.ops 30.rd 31.re 34.gen 41.bit 07.rel c0.foa c1.fob e0.lwa e1.lwb e2.lwc e4.lwe f3.lwn f4.lwo f5.lwp
/-! All folds: the leaves of a folded sheet. -/
def qk (x f k C : Nat) : Nat → Nat → Int := fun j t => qX x f k ((j / C : Nat) : Int) ((j % C : Nat) : Int) t
def Dn (x f k : Nat) : Nat := (dnX x f k).toNat
def Cn (x f k : Nat) : Nat := (acX x f k).toNat
section LWQ
variable {m m0 m' : jm_Mem} {d p e s : Nat} {x f k : Nat}
theorem dv {r c C : Nat} (h : c < C) : (r * C + c) / C = r ∧ (r * C + c) % C = c := by
  constructor
  · rw [Nat.mul_comm, Nat.mul_add_div (by omega), Nat.div_eq_of_lt h, Nat.add_zero]
  · rw [Nat.mul_comm, Nat.mul_add_mod, Nat.mod_eq_of_lt h]
/-- numbers of a fold -/
theorem fz (hf : f < 6) (hx : x < 2 ^ f) (hk : k ≤ f) : (Dn x f k : Int) = dnX x f k ∧ (Cn x f k : Int) = acX x f k ∧ 1 ≤ Dn x f k ∧ 1 ≤ Cn x f k ∧ Dn x f k * Cn x f k * 2 ^ k = 2 ^ f ∧ htX k = ((2 ^ k : Nat) : Int) ∧ 2 ^ f ≤ 32 ∧ Dn x f k ≤ 32 ∧ Cn x f k ≤ 32 ∧ Dn x f k * Cn x f k ≤ 32 := by
  obtain ⟨a1, a2, a3, a4, a5⟩ := fo_3 f hf x hx k (by omega)
  obtain ⟨b1, b2, b3, b4, b5, -, -⟩ := fo_1 f hf x hx
  obtain ⟨c1, c2, c3⟩ := fo_h k (by omega)
  obtain ⟨d1, d2, d3⟩ := fo_h f hf
  have eD : (Dn x f k : Int) = dnX x f k := by unfold Dn; omega
  have eC : (Cn x f k : Int) = acX x f k := by unfold Cn; omega
  have e2 : Dn x f k * Cn x f k * 2 ^ k = 2 ^ f := by
    have : ((Dn x f k * Cn x f k * 2 ^ k : Nat) : Int) = ((2 ^ f : Nat) : Int) := by
      rw [Int.natCast_mul, Int.natCast_mul, eD, eC, ← c1, a1, d1]
    exact Int.ofNat.inj this
  have hk1 : 1 ≤ 2 ^ k := Nat.one_le_two_pow
  have e3 : Dn x f k * Cn x f k ≤ Dn x f k * Cn x f k * 2 ^ k := Nat.le_mul_of_pos_right _ hk1
  exact ⟨eD, eC, by omega, by omega, e2, c1, by omega, by omega, by omega, by omega⟩
/-- the piles after k folds -/
def PK (m : jm_Mem) (p x f k : Nat) : Prop := ∃ e a eP, PL m p e (Dn x f k * Cn x f k) (2 ^ k) a eP (qk x f k (Cn x f k))
theorem qk_b {j t : Nat} (hf : f < 6) (hx : x < 2 ^ f) (hk : k ≤ f) (hj : j < Dn x f k * Cn x f k) (ht : t < 2 ^ k) : 0 ≤ qk x f k (Cn x f k) j t ∧ qk x f k (Cn x f k) j t < 64 := by
  obtain ⟨a1, a2, a3, a4, a5, a6, -⟩ := fz hf hx hk
  have h1 : j / Cn x f k < Dn x f k := Nat.div_lt_of_lt_mul (by rw [Nat.mul_comm]; exact hj)
  have h2 : j % Cn x f k < Cn x f k := Nat.mod_lt _ (by omega)
  exact fo_4i hf hx (by omega) (Int.natCast_nonneg _) (by rw [← a1]; exact Int.ofNat_lt.mpr h1) (Int.natCast_nonneg _) (by rw [← a2]; exact Int.ofNat_lt.mpr h2) (by omega) (by omega)
theorem sP_fold {w h t : Nat} {W H K : Int → Int} {nn R C : Int} {x9 x10 x11 x12 x13 x14 x15 x16 x17 x18 x19 : Option Value} (hP : PK m p x f k) (hf : f < 6) (hx : x < 2 ^ f) (hk : k < f) (hs : isS m s w h t W H K) (hw : okW W H) (n0 : 0 ≤ nn + k) (n1 : nn + k < 10) (hb : bt x k = true ↔ W (nn + k) ≤ H (nn + k)) (hm : m.1 < 700000) (hd : m.2.1 jm_dcp = jm_dcE) :
    ∃ m' nx y9 y10 y11 y12 y13 y14 y15 y16 y17 y18 y19, jm_R (jm_env (d + 5)) jmM_L_leaves 82 [some (.ref s), some (.int (i3 nn)), some (.int (i3 f)), some (.int (i3 R)), some (.int (i3 C)), some (.ref p), some (.int (i3 (Dn x f k))), some (.int (i3 (Cn x f k))), some (.int (i3 k)), x9, x10, x11, x12, x13, x14, x15, x16, x17, x18, x19] [] m =
      jm_R (jm_env (d + 5)) jmM_L_leaves 82 [some (.ref s), some (.int (i3 nn)), some (.int (i3 f)), some (.int (i3 R)), some (.int (i3 C)), some (.ref nx), some (.int (i3 (Dn x f (k + 1)))), some (.int (i3 (Cn x f (k + 1)))), some (.int (i3 ((k : Int) + 1))), y9, y10, y11, y12, y13, y14, y15, y16, y17, y18, y19] [] m' ∧ PK m' nx x f (k + 1) ∧ frK m m' (fun _ => False) 65 := by
  obtain ⟨e, a, eP, hP⟩ := hP
  obtain ⟨a1, a2, a3, a4, a5, a6, a7, a8, a9, a10⟩ := fz hf hx (Nat.le_of_lt hk)
  obtain ⟨b1, b2, b3, b4, b5, b6, b7, b8, b9, b10⟩ := fz hf hx (show k + 1 ≤ f from hk)
  obtain ⟨z1, z2⟩ := fo_2 f hf x hx k hk
  have hqb : ∀ j, j < Dn x f k * Cn x f k → ∀ t, t < 2 ^ k → 0 ≤ qk x f k (Cn x f k) j t ∧ qk x f k (Cn x f k) j t < 64 := fun j hj t ht => qk_b hf hx (Nat.le_of_lt hk) hj ht
  have hpw : 2 ^ (k + 1) = 2 * 2 ^ k := by rw [Nat.pow_succ]; omega
  have hk1 : 1 ≤ 2 ^ k := Nat.one_le_two_pow
  have hh2 : 2 * 2 ^ k ≤ 32 := by
    have : 1 * 2 ^ (k + 1) ≤ Dn x f (k + 1) * Cn x f (k + 1) * 2 ^ (k + 1) := Nat.mul_le_mul_right _ (Nat.mul_le_mul b3 b4)
    omega
  have hN0 : 1 ≤ Dn x f k * Cn x f k := Nat.mul_le_mul a3 a4
  obtain ⟨⟨cap, lp⟩, hpl⟩ := id hP
  have hold : p < m.1 ∧ e < m.1 ∧ ∀ j, j < Dn x f k * Cn x f k → a j < m.1 ∧ eP j < m.1 := ⟨lp.2.2.2.1, isLs_n lp hN0, fun j hj => ⟨isP_a (hpl j hj).1, isP_n (hpl j hj).1 hk1⟩⟩
  have hwb := hw (nn + k) n0 n1
  have hbd : Dn x f (k + 1) * Cn x f (k + 1) * (2 * 2 ^ k + 2) + 1 ≤ 65 := by
    rw [Nat.mul_add, ← hpw, b5]
    have : Dn x f (k + 1) * Cn x f (k + 1) ≤ 16 := by
      have h2 : Dn x f (k + 1) * Cn x f (k + 1) * 2 ≤ Dn x f (k + 1) * Cn x f (k + 1) * 2 ^ (k + 1) := Nat.mul_le_mul_left _ (by omega)
      omega
    omega
  have hdc : 1000000 ≤ jm_dcp := by decide
  have e114 : ∀ b : Int, (b = 1 ∧ bt x k = true ∨ b = 0 ∧ bt x k = false) → jm_R (jm_env (d + 5)) jmM_L_leaves 82 [some (.ref s), some (.int (i3 nn)), some (.int (i3 f)), some (.int (i3 R)), some (.int (i3 C)), some (.ref p), some (.int (i3 (Dn x f k))), some (.int (i3 (Cn x f k))), some (.int (i3 k)), x9, x10, x11, x12, x13, x14, x15, x16, x17, x18, x19] [] m = jm_R (jm_env (d + 5)) jmM_L_leaves 114 [some (.ref s), some (.int (i3 nn)), some (.int (i3 f)), some (.int (i3 R)), some (.int (i3 C)), some (.ref p), some (.int (i3 (Dn x f k))), some (.int (i3 (Cn x f k))), some (.int (i3 k)), x9, x10, x11, x12, x13, x14, x15, x16, x17, x18, x19] [.int (i3 b)] m := by
    intro b hbb
    rw [bL_leaves_82, ie_le (by omega) (by omega) (by omega) (by omega), if_neg (by omega), bL_leaves_88, q_gR hs.1 (k := 0) rfl, ob_s, i3_add, q_aI hs.2.1 n0 (by omega : nn + k < (10 : Nat)) (by omega), ob_s, q_gR hs.1 (k := 1) rfl, ob_s, q_aI hs.2.2.1 n0 (by omega : nn + k < (10 : Nat)) (by omega), ob_s, ie_lt (by omega) (by omega) (by omega) (by omega)]
    rcases hbb with ⟨rfl, g⟩ | ⟨rfl, g⟩
    · have := hb.mp g
      rw [if_neg (by omega), bL_leaves_109]
    · have : ¬ W (nn + k) ≤ H (nn + k) := fun t => by have := hb.mpr t; rw [g] at this; exact Bool.false_ne_true this
      rw [if_pos (by omega), bL_leaves_113]
  obtain ⟨b, hbb, hcase⟩ : ∃ b : Int, (b = 1 ∧ bt x k = true ∨ b = 0 ∧ bt x k = false) ∧ ((b = 1 ∧ Dn x f k = 2 * Dn x f (k + 1) ∧ Cn x f k = Cn x f (k + 1)) ∨ (b = 0 ∧ Dn x f k = Dn x f (k + 1) ∧ Cn x f k = 2 * Cn x f (k + 1))) := by
    cases hbt : bt x k with
    | true =>
      obtain ⟨t1, t2⟩ := z1 hbt
      exact ⟨1, Or.inl ⟨rfl, rfl⟩, Or.inl ⟨rfl, by omega, by omega⟩⟩
    | false =>
      obtain ⟨t1, t2⟩ := z2 hbt
      exact ⟨0, Or.inr ⟨rfl, rfl⟩, Or.inr ⟨rfl, by omega, by omega⟩⟩
  have e114 := e114 b hbb
  generalize hD : Dn x f k = D at *
  generalize hC : Cn x f k = C' at *
  generalize hD' : Dn x f (k + 1) = D2 at *
  generalize hC' : Cn x f (k + 1) = C2 at *
  obtain ⟨m1, e1, i1⟩ := sP_new (d := d + 2) (m := m) (by omega) hd (G := fun m2 => if i3 b = i3 0 then jm_R (jm_env (d + 5)) jmM_L_leaves 137 [some (.ref s), some (.int (i3 nn)), some (.int (i3 f)), some (.int (i3 R)), some (.int (i3 C)), some (.ref p), some (.int (i3 D)), some (.int (i3 C')), some (.int (i3 k)), some (.int (i3 b)), some (.ref m.1), x11, x12, x13, x14, x15, x16, x17, x18, x19] [] m2 else jm_R (jm_env (d + 5)) jmM_L_leaves 130 [some (.ref s), some (.int (i3 nn)), some (.int (i3 f)), some (.int (i3 R)), some (.int (i3 C)), some (.ref p), some (.int (i3 D)), some (.int (i3 C')), some (.int (i3 k)), some (.int (i3 b)), some (.ref m.1), x11, x12, x13, x14, x15, x16, x17, x18, x19] [] m2) (g := jm_y)
  have e160 : (if i3 b = i3 0 then jm_R (jm_env (d + 5)) jmM_L_leaves 137 [some (.ref s), some (.int (i3 nn)), some (.int (i3 f)), some (.int (i3 R)), some (.int (i3 C)), some (.ref p), some (.int (i3 D)), some (.int (i3 C')), some (.int (i3 k)), some (.int (i3 b)), some (.ref m.1), x11, x12, x13, x14, x15, x16, x17, x18, x19] [] m1 else jm_R (jm_env (d + 5)) jmM_L_leaves 130 [some (.ref s), some (.int (i3 nn)), some (.int (i3 f)), some (.int (i3 R)), some (.int (i3 C)), some (.ref p), some (.int (i3 D)), some (.int (i3 C')), some (.int (i3 k)), some (.int (i3 b)), some (.ref m.1), x11, x12, x13, x14, x15, x16, x17, x18, x19] [] m1) = jm_R (jm_env (d + 5)) jmM_L_leaves 160 (l13 s p m.1 nn f R C D C' k b D2 C2 [some (.int (i3 0)), x14, x15, x16, x17, x18, x19]) [] m1 := by
    rcases hcase with ⟨c1, c2, c3⟩ | ⟨c1, c2, c3⟩
    · rw [c1, ie_eq (by omega) (by omega) (by omega) (by omega), if_neg (by omega), bL_leaves_130, i3_div (by omega) (by omega) (by omega) (by omega), bL_leaves_139, ie_eq (by omega) (by omega) (by omega) (by omega), if_neg (by omega), bL_leaves_146, bL_leaves_155, show (D : Int) / 2 = D2 by omega, c3]
    · rw [c1, if_pos rfl, bL_leaves_137, bL_leaves_139, if_pos rfl, bL_leaves_151, i3_div (by omega) (by omega) (by omega) (by omega), bL_leaves_155, show (C' : Int) / 2 = C2 by omega, c2]
  have hF : FT m m1 p e (D * C') (2 ^ k) a eP (qk x f k C') m.1 0 (fun j => if b = 1 then (D - 1 - j / C2) * C' + j % C2 else (j / C2) * C' + (C' - 1 - j % C2)) (fun j => (j / C2) * C' + j % C2) := by
    obtain ⟨⟨cq, lq⟩, -, -, fq⟩ := i1
    refine ⟨jm_dcp, fun _ => 0, fun _ => 0, fun _ _ => 0, PL_0 hP fq, ⟨⟨cq, isLs_cg lq fun k hk => by omega⟩, fun j hj => by omega⟩, frK_m fq (fun _ _ q => q) (by omega), by omega, fun j hj => by omega⟩
  obtain ⟨m2, y14, y15, y16, y17, y18, y19, r2, h2⟩ := FT_all (d := d) (s := s) (nn := nn) (f := f) (R := R) (C := C) (dn := (D : Int)) (k := (k : Int)) (b := b) (tr := D2) (tc := C2) (ac := C') (x14 := x14) (x15 := x15) (x16 := x16) (x17 := x17) (x18 := x18) (x19 := x19) hF hk1 hh2 b10 b9 b8 hN0 (by omega) hqb (fun r hr c hc => by
    obtain ⟨d1, d2⟩ := dv (r := r) hc
    rw [d1, d2]
    have g2 : (r + 1) * C' ≤ D * C' := Nat.mul_le_mul_right _ (by omega)
    rw [Nat.add_mul] at g2
    rcases hcase with ⟨c1, c2, c3⟩ | ⟨c1, c2, c3⟩
    · have g1 : (D - 1 - r + 1) * C' ≤ D * C' := Nat.mul_le_mul_right _ (by omega)
      rw [Nat.add_mul] at g1
      rw [if_pos c1]
      refine ⟨by omega, by omega, Or.inl ⟨c1, ?_⟩, by rw [Int.natCast_add, Int.natCast_mul]⟩
      rw [Int.natCast_add, Int.natCast_mul]
      congr 2
      omega
    · rw [if_neg (by omega)]
      refine ⟨by omega, by omega, Or.inr ⟨c1, ?_⟩, by rw [Int.natCast_add, Int.natCast_mul]⟩
      rw [Int.natCast_add, Int.natCast_mul]
      omega) hm hd (Nat.le_refl _) hold D2 (Nat.le_refl _)
  obtain ⟨en, bN, bE, QB, w1, w2, w3, w4, w5⟩ := h2
  refine ⟨m2, m.1, some (.int (i3 b)), some (.ref m.1), some (.int (i3 D2)), some (.int (i3 C2)), some (.int (i3 D2)), y14, y15, y16, y17, y18, y19, ?_, ⟨en, bN, bE, PL_cg (by rw [hD', hC', hpw]; exact w2) fun j hj t ht => ?_⟩, frK_m w3 (fun _ _ q => q) hbd⟩
  · rw [e114, bL_leaves_114]
    refine e1.trans ?_
    refine e160.trans ?_
    refine r2.trans ?_
    rw [bL_leaves_160, ie_le (by omega) (by omega) (by omega) (by omega), if_pos (by omega), bL_leaves_371, i3_add]
  · rw [hD', hC'] at hj
    rw [hC', w5 j hj t (by omega)]
    have h1 : j / C2 < D2 := Nat.div_lt_of_lt_mul (by rw [Nat.mul_comm]; exact hj)
    have h2 : j % C2 < C2 := Nat.mod_lt _ (by omega)
    unfold foQ qk
    dsimp only
    show _ = if (t : Int) < htX k then xr (if bt x k = true then qX x f k (dnX x f k - 1 - ((j / C2 : Nat) : Int)) ((j % C2 : Nat) : Int) (htX k - 1 - t) else qX x f k ((j / C2 : Nat) : Int) (acX x f k - 1 - ((j % C2 : Nat) : Int)) (htX k - 1 - t)) else qX x f k ((j / C2 : Nat) : Int) ((j % C2 : Nat) : Int) (t - htX k)
    generalize j / C2 = r at *
    generalize j % C2 = c at *
    by_cases g : t < 2 ^ k
    · rw [if_pos g, if_pos (show (t : Int) < htX k by omega), show ((2 ^ k - 1 - t : Nat) : Int) = htX k - 1 - t by omega]
      rcases hcase with ⟨c1, c2, c3⟩ | ⟨c1, c2, c3⟩
      · have hbt : bt x k = true := hbb.elim (fun t => t.2) fun t => by omega
        obtain ⟨d1, d2⟩ := dv (r := D - 1 - r) (show c < C' by omega)
        rw [if_pos c1, if_pos hbt, d1, d2, show ((D - 1 - r : Nat) : Int) = dnX x f k - 1 - r by omega]
      · have hbt : ¬ bt x k = true := hbb.elim (fun t => by omega) fun t => by rw [t.2]; exact Bool.false_ne_true
        obtain ⟨d1, d2⟩ := dv (r := r) (show C' - 1 - c < C' by omega)
        rw [if_neg (show ¬ b = 1 by omega), if_neg hbt, d1, d2, show ((C' - 1 - c : Nat) : Int) = acX x f k - 1 - c by omega]
    · obtain ⟨d1, d2⟩ := dv (r := r) (show c < C' by omega)
      rw [if_neg g, if_neg (show ¬ (t : Int) < htX k by omega), d1, d2, show ((t - 2 ^ k : Nat) : Int) = t - htX k by omega]
end LWQ
