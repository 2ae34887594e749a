-- uses 24.zar 25.obj 26.ops 30.rd 31.re 34.gen 41.bit 07.rel c0.foa c1.fob e0.lwa e1.lwb e2.lwc e4.lwe f3.lwn f4.lwo
/-! One fold. -/
abbrev l13 (s p nx : Nat) (n f R C dn ac k b tr tc : Int) (t : jm_Loc) : jm_Loc := some (.ref s) :: some (.int (i3 n)) :: some (.int (i3 f)) :: some (.int (i3 R)) :: some (.int (i3 C)) :: some (.ref p) :: some (.int (i3 dn)) :: some (.int (i3 ac)) :: some (.int (i3 k)) :: some (.int (i3 b)) :: some (.ref nx) :: some (.int (i3 tr)) :: some (.int (i3 tc)) :: t
/-- the places gone through up to t -/
def FT (mB m : jm_Mem) (p e N ht : Nat) (a eP : Nat → Nat) (Q : Nat → Nat → Int) (nx t : Nat) (io iu : Nat → Nat) : Prop := ∃ en bN bE QB, PL m p e N ht a eP Q ∧ PL m nx en t (2 * ht) bN bE QB ∧ frK mB m (fun _ => False) (t * (2 * ht + 2) + 1) ∧ mB.1 ≤ en ∧ ∀ j, j < t → ∀ k, k < 2 * ht → QB j k = foQ ht (Q (io j)) (Q (iu j)) k
section LWP
variable {m mB m' : jm_Mem} {d p e N ht nx : Nat} {a eP : Nat → Nat} {Q : Nat → Nat → Int} {io iu : Nat → Nat}
theorem isLs_n {cap : Nat} {n : Nat} (h : isLs m p e cap n a) (hn : 1 ≤ n) : e < m.1 := by
  obtain ⟨-, h2, -, -, h⟩ := h
  rcases h with ⟨h, -, -⟩ | ⟨-, h, -⟩
  · omega
  · exact h
theorem PL_cg {n : Nat} {Q' : Nat → Nat → Int} (h : PL m p e n ht a eP Q) (hq : ∀ j, j < n → ∀ k, k < ht → Q j k = Q' j k) : PL m p e n ht a eP Q' := ⟨h.1, fun j hj => ⟨isP_cg (h.2 j hj).1 (hq j hj), (h.2 j hj).2⟩⟩
theorem FT_s {s t : Nat} {nn f R C dn ac k b tr tc r c : Int} {x15 x16 x17 x18 x19 : Option Value} (h : FT mB m p e N ht a eP Q nx t io iu) (ht1 : 1 ≤ ht) (ht2 : 2 * ht ≤ 32) (ht3 : t < 40) (hN0 : 1 ≤ N) (hN : N ≤ 1000) (hQ : ∀ j, j < N → ∀ k, k < ht → 0 ≤ Q j k ∧ Q j k < 64) (hio : io t < N) (hiu : iu t < N) (h1 : (b = 1 ∧ (io t : Int) = (dn - 1 - r) * ac + c) ∨ (b = 0 ∧ (io t : Int) = r * ac + ac - 1 - c)) (h2 : (iu t : Int) = r * ac + c) (hm : mB.1 < 700000) (hd : mB.2.1 jm_dcp = jm_dcE) (hnx : mB.1 ≤ nx) (ho : p < mB.1 ∧ e < mB.1 ∧ ∀ j, j < N → a j < mB.1 ∧ eP j < mB.1) :
    ∃ m' y15 y16 y17 y18 y19, jm_R (jm_env (d + 5)) jmM_L_leaves 177 (l15 s p nx nn f R C dn ac k b tr tc r c [x15, x16, x17, x18, x19]) [] m = jm_R (jm_env (d + 5)) jmM_L_leaves 170 (l15 s p nx nn f R C dn ac k b tr tc r (c + 1) [y15, y16, y17, y18, y19]) [] m' ∧ FT mB m' p e N ht a eP Q nx (t + 1) io iu := by
  obtain ⟨en, bN, bE, QB, q1, q2, q3, q4, q5⟩ := h
  have hb : t * (2 * ht + 2) ≤ 40 * 34 := Nat.mul_le_mul (by omega) (by omega)
  have hmm := q3.2.1
  have hnxm : nx < m.1 := by
    obtain ⟨⟨c0, w0⟩, -⟩ := q2
    exact w0.2.2.2.1
  have hdc : 1000000 ≤ jm_dcp := by decide
  obtain ⟨m', en', A, eA, y15, y16, y17, y18, y19, r1, r2, r3, r4, r5⟩ := sP_place (d := d) (s := s) (nn := nn) (f := f) (R := R) (C := C) (k := k) (tr := tr) (tc := tc) (x15 := x15) (x16 := x16) (x17 := x17) (x18 := x18) (x19 := x19) q1 q2 ht1 ht2 (by omega) hQ hio hiu h1 h2 hN (by omega) ((q3.2.2.2.2 _ (Or.inr hdc) id).trans hd) (by omega) (Or.inl (by omega)) (by omega) (Or.inl (by omega)) (fun j hj => by have := ho.2.2 j hj; exact ⟨by omega, Or.inl (by omega), by omega, Or.inl (by omega)⟩)
  refine ⟨m', y15, y16, y17, y18, y19, r1, en', _, _, _, r2, r3, ?_, ?_, ?_⟩
  · refine frK_m (frK_u q3 r5 (fun j hj q => ?_)) (fun _ _ q => q) (by rw [Nat.add_mul]; omega)
    rcases q with q | ⟨q, q'⟩
    · omega
    · rcases hj with y | y
      · omega
      · omega
  · have := q3.1
    rcases r4 with q | q <;> omega
  · intro j hj k hk
    by_cases g : j = t
    · rw [if_pos g, g]
    · rw [if_neg g]
      exact q5 j (by omega) k hk
/-- one row of places -/
theorem FT_row {s : Nat} {nn f R C dn k b : Int} {tr tc ac r : Nat} {x15 x16 x17 x18 x19 : Option Value} (h : FT mB m p e N ht a eP Q nx (r * tc) io iu) (ht1 : 1 ≤ ht) (ht2 : 2 * ht ≤ 32) (hr : r < tr) (htt : tr * tc ≤ 32) (htc : tc ≤ 32) (hN0 : 1 ≤ N) (hN : N ≤ 1000) (hQ : ∀ j, j < N → ∀ k, k < ht → 0 ≤ Q j k ∧ Q j k < 64)
    (hi : ∀ c, c < tc → io (r * tc + c) < N ∧ iu (r * tc + c) < N ∧ ((b = 1 ∧ (io (r * tc + c) : Int) = (dn - 1 - r) * ac + c) ∨ (b = 0 ∧ (io (r * tc + c) : Int) = r * ac + ac - 1 - c)) ∧ (iu (r * tc + c) : Int) = r * ac + c)
    (hm : mB.1 < 700000) (hd : mB.2.1 jm_dcp = jm_dcE) (hnx : mB.1 ≤ nx) (ho : p < mB.1 ∧ e < mB.1 ∧ ∀ j, j < N → a j < mB.1 ∧ eP j < mB.1) :
    ∀ c : Nat, c ≤ tc → ∃ m' y15 y16 y17 y18 y19, jm_R (jm_env (d + 5)) jmM_L_leaves 170 (l15 s p nx nn f R C dn ac k b tr tc r 0 [x15, x16, x17, x18, x19]) [] m = jm_R (jm_env (d + 5)) jmM_L_leaves 170 (l15 s p nx nn f R C dn ac k b tr tc r c [y15, y16, y17, y18, y19]) [] m' ∧ FT mB m' p e N ht a eP Q nx (r * tc + c) io iu := by
  intro c
  induction c with
  | zero => intro _; exact ⟨m, x15, x16, x17, x18, x19, rfl, h⟩
  | succ c ih =>
    intro hc
    obtain ⟨m1, y15, y16, y17, y18, y19, e1, h1⟩ := ih (by omega)
    obtain ⟨i1, i2, i3', i4⟩ := hi c (by omega)
    have hlt : r * tc + c < tr * tc := by
      have : (r + 1) * tc ≤ tr * tc := Nat.mul_le_mul_right _ (by omega)
      rw [Nat.add_mul] at this
      omega
    obtain ⟨m2, z15, z16, z17, z18, z19, e2, h2⟩ := FT_s (d := d) (s := s) (nn := nn) (f := f) (R := R) (C := C) (k := k) (tr := tr) (tc := tc) (x15 := y15) (x16 := y16) (x17 := y17) (x18 := y18) (x19 := y19) h1 ht1 ht2 (by omega) hN0 hN hQ i1 i2 i3' i4 hm hd hnx ho
    refine ⟨m2, z15, z16, z17, z18, z19, ?_, h2⟩
    rw [e1, bL_leaves_170, ie_le (by omega) (by omega) (by omega) (by omega), if_neg (by omega)]
    exact e2
/-- all rows -/
theorem FT_all {s : Nat} {nn f R C dn k b : Int} {tr tc ac : Nat} {x14 x15 x16 x17 x18 x19 : Option Value} (h : FT mB m p e N ht a eP Q nx 0 io iu) (ht1 : 1 ≤ ht) (ht2 : 2 * ht ≤ 32) (htt : tr * tc ≤ 32) (htc : tc ≤ 32) (htr : tr ≤ 32) (hN0 : 1 ≤ N) (hN : N ≤ 1000) (hQ : ∀ j, j < N → ∀ k, k < ht → 0 ≤ Q j k ∧ Q j k < 64)
    (hi : ∀ r, r < tr → ∀ c, c < tc → io (r * tc + c) < N ∧ iu (r * tc + c) < N ∧ ((b = 1 ∧ (io (r * tc + c) : Int) = (dn - 1 - r) * ac + c) ∨ (b = 0 ∧ (io (r * tc + c) : Int) = r * ac + ac - 1 - c)) ∧ (iu (r * tc + c) : Int) = r * ac + c)
    (hm : mB.1 < 700000) (hd : mB.2.1 jm_dcp = jm_dcE) (hnx : mB.1 ≤ nx) (ho : p < mB.1 ∧ e < mB.1 ∧ ∀ j, j < N → a j < mB.1 ∧ eP j < mB.1) :
    ∀ r : Nat, r ≤ tr → ∃ m' y14 y15 y16 y17 y18 y19, jm_R (jm_env (d + 5)) jmM_L_leaves 160 (l13 s p nx nn f R C dn ac k b tr tc [some (.int (i3 0)), x14, x15, x16, x17, x18, x19]) [] m = jm_R (jm_env (d + 5)) jmM_L_leaves 160 (l13 s p nx nn f R C dn ac k b tr tc [some (.int (i3 r)), y14, y15, y16, y17, y18, y19]) [] m' ∧ FT mB m' p e N ht a eP Q nx (r * tc) io iu := by
  intro r
  induction r with
  | zero => intro _; exact ⟨m, x14, x15, x16, x17, x18, x19, rfl, by rw [Nat.zero_mul]; exact h⟩
  | succ r ih =>
    intro hr
    obtain ⟨m1, y14, y15, y16, y17, y18, y19, e1, h1⟩ := ih (by omega)
    obtain ⟨m2, z15, z16, z17, z18, z19, e2, h2⟩ := FT_row (d := d) (s := s) (nn := nn) (f := f) (R := R) (C := C) (dn := dn) (k := k) (b := b) (tr := tr) (tc := tc) (ac := ac) (x15 := y15) (x16 := y16) (x17 := y17) (x18 := y18) (x19 := y19) h1 ht1 ht2 (by omega) htt htc hN0 hN hQ (hi r (by omega)) hm hd hnx ho tc (Nat.le_refl _)
    refine ⟨m2, some (.int (i3 tc)), z15, z16, z17, z18, z19, ?_, by rw [Nat.add_mul, Nat.one_mul]; exact h2⟩
    rw [e1, bL_leaves_160, ie_le (by omega) (by omega) (by omega) (by omega), if_neg (by omega), bL_leaves_167]
    refine e2.trans ?_
    rw [bL_leaves_170, ie_le (by omega) (by omega) (by omega) (by omega), if_pos (by omega), bL_leaves_365, i3_add]
    rfl
end LWP
