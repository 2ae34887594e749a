-- uses 24.zar 25.obj 34.gen 38.mod 39.mo2 40.mo3 41.bit 44.mo6 46.mo8 51.moe 53.cla 55.clc 62.clj 64.okm 74.cls 93.tka
/-! Setups: what a text tells. -/
abbrev isN (b : Int → Int) (p : Nat) (x y : Int) : Prop := kd b p = 2 ∧ x ≤ nv b p ∧ nv b p ≤ y
def ecN (b : Int → Int) (p : Nat) : Int := if kd b p = 2 then 2 else 1
abbrev isM (b : Int → Int) (p : Nat) : Prop := kd b p = 1 ∧ en b p - p ≤ 6
def ecM (b : Int → Int) (p : Nat) : Int := if kd b p = 1 then 2 else 1
abbrev pR : Type := Sum (Int × Nat) ((Nat → Int → Int) × Nat)
/-- the sizes of series i, from p on -/
def szP (b : Int → Int) (i : Int) : Nat → (Nat → Int → Int) → (Int → Int) → Nat → pR
  | 0, μ, _, p => .inr (μ, p)
  | f + 1, μ, to, p => if isW b p 632645 then (if isN b (nx b p) 0 9 then (if to (nv b (nx b p)) ≠ 0 ∨ aM μ i (nv b (nx b p)) = 0 then .inl (3, nx b p) else (if isN b (nx b (nx b p)) 0 9999 then szP b i f (up μ 412 (12 + 13 * i + 3 + nv b (nx b p)) (nv b (nx b (nx b p)))) (st1 to (nv b (nx b p)) 1) (nx b (nx b (nx b p))) else .inl (ecN b (nx b (nx b p)), nx b (nx b p)))) else .inl (ecN b (nx b p), nx b p)) else .inr (μ, p)
/-- one series, its word at p -/
def seP (b : Int → Int) (μ : Nat → Int → Int) (p : Nat) : pR :=
  if isW b p 643376307 then (if 5 ≤ μ 412 0 then .inl (4, p) else (if isM b (nx b p) then (if nmF μ (wd b (nx b p)) ≠ -1 then .inl (3, nx b p) else (if isN b (nx b (nx b p)) 1 2000 then (if isN b (nx b (nx b (nx b p))) 1 2000 then szP b (μ 412 0) 11 (cmV μ (wd b (nx b p)) (nv b (nx b (nx b p))) (nv b (nx b (nx b (nx b p))))) (fun _ => 0) (nx b (nx b (nx b (nx b p)))) else .inl (ecN b (nx b (nx b (nx b p))), nx b (nx b (nx b p)))) else .inl (ecN b (nx b (nx b p)), nx b (nx b p)))) else .inl (ecM b (nx b p), nx b p))) else .inl (1, p)
/-- the series, from p on -/
def srP (b : Int → Int) : Nat → (Nat → Int → Int) → Nat → pR
  | 0, μ, p => .inr (μ, p)
  | f + 1, μ, p => if kd b p = 0 then .inr (μ, p) else (if isG b p 59 then (match seP b μ (nx b p) with
    | .inl e => .inl e
    | .inr r => srP b f r.1 r.2) else .inl (1, p))
/-- a setup -/
def suP (b : Int → Int) (μ : Nat → Int → Int) : pR :=
  if isW b (sk b 0) 394692 then (if isN b (nx b (sk b 0)) 0 50 then (if isN b (nx b (nx b (sk b 0))) 1 500 then srP b 6 (up (up μ 412 1 (nv b (nx b (sk b 0)))) 412 2 (nv b (nx b (nx b (sk b 0))))) (nx b (nx b (nx b (sk b 0)))) else .inl (ecN b (nx b (nx b (sk b 0))), nx b (nx b (sk b 0)))) else .inl (ecN b (nx b (sk b 0)), nx b (sk b 0))) else .inl (1, sk b 0)
/-- the numbers while a setup is read -/
def suM (μ : Nat → Int → Int) : Prop := gM μ ∧ (1 ≤ μ 412 2 ∧ μ 412 2 ≤ 500) ∧ zM μ ∧ stZ μ ∧ ∀ k : Int, 3 ≤ k → k < 12 → μ 412 k = 0
theorem suM_cm {μ : Nat → Int → Int} {x a b : Int} (h : suM μ) (hc : μ 412 0 < 5) (a0 : 1 ≤ a) (a1 : a ≤ 2000) (b0 : 1 ≤ b) (b1 : b ≤ 2000) : suM (cmV μ x a b) := by
  obtain ⟨hg, ⟨q0, q1⟩, hz, hs, h3⟩ := h
  have c0 := hg.1
  have e0 : cmV μ x a b 412 0 = μ 412 0 + 1 := cm_0 c0
  refine ⟨⟨by omega, by omega, ?_, ?_, fun i i0 i1 => ⟨?_, fun m m0 m1 => ?_⟩⟩, ?_, fun i i0 i1 => ?_, fun i m i0 i1 m0 m1 => ?_, fun k k0 k1 => ?_⟩
  · rw [cm_o (by omega) (by omega)]; exact hg.2.2.1
  · rw [cm_o (by omega) (by omega)]; exact hg.2.2.2.1
  · rw [e0] at i1
    unfold oM
    by_cases g : i = μ 412 0
    · rw [g, cm_1 c0, cm_2 c0]; omega
    · rw [cm_o (by omega) (by omega), cm_o (by omega) (by omega)]
      exact hg.o i0 (by omega)
  · rw [e0] at i1
    rw [cm_k c0 i0 m0 m1]
    by_cases g : i = μ 412 0
    · rw [hs i m (by omega) (by omega) m0 m1]; omega
    · exact (hg.2.2.2.2 i i0 (by omega)).2 m m0 m1
  · rw [cm_o (by omega) (by omega)]; exact ⟨q0, q1⟩
  · rw [e0] at i1
    by_cases g : i = μ 412 0
    · rw [g, cm_1 c0, cm_2 c0]; omega
    · rw [cm_o (by omega) (by omega), cm_o (by omega) (by omega)]
      exact hz i i0 (by omega)
  · rw [e0] at i0
    rw [cm_k c0 (by omega) m0 m1]
    exact hs i m (by omega) i1 m0 m1
  · rw [cm_o (by omega) (by omega)]
    exact h3 k k0 k1
theorem suM_st {μ : Nat → Int → Int} {i n z : Int} (h : suM μ) (i0 : 0 ≤ i) (i1 : i < μ 412 0) (n0 : 0 ≤ n) (n1 : n < 10) (z0 : 0 ≤ z) (z1 : z ≤ 9999) : suM (up μ 412 (12 + 13 * i + 3 + n) z) := by
  obtain ⟨hg, hr, hz, hs, h3⟩ := h
  refine ⟨gM_stack hg i0 i1 n0 n1 z0 z1, by rw [up_ne (by omega)]; exact hr, zM_up hz hg.2.1 (by omega) (fun j j0 j1 => by omega), stZ_up hs (by omega) (fun j m j0 j1 m0 m1 => by omega), fun k k0 k1 => ?_⟩
  rw [up_ne (by omega)]
  exact h3 k k0 k1
section SRPS
variable {b : Int → Int} {n : Nat}
/-- what a good end of the sizes leaves -/
theorem szP_s (ho : okB b n) {i : Int} : ∀ (f : Nat) (μ : Nat → Int → Int) (to : Int → Int) (p : Nat), p ≤ n → suM μ → 0 ≤ i → i < μ 412 0 → ∀ (μ' : Nat → Int → Int) (p' : Nat), szP b i f μ to p = .inr (μ', p') → suM μ' ∧ p' ≤ n ∧ μ' 412 0 = μ 412 0 := by
  intro f
  induction f with
  | zero =>
    intro μ to p hp hs i0 i1 μ' p' h
    obtain ⟨rfl, rfl⟩ := Prod.mk.inj (Sum.inr.inj h)
    exact ⟨hs, hp, rfl⟩
  | succ f ih =>
    intro μ to p hp hs i0 i1 μ' p' h
    have b1 := (nx_b ho hp).2
    have b2 := (nx_b ho b1).2
    have b3 := (nx_b ho b2).2
    unfold szP at h
    by_cases q1 : isW b p 632645
    · rw [if_pos q1] at h
      by_cases q2 : isN b (nx b p) 0 9
      · rw [if_pos q2] at h
        by_cases q3 : to (nv b (nx b p)) ≠ 0 ∨ aM μ i (nv b (nx b p)) = 0
        · rw [if_pos q3] at h
          exact absurd h (by simp)
        · rw [if_neg q3] at h
          by_cases q4 : isN b (nx b (nx b p)) 0 9999
          · rw [if_pos q4] at h
            obtain ⟨-, y0, y1⟩ := q2
            obtain ⟨-, z0, z1⟩ := q4
            obtain ⟨r1, r2, r3⟩ := ih _ _ _ b3 (suM_st hs i0 i1 y0 (by omega) z0 z1) i0 (by rw [up_ne (by omega)]; exact i1) μ' p' h
            exact ⟨r1, r2, by rw [r3, up_ne (by omega)]⟩
          · rw [if_neg q4] at h
            exact absurd h (by simp)
      · rw [if_neg q2] at h
        exact absurd h (by simp)
    · rw [if_neg q1] at h
      obtain ⟨rfl, rfl⟩ := Prod.mk.inj (Sum.inr.inj h)
      exact ⟨hs, hp, rfl⟩
theorem seP_s (ho : okB b n) {μ : Nat → Int → Int} {p : Nat} (hp : p ≤ n) (hs : suM μ) {μ' : Nat → Int → Int} {p' : Nat} (h : seP b μ p = .inr (μ', p')) : suM μ' ∧ p' ≤ n ∧ μ' 412 0 = μ 412 0 + 1 := by
  have b1 := (nx_b ho hp).2
  have b2 := (nx_b ho b1).2
  have b3 := (nx_b ho b2).2
  have b4 := (nx_b ho b3).2
  unfold seP at h
  split at h
  · split at h
    · exact absurd h (by simp)
    · next q2 =>
      split at h
      · split at h
        · exact absurd h (by simp)
        · split at h
          · next q4 =>
            split at h
            · next q5 =>
              have c0 := hs.1.1
              have hc := suM_cm (x := wd b (nx b p)) hs (by omega) q4.2.1 q4.2.2 q5.2.1 q5.2.2
              have e0 := cm_0 (x := wd b (nx b p)) (a := nv b (nx b (nx b p))) (b := nv b (nx b (nx b (nx b p)))) c0
              obtain ⟨r1, r2, r3⟩ := szP_s ho 11 _ _ _ b4 hc c0 (by omega) μ' p' h
              exact ⟨r1, r2, by rw [r3, e0]⟩
            · exact absurd h (by simp)
          · exact absurd h (by simp)
      · exact absurd h (by simp)
  · exact absurd h (by simp)
theorem srP_s (ho : okB b n) : ∀ (f : Nat) (μ : Nat → Int → Int) (p : Nat), p ≤ n → suM μ → ∀ (μ' : Nat → Int → Int) (p' : Nat), srP b f μ p = .inr (μ', p') → suM μ' ∧ p' ≤ n := by
  intro f
  induction f with
  | zero =>
    intro μ p hp hs μ' p' h
    obtain ⟨rfl, rfl⟩ := Prod.mk.inj (Sum.inr.inj h)
    exact ⟨hs, hp⟩
  | succ f ih =>
    intro μ p hp hs μ' p' h
    unfold srP at h
    split at h
    · obtain ⟨rfl, rfl⟩ := Prod.mk.inj (Sum.inr.inj h)
      exact ⟨hs, hp⟩
    · split at h
      · rcases e : seP b μ (nx b p) with x | ⟨μ1, p1⟩
        · rw [e] at h
          exact absurd h (by simp)
        · rw [e] at h
          obtain ⟨r1, r2, -⟩ := seP_s ho (nx_b ho hp).2 hs e
          exact ih μ1 p1 r2 r1 μ' p' h
      · exact absurd h (by simp)
theorem suM_0 {μ : Nat → Int → Int} {x y : Int} (h : ∀ k : Int, 0 ≤ k → k < 167 → μ 412 k = 0) (x0 : 0 ≤ x) (x1 : x ≤ 50) (y0 : 1 ≤ y) (y1 : y ≤ 500) : suM (up (up μ 412 1 x) 412 2 y) := by
  have e : ∀ k : Int, 0 ≤ k → k < 167 → k ≠ 1 → k ≠ 2 → up (up μ 412 1 x) 412 2 y 412 k = 0 := fun k k0 k1 k2 k3 => by
    rw [up_ne (by omega), up_ne (by omega)]
    exact h k k0 k1
  have e1 : up (up μ 412 1 x) 412 2 y 412 1 = x := by rw [up_ne (by omega), up_eq]
  have e2 : up (up μ 412 1 x) 412 2 y 412 2 = y := up_eq
  have e0 := e 0 (by omega) (by omega) (by omega) (by omega)
  refine ⟨⟨by omega, by omega, by omega, by omega, fun i i0 i1 => by omega⟩, by omega, fun i i0 i1 => by omega, fun i m i0 i1 m0 m1 => ?_, fun k k0 k1 => e k (by omega) (by omega) (by omega) (by omega)⟩
  exact e _ (by omega) (by omega) (by omega) (by omega)
theorem suP_s (ho : okB b n) {μ : Nat → Int → Int} (h0 : ∀ k : Int, 0 ≤ k → k < 167 → μ 412 k = 0) {μ' : Nat → Int → Int} {p' : Nat} (h : suP b μ = .inr (μ', p')) : suM μ' ∧ p' ≤ n := by
  have b0 := (sk_s ho (Nat.zero_le n)).1.2
  have b1 := (nx_b ho b0).2
  have b2 := (nx_b ho b1).2
  have b3 := (nx_b ho b2).2
  unfold suP at h
  split at h
  · split at h
    · next q1 =>
      split at h
      · next q2 =>
        exact srP_s ho 6 _ _ b3 (suM_0 h0 q1.2.1 q1.2.2 q2.2.1 q2.2.2) μ' p' h
      · exact absurd h (by simp)
    · exact absurd h (by simp)
  · exact absurd h (by simp)
end SRPS
