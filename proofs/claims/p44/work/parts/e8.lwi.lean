-- uses 24.zar 25.obj 26.ops 30.rd 31.re 34.gen 38.mod 39.mo2 40.mo3 44.mo6 46.mo8 47.mo9 49.mob 53.cla 62.clj 55.clc e0.lwa e1.lwb e2.lwc e3.lwd e4.lwe e5.lwf e6.lwg e7.lwh
/-! The law's own land and the numbers. -/
abbrev wM (μ : Nat → Int → Int) : Nat → Int → Int := fun i n => (szM μ i n).1
abbrev hM (μ : Nat → Int → Int) : Nat → Int → Int := fun i n => (szM μ i n).2
abbrev kkM (μ : Nat → Int → Int) : Nat → Int → Int := fun i n => kM μ i n
def LM (m : jm_Mem) (P : Nat → Nat) (μ : Nat → Int → Int) : Prop := LH m P (μ 412 0).toNat (μ 412 1) (μ 412 2) (fun k => μ 412 (4 + k)) (wM μ) (hM μ) (kkM μ)
theorem LM_o {μ : Nat → Int → Int} (hg : gM μ) (hr : 1 ≤ μ 412 2 ∧ μ 412 2 ≤ 500) : LHo (μ 412 0).toNat (μ 412 1) (μ 412 2) (wM μ) (hM μ) (kkM μ) := by
  obtain ⟨g0, g1, g2, g3, g4⟩ := hg
  refine ⟨by omega, g2, g3, hr.1, hr.2, fun i hi n n0 n1 => ?_⟩
  obtain ⟨o, k⟩ := g4 i (by omega) (by omega)
  have := szM_b o n
  have := k n n0 n1
  exact ⟨⟨by show 0 ≤ (szM μ i n).1; omega, by show (szM μ i n).1 ≤ 2000; omega⟩, ⟨by show 0 ≤ (szM μ i n).2; omega, by show (szM μ i n).2 ≤ 2000; omega⟩, by show 0 ≤ kM μ i n; omega, by show kM μ i n ≤ 20000; omega⟩
section LWI
variable {μ : Nat → Int → Int}
theorem ft_I {x y : Int} {k n : Nat} (hk : 0 ≤ x) (hy : 0 ≤ y) : ftL (wM μ) (hM μ) (μ 412 1) x y k n = fitI μ k n x y := by
  unfold ftL fitI usE
  show (if min x y ≤ min (max 0 ((szM μ k n).1 - 2 * μ 412 1)) (max 0 ((szM μ k n).2 - 2 * μ 412 1)) ∧ max x y ≤ max (max 0 ((szM μ k n).1 - 2 * μ 412 1)) (max 0 ((szM μ k n).2 - 2 * μ 412 1)) then (1 : Int) else 0) = _
  generalize max 0 ((szM μ k n).1 - 2 * μ 412 1) = a
  generalize max 0 ((szM μ k n).2 - 2 * μ 412 1) = b
  split <;> split <;> omega
theorem sup_I {i : Nat} : ∀ n : Nat, supL (wM μ i) (hM μ i) (kkM μ i) n = supM μ i (n + 1) := by
  intro n
  induction n with
  | zero =>
    show (if (szM μ i 0).1 * (szM μ i 0).2 = 0 then 0 else min 9999 (kM μ i 0)) = if aM μ i ((0 : Nat) : Int) = 0 then 0 else min 9999 (kM μ i ((0 : Nat) : Int) + 2 * 0)
    rw [show ((0 : Nat) : Int) = 0 from rfl]
    unfold aM
    split <;> omega
  | succ n ih =>
    show (if (szM μ i ((n : Int) + 1)).1 * (szM μ i ((n : Int) + 1)).2 = 0 then 0 else min 9999 (kM μ i ((n : Int) + 1) + 2 * supL (wM μ i) (hM μ i) (kkM μ i) n)) = if aM μ i ((n + 1 : Nat) : Int) = 0 then 0 else min 9999 (kM μ i ((n + 1 : Nat) : Int) + 2 * supM μ i (n + 1))
    rw [ih]
    rfl
/-- areas become less -/
theorem hv_lt {p : Int × Int} (h : 0 ≤ p.1 ∧ p.1 ≤ 2000 ∧ 0 ≤ p.2 ∧ p.2 ≤ 2000) (n : Nat) (hz : 0 < (hv p (n + 1)).1 * (hv p (n + 1)).2) : (hv p (n + 1)).1 * (hv p (n + 1)).2 < (hv p n).1 * (hv p n).2 := by
  have hb := hv_b h n
  have e : hv p (n + 1) = hf (hv p n) := rfl
  rw [e] at hz ⊢
  generalize hv p n = q at *
  obtain ⟨a, b⟩ := q
  dsimp only at hb
  unfold hf at hz ⊢
  split at hz
  · exact absurd hz (by decide)
  · next g =>
    rw [if_neg g]
    unfold hf1 at hz g ⊢
    dsimp only at hz g ⊢
    split
    · next c =>
      rw [if_pos c] at g hz
      dsimp only at g hz ⊢
      have h1 : a * (b / 2) ≤ a * (b - 1) := Int.mul_le_mul_of_nonneg_left (by omega) (by omega)
      rw [Int.mul_sub] at h1
      omega
    · next c =>
      rw [if_neg c] at g hz
      dsimp only at g hz ⊢
      have h1 : (a / 2) * b ≤ (a - 1) * b := Int.mul_le_mul_of_nonneg_right (by omega) (by omega)
      rw [Int.sub_mul] at h1
      omega
theorem aM_lt {i : Int} (ho : oM μ i) : ∀ (j n : Nat), 0 < aM μ i ((n + j + 1 : Nat) : Int) → aM μ i ((n + j + 1 : Nat) : Int) < aM μ i n := by
  intro j
  induction j with
  | zero => intro n h; exact hv_lt (p := (μ 412 (12 + 13 * i + 1), μ 412 (12 + 13 * i + 2))) ho n h
  | succ j ih =>
    intro n h
    have h1 : aM μ i ((n + (j + 1) + 1 : Nat) : Int) < aM μ i ((n + j + 1 : Nat) : Int) := hv_lt (p := (μ 412 (12 + 13 * i + 1), μ 412 (12 + 13 * i + 2))) ho (n + j + 1) h
    have h2 := ih n (by omega)
    omega
/-- the last one of which C holds -/
def lcO (C : Nat → Prop) [DecidablePred C] : Nat → Option Nat
  | 0 => none
  | N + 1 => if C N then some N else lcO C N
def hdO (C : Nat → Prop) [DecidablePred C] : Nat → Option Nat
  | 0 => none
  | j + 1 => match hdO C j with
    | some n => some n
    | none => if C (9 - j) then some (9 - j) else none
theorem lc_hd {C : Nat → Prop} [DecidablePred C] : ∀ j : Nat, j ≤ 10 → lcO C 10 = match hdO C j with | some n => some n | none => lcO C (10 - j) := by
  intro j
  induction j with
  | zero => intro _; rfl
  | succ j ih =>
    intro hj
    rw [ih (by omega)]
    show _ = match (match hdO C j with | some n => some n | none => if C (9 - j) then some (9 - j) else none) with | some n => some n | none => lcO C (10 - (j + 1))
    cases hdO C j with
    | some n => rfl
    | none =>
      dsimp only
      rw [show 10 - j = (9 - j) + 1 by omega, show 10 - (j + 1) = 9 - j by omega]
      show (if C (9 - j) then some (9 - j) else lcO C (9 - j)) = _
      split <;> rfl
theorem hd_C {C : Nat → Prop} [DecidablePred C] : ∀ (j : Nat), j ≤ 10 → ∀ n, hdO C j = some n → C n ∧ 10 - j ≤ n ∧ n < 10 := by
  intro j
  induction j with
  | zero => intro _ n h; cases h
  | succ j ih =>
    intro hj n h
    have h : (match hdO C j with | some n => some n | none => if C (9 - j) then some (9 - j) else none) = some n := h
    cases hh : hdO C j with
    | some n' =>
      rw [hh] at h
      cases h
      obtain ⟨a, b, c⟩ := ih (by omega) n hh
      exact ⟨a, by omega, c⟩
    | none =>
      rw [hh] at h
      dsimp only at h
      split at h
      · next g => cases h; exact ⟨g, by omega, by omega⟩
      · cases h
theorem lc_C {C : Nat → Prop} [DecidablePred C] : ∀ (N n : Nat), lcO C N = some n → C n ∧ n < N := by
  intro N
  induction N with
  | zero => intro n h; cases h
  | succ N ih =>
    intro n h
    have h : (if C N then some N else lcO C N) = some n := h
    split at h
    · next g => cases h; exact ⟨g, by omega⟩
    · obtain ⟨a, b⟩ := ih n h; exact ⟨a, by omega⟩
/-- may this size be taken -/
abbrev caC (μ : Nat → Int → Int) (x y q : Int) (k n : Nat) : Prop := fitI μ k n x y = 1 ∧ q ≤ supM μ k (n + 1)
/-- the series' own best against what was found -/
abbrev btC (μ : Nat → Int → Int) (k : Nat) (st : Int × Int) (n : Nat) : Prop := st.1 = -1 ∨ aM μ k n < aM μ st.1 st.2
theorem ne_in {x y q : Int} {k : Nat} {st : Int × Int} (hs : st.1 ≠ k) (hd : ∀ a b : Nat, a < b → b < 10 → caC μ x y q k a → caC μ x y q k b → aM μ k b < aM μ k a) : ∀ N : Nat, N ≤ 10 → fo (fun s n => nrG μ x y q s k n) st N = match lcO (caC μ x y q k) N with | some n => if btC μ k st n then ((k : Int), (n : Int)) else st | none => st := by
  intro N
  induction N with
  | zero => intro _; rfl
  | succ N ih =>
    intro hN
    show nrG μ x y q (fo (fun s n => nrG μ x y q s k n) st N) k N = _
    rw [ih (by omega)]
    have el : lcO (caC μ x y q k) (N + 1) = if caC μ x y q k N then some N else lcO (caC μ x y q k) N := rfl
    rw [el]
    by_cases g : caC μ x y q k N
    · rw [if_pos g]
      dsimp only
      cases hl : lcO (caC μ x y q k) N with
      | none =>
        dsimp only
        unfold nrG nrI
        by_cases b : btC μ k st N
        · rw [if_pos b, if_pos ⟨g.1, g.2, if_pos (b.imp id Or.inl)⟩]
        · rw [if_neg b, if_neg]
          rintro ⟨-, -, t⟩
          split at t
          · next u => exact u.elim (fun u => b (Or.inl u)) fun u => u.elim (fun u => b (Or.inr u)) fun u => hs u.2.symm
          · cases t
      | some n =>
        obtain ⟨c1, c2⟩ := lc_C _ _ hl
        have := hd n N c2 (by omega) c1 g
        dsimp only
        by_cases b : btC μ k st n
        · rw [if_pos b, if_pos (show btC μ k st N from b.imp id fun u => by omega)]
          unfold nrG nrI
          rw [if_pos ⟨g.1, g.2, if_pos (Or.inr (Or.inl this))⟩]
        · rw [if_neg b]
          unfold nrG nrI
          by_cases b2 : btC μ k st N
          · rw [if_pos b2, if_pos ⟨g.1, g.2, if_pos (b2.imp id Or.inl)⟩]
          · rw [if_neg b2, if_neg]
            rintro ⟨-, -, t⟩
            split at t
            · next u => exact u.elim (fun u => b2 (Or.inl u)) fun u => u.elim (fun u => b2 (Or.inr u)) fun u => hs u.2.symm
            · cases t
    · rw [if_neg g]
      unfold nrG
      rw [if_neg fun t => g ⟨t.1, t.2.1⟩]
theorem ne_out {x y q : Int} (hx : 0 ≤ x) (hy : 0 ≤ y) {k : Nat} {st : Int × Int} (hd : ∀ a b : Nat, a < b → b < 10 → caC μ x y q k a → caC μ x y q k b → aM μ k b < aM μ k a) : ∀ j : Nat, j ≤ 10 → fo (fun s n => neG (wM μ) (hM μ) (kkM μ) (μ 412 1) x y q s k n) st j = match hdO (caC μ x y q k) j with | some n => if aM μ k n < st.2 then (100 * (k : Int) + n, aM μ k n) else st | none => st := by
  intro j
  induction j with
  | zero => intro _; rfl
  | succ j ih =>
    intro hj
    show neG (wM μ) (hM μ) (kkM μ) (μ 412 1) x y q (fo (fun s n => neG (wM μ) (hM μ) (kkM μ) (μ 412 1) x y q s k n) st j) k j = _
    rw [ih (by omega)]
    have el : hdO (caC μ x y q k) (j + 1) = match hdO (caC μ x y q k) j with | some n => some n | none => if caC μ x y q k (9 - j) then some (9 - j) else none := rfl
    rw [el]
    unfold neG
    rw [ft_I hx hy, sup_I]
    have ea : wM μ k ((9 - j : Nat) : Int) * hM μ k ((9 - j : Nat) : Int) = aM μ k ((9 - j : Nat) : Int) := rfl
    rw [ea]
    cases hl : hdO (caC μ x y q k) j with
    | none =>
      dsimp only
      by_cases g : caC μ x y q k (9 - j)
      · rw [if_pos g]
        dsimp only
        by_cases b : aM μ k ((9 - j : Nat) : Int) < st.2
        · rw [if_pos b, if_pos ⟨g.1, g.2, b⟩]
        · rw [if_neg b, if_neg fun t => b t.2.2]
      · rw [if_neg g, if_neg fun t => g ⟨t.1, t.2.1⟩]
    | some n =>
      obtain ⟨c1, c2, c3⟩ := hd_C _ (by omega) _ hl
      dsimp only
      refine if_neg ?_
      rintro ⟨t1, t2, t3⟩
      have := hd (9 - j) n (by omega) c3 ⟨t1, t2⟩ c1
      split at t3
      · dsimp only at t3; omega
      · omega
/-- both ways find the same size -/
theorem ne_same {x y q : Int} (hg : gM μ) (hx : 1 ≤ x) (hy : 1 ≤ y) : (fo2 (neG (wM μ) (hM μ) (kkM μ) (μ 412 1) x y q) (-1, 9223372036854775807) (μ 412 0).toNat).1 = (if (nrA μ x y q).1 = -1 then -1 else 100 * (nrA μ x y q).1 + (nrA μ x y q).2) := by
  have key : ∀ m : Nat, m ≤ (μ 412 0).toNat → (fo (fun a k => fo (fun a n => nrG μ x y q a k n) a 10) (-1, -1) m = (-1, -1) ∧ fo (fun a k => fo (fun a n => neG (wM μ) (hM μ) (kkM μ) (μ 412 1) x y q a k n) a 10) (-1, 9223372036854775807) m = (-1, 9223372036854775807)) ∨ ∃ i n : Nat, i < m ∧ n < 10 ∧ fo (fun a k => fo (fun a n => nrG μ x y q a k n) a 10) (-1, -1) m = ((i : Int), (n : Int)) ∧ fo (fun a k => fo (fun a n => neG (wM μ) (hM μ) (kkM μ) (μ 412 1) x y q a k n) a 10) (-1, 9223372036854775807) m = (100 * (i : Int) + n, aM μ i n) := by
    intro m
    induction m with
    | zero => intro _; exact Or.inl ⟨rfl, rfl⟩
    | succ m ih =>
      intro hm
      obtain ⟨oo, -⟩ := hg.2.2.2.2 m (by omega) (by omega)
      have hd : ∀ a b : Nat, a < b → b < 10 → caC μ x y q m a → caC μ x y q m b → aM μ m b < aM μ m a := by
        intro a b hab hb _ cb
        have hz : 0 < aM μ m b := by
          have h1 := cb.1
          have h2 := szM_b oo b
          have h3 := hg.2.2.1
          unfold fitI usE at h1
          split at h1
          · next u => exact Int.mul_pos (by omega) (by omega)
          · cases h1
        have := aM_lt oo (b - a - 1) a
        rw [show a + (b - a - 1) + 1 = b by omega] at this
        exact this hz
      have hM4 : ∀ n : Nat, aM μ m n < 9223372036854775807 := fun n => by have := aM_b oo n; omega
      show (fo (fun a n => nrG μ x y q a m n) (fo (fun a k => fo (fun a n => nrG μ x y q a k n) a 10) (-1, -1) m) 10 = _ ∧ fo (fun a n => neG (wM μ) (hM μ) (kkM μ) (μ 412 1) x y q a m n) (fo (fun a k => fo (fun a n => neG (wM μ) (hM μ) (kkM μ) (μ 412 1) x y q a k n) a 10) (-1, 9223372036854775807) m) 10 = _) ∨ ∃ i n : Nat, i < m + 1 ∧ n < 10 ∧ fo (fun a n => nrG μ x y q a m n) (fo (fun a k => fo (fun a n => nrG μ x y q a k n) a 10) (-1, -1) m) 10 = _ ∧ fo (fun a n => neG (wM μ) (hM μ) (kkM μ) (μ 412 1) x y q a m n) (fo (fun a k => fo (fun a n => neG (wM μ) (hM μ) (kkM μ) (μ 412 1) x y q a k n) a 10) (-1, 9223372036854775807) m) 10 = _
      have hlh : lcO (caC μ x y q m) 10 = hdO (caC μ x y q m) 10 := by
        rw [lc_hd 10 (Nat.le_refl _)]
        cases hdO (caC μ x y q m) 10 <;> rfl
      rcases ih (by omega) with ⟨a1, a2⟩ | ⟨i, n, i1, n1, a1, a2⟩
      · rw [a1, a2, ne_in (by show (-1 : Int) ≠ m; omega) hd 10 (Nat.le_refl _), ne_out (by omega) (by omega) hd 10 (Nat.le_refl _), hlh]
        cases hh : hdO (caC μ x y q m) 10 with
        | none => exact Or.inl ⟨rfl, rfl⟩
        | some n =>
          obtain ⟨-, -, c3⟩ := hd_C _ (by omega) _ hh
          exact Or.inr ⟨m, n, by omega, c3, if_pos (Or.inl rfl), if_pos (hM4 n)⟩
      · rw [a1, a2, ne_in (by show (i : Int) ≠ m; omega) hd 10 (Nat.le_refl _), ne_out (by omega) (by omega) hd 10 (Nat.le_refl _), hlh]
        cases hh : hdO (caC μ x y q m) 10 with
        | none => exact Or.inr ⟨i, n, by omega, n1, rfl, rfl⟩
        | some n' =>
          obtain ⟨-, -, c3⟩ := hd_C _ (by omega) _ hh
          dsimp only
          by_cases b : aM μ m n' < aM μ i n
          · exact Or.inr ⟨m, n', by omega, c3, if_pos (Or.inr b), if_pos b⟩
          · refine Or.inr ⟨i, n, by omega, n1, if_neg ?_, if_neg b⟩
            rintro (u | u)
            · exact absurd u (by show (i : Int) ≠ -1; omega)
            · exact b u
  have h := key _ (Nat.le_refl _)
  unfold nrA nrM fo2
  rcases h with ⟨a1, a2⟩ | ⟨i, n, i1, n1, a1, a2⟩
  · rw [a1, a2]; rfl
  · rw [a1, a2, if_neg (by show (i : Int) ≠ -1; omega)]
end LWI
