-- uses 24.zar 25.obj 26.ops
/-! Ends and loops. -/
theorem fin_i {x y : Int} {m : jm_Mem} (h : x = y) : (some (.inl (some (.int (i3 x))), m) : Option jm_Res) = some (.inl (some (.int (i3 y))), m) := by rw [h]
theorem fin_l {x y : Int} {m : jm_Mem} (h : x = y) : (some (.inl (some (.long (i6 x))), m) : Option jm_Res) = some (.inl (some (.long (i6 y))), m) := by rw [h]
/-- the first place from k on, of r -/
def fnd {α : Type} (p : Nat → Prop) [DecidablePred p] (G : Nat → α) (e : α) : Nat → Nat → α
  | _, 0 => e
  | k, r + 1 => if p k then G k else fnd p G e (k + 1) r
theorem ch_f {α : Type} {p : Nat → Prop} [DecidablePred p] (F G : Nat → α) (e : α) (n : Nat) (h : ∀ k, k < n → F k = if p k then G k else F (k + 1)) (he : F n = e) : F 0 = fnd p G e 0 n := by
  have : ∀ r k, k + r = n → F k = fnd p G e k r := by
    intro r
    induction r with
    | zero => intro k hk; rw [show k = n by omega, he]; rfl
    | succ r ih => intro k hk; rw [h k (by omega), ih (k + 1) (by omega)]; rfl
  exact this n 0 (by omega)
theorem fnd_map {α β : Type} {p : Nat → Prop} [DecidablePred p] (f : α → β) (G : Nat → α) (e : α) : ∀ (r k : Nat), fnd p (fun j => f (G j)) (f e) k r = f (fnd p G e k r) := by
  intro r
  induction r with
  | zero => intro k; rfl
  | succ r ih => intro k; unfold fnd; rw [ih]; split <;> rfl
theorem fnd_congr {α : Type} {p q : Nat → Prop} [DecidablePred p] [DecidablePred q] {G G' : Nat → α} {e : α} : ∀ (r k : Nat), (∀ j, k ≤ j → j < k + r → (p j ↔ q j)) → (∀ j, k ≤ j → j < k + r → G j = G' j) → fnd p G e k r = fnd q G' e k r := by
  intro r
  induction r with
  | zero => intro k _ _; rfl
  | succ r ih =>
    intro k h hg
    unfold fnd
    rw [ih (k + 1) (fun j h1 h2 => h j (by omega) (by omega)) (fun j h1 h2 => hg j (by omega) (by omega)), hg k (by omega) (by omega)]
    by_cases hp : p k
    · rw [if_pos hp, if_pos ((h k (by omega) (by omega)).mp hp)]
    · rw [if_neg hp, if_neg (fun q => hp ((h k (by omega) (by omega)).mpr q))]
theorem fnd_P {α : Type} {p : Nat → Prop} [DecidablePred p] {G : Nat → α} {e : α} {P : α → Prop} : ∀ (r k : Nat), P e → (∀ j, k ≤ j → j < k + r → p j → P (G j)) → P (fnd p G e k r) := by
  intro r
  induction r with
  | zero => intro k h _; exact h
  | succ r ih =>
    intro k h hg
    unfold fnd
    by_cases hp : p k
    · rw [if_pos hp]; exact hg k (by omega) (by omega) hp
    · rw [if_neg hp]; exact ih (k + 1) h (fun j h1 h2 => hg j (by omega) (by omega))
theorem ch_a {α : Type} {p : Nat → Prop} [DecidablePred p] (F : Nat → α) (e0 e1 : α) (n : Nat) (h : ∀ k, k < n → F k = if p k then F (k + 1) else e0) (he : F n = e1) : F 0 = if ∀ k, k < n → p k then e1 else e0 := by
  have : ∀ r k, k + r = n → F k = if ∀ j, j < n → k ≤ j → p j then e1 else e0 := by
    intro r
    induction r with
    | zero =>
      intro k hk
      rw [show k = n by omega, he, if_pos (fun j h1 h2 => by omega)]
    | succ r ih =>
      intro k hk
      rw [h k (by omega), ih (k + 1) (by omega)]
      by_cases hp : p k
      · rw [if_pos hp]
        by_cases hq : ∀ j, j < n → k + 1 ≤ j → p j
        · rw [if_pos hq, if_pos]
          intro j h1 h2
          by_cases e : j = k
          · rw [e]; exact hp
          · exact hq j h1 (by omega)
        · rw [if_neg hq, if_neg (fun q => hq (fun j h1 h2 => q j h1 (by omega)))]
      · rw [if_neg hp, if_neg (fun q => hp (q k (by omega) (by omega)))]
  rw [this n 0 (by omega)]
  by_cases hq : ∀ k, k < n → p k
  · rw [if_pos hq, if_pos (fun j h1 _ => hq j h1)]
  · rw [if_neg hq, if_neg (fun q => hq (fun j h1 => q j h1 (by omega)))]
/-- a row gone through -/
def fo {α : Type} (g : α → Nat → α) (a : α) : Nat → α
  | 0 => a
  | n + 1 => g (fo g a n) n
theorem fo_P {α : Type} {g : α → Nat → α} {a : α} {P : Nat → α → Prop} (h0 : P 0 a) (n : Nat) (hs : ∀ k x, k < n → P k x → P (k + 1) (g x k)) : P n (fo g a n) := by
  induction n with
  | zero => exact h0
  | succ n ih => exact hs n _ (by omega) (ih (fun k x hk hx => hs k x (by omega) hx))
theorem fo_congr {α : Type} {g g' : α → Nat → α} {a : α} (n : Nat) (h : ∀ k x, k < n → g x k = g' x k) : fo g a n = fo g' a n := by
  induction n with
  | zero => rfl
  | succ n ih =>
    show g (fo g a n) n = g' (fo g' a n) n
    rw [ih (fun k x hk => h k x (by omega)), h n _ (by omega)]
/-- of the ten sizes -/
def tr (f : Int → Int) (n : Int) : Int := if 0 ≤ n ∧ n < 10 then f n else 0
theorem tr_in {f : Int → Int} {n : Int} (h0 : 0 ≤ n) (h1 : n < 10) : tr f n = f n := if_pos ⟨h0, h1⟩
theorem tr_out {f : Int → Int} {n : Int} (h : n < 0 ∨ 10 ≤ n) : tr f n = 0 := if_neg (by omega)
/-- the sides after a halving -/
def hf1 (p : Int × Int) : Int × Int := if p.1 ≤ p.2 then (p.1, p.2 / 2) else (p.1 / 2, p.2)
def hf (p : Int × Int) : Int × Int := if (hf1 p).1 = 0 ∨ (hf1 p).2 = 0 then (0, 0) else hf1 p
def hv (p : Int × Int) : Nat → Int × Int
  | 0 => p
  | n + 1 => hf (hv p n)
theorem hf1_b {p : Int × Int} (h : 0 ≤ p.1 ∧ p.1 ≤ 2000 ∧ 0 ≤ p.2 ∧ p.2 ≤ 2000) : 0 ≤ (hf1 p).1 ∧ (hf1 p).1 ≤ 2000 ∧ 0 ≤ (hf1 p).2 ∧ (hf1 p).2 ≤ 2000 := by
  unfold hf1
  split <;> dsimp only <;> omega
theorem hf_b {p : Int × Int} (h : 0 ≤ p.1 ∧ p.1 ≤ 2000 ∧ 0 ≤ p.2 ∧ p.2 ≤ 2000) : 0 ≤ (hf p).1 ∧ (hf p).1 ≤ 2000 ∧ 0 ≤ (hf p).2 ∧ (hf p).2 ≤ 2000 := by
  unfold hf
  split
  · exact ⟨by decide, by decide, by decide, by decide⟩
  · exact hf1_b h
theorem hv_b {p : Int × Int} (h : 0 ≤ p.1 ∧ p.1 ≤ 2000 ∧ 0 ≤ p.2 ∧ p.2 ≤ 2000) : ∀ n, 0 ≤ (hv p n).1 ∧ (hv p n).1 ≤ 2000 ∧ 0 ≤ (hv p n).2 ∧ (hv p n).2 ≤ 2000 := by
  intro n
  induction n with
  | zero => exact h
  | succ n ih => exact hf_b ih
/-- both sides are void, or none -/
theorem hv_z {p : Int × Int} (h : p.1 = 0 ↔ p.2 = 0) : ∀ n, (hv p n).1 = 0 ↔ (hv p n).2 = 0 := by
  intro n
  induction n with
  | zero => exact h
  | succ n ih =>
    show (hf (hv p n)).1 = 0 ↔ (hf (hv p n)).2 = 0
    unfold hf
    split
    · exact ⟨fun _ => rfl, fun _ => rfl⟩
    · omega
theorem hv_0 {p : Int × Int} (n : Nat) (h : (hv p n).1 = 0 ∧ (hv p n).2 = 0) : (hv p (n + 1)).1 = 0 ∧ (hv p (n + 1)).2 = 0 := by
  show (hf (hv p n)).1 = 0 ∧ (hf (hv p n)).2 = 0
  have e : hv p n = (0, 0) := Prod.ext h.1 h.2
  rw [e]
  exact ⟨rfl, rfl⟩
