-- uses 24.zar 25.obj 26.ops
/-! Ends and loops. -/
theorem fin_i {x y : Int} {m : jm_Mem} (h : x = y) : (some (.inl (some (.int (i3 x))), m) : Option jm_Res) = some (.inl (some (.int (i3 y))), m) := by rw [h]
theorem fin_l {x y : Int} {m : jm_Mem} (h : x = y) : (some (.inl (some (.long (i6 x))), m) : Option jm_Res) = some (.inl (some (.long (i6 y))), m) := by rw [h]
/-- the first place from k on, of r -/
def fnd {α : Type} (p : Nat → Prop) [DecidablePred p] (G : Nat → α) (e : α) : Nat → Nat → α
  | _, 0 => e
  | k, r + 1 => if p k then G k else fnd p G e (k + 1) r
theorem ch_f {α : Type} {p : Nat → Prop} [DecidablePred p] (F G : Nat → α) (e : α) (n : Nat) (h : ∀ k, k < n → F k = if p k then G k else F (k + 1)) (he : F n = e) : F 0 = fnd p G e 0 n := by
  have : ∀ r k, k + r = n → F k = fnd p G e k r := by
    intro r
    induction r with
    | zero => intro k hk; rw [show k = n by omega, he]; rfl
    | succ r ih => intro k hk; rw [h k (by omega), ih (k + 1) (by omega)]; rfl
  exact this n 0 (by omega)
theorem fnd_map {α β : Type} {p : Nat → Prop} [DecidablePred p] (f : α → β) (G : Nat → α) (e : α) : ∀ (r k : Nat), fnd p (fun j => f (G j)) (f e) k r = f (fnd p G e k r) := by
  intro r
  induction r with
  | zero => intro k; rfl
  | succ r ih => intro k; unfold fnd; rw [ih]; split <;> rfl
theorem fnd_congr {α : Type} {p q : Nat → Prop} [DecidablePred p] [DecidablePred q] {G G' : Nat → α} {e : α} : ∀ (r k : Nat), (∀ j, k ≤ j → j < k + r → (p j ↔ q j)) → (∀ j, k ≤ j → j < k + r → G j = G' j) → fnd p G e k r = fnd q G' e k r := by
  intro r
  induction r with
  | zero => intro k _ _; rfl
  | succ r ih =>
    intro k h hg
    unfold fnd
    rw [ih (k + 1) (fun j h1 h2 => h j (by omega) (by omega)) (fun j h1 h2 => hg j (by omega) (by omega)), hg k (by omega) (by omega)]
    by_cases hp : p k
    · rw [if_pos hp, if_pos ((h k (by omega) (by omega)).mp hp)]
    · rw [if_neg hp, if_neg (fun q => hp ((h k (by omega) (by omega)).mpr q))]
theorem fnd_P {α : Type} {p : Nat → Prop} [DecidablePred p] {G : Nat → α} {e : α} {P : α → Prop} : ∀ (r k : Nat), P e → (∀ j, k ≤ j → j < k + r → p j → P (G j)) → P (fnd p G e k r) := by
  intro r
  induction r with
  | zero => intro k h _; exact h
  | succ r ih =>
    intro k h hg
    unfold fnd
    by_cases hp : p k
    · rw [if_pos hp]; exact hg k (by omega) (by omega) hp
    · rw [if_neg hp]; exact ih (k + 1) h (fun j h1 h2 => hg j (by omega) (by omega))
theorem ch_a {α : Type} {p : Nat → Prop} [DecidablePred p] (F : Nat → α) (e0 e1 : α) (n : Nat) (h : ∀ k, k < n → F k = if p k then F (k + 1) else e0) (he : F n = e1) : F 0 = if ∀ k, k < n → p k then e1 else e0 := by
  have : ∀ r k, k + r = n → F k = if ∀ j, j < n → k ≤ j → p j then e1 else e0 := by
    intro r
    induction r with
    | zero =>
      intro k hk
      rw [show k = n by omega, he, if_pos (fun j h1 h2 => by omega)]
    | succ r ih =>
      intro k hk
      rw [h k (by omega), ih (k + 1) (by omega)]
      by_cases hp : p k
      · rw [if_pos hp]
        by_cases hq : ∀ j, j < n → k + 1 ≤ j → p j
        · rw [if_pos hq, if_pos]
          intro j h1 h2
          by_cases e : j = k
          · rw [e]; exact hp
          · exact hq j h1 (by omega)
        · rw [if_neg hq, if_neg (fun q => hq (fun j h1 h2 => q j h1 (by omega)))]
      · rw [if_neg hp, if_neg (fun q => hp (q k (by omega) (by omega)))]
  rw [this n 0 (by omega)]
  by_cases hq : ∀ k, k < n → p k
  · rw [if_pos hq, if_pos (fun j h1 _ => hq j h1)]
  · rw [if_neg hq, if_neg (fun q => hq (fun j h1 => q j h1 (by omega)))]
/-- a row gone through -/
def fo {α : Type} (g : α → Nat → α) (a : α) : Nat → α
  | 0 => a
  | n + 1 => g (fo g a n) n
theorem fo_P {α : Type} {g : α → Nat → α} {a : α} {P : Nat → α → Prop} (h0 : P 0 a) (n : Nat) (hs : ∀ k x, k < n → P k x → P (k + 1) (g x k)) : P n (fo g a n) := by
  induction n with
  | zero => exact h0
  | succ n ih => exact hs n _ (by omega) (ih (fun k x hk hx => hs k x (by omega) hx))
theorem fo_congr {α : Type} {g g' : α → Nat → α} {a : α} (n : Nat) (h : ∀ k x, k < n → g x k = g' x k) : fo g a n = fo g' a n := by
  induction n with
  | zero => rfl
  | succ n ih =>
    show g (fo g a n) n = g' (fo g' a n) n
    rw [ih (fun k x hk => h k x (by omega)), h n _ (by omega)]
/-- of the ten sizes -/
def tr (f : Int → Int) (n : Int) : Int := if 0 ≤ n ∧ n < 10 then f n else 0
theorem tr_in {f : Int → Int} {n : Int} (h0 : 0 ≤ n) (h1 : n < 10) : tr f n = f n := if_pos ⟨h0, h1⟩
theorem tr_out {f : Int → Int} {n : Int} (h : n < 0 ∨ 10 ≤ n) : tr f n = 0 := if_neg (by omega)
/-- the sides after a halving -/
def hf1 (p : Int × Int) : Int × Int := if p.1 ≤ p.2 then (p.1, p.2 / 2) else (p.1 / 2, p.2)
def hf (p : Int × Int) : Int × Int := if (hf1 p).1 = 0 ∨ (hf1 p).2 = 0 then (0, 0) else hf1 p
def hv (p : Int × Int) : Nat → Int × Int
  | 0 => p
  | n + 1 => hf (hv p n)
theorem hf1_b {p : Int × Int} (h : 0 ≤ p.1 ∧ p.1 ≤ 2000 ∧ 0 ≤ p.2 ∧ p.2 ≤ 2000) : 0 ≤ (hf1 p).1 ∧ (hf1 p).1 ≤ 2000 ∧ 0 ≤ (hf1 p).2 ∧ (hf1 p).2 ≤ 2000 := by
  unfold hf1
  split <;> dsimp only <;> omega
theorem hf_b {p : Int × Int} (h : 0 ≤ p.1 ∧ p.1 ≤ 2000 ∧ 0 ≤ p.2 ∧ p.2 ≤ 2000) : 0 ≤ (hf p).1 ∧ (hf p).1 ≤ 2000 ∧ 0 ≤ (hf p).2 ∧ (hf p).2 ≤ 2000 := by
  unfold hf
  split
  · exact ⟨by decide, by decide, by decide, by decide⟩
  · exact hf1_b h
theorem hv_b {p : Int × Int} (h : 0 ≤ p.1 ∧ p.1 ≤ 2000 ∧ 0 ≤ p.2 ∧ p.2 ≤ 2000) : ∀ n, 0 ≤ (hv p n).1 ∧ (hv p n).1 ≤ 2000 ∧ 0 ≤ (hv p n).2 ∧ (hv p n).2 ≤ 2000 := by
  intro n
  induction n with
  | zero => exact h
  | succ n ih => exact hf_b ih
/-- both sides are void, or none -/
theorem hv_z {p : Int × Int} (h : p.1 = 0 ↔ p.2 = 0) : ∀ n, (hv p n).1 = 0 ↔ (hv p n).2 = 0 := by
  intro n
  induction n with
  | zero => exact h
  | succ n ih =>
    show (hf (hv p n)).1 = 0 ↔ (hf (hv p n)).2 = 0
    unfold hf
    split
    · exact ⟨fun _ => rfl, fun _ => rfl⟩
    · omega
theorem hv_0 {p : Int × Int} (n : Nat) (h : (hv p n).1 = 0 ∧ (hv p n).2 = 0) : (hv p (n + 1)).1 = 0 ∧ (hv p (n + 1)).2 = 0 := by
  show (hf (hv p n)).1 = 0 ∧ (hf (hv p n)).2 = 0
  have e : hv p n = (0, 0) := Prod.ext h.1 h.2
  rw [e]
  exact ⟨rfl, rfl⟩
theorem if_mx {x y : Int} : (if x < y then y else x) = max x y := by rw [Int.max_def]; split <;> split <;> omega
theorem if_mn {x y : Int} : (if y < x then y else x) = min x y := by rw [Int.min_def]; split <;> split <;> omega
theorem i3_eq0 {a : Int} (h1 : -2147483648 ≤ a) (h2 : a < 2147483648) : (i3 a = (0 : Int32)) = (a = 0) := i3_eq (b := 0) h1 h2 (by omega) (by omega)
theorem i6_eq0 {a : Int} (h1 : -9223372036854775808 ≤ a) (h2 : a < 9223372036854775808) : (i6 a = (0 : Int64)) = (a = 0) := i6_eq (b := 0) h1 h2 (by omega) (by omega)
/-- the first m places of a row, told anew -/
def fil (v : Nat → Int → Int) (a : Nat) (f : Int → Int) (m : Int) : Nat → Int → Int := fun n k => if n = a ∧ 0 ≤ k ∧ k < m then f k else v n k
section FIL
variable {v : Nat → Int → Int} {a b : Nat} {f g : Int → Int} {m k z : Int}
theorem fil_0 : fil v a f 0 = v := by
  funext n k
  exact if_neg (by omega)
theorem fil_up (h : 0 ≤ m) (hz : z = f m) : up (fil v a f m) a m z = fil v a f (m + 1) := by
  funext n k
  unfold up fil
  by_cases e : n = a ∧ k = m
  · rw [if_pos e, if_pos (by omega), hz, e.2]
  · rw [if_neg e]
    by_cases q : n = a ∧ 0 ≤ k ∧ k < m
    · rw [if_pos q, if_pos (by omega)]
    · rw [if_neg q, if_neg (by omega)]
theorem fil_ne (h : b ≠ a ∨ k < 0 ∨ m ≤ k) : fil v a f m b k = v b k := if_neg (by omega)
theorem fil_in (h0 : 0 ≤ k) (h1 : k < m) : fil v a f m a k = f k := if_pos ⟨rfl, h0, h1⟩
theorem up_fil (h : a ≠ b) : up (fil v b g m) a k z = fil (up v a k z) b g m := by
  funext n j
  unfold fil
  by_cases q : n = b ∧ 0 ≤ j ∧ j < m
  · rw [if_pos q, up_ne (by omega), if_pos q]
  · rw [if_neg q]
    unfold up
    by_cases e : n = a ∧ j = k
    · rw [if_pos e, if_pos e]
    · rw [if_neg e, if_neg e]; exact if_neg q
theorem fil3_up {a2 a3 a4 : Nat} {f g h : Int → Int} {x y z : Int} (h2 : a2 ≠ a3) (h3 : a2 ≠ a4) (h4 : a3 ≠ a4) (hm : 0 ≤ m) (hx : x = f m) (hy : y = g m) (hz : z = h m) : up (up (up (fil (fil (fil v a2 f m) a3 g m) a4 h m) a2 m x) a3 m y) a4 m z = fil (fil (fil v a2 f (m + 1)) a3 g (m + 1)) a4 h (m + 1) := by
  rw [up_fil h3, up_fil h2, fil_up hm hx, up_fil h4, fil_up hm hy, fil_up hm hz]
theorem fil_b (h : b ≠ a) : fil v a f m b = v b := by funext k; exact fil_ne (Or.inl h)
theorem up_b (h : b ≠ a) : up v a k z b = v b := by funext j; exact up_ne (Or.inl h)
theorem fil_cg (h : ∀ k, 0 ≤ k → k < m → f k = g k) : fil v a f m = fil v a g m := by
  funext n k
  unfold fil
  by_cases q : n = a ∧ 0 ≤ k ∧ k < m
  · rw [if_pos q, if_pos q, h k q.2.1 q.2.2]
  · rw [if_neg q, if_neg q]
end FIL
/-- a chain of steps over what changes on the way -/
theorem ch_p {α β : Type} (F : Nat → β → α) (n : Nat) (h : ∀ k, k < n → ∀ p, ∃ q, F k p = F (k + 1) q) (p : β) : ∃ q, F 0 p = F n q := by
  induction n with
  | zero => exact ⟨p, rfl⟩
  | succ n ih =>
    obtain ⟨q, hq⟩ := ih (fun k hk => h k (by omega))
    obtain ⟨r, hr⟩ := h n (by omega) q
    exact ⟨r, hq.trans hr⟩
/-- all sizes of m series gone through -/
def fo2 {α : Type} (g : α → Nat → Nat → α) (a : α) (m : Nat) : α := fo (fun a k => fo (fun a n => g a k n) a 10) a m
theorem fo2_P {α : Type} {g : α → Nat → Nat → α} {a : α} {P : α → Prop} (m : Nat) (h0 : P a) (hs : ∀ k n x, k < m → n < 10 → P x → P (g x k n)) : P (fo2 g a m) :=
  fo_P (P := fun _ x => P x) h0 m (fun k x hk hx => fo_P (P := fun _ x => P x) hx 10 (fun n y hn hy => hs k n y hk hn hy))
theorem fo2_congr {α : Type} {g g' : α → Nat → Nat → α} {a : α} (m : Nat) (h : ∀ k n x, k < m → n < 10 → g x k n = g' x k n) : fo2 g a m = fo2 g' a m :=
  fo_congr m (fun k x hk => fo_congr 10 (fun n y hn => h k n y hk hn))
theorem fo_map {α β : Type} {g : α → Nat → α} {g' : β → Nat → β} {R : α → β → Prop} {a : α} {b : β} (n : Nat) (h0 : R a b) (hs : ∀ k x y, k < n → R x y → R (g x k) (g' y k)) : R (fo g a n) (fo g' b n) := by
  induction n with
  | zero => exact h0
  | succ n ih => exact hs n _ _ (by omega) (ih (fun k x y hk hx => hs k x y (by omega) hx))
theorem fo2_map {α β : Type} {g : α → Nat → Nat → α} {g' : β → Nat → Nat → β} {R : α → β → Prop} {a : α} {b : β} (m : Nat) (h0 : R a b) (hs : ∀ k n x y, k < m → n < 10 → R x y → R (g x k n) (g' y k n)) : R (fo2 g a m) (fo2 g' b m) :=
  fo_map m h0 (fun k x y hk hx => fo_map 10 hx (fun n x y hn hx => hs k n x y hk hn hx))
/-- one loop -/
theorem lq1 {α π β : Type} (P : Nat → α → Prop) (A : Nat → α → π → β) (g : α → Nat → α) (m : Nat)
    (h : ∀ k a p, k < m → P k a → ∃ q, A k a p = A (k + 1) (g a k) q) (hP : ∀ k a, k < m → P k a → P (k + 1) (g a k)) (a0 : α) (p0 : π) (h0 : P 0 a0) :
    (∃ q, A 0 a0 p0 = A m (fo g a0 m) q) ∧ P m (fo g a0 m) := by
  induction m with
  | zero => exact ⟨⟨p0, rfl⟩, h0⟩
  | succ m ih =>
    obtain ⟨⟨q, e⟩, hq⟩ := ih (fun k a p hk => h k a p (by omega)) (fun k a hk => hP k a (by omega))
    obtain ⟨r, e2⟩ := h m _ q (by omega) hq
    exact ⟨⟨r, e.trans e2⟩, hP m _ (by omega) hq⟩
/-- two loops, one within the other -/
theorem lq2 {α π β : Type} (P : α → Prop) (A : Nat → α → π → Option Value → β) (B : Nat → Nat → α → π → β) (g : α → Nat → Nat → α) (m : Nat)
    (h1 : ∀ k a p x, k < m → P a → ∃ q, A k a p x = B k 0 a q)
    (h2 : ∀ k n a p, k < m → n < 10 → P a → ∃ q, B k n a p = B k (n + 1) (g a k n) q)
    (h3 : ∀ k a p, k < m → P a → ∃ q x, B k 10 a p = A (k + 1) a q x)
    (hP : ∀ k n a, k < m → n < 10 → P a → P (g a k n)) (a0 : α) (p0 : π) (x0 : Option Value) (h0 : P a0) :
    (∃ q x, A 0 a0 p0 x0 = A m (fo2 g a0 m) q x) ∧ P (fo2 g a0 m) := by
  induction m with
  | zero => exact ⟨⟨p0, x0, rfl⟩, h0⟩
  | succ m ih =>
    obtain ⟨⟨q, x, e⟩, hq⟩ := ih (fun k a p x hk => h1 k a p x (by omega)) (fun k n a p hk => h2 k n a p (by omega)) (fun k a p hk => h3 k a p (by omega)) (fun k n a hk => hP k n a (by omega))
    obtain ⟨q1, e1⟩ := h1 m _ q x (by omega) hq
    obtain ⟨⟨q2, e2⟩, hq2⟩ := lq1 (fun _ a => P a) (fun n a p => B m n a p) (fun a n => g a m n) 10 (fun n a p hn ha => h2 m n a p (by omega) hn ha) (fun n a hn ha => hP m n a (by omega) hn ha) _ q1 hq
    obtain ⟨q3, x3, e3⟩ := h3 m _ q2 (by omega) hq2
    exact ⟨⟨q3, x3, e.trans (e1.trans (e2.trans e3))⟩, hq2⟩
