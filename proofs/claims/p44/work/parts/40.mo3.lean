-- uses 24.zar 25.obj 26.ops 30.rd 31.re 34.gen 38.mod 39.mo2
/-! The reference: cuts, prints, names, copies, what is asked of arguments. -/
theorem ch_e {α : Type} (F : Nat → α) (E : α) (n : Nat) (h : ∀ k, k < n → F k = E ∨ F k = F (k + 1)) (he : F n = E) : F 0 = E := by
  have : ∀ r k, k + r = n → F k = E := by
    intro r
    induction r with
    | zero => intro k hk; rw [show k = n by omega, he]
    | succ r ih =>
      intro k hk
      rcases h k (by omega) with q | q
      · exact q
      · rw [q]; exact ih (k + 1) (by omega)
  exact this n 0 (by omega)
/-- how many are wanted of the size j places ahead, where q are wanted of size n -/
def nd (K : Int → Int) (q : Int) (n : Nat) : Nat → Int
  | 0 => q
  | j + 1 => (max 0 (nd K q n j - K ((n : Int) - j)) + 1) / 2
theorem nd_b {K : Int → Int} {q : Int} {n : Nat} (hq : 0 ≤ q) (hK : ∀ k : Int, 0 ≤ k → k ≤ n → 0 ≤ K k) : ∀ j, j ≤ n + 1 → 0 ≤ nd K q n j ∧ nd K q n j ≤ q := by
  intro j
  induction j with
  | zero => intro _; exact ⟨hq, Int.le_refl _⟩
  | succ j ih =>
    intro hj
    have h1 := ih (by omega)
    have h2 := hK ((n : Int) - j) (by omega) (by omega)
    unfold nd
    omega
/-- from where none are wanted, none are -/
theorem nd_z {K : Int → Int} {q : Int} {n : Nat} (hK : ∀ k : Int, 0 ≤ k → k ≤ n → 0 ≤ K k) {j : Nat} (h : nd K q n j ≤ K ((n : Int) - j)) : ∀ i, j + i + 1 ≤ n + 1 → nd K q n (j + i + 1) = 0 := by
  intro i
  induction i with
  | zero =>
    intro hi
    show nd K q n (j + 1) = 0
    unfold nd
    omega
  | succ i ih =>
    intro hi
    have h1 := ih (by omega)
    have h2 := hK ((n : Int) - (j + i + 1 : Nat)) (by omega) (by omega)
    show nd K q n ((j + i + 1) + 1) = 0
    unfold nd
    rw [h1]
    omega
/-- the cuts of each size -/
def cuF (K : Int → Int) (q : Int) (n : Nat) (k : Int) : Int := if 0 ≤ k ∧ k < n then nd K q n (n - k.toNat) else 0
/-- all cuts -/
def cuS (K : Int → Int) (q : Int) (n : Nat) : Nat → Int
  | 0 => 0
  | j + 1 => cuS K q n j + nd K q n (j + 1)
theorem cuS_b {K : Int → Int} {q : Int} {n : Nat} (hq : 0 ≤ q) (hK : ∀ k : Int, 0 ≤ k → k ≤ n → 0 ≤ K k) : ∀ j, j ≤ n → 0 ≤ cuS K q n j ∧ cuS K q n j ≤ j * q := by
  intro j
  induction j with
  | zero => intro _; unfold cuS; omega
  | succ j ih =>
    intro hj
    have h1 := ih (by omega)
    have h2 := nd_b hq hK (j + 1) (by omega)
    have e : ((j + 1 : Nat) : Int) * q = j * q + q := by rw [Int.natCast_add, Int.add_mul]; omega
    unfold cuS
    omega
theorem cuS_z {K : Int → Int} {q : Int} {n : Nat} (hK : ∀ k : Int, 0 ≤ k → k ≤ n → 0 ≤ K k) {j : Nat} (h : nd K q n j ≤ K ((n : Int) - j)) : ∀ i, j + i ≤ n → cuS K q n (j + i) = cuS K q n j := by
  intro i
  induction i with
  | zero => intro _; rfl
  | succ i ih =>
    intro hi
    show cuS K q n (j + i) + nd K q n (j + i + 1) = _
    rw [ih (by omega), nd_z hK h i (by omega)]
    omega
section MO3
variable {d : Nat} {X : Nat × (Nat → Int32)} {v w : Nat → Int → Int} {T c s : Nat}
/-- the strips of what is cut -/
def strM (v : Nat → Int → Int) (i : Int) (f : Int → Int) (a : Int) (k : Nat) : Int := a + if f k = 0 then 0 else f k * (aM v i k - 2 * aM v i ((k : Int) + 1))
def prOk (v : Nat → Int → Int) : Prop := 0 ≤ v 412 3 ∧ v 412 3 ≤ 30 ∧ ∀ k : Int, 0 ≤ k → k < v 412 3 → 0 ≤ v 412 (77 + 3 * k) ∧ v 412 (77 + 3 * k) ≤ 2000 ∧ 0 ≤ v 412 (77 + 3 * k + 1) ∧ v 412 (77 + 3 * k + 1) ≤ 2000
/-- the place of a print -/
def prF (v : Nat → Int → Int) (pw ph : Int) : Int := fnd (fun k : Nat => v 412 (77 + 3 * k) = pw ∧ v 412 (77 + 3 * k + 1) = ph) (fun k => (k : Int)) (-1) 0 (v 412 3).toNat
def nmOk (v : Nat → Int → Int) : Prop := ∀ k : Int, 0 ≤ k → k < v 412 0 → 0 ≤ v 412 (12 + 13 * k + 0) ∧ v 412 (12 + 13 * k + 0) < 2147483648
/-- the series with a name -/
def nmF (v : Nat → Int → Int) (x : Int) : Int := fnd (fun k : Nat => v 412 (12 + 13 * k + 0) = x) (fun k => (k : Int)) (-1) 0 (v 412 0).toNat
end MO3
