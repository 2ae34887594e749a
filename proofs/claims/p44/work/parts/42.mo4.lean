-- uses 24.zar 25.obj 26.ops 30.rd 31.re 34.gen 38.mod 39.mo2 40.mo3 41.bit
/-! The reference: arguments; what only asks. -/
/-- the answer of a call of the reference that changes nothing that lasts -/
def mR (x : Option jm_Res) (X : Nat × (Nat → Int32)) (v : Nat → Int → Int) (T c s : Nat) (cd ans : Int) : Prop := ∃ w' b, x = some (.inl (some (.int (i3 (b)))), qM X v w' T c s) ∧ w' 411 8 = cd ∧ (cd = 0 → b = ans)
theorem if_ok {α : Type} {P : Prop} [Decidable P] {x y z : α} (h1 : P → x = z) (h2 : ¬ P → y = z) : (if P then x else y) = z := by
  split
  · exact h1 (by assumption)
  · exact h2 (by assumption)
section MO4
variable {d : Nat} {X : Nat × (Nat → Int32)} {v w : Nat → Int → Int} {T c s : Nat}
/-- how often a size may be folded -/
def fdM (v : Nat → Int → Int) (i n : Int) : Int := if 10 ≤ n ∨ aM v i n = 0 then -1 else fnd (fun k : Nat => 10 ≤ n + k + 1 ∨ aM v i (n + k + 1) = 0) (fun k => (k : Int)) 5 0 5
theorem fdM_b {i n : Int} : -1 ≤ fdM v i n ∧ fdM v i n ≤ 5 := by
  unfold fdM
  split
  · omega
  · exact fnd_P (P := fun z => -1 ≤ z ∧ z ≤ 5) 5 0 (by omega) (fun j h1 h2 _ => by omega)
theorem ch_fp {α π : Type} {p : Nat → Prop} [DecidablePred p] (F : Nat → π → α) (G : Nat → π → α) (e : π → α) (Y : Nat → π → α) (n : Nat) (h : ∀ k, k < n → ∀ x, ∃ y, F k x = if p k then G k y else F (k + 1) y) (he : ∀ x, ∃ y, F n x = e y) (x : π) : ∃ y, F 0 x = fnd p (fun k => G k y) (e y) 0 n := by
  have : ∀ r k x, k + r = n → ∃ y, F k x = fnd p (fun k => G k y) (e y) k r := by
    intro r
    induction r with
    | zero => intro k x hk; obtain ⟨y, hy⟩ := he x; exact ⟨y, by rw [show k = n by omega, hy]; rfl⟩
    | succ r ih =>
      intro k x hk
      obtain ⟨y, hy⟩ := h k (by omega) x
      by_cases hp : p k
      · exact ⟨y, by rw [hy, if_pos hp]; unfold fnd; rw [if_pos hp]⟩
      · obtain ⟨z, hz⟩ := ih (k + 1) y (by omega)
        exact ⟨z, by rw [hy, if_neg hp, hz]; conv => rhs; unfold fnd; rw [if_neg hp]⟩
  exact this n 0 x (by omega)
end MO4
