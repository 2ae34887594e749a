-- uses 24.zar 25.obj 26.ops 34.gen 38.mod 39.mo2 42.mo4 43.mo5 44.mo6 53.cla 58.clf 62.clj 65.cll 72.clq 73.clr 80.wrf 88.ovr 89.rsa c0.foa c1.fob c2.foc c3.fod c4.foe c5.fof c6.fog c7.foh
/-! Folding, both sides. -/
theorem ptn_x (μ : Nat → Int → Int) (i n f : Int) : ∃ x : Nat, ((0 ≤ i ∧ i < μ 412 0) ∧ 0 ≤ n ∧ n < 10) → (0 ≤ f ∧ f ≤ fdM μ i n) → x < 2 ^ f.toNat ∧ ptn μ i n x f.toNat := by
  have hb := fdM_b (v := μ) (i := i) (n := n)
  by_cases g : f.toNat < 6
  · obtain ⟨x, a, b⟩ := ptn_e μ i n (f := f.toNat) g
    exact ⟨x, fun _ _ => ⟨a, b⟩⟩
  · exact ⟨0, fun _ h => by omega⟩
theorem cdP_c {A B C : Prop} [Decidable A] [Decidable B] [Decidable C] {E1 E2 : String} (h : E1 ≠ E2 := by decide) : cdP A B C = 0 ∨ cdP A B C = 1 ∨ (cdP A B C = 2 ∧ E1 ≠ E2) := by
  have : cdP A B C = 0 ∨ cdP A B C = 1 ∨ cdP A B C = 2 := by unfold cdP; (repeat' split) <;> omega
  rcases this with q | q | q
  · exact Or.inl q
  · exact Or.inr (Or.inl q)
  · exact Or.inr (Or.inr ⟨q, h⟩)
section FOI
variable {d : Nat} {X : Nat × (Nat → Int32)} {v : Nat → Int → Int} {T : Nat} {n : Int}
end FOI
