-- uses 24.zar 25.obj 26.ops 30.rd 31.re 34.gen 38.mod 39.mo2 40.mo3 41.bit 42.mo4
/-! The reference: what is asked of stacks, names, sizes, prints, accounts. -/
def cd1 (P : Prop) [Decidable P] : Int := if P then 0 else 1
def cd2 (P Q : Prop) [Decidable P] [Decidable Q] : Int := if P then (if Q then 0 else 2) else 1
theorem cd1_0 {P : Prop} [Decidable P] (h : P) : cd1 P = 0 := if_pos h
theorem cd1_1 {P : Prop} [Decidable P] (h : ¬ P) : cd1 P = 1 := if_neg h
theorem cd2_0 {P Q : Prop} [Decidable P] [Decidable Q] (h : P) (g : Q) : cd2 P Q = 0 := (if_pos h).trans (if_pos g)
theorem cd2_2 {P Q : Prop} [Decidable P] [Decidable Q] (h : P) (g : ¬ Q) : cd2 P Q = 2 := (if_pos h).trans (if_neg g)
theorem cd2_1 {P Q : Prop} [Decidable P] [Decidable Q] (h : ¬ P) : cd2 P Q = 1 := if_neg h
/-- a number of the machine -/
def isI (z : Int) : Prop := -2147483648 ≤ z ∧ z < 2147483648
theorem mR_0 {x : Option jm_Res} {X : Nat × (Nat → Int32)} {v : Nat → Int → Int} {T c s : Nat} {ans : Int} (h : ∃ w', x = some (.inl (some (.int (i3 (ans)))), qM X v w' T c s) ∧ w' 411 8 = 0) : mR x X v T c s 0 ans := by
  obtain ⟨w', h1, h2⟩ := h
  exact ⟨w', ans, h1, h2, fun _ => rfl⟩
theorem mR_1 {x : Option jm_Res} {X : Nat × (Nat → Int32)} {v : Nat → Int → Int} {T c s : Nat} {cd ans : Int} (h0 : cd ≠ 0) (h : ∃ w' b, x = some (.inl (some (.int (i3 (b)))), qM X v w' T c s) ∧ w' 411 8 = cd) : mR x X v T c s cd ans := by
  obtain ⟨w', b, h1, h2⟩ := h
  exact ⟨w', b, h1, h2, fun e => absurd e h0⟩
section MO5
variable {d : Nat} {X : Nat × (Nat → Int32)} {v w : Nat → Int → Int} {T c s : Nat}
def cntA (v : Nat → Int → Int) (q : Int) : Int := if q = 0 then v 412 0 else if q = 1 then fo2 (fun a k n => a + kM v k n) 0 (v 412 0).toNat else if q = 2 then fo2 (fun a k n => a + if 0 < kM v k n then 1 else 0) 0 (v 412 0).toNat else if q = 3 then v 412 1 else if q = 4 then v 412 2 else if q = 5 then v 412 3 else v 411 7
/-- the strip of a cut; -1 if it can't be cut -/
def stA (v : Nat → Int → Int) (i n : Int) : Int := if (10 ≤ n ∨ aM v i n = 0) ∨ (10 ≤ n + 1 ∨ aM v i (n + 1) = 0) then -1 else aM v i n - 2 * aM v i (n + 1)
def sizA (v : Nat → Int → Int) (i n q : Int) : Int := if q = 0 then (szM v i n).1 else if q = 1 then (szM v i n).2 else if q = 2 then aM v i n else if q = 3 then kM v i n else if q = 4 then kM v i n / v 412 2 else if q = 5 then stA v i n else if q = 6 then usE (szM v i n).1 (v 412 1) else if q = 7 then usE (szM v i n).2 (v 412 1) else if q = 8 then supM v i (n.toNat + 1) else if (szM v i n).1 = 0 then 1 else 0
end MO5
