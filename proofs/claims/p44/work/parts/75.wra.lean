-- uses 24.zar 25.obj 26.ops 27.ra 29.rc 34.gen 35.byt 36.ser
/-! Written numbers. -/
def dg (z : Int) : List Int := (if 1000 ≤ z then [48 + z / 1000 % 10] else []) ++ ((if 100 ≤ z then [48 + z / 100 % 10] else []) ++ ((if 10 ≤ z then [48 + z / 10 % 10] else []) ++ [48 + z / 1 % 10]))
/-- texts put behind a buffer -/
def ptL (v : Nat → Int → Int) (a : Nat) (l : List Int) : Nat → Int → Int := l.foldl (fun u y => bputV u a y) v
theorem bput_b {v : Nat → Int → Int} {a : Nat} {z : Int} (h0 : 0 ≤ v a 1) (h1 : v a 1 ≤ bcap a) : 0 ≤ bputV v a z a 1 ∧ bputV v a z a 1 ≤ bcap a := by
  rw [bput_len]
  split <;> omega
theorem ptL_b {a : Nat} : ∀ {l : List Int} {v : Nat → Int → Int}, 0 ≤ v a 1 → v a 1 ≤ bcap a → 0 ≤ ptL v a l a 1 ∧ ptL v a l a 1 ≤ bcap a := by
  intro l
  induction l with
  | nil => intro v h0 h1; exact ⟨h0, h1⟩
  | cons z l ih =>
    intro v h0 h1
    have := bput_b (z := z) h0 h1
    exact ih this.1 this.2
theorem ptL_app {v : Nat → Int → Int} {a : Nat} {l l' : List Int} : ptL v a (l ++ l') = ptL (ptL v a l) a l' := List.foldl_append
section WRA
variable {d : Nat} {X : Nat × (Nat → Int32)} {v w : Nat → Int → Int} {T c s : Nat}
end WRA
