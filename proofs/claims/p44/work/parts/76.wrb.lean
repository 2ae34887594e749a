-- uses 24.zar 25.obj 26.ops 27.ra 29.rc 34.gen 35.byt 36.ser 37.lnd 75.wra
/-! The class: the stacks written. -/
theorem bput_o {v : Nat → Int → Int} {a n : Nat} {z : Int} (h : n ≠ a) (h2 : n ≠ a + 1) : bputV v a z n = v n := by
  unfold bputV
  split
  · rw [up_b h, up_b h2]
  · rfl
theorem ptL_o {a n : Nat} (h : n ≠ a) (h2 : n ≠ a + 1) : ∀ {l : List Int} {v : Nat → Int → Int}, ptL v a l n = v n := by
  intro l
  induction l with
  | nil => intro v; rfl
  | cons z l ih => intro v; exact (ih (v := bputV v a z)).trans (bput_o h h2)
theorem ptL_1 {v : Nat → Int → Int} {a : Nat} {z : Int} : bputV v a z = ptL v a [z] := rfl
/-- the letters of a name -/
def ltL (f : Int → Int) (n : Nat) : List Int := (List.range n).map (fun k : Nat => f k)
theorem ltL_s {f : Int → Int} {n : Nat} : ltL f (n + 1) = ltL f n ++ [f n] := by
  unfold ltL
  rw [List.range_succ, List.map_append]
  rfl
/-- a stack's text -/
def skL (f : Int → Int) (n : Nat) (z k len : Int) : List Int := (if len ≤ 0 then [] else [32]) ++ (ltL f n ++ (dg z ++ ([58] ++ dg k)))
def wrC (v : Nat → Int → Int) (a : Nat) (n : Int) : Nat → Int → Int := if v (a + 4) n ≤ 0 then v else ptL v 3 (skL (v (a + 1)) (v a 1).toNat n (v (a + 4) n) (v 3 1))
section WRB
variable {d : Nat} {X : Nat × (Nat → Int32)} {v w : Nat → Int → Int} {T c s : Nat}
theorem wrC_o {a k : Nat} {n : Int} (h : k ≠ 3) (h2 : k ≠ 4) : wrC v a n k = v k := by
  unfold wrC
  split
  · rfl
  · exact ptL_o h h2
theorem wrC_b {a : Nat} {n : Int} (h0 : 0 ≤ v 3 1) (h1 : v 3 1 ≤ 650) : 0 ≤ wrC v a n 3 1 ∧ wrC v a n 3 1 ≤ 650 := by
  unfold wrC
  split
  · exact ⟨h0, h1⟩
  · exact ptL_b (a := 3) h0 h1
/-- a series written -/
def wsC (v : Nat → Int → Int) (a : Nat) : Nat → Int → Int := fo (fun u n => wrC u a n) v 10
/-- all stacks written -/
def waC (v : Nat → Int → Int) (c' : Nat) : Nat → Int → Int := fo (fun u i => wsC u (14 + 7 + 5 * i)) (up v 3 1 0) c'
end WRB
