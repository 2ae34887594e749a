-- uses 24.zar 25.obj 26.ops 30.rd 31.re 34.gen 38.mod 39.mo2 40.mo3 41.bit 42.mo4 43.mo5 44.mo6 45.mo7 46.mo8 47.mo9
/-! The reference: undo, saved states, orders, what would be. -/
def unV (v : Nat → Int → Int) : Nat → Int → Int := fil (up v 411 7 (v 411 7 - 1)) 412 (fun k => v 415 (167 * (v 411 7 - 1) + k)) 167
def svV (v : Nat → Int → Int) (q : Int) : Nat → Int → Int := up (flo v 416 (167 * q) (v 412) 167) 417 q 1
def rsV (v : Nat → Int → Int) (q : Int) : Nat → Int → Int := up (fil v 412 (fun k => v 416 (167 * q + k)) 167) 411 7 0
section MOA
variable {d : Nat} {X : Nat × (Nat → Int32)} {v w : Nat → Int → Int} {T c s : Nat}
/-- a print's number, told anew -/
def kpsV (v : Nat → Int → Int) (a b q : Int) : Nat → Int → Int := if prF v a b = -1 then (if v 412 3 = 30 then v else up (up (up (up v 412 3 (v 412 3 + 1)) 412 (77 + 3 * v 412 3) a) 412 (77 + 3 * v 412 3 + 1) b) 412 (77 + 3 * v 412 3 + 2) q) else up v 412 (77 + 3 * prF v a b + 2) (v 412 (77 + 3 * prF v a b + 2) + q)
theorem prF_c (a b : Int) : prF v a b = -1 ∨ (0 ≤ prF v a b ∧ prF v a b < v 412 3) := fnd_P (P := fun z => z = -1 ∨ (0 ≤ z ∧ z < v 412 3)) _ 0 (Or.inl rfl) (fun j h1 h2 _ => Or.inr (by omega))
end MOA
