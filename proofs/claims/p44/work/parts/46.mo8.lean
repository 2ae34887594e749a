-- uses 24.zar 25.obj 26.ops 30.rd 31.re 34.gen 38.mod 39.mo2 40.mo3 41.bit 42.mo4 43.mo5 45.mo7
/-! The reference: changes. -/
theorem szM_up {v : Nat → Int → Int} {k z i n : Int} (h : k ≠ 12 + 13 * i + 1 ∧ k ≠ 12 + 13 * i + 2) : szM (up v 412 k z) i n = szM v i n := by
  unfold szM
  rw [up_ne (by omega), up_ne (by omega)]
theorem aM_up {v : Nat → Int → Int} {k z i n : Int} (h : k ≠ 12 + 13 * i + 1 ∧ k ≠ 12 + 13 * i + 2) : aM (up v 412 k z) i n = aM v i n := by
  unfold aM
  rw [szM_up h]
theorem oM_up {v : Nat → Int → Int} {k z i : Int} (h : oM v i) (h2 : k ≠ 12 + 13 * i + 1 ∧ k ≠ 12 + 13 * i + 2) : oM (up v 412 k z) i := by
  unfold oM at h ⊢
  rw [up_ne (by omega), up_ne (by omega)]
  exact h
/-- the reference's answer, and its numbers behind it, of a change -/
def byR (v : Nat → Int → Int) (i n r : Int) : Int := if 10 ≤ n ∨ aM v i n = 0 then -3 else if 9999 < kM v i n + r * v 412 2 then -5 else kM v i n + r * v 412 2
def byV (v : Nat → Int → Int) (i n r : Int) : Nat → Int → Int := if byR v i n r < -1 then v else up (up (up v 412 (12 + 13 * i + 3 + n) (kM v i n + r * v 412 2)) 412 4 (v 412 4 + r * v 412 2 * aM v i n)) 412 11 (v 412 11 + r)
def ctR (v : Nat → Int → Int) (i n q : Int) : Int := if (10 ≤ n ∨ aM v i n = 0) ∨ (10 ≤ n + 1 ∨ aM v i (n + 1) = 0) then -3 else if kM v i n < q then -4 else if 9999 < kM v i (n + 1) + 2 * q then -5 else kM v i (n + 1) + 2 * q
def ctV (v : Nat → Int → Int) (i n q : Int) : Nat → Int → Int := if ctR v i n q < -1 then v else up (up (up (up v 412 (12 + 13 * i + 3 + n) (kM v i n - q)) 412 (12 + 13 * i + 3 + (n + 1)) (kM v i (n + 1) + 2 * q)) 412 7 (v 412 7 + q * (aM v i n - 2 * aM v i (n + 1)))) 412 8 (v 412 8 + q)
section MO8
variable {d : Nat} {X : Nat × (Nat → Int32)} {v w : Nat → Int → Int} {T c s : Nat}
end MO8
