-- uses 24.zar 25.obj 26.ops 30.rd 31.re 34.gen 38.mod 39.mo2 40.mo3 41.bit 42.mo4 43.mo5 44.mo6 45.mo7 46.mo8 47.mo9 48.moa 49.mob 50.moc
/-! The reference: order, whyNot, ifOrder, found. -/
theorem flU_b {v : Nat → Int → Int} {i a b q : Int} {n m : Nat} (h : m ≠ 412) : flU v i n a b q m = v m := by
  unfold flU
  rw [up_b h, up_b h, up_b h, up_b h, flo_b h, up_b h, up_b h]
theorem kpsV_b {v : Nat → Int → Int} {a b q : Int} {m : Nat} (h : m ≠ 412) : kpsV v a b q m = v m := by
  unfold kpsV
  split
  · split
    · rfl
    · rw [up_b h, up_b h, up_b h, up_b h]
  · rw [up_b h]
theorem flV_b {v : Nat → Int → Int} {a b q : Int} {m : Nat} (h : m ≠ 412) : flV v a b q m = v m := by
  unfold flV
  split
  · rfl
  · rw [kpsV_b h, flU_b h]
theorem fil_414 {w : Nat → Int → Int} {g : Int → Int} (h : ∀ k, 0 ≤ k → k < 167 → w 414 k = g k) : fil w 414 g 167 = w := by
  funext n k
  unfold fil
  by_cases q : n = 414 ∧ 0 ≤ k ∧ k < 167
  · rw [if_pos q, ← h k q.2.1 q.2.2, q.1]
  · rw [if_neg q]
def cmV (u : Nat → Int → Int) (nm a b : Int) : Nat → Int → Int := up (up (up (up u 412 0 (u 412 0 + 1)) 412 (12 + 13 * u 412 0 + 0) nm) 412 (12 + 13 * u 412 0 + 1) a) 412 (12 + 13 * u 412 0 + 2) b
def whF (v : Nat → Int → Int) : Int := fnd (fun k : Nat => ¬ (97 ≤ v 420 k ∧ v 420 k ≤ 122) ∨ k = 6) (fun _ => 0) (nk (v 420) (v 411 16).toNat) 0 (v 411 16).toNat
def fdA (v : Nat → Int → Int) : Int := if v 412 0 = 5 ∨ whF v = 0 ∨ nmF v (whF v) ≠ -1 then -1 else v 412 0
def fdV (v : Nat → Int → Int) (a b : Int) : Nat → Int → Int := if v 412 0 = 5 ∨ whF v = 0 ∨ nmF v (whF v) ≠ -1 then v else up (cmV (kpV v (v 412)) (whF v) a b) 411 16 0
section MOE
variable {d : Nat} {X : Nat × (Nat → Int32)} {v w : Nat → Int → Int} {T c s : Nat}
end MOE
