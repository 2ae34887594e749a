-- uses 24.zar 25.obj 26.ops 30.rd 31.re 34.gen 38.mod 39.mo2 40.mo3 41.bit 42.mo4 43.mo5 44.mo6 45.mo7 46.mo8
/-! The reference: calls that change. -/
/-- the state behind a change that is refused (its number is below -1), or kept for undo -/
def trV (v : Nat → Int → Int) (r : Int) (u : Nat → Int → Int) : Nat → Int → Int := if r < -1 then up v 418 (r + 7) (v 418 (r + 7) + 1) else kpV u (v 412)
theorem if_V {P : Prop} [Decidable P] {α : Type} {x y : α} (h : P) : (if P then x else y) = x := if_pos h
section MO9
variable {d : Nat} {X : Nat × (Nat → Int32)} {v w : Nat → Int → Int} {T c s : Nat}
theorem byR_b {i n r : Int} (hg : gM v) (hi0 : 0 ≤ i) (hi1 : i < v 412 0) (hn0 : 0 ≤ n) (hn1 : n < 10) (hr : 0 ≤ r * v 412 2) : (byR v i n r < -1 ∧ -7 ≤ byR v i n r) ∨ (0 ≤ byR v i n r ∧ byR v i n r ≤ 9999) := by
  have hk := (hg.2.2.2.2 i hi0 hi1).2 n hn0 hn1
  unfold byR
  (repeat' split) <;> omega
theorem ctR_b {i n q : Int} (hg : gM v) (hi0 : 0 ≤ i) (hi1 : i < v 412 0) (hn0 : 0 ≤ n) (hn1 : n < 10) (hr : 0 ≤ q) : (ctR v i n q < -1 ∧ -7 ≤ ctR v i n q) ∨ (0 ≤ ctR v i n q ∧ ctR v i n q ≤ 9999) := by
  unfold ctR
  split
  · omega
  · have hk := (hg.2.2.2.2 i hi0 hi1).2 (n + 1) (by omega) (by omega)
    (repeat' split) <;> omega
theorem byV_b {i n r : Int} {m : Nat} (h : m ≠ 412) : byV v i n r m = v m := by
  unfold byV
  split
  · rfl
  · rw [up_b h, up_b h, up_b h]
theorem ctV_b {i n r : Int} {m : Nat} (h : m ≠ 412) : ctV v i n r m = v m := by
  unfold ctV
  split
  · rfl
  · rw [up_b h, up_b h, up_b h, up_b h]
/-- a byte behind the buffer -/
def apV (v : Nat → Int → Int) (z : Int) : Nat → Int → Int := up (up v 420 (v 411 16) z) 411 16 (v 411 16 + 1)
def fourV (v : Nat → Int → Int) (z : Int) : Nat → Int → Int := apV (apV (apV (apV v (by8 z 24)) (by8 z 16)) (by8 z 8)) (by8 z 0)
theorem apV_n (z : Int) : apV v z 411 16 = v 411 16 + 1 := up_eq
theorem fourV_n (z : Int) : fourV v z 411 16 = v 411 16 + 4 := by
  unfold fourV
  rw [apV_n, apV_n, apV_n, apV_n]
  omega
def twV (v : Nat → Int → Int) (a b e f g : Int) : Nat → Int → Int := fourV (fourV (fourV (fourV (fourV v a) b) e) f) g
end MO9
