-- uses 24.zar 25.obj 26.ops 30.rd 31.re 34.gen 38.mod 39.mo2 40.mo3 41.bit 42.mo4 43.mo5
/-! The reference: what is kept for undo; changes. -/
def flo (v : Nat → Int → Int) (b : Nat) (to : Int) (g : Int → Int) (m : Int) : Nat → Int → Int := fun n k => if n = b ∧ to ≤ k ∧ k < to + m then g (k - to) else v n k
section FLO
variable {v : Nat → Int → Int} {a b : Nat} {to m k z : Int} {f g : Int → Int}
theorem flo_0 : flo v b to g 0 = v := by
  funext n j
  exact if_neg (by omega)
theorem flo_up (h : 0 ≤ m) (hz : z = g m) : up (flo v b to g m) b (to + m) z = flo v b to g (m + 1) := by
  funext n j
  unfold up flo
  by_cases e : n = b ∧ j = to + m
  · rw [if_pos e, if_pos (by omega), hz, e.2, show to + m - to = m by omega]
  · rw [if_neg e]
    by_cases q : n = b ∧ to ≤ j ∧ j < to + m
    · rw [if_pos q, if_pos (by omega)]
    · rw [if_neg q, if_neg (by omega)]
theorem flo_ne {n : Nat} (h : n ≠ b ∨ k < to ∨ to + m ≤ k) : flo v b to g m n k = v n k := if_neg (by omega)
theorem flo_b {n : Nat} (h : n ≠ b) : flo v b to g m n = v n := by funext j; exact flo_ne (Or.inl h)
theorem flo_in (h0 : to ≤ k) (h1 : k < to + m) : flo v b to g m b k = g (k - to) := if_pos ⟨rfl, h0, h1⟩
theorem flo_cg {h : Int → Int} (hh : ∀ k, 0 ≤ k → k < m → g k = h k) : flo v b to g m = flo v b to h m := by
  funext n j
  unfold flo
  by_cases q : n = b ∧ to ≤ j ∧ j < to + m
  · rw [if_pos q, if_pos q, hh _ (by omega) (by omega)]
  · rw [if_neg q, if_neg q]
end FLO
/-- the states kept: the oldest one goes where there are eight -/
def shV (v : Nat → Int → Int) : Nat → Int → Int := if v 411 7 = 8 then up (fil v 415 (fun k => v 415 (k + 167)) 1169) 411 7 7 else v
def kpV (v : Nat → Int → Int) (g : Int → Int) : Nat → Int → Int := up (flo (shV v) 415 (167 * shV v 411 7) g 167) 411 7 (shV v 411 7 + 1)
theorem shV_b {v : Nat → Int → Int} {n : Nat} (h : n ≠ 411) (h2 : n ≠ 415) : shV v n = v n := by
  unfold shV
  split
  · rw [up_b h, fil_b h2]
  · rfl
theorem kpV_b {v : Nat → Int → Int} {g : Int → Int} {n : Nat} (h : n ≠ 411) (h2 : n ≠ 415) : kpV v g n = v n := by
  unfold kpV
  rw [up_b h, flo_b h2, shV_b h h2]
theorem shV_u {v : Nat → Int → Int} (h0 : 0 ≤ v 411 7) (h1 : v 411 7 ≤ 8) : 0 ≤ shV v 411 7 ∧ shV v 411 7 ≤ 7 ∧ shV v 411 7 = min 7 (v 411 7) := by
  unfold shV
  split
  · rw [up_eq]; omega
  · omega
theorem shV_o {v : Nat → Int → Int} {k : Int} (h : k ≠ 7) : shV v 411 k = v 411 k := by
  unfold shV
  split
  · rw [up_ne (by omega), fil_ne (by omega)]
  · rfl
theorem kpV_o {v : Nat → Int → Int} {g : Int → Int} {k : Int} (h : k ≠ 7) : kpV v g 411 k = v 411 k := by
  unfold kpV
  rw [up_ne (by omega), flo_ne (by omega), shV_o h]
theorem kpV_cg {v : Nat → Int → Int} {g h : Int → Int} (hh : ∀ k, 0 ≤ k → k < 167 → g k = h k) : kpV v g = kpV v h := by
  unfold kpV
  rw [flo_cg hh]
section MO7
variable {d : Nat} {X : Nat × (Nat → Int32)} {v w : Nat → Int → Int} {T c s : Nat}
end MO7
