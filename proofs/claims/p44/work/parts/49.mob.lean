-- uses 24.zar 25.obj 26.ops 30.rd 31.re 34.gen 38.mod 39.mo2 40.mo3 41.bit 42.mo4 43.mo5 44.mo6 45.mo7 46.mo8 47.mo9 48.moa
/-! The reference: orders. -/
/-- the numbers of one series behind an order of q sheets of size n: its stacks -/
def fsF (K : Int → Int) (q : Int) (n : Nat) (k : Int) : Int := K k + 2 * cuF K q n (k - 1) - cuF K q n k - (if k = n then q else 0)
def fsG (K : Int → Int) (q : Int) (n : Nat) (m : Int) (k : Int) : Int := K k + 2 * cuF K q n (k - 1) - (if k < m then cuF K q n k else 0)
/-- the strips of the cuts for an order -/
def fsS (v : Nat → Int → Int) (i : Int) (q : Int) (n : Nat) : Int := fo (strM v i (cuF (kM v i) q n)) 0 10
/-- an order filled -/
def flU (v : Nat → Int → Int) (i : Int) (n : Nat) (a b q : Int) : Nat → Int → Int :=
  up (up (up (up (flo (up (up v 412 8 (v 412 8 + cuS (kM v i) q n n)) 412 7 (v 412 7 + fsS v i q n)) 412 (12 + 13 * i + 3) (fsF (kM v i) q n) ((n : Int) + 1)) 412 5 (v 412 5 + a * b * q)) 412 6 (v 412 6 + (aM v i n - a * b) * q)) 412 9 (v 412 9 + 1)) 412 10 (v 412 10 + q)
def flR (v : Nat → Int → Int) (a b q : Int) : Int := if (nrA v a b q).1 = -1 then (if fo2 (fitG v a b) 0 (v 412 0).toNat = 0 then -6 else -7) else 100 * (nrA v a b q).1 + (nrA v a b q).2
def flV (v : Nat → Int → Int) (a b q : Int) : Nat → Int → Int := if (nrA v a b q).1 = -1 then v else kpsV (flU v (nrA v a b q).1 (nrA v a b q).2.toNat a b q) a b q
theorem prOk_cg {v v' : Nat → Int → Int} (h : prOk v) (e : ∀ k : Int, k = 3 ∨ 77 ≤ k → v' 412 k = v 412 k) : prOk v' := by
  obtain ⟨h0, h1, h2⟩ := h
  unfold prOk
  rw [e 3 (Or.inl rfl)]
  refine ⟨h0, h1, fun k k0 k1 => ?_⟩
  rw [e _ (Or.inr (by omega)), e _ (Or.inr (by omega))]
  exact h2 k k0 k1
theorem flo_id {v : Nat → Int → Int} {b : Nat} {to : Int} {g : Int → Int} (h : g 0 = v b to) : flo v b to g 1 = v := by
  funext n k
  unfold flo
  by_cases q : n = b ∧ to ≤ k ∧ k < to + 1
  · have e : k = to := by omega
    rw [if_pos q, q.1, e, Int.sub_self, h]
  · rw [if_neg q]
theorem up_flo_in {v : Nat → Int → Int} {b : Nat} {to m k z : Int} {g h : Int → Int} (h0 : to ≤ k) (h1 : k < to + m) (hk : h (k - to) = z) (hh : ∀ j, 0 ≤ j → j < m → j ≠ k - to → h j = g j) : up (flo v b to g m) b k z = flo v b to h m := by
  funext n j
  unfold up flo
  by_cases e : n = b ∧ j = k
  · rw [if_pos e, if_pos (by omega), e.2, hk]
  · rw [if_neg e]
    by_cases q : n = b ∧ to ≤ j ∧ j < to + m
    · rw [if_pos q, if_pos q, hh _ (by omega) (by omega) (by omega)]
    · rw [if_neg q, if_neg q]
section MOB
variable {d : Nat} {X : Nat × (Nat → Int32)} {v w : Nat → Int → Int} {T c s : Nat}
theorem cuF_b {K : Int → Int} {q : Int} {n : Nat} (hq : 0 ≤ q) (hK : ∀ k : Int, 0 ≤ k → k ≤ n → 0 ≤ K k) (k : Int) : 0 ≤ cuF K q n k ∧ cuF K q n k ≤ q := by
  unfold cuF
  split
  · exact nd_b hq hK _ (by omega)
  · omega
end MOB
