-- uses 24.zar 25.obj 26.ops 30.rd 31.re 34.gen 38.mod 39.mo2 40.mo3 41.bit 42.mo4 43.mo5 44.mo6 45.mo7 46.mo8 47.mo9 48.moa 49.mob 50.moc 51.moe
/-! The reference: whyNot, ifOrder. -/
theorem gM_e {v : Nat → Int → Int} {e : Int} (h : gM v) (h0 : 0 ≤ e) (h1 : e ≤ 50) : gM (up v 412 1 e) := by
  obtain ⟨a, b, -, -, f⟩ := h
  unfold gM
  rw [up_ne (by omega), up_eq]
  refine ⟨a, b, h0, h1, fun i i0 i1 => ⟨oM_up (f i i0 i1).1 (by omega), fun n n0 n1 => ?_⟩⟩
  have := (f i i0 i1).2 n n0 n1
  unfold kM at this ⊢
  rw [up_ne (by omega)]
  exact this
/-- the greatest edge with which something fits -/
def besF (v : Nat → Int → Int) (a b : Int) : Int := fnd (fun k : Nat => 0 < fo2 (fitG (up v 412 1 (50 - (k : Int))) a b) 0 (v 412 0).toNat) (fun k => 50 - (k : Int)) (-1) 0 51
def whyA (v : Nat → Int → Int) (a b q : Int) : Int := if (nrA v a b q).1 = -1 then (if fo2 (fitG v a b) 0 (v 412 0).toNat = 0 then 1 else 2) else 0
def whyB (v : Nat → Int → Int) (a b q z : Int) : Int := if z = 0 then whyA v a b q else if whyA v a b q = 1 then besF v a b else if whyA v a b q = 2 then fo2 (mosG v a b) 0 (v 412 0).toNat else -1
def ifF (v : Nat → Int → Int) (i : Int) (n : Nat) (a b q z : Int) : Int := if z = 0 then cuS (kM v i) q n n else if z = 1 then fsS v i q n else if z = 2 then (aM v i n - a * b) * q else kM v i n + 2 * cuF (kM v i) q n ((n : Int) - 1) - q
def ifA (v : Nat → Int → Int) (a b q z : Int) : Int := if (nrA v a b q).1 = -1 then -1 else min 2147483647 (ifF v (nrA v a b q).1 (nrA v a b q).2.toNat a b q z)
theorem fitG_m {v : Nat → Int → Int} {a b : Int} {m : Nat} (hm : m ≤ 5) : 0 ≤ fo2 (fitG v a b) 0 m ∧ fo2 (fitG v a b) 0 m ≤ 50 := by
  refine ⟨fitG_b m, ?_⟩
  have h := fo_P (g := fun x k => fo (fun x n => fitG v a b x k n) x 10) (a := 0) (P := fun k x => x ≤ 10 * (k : Int)) (by omega) m (fun k x hk hx => by
    have h2 := fo_P (g := fun x n => fitG v a b x k n) (a := x) (P := fun n y => y ≤ 10 * (k : Int) + n) (by omega) 10 (fun n y hn hy => by
      have := fitI_01 (v := v) (i := k) (n := n) (pw := a) (ph := b)
      unfold fitG
      omega)
    omega)
  unfold fo2
  omega
theorem fsS_b {v : Nat → Int → Int} {i q : Int} {n : Nat} (hg : gM v) (hi0 : 0 ≤ i) (hi1 : i < v 412 0) (hn : n < 10) (hq0 : 0 ≤ q) (hq1 : q ≤ 1000) : -1000000000000 ≤ fsS v i q n ∧ fsS v i q n ≤ 1000000000000 := by
  have hk := hg.k hi0 hi1
  have h := fo_P (g := strM v i (cuF (kM v i) q n)) (a := 0) (P := fun k x => -(100000000000 * (k : Int)) ≤ x ∧ x ≤ 100000000000 * (k : Int)) (by omega) 10 (fun k x hk1 hx => by
    have h1 := cuF_b (K := kM v i) (q := q) (n := n) hq0 (fun k k0 k1 => (hk k k0 (by omega)).1) k
    have h2 := aM_b (hg.o hi0 hi1) k
    have h3 := aM_b (hg.o hi0 hi1) ((k : Int) + 1)
    have h4 : cuF (kM v i) q n k * (aM v i k - 2 * aM v i ((k : Int) + 1)) ≤ 1000 * 8000000 := by
      by_cases g : 0 ≤ aM v i k - 2 * aM v i ((k : Int) + 1)
      · exact Int.mul_le_mul (by omega) (by omega) g (by omega)
      · have := Int.mul_nonpos_of_nonneg_of_nonpos h1.1 (show aM v i k - 2 * aM v i ((k : Int) + 1) ≤ 0 by omega)
        omega
    have h5 : cuF (kM v i) q n k * (2 * aM v i ((k : Int) + 1) - aM v i k) ≤ 1000 * 8000000 := by
      by_cases g : 0 ≤ 2 * aM v i ((k : Int) + 1) - aM v i k
      · exact Int.mul_le_mul (by omega) (by omega) g (by omega)
      · have := Int.mul_nonpos_of_nonneg_of_nonpos h1.1 (show 2 * aM v i ((k : Int) + 1) - aM v i k ≤ 0 by omega)
        omega
    have h6 : cuF (kM v i) q n k * (2 * aM v i ((k : Int) + 1) - aM v i k) = -(cuF (kM v i) q n k * (aM v i k - 2 * aM v i ((k : Int) + 1))) := by
      rw [← Int.mul_neg, Int.neg_sub]
    unfold strM
    split <;> omega)
  unfold fsS
  omega
section MOF
variable {d : Nat} {X : Nat × (Nat → Int32)} {v w : Nat → Int → Int} {T c s : Nat}
end MOF
