-- uses 24.zar 25.obj 26.ops 30.rd 31.re 34.gen 38.mod 39.mo2 40.mo3 41.bit 42.mo4 43.mo5
/-! The reference: more that only asks. -/
section MO6
variable {d : Nat} {X : Nat × (Nat → Int32)} {v w : Nat → Int → Int} {T c s : Nat}
def alP (p q : Int × Int) : Prop := 0 < min p.1 p.2 ∧ 0 < min q.1 q.2 ∧ max p.1 p.2 * min q.1 q.2 = min p.1 p.2 * max q.1 q.2
def alI (p q : Int × Int) : Int := if 0 < min p.1 p.2 then (if 0 < min q.1 q.2 then (if max p.1 p.2 * min q.1 q.2 = min p.1 p.2 * max q.1 q.2 then 1 else 0) else 0) else 0
def sdP (a b : Int) : Prop := (1 ≤ a ∧ a ≤ 2000) ∧ 1 ≤ b ∧ b ≤ 2000
def acOk (v : Nat → Int → Int) (B : Int) : Prop := ∀ k : Int, 0 ≤ k → k < 8 → 0 ≤ v 412 (4 + k) ∧ v 412 (4 + k) ≤ B
def gapA (v : Nat → Int → Int) : Int := v 412 4 - v 412 5 - v 412 6 - v 412 7 - fo2 (areaG v) 0 (v 412 0).toNat
theorem areaG_b (hg : gM v) (m : Nat) (hm : (m : Int) ≤ v 412 0) : 0 ≤ fo2 (areaG v) 0 m ∧ fo2 (areaG v) 0 m ≤ 2000000000000 := by
  obtain ⟨hc0, hc1, -⟩ := id hg
  have h := fo_P (g := fun a k => fo (fun a n => areaG v a k n) a 10) (a := 0) (P := fun k x => 0 ≤ x ∧ x ≤ 400000000000 * (k : Int)) (by omega) m (fun k x hk hx => by
    have h2 := fo_P (g := fun a n => areaG v a k n) (a := x) (P := fun n y => 0 ≤ y ∧ y ≤ 400000000000 * (k : Int) + 40000000000 * (n : Int)) (by omega) 10 (fun n y hn hy => by
      have h3 := (hg.2.2.2.2 k (by omega) (by omega)).2 n (by omega) (by omega)
      have h4 := aM_b (hg.o (i := k) (by omega) (by omega)) n
      have h5 := Int.mul_nonneg h3.1 h4.1
      have h6 : kM v k n * aM v k n ≤ 10000 * 4000000 := Int.mul_le_mul (by omega) h4.2 h4.1 (by omega)
      unfold areaG
      omega)
    omega)
  unfold fo2
  omega
theorem nrM_x {pw ph num x y : Int} : (nrM v pw ph num x).1 = -1 ∧ (nrM v pw ph num y).1 = -1 ∨ nrM v pw ph num x = nrM v pw ph num y :=
  fo2_map (R := fun p q : Int × Int => p.1 = -1 ∧ q.1 = -1 ∨ p = q) _ (Or.inl ⟨rfl, rfl⟩) (fun k n p q _ _ h => by
    rcases h with ⟨h1, h2⟩ | h
    · unfold nrG nrI
      by_cases g : fitI v k n pw ph = 1 ∧ num ≤ supM v k (n + 1)
      · right
        rw [if_pos (show p.1 = -1 ∨ _ from Or.inl h1), if_pos (show q.1 = -1 ∨ _ from Or.inl h2), if_pos ⟨g.1, g.2, rfl⟩, if_pos ⟨g.1, g.2, rfl⟩]
      · left
        rw [if_neg (fun q => g ⟨q.1, q.2.1⟩), if_neg (fun q => g ⟨q.1, q.2.1⟩)]
        exact ⟨h1, h2⟩
    · right; rw [h])
/-- the nearest size, and -1 as its series where there is none -/
def nrA (v : Nat → Int → Int) (a b q : Int) : Int × Int := nrM v a b q (-1)
theorem nrA_c (a b q x : Int) : ((nrA v a b q).1 = -1 ∧ (nrM v a b q x).1 = -1) ∨ (nrA v a b q = nrM v a b q x ∧ (0 ≤ (nrA v a b q).1 ∧ (nrA v a b q).1 < v 412 0 ∧ 0 ≤ (nrA v a b q).2 ∧ (nrA v a b q).2 < 10)) := by
  rcases nrM_x (v := v) (pw := a) (ph := b) (num := q) (x := -1) (y := x) with h | h
  · exact Or.inl h
  · rcases nrM_P (v := v) (pw := a) (ph := b) (num := q) (x := -1) with g | g
    · exact Or.inl ⟨g, by rw [← h]; exact g⟩
    · exact Or.inr ⟨h, g⟩
end MO6
