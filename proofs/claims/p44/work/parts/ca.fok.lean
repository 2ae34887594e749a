-- uses 24.zar 25.obj 26.ops 30.rd 31.re 32.rf 34.gen 38.mod 39.mo2 41.bit 42.mo4 43.mo5 44.mo6 46.mo8 53.cla 58.clf c0.foa c1.fob c2.foc c3.fod c4.foe c5.fof c6.fog c7.foh c9.foj
/-! The reference folds all. -/
/-- the piles behind k folds -/
def kI (w : Nat → Int → Int) (x f k : Nat) : Prop := ∀ r c : Int, 0 ≤ r → r < dnX x f k → 0 ≤ c → c < acX x f k → w 426 (clX x f * r + c) = htX k ∧ ∀ t : Int, 0 ≤ t → t < htX k → w 425 (32 * (clX x f * r + c) + t) = qX x f k r c t
/-- in the midst of fold k, before place (r, c) -/
def mI (w : Nat → Int → Int) (x f k : Nat) (r c : Int) : Prop := ∀ r' c' : Int, 0 ≤ r' → r' < dnX x f k → 0 ≤ c' → c' < acX x f k →
  ((r' < dnX x f (k + 1) ∧ c' < acX x f (k + 1)) ∧ (r' < r ∨ (r' = r ∧ c' < c)) → w 426 (clX x f * r' + c') = htX (k + 1) ∧ ∀ t : Int, 0 ≤ t → t < htX (k + 1) → w 425 (32 * (clX x f * r' + c') + t) = qX x f (k + 1) r' c' t) ∧
  (¬ ((r' < dnX x f (k + 1) ∧ c' < acX x f (k + 1)) ∧ (r' < r ∨ (r' = r ∧ c' < c))) → ∀ t : Int, 0 ≤ t → t < htX k → w 425 (32 * (clX x f * r' + c') + t) = qX x f k r' c' t) ∧
  ((r' < dnX x f (k + 1) ∧ c' < acX x f (k + 1)) → ¬ (r' < r ∨ (r' = r ∧ c' < c)) → w 426 (clX x f * r' + c') = htX k) ∧
  (¬ (r' < dnX x f (k + 1) ∧ c' < acX x f (k + 1)) → (bt x k = true → ¬ (dnX x f k - 1 - r' < r ∨ (dnX x f k - 1 - r' = r ∧ c' < c))) → (bt x k = false → ¬ (r' < r ∨ (r' = r ∧ acX x f k - 1 - c' < c))) → w 426 (clX x f * r' + c') = htX k)
theorem ce_inj {a r c r' c' : Int} (c0 : 0 ≤ c) (c1 : c < a) (c0' : 0 ≤ c') (c1' : c' < a) (h : a * r + c = a * r' + c') : r = r' ∧ c = c' := by
  have h2 := pl_inj (b := 1) (t := 0) (t' := 0) (r := r) (r' := r') c0 c1 (by omega) (by omega) c0' c1' (by omega) (by omega) (by
    rw [Int.mul_comm r a, Int.mul_comm r' a, h])
  exact ⟨h2.1, h2.2.1⟩
theorem ce_lt {x f : Nat} {r c : Int} (hf : f < 6) (hx : x < 2 ^ f) (h : inC x f r c) : 0 ≤ clX x f * r + c ∧ clX x f * r + c < 32 := by
  obtain ⟨⟨r0, r1⟩, c0, c1⟩ := h
  have hb := pl_lt (t := 0) (b := 1) r0 r1 c0 c1 (by omega) (by omega)
  rw [Int.mul_one, Int.mul_one, Int.add_zero, (fo_1 f hf x hx).1, Int.mul_comm] at hb
  have h3 := (fo_h f hf).2.2
  omega
section FOK
variable {d : Nat} {X : Nat × (Nat → Int32)} {v w : Nat → Int → Int} {T c s : Nat}
/-- one place of the midst -/
theorem mI_step {x f k : Nat} {r cc : Int} {w w' : Nat → Int → Int} {fr fc : Int} (hf : f < 6) (hx : x < 2 ^ f) (hk : k < f) (hm : mI w x f k r cc) (r0 : 0 ≤ r) (r1 : r < dnX x f (k + 1)) (c0 : 0 ≤ cc) (c1 : cc < acX x f (k + 1))
    (hfr : fr = if bt x k = true then dnX x f k - 1 - r else r) (hfc : fc = if bt x k = true then cc else acX x f k - 1 - cc)
    (e1 : ∀ t : Int, 0 ≤ t → t < htX k → w' 425 (32 * (clX x f * r + cc) + t) = xr (w 425 (32 * (clX x f * fr + fc) + (htX k - 1 - t))) ∧ w' 425 (32 * (clX x f * r + cc) + htX k + t) = w 425 (32 * (clX x f * r + cc) + t)) (e2 : w' 426 (clX x f * r + cc) = 2 * htX k)
    (e3 : ∀ (m : Nat) (j : Int), m ≠ 427 → (m ≠ 425 ∨ j < 32 * (clX x f * r + cc) ∨ 32 * (clX x f * r + cc) + 32 ≤ j) → (m ≠ 426 ∨ (j ≠ clX x f * r + cc ∧ j ≠ clX x f * fr + fc)) → w' m j = w m j) : mI w' x f k r (cc + 1) := by
  obtain ⟨g1, g2⟩ := fo_2 f hf x hx k hk
  obtain ⟨a1, a2, a3, a4, a5⟩ := fo_3 f hf x hx k (by omega)
  obtain ⟨b1, b2, b3, b4, b5⟩ := fo_3 f hf x hx (k + 1) (by omega)
  obtain ⟨h1, h2, h3⟩ := fo_h (k + 1) (by omega)
  have hht : htX (k + 1) = 2 * htX k := rfl
  have hreg : (0 ≤ fr ∧ fr < dnX x f k) ∧ (0 ≤ fc ∧ fc < acX x f k) ∧ (r < dnX x f k ∧ cc < acX x f k) ∧ ¬ (fr < dnX x f (k + 1) ∧ fc < acX x f (k + 1)) := by
    cases hb : bt x k
    · rw [hb, if_neg Bool.false_ne_true] at hfr hfc
      have := g2 hb
      omega
    · rw [hb, if_pos rfl] at hfr hfc
      have := g1 hb
      omega
  obtain ⟨hr1, hr2, hr3, hr4⟩ := hreg
  have hold := (hm fr fc hr1.1 hr1.2 hr2.1 hr2.2).2.1 (fun q => hr4 q.1)
  have hown := (hm r cc r0 hr3.1 c0 hr3.2).2.1 (fun q => by omega)
  intro r' c' r0' r1' c0' c1'
  obtain ⟨m1, m2, m3, m4⟩ := hm r' c' r0' r1' c0' c1'
  by_cases hsame : r' = r ∧ c' = cc
  · obtain ⟨rfl, rfl⟩ := hsame
    refine ⟨fun _ => ⟨by rw [e2]; rfl, fun t t0 t1 => ?_⟩, fun q => absurd ⟨⟨r1, c1⟩, Or.inr ⟨rfl, by omega⟩⟩ q, fun _ q => by omega, fun q => by omega⟩
    have hq4 : qX x f (k + 1) r' c' t = if t < htX k then xr (if bt x k = true then qX x f k (dnX x f k - 1 - r') c' (htX k - 1 - t) else qX x f k r' (acX x f k - 1 - c') (htX k - 1 - t)) else qX x f k r' c' (t - htX k) := rfl
    rw [hq4]
    by_cases g : t < htX k
    · rw [if_pos g, (e1 t t0 g).1, hold _ (by omega) (by omega), hfr, hfc]
      cases hb : bt x k
      · rw [if_neg Bool.false_ne_true, if_neg Bool.false_ne_true, if_neg Bool.false_ne_true]
      · rw [if_pos rfl, if_pos rfl, if_pos rfl]
    · rw [if_neg g]
      have h := (e1 (t - htX k) (by omega) (by omega)).2
      rw [show 32 * (clX x f * r' + c') + htX k + (t - htX k) = 32 * (clX x f * r' + c') + t by omega] at h
      rw [h, hown _ (by omega) (by omega)]
  · have hne : clX x f * r' + c' ≠ clX x f * r + cc := fun q => hsame (ce_inj c0' (by omega) c0 (by omega) q)
    have k425 : ∀ t : Int, 0 ≤ t → t < 32 → w' 425 (32 * (clX x f * r' + c') + t) = w 425 (32 * (clX x f * r' + c') + t) := fun t t0 t1 => e3 _ _ (by omega) (by omega) (by omega)
    have k426 : ¬ (r' = fr ∧ c' = fc) → w' 426 (clX x f * r' + c') = w 426 (clX x f * r' + c') := fun q => e3 _ _ (by omega) (by omega) (Or.inr ⟨hne, fun q2 => q (ce_inj c0' (by omega) hr2.1 (by omega) q2)⟩)
    refine ⟨fun q => ?_, fun q t t0 t1 => ?_, fun q1 q2 => ?_, fun q1 q2 q3 => ?_⟩
    · obtain ⟨n1, n2⟩ := m1 ⟨q.1, by omega⟩
      refine ⟨(k426 (fun q2 => hr4 (by rw [← q2.1, ← q2.2]; exact q.1))).trans n1, fun t t0 t1 => (k425 t t0 (by omega)).trans (n2 t t0 t1)⟩
    · rw [k425 t t0 (by omega)]
      exact m2 (fun q2 => q ⟨q2.1, by omega⟩) t t0 t1
    · exact (k426 (fun q3 => hr4 (by rw [← q3.1, ← q3.2]; exact q1))).trans (m3 q1 (by omega))
    · refine (k426 (fun q4 => ?_)).trans (m4 q1 (fun hb => by have := q2 hb; omega) (fun hb => by have := q3 hb; omega))
      cases hb : bt x k
      · rw [hb, if_neg Bool.false_ne_true] at hfr hfc
        have := q3 hb
        omega
      · rw [hb, if_pos rfl] at hfr hfc
        have := q2 hb
        omega
/-- a place that doesn't stay changes nothing -/
theorem mI_skip {x f k : Nat} {r cc : Int} {w : Nat → Int → Int} (hf : f < 6) (hx : x < 2 ^ f) (hk : k < f) (hm : mI w x f k r cc) (h : ¬ (r < dnX x f (k + 1) ∧ cc < acX x f (k + 1))) : mI w x f k r (cc + 1) := by
  obtain ⟨g1, g2⟩ := fo_2 f hf x hx k hk
  intro r' c' r0' r1' c0' c1'
  obtain ⟨m1, m2, m3, m4⟩ := hm r' c' r0' r1' c0' c1'
  refine ⟨fun q => m1 ⟨q.1, by omega⟩, fun q => m2 (fun q2 => q ⟨q2.1, by omega⟩), fun q1 q2 => m3 q1 (by omega), fun q1 q2 q3 => m4 q1 (fun hb => ?_) (fun hb => ?_)⟩
  · have := q2 hb
    omega
  · have := q3 hb
    omega
end FOK
