-- uses 34.gen 36.ser 38.mod 39.mo2 40.mo3 44.mo6 45.mo7 46.mo8 48.moa 49.mob 50.moc 51.moe 52.mof 53.cla 57.cle 62.clj 64.okm
/-! The numbers stay right behind an order. -/
theorem fo_add (f g : Nat → Int) : ∀ N : Nat, fo (fun (a : Int) n => a + (f n + g n)) 0 N = fo (fun (a : Int) n => a + f n) 0 N + fo (fun (a : Int) n => a + g n) 0 N := by
  intro N
  induction N with
  | zero => rfl
  | succ N ih =>
    show fo (fun (a : Int) n => a + (f n + g n)) 0 N + (f N + g N) = (fo (fun (a : Int) n => a + f n) 0 N + f N) + (fo (fun (a : Int) n => a + g n) 0 N + g N)
    rw [ih]
    omega
/-- what an order takes from the stacks of its series, in area -/
theorem fs_tel (μ : Nat → Int → Int) (i q : Int) (n : Nat) : ∀ N : Nat, fo (fun (a : Int) (k : Nat) => a + (2 * cuF (kM μ i) q n ((k : Int) - 1) - cuF (kM μ i) q n k - (if (k : Int) = n then q else 0)) * aM μ i k) 0 N = -fo (strM μ i (cuF (kM μ i) q n)) 0 N - (if n < N then q * aM μ i n else 0) - 2 * (cuF (kM μ i) q n ((N : Int) - 1) * aM μ i N) * (-1) * (-1) := by
  intro N
  induction N with
  | zero =>
    rw [show cuF (kM μ i) q n (((0 : Nat) : Int) - 1) = 0 from if_neg (by omega), if_neg (by omega)]
    show (0 : Int) = -0 - 0 - 2 * (0 * _) * (-1) * (-1)
    rw [Int.zero_mul]
    rfl
  | succ N ih =>
    show fo _ 0 N + _ = -(strM μ i (cuF (kM μ i) q n) (fo (strM μ i (cuF (kM μ i) q n)) 0 N) N) - _ - _
    rw [ih]
    have es : strM μ i (cuF (kM μ i) q n) (fo (strM μ i (cuF (kM μ i) q n)) 0 N) N = fo (strM μ i (cuF (kM μ i) q n)) 0 N + cuF (kM μ i) q n N * (aM μ i N - 2 * aM μ i ((N : Int) + 1)) := by
      unfold strM
      congr 1
      split
      · next g => rw [g, Int.zero_mul]
      · rfl
    rw [es, show ((N + 1 : Nat) : Int) - 1 = N by omega, show ((N + 1 : Nat) : Int) = (N : Int) + 1 from rfl]
    rw [Int.sub_mul, Int.sub_mul, Int.mul_sub, Int.mul_assoc 2 (cuF (kM μ i) q n ((N : Int) - 1)), Int.mul_left_comm (cuF (kM μ i) q n N) 2]
    generalize cuF (kM μ i) q n ((N : Int) - 1) * aM μ i N = P1
    generalize cuF (kM μ i) q n N * aM μ i N = P2
    generalize cuF (kM μ i) q n N * aM μ i ((N : Int) + 1) = P3
    by_cases g : N = n
    · subst g
      rw [if_pos rfl, if_neg (by omega), if_pos (by omega)]
      omega
    · rw [if_neg (by omega : ¬ (N : Int) = n), Int.zero_mul]
      by_cases g2 : n < N
      · rw [if_pos g2, if_pos (by omega)]
        omega
      · rw [if_neg g2, if_neg (by omega)]
        omega
theorem fsF_out {K : Int → Int} {q : Int} {n : Nat} {k : Int} (h : (n : Int) < k) : fsF K q n k = K k := by
  unfold fsF cuF
  rw [if_neg (by omega), if_neg (by omega), if_neg (by omega)]
  omega
/-- enough is there -/
theorem nd_sup {μ : Nat → Int → Int} (hz : zM μ) {i q : Int} {n : Nat} (i0 : 0 ≤ i) (i1 : i < μ 412 0) (hg : gM μ) (hn : n < 10) (hq : q ≤ supM μ i (n + 1)) (ha : aM μ i n ≠ 0) (hq0 : 0 ≤ q) : ∀ j : Nat, j ≤ n → nd (kM μ i) q n j ≤ supM μ i (n - j + 1) := by
  have hv : ∀ m : Nat, m ≤ n → aM μ i ((n - m : Nat) : Int) ≠ 0 := by
    intro m
    induction m with
    | zero => intro _; exact ha
    | succ m ih =>
      intro hm g
      apply ih (by omega)
      have := aM_n hz i0 i1 (n := ((n - (m + 1) : Nat) : Int)) (by omega) g
      rw [show ((n - (m + 1) : Nat) : Int) + 1 = ((n - m : Nat) : Int) by omega] at this
      exact this
  intro j
  induction j with
  | zero => intro _; exact hq
  | succ j ih =>
    intro hj
    have h1 := ih (by omega)
    have h2 : supM μ i (n - j + 1) = min 9999 (kM μ i ((n - j : Nat) : Int) + 2 * supM μ i (n - j)) := if_neg (hv j (by omega))
    have h3 := hg.s i0 i1 (n := n - j) (by omega)
    rw [h2] at h1
    rw [show n - (j + 1) + 1 = n - j by omega]
    show (max 0 (nd (kM μ i) q n j - kM μ i ((n : Int) - j)) + 1) / 2 ≤ supM μ i (n - j)
    rw [show (n : Int) - j = ((n - j : Nat) : Int) by omega]
    omega
theorem fsF_b {μ : Nat → Int → Int} (hz : zM μ) {i q : Int} {n : Nat} (i0 : 0 ≤ i) (i1 : i < μ 412 0) (hg : gM μ) (hn : n < 10) (hq : q ≤ supM μ i (n + 1)) (ha : aM μ i n ≠ 0) (hq0 : 0 ≤ q) {k : Int} (k0 : 0 ≤ k) (k1 : k < 10) : 0 ≤ fsF (kM μ i) q n k ∧ fsF (kM μ i) q n k ≤ 9999 := by
  have hk := (hg.2.2.2.2 i i0 i1).2 k k0 k1
  have hK : ∀ k : Int, 0 ≤ k → k ≤ n → 0 ≤ kM μ i k := fun k a b => ((hg.2.2.2.2 i i0 i1).2 k a (by omega)).1
  have hK0 := (hg.2.2.2.2 i i0 i1).2 0 (by omega) (by omega)
  by_cases g : (n : Int) < k
  · rw [fsF_out g]; exact hk
  · have hs := nd_sup hz i0 i1 hg hn hq ha hq0
    have hs0 : supM μ i 1 ≤ kM μ i 0 := by
      show (if aM μ i ((0 : Nat) : Int) = 0 then 0 else min 9999 (kM μ i ((0 : Nat) : Int) + 2 * 0)) ≤ kM μ i 0
      split
      · exact hK0.1
      · show min 9999 (kM μ i 0 + 2 * 0) ≤ kM μ i 0
        omega
    obtain ⟨k', rfl⟩ : ∃ k' : Nat, k = k' := ⟨k.toNat, (Int.toNat_of_nonneg k0).symm⟩
    have ek : ∀ t : Nat, t < n → cuF (kM μ i) q n t = nd (kM μ i) q n (n - t) := fun t ht => by
      unfold cuF
      rw [if_pos (by omega), Int.toNat_natCast]
    have hstep : ∀ t : Nat, t < n → nd (kM μ i) q n (n - t) = (max 0 (nd (kM μ i) q n (n - t - 1) - kM μ i ((t : Int) + 1)) + 1) / 2 := fun t ht => by
      have : n - t = (n - t - 1) + 1 := by omega
      rw [this]
      show (max 0 (nd (kM μ i) q n (n - t - 1) - kM μ i ((n : Int) - (n - t - 1 : Nat))) + 1) / 2 = _
      rw [show (n : Int) - (n - t - 1 : Nat) = (t : Int) + 1 by omega]
      rfl
    -- what is wanted of size k'
    have hw : cuF (kM μ i) q n k' + (if (k' : Int) = n then q else 0) = nd (kM μ i) q n (n - k') := by
      by_cases g2 : k' = n
      · subst g2
        rw [if_pos rfl, show cuF (kM μ i) q k' k' = 0 from if_neg (by omega), Nat.sub_self]
        show 0 + q = q
        omega
      · rw [if_neg (by omega), ek k' (by omega)]
        omega
    have hwb := nd_b hq0 hK (n - k') (by omega)
    unfold fsF
    by_cases g3 : k' = 0
    · subst g3
      rw [show cuF (kM μ i) q n (((0 : Nat) : Int) - 1) = 0 from if_neg (by omega)]
      have h1 := hs n (Nat.le_refl n)
      rw [Nat.sub_self] at h1
      rw [Nat.sub_zero] at hw hwb
      have h2 : supM μ i (0 + 1) ≤ kM μ i 0 := hs0
      have h3 : kM μ i ((0 : Nat) : Int) = kM μ i 0 := rfl
      omega
    · have e1 : cuF (kM μ i) q n ((k' : Int) - 1) = nd (kM μ i) q n (n - (k' - 1)) := by
        rw [show (k' : Int) - 1 = ((k' - 1 : Nat) : Int) by omega]
        exact ek (k' - 1) (by omega)
      have e2 := hstep (k' - 1) (by omega)
      rw [show ((k' - 1 : Nat) : Int) + 1 = k' by omega, show n - (k' - 1) - 1 = n - k' by omega] at e2
      rw [e1, e2]
      omega
theorem nrA_f {μ : Nat → Int → Int} {a b q : Int} : (nrA μ a b q).1 = -1 ∨ fitI μ (nrA μ a b q).1 (nrA μ a b q).2 a b = 1 :=
  fo2_P (P := fun st : Int × Int => st.1 = -1 ∨ fitI μ st.1 st.2 a b = 1) _ (Or.inl rfl) (fun k n x _ _ hx => by
    unfold nrG
    split
    · next g => exact Or.inr g.1
    · exact hx)
theorem fit_area {μ : Nat → Int → Int} {i n a b : Int} (ho : oM μ i) (he : 0 ≤ μ 412 1) (ha : 1 ≤ a) (hb : 1 ≤ b) (h : fitI μ i n a b = 1) : a * b ≤ aM μ i n := by
  have hs := szM_b ho n
  unfold fitI at h
  split at h
  · next g =>
    unfold usE at g
    unfold aM
    rcases g with ⟨g1, g2⟩ | ⟨g1, g2⟩
    · exact Int.mul_le_mul (by omega) (by omega) (by omega) (by omega)
    · rw [Int.mul_comm (szM μ i n).1]
      exact Int.mul_le_mul (by omega) (by omega) (by omega) (by omega)
  · exact absurd h (by decide)
theorem fsS_nn {μ : Nat → Int → Int} {i q : Int} {n : Nat} (hg : gM μ) (i0 : 0 ≤ i) (i1 : i < μ 412 0) (hn : n < 10) (hq0 : 0 ≤ q) : 0 ≤ fsS μ i q n := by
  have ho := hg.o i0 i1
  have h := fo_P (g := strM μ i (cuF (kM μ i) q n)) (a := 0) (P := fun _ x => 0 ≤ x) (Int.le_refl 0) 10 (fun k x hk hx => by
    have h1 := cuF_b (K := kM μ i) (q := q) (n := n) hq0 (fun k k0 k1 => ((hg.2.2.2.2 i i0 i1).2 k k0 (by omega)).1) k
    have h2 := strip_nn ho (n := (k : Int)) (by omega)
    have h3 := Int.mul_nonneg h1.1 (show 0 ≤ aM μ i k - 2 * aM μ i ((k : Int) + 1) by omega)
    unfold strM
    split <;> omega)
  exact h
