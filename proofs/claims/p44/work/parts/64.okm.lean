-- uses 34.gen 36.ser 38.mod 39.mo2 40.mo3 44.mo6 45.mo7 46.mo8 48.moa 49.mob 50.moc 51.moe 53.cla 62.clj
/-! The numbers stay right. -/
theorem fo_sh (f : Nat → Int) (x y : Int) : ∀ N : Nat, fo (fun a n => a + f n) (x + y) N = x + fo (fun a n => a + f n) y N := by
  intro N
  induction N with
  | zero => rfl
  | succ N ih =>
    show fo (fun a n => a + f n) (x + y) N + f N = x + (fo (fun a n => a + f n) y N + f N)
    rw [ih]
    omega
theorem fo_ch {f g : Nat → Int} (x : Int) (j : Nat) : ∀ N : Nat, (∀ n, n < N → n ≠ j → g n = f n) → fo (fun a n => a + g n) x N = fo (fun a n => a + f n) x N + (if j < N then g j - f j else 0) := by
  intro N
  induction N with
  | zero => intro _; show x = x + 0; omega
  | succ N ih =>
    intro h
    show fo (fun a n => a + g n) x N + g N = fo (fun a n => a + f n) x N + f N + _
    rw [ih (fun n hn => h n (by omega))]
    by_cases q : N = j
    · subst q
      rw [if_neg (by omega), if_pos (by omega)]
      omega
    · rw [h N (by omega) q]
      by_cases q2 : j < N
      · rw [if_pos q2, if_pos (by omega)]; omega
      · rw [if_neg q2, if_neg (by omega)]; omega
def rowA (μ : Nat → Int → Int) (k : Nat) : Int := fo (fun a n => a + kM μ k n * aM μ k n) 0 10
theorem area_rows (μ : Nat → Int → Int) (m : Nat) : fo2 (areaG μ) 0 m = fo (fun a k => a + rowA μ k) 0 m := by
  unfold fo2
  refine fo_congr m (fun k x _ => ?_)
  have h := fo_sh (fun n => kM μ k n * aM μ k n) x 0 10
  rw [Int.add_zero] at h
  exact h
/-- one series changed -/
theorem area_one {μ μ' : Nat → Int → Int} {i m : Nat} (hi : i < m) (h : ∀ k : Nat, k < m → k ≠ i → ∀ n : Nat, n < 10 → kM μ' k n = kM μ k n ∧ aM μ' k n = aM μ k n) : fo2 (areaG μ') 0 m = fo2 (areaG μ) 0 m + (rowA μ' i - rowA μ i) := by
  rw [area_rows, area_rows, fo_ch (f := rowA μ) (g := rowA μ') 0 i m (fun k hk hki => fo_congr 10 (fun n x hn => by
    rw [(h k hk hki n hn).1, (h k hk hki n hn).2])), if_pos hi]
theorem kM_up {μ : Nat → Int → Int} {p z i n : Int} (h : p ≠ 12 + 13 * i + 3 + n) : kM (up μ 412 p z) i n = kM μ i n := by
  unfold kM
  exact up_ne (by omega)
theorem area_up {μ : Nat → Int → Int} {p z : Int} {m : Nat} (hm : m ≤ 5) (h : p < 13 ∨ 77 ≤ p) : fo2 (areaG (up μ 412 p z)) 0 m = fo2 (areaG μ) 0 m := fo2_congr m (fun k n x hk hn => by
  unfold areaG
  rw [kM_up (by omega), aM_up (by omega)])
theorem area_stack {μ : Nat → Int → Int} {i n m : Nat} {z : Int} (hi : i < m) (hm : m ≤ 5) (hn : n < 10) : fo2 (areaG (up μ 412 (12 + 13 * i + 3 + n) z)) 0 m = fo2 (areaG μ) 0 m + (z - kM μ i n) * aM μ i n := by
  rw [area_one hi (fun k hk hki j hj => ⟨kM_up (by omega), aM_up (by omega)⟩)]
  congr 1
  unfold rowA
  rw [fo_ch (f := fun j => kM μ i j * aM μ i j) (g := fun j => kM (up μ 412 (12 + 13 * i + 3 + n) z) i j * aM (up μ 412 (12 + 13 * i + 3 + n) z) i j) 0 n 10 (fun j hj hjn => by
    rw [kM_up (by omega), aM_up (by omega)]), if_pos hn]
  have e : kM (up μ 412 (12 + 13 * i + 3 + n) z) i n = z := up_eq
  rw [e, aM_up (by omega), Int.sub_mul]
  omega
theorem hf_a {p : Int × Int} (h : 0 ≤ p.1 ∧ 0 ≤ p.2) : 2 * ((hf p).1 * (hf p).2) ≤ p.1 * p.2 := by
  have h0 := Int.mul_nonneg h.1 h.2
  unfold hf
  split
  · show 2 * (0 * 0) ≤ _
    omega
  · unfold hf1
    split
    · show 2 * (p.1 * (p.2 / 2)) ≤ p.1 * p.2
      have h1 := Int.mul_le_mul_of_nonneg_left (show p.2 / 2 * 2 ≤ p.2 by omega) h.1
      rw [← Int.mul_assoc] at h1
      omega
    · show 2 * (p.1 / 2 * p.2) ≤ p.1 * p.2
      have h1 := Int.mul_le_mul_of_nonneg_right (show 2 * (p.1 / 2) ≤ p.1 by omega) h.2
      rw [Int.mul_assoc] at h1
      exact h1
theorem strip_nn {μ : Nat → Int → Int} {i n : Int} (ho : oM μ i) (hn : 0 ≤ n) : 2 * aM μ i (n + 1) ≤ aM μ i n := by
  have hb := szM_b ho n
  have e : szM μ i (n + 1) = hf (szM μ i n) := by
    unfold szM
    rw [show (n + 1).toNat = n.toNat + 1 by omega]
    rfl
  unfold aM
  rw [e]
  exact hf_a ⟨hb.1, hb.2.2.1⟩
theorem okM_418 {μ : Nat → Int → Int} {n p z : Int} (h : okM μ n) : okM (up μ 418 p z) n := eqS.ok (fun k _ _ => up_ne (by omega)) h
/-- a stack and accounts told anew -/
theorem gM_stack {μ : Nat → Int → Int} {i n z : Int} (h : gM μ) (i0 : 0 ≤ i) (i1 : i < μ 412 0) (n0 : 0 ≤ n) (n1 : n < 10) (z0 : 0 ≤ z) (z1 : z ≤ 9999) : gM (up μ 412 (12 + 13 * i + 3 + n) z) := by
  obtain ⟨a, b, c, d, f⟩ := h
  unfold gM
  rw [up_ne (by omega), up_ne (by omega)]
  refine ⟨a, b, c, d, fun j j0 j1 => ⟨oM_up (f j j0 j1).1 (by omega), fun m m0 m1 => ?_⟩⟩
  have := (f j j0 j1).2 m m0 m1
  by_cases g : i = j ∧ n = m
  · obtain ⟨rfl, rfl⟩ := g
    have e : kM (up μ 412 (12 + 13 * i + 3 + n) z) i n = z := up_eq
    rw [e]; omega
  · rw [kM_up (by omega)]; exact this
theorem gM_up {μ : Nat → Int → Int} {p z : Int} (h : gM μ) (hp : (2 ≤ p ∧ p < 12) ∨ 77 ≤ p) : gM (up μ 412 p z) := by
  obtain ⟨a, b, c, d, f⟩ := h
  unfold gM
  rw [up_ne (by omega), up_ne (by omega)]
  refine ⟨a, b, c, d, fun j j0 j1 => ⟨oM_up (f j j0 j1).1 (by omega), fun m m0 m1 => ?_⟩⟩
  rw [kM_up (by omega)]
  exact (f j j0 j1).2 m m0 m1
theorem zM_up {μ : Nat → Int → Int} {p z : Int} (h : zM μ) (hc : μ 412 0 ≤ 5) (hp : p ≠ 0) (h2 : ∀ i : Int, 0 ≤ i → i < 5 → p ≠ 12 + 13 * i + 1 ∧ p ≠ 12 + 13 * i + 2) : zM (up μ 412 p z) := by
  intro i i0 i1
  rw [up_ne (by omega)] at i1
  have := h2 i i0 (by omega)
  rw [up_ne (by omega), up_ne (by omega)]
  exact h i i0 i1
theorem stZ_up {μ : Nat → Int → Int} {p z : Int} (h : stZ μ) (hp : p ≠ 0) (h2 : ∀ i n : Int, μ 412 0 ≤ i → i < 5 → 0 ≤ n → n < 10 → p ≠ 12 + 13 * i + 3 + n) : stZ (up μ 412 p z) := by
  intro i n i0 i1 n0 n1
  rw [up_ne (by omega)] at i0
  rw [kM_up (h2 i n i0 i1 n0 n1)]
  exact h i n i0 i1 n0 n1
theorem stZ_up' {μ : Nat → Int → Int} {p z : Int} (h : stZ μ) (h0 : 0 ≤ μ 412 0) (hp : p ≠ 0) (h2 : p < 13 ∨ 77 ≤ p) : stZ (up μ 412 p z) := stZ_up h hp (fun i n i0 i1 n0 n1 => by omega)
theorem prN_up {μ : Nat → Int → Int} {p z B : Int} (h : prN μ B) (hp : p ≠ 3) (h2 : p < 77) : prN (up μ 412 p z) B := by
  intro j j0 j1
  rw [up_ne (by omega)] at j1
  rw [up_ne (by omega)]
  exact h j j0 j1
theorem prOk_up {μ : Nat → Int → Int} {p z : Int} (h : prOk μ) (hp : p ≠ 3) (h2 : p < 77) : prOk (up μ 412 p z) := prOk_cg h (fun k hk => up_ne (by omega))
theorem okM_by {μ : Nat → Int → Int} {i n r m : Int} (h : okM μ m) (i0 : 0 ≤ i) (i1 : i < μ 412 0) (n0 : 0 ≤ n) (n1 : n < 10) (r0 : 1 ≤ r) (r1 : r ≤ 99) (hm : 0 ≤ m) (hb : ¬ byR μ i n r < -1) : okM (byV μ i n r) (m + 1) := by
  obtain ⟨i', rfl⟩ : ∃ i' : Nat, i = i' := ⟨i.toNat, (Int.toNat_of_nonneg i0).symm⟩
  obtain ⟨n', rfl⟩ : ∃ n' : Nat, n = n' := ⟨n.toNat, (Int.toNat_of_nonneg n0).symm⟩
  obtain ⟨hg, ⟨q0, q1⟩, hz, hp, hn, ha, hs, hc⟩ := h
  have hc5 := hg.2.1
  have hk := (hg.2.2.2.2 i' i0 i1).2 n' n0 n1
  have hA := aM_b (hg.o i0 i1) n'
  have hx : 0 ≤ r * μ 412 2 := Int.mul_nonneg (by omega) (by omega)
  have hK : kM μ i' n' + r * μ 412 2 ≤ 9999 := by
    unfold byR at hb
    split at hb
    · omega
    · split at hb <;> omega
  have hX : 0 ≤ r * μ 412 2 * aM μ i' n' := Int.mul_nonneg hx hA.1
  have hX2 : r * μ 412 2 * aM μ i' n' ≤ 9999 * 4000000 := Int.mul_le_mul (by omega) hA.2 hA.1 (by omega)
  have e : byV μ i' n' r = up (up (up μ 412 (12 + 13 * i' + 3 + n') (kM μ i' n' + r * μ 412 2)) 412 4 (μ 412 4 + r * μ 412 2 * aM μ i' n')) 412 11 (μ 412 11 + r) := if_neg hb
  rw [e]
  refine ⟨gM_up (gM_up (gM_stack hg i0 i1 n0 n1 (by omega) hK) (by omega)) (by omega), ⟨?_, ?_⟩, ?_, prOk_up (prOk_up (prOk_up hp (by omega) (by omega)) (by omega) (by omega)) (by omega) (by omega), ?_, ?_, ?_, ?_⟩
  · rw [up_ne (by omega), up_ne (by omega), up_ne (by omega)]; exact q0
  · rw [up_ne (by omega), up_ne (by omega), up_ne (by omega)]; exact q1
  · exact zM_up (zM_up (zM_up hz hc5 (by omega) (fun j _ _ => by omega)) (by rw [up_ne (by omega)]; exact hc5) (by omega) (fun j _ _ => by omega)) (by rw [up_ne (by omega), up_ne (by omega)]; exact hc5) (by omega) (fun j _ _ => by omega)
  · have := prN_up (p := 11) (z := μ 412 11 + r) (prN_up (p := 4) (z := μ 412 4 + r * μ 412 2 * aM μ i' n') (prN_up (p := 12 + 13 * i' + 3 + n') (z := kM μ i' n' + r * μ 412 2) hn (by omega) (by omega)) (by omega) (by omega)) (by omega) (by omega)
    intro j j0 j1
    have := this j j0 j1
    omega
  · intro k k0 k1
    have h1 := ha k k0 k1
    by_cases g : k = 7
    · subst g
      rw [show (4 : Int) + 7 = 11 from rfl] at h1 ⊢
      rw [up_eq]
      omega
    · by_cases g2 : k = 0
      · subst g2
        rw [show (4 : Int) + 0 = 4 from rfl] at h1 ⊢
        rw [up_ne (by omega), up_eq]
        omega
      · rw [up_ne (by omega), up_ne (by omega), up_ne (by omega)]
        omega
  · exact stZ_up' (stZ_up' (stZ_up hs (by omega) (fun j m j0 j1 m0 m1 => by omega)) (by rw [up_ne (by omega)]; exact hg.1) (by omega) (by omega)) (by rw [up_ne (by omega), up_ne (by omega)]; exact hg.1) (by omega) (by omega)
  · unfold csM at hc ⊢
    have e0 : up (up (up μ 412 (12 + 13 * i' + 3 + n') (kM μ i' n' + r * μ 412 2)) 412 4 (μ 412 4 + r * μ 412 2 * aM μ i' n')) 412 11 (μ 412 11 + r) 412 0 = μ 412 0 := by rw [up_ne (by omega), up_ne (by omega), up_ne (by omega)]
    rw [e0, area_up (by omega) (by omega), area_up (by omega) (by omega), area_stack (by omega) (by omega) (by omega)]
    rw [up_ne (by omega), up_eq, up_ne (by omega), up_ne (by omega), up_ne (by omega), up_ne (by omega), up_ne (by omega), up_ne (by omega), up_ne (by omega), up_ne (by omega), up_ne (by omega), hc]
    rw [show kM μ i' n' + r * μ 412 2 - kM μ i' n' = r * μ 412 2 by omega]
    omega
theorem okM_ct {μ : Nat → Int → Int} {i n q m : Int} (h : okM μ m) (i0 : 0 ≤ i) (i1 : i < μ 412 0) (n0 : 0 ≤ n) (n1 : n < 10) (q0 : 1 ≤ q) (q1 : q ≤ 9999) (hm : 0 ≤ m) (hb : ¬ ctR μ i n q < -1) : okM (ctV μ i n q) (m + 1) := by
  obtain ⟨i', rfl⟩ : ∃ i' : Nat, i = i' := ⟨i.toNat, (Int.toNat_of_nonneg i0).symm⟩
  obtain ⟨n', rfl⟩ : ∃ n' : Nat, n = n' := ⟨n.toNat, (Int.toNat_of_nonneg n0).symm⟩
  obtain ⟨hg, ⟨r0, r1⟩, hz, hp, hn, ha, hs, hc⟩ := h
  have hc5 := hg.2.1
  have hr : ¬ ((10 ≤ (n' : Int) ∨ aM μ i' n' = 0) ∨ (10 ≤ (n' : Int) + 1 ∨ aM μ i' ((n' : Int) + 1) = 0)) ∧ q ≤ kM μ i' n' ∧ kM μ i' ((n' : Int) + 1) + 2 * q ≤ 9999 := by
    unfold ctR at hb
    split at hb
    · omega
    · next g =>
      split at hb
      · omega
      · split at hb
        · omega
        · exact ⟨g, by omega, by omega⟩
  obtain ⟨hr1, hr2, hr3⟩ := hr
  have hn9 : n' < 9 := by omega
  have hk := (hg.2.2.2.2 i' i0 i1).2 n' n0 n1
  have hk2 := (hg.2.2.2.2 i' i0 i1).2 ((n' : Int) + 1) (by omega) (by omega)
  have ho := hg.o i0 i1
  have hA := aM_b ho n'
  have hA2 := aM_b ho ((n' : Int) + 1)
  have hst := strip_nn ho n0
  have hX : 0 ≤ q * (aM μ i' n' - 2 * aM μ i' ((n' : Int) + 1)) := Int.mul_nonneg (by omega) (by omega)
  have hX2 : q * (aM μ i' n' - 2 * aM μ i' ((n' : Int) + 1)) ≤ 9999 * 4000000 := Int.mul_le_mul q1 (by omega) (by omega) (by omega)
  have e : ctV μ i' n' q = up (up (up (up μ 412 (12 + 13 * i' + 3 + n') (kM μ i' n' - q)) 412 (12 + 13 * i' + 3 + ((n' : Int) + 1)) (kM μ i' ((n' : Int) + 1) + 2 * q)) 412 7 (μ 412 7 + q * (aM μ i' n' - 2 * aM μ i' ((n' : Int) + 1)))) 412 8 (μ 412 8 + q) := if_neg hb
  rw [e]
  have g1 := gM_stack (z := kM μ i' n' - q) hg i0 i1 n0 n1 (by omega) (by omega)
  have g2 := gM_stack (z := kM μ i' ((n' : Int) + 1) + 2 * q) g1 i0 (by rw [up_ne (by omega)]; exact i1) (n := (n' : Int) + 1) (by omega) (by omega) (by omega) (by omega)
  refine ⟨gM_up (gM_up g2 (by omega)) (by omega), ⟨?_, ?_⟩, ?_, prOk_up (prOk_up (prOk_up (prOk_up hp (by omega) (by omega)) (by omega) (by omega)) (by omega) (by omega)) (by omega) (by omega), ?_, ?_, ?_, ?_⟩
  · rw [up_ne (by omega), up_ne (by omega), up_ne (by omega), up_ne (by omega)]; exact r0
  · rw [up_ne (by omega), up_ne (by omega), up_ne (by omega), up_ne (by omega)]; exact r1
  · exact zM_up (zM_up (zM_up (zM_up hz hc5 (by omega) (fun j _ _ => by omega)) (by rw [up_ne (by omega)]; exact hc5) (by omega) (fun j _ _ => by omega)) (by rw [up_ne (by omega), up_ne (by omega)]; exact hc5) (by omega) (fun j _ _ => by omega)) (by rw [up_ne (by omega), up_ne (by omega), up_ne (by omega)]; exact hc5) (by omega) (fun j _ _ => by omega)
  · have := prN_up (p := 8) (z := μ 412 8 + q) (prN_up (p := 7) (z := μ 412 7 + q * (aM μ i' n' - 2 * aM μ i' ((n' : Int) + 1))) (prN_up (p := 12 + 13 * i' + 3 + ((n' : Int) + 1)) (z := kM μ i' ((n' : Int) + 1) + 2 * q) (prN_up (p := 12 + 13 * i' + 3 + n') (z := kM μ i' n' - q) hn (by omega) (by omega)) (by omega) (by omega)) (by omega) (by omega)) (by omega) (by omega)
    intro j j0 j1
    have := this j j0 j1
    omega
  · intro k k0 k1
    have h1 := ha k k0 k1
    by_cases g : k = 4
    · subst g
      rw [show (4 : Int) + 4 = 8 from rfl] at h1 ⊢
      rw [up_eq]
      omega
    · by_cases g2 : k = 3
      · subst g2
        rw [show (4 : Int) + 3 = 7 from rfl] at h1 ⊢
        rw [up_ne (by omega), up_eq]
        omega
      · rw [up_ne (by omega), up_ne (by omega), up_ne (by omega), up_ne (by omega)]
        omega
  · exact stZ_up' (stZ_up' (stZ_up (stZ_up hs (by omega) (fun j m j0 j1 m0 m1 => by omega)) (by omega) (fun j m j0 j1 m0 m1 => by rw [up_ne (by omega)] at j0; omega)) (by rw [up_ne (by omega), up_ne (by omega)]; exact hg.1) (by omega) (by omega)) (by rw [up_ne (by omega), up_ne (by omega), up_ne (by omega)]; exact hg.1) (by omega) (by omega)
  · unfold csM at hc ⊢
    have e0 : up (up (up (up μ 412 (12 + 13 * i' + 3 + n') (kM μ i' n' - q)) 412 (12 + 13 * i' + 3 + ((n' : Int) + 1)) (kM μ i' ((n' : Int) + 1) + 2 * q)) 412 7 (μ 412 7 + q * (aM μ i' n' - 2 * aM μ i' ((n' : Int) + 1)))) 412 8 (μ 412 8 + q) 412 0 = μ 412 0 := by rw [up_ne (by omega), up_ne (by omega), up_ne (by omega), up_ne (by omega)]
    have e4 : up (up (up (up μ 412 (12 + 13 * i' + 3 + n') (kM μ i' n' - q)) 412 (12 + 13 * i' + 3 + ((n' : Int) + 1)) (kM μ i' ((n' : Int) + 1) + 2 * q)) 412 7 (μ 412 7 + q * (aM μ i' n' - 2 * aM μ i' ((n' : Int) + 1)))) 412 8 (μ 412 8 + q) 412 4 = μ 412 4 := by rw [up_ne (by omega), up_ne (by omega), up_ne (by omega), up_ne (by omega)]
    have e5 : up (up (up (up μ 412 (12 + 13 * i' + 3 + n') (kM μ i' n' - q)) 412 (12 + 13 * i' + 3 + ((n' : Int) + 1)) (kM μ i' ((n' : Int) + 1) + 2 * q)) 412 7 (μ 412 7 + q * (aM μ i' n' - 2 * aM μ i' ((n' : Int) + 1)))) 412 8 (μ 412 8 + q) 412 5 = μ 412 5 := by rw [up_ne (by omega), up_ne (by omega), up_ne (by omega), up_ne (by omega)]
    have e6 : up (up (up (up μ 412 (12 + 13 * i' + 3 + n') (kM μ i' n' - q)) 412 (12 + 13 * i' + 3 + ((n' : Int) + 1)) (kM μ i' ((n' : Int) + 1) + 2 * q)) 412 7 (μ 412 7 + q * (aM μ i' n' - 2 * aM μ i' ((n' : Int) + 1)))) 412 8 (μ 412 8 + q) 412 6 = μ 412 6 := by rw [up_ne (by omega), up_ne (by omega), up_ne (by omega), up_ne (by omega)]
    have e7 : up (up (up (up μ 412 (12 + 13 * i' + 3 + n') (kM μ i' n' - q)) 412 (12 + 13 * i' + 3 + ((n' : Int) + 1)) (kM μ i' ((n' : Int) + 1) + 2 * q)) 412 7 (μ 412 7 + q * (aM μ i' n' - 2 * aM μ i' ((n' : Int) + 1)))) 412 8 (μ 412 8 + q) 412 7 = μ 412 7 + q * (aM μ i' n' - 2 * aM μ i' ((n' : Int) + 1)) := by rw [up_ne (by omega), up_eq]
    rw [e0, e4, e5, e6, e7, area_up (by omega) (by omega), area_up (by omega) (by omega)]
    have ea := area_stack (μ := up μ 412 (12 + 13 * i' + 3 + n') (kM μ i' n' - q)) (i := i') (n := n' + 1) (m := (μ 412 0).toNat) (z := kM μ i' ((n' : Int) + 1) + 2 * q) (by omega) (by omega) (by omega)
    rw [show ((n' + 1 : Nat) : Int) = (n' : Int) + 1 from rfl] at ea
    rw [ea, area_stack (by omega) (by omega) (by omega), kM_up (by omega), aM_up (by omega), hc]
    rw [show kM μ i' n' - q - kM μ i' n' = -q by omega, show kM μ i' ((n' : Int) + 1) + 2 * q - kM μ i' ((n' : Int) + 1) = 2 * q by omega, Int.neg_mul, Int.mul_sub, Int.mul_assoc, Int.mul_left_comm q 2]
    omega
theorem okM_e {μ : Nat → Int → Int} {m k z : Int} (h : okM μ m) (hk : (k = 1 ∧ 0 ≤ z ∧ z ≤ 50) ∨ (k = 2 ∧ 1 ≤ z ∧ z ≤ 500)) : okM (up μ 412 k z) m := by
  obtain ⟨⟨g0, g1, g2, g3, g4⟩, ⟨r0, r1⟩, hz, hp, hn, ha, hs, hc⟩ := h
  refine ⟨⟨?_, ?_, ?_, ?_, fun j j0 j1 => ?_⟩, ⟨?_, ?_⟩, zM_up hz g1 (by omega) (fun j _ _ => by omega), prOk_up hp (by omega) (by omega), prN_up hn (by omega) (by omega), fun j j0 j1 => ?_, stZ_up' hs g0 (by omega) (by omega), ?_⟩
  · rw [up_ne (by omega)]; exact g0
  · rw [up_ne (by omega)]; exact g1
  · rcases hk with ⟨rfl, h1, h2⟩ | ⟨rfl, h1, h2⟩
    · rw [up_eq]; exact h1
    · rw [up_ne (by omega)]; exact g2
  · rcases hk with ⟨rfl, h1, h2⟩ | ⟨rfl, h1, h2⟩
    · rw [up_eq]; exact h2
    · rw [up_ne (by omega)]; exact g3
  · rw [up_ne (by omega)] at j1
    obtain ⟨a, b⟩ := g4 j j0 j1
    exact ⟨oM_up a (by omega), fun n n0 n1 => by rw [kM_up (by omega)]; exact b n n0 n1⟩
  · rcases hk with ⟨rfl, h1, h2⟩ | ⟨rfl, h1, h2⟩
    · rw [up_ne (by omega)]; exact r0
    · rw [up_eq]; exact h1
  · rcases hk with ⟨rfl, h1, h2⟩ | ⟨rfl, h1, h2⟩
    · rw [up_ne (by omega)]; exact r1
    · rw [up_eq]; exact h2
  · rw [up_ne (by omega)]
    exact ha j j0 j1
  · unfold csM at hc ⊢
    rw [up_ne (show (412 : Nat) ≠ 412 ∨ (0 : Int) ≠ k by omega), up_ne (show (412 : Nat) ≠ 412 ∨ (4 : Int) ≠ k by omega), up_ne (show (412 : Nat) ≠ 412 ∨ (5 : Int) ≠ k by omega), up_ne (show (412 : Nat) ≠ 412 ∨ (6 : Int) ≠ k by omega), up_ne (show (412 : Nat) ≠ 412 ∨ (7 : Int) ≠ k by omega), area_up (by omega) (by omega)]
    exact hc
