-- uses 24.zar 81.fpa 83.fpb 84.fpc
/-! Whole numbers made short; shares of them. -/
theorem near_b {a d lo hi : Nat} (hd : 0 < d) (h0 : lo * d ≤ a) (h1 : a ≤ hi * d) : lo ≤ FP.Core.nearest a d ∧ FP.Core.nearest a d ≤ hi := by
  have e := Nat.div_add_mod a d
  have hr := Nat.mod_lt a hd
  have hlo : lo ≤ a / d := (Nat.le_div_iff_mul_le hd).mpr h0
  have hhi : a / d ≤ hi := Nat.le_trans (Nat.div_le_div_right h1) (Nat.le_of_eq (Nat.mul_div_cancel _ hd))
  unfold FP.Core.nearest
  by_cases g : a / d = hi
  · have : a % d = 0 := by
      rw [g, Nat.mul_comm] at e
      omega
    rw [if_pos (by omega)]
    omega
  · split
    · omega
    · split <;> omega
theorem near_m {a b d : Nat} (hd : 0 < d) (h : a ≤ b) : FP.Core.nearest a d ≤ FP.Core.nearest b d := by
  have h1 : a / d ≤ b / d := Nat.div_le_div_right h
  have ea := Nat.div_add_mod a d
  have eb := Nat.div_add_mod b d
  have ra := Nat.mod_lt a hd
  have rb := Nat.mod_lt b hd
  unfold FP.Core.nearest
  by_cases g : a / d = b / d
  · rw [g] at ea ⊢
    generalize d * (b / d) = z at ea eb
    (repeat' split) <;> omega
  · (repeat' split) <;> omega
/-- the 24 first digits of a number with L + 1 of them -/
def flN (n L : Nat) : Nat := if L ≤ 23 then n * 2 ^ (23 - L) else FP.Core.nearest n (2 ^ (L - 23))
theorem flN_b {n L : Nat} (h0 : 2 ^ L ≤ n) (h1 : n < 2 ^ (L + 1)) : 8388608 ≤ flN n L ∧ flN n L ≤ 16777216 := by
  unfold flN
  split
  · have e : 2 ^ L * 2 ^ (23 - L) = 8388608 := by rw [← Nat.pow_add, show L + (23 - L) = 23 by omega]
    have e2 : 2 ^ (L + 1) * 2 ^ (23 - L) = 16777216 := by rw [← Nat.pow_add, show L + 1 + (23 - L) = 24 by omega]
    rw [← e, ← e2]
    exact ⟨Nat.mul_le_mul_right _ h0, Nat.mul_le_mul_right _ (Nat.le_of_lt h1)⟩
  · have e : 8388608 * 2 ^ (L - 23) = 2 ^ L := by
      rw [show (8388608 : Nat) = 2 ^ 23 from rfl, ← Nat.pow_add, show 23 + (L - 23) = L by omega]
    have e2 : 16777216 * 2 ^ (L - 23) = 2 ^ (L + 1) := by
      rw [show (16777216 : Nat) = 2 ^ 24 from rfl, ← Nat.pow_add, show 24 + (L - 23) = L + 1 by omega]
    exact near_b (Nat.pow_pos (by omega)) (by rw [e]; exact h0) (by rw [e2]; exact Nat.le_of_lt h1)
theorem flN_m {a b L : Nat} (h : a ≤ b) : flN a L ≤ flN b L := by
  unfold flN
  split
  · exact Nat.mul_le_mul_right _ h
  · exact near_m (Nat.pow_pos (by omega)) h
/-- what is settled, by its bits -/
theorem fp_set {c : Nat} {q : Int} (c0 : 8388608 ≤ c) (c1 : c ≤ 16777216) (q0 : -149 ≤ q) (q1 : q ≤ 103) : FP.Core.encode FP.Core.b32 (FP.Core.settle FP.Core.b32 false c q) = (q + 150).toNat * 8388608 + (c - 8388608) := by
  unfold FP.Core.settle FP.Core.bound
  rw [fp_p32, fp_h32, fp_t32]
  by_cases g : c < 16777216
  · rw [if_pos g, if_pos (by omega), fp_e32 c0 q0]
  · rw [if_neg g, if_pos (by omega), fp_e32 (by omega) (by omega)]
    omega
theorem fp_int {n L : Nat} (h0 : 2 ^ L ≤ n) (h1 : n < 2 ^ (L + 1)) (hL : L ≤ 62) : FP.Core.fromInt FP.Core.b32 n = (L + 127) * 8388608 + (flN n L - 8388608) := by
  have hm : n ≠ 0 := by have := Nat.pow_pos (n := L) (show 0 < 2 by omega); omega
  have hb := flN_b h0 h1
  show FP.Core.encode FP.Core.b32 (FP.Core.roundRatio FP.Core.b32 (decide ((n : Int) < 0)) ((n : Int)).natAbs 1 0) = _
  rw [decide_eq_false (by omega), Int.natAbs_natCast]
  unfold FP.Core.roundRatio
  rw [if_neg hm]
  have eq : FP.Core.quantum FP.Core.b32 n 1 0 = (L : Int) - 23 := by
    unfold FP.Core.quantum
    rw [fp_lead h0 h1, fp_l32, show (FP.Core.b32.p : Int) = 24 from rfl]
    omega
  rw [eq]
  unfold FP.Core.roundAt FP.Core.unitsNum FP.Core.unitsDen
  have e : FP.Core.nearest (n * 2 ^ (0 - ((L : Int) - 23)).toNat) (1 * 2 ^ ((L : Int) - 23 - 0).toNat) = flN n L := by
    unfold flN
    by_cases g : L ≤ 23
    · rw [if_pos g, show (0 - ((L : Int) - 23)).toNat = 23 - L by omega, show ((L : Int) - 23 - 0).toNat = 0 by omega, Nat.pow_zero, Nat.mul_one, fp_near1]
    · rw [if_neg g, show (0 - ((L : Int) - 23)).toNat = 0 by omega, show ((L : Int) - 23 - 0).toNat = L - 23 by omega, Nat.pow_zero, Nat.mul_one, Nat.one_mul]
  rw [e, fp_set hb.1 hb.2 (by omega) (by omega), show ((L : Int) - 23 + 150).toNat = L + 127 by omega]
/-- the bits of a whole number: normal, and in order -/
theorem fp_int2 {n : Nat} (h0 : 1 ≤ n) (h1 : n < 9223372036854775808) : ∃ c k, FP.Core.fromInt FP.Core.b32 n = k * 8388608 + (c - 8388608) ∧ 8388608 ≤ c ∧ c < 16777216 ∧ 127 ≤ k ∧ k ≤ 190 := by
  obtain ⟨L, hL⟩ : ∃ L, n.log2 = L := ⟨_, rfl⟩
  obtain ⟨g0, g1⟩ := (Nat.log2_eq_iff (by omega)).mp hL
  have hL2 : L < 63 := by
    rw [← hL]
    exact (Nat.log2_lt (by omega)).mpr h1
  have hb := flN_b g0 g1
  have e := fp_int g0 g1 (by omega)
  by_cases g : flN n L < 16777216
  · exact ⟨flN n L, L + 127, e, hb.1, g, by omega, by omega⟩
  · exact ⟨8388608, L + 128, by rw [e]; omega, by omega, by omega, by omega, by omega⟩
theorem fp_int_m {a b : Nat} (h0 : 1 ≤ a) (h : a ≤ b) (h1 : b < 9223372036854775808) : FP.Core.fromInt FP.Core.b32 a ≤ FP.Core.fromInt FP.Core.b32 b := by
  obtain ⟨L, hL⟩ : ∃ L, a.log2 = L := ⟨_, rfl⟩
  obtain ⟨K, hK⟩ : ∃ L, b.log2 = L := ⟨_, rfl⟩
  obtain ⟨g0, g1⟩ := (Nat.log2_eq_iff (by omega)).mp hL
  obtain ⟨k0, k1⟩ := (Nat.log2_eq_iff (by omega)).mp hK
  have hK2 : K < 63 := by
    rw [← hK]
    exact (Nat.log2_lt (by omega)).mpr h1
  have hLK : L ≤ K := by
    have : 2 ^ L < 2 ^ (K + 1) := by omega
    have := (Nat.pow_lt_pow_iff_right (by omega : 1 < 2)).mp this
    omega
  have b1 := flN_b g0 g1
  have b2 := flN_b k0 k1
  rw [fp_int g0 g1 (by omega), fp_int k0 k1 (by omega)]
  by_cases g : L = K
  · subst g
    have := flN_m (L := L) h
    omega
  · omega
theorem e_23 (x : Nat) : x * 2 ^ 23 = 8388608 * x := Nat.mul_comm x (2 ^ 23)
theorem e_24 (x : Nat) : x * 2 ^ 24 = 16777216 * x := Nat.mul_comm x (2 ^ 24)
/-- a share's bits -/
theorem fp_share {c k c' k' : Nat} (c0 : 8388608 ≤ c) (c1 : c < 16777216) (k0 : 127 ≤ k) (d0 : 8388608 ≤ c') (d1 : c' < 16777216) (k1 : k' ≤ 190) (h : k * 8388608 + (c - 8388608) ≤ k' * 8388608 + (c' - 8388608)) : ∃ x y, FP.Core.div FP.Core.b32 (k * 8388608 + (c - 8388608)) (k' * 8388608 + (c' - 8388608)) = y * 8388608 + (x - 8388608) ∧ 8388608 ≤ x ∧ x < 16777216 ∧ 1 ≤ y ∧ y ≤ 127 := by
  have hk : k ≤ k' := by omega
  have lc : c.log2 = 23 := (Nat.log2_eq_iff (by omega)).mpr ⟨by omega, by omega⟩
  have ld : c'.log2 = 23 := (Nat.log2_eq_iff (by omega)).mpr ⟨by omega, by omega⟩
  unfold FP.Core.div
  rw [fp_d32 c0 c1 (by omega) (by omega), fp_d32 d0 d1 (by omega) (by omega)]
  have hq : FP.Core.quotient FP.Core.b32 (.fin false c ((k : Int) - 150)) (.fin false c' ((k' : Int) - 150)) = FP.Core.roundRatio FP.Core.b32 false c c' ((k : Int) - 150 - ((k' : Int) - 150)) := by
    show (if c' = 0 then _ else _) = _
    rw [if_neg (by omega)]
    rfl
  rw [hq]
  unfold FP.Core.roundRatio FP.Core.roundAt
  rw [if_neg (by omega)]
  have key : ∀ (j : Nat) (q : Int), j ≤ 24 → 0 ≤ (k : Int) - 150 - ((k' : Int) - 150) - q → ((k : Int) - 150 - ((k' : Int) - 150) - q) = j → 8388608 * c' ≤ c * 2 ^ j → c * 2 ^ j ≤ 16777216 * c' → (q + 150 ≤ 126 ∨ (q + 150 = 127 ∧ c = c' ∧ j = 23)) → ∃ x y, FP.Core.encode FP.Core.b32 (FP.Core.settle FP.Core.b32 false (FP.Core.nearest (FP.Core.unitsNum c ((k : Int) - 150 - ((k' : Int) - 150)) q) (FP.Core.unitsDen c' ((k : Int) - 150 - ((k' : Int) - 150)) q)) q) = y * 8388608 + (x - 8388608) ∧ 8388608 ≤ x ∧ x < 16777216 ∧ 1 ≤ y ∧ y ≤ 127 := fun j q hj hq0 hqj b0 b1 hy => by
    have en : FP.Core.unitsNum c ((k : Int) - 150 - ((k' : Int) - 150)) q = c * 2 ^ j := by
      unfold FP.Core.unitsNum
      rw [show ((k : Int) - 150 - ((k' : Int) - 150) - q).toNat = j by omega]
    have ed : FP.Core.unitsDen c' ((k : Int) - 150 - ((k' : Int) - 150)) q = c' := by
      unfold FP.Core.unitsDen
      rw [show (q - ((k : Int) - 150 - ((k' : Int) - 150))).toNat = 0 by omega, Nat.pow_zero, Nat.mul_one]
    rw [en, ed]
    have hb := near_b (by omega) b0 b1
    rw [fp_set hb.1 hb.2 (by omega) (by omega)]
    generalize hN : FP.Core.nearest (c * 2 ^ j) c' = N at hb
    by_cases g : N < 16777216
    · exact ⟨N, (q + 150).toNat, rfl, hb.1, g, by omega, by omega⟩
    · refine ⟨8388608, (q + 150).toNat + 1, by omega, by omega, by omega, by omega, ?_⟩
      rcases hy with hy | ⟨hy, e1, e2⟩
      · omega
      · exfalso
        subst e1 e2
        have := near_b (a := c * 2 ^ 23) (d := c) (lo := 8388608) (hi := 8388608) (by omega) (Nat.le_of_eq (e_23 c).symm) (Nat.le_of_eq (e_23 c))
        omega
  have lead : FP.Core.leading c c' = if c' ≤ c then 0 else -1 := by
    unfold FP.Core.leading
    rw [lc, ld]
    show (if c' * 2 ^ 0 ≤ c * 2 ^ 0 then (0 : Int) else (0 : Int) - 1) = _
    by_cases g : c' ≤ c
    · rw [if_pos (by rw [Nat.pow_zero, Nat.mul_one, Nat.mul_one]; exact g), if_pos g]
    · rw [if_neg (by rw [Nat.pow_zero, Nat.mul_one, Nat.mul_one]; exact g), if_neg g]
      rfl
  have eqq : FP.Core.quantum FP.Core.b32 c c' ((k : Int) - 150 - ((k' : Int) - 150)) = if c' ≤ c then (k : Int) - k' - 23 else (k : Int) - k' - 24 := by
    unfold FP.Core.quantum
    rw [lead, fp_l32, show (FP.Core.b32.p : Int) = 24 from rfl]
    split <;> omega
  rw [eqq]
  by_cases g : c' ≤ c
  · rw [if_pos g]
    exact key 23 _ (by decide) (by omega) (by omega) (by rw [e_23]; omega) (by rw [e_23]; omega) (by clear key; omega)
  · rw [if_neg g]
    exact key 24 _ (by decide) (by omega) (by omega) (by rw [e_24]; omega) (by rw [e_24]; omega) (by clear key; omega)
