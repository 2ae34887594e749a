-- uses 24.zar 34.gen 35.byt
/-! Bits. -/
theorem i3_bv (a : Int) : (i3 a).toBitVec = BitVec.ofInt 32 a := rfl
theorem i3_a31 (a : Int) : i3 a &&& i3 31 = i3 (a % 32) := by
  apply Int32.toBitVec_inj.1
  rw [Int32.toBitVec_and, i3_bv, i3_bv, i3_bv]
  apply BitVec.eq_of_toNat_eq
  rw [BitVec.toNat_and, BitVec.toNat_ofInt, BitVec.toNat_ofInt, BitVec.toNat_ofInt]
  have h : ((31 : Int) % ((2 ^ 32 : Nat) : Int)).toNat = 2 ^ 5 - 1 := by decide
  rw [h, Nat.and_two_pow_sub_one_eq_mod]
  omega
theorem i3_a255 (a : Int) : i3 a &&& i3 255 = i3 (a % 256) := by
  apply Int32.toBitVec_inj.1
  rw [Int32.toBitVec_and, i3_bv, i3_bv, i3_bv]
  apply BitVec.eq_of_toNat_eq
  rw [BitVec.toNat_and, BitVec.toNat_ofInt, BitVec.toNat_ofInt, BitVec.toNat_ofInt]
  have h : ((255 : Int) % ((2 ^ 32 : Nat) : Int)).toNat = 2 ^ 8 - 1 := by decide
  rw [h, Nat.and_two_pow_sub_one_eq_mod]
  omega
theorem i3_sh_n : ∀ n, n < 32 → ((i3 (n : Nat) &&& 31).toBitVec.smod 32).toNat = n := by decide +kernel
theorem i3_sar {a : Int} (h0 : -2147483648 ≤ a) (h1 : a < 2147483648) {n : Nat} (hn : n < 32) : i3 a >>> (i3 n &&& 31) = i3 (a / 2 ^ n) := by
  have hp : (1 : Int) ≤ 2 ^ n := Int.pow_pos (by decide)
  have hq0 : -2147483648 ≤ a / 2 ^ n := by
    have h2 : a / 2 ^ n * 2 ^ n ≤ a := Int.ediv_mul_le a (by omega)
    have h3 : a < (a / 2 ^ n + 1) * 2 ^ n := Int.lt_ediv_add_one_mul_self a (by omega)
    by_cases g : 0 ≤ a
    · have := Int.ediv_nonneg g (show 0 ≤ (2 : Int) ^ n by omega); omega
    · have : a ≤ a / 2 ^ n := by
        refine Int.le_ediv_of_mul_le (by omega) ?_
        have := Int.mul_le_mul_of_nonpos_left (show a ≤ 0 by omega) hp
        omega
      omega
  have hq1 : a / 2 ^ n < 2147483648 := by
    by_cases g : 0 ≤ a
    · have := Int.ediv_le_self (2 ^ n) g; omega
    · have := Int.ediv_neg_of_neg_of_pos (show a < 0 by omega) (show 0 < (2 : Int) ^ n by omega); omega
  apply Int32.toBitVec_inj.1
  show BitVec.sshiftRight' (BitVec.ofInt 32 a) ((i3 n &&& 31).toBitVec.smod 32) = BitVec.ofInt 32 (a / 2 ^ n)
  rw [BitVec.sshiftRight_eq', i3_sh_n n hn]
  apply BitVec.eq_of_toInt_eq
  rw [BitVec.toInt_sshiftRight, Int.shiftRight_eq_div_pow, BitVec.toInt_ofInt, BitVec.toInt_ofInt, Int.bmod_eq_of_le (by omega) (by omega), Int.bmod_eq_of_le (by omega) (by omega)]
  rfl
theorem i3_u24 (z : Int) : (Int32.toUInt32 (i3 z) >>> (Int32.toUInt32 (i3 24) &&& Int32.toUInt32 31)).toInt32 = i3 (by8 z 24) := by
  apply Int32.toBitVec_inj.1
  show (BitVec.ofInt 32 z) >>> 24 = BitVec.ofInt 32 (by8 z 24)
  apply BitVec.eq_of_toNat_eq
  rw [BitVec.toNat_ushiftRight, Nat.shiftRight_eq_div_pow, BitVec.toNat_ofInt, BitVec.toNat_ofInt]
  unfold by8
  omega
theorem i3_u16 (z : Int) : (Int32.toUInt32 (i3 z) >>> (Int32.toUInt32 (i3 16) &&& Int32.toUInt32 31)).toInt32 &&& i3 255 = i3 (by8 z 16) := by
  have e : (Int32.toUInt32 (i3 z) >>> (Int32.toUInt32 (i3 16) &&& Int32.toUInt32 31)).toInt32 = i3 (z / 65536 % 65536) := by
    apply Int32.toBitVec_inj.1
    show (BitVec.ofInt 32 z) >>> 16 = BitVec.ofInt 32 _
    apply BitVec.eq_of_toNat_eq
    rw [BitVec.toNat_ushiftRight, Nat.shiftRight_eq_div_pow, BitVec.toNat_ofInt, BitVec.toNat_ofInt]
    omega
  rw [e, i3_a255]
  unfold by8
  congr 1
  omega
theorem i3_u8 (z : Int) : (Int32.toUInt32 (i3 z) >>> (Int32.toUInt32 (i3 8) &&& Int32.toUInt32 31)).toInt32 &&& i3 255 = i3 (by8 z 8) := by
  have e : (Int32.toUInt32 (i3 z) >>> (Int32.toUInt32 (i3 8) &&& Int32.toUInt32 31)).toInt32 = i3 (z / 256 % 16777216) := by
    apply Int32.toBitVec_inj.1
    show (BitVec.ofInt 32 z) >>> 8 = BitVec.ofInt 32 _
    apply BitVec.eq_of_toNat_eq
    rw [BitVec.toNat_ushiftRight, Nat.shiftRight_eq_div_pow, BitVec.toNat_ofInt, BitVec.toNat_ofInt]
    omega
  rw [e, i3_a255]
  unfold by8
  congr 1
  omega
theorem i3_u0 (z : Int) : i3 z &&& i3 255 = i3 (by8 z 0) := by
  rw [i3_a255]
  unfold by8
  congr 1
  omega
theorem i3_s8 {z : Int} (h0 : -2147483648 ≤ z) (h1 : z < 2147483648) {n : Nat} (hn : n < 32) : i3 z >>> (i3 n &&& 31) &&& i3 255 = i3 (by8 z n) := by
  rw [i3_sar h0 h1 hn, i3_a255]
  rfl
theorem i3_x1_n : ∀ n, n < 64 → i3 (n : Nat) ^^^ i3 1 = i3 (if (n : Int) % 2 = 0 then n + 1 else n - 1) := by decide +kernel
theorem i3_x1 {a : Int} (h0 : 0 ≤ a) (h1 : a < 64) : i3 a ^^^ i3 1 = i3 (if a % 2 = 0 then a + 1 else a - 1) := by
  have h := i3_x1_n a.toNat (by omega)
  rw [Int.toNat_of_nonneg h0] at h
  exact h
/-- a name out of its letters -/
def nk (f : Int → Int) : Nat → Int
  | 0 => 0
  | n + 1 => 32 * nk f n + (f n - 96)
def ltOk (f : Int → Int) (n : Nat) : Prop := ∀ k : Int, 0 ≤ k → k < n → 97 ≤ f k ∧ f k ≤ 122
theorem nk_b {f : Int → Int} : ∀ {n : Nat}, ltOk f n → 0 ≤ nk f n ∧ nk f n < 32 ^ n ∧ (n ≠ 0 → 0 < nk f n) := by
  intro n
  induction n with
  | zero => intro _; exact ⟨Int.le_refl _, by show (0 : Int) < 1; decide, fun h => absurd rfl h⟩
  | succ n ih =>
    intro h
    obtain ⟨h1, h2, -⟩ := ih (fun k a b => h k a (by omega))
    have h3 := h n (by omega) (by omega)
    have e : (32 : Int) ^ (n + 1) = 32 ^ n * 32 := rfl
    show 0 ≤ 32 * nk f n + (f n - 96) ∧ 32 * nk f n + (f n - 96) < 32 ^ (n + 1) ∧ (_ → 0 < 32 * nk f n + (f n - 96))
    rw [e]
    omega
theorem nk_div {f : Int → Int} {n : Nat} (h : ltOk f (n + 1)) : nk f (n + 1) / 32 = nk f n := by
  have h3 := h n (by omega) (by omega)
  show (32 * nk f n + (f n - 96)) / 32 = _
  omega
theorem nk_mod {f : Int → Int} {n : Nat} (h : ltOk f (n + 1)) : nk f (n + 1) % 32 = f n - 96 := by
  have h3 := h n (by omega) (by omega)
  show (32 * nk f n + (f n - 96)) % 32 = _
  omega
theorem nk_sub {f : Int → Int} {n : Nat} : ∀ {j : Nat}, ltOk f (n + j) → nk f (n + j) / 2 ^ (5 * j) = nk f n := by
  intro j
  induction j with
  | zero => intro _; simp
  | succ j ih =>
    intro h
    have e : (2 : Int) ^ (5 * (j + 1)) = 32 * 2 ^ (5 * j) := by rw [Nat.mul_succ, Int.pow_add, Int.mul_comm]; rfl
    rw [e, ← Int.ediv_ediv_of_nonneg (by omega), show n + (j + 1) = (n + j) + 1 from rfl, nk_div (n := n + j) h]
    exact ih (fun k a b => h k a (by omega))
/-- names are alike where their letters are -/
theorem nk_inj {f g : Int → Int} : ∀ {n m : Nat}, ltOk f n → ltOk g m → nk f n = nk g m → n = m ∧ ∀ k : Int, 0 ≤ k → k < n → f k = g k := by
  intro n
  induction n with
  | zero =>
    intro m hf hg e
    cases m with
    | zero => exact ⟨rfl, fun k a b => by omega⟩
    | succ m => have := (nk_b hg).2.2 (by omega); have e : 0 = nk g (m + 1) := e; omega
  | succ n ih =>
    intro m hf hg e
    cases m with
    | zero => have := (nk_b hf).2.2 (by omega); have e : nk f (n + 1) = 0 := e; omega
    | succ m =>
      have e1 := nk_div hf
      have e2 := nk_div hg
      have e3 := nk_mod hf
      have e4 := nk_mod hg
      rw [e] at e1 e3
      obtain ⟨h1, h2⟩ := ih (fun k a b => hf k a (by omega)) (fun k a b => hg k a (by omega)) (e1.symm.trans e2)
      subst h1
      refine ⟨rfl, fun k a b => ?_⟩
      by_cases q : k = n
      · subst q; omega
      · exact h2 k a (by omega)
