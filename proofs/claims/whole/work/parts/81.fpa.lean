-- uses 24.zar
/-! Numbers with a point: what comes out of a division is one. -/
theorem fp_t64 : FP.Core.b64.tails = 4503599627370496 := by decide +kernel
theorem fp_x64 : FP.Core.b64.exps = 2048 := by decide +kernel
theorem fp_l64 : FP.Core.b64.qmin = -1074 := by decide +kernel
theorem fp_h64 : FP.Core.b64.qmax = 971 := by decide +kernel
theorem fp_p64 : 2 ^ FP.Core.b64.p = 9007199254740992 := by decide +kernel
theorem fp_t32 : FP.Core.b32.tails = 8388608 := by decide +kernel
theorem fp_x32 : FP.Core.b32.exps = 256 := by decide +kernel
theorem fp_l32 : FP.Core.b32.qmin = -149 := by decide +kernel
theorem fp_h32 : FP.Core.b32.qmax = 104 := by decide +kernel
theorem fp_p32 : 2 ^ FP.Core.b32.p = 16777216 := by decide +kernel
theorem fp_b64 {c : Nat} {q : Int} (hc : c < 9007199254740992) : FP.Core.encode FP.Core.b64 (FP.Core.bound FP.Core.b64 false c q) ≤ 9218868437227405312 := by
  unfold FP.Core.bound
  split
  · rename_i h
    rw [fp_h64] at h
    unfold FP.Core.encode FP.Core.assemble
    rw [fp_t64, fp_x64, fp_l64]
    dsimp only
    split
    · show (0 * 2048 + 0) * _ + _ ≤ _
      omega
    · show (0 * 2048 + _) * _ + _ ≤ _
      omega
  · unfold FP.Core.encode FP.Core.assemble
    rw [fp_t64, fp_x64]
    show (0 * 2048 + _) * _ + _ ≤ _
    omega
theorem fp_r64 {num den : Nat} {e : Int} : FP.Core.encode FP.Core.b64 (FP.Core.roundRatio FP.Core.b64 false num den e) ≤ 9218868437227405312 := by
  unfold FP.Core.roundRatio
  split
  · unfold FP.Core.encode FP.Core.assemble
    rw [fp_t64, fp_x64]
    dsimp only
    rw [if_pos (by omega)]
    show (0 * 2048 + 0) * _ + _ ≤ _
    omega
  · unfold FP.Core.roundAt FP.Core.settle
    rw [fp_p64]
    split
    · rename_i h
      exact fp_b64 h
    · rw [fp_t64]
      exact fp_b64 (by omega)
/-- a number that is neither 0 nor beyond -/
theorem fp_d64 {n : Nat} (h0 : 0 < n) (h1 : n < 9218868437227405312) : ∃ c q, FP.Core.decode FP.Core.b64 n = .fin false (c + 1) q := by
  unfold FP.Core.decode FP.Core.fieldE FP.Core.fieldT FP.Core.fieldS
  rw [fp_t64, fp_x64, if_neg (by omega)]
  have hs : (n / 4503599627370496 / 2048 % 2 == 1) = false := by
    rw [show n / 4503599627370496 / 2048 % 2 = 0 by omega]; rfl
  rw [hs]
  split
  · exact ⟨n % 4503599627370496 - 1, _, by rw [show n % 4503599627370496 - 1 + 1 = n % 4503599627370496 by omega]⟩
  · exact ⟨4503599627370495 + n % 4503599627370496, _, by rw [show 4503599627370495 + n % 4503599627370496 + 1 = 4503599627370496 + n % 4503599627370496 by omega]⟩
/-- the number of a whole one, small -/
theorem fp_i64 : ∀ b : Nat, b < 2001 → b = 0 ∨ (0 < FP.Core.fromInt FP.Core.b64 b ∧ FP.Core.fromInt FP.Core.b64 b < 9218868437227405312) := by decide +kernel
theorem fp_div {a b : Nat} (a0 : 1 ≤ a) (a1 : a ≤ 2000) (b0 : 1 ≤ b) (b1 : b ≤ 2000) : FP.Core.div FP.Core.b64 (FP.Core.fromInt FP.Core.b64 a) (FP.Core.fromInt FP.Core.b64 b) ≤ 9218868437227405312 := by
  have ha := fp_i64 a (by omega)
  have hb := fp_i64 b (by omega)
  obtain ⟨c, q, e1⟩ := fp_d64 (n := FP.Core.fromInt FP.Core.b64 a) (by omega) (by omega)
  obtain ⟨c', q', e2⟩ := fp_d64 (n := FP.Core.fromInt FP.Core.b64 b) (by omega) (by omega)
  unfold FP.Core.div
  rw [e1, e2]
  show FP.Core.encode FP.Core.b64 (if c' + 1 = 0 then (if c + 1 = 0 then .nan else .inf (false != false)) else FP.Core.roundRatio FP.Core.b64 false (c + 1) (c' + 1) (q - q')) ≤ _
  rw [if_neg (by omega)]
  exact fp_r64
theorem fp_i2d {a : Int} (a0 : 0 ≤ a) (a1 : a ≤ 2000) : (FP.i2d (i3 a)).toNat = FP.Core.fromInt FP.Core.b64 a := by
  have h : (i3 a).toInt = a := Int32.toInt_ofInt_of_le (by omega) (by omega)
  show (UInt64.ofNat (FP.Core.fromInt FP.Core.b64 (i3 a).toInt)).toNat = _
  have hb := fp_i64 a.toNat (by omega)
  rw [show ((a.toNat : Nat) : Int) = a by omega] at hb
  rw [h]
  rcases hb with g | g
  · rw [show a = 0 by omega]; decide +kernel
  · rw [UInt64.toNat_ofNat']
    exact Nat.mod_eq_of_lt (by omega)
theorem fp_l2d {a : Int} (a0 : 0 ≤ a) (a1 : a ≤ 2000) : FP.l2d (i6 a) = FP.i2d (i3 a) := by
  have h : (i3 a).toInt = a := Int32.toInt_ofInt_of_le (by omega) (by omega)
  have h2 : (i6 a).toInt = a := Int64.toInt_ofInt_of_le (by omega) (by omega)
  show UInt64.ofNat (FP.Core.fromInt FP.Core.b64 (i6 a).toInt) = UInt64.ofNat (FP.Core.fromInt FP.Core.b64 (i3 a).toInt)
  rw [h, h2]
theorem fp_n64 {a b : Int} (a0 : 1 ≤ a) (a1 : a ≤ 2000) (b0 : 1 ≤ b) (b1 : b ≤ 2000) (x : Option jm_Res) : jm_n64 (FP.ddiv (FP.i2d (i3 a)) (FP.i2d (i3 b))) x = x := by
  have h := fp_div (a := a.toNat) (b := b.toNat) (by omega) (by omega) (by omega) (by omega)
  rw [show ((a.toNat : Nat) : Int) = a by omega, show ((b.toNat : Nat) : Int) = b by omega, ← fp_i2d (by omega) a1, ← fp_i2d (by omega) b1] at h
  unfold jm_n64
  refine if_pos ?_
  show UInt64.ofNat (FP.Core.div FP.Core.b64 (FP.i2d (i3 a)).toNat (FP.i2d (i3 b)).toNat) &&& 0x7fffffffffffffff ≤ 0x7ff0000000000000
  rw [UInt64.le_iff_toNat_le, UInt64.toNat_and]
  refine Nat.le_trans Nat.and_le_left ?_
  rw [UInt64.toNat_ofNat', Nat.mod_eq_of_lt (by omega)]
  exact h
