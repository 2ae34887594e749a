-- uses 24.zar 81.fpa 83.fpb
/-! Short numbers: told apart, and taken to pieces. -/
theorem fp_n32 {x : UInt32} (h : x.toNat ≤ 2139095040) (y : Option jm_Res) : jm_n32 x y = y := by
  unfold jm_n32
  refine if_pos ?_
  rw [UInt32.le_iff_toNat_le, UInt32.toNat_and]
  exact Nat.le_trans Nat.and_le_left h
theorem nb_le {c k : Nat} (c0 : 8388608 ≤ c) (c1 : c < 16777216) (k1 : k ≤ 254) : (nb c k).toNat ≤ 2139095040 := by
  rw [nb_n c0 c1 k1]
  omega
theorem fp_gt0 {c k : Nat} (c0 : 8388608 ≤ c) (c1 : c < 16777216) (k0 : 1 ≤ k) (k1 : k ≤ 254) : FP.fcmp (nb c k) FP.fconst0 = some .gt := by
  show FP.Core.order (FP.Core.decode FP.Core.b32 (nb c k).toNat) (FP.Core.decode FP.Core.b32 FP.fconst0.toNat) = _
  have e2 : FP.Core.decode FP.Core.b32 FP.fconst0.toNat = .fin false 0 (-149) := by decide +kernel
  rw [nb_n c0 c1 k1, fp_d32 c0 c1 k0 k1, e2]
  show some (compare (((c * 2 ^ ((k : Int) - 150 - min ((k : Int) - 150) (-149)).toNat : Nat) : Int)) (((0 * 2 ^ ((-149 : Int) - min ((k : Int) - 150) (-149)).toNat : Nat) : Int))) = _
  have hp : 0 < c * 2 ^ ((k : Int) - 150 - min ((k : Int) - 150) (-149)).toNat := Nat.mul_pos (by omega) (Nat.pow_pos (by omega))
  rw [Nat.zero_mul]
  congr 1
  exact Int.compare_eq_gt.mpr (by omega)
theorem fp_lt1 {c k : Nat} (c0 : 8388608 ≤ c) (c1 : c < 16777216) (k0 : 1 ≤ k) (k1 : k ≤ 126) : FP.fcmp (nb c k) FP.fconst1 = some .lt := by
  show FP.Core.order (FP.Core.decode FP.Core.b32 (nb c k).toNat) (FP.Core.decode FP.Core.b32 FP.fconst1.toNat) = _
  have e2 : FP.Core.decode FP.Core.b32 FP.fconst1.toNat = .fin false 8388608 (-23) := by decide +kernel
  rw [nb_n c0 c1 (by omega), fp_d32 c0 c1 k0 (by omega), e2]
  show some (compare (((c * 2 ^ ((k : Int) - 150 - min ((k : Int) - 150) (-23)).toNat : Nat) : Int)) (((8388608 * 2 ^ ((-23 : Int) - min ((k : Int) - 150) (-23)).toNat : Nat) : Int))) = _
  have h1 : ((k : Int) - 150 - min ((k : Int) - 150) (-23)).toNat = 0 := by omega
  obtain ⟨j, hj⟩ : ∃ j, ((-23 : Int) - min ((k : Int) - 150) (-23)).toNat = j + 1 := ⟨126 - k, by omega⟩
  have hp : 1 ≤ 2 ^ j := Nat.pow_pos (by omega)
  rw [h1, hj, Nat.pow_succ]
  congr 1
  exact Int.compare_eq_lt.mpr (by omega)
theorem fp_ge1 {c : Nat} (c0 : 8388608 ≤ c) (c1 : c < 16777216) : FP.fcmp (nb c 127) FP.fconst1 = some .eq ∨ FP.fcmp (nb c 127) FP.fconst1 = some .gt := by
  have e : FP.fcmp (nb c 127) FP.fconst1 = some (compare (c : Int) 8388608) := by
    show FP.Core.order (FP.Core.decode FP.Core.b32 (nb c 127).toNat) (FP.Core.decode FP.Core.b32 FP.fconst1.toNat) = _
    have e2 : FP.Core.decode FP.Core.b32 FP.fconst1.toNat = .fin false 8388608 (-23) := by decide +kernel
    rw [nb_n c0 c1 (by omega), fp_d32 c0 c1 (by omega) (by omega), e2]
    show some (compare (((c * 2 ^ 0 : Nat) : Int)) (((8388608 * 2 ^ 0 : Nat) : Int))) = _
    rw [Nat.pow_zero, Nat.mul_one]
    rfl
  rw [e]
  by_cases g : c = 8388608
  · exact Or.inl (congrArg some (Int.compare_eq_eq.mpr (by omega)))
  · exact Or.inr (congrArg some (Int.compare_eq_gt.mpr (by omega)))
/-- one taken off, in 2^23rds -/
theorem fp_frac {c : Nat} (c0 : 8388608 ≤ c) (c1 : c < 16777216) : (FP.fsub (nb c 127) FP.fconst1).toNat ≤ 2139095040 ∧ (FP.fmul (FP.fsub (nb c 127) FP.fconst1) 1258291200).toNat ≤ 2139095040 ∧ FP.f2i (FP.fmul (FP.fsub (nb c 127) FP.fconst1) 1258291200) = i3 ((c : Int) - 8388608) := by
  obtain ⟨m, rfl⟩ : ∃ m, c = 8388608 + m := ⟨c - 8388608, by omega⟩
  have e2 : FP.Core.decode FP.Core.b32 FP.fconst1.toNat = .fin false 8388608 (-23) := by decide +kernel
  have es : FP.fsub (nb (8388608 + m) 127) FP.fconst1 = UInt32.ofNat (FP.Core.encode FP.Core.b32 (FP.Core.roundRatio FP.Core.b32 false m 1 (-23))) := by
    show UInt32.ofNat (FP.Core.encode FP.Core.b32 (FP.Core.round FP.Core.b32 (FP.Core.exactSum (FP.Core.decode FP.Core.b32 (nb (8388608 + m) 127).toNat) (FP.Core.negate (FP.Core.decode FP.Core.b32 FP.fconst1.toNat))))) = _
    rw [nb_n c0 c1 (by omega), fp_d32 c0 c1 (by omega) (by omega), e2]
    have eu : FP.Core.sumUnits false (8388608 + m) (-23) true 8388608 (-23) (-23) = (m : Int) := by
      show (((8388608 + m) * 2 ^ 0 : Nat) : Int) + -((8388608 * 2 ^ 0 : Nat) : Int) = m
      omega
    show UInt32.ofNat (FP.Core.encode FP.Core.b32 (FP.Core.roundRatio FP.Core.b32 (FP.Core.sumSign false true (FP.Core.sumUnits false (8388608 + m) (-23) true 8388608 (-23) (-23))) (FP.Core.sumUnits false (8388608 + m) (-23) true 8388608 (-23) (-23)).natAbs 1 (-23))) = _
    rw [eu]
    have esg : FP.Core.sumSign false true (m : Int) = false := by
      unfold FP.Core.sumSign
      split
      · rfl
      · exact decide_eq_false (by omega)
    rw [esg, Int.natAbs_natCast]
  rw [es]
  by_cases g : m = 0
  · subst g
    decide +kernel
  · obtain ⟨L, hL⟩ : ∃ L, m.log2 = L := ⟨_, rfl⟩
    obtain ⟨h0, h1⟩ := (Nat.log2_eq_iff g).mp hL
    have hL2 : L ≤ 22 := by
      have : m.log2 < 23 := (Nat.log2_lt g).mpr (by omega)
      omega
    have hp : 0 < 2 ^ (23 - L) := Nat.pow_pos (by omega)
    have hC0 : 8388608 ≤ m * 2 ^ (23 - L) := by
      have e : 2 ^ L * 2 ^ (23 - L) = 8388608 := by rw [← Nat.pow_add, show L + (23 - L) = 23 by omega]
      rw [← e]
      exact Nat.mul_le_mul_right _ h0
    have hC1 : m * 2 ^ (23 - L) < 16777216 := by
      have e : 2 ^ (L + 1) * 2 ^ (23 - L) = 16777216 := by rw [← Nat.pow_add, show L + 1 + (23 - L) = 24 by omega]
      rw [← e]
      exact Nat.mul_lt_mul_of_pos_right h1 hp
    have hCd : m * 2 ^ (23 - L) / 2 ^ (23 - L) = m := Nat.mul_div_cancel _ hp
    rw [fp_x h0 h1 (by omega) (by omega) (by omega)]
    generalize m * 2 ^ (23 - L) = C at hC0 hC1 hCd
    rw [fp_e32 hC0 (by omega), show ((-23 : Int) + L - 23 + 150).toNat = L + 104 by omega]
    show (nb C (L + 104)).toNat ≤ _ ∧ _
    have ed : FP.Core.decode FP.Core.b32 (1258291200 : UInt32).toNat = .fin false 8388608 0 := by decide +kernel
    have em : FP.fmul (nb C (L + 104)) 1258291200 = nb C (L + 127) := by
      show UInt32.ofNat (FP.Core.mul FP.Core.b32 (nb C (L + 104)).toNat (1258291200 : UInt32).toNat) = _
      unfold FP.Core.mul
      rw [nb_n hC0 hC1 (by omega), fp_d32 hC0 hC1 (by omega) (by omega), ed]
      show UInt32.ofNat (FP.Core.encode FP.Core.b32 (FP.Core.roundRatio FP.Core.b32 false (C * 2 ^ 23) 1 (((L + 104 : Nat) : Int) - 150 + 0))) = _
      rw [fp_y hC0 hC1 (by omega) (by omega), fp_e32 hC0 (by omega)]
      unfold nb
      rw [show (((L + 104 : Nat) : Int) - 150 + 0 + ((23 : Nat) : Int) + 150).toNat = L + 127 by omega]
    refine ⟨nb_le hC0 hC1 (by omega), ?_, ?_⟩
    · show (FP.fmul (nb C (L + 104)) 1258291200).toNat ≤ _
      rw [em]
      exact nb_le hC0 hC1 (by omega)
    · show FP.f2i (FP.fmul (nb C (L + 104)) 1258291200) = _
      rw [em]
      show FP.Core.toI (FP.Core.decode FP.Core.b32 (nb C (L + 127)).toNat) = _
      rw [nb_n hC0 hC1 (by omega), fp_d32 hC0 hC1 (by omega) (by omega)]
      unfold FP.Core.toI FP.Core.toInt FP.Core.truncate
      dsimp only
      rw [show (((L + 127 : Nat) : Int) - 150).toNat = 0 by omega, show (-(((L + 127 : Nat) : Int) - 150)).toNat = 23 - L by omega, Nat.pow_zero, Nat.mul_one, hCd]
      show Int32.ofInt (max _ (min _ (m : Int))) = Int32.ofInt _
      congr 1
      omega
