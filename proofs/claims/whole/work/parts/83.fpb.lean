-- uses 24.zar 81.fpa
/-! Short numbers with a point: those that are exact. -/
theorem fp_e32 {c : Nat} {q : Int} (c0 : 8388608 ≤ c) (q0 : -149 ≤ q) : FP.Core.encode FP.Core.b32 (.fin false c q) = (q + 150).toNat * 8388608 + (c - 8388608) := by
  unfold FP.Core.encode FP.Core.assemble
  rw [fp_t32, fp_x32, fp_l32]
  dsimp only
  rw [if_neg (by omega)]
  show (0 * 256 + _) * _ + _ = _
  rw [show (q - -149).toNat + 1 = (q + 150).toNat by omega]
  omega
theorem fp_d32 {c k : Nat} (c0 : 8388608 ≤ c) (c1 : c < 16777216) (k0 : 1 ≤ k) (k1 : k ≤ 254) : FP.Core.decode FP.Core.b32 (k * 8388608 + (c - 8388608)) = .fin false c (k - 150) := by
  unfold FP.Core.decode FP.Core.fieldE FP.Core.fieldT FP.Core.fieldS
  rw [fp_t32, fp_x32, fp_l32]
  have e1 : (k * 8388608 + (c - 8388608)) / 8388608 = k := by omega
  have e2 : (k * 8388608 + (c - 8388608)) % 8388608 = c - 8388608 := by omega
  rw [e1, e2, if_neg (by omega), if_neg (by omega)]
  have hs : (k / 256 % 2 == 1) = false := by
    rw [show k / 256 % 2 = 0 by omega]; rfl
  rw [hs, show k % 256 = k by omega, show 8388608 + (c - 8388608) = c by omega, show (-149 : Int) + ((k : Int) - 1) = k - 150 by omega]
theorem fp_near1 {x : Nat} : FP.Core.nearest x 1 = x := by
  unfold FP.Core.nearest
  rw [Nat.mod_one, Nat.div_one, if_pos (by omega)]
theorem fp_lead {m L : Nat} (h0 : 2 ^ L ≤ m) (h1 : m < 2 ^ (L + 1)) : FP.Core.leading m 1 = L := by
  have hm : m ≠ 0 := by have := Nat.pow_pos (n := L) (show 0 < 2 by omega); omega
  have e : m.log2 = L := (Nat.log2_eq_iff hm).mpr ⟨h0, h1⟩
  unfold FP.Core.leading
  rw [e, show Nat.log2 1 = 0 by decide]
  dsimp only
  rw [show (L : Int) - ((0 : Nat) : Int) = L by omega, show (-(L : Int)).toNat = 0 by omega, Int.toNat_natCast, Nat.one_mul, Nat.pow_zero, Nat.mul_one, if_pos h0]
/-- what has few digits is kept -/
theorem fp_x {m L : Nat} {e : Int} (h0 : 2 ^ L ≤ m) (h1 : m < 2 ^ (L + 1)) (hL : L ≤ 23) (q0 : -149 ≤ e + L - 23) (q1 : e + L - 23 ≤ 104) : FP.Core.roundRatio FP.Core.b32 false m 1 e = .fin false (m * 2 ^ (23 - L)) (e + L - 23) := by
  have hm : m ≠ 0 := by have := Nat.pow_pos (n := L) (show 0 < 2 by omega); omega
  unfold FP.Core.roundRatio
  rw [if_neg hm]
  have eq : FP.Core.quantum FP.Core.b32 m 1 e = e + L - 23 := by
    unfold FP.Core.quantum
    rw [fp_lead h0 h1, fp_l32, show (FP.Core.b32.p : Int) = 24 from rfl]
    omega
  rw [eq]
  unfold FP.Core.roundAt FP.Core.unitsNum FP.Core.unitsDen
  rw [show (e - (e + L - 23)).toNat = 23 - L by omega, show (e + (L : Int) - 23 - e).toNat = 0 by omega, Nat.pow_zero, Nat.mul_one, fp_near1]
  unfold FP.Core.settle FP.Core.bound
  have hc : m * 2 ^ (23 - L) < 16777216 := by
    have e : 2 ^ (L + 1) * 2 ^ (23 - L) = 16777216 := by rw [← Nat.pow_add, show L + 1 + (23 - L) = 24 by omega]
    rw [← e]
    exact Nat.mul_lt_mul_of_pos_right h1 (Nat.pow_pos (by omega))
  rw [fp_p32, if_pos hc, fp_h32, if_pos q1]
theorem fp_y {c j : Nat} {e : Int} (c0 : 8388608 ≤ c) (c1 : c < 16777216) (q0 : -149 ≤ e + j) (q1 : e + j ≤ 104) : FP.Core.roundRatio FP.Core.b32 false (c * 2 ^ j) 1 e = .fin false c (e + j) := by
  have hp : 0 < 2 ^ j := Nat.pow_pos (by omega)
  have hm : c * 2 ^ j ≠ 0 := Nat.ne_of_gt (Nat.mul_pos (by omega) hp)
  have h0 : 2 ^ (23 + j) ≤ c * 2 ^ j := by rw [Nat.pow_add]; exact Nat.mul_le_mul_right _ c0
  have h1 : c * 2 ^ j < 2 ^ (23 + j + 1) := by
    rw [show 23 + j + 1 = 24 + j by omega, Nat.pow_add]
    exact Nat.mul_lt_mul_of_pos_right c1 hp
  unfold FP.Core.roundRatio
  rw [if_neg hm]
  have eq : FP.Core.quantum FP.Core.b32 (c * 2 ^ j) 1 e = e + j := by
    unfold FP.Core.quantum
    rw [fp_lead h0 h1, fp_l32, show (FP.Core.b32.p : Int) = 24 from rfl]
    omega
  rw [eq]
  unfold FP.Core.roundAt FP.Core.unitsNum FP.Core.unitsDen
  have en : FP.Core.nearest (c * 2 ^ j) (2 ^ j) = c := by
    unfold FP.Core.nearest
    rw [Nat.mul_mod_left, if_pos (by omega), Nat.mul_div_cancel _ hp]
  rw [show (e - (e + j)).toNat = 0 by omega, show (e + (j : Int) - e).toNat = j by omega, Nat.pow_zero, Nat.mul_one, Nat.one_mul, en]
  unfold FP.Core.settle FP.Core.bound
  rw [fp_p32, if_pos c1, fp_h32, if_pos q1]
/-- a normal number's bits -/
def nb (c k : Nat) : UInt32 := UInt32.ofNat (k * 8388608 + (c - 8388608))
theorem nb_n {c k : Nat} (c0 : 8388608 ≤ c) (c1 : c < 16777216) (k1 : k ≤ 254) : (nb c k).toNat = k * 8388608 + (c - 8388608) := by
  unfold nb
  rw [UInt32.toNat_ofNat']
  exact Nat.mod_eq_of_lt (by omega)
theorem fp_dbl {c k : Nat} (c0 : 8388608 ≤ c) (c1 : c < 16777216) (k0 : 1 ≤ k) (k1 : k ≤ 253) : FP.fmul (nb c k) FP.fconst2 = nb c (k + 1) := by
  show UInt32.ofNat (FP.Core.mul FP.Core.b32 (nb c k).toNat FP.fconst2.toNat) = _
  have e2 : FP.Core.decode FP.Core.b32 FP.fconst2.toNat = .fin false 8388608 (-22) := by decide +kernel
  unfold FP.Core.mul
  rw [nb_n c0 c1 (by omega), fp_d32 c0 c1 k0 (by omega), e2]
  show UInt32.ofNat (FP.Core.encode FP.Core.b32 (FP.Core.roundRatio FP.Core.b32 false (c * 2 ^ 23) 1 ((k : Int) - 150 + -22))) = _
  rw [fp_y c0 c1 (by omega) (by omega), fp_e32 c0 (by omega)]
  unfold nb
  rw [show ((k : Int) - 150 + -22 + ((23 : Nat) : Int) + 150).toNat = k + 1 by omega]
