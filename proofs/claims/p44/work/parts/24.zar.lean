/-! Numbers: ints and longs of the machine by mathematical ones. -/
def i3 (z : Int) : Int32 := Int32.ofInt z
def i6 (z : Int) : Int64 := Int64.ofInt z
def d6 (z : Int) : UInt64 := UInt64.ofNat z.toNat
theorem i3_add (a b : Int) : i3 a + i3 b = i3 (a + b) := (Int32.ofInt_add a b).symm
theorem i3_sub (a b : Int) : i3 a - i3 b = i3 (a - b) := (Int32.ofInt_sub a b).symm
theorem i3_mul (a b : Int) : i3 a * i3 b = i3 (a * b) := (Int32.ofInt_mul a b).symm
theorem i3_neg (a : Int) : -i3 a = i3 (-a) := (Int32.ofInt_neg a).symm
theorem i6_add (a b : Int) : i6 a + i6 b = i6 (a + b) := (Int64.ofInt_add a b).symm
theorem i6_sub (a b : Int) : i6 a - i6 b = i6 (a - b) := (Int64.ofInt_sub a b).symm
theorem i6_mul (a b : Int) : i6 a * i6 b = i6 (a * b) := (Int64.ofInt_mul a b).symm
theorem i6_neg (a : Int) : -i6 a = i6 (-a) := (Int64.ofInt_neg a).symm
theorem i3_toInt {a : Int} (h1 : -2147483648 ≤ a) (h2 : a < 2147483648) : (i3 a).toInt = a := Int32.toInt_ofInt_of_le (by omega) (by omega)
theorem i6_toInt {a : Int} (h1 : -9223372036854775808 ≤ a) (h2 : a < 9223372036854775808) : (i6 a).toInt = a := Int64.toInt_ofInt_of_le (by omega) (by omega)
theorem i3_of (x : Int32) : ∃ z : Int, x = i3 z ∧ -2147483648 ≤ z ∧ z < 2147483648 := ⟨x.toInt, (Int32.ofInt_toInt x).symm, by have := Int32.le_toInt x; omega, by have := Int32.toInt_lt x; omega⟩
theorem i3_lt {a b : Int} (h1 : -2147483648 ≤ a) (h2 : a < 2147483648) (h3 : -2147483648 ≤ b) (h4 : b < 2147483648) : (i3 a < i3 b) = (a < b) := by
  rw [Int32.lt_iff_toInt_lt, i3_toInt h1 h2, i3_toInt h3 h4]
theorem i3_le {a b : Int} (h1 : -2147483648 ≤ a) (h2 : a < 2147483648) (h3 : -2147483648 ≤ b) (h4 : b < 2147483648) : (i3 a ≤ i3 b) = (a ≤ b) := by
  rw [Int32.le_iff_toInt_le, i3_toInt h1 h2, i3_toInt h3 h4]
theorem i3_eq {a b : Int} (h1 : -2147483648 ≤ a) (h2 : a < 2147483648) (h3 : -2147483648 ≤ b) (h4 : b < 2147483648) : (i3 a = i3 b) = (a = b) := by
  rw [← Int32.toInt_inj, i3_toInt h1 h2, i3_toInt h3 h4]
theorem i6_lt {a b : Int} (h1 : -9223372036854775808 ≤ a) (h2 : a < 9223372036854775808) (h3 : -9223372036854775808 ≤ b) (h4 : b < 9223372036854775808) : (i6 a < i6 b) = (a < b) := by
  rw [Int64.lt_iff_toInt_lt, i6_toInt h1 h2, i6_toInt h3 h4]
theorem i6_eq {a b : Int} (h1 : -9223372036854775808 ≤ a) (h2 : a < 9223372036854775808) (h3 : -9223372036854775808 ≤ b) (h4 : b < 9223372036854775808) : (i6 a = i6 b) = (a = b) := by
  rw [← Int64.toInt_inj, i6_toInt h1 h2, i6_toInt h3 h4]
theorem i3_div {a b : Int} (h1 : 0 ≤ a) (h2 : a < 2147483648) (h3 : 0 < b) (h4 : b < 2147483648) : i3 a / i3 b = i3 (a / b) := by
  have hq0 : 0 ≤ a / b := Int.ediv_nonneg h1 (by omega)
  have hq1 : a / b ≤ a := Int.ediv_le_self b h1
  rw [← Int32.toInt_inj, Int32.toInt_div, i3_toInt (by omega) h2, i3_toInt (by omega) h4, Int.tdiv_eq_ediv_of_nonneg h1, i3_toInt (by omega) (by omega), Int.bmod_eq_of_le (by omega) (by omega)]
theorem i6_div {a b : Int} (h1 : 0 ≤ a) (h2 : a < 9223372036854775808) (h3 : 0 < b) (h4 : b < 9223372036854775808) : i6 a / i6 b = i6 (a / b) := by
  have hq0 : 0 ≤ a / b := Int.ediv_nonneg h1 (by omega)
  have hq1 : a / b ≤ a := Int.ediv_le_self b h1
  rw [← Int64.toInt_inj, Int64.toInt_div, i6_toInt (by omega) h2, i6_toInt (by omega) h4, Int.tdiv_eq_ediv_of_nonneg h1, i6_toInt (by omega) (by omega), Int.bmod_eq_of_le (by omega) (by omega)]
theorem i6_i3 (a : Int) : (i6 a).toInt32 = i3 a := Int64.toInt32_ofInt
theorem i3_i6 {a : Int} (h1 : -2147483648 ≤ a) (h2 : a < 2147483648) : (i3 a).toInt64 = i6 a := by
  rw [← Int64.toInt_inj, Int32.toInt_toInt64, i3_toInt h1 h2, i6_toInt (by omega) (by omega)]
theorem i3_nat {a : Int} (h1 : -2147483648 ≤ a) (h2 : a < 2147483648) : (i3 a).toNatClampNeg = a.toNat := by
  show (i3 a).toInt.toNat = _
  rw [i3_toInt h1 h2]
theorem i3_ofNat (n : Nat) : Int32.ofNat n = i3 (n : Int) := by
  unfold i3
  exact (Int32.ofInt_eq_ofNat (n := n)).symm
section CMP
variable {a b : Int} (h1 : -9223372036854775808 ≤ a) (h2 : a < 9223372036854775808) (h3 : -9223372036854775808 ≤ b) (h4 : b < 9223372036854775808)
theorem i6_cmp (h1 : -9223372036854775808 ≤ a) (h2 : a < 9223372036854775808) (h3 : -9223372036854775808 ≤ b) (h4 : b < 9223372036854775808) : lg_cmp (i6 a) (i6 b) = i3 (if b < a then 1 else if a = b then 0 else -1) := by
  unfold lg_cmp
  have e1 : (i6 a > i6 b) = (b < a) := i6_lt h3 h4 h1 h2
  have e2 : (i6 a = i6 b) = (a = b) := i6_eq h1 h2 h3 h4
  by_cases p : b < a
  · rw [if_pos (by rw [e1]; exact p), if_pos p]; rfl
  · rw [if_neg (by rw [e1]; exact p), if_neg p]
    by_cases q : a = b
    · rw [if_pos (by rw [e2]; exact q), if_pos q]; rfl
    · rw [if_neg (by rw [e2]; exact q), if_neg q]; rfl
theorem c6_lt (h1 : -9223372036854775808 ≤ a) (h2 : a < 9223372036854775808) (h3 : -9223372036854775808 ≤ b) (h4 : b < 9223372036854775808) : (lg_cmp (i6 a) (i6 b) < i3 0) = (a < b) := by
  rw [i6_cmp h1 h2 h3 h4, i3_lt (by omega) (by omega) (by omega) (by omega)]
  apply propext; split
  · omega
  · split <;> omega
theorem c6_ge (h1 : -9223372036854775808 ≤ a) (h2 : a < 9223372036854775808) (h3 : -9223372036854775808 ≤ b) (h4 : b < 9223372036854775808) : (i3 0 ≤ lg_cmp (i6 a) (i6 b)) = (b ≤ a) := by
  rw [i6_cmp h1 h2 h3 h4, i3_le (by omega) (by omega) (by omega) (by omega)]
  apply propext; split
  · omega
  · split <;> omega
theorem c6_gt (h1 : -9223372036854775808 ≤ a) (h2 : a < 9223372036854775808) (h3 : -9223372036854775808 ≤ b) (h4 : b < 9223372036854775808) : (i3 0 < lg_cmp (i6 a) (i6 b)) = (b < a) := by
  rw [i6_cmp h1 h2 h3 h4, i3_lt (by omega) (by omega) (by omega) (by omega)]
  apply propext; split
  · omega
  · split <;> omega
theorem c6_le (h1 : -9223372036854775808 ≤ a) (h2 : a < 9223372036854775808) (h3 : -9223372036854775808 ≤ b) (h4 : b < 9223372036854775808) : (lg_cmp (i6 a) (i6 b) ≤ i3 0) = (a ≤ b) := by
  rw [i6_cmp h1 h2 h3 h4, i3_le (by omega) (by omega) (by omega) (by omega)]
  apply propext; split
  · omega
  · split <;> omega
theorem c6_eq (h1 : -9223372036854775808 ≤ a) (h2 : a < 9223372036854775808) (h3 : -9223372036854775808 ≤ b) (h4 : b < 9223372036854775808) : (lg_cmp (i6 a) (i6 b) = i3 0) = (a = b) := by
  rw [i6_cmp h1 h2 h3 h4, i3_eq (by omega) (by omega) (by omega) (by omega)]
  apply propext; split
  · omega
  · split <;> omega
end CMP
theorem i3_ite {p : Prop} [Decidable p] {a b : Int} : (if p then i3 a else i3 b) = i3 (if p then a else b) := by split <;> rfl
theorem i6_ite {p : Prop} [Decidable p] {a b : Int} : (if p then i6 a else i6 b) = i6 (if p then a else b) := by split <;> rfl
theorem ib_0 {p : Prop} [Decidable p] : (i3 (if p then 1 else 0) = i3 0) = ¬ p := by
  by_cases h : p
  · rw [if_pos h, i3_eq (by omega) (by omega) (by omega) (by omega)]; simp [h]
  · rw [if_neg h]; simp [h]
theorem i1_0 : (i3 1 = i3 0) = False := by rw [i3_eq (by omega) (by omega) (by omega) (by omega)]; simp
theorem i0_0 : (i3 0 = i3 0) = True := by simp
theorem jB_1 {k : Option jm_Res} : jm_B (i3 1) k = k := rfl
theorem jB_0 {k : Option jm_Res} : jm_B (i3 0) k = k := rfl
theorem jB_z {z : Int} (h : z = 0 ∨ z = 1) {k : Option jm_Res} : jm_B (i3 z) k = k := by rcases h with rfl | rfl <;> rfl
theorem jB_ib {p : Prop} [Decidable p] {k : Option jm_Res} : jm_B (i3 (if p then 1 else 0)) k = k := by split <;> rfl
theorem bI_v {x : Int32} {m : jm_Mem} {f : Int32 → jm_Mem → Option jm_Res} {g : String → jm_Mem → Option jm_Res} : jm_bI f g (.inl (some (.int x)), m) = f x m := rfl
theorem bI_e {E : String} {m : jm_Mem} {f : Int32 → jm_Mem → Option jm_Res} {g : String → jm_Mem → Option jm_Res} : jm_bI f g (.inr E, m) = g E m := rfl
theorem bL_v {x : Int64} {m : jm_Mem} {f : Int64 → jm_Mem → Option jm_Res} {g : String → jm_Mem → Option jm_Res} : jm_bL f g (.inl (some (.long x)), m) = f x m := rfl
theorem bL_e {E : String} {m : jm_Mem} {f : Int64 → jm_Mem → Option jm_Res} {g : String → jm_Mem → Option jm_Res} : jm_bL f g (.inr E, m) = g E m := rfl
theorem bD_v {x : UInt64} {m : jm_Mem} {f : UInt64 → jm_Mem → Option jm_Res} {g : String → jm_Mem → Option jm_Res} : jm_bD f g (.inl (some (.double x)), m) = f x m := rfl
theorem bD_e {E : String} {m : jm_Mem} {f : UInt64 → jm_Mem → Option jm_Res} {g : String → jm_Mem → Option jm_Res} : jm_bD f g (.inr E, m) = g E m := rfl
theorem bV_v {m : jm_Mem} {f : jm_Mem → Option jm_Res} {g : String → jm_Mem → Option jm_Res} : jm_bV f g (.inl none, m) = f m := rfl
theorem bV_e {E : String} {m : jm_Mem} {f : jm_Mem → Option jm_Res} {g : String → jm_Mem → Option jm_Res} : jm_bV f g (.inr E, m) = g E m := rfl
theorem jx_e {E : String} {m : jm_Mem} : jm_x E m = some (.inr E, m) := rfl
theorem ob_s {α β : Type} {x : α} {f : α → Option β} : (some x).bind f = f x := rfl
theorem ob_i {α β : Type} {p : Prop} [Decidable p] {x y : Option α} {f : α → Option β} : (if p then x else y).bind f = if p then x.bind f else y.bind f := by split <;> rfl
/-- n equal steps -/
theorem ch_n {α : Type} (F : Nat → α) (n : Nat) (h : ∀ k, k < n → F k = F (k + 1)) : F 0 = F n := by
  induction n with
  | zero => rfl
  | succ n ih => exact (ih fun k hk => h k (by omega)).trans (h n (by omega))
theorem i3_m2 : Int32.ofInt (-2) = i3 (-2) := rfl
theorem ib_z {p : Prop} [Decidable p] : ((if p then (1 : Int) else 0) = 0) = ¬ p := by
  by_cases h : p <;> simp [h]
