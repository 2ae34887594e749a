-- uses 24.zar 25.obj 26.ops 30.rd 34.gen e0.lwa
/-! The law's draws, and its own series. -/
section IFS
variable {α : Type} {a b : Int} {x y : α}
theorem ie_eq (h1 : -2147483648 ≤ a) (h2 : a < 2147483648) (h3 : -2147483648 ≤ b) (h4 : b < 2147483648) : (if i3 a = i3 b then x else y) = if a = b then x else y := by simp only [i3_eq h1 h2 h3 h4]
theorem ie_lt (h1 : -2147483648 ≤ a) (h2 : a < 2147483648) (h3 : -2147483648 ≤ b) (h4 : b < 2147483648) : (if i3 a < i3 b then x else y) = if a < b then x else y := by simp only [i3_lt h1 h2 h3 h4]
theorem ie_le (h1 : -2147483648 ≤ a) (h2 : a < 2147483648) (h3 : -2147483648 ≤ b) (h4 : b < 2147483648) : (if i3 a ≤ i3 b then x else y) = if a ≤ b then x else y := by simp only [i3_le h1 h2 h3 h4]
theorem le6_eq (h1 : -9223372036854775808 ≤ a) (h2 : a < 9223372036854775808) (h3 : -9223372036854775808 ≤ b) (h4 : b < 9223372036854775808) : (if lg_cmp (i6 a) (i6 b) = i3 0 then x else y) = if a = b then x else y := by simp only [c6_eq h1 h2 h3 h4]
theorem le6_lt (h1 : -9223372036854775808 ≤ a) (h2 : a < 9223372036854775808) (h3 : -9223372036854775808 ≤ b) (h4 : b < 9223372036854775808) : (if lg_cmp (i6 a) (i6 b) < i3 0 then x else y) = if a < b then x else y := by simp only [c6_lt h1 h2 h3 h4]
theorem le6_le (h1 : -9223372036854775808 ≤ a) (h2 : a < 9223372036854775808) (h3 : -9223372036854775808 ≤ b) (h4 : b < 9223372036854775808) : (if lg_cmp (i6 a) (i6 b) ≤ i3 0 then x else y) = if a ≤ b then x else y := by simp only [c6_le h1 h2 h3 h4]
theorem le6_ge (h1 : -9223372036854775808 ≤ a) (h2 : a < 9223372036854775808) (h3 : -9223372036854775808 ≤ b) (h4 : b < 9223372036854775808) : (if i3 0 ≤ lg_cmp (i6 a) (i6 b) then x else y) = if b ≤ a then x else y := by simp only [c6_ge h1 h2 h3 h4]
end IFS
section LWB
variable {m : jm_Mem} {d a w h t g : Nat} {W H K : Int → Int}
/-- what is drawn is any number below -/
theorem sL_draw {f : Int → Int} {k : Int} (hg : isA m g 1 f) (h0 : 0 < k) (h1 : k < 1000) : ∃ z m' f', jm_env (d + 1) 3 [.ref g, .int (i3 k)] m = some (.inl (some (.int (i3 z))), m') ∧ 0 ≤ z ∧ z < k ∧ isA m' g 1 f' ∧ fr1 m m' g := by
  obtain ⟨m', e1, h2, h3⟩ := q_wI (y := f 0 * 1664525 + 1013904223) hg (z := 0) (by omega) (by omega) (by omega)
  have e2 := q_aI h2 (z := 0) (by omega) (by omega) (by omega)
  have hk : (i3 k = (0 : Int32)) = False := by rw [i3_eq0 (by omega) (by omega)]; exact eq_false (by omega)
  rw [eL_draw, bL_draw_0]
  simp only [q_aI hg (z := 0) (by omega) (by omega) (by omega), ob_s, i3_mul, i3_add, e1, e2, hk, if_false]
  generalize st1 f 0 (f 0 * 1664525 + 1013904223) 0 = x
  have hx : ∃ y : Int, (Int32.toUInt32 (i3 x) >>> (Int32.toUInt32 (i3 8) &&& Int32.toUInt32 31)).toInt32 = i3 y ∧ 0 ≤ y ∧ y < 16777216 := by
    have h8 : (Int32.toUInt32 (i3 8) &&& Int32.toUInt32 31) = 8 := by decide
    rw [h8]
    generalize Int32.toUInt32 (i3 x) = u
    refine ⟨((u >>> 8).toNat : Int), ?_, by omega, ?_⟩
    · rw [← i3_ofNat]
      apply Int32.toBitVec_inj.mp
      apply BitVec.eq_of_toNat_eq
      have := (u >>> 8).toNat_lt
      have e : (u >>> 8).toNat = u.toNat >>> 8 := by simp
      simp
      rw [e] at this
      omega
    · have : (u >>> 8).toNat = u.toNat / 256 := by simp [UInt32.toNat_shiftRight, Nat.shiftRight_eq_div_pow]
      have h2 := u.toNat_lt
      omega
  obtain ⟨y, hy, y0, y1⟩ := hx
  rw [hy]
  refine ⟨y - y / k * k, m', _, ?_, ?_, ?_, h2, h3⟩
  · rw [i3_div y0 (by omega) h0 (by omega), i3_mul, i3_sub]
  · have q1 := Int.emod_add_mul_ediv y k
    have q2 := Int.emod_nonneg y (show k ≠ 0 by omega)
    rw [Int.mul_comm k] at q1
    omega
  · have q1 := Int.emod_add_mul_ediv y k
    have q2 := Int.emod_lt_of_pos y h0
    rw [Int.mul_comm k] at q1
    omega
theorem fr1_t {m1 m' : jm_Mem} (h : fr1 m m1 a) (h2 : fr1 m1 m' a) : fr1 m m' a := ⟨h2.1.trans h.1, h2.2.1.trans h.2.1, fun n hn => (h2.2.2 n hn).trans (h.2.2 n hn)⟩
theorem sL_side {f : Int → Int} (hg : isA m g 1 f) : ∃ z m' f', jm_env (d + 2) 11 [.ref g] m = some (.inl (some (.int (i3 z))), m') ∧ 1 ≤ z ∧ z ≤ 240 ∧ isA m' g 1 f' ∧ fr1 m m' g := by
  obtain ⟨z, m1, f1, e1, z0, z1, g1, k1⟩ := sL_draw (d := d) hg (k := 4) (by omega) (by omega)
  rw [eL_side, bL_side_0, e1]
  simp only [ob_s, bI_v]
  rw [ie_eq (by omega) (by omega) (by omega) (by omega)]
  by_cases hz : z = 0
  · obtain ⟨y, m2, f2, e2, y0, y1, g2, k2⟩ := sL_draw (d := d) g1 (k := 9) (by omega) (by omega)
    rw [if_pos hz, bL_side_8, e2]
    simp only [ob_s, bI_v, i3_add, bL_side_28]
    exact ⟨1 + y, m2, f2, rfl, by omega, by omega, g2, fr1_t k1 k2⟩
  · obtain ⟨y, m2, f2, e2, y0, y1, g2, k2⟩ := sL_draw (d := d) g1 (k := 240) (by omega) (by omega)
    rw [if_neg hz, bL_side_19, e2]
    simp only [ob_s, bI_v, i3_add, bL_side_28]
    exact ⟨1 + y, m2, f2, rfl, by omega, by omega, g2, fr1_t k1 k2⟩
/-- a series of the law: its sides, its stacks -/
def isS (m : jm_Mem) (a w h t : Nat) (W H K : Int → Int) : Prop := isO m a 12 [.ref w, .ref h, .ref t] ∧ isA m w 10 W ∧ isA m h 10 H ∧ isA m t 10 K
/-- what its numbers keep to -/
def okS (W H K : Int → Int) : Prop := ∀ n : Int, 0 ≤ n → n < 10 → (0 ≤ W n ∧ W n ≤ 2000) ∧ (0 ≤ H n ∧ H n ≤ 2000) ∧ 0 ≤ K n ∧ K n ≤ 20000
theorem mul_2k {x y : Int} (h0 : 0 ≤ x) (h1 : x ≤ 2000) (h2 : 0 ≤ y) (h3 : y ≤ 2000) : 0 ≤ x * y ∧ x * y ≤ 4000000 := by
  refine ⟨Int.mul_nonneg h0 h2, ?_⟩
  have := Int.mul_le_mul h1 h3 h2 (by omega : (0 : Int) ≤ 2000)
  omega
theorem sX12_area (hs : isS m a w h t W H K) (ho : okS W H K) {n : Int} (h0 : 0 ≤ n) (h1 : n < 10) : jm_env (d + 1) 134 [.ref a, .int (i3 n)] m = some (.inl (some (.long (i6 (W n * H n)))), m) := by
  obtain ⟨s0, s1, s2, s3⟩ := hs
  have := ho n h0 h1
  rw [eX12_area _ _ _ _ (q_C s0), bX12_area_0]
  simp only [q_gR s0 (k := 0) rfl, q_gR s0 (k := 1) rfl, q_aI s1 h0 h1 (by omega), q_aI s2 h0 h1 (by omega), ob_s]
  rw [i3_i6 (by omega) (by omega), i3_i6 (by omega) (by omega), i6_mul]
theorem sX12_canBeCut (hs : isS m a w h t W H K) (ho : okS W H K) {n : Int} (h0 : 0 ≤ n) (h1 : n < 10) : jm_env (d + 2) 135 [.ref a, .int (i3 n)] m = some (.inl (some (.int (i3 (if n < 9 ∧ W (n + 1) * H (n + 1) ≠ 0 then 1 else 0)))), m) := by
  rw [eX12_canBeCut _ _ _ _ (q_C hs.1), bX12_canBeCut_0, ie_le (by omega) (by omega) (by omega) (by omega)]
  by_cases g : n < 9
  · have hb := ho (n + 1) (by omega) (by omega)
    have hm := mul_2k hb.1.1 hb.1.2 hb.2.1.1 hb.2.1.2
    rw [if_neg (by omega), bX12_canBeCut_6, i3_add, sX12_area hs ho (by omega) (by omega)]
    simp only [ob_s, bL_v]
    rw [le6_le (by omega) (by omega) (by omega) (by omega)]
    by_cases g2 : W (n + 1) * H (n + 1) = 0
    · rw [if_pos (by omega), if_neg (by omega), bX12_canBeCut_22, bX12_canBeCut_23]; rfl
    · rw [if_neg (by omega), if_pos ⟨g, g2⟩, bX12_canBeCut_18, bX12_canBeCut_23]; rfl
  · rw [if_pos (by omega), if_neg (by omega), bX12_canBeCut_22, bX12_canBeCut_23]; rfl
/-- what the series would give of a size -/
def supL (W H K : Int → Int) : Nat → Int
  | 0 => if W 0 * H 0 = 0 then 0 else min 9999 (K 0)
  | n + 1 => if W (n + 1) * H (n + 1) = 0 then 0 else min 9999 (K (n + 1) + 2 * supL W H K n)
theorem supL_b (ho : okS W H K) : ∀ n : Nat, n < 10 → 0 ≤ supL W H K n ∧ supL W H K n ≤ 9999 := by
  intro n
  induction n with
  | zero => intro _; have := ho 0 (by omega) (by omega); unfold supL; split <;> omega
  | succ n ih => intro hn; have := ho (n + 1) (by omega) (by omega); have := ih (by omega); unfold supL; split <;> omega
theorem sX12_supply (hs : isS m a w h t W H K) (ho : okS W H K) : ∀ {n : Nat} {d : Nat}, n < 10 → jm_env (d + n + 2) 136 [.ref a, .int (i3 n)] m = some (.inl (some (.int (i3 (supL W H K n)))), m) := by
  intro n
  induction n with
  | zero =>
    intro d _
    have hb := ho 0 (by omega) (by omega)
    have hm := mul_2k hb.1.1 hb.1.2 hb.2.1.1 hb.2.1.2
    rw [eX12_supply _ _ _ _ (q_C hs.1), bX12_supply_0, sX12_area hs ho (by omega) (by omega)]
    simp only [ob_s, bL_v, Int.natCast_zero]
    rw [le6_eq (by omega) (by omega) (by omega) (by omega)]
    unfold supL
    by_cases g : W 0 * H 0 = 0
    · rw [if_pos g, if_pos g, bX12_supply_10, bX12_supply_44]
    · rw [if_neg g, if_neg g, bX12_supply_14]
      simp only [q_gR hs.1 (k := 2) rfl, q_aI hs.2.2.2 (z := 0) (by omega) (by omega) (by omega), ob_s, i0_0, if_true]
      rw [bX12_supply_27, bX12_supply_40, i3_add, ie_lt (by omega) (by omega) (by omega) (by omega), i3_ite, bX12_supply_44, Int.add_zero]
      apply fin_i
      split <;> omega
  | succ n ih =>
    intro d hn
    have hb := ho ((n + 1 : Nat) : Int) (by omega) (by omega)
    have hm := mul_2k hb.1.1 hb.1.2 hb.2.1.1 hb.2.1.2
    have hl := supL_b ho n (by omega)
    rw [show d + (n + 1) + 2 = (d + n + 2) + 1 by omega, eX12_supply _ _ _ _ (q_C hs.1), bX12_supply_0, show d + n + 2 = (d + n + 1) + 1 by omega, sX12_area hs ho (by omega) (by omega)]
    simp only [ob_s, bL_v]
    rw [le6_eq (by omega) (by omega) (by omega) (by omega)]
    unfold supL
    rw [show (n : Int) + 1 = ((n + 1 : Nat) : Int) by omega]
    by_cases g : W ((n + 1 : Nat) : Int) * H ((n + 1 : Nat) : Int) = 0
    · rw [if_pos g, if_pos g, bX12_supply_10, bX12_supply_44]
    · rw [if_neg g, if_neg g, bX12_supply_14]
      simp only [q_gR hs.1 (k := 2) rfl, q_aI hs.2.2.2 (z := ((n + 1 : Nat) : Int)) (by omega) (by omega) (by omega), ob_s]
      rw [ie_eq (by omega) (by omega) (by omega) (by omega), if_neg (by omega), bX12_supply_31, i3_sub, show ((n + 1 : Nat) : Int) - 1 = (n : Int) by omega, show d + n + 1 + 1 = d + n + 2 by omega, ih (by omega)]
      simp only [ob_s, bI_v, i3_mul]
      rw [bX12_supply_40, i3_add, ie_lt (by omega) (by omega) (by omega) (by omega), i3_ite, bX12_supply_44]
      apply fin_i
      split <;> omega
theorem sX12_fits (hs : isS m a w h t W H K) (ho : okS W H K) {n e x y : Int} (h0 : 0 ≤ n) (h1 : n < 10) (e0 : 0 ≤ e) (e1 : e ≤ 50) (x0 : 0 ≤ x) (x1 : x ≤ 2000) (y0 : 0 ≤ y) (y1 : y ≤ 2000) : jm_env (d + 1) 137 [.ref a, .int (i3 n), .int (i3 e), .int (i3 x), .int (i3 y)] m = some (.inl (some (.int (i3 (if min x y ≤ min (max 0 (W n - 2 * e)) (max 0 (H n - 2 * e)) ∧ max x y ≤ max (max 0 (W n - 2 * e)) (max 0 (H n - 2 * e)) then 1 else 0)))), m) := by
  have hb := ho n h0 h1
  rw [eX12_fits _ _ _ _ _ _ _ (q_C hs.1), bX12_fits_0]
  simp only [q_gR hs.1 (k := 0) rfl, q_gR hs.1 (k := 1) rfl, q_aI hs.2.1 h0 h1 (by omega), q_aI hs.2.2.1 h0 h1 (by omega), ob_s, i3_mul, i3_sub]
  simp (disch := omega) only [i3_lt, i3_ite, if_mx, if_mn]
  have c1 : (if (0 : Int) < W n - 2 * e then W n - 2 * e else 0) = max 0 (W n - 2 * e) := by split <;> omega
  have c2 : (if (0 : Int) < H n - 2 * e then H n - 2 * e else 0) = max 0 (H n - 2 * e) := by split <;> omega
  simp only [c1, c2, bX12_fits_48, bX12_fits_64, bX12_fits_68, bX12_fits_69]
  simp (disch := omega) only [i3_lt, i3_ite, if_mx, if_mn]
  (repeat' split) <;> first | rfl | (exfalso; omega)
end LWB
