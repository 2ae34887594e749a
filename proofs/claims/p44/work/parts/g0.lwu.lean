-- uses 24.zar 25.obj 26.ops 31.re 34.gen 41.bit 07.rel 75.wra e0.lwa e1.lwb e2.lwc f3.lwn
/-! Rows of bytes; numbers in digits. -/
def isY (m : jm_Mem) (e cap : Nat) (T : Nat → Int) : Prop := ∃ G : Nat → Int32, m.2.1 e = .inl (9, cap, .inl G) ∧ ∀ k, k < cap → G k = i3 (T k) ∧ 0 ≤ T k ∧ T k < 128
def uT (T : Nat → Int) (j : Nat) (y : Int) : Nat → Int := fun k => if k = j then y else T k
section LWU
variable {m m' : jm_Mem} {d e cap n : Nat} {T : Nat → Int} {z y : Int}
theorem q_wY (h : isY m e cap T) {j : Nat} (hz : z = j) (hj : j < cap) (hc : cap < 100000) (y0 : 0 ≤ y) (y1 : y < 128) : ∃ m', jm_wY m e (i3 z) (i3 y) = some m' ∧ isY m' e cap (uT T j y) ∧ fr1 m m' e := by
  obtain ⟨G, h1, h2⟩ := h
  have hix : jm_ix (i3 z) cap = some j := by rw [ix_z (by omega) (by omega) (by omega)]; congr 1; omega
  refine ⟨jm_up m e (.inl (9, cap, .inl (upd G j (i3 y)))), ?_, ⟨_, if_pos rfl, fun k hk => ?_⟩, rfl, rfl, fun n hn => if_neg hn⟩
  · unfold jm_wY
    have e1 : jm_wZ m e (i3 z) (i3 y) = none := by
      unfold jm_wZ
      rw [h1]
      exact if_neg (by omega)
    rw [e1]
    unfold jm_wB
    rw [h1]
    show (if 9 = 9 ∧ jm_by (i3 y) = true then (jm_ix (i3 z) cap).map _ else none) = _
    rw [if_pos ⟨rfl, by_t (by omega) y1⟩, hix]
    rfl
  · unfold upd uT
    by_cases g : k = j
    · rw [if_pos g, if_pos g]; exact ⟨rfl, y0, y1⟩
    · rw [if_neg g, if_neg g]; exact h2 k hk
theorem q_aY (h : isY m e cap T) {j : Nat} (hz : z = j) (hj : j < cap) (hc : cap < 100000) : jm_aY m e (i3 z) = some (i3 (T j)) := by
  obtain ⟨G, h1, h2⟩ := h
  unfold jm_aY
  have e1 : jm_aZ m e (i3 z) = none := by
    unfold jm_aZ
    rw [h1]
    exact if_neg (by omega)
  rw [e1]
  unfold jm_aB
  rw [h1]
  show (if 9 = 9 ∨ 9 = 10 then (jm_ix (i3 z) cap).map G else none) = _
  rw [if_pos (Or.inl rfl), ix_z (by omega) (by omega) (by omega)]
  show some (G z.toNat) = _
  rw [show z.toNat = j by omega, (h2 j hj).1]
theorem q_dg {a : Nat} {g : Nat → Nat} (h : m.2.1 a = jm_dgE g) (h0 : 0 ≤ z) (h1 : z < 100) : jm_aY m a (i3 z) = some (i3 ((48 + g z.toNat : Nat) : Int)) := by
  unfold jm_aY
  have e1 : jm_aZ m a (i3 z) = none := by
    unfold jm_aZ
    rw [h]
    exact if_neg (by omega)
  rw [e1]
  unfold jm_aB
  rw [h]
  show (if 10 = 9 ∨ 10 = 10 then (jm_ix (i3 z) 100).map _ else none) = _
  rw [if_pos (Or.inr rfl), ix_z h0 (by omega) (by omega)]
  show some (Int32.ofNat (48 + g z.toNat)) = _
  rw [i3_ofNat]
theorem isY_fr (h : isY m e cap T) (he : m'.2.1 e = m.2.1 e) : isY m' e cap T := by
  obtain ⟨G, h1, h2⟩ := h
  exact ⟨G, he.trans h1, h2⟩
theorem isY_cg {T' : Nat → Int} (h : isY m e cap T) (ht : ∀ k, k < cap → T k = T' k) : isY m e cap T' := by
  obtain ⟨G, h1, h2⟩ := h
  exact ⟨G, h1, fun k hk => by rw [← ht k hk]; exact h2 k hk⟩
/-- the digits of a number below a thousand -/
def dL (z : Int) : Nat := if z < 10 then 1 else if z < 100 then 2 else 3
theorem dg_3 (z0 : 0 ≤ z) (z1 : z < 1000) : dg z = if z < 10 then [48 + z % 10] else if z < 100 then [48 + z / 10 % 10, 48 + z % 10] else [48 + z / 100 % 10, 48 + z / 10 % 10, 48 + z % 10] := by
  unfold dg
  rw [if_neg (by omega), Int.ediv_one]
  by_cases g : z < 10
  · rw [if_neg (by omega), if_neg (by omega), if_pos g]; rfl
  · rw [if_neg g]
    by_cases g2 : z < 100
    · rw [if_neg (by omega), if_pos (by omega), if_pos g2]; rfl
    · rw [if_pos (by omega), if_pos (by omega), if_neg g2]; rfl
theorem dg_L (z0 : 0 ≤ z) (z1 : z < 1000) : (dg z).length = dL z := by
  rw [dg_3 z0 z1]
  unfold dL
  split
  · rfl
  · split <;> rfl
theorem sJ_size (z0 : 0 ≤ z) (z1 : z < 1000) : jm_env (d + 1) 150 [.int (i3 z)] m = some (.inl (some (.int (i3 (dL z)))), m) := by
  rw [eJ6_stringSize_0f7a4, bJ6_stringSize_0f7a4_0, ie_lt (by omega) (by omega) (by omega) (by omega), if_neg (by omega), bJ6_stringSize_0f7a4_6, i3_neg, bJ6_stringSize_0f7a4_11, bJ6_stringSize_0f7a4_16, ie_le (by omega) (by omega) (by omega) (by omega), if_neg (by omega), bJ6_stringSize_0f7a4_22, ie_le (by omega) (by omega) (by omega) (by omega)]
  unfold dL
  by_cases g : z < 10
  · rw [if_neg (by omega), bJ6_stringSize_0f7a4_27, i3_add, if_pos g]; rfl
  · rw [if_pos (by omega), bJ6_stringSize_0f7a4_31, i3_mul, i3_add, bJ6_stringSize_0f7a4_16, ie_le (by omega) (by omega) (by omega) (by omega), if_neg (by omega), bJ6_stringSize_0f7a4_22, ie_le (by omega) (by omega) (by omega) (by omega), if_neg g]
    by_cases g2 : z < 100
    · rw [if_neg (by omega), bJ6_stringSize_0f7a4_27, i3_add, if_pos g2]; rfl
    · rw [if_pos (by omega), bJ6_stringSize_0f7a4_31, i3_mul, i3_add, bJ6_stringSize_0f7a4_16, ie_le (by omega) (by omega) (by omega) (by omega), if_neg (by omega), bJ6_stringSize_0f7a4_22, ie_le (by omega) (by omega) (by omega) (by omega), if_neg (by omega), bJ6_stringSize_0f7a4_27, i3_add, if_neg g2]; rfl
theorem i3_divn {a b : Int} (h1 : 0 ≤ a) (h2 : a < 2147483648) (h3 : 0 < b) (h4 : b < 2147483648) : i3 (-a) / i3 b = i3 (-(a / b)) := by
  have hq0 : 0 ≤ a / b := Int.ediv_nonneg h1 (by omega)
  have hq1 : a / b ≤ a := Int.ediv_le_self b h1
  rw [← Int32.toInt_inj, Int32.toInt_div, i3_toInt (by omega) (by omega), i3_toInt (by omega) h4, Int.neg_tdiv, Int.tdiv_eq_ediv_of_nonneg h1, i3_toInt (by omega) (by omega), Int.bmod_eq_of_le (by omega) (by omega)]
/-- the digits put before place n + L -/
theorem sJ_getChars (h : isY m e cap T) (hc : cap ≤ 2000) (z0 : 0 ≤ z) (z1 : z < 1000) (hn : n + dL z ≤ cap) (he : e ≠ jm_dgt ∧ e ≠ jm_dgo) (d1 : m.2.1 jm_dgt = jm_dgE (fun i => i / 10)) (d2 : m.2.1 jm_dgo = jm_dgE (fun i => i % 10)) : ∃ m', jm_env (d + 1) 149 [.int (i3 z), .int (i3 ((n : Int) + dL z)), .ref e] m = some (.inl (some (.int (i3 n))), m') ∧ isY m' e cap (fun j => if n ≤ j ∧ j < n + dL z then (dg z).getD (j - n) 0 else T j) ∧ fr1 m m' e := by
  have st : jm_env (d + 1) 149 [.int (i3 z), .int (i3 ((n : Int) + dL z)), .ref e] m = jm_R (jm_env d) jmM_J6_getChars_ba4f3 22 [some (.int (i3 (-z))), some (.int (i3 ((n : Int) + dL z))), some (.ref e), none, none, some (.int (i3 ((n : Int) + dL z))), some (.int (i3 0))] [] m := by
    rw [eJ6_getChars_ba4f3, bJ6_getChars_ba4f3_0, ie_le (by omega) (by omega) (by omega) (by omega), if_pos z0, bJ6_getChars_ba4f3_11, bJ6_getChars_ba4f3_12, if_pos rfl, bJ6_getChars_ba4f3_19, i3_neg]
  rw [st]
  have hd3 := dg_3 z0 z1
  have o1 : (140737488355328 : Nat) = jm_dgo := rfl
  have o2 : (70368744177664 : Nat) = jm_dgt := rfl
  by_cases g : z < 10
  · have hL : dL z = 1 := if_pos g
    rw [if_pos g] at hd3
    rw [hL] at hn ⊢
    obtain ⟨m1, e1, y1, f1⟩ := q_wY (z := (n : Int)) (y := ((48 + z.toNat % 10 : Nat) : Int)) h rfl (by omega) (by omega) (by omega) (by omega)
    refine ⟨m1, ?_, isY_cg y1 fun k hk => ?_, f1⟩
    · rw [bJ6_getChars_ba4f3_22, ie_lt (by omega) (by omega) (by omega) (by omega), if_pos (by omega), bJ6_getChars_ba4f3_72, i3_neg, show -(-z) = z by omega, o1, q_dg d2 z0 (by omega), ob_s, i3_add, show (n : Int) + ((1 : Nat) : Int) + -1 = n by omega, e1, ob_s, ie_le (by omega) (by omega) (by omega) (by omega), if_pos (by omega), bJ6_getChars_ba4f3_104, if_pos rfl, bJ6_getChars_ba4f3_118]
    · unfold uT
      by_cases q : k = n
      · rw [if_pos q, if_pos (by omega), hd3, q, Nat.sub_self]
        show _ = 48 + z % 10
        omega
      · rw [if_neg q, if_neg (by omega)]
  · by_cases g2 : z < 100
    · have hL : dL z = 2 := by unfold dL; rw [if_neg g, if_pos g2]
      rw [if_neg g, if_pos g2] at hd3
      rw [hL] at hn ⊢
      obtain ⟨m1, e1, y1, f1⟩ := q_wY (z := (n : Int) + 1) (j := n + 1) (y := ((48 + z.toNat % 10 : Nat) : Int)) h (by omega) (by omega) (by omega) (by omega) (by omega)
      obtain ⟨m2, e2, y2, f2⟩ := q_wY (z := (n : Int)) (y := ((48 + z.toNat / 10 : Nat) : Int)) y1 rfl (by omega) (by omega) (by omega) (by omega)
      refine ⟨m2, ?_, isY_cg y2 fun k hk => ?_, fr1_t f1 f2⟩
      · have d1' : m1.2.1 jm_dgt = jm_dgE (fun i => i / 10) := (f1.2.2 _ (fun q => he.1 q.symm)).trans d1
        rw [bJ6_getChars_ba4f3_22, ie_lt (by omega) (by omega) (by omega) (by omega), if_pos (by omega), bJ6_getChars_ba4f3_72, i3_neg, show -(-z) = z by omega, o1, q_dg d2 z0 (by omega), ob_s, i3_add, show (n : Int) + ((2 : Nat) : Int) + -1 = (n : Int) + 1 by omega, e1, ob_s, ie_le (by omega) (by omega) (by omega) (by omega), if_neg (by omega), bJ6_getChars_ba4f3_91, i3_neg, show -(-z) = z by omega, o2, q_dg d1' z0 (by omega), ob_s, i3_add, show (n : Int) + 1 + -1 = (n : Int) by omega, e2, ob_s, bJ6_getChars_ba4f3_104, if_pos rfl, bJ6_getChars_ba4f3_118]
      · unfold uT
        by_cases q : k = n
        · rw [if_pos q, if_pos (by omega), hd3, q, Nat.sub_self]
          show _ = 48 + z / 10 % 10
          omega
        · rw [if_neg q]
          by_cases q2 : k = n + 1
          · rw [if_pos q2, if_pos (by omega), hd3, q2, Nat.add_sub_cancel_left]
            show _ = 48 + z % 10
            omega
          · rw [if_neg q2, if_neg (by omega)]
    · have hL : dL z = 3 := by unfold dL; rw [if_neg g, if_neg g2]
      rw [if_neg g, if_neg g2] at hd3
      rw [hL] at hn ⊢
      obtain ⟨m1, e1, y1, f1⟩ := q_wY (z := (n : Int) + 2) (j := n + 2) (y := ((48 + (z % 100).toNat % 10 : Nat) : Int)) h (by omega) (by omega) (by omega) (by omega) (by omega)
      obtain ⟨m2, e2, y2, f2⟩ := q_wY (z := (n : Int) + 1) (j := n + 1) (y := ((48 + (z % 100).toNat / 10 : Nat) : Int)) y1 (by omega) (by omega) (by omega) (by omega) (by omega)
      obtain ⟨m3, e3, y3, f3⟩ := q_wY (z := (n : Int)) (y := ((48 + (z / 100).toNat % 10 : Nat) : Int)) y2 rfl (by omega) (by omega) (by omega) (by omega)
      refine ⟨m3, ?_, isY_cg y3 fun k hk => ?_, fr1_t (fr1_t f1 f2) f3⟩
      · have d1' : m1.2.1 jm_dgt = jm_dgE (fun i => i / 10) := (f1.2.2 _ (fun q => he.1 q.symm)).trans d1
        have d2' : m2.2.1 jm_dgo = jm_dgE (fun i => i % 10) := (f2.2.2 _ (fun q => he.2 q.symm)).trans ((f1.2.2 _ (fun q => he.2 q.symm)).trans d2)
        rw [bJ6_getChars_ba4f3_22, ie_lt (by omega) (by omega) (by omega) (by omega), if_neg (by omega), bJ6_getChars_ba4f3_28, i3_divn z0 (by omega) (by omega) (by omega), i3_mul, i3_sub, show -(z / 100) * 100 - -z = z % 100 by omega, o1, q_dg d2 (by omega) (by omega), ob_s, i3_add, show (n : Int) + ((3 : Nat) : Int) + -1 = (n : Int) + 2 by omega, e1, ob_s, o2, q_dg d1' (by omega) (by omega), ob_s, i3_add, show (n : Int) + 2 + -1 = (n : Int) + 1 by omega, e2, ob_s]
        rw [bJ6_getChars_ba4f3_i_22, ie_lt (by omega) (by omega) (by omega) (by omega), if_pos (by omega), bJ6_getChars_ba4f3_i_72, i3_neg, show -(-(z / 100)) = z / 100 by omega, o1, q_dg d2' (by omega) (by omega), ob_s, i3_add, show (n : Int) + 1 + -1 = (n : Int) by omega, e3, ob_s, ie_le (by omega) (by omega) (by omega) (by omega), if_pos (by omega), bJ6_getChars_ba4f3_i_104, if_pos rfl, bJ6_getChars_ba4f3_i_118]
      · unfold uT
        by_cases q : k = n
        · rw [if_pos q, if_pos (by omega), hd3, q, Nat.sub_self]
          show _ = 48 + z / 100 % 10
          omega
        · rw [if_neg q]
          by_cases q2 : k = n + 1
          · rw [if_pos q2, if_pos (by omega), hd3, q2, Nat.add_sub_cancel_left]
            show _ = 48 + z / 10 % 10
            omega
          · rw [if_neg q2]
            by_cases q3 : k = n + 2
            · rw [if_pos q3, if_pos (by omega), hd3, q3, Nat.add_sub_cancel_left]
              show _ = 48 + z % 10
              omega
            · rw [if_neg q3, if_neg (by omega)]
end LWU
