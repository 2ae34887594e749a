-- uses 24.zar 25.obj
/-! Reads and writes of each field and each row, by name (by program: wip/whole/gen_ops.py). -/
def bcap (a : Nat) : Nat := if a = 1 then 600 else 650
def oByt (a : Nat) : Prop := a = 1 ∨ a = 3
def oLnd (a : Nat) : Prop := a ∈ pl_lands
def oPri (a : Nat) : Prop := ∃ b, oLnd b ∧ a = b + 2
def oSer (a : Nat) : Prop := ∃ b i, oLnd b ∧ i < 5 ∧ a = b + 7 + 5 * i
theorem oByt_1 : oByt 1 := Or.inl rfl
theorem oByt_3 : oByt 3 := Or.inr rfl
theorem oPri_of {b : Nat} (h : oLnd b) : oPri (b + 2) := ⟨b, h, rfl⟩
theorem oSer_of {b i : Nat} (h : oLnd b) (hi : i < 5) : oSer (b + 7 + 5 * i) := ⟨b, i, h, hi, rfl⟩
theorem oLnd_14 : oLnd 14 := by unfold oLnd; decide
theorem oLnd_46 : oLnd 46 := by unfold oLnd; decide
theorem oLnd_h {i : Nat} (h : i < 8) : oLnd (80 + 32 * i) := by
  have : ∀ i, i < 8 → oLnd (80 + 32 * i) := by unfold oLnd; decide
  exact this i h
theorem oLnd_s {i : Nat} (h : i < 2) : oLnd (347 + 32 * i) := by
  have : ∀ i, i < 2 → oLnd (347 + 32 * i) := by unfold oLnd; decide
  exact this i h
theorem sc_n {n : Nat} {k : Int} (h : n ≠ 0) (h5 : n ≠ 5) (h4 : n ≠ 411) : pl_scr n k = pl_scr n 0 := by
  unfold pl_scr
  rw [if_neg h, if_neg h5, if_neg h4, if_neg h, if_neg h5, if_neg h4]
theorem ln_o : ∀ b ∈ pl_lands, ∀ o, o < 32 → (b + o ≠ 0 ∧ b + o ≠ 5 ∧ b + o ≠ 411 ∧ b + o < 411) ∧ pl_scr (b + o) 0 = false := by decide +kernel
theorem ln_0 : ∀ b ∈ pl_lands, pl_sh b = .inr (4, [(0, 0), (0, 0), (0, 0), (3, b + 1), (3, b + 2), (3, b + 6)]) := by decide +kernel
theorem ln_1 : ∀ b ∈ pl_lands, pl_sh (b + 1) = .inl (4, 5, [b + 7, b + 12, b + 17, b + 22, b + 27]) := by decide +kernel
theorem ln_2 : ∀ b ∈ pl_lands, pl_sh (b + 2) = .inr (6, [(3, b + 3), (3, b + 4), (3, b + 5), (0, 0)]) := by decide +kernel
theorem ln_3 : ∀ b ∈ pl_lands, pl_sh (b + 3) = .inl (0, 30, []) := by decide +kernel
theorem ln_4 : ∀ b ∈ pl_lands, pl_sh (b + 4) = .inl (0, 30, []) := by decide +kernel
theorem ln_5 : ∀ b ∈ pl_lands, pl_sh (b + 5) = .inl (0, 30, []) := by decide +kernel
theorem ln_6 : ∀ b ∈ pl_lands, pl_sh (b + 6) = .inl (2, 8, []) := by decide +kernel
theorem sr_0 : ∀ b ∈ pl_lands, ∀ i, i < 5 → pl_sh (b + 7 + 5 * i) = .inr (9, [(3, b + 7 + 5 * i + 1), (0, 0), (3, b + 7 + 5 * i + 2), (3, b + 7 + 5 * i + 3), (3, b + 7 + 5 * i + 4)]) := by decide +kernel
theorem sr_1 : ∀ b ∈ pl_lands, ∀ i, i < 5 → pl_sh (b + 7 + 5 * i + 1) = .inl (0, 6, []) := by decide +kernel
theorem sr_2 : ∀ b ∈ pl_lands, ∀ i, i < 5 → pl_sh (b + 7 + 5 * i + 2) = .inl (0, 10, []) := by decide +kernel
theorem sr_3 : ∀ b ∈ pl_lands, ∀ i, i < 5 → pl_sh (b + 7 + 5 * i + 3) = .inl (0, 10, []) := by decide +kernel
theorem sr_4 : ∀ b ∈ pl_lands, ∀ i, i < 5 → pl_sh (b + 7 + 5 * i + 4) = .inl (0, 10, []) := by decide +kernel
theorem ln_sc {b o : Nat} (h : oLnd b) (ho : o < 32) (k : Int) : pl_scr (b + o) k = false := by
  obtain ⟨⟨h1, h2, h3, -⟩, h4⟩ := ln_o b h o ho
  rw [sc_n h1 h2 h3, h4]
theorem ln_lt {b o : Nat} (h : oLnd b) (ho : o < 32) : b + o < 411 := (ln_o b h o ho).1.2.2.2
theorem sr_sc {a o : Nat} (h : oSer a) (ho : o < 5) (k : Int) : pl_scr (a + o) k = false := by
  obtain ⟨b, i, h1, h2, rfl⟩ := h
  rw [show b + 7 + 5 * i + o = b + (7 + 5 * i + o) by omega]
  exact ln_sc h1 (by omega) k
theorem sr_lt {a o : Nat} (h : oSer a) (ho : o < 5) : a + o < 411 := by
  obtain ⟨b, i, h1, h2, rfl⟩ := h
  rw [show b + 7 + 5 * i + o = b + (7 + 5 * i + o) by omega]
  exact ln_lt h1 (by omega)
theorem sr_sh {a : Nat} (h : oSer a) : pl_sh a = .inr (9, [(3, a + 1), (0, 0), (3, a + 2), (3, a + 3), (3, a + 4)]) ∧ pl_sh (a + 1) = .inl (0, 6, []) ∧ pl_sh (a + 2) = .inl (0, 10, []) ∧ pl_sh (a + 3) = .inl (0, 10, []) ∧ pl_sh (a + 4) = .inl (0, 10, []) := by
  obtain ⟨b, i, h1, h2, rfl⟩ := h
  exact ⟨sr_0 b h1 i h2, sr_1 b h1 i h2, sr_2 b h1 i h2, sr_3 b h1 i h2, sr_4 b h1 i h2⟩
theorem pr_sc {a o : Nat} (h : oPri a) (ho : o < 4) (k : Int) : pl_scr (a + o) k = false := by
  obtain ⟨b, h1, rfl⟩ := h
  rw [show b + 2 + o = b + (2 + o) by omega]
  exact ln_sc h1 (by omega) k
theorem pr_lt {a o : Nat} (h : oPri a) (ho : o < 4) : a + o < 411 := by
  obtain ⟨b, h1, rfl⟩ := h
  rw [show b + 2 + o = b + (2 + o) by omega]
  exact ln_lt h1 (by omega)
theorem pr_sh {a : Nat} (h : oPri a) : pl_sh a = .inr (6, [(3, a + 1), (3, a + 2), (3, a + 3), (0, 0)]) ∧ pl_sh (a + 1) = .inl (0, 30, []) ∧ pl_sh (a + 2) = .inl (0, 30, []) ∧ pl_sh (a + 3) = .inl (0, 30, []) := by
  obtain ⟨b, h1, rfl⟩ := h
  exact ⟨ln_2 b h1, ln_3 b h1, ln_4 b h1, ln_5 b h1⟩
theorem bt_sc {a o : Nat} (h : oByt a) (ho : o < 2) (k : Int) : pl_scr (a + o) k = false := by
  have : ∀ a, (a = 1 ∨ a = 3) → ∀ o, o < 2 → a + o ≠ 0 ∧ a + o ≠ 5 ∧ a + o ≠ 411 ∧ pl_scr (a + o) 0 = false := by
    rintro a (rfl | rfl) <;> decide +kernel
  obtain ⟨h1, h2, h3, h4⟩ := this a h o ho
  rw [sc_n h1 h2 h3, h4]
theorem bt_lt {a o : Nat} (h : oByt a) (ho : o < 2) : a + o < 411 := by rcases h with rfl | rfl <;> omega
theorem bt_sh {a : Nat} (h : oByt a) : pl_sh a = .inr (0, [(3, a + 1), (0, 0)]) ∧ pl_sh (a + 1) = .inl (0, bcap a, []) := by
  rcases h with rfl | rfl <;> decide +kernel
theorem bc_lt {a : Nat} : bcap a < 2147483648 := by unfold bcap; split <;> omega
theorem sh_len : pl_shL.length = 431 := by decide +kernel
section OPZ
variable {X : Nat × (Nat → Int32)} {v w : Nat → Int → Int} {T c s : Nat} {a : Nat} {z y : Int}
theorem or_l {α : Type} {a b : Option α} {x : α} (h : a = some x) : a.or b = some x := by rw [h]; rfl
theorem o0 (h : oByt a) : jm_isC (qM X v w T c s) a 0 = true := o_C (Nat.lt_add_right T (bt_lt (o := 0) h (by decide))) (bt_sh h).1
theorem r0_0 (h : oByt a) : jm_gR (qM X v w T c s) a 0 0 = some (a + 1) := g_R (Nat.lt_add_right T (bt_lt (o := 0) h (by decide))) (bt_sh h).1 rfl
theorem g0_1 (h : oByt a) : jm_gI (qM X v w T c s) a 0 1 = some (i3 (v a 1)) := (g_I (Nat.lt_add_right T (bt_lt (o := 0) h (by decide))) (bt_sh h).1 rfl).trans (by rw [qq_v (k := ((1 : Nat) : Int)) (bt_sc (o := 0) h (by decide) _)]; rfl)
theorem p0_1 (h : oByt a) : jm_put (qM X v w T c s) a 0 1 (.int (i3 z)) = some (qM X (up v a 1 z) w T c s) := p_I (Nat.lt_add_right T (bt_lt (o := 0) h (by decide))) (bt_sh h).1 rfl (bt_sc (o := 0) h (by decide) _)
theorem a0_0 (h : oByt a) (h0 : 0 ≤ z) (h1 : z < bcap a) : jm_aI (qM X v w T c s) (a + 1) (i3 z) = some (i3 (v (a + 1) z)) := (a_I (Nat.lt_add_right T (bt_lt (o := 1) h (by decide))) (bt_sh h).2 bc_lt h0 h1).trans (by rw [qq_v ((fun j => bt_sc (o := 1) h (by decide) j) z)])
theorem w0_0 (h : oByt a) (h0 : 0 ≤ z) (h1 : z < bcap a) : jm_wI (qM X v w T c s) (a + 1) (i3 z) (i3 y) = some (qM X (up v (a + 1) z y) w T c s) := w_I (Nat.lt_add_right T (bt_lt (o := 1) h (by decide))) (bt_sh h).2 bc_lt (fun j => bt_sc (o := 1) h (by decide) j) h0 h1
theorem n0_0 (h : oByt a) : jm_len (qM X v w T c s) (a + 1) = some (bcap a) := l_A (Nat.lt_add_right T (bt_lt (o := 1) h (by decide))) (bt_sh h).2 (by decide)
theorem h_1 : pl_sh 340 = .inr (1, [(3, 341), (0, 0), (2, 0)]) := by decide +kernel
theorem o1 : jm_isC (qM X v w T c s) 340 1 = true := o_C (by omega) h_1
theorem r1_0 : jm_gR (qM X v w T c s) 340 1 0 = some (341) := g_R (by omega) h_1 rfl
theorem g1_1 : jm_gI (qM X v w T c s) 340 1 1 = some (i3 (w 340 1)) := (g_I (by omega) h_1 rfl).trans (by rw [qq_w (k := ((1 : Nat) : Int)) (by decide +kernel : pl_scr 340 (1 : Nat) = true)]; rfl)
theorem p1_1 : jm_put (qM X v w T c s) 340 1 1 (.int (i3 z)) = some (qM X v (up w 340 1 z) T c s) := p_i (by omega) h_1 rfl (by decide +kernel : pl_scr 340 (1 : Nat) = true)
theorem g1_2 : jm_gL (qM X v w T c s) 340 1 2 = some (i6 (w 340 2)) := (g_L (by omega) h_1 rfl).trans (by rw [qq_w (k := ((2 : Nat) : Int)) (by decide +kernel : pl_scr 340 (2 : Nat) = true)]; rfl)
theorem p1_2 : jm_put (qM X v w T c s) 340 1 2 (.long (i6 z)) = some (qM X v (up w 340 2 z) T c s) := p_l (by omega) h_1 rfl (by decide +kernel : pl_scr 340 (2 : Nat) = true)
theorem h_1_0 : pl_sh 341 = .inl (0, 10, []) := by decide +kernel
theorem t_1_0 : ∀ j, pl_scr 341 j = true := fun j => (sc_n (by decide) (by decide) (by decide)).trans (by decide +kernel)
theorem a1_0 (h0 : 0 ≤ z) (h1 : z < 10) : jm_aI (qM X v w T c s) 341 (i3 z) = some (i3 (w 341 z)) := (a_I (by omega) h_1_0 (by decide) h0 h1).trans (by rw [qq_w (t_1_0 z)])
theorem w1_0 (h0 : 0 ≤ z) (h1 : z < 10) : jm_wI (qM X v w T c s) 341 (i3 z) (i3 y) = some (qM X v (up w 341 z y) T c s) := w_i (by omega) h_1_0 (by decide) t_1_0 h0 h1
theorem n1_0 : jm_len (qM X v w T c s) 341 = some (10) := l_A (by omega) h_1_0 (by decide)
theorem h_2 : pl_sh 342 = .inr (2, [(0, 0), (0, 0), (0, 0), (3, 343), (3, 344), (3, 345), (3, 346)]) := by decide +kernel
theorem o2 : jm_isC (qM X v w T c s) 342 2 = true := o_C (by omega) h_2
theorem g2_0 : jm_gI (qM X v w T c s) 342 2 0 = some (i3 (w 342 0)) := (g_I (by omega) h_2 rfl).trans (by rw [qq_w (k := ((0 : Nat) : Int)) (by decide +kernel : pl_scr 342 (0 : Nat) = true)]; rfl)
theorem p2_0 : jm_put (qM X v w T c s) 342 2 0 (.int (i3 z)) = some (qM X v (up w 342 0 z) T c s) := p_i (by omega) h_2 rfl (by decide +kernel : pl_scr 342 (0 : Nat) = true)
theorem g2_1 : jm_gI (qM X v w T c s) 342 2 1 = some (i3 (w 342 1)) := (g_I (by omega) h_2 rfl).trans (by rw [qq_w (k := ((1 : Nat) : Int)) (by decide +kernel : pl_scr 342 (1 : Nat) = true)]; rfl)
theorem p2_1 : jm_put (qM X v w T c s) 342 2 1 (.int (i3 z)) = some (qM X v (up w 342 1 z) T c s) := p_i (by omega) h_2 rfl (by decide +kernel : pl_scr 342 (1 : Nat) = true)
theorem g2_2 : jm_gI (qM X v w T c s) 342 2 2 = some (i3 (w 342 2)) := (g_I (by omega) h_2 rfl).trans (by rw [qq_w (k := ((2 : Nat) : Int)) (by decide +kernel : pl_scr 342 (2 : Nat) = true)]; rfl)
theorem p2_2 : jm_put (qM X v w T c s) 342 2 2 (.int (i3 z)) = some (qM X v (up w 342 2 z) T c s) := p_i (by omega) h_2 rfl (by decide +kernel : pl_scr 342 (2 : Nat) = true)
theorem r2_3 : jm_gR (qM X v w T c s) 342 2 3 = some (343) := g_R (by omega) h_2 rfl
theorem r2_4 : jm_gR (qM X v w T c s) 342 2 4 = some (344) := g_R (by omega) h_2 rfl
theorem r2_5 : jm_gR (qM X v w T c s) 342 2 5 = some (345) := g_R (by omega) h_2 rfl
theorem r2_6 : jm_gR (qM X v w T c s) 342 2 6 = some (346) := g_R (by omega) h_2 rfl
theorem h_2_3 : pl_sh 343 = .inl (1, 5, []) := by decide +kernel
theorem t_2_3 : ∀ j, pl_scr 343 j = true := fun j => (sc_n (by decide) (by decide) (by decide)).trans (by decide +kernel)
theorem a2_3 (h0 : 0 ≤ z) (h1 : z < 5) : jm_aY (qM X v w T c s) 343 (i3 z) = some (i3 (w 343 z)) := or_l ((a_Z (by omega) h_2_3 (by decide) h0 h1).trans (by rw [qq_w (t_2_3 z)]))
theorem w2_3 (h0 : 0 ≤ z) (h1 : z < 5) (hy : y = 0 ∨ y = 1) : jm_wY (qM X v w T c s) 343 (i3 z) (i3 y) = some (qM X v (up w 343 z y) T c s) := or_l (w_z (by omega) h_2_3 (by decide) t_2_3 h0 h1 hy)
theorem n2_3 : jm_len (qM X v w T c s) 343 = some (5) := l_A (by omega) h_2_3 (by decide)
theorem h_2_4 : pl_sh 344 = .inl (0, 32, []) := by decide +kernel
theorem t_2_4 : ∀ j, pl_scr 344 j = true := fun j => (sc_n (by decide) (by decide) (by decide)).trans (by decide +kernel)
theorem a2_4 (h0 : 0 ≤ z) (h1 : z < 32) : jm_aI (qM X v w T c s) 344 (i3 z) = some (i3 (w 344 z)) := (a_I (by omega) h_2_4 (by decide) h0 h1).trans (by rw [qq_w (t_2_4 z)])
theorem w2_4 (h0 : 0 ≤ z) (h1 : z < 32) : jm_wI (qM X v w T c s) 344 (i3 z) (i3 y) = some (qM X v (up w 344 z y) T c s) := w_i (by omega) h_2_4 (by decide) t_2_4 h0 h1
theorem n2_4 : jm_len (qM X v w T c s) 344 = some (32) := l_A (by omega) h_2_4 (by decide)
theorem h_2_5 : pl_sh 345 = .inl (0, 32, []) := by decide +kernel
theorem t_2_5 : ∀ j, pl_scr 345 j = true := fun j => (sc_n (by decide) (by decide) (by decide)).trans (by decide +kernel)
theorem a2_5 (h0 : 0 ≤ z) (h1 : z < 32) : jm_aI (qM X v w T c s) 345 (i3 z) = some (i3 (w 345 z)) := (a_I (by omega) h_2_5 (by decide) h0 h1).trans (by rw [qq_w (t_2_5 z)])
theorem w2_5 (h0 : 0 ≤ z) (h1 : z < 32) : jm_wI (qM X v w T c s) 345 (i3 z) (i3 y) = some (qM X v (up w 345 z y) T c s) := w_i (by omega) h_2_5 (by decide) t_2_5 h0 h1
theorem n2_5 : jm_len (qM X v w T c s) 345 = some (32) := l_A (by omega) h_2_5 (by decide)
theorem h_2_6 : pl_sh 346 = .inl (0, 64, []) := by decide +kernel
theorem t_2_6 : ∀ j, pl_scr 346 j = true := fun j => (sc_n (by decide) (by decide) (by decide)).trans (by decide +kernel)
theorem a2_6 (h0 : 0 ≤ z) (h1 : z < 64) : jm_aI (qM X v w T c s) 346 (i3 z) = some (i3 (w 346 z)) := (a_I (by omega) h_2_6 (by decide) h0 h1).trans (by rw [qq_w (t_2_6 z)])
theorem w2_6 (h0 : 0 ≤ z) (h1 : z < 64) : jm_wI (qM X v w T c s) 346 (i3 z) (i3 y) = some (qM X v (up w 346 z y) T c s) := w_i (by omega) h_2_6 (by decide) t_2_6 h0 h1
theorem n2_6 : jm_len (qM X v w T c s) 346 = some (64) := l_A (by omega) h_2_6 (by decide)
theorem h_3 : pl_sh 78 = .inr (3, [(3, 79), (0, 0), (0, 0)]) := by decide +kernel
theorem o3 : jm_isC (qM X v w T c s) 78 3 = true := o_C (by omega) h_3
theorem r3_0 : jm_gR (qM X v w T c s) 78 3 0 = some (79) := g_R (by omega) h_3 rfl
theorem g3_1 : jm_gI (qM X v w T c s) 78 3 1 = some (i3 (v 78 1)) := (g_I (by omega) h_3 rfl).trans (by rw [qq_v (k := ((1 : Nat) : Int)) (by decide +kernel : pl_scr 78 (1 : Nat) = false)]; rfl)
theorem p3_1 : jm_put (qM X v w T c s) 78 3 1 (.int (i3 z)) = some (qM X (up v 78 1 z) w T c s) := p_I (by omega) h_3 rfl (by decide +kernel : pl_scr 78 (1 : Nat) = false)
theorem g3_2 : jm_gI (qM X v w T c s) 78 3 2 = some (i3 (v 78 2)) := (g_I (by omega) h_3 rfl).trans (by rw [qq_v (k := ((2 : Nat) : Int)) (by decide +kernel : pl_scr 78 (2 : Nat) = false)]; rfl)
theorem p3_2 : jm_put (qM X v w T c s) 78 3 2 (.int (i3 z)) = some (qM X (up v 78 2 z) w T c s) := p_I (by omega) h_3 rfl (by decide +kernel : pl_scr 78 (2 : Nat) = false)
theorem o4 (h : oLnd a) : jm_isC (qM X v w T c s) a 4 = true := o_C (Nat.lt_add_right T (ln_lt (o := 0) h (by decide))) (ln_0 a h)
theorem g4_0 (h : oLnd a) : jm_gI (qM X v w T c s) a 4 0 = some (i3 (v a 0)) := (g_I (Nat.lt_add_right T (ln_lt (o := 0) h (by decide))) (ln_0 a h) rfl).trans (by rw [qq_v (k := ((0 : Nat) : Int)) (ln_sc (o := 0) h (by decide) _)]; rfl)
theorem p4_0 (h : oLnd a) : jm_put (qM X v w T c s) a 4 0 (.int (i3 z)) = some (qM X (up v a 0 z) w T c s) := p_I (Nat.lt_add_right T (ln_lt (o := 0) h (by decide))) (ln_0 a h) rfl (ln_sc (o := 0) h (by decide) _)
theorem g4_1 (h : oLnd a) : jm_gI (qM X v w T c s) a 4 1 = some (i3 (v a 1)) := (g_I (Nat.lt_add_right T (ln_lt (o := 0) h (by decide))) (ln_0 a h) rfl).trans (by rw [qq_v (k := ((1 : Nat) : Int)) (ln_sc (o := 0) h (by decide) _)]; rfl)
theorem p4_1 (h : oLnd a) : jm_put (qM X v w T c s) a 4 1 (.int (i3 z)) = some (qM X (up v a 1 z) w T c s) := p_I (Nat.lt_add_right T (ln_lt (o := 0) h (by decide))) (ln_0 a h) rfl (ln_sc (o := 0) h (by decide) _)
theorem g4_2 (h : oLnd a) : jm_gI (qM X v w T c s) a 4 2 = some (i3 (v a 2)) := (g_I (Nat.lt_add_right T (ln_lt (o := 0) h (by decide))) (ln_0 a h) rfl).trans (by rw [qq_v (k := ((2 : Nat) : Int)) (ln_sc (o := 0) h (by decide) _)]; rfl)
theorem p4_2 (h : oLnd a) : jm_put (qM X v w T c s) a 4 2 (.int (i3 z)) = some (qM X (up v a 2 z) w T c s) := p_I (Nat.lt_add_right T (ln_lt (o := 0) h (by decide))) (ln_0 a h) rfl (ln_sc (o := 0) h (by decide) _)
theorem r4_3 (h : oLnd a) : jm_gR (qM X v w T c s) a 4 3 = some (a + 1) := g_R (Nat.lt_add_right T (ln_lt (o := 0) h (by decide))) (ln_0 a h) rfl
theorem r4_4 (h : oLnd a) : jm_gR (qM X v w T c s) a 4 4 = some (a + 2) := g_R (Nat.lt_add_right T (ln_lt (o := 0) h (by decide))) (ln_0 a h) rfl
theorem r4_5 (h : oLnd a) : jm_gR (qM X v w T c s) a 4 5 = some (a + 6) := g_R (Nat.lt_add_right T (ln_lt (o := 0) h (by decide))) (ln_0 a h) rfl
theorem a4_5 (h : oLnd a) (h0 : 0 ≤ z) (h1 : z < 8) : jm_aL (qM X v w T c s) (a + 6) (i3 z) = some (i6 (v (a + 6) z)) := (a_L (Nat.lt_add_right T (ln_lt (o := 6) h (by decide))) (ln_6 a h) (by decide) h0 h1).trans (by rw [qq_v ((fun j => ln_sc (o := 6) h (by decide) j) z)])
theorem w4_5 (h : oLnd a) (h0 : 0 ≤ z) (h1 : z < 8) : jm_wL (qM X v w T c s) (a + 6) (i3 z) (i6 y) = some (qM X (up v (a + 6) z y) w T c s) := w_L (Nat.lt_add_right T (ln_lt (o := 6) h (by decide))) (ln_6 a h) (by decide) (fun j => ln_sc (o := 6) h (by decide) j) h0 h1
theorem n4_5 (h : oLnd a) : jm_len (qM X v w T c s) (a + 6) = some (8) := l_A (Nat.lt_add_right T (ln_lt (o := 6) h (by decide))) (ln_6 a h) (by decide)
theorem h_5 : pl_sh 339 = .inr (5, [(3, 340), (0, 0), (0, 0), (0, 0), (0, 0), (0, 0), (0, 0), (0, 0), (0, 0), (0, 0)]) := by decide +kernel
theorem o5 : jm_isC (qM X v w T c s) 339 5 = true := o_C (by omega) h_5
theorem r5_0 : jm_gR (qM X v w T c s) 339 5 0 = some (340) := g_R (by omega) h_5 rfl
theorem g5_1 : jm_gI (qM X v w T c s) 339 5 1 = some (i3 (w 339 1)) := (g_I (by omega) h_5 rfl).trans (by rw [qq_w (k := ((1 : Nat) : Int)) (by decide +kernel : pl_scr 339 (1 : Nat) = true)]; rfl)
theorem p5_1 : jm_put (qM X v w T c s) 339 5 1 (.int (i3 z)) = some (qM X v (up w 339 1 z) T c s) := p_i (by omega) h_5 rfl (by decide +kernel : pl_scr 339 (1 : Nat) = true)
theorem g5_2 : jm_gI (qM X v w T c s) 339 5 2 = some (i3 (w 339 2)) := (g_I (by omega) h_5 rfl).trans (by rw [qq_w (k := ((2 : Nat) : Int)) (by decide +kernel : pl_scr 339 (2 : Nat) = true)]; rfl)
theorem p5_2 : jm_put (qM X v w T c s) 339 5 2 (.int (i3 z)) = some (qM X v (up w 339 2 z) T c s) := p_i (by omega) h_5 rfl (by decide +kernel : pl_scr 339 (2 : Nat) = true)
theorem g5_3 : jm_gI (qM X v w T c s) 339 5 3 = some (i3 (w 339 3)) := (g_I (by omega) h_5 rfl).trans (by rw [qq_w (k := ((3 : Nat) : Int)) (by decide +kernel : pl_scr 339 (3 : Nat) = true)]; rfl)
theorem p5_3 : jm_put (qM X v w T c s) 339 5 3 (.int (i3 z)) = some (qM X v (up w 339 3 z) T c s) := p_i (by omega) h_5 rfl (by decide +kernel : pl_scr 339 (3 : Nat) = true)
theorem g5_4 : jm_gI (qM X v w T c s) 339 5 4 = some (i3 (w 339 4)) := (g_I (by omega) h_5 rfl).trans (by rw [qq_w (k := ((4 : Nat) : Int)) (by decide +kernel : pl_scr 339 (4 : Nat) = true)]; rfl)
theorem p5_4 : jm_put (qM X v w T c s) 339 5 4 (.int (i3 z)) = some (qM X v (up w 339 4 z) T c s) := p_i (by omega) h_5 rfl (by decide +kernel : pl_scr 339 (4 : Nat) = true)
theorem g5_5 : jm_gI (qM X v w T c s) 339 5 5 = some (i3 (w 339 5)) := (g_I (by omega) h_5 rfl).trans (by rw [qq_w (k := ((5 : Nat) : Int)) (by decide +kernel : pl_scr 339 (5 : Nat) = true)]; rfl)
theorem p5_5 : jm_put (qM X v w T c s) 339 5 5 (.int (i3 z)) = some (qM X v (up w 339 5 z) T c s) := p_i (by omega) h_5 rfl (by decide +kernel : pl_scr 339 (5 : Nat) = true)
theorem g5_6 : jm_gI (qM X v w T c s) 339 5 6 = some (i3 (w 339 6)) := (g_I (by omega) h_5 rfl).trans (by rw [qq_w (k := ((6 : Nat) : Int)) (by decide +kernel : pl_scr 339 (6 : Nat) = true)]; rfl)
theorem p5_6 : jm_put (qM X v w T c s) 339 5 6 (.int (i3 z)) = some (qM X v (up w 339 6 z) T c s) := p_i (by omega) h_5 rfl (by decide +kernel : pl_scr 339 (6 : Nat) = true)
theorem g5_7 : jm_gI (qM X v w T c s) 339 5 7 = some (i3 (w 339 7)) := (g_I (by omega) h_5 rfl).trans (by rw [qq_w (k := ((7 : Nat) : Int)) (by decide +kernel : pl_scr 339 (7 : Nat) = true)]; rfl)
theorem p5_7 : jm_put (qM X v w T c s) 339 5 7 (.int (i3 z)) = some (qM X v (up w 339 7 z) T c s) := p_i (by omega) h_5 rfl (by decide +kernel : pl_scr 339 (7 : Nat) = true)
theorem g5_8 : jm_gI (qM X v w T c s) 339 5 8 = some (i3 (w 339 8)) := (g_I (by omega) h_5 rfl).trans (by rw [qq_w (k := ((8 : Nat) : Int)) (by decide +kernel : pl_scr 339 (8 : Nat) = true)]; rfl)
theorem p5_8 : jm_put (qM X v w T c s) 339 5 8 (.int (i3 z)) = some (qM X v (up w 339 8 z) T c s) := p_i (by omega) h_5 rfl (by decide +kernel : pl_scr 339 (8 : Nat) = true)
theorem g5_9 : jm_gI (qM X v w T c s) 339 5 9 = some (i3 (w 339 9)) := (g_I (by omega) h_5 rfl).trans (by rw [qq_w (k := ((9 : Nat) : Int)) (by decide +kernel : pl_scr 339 (9 : Nat) = true)]; rfl)
theorem p5_9 : jm_put (qM X v w T c s) 339 5 9 (.int (i3 z)) = some (qM X v (up w 339 9 z) T c s) := p_i (by omega) h_5 rfl (by decide +kernel : pl_scr 339 (9 : Nat) = true)
theorem o6 (h : oPri a) : jm_isC (qM X v w T c s) a 6 = true := o_C (Nat.lt_add_right T (pr_lt (o := 0) h (by decide))) (pr_sh h).1
theorem r6_0 (h : oPri a) : jm_gR (qM X v w T c s) a 6 0 = some (a + 1) := g_R (Nat.lt_add_right T (pr_lt (o := 0) h (by decide))) (pr_sh h).1 rfl
theorem r6_1 (h : oPri a) : jm_gR (qM X v w T c s) a 6 1 = some (a + 2) := g_R (Nat.lt_add_right T (pr_lt (o := 0) h (by decide))) (pr_sh h).1 rfl
theorem r6_2 (h : oPri a) : jm_gR (qM X v w T c s) a 6 2 = some (a + 3) := g_R (Nat.lt_add_right T (pr_lt (o := 0) h (by decide))) (pr_sh h).1 rfl
theorem g6_3 (h : oPri a) : jm_gI (qM X v w T c s) a 6 3 = some (i3 (v a 3)) := (g_I (Nat.lt_add_right T (pr_lt (o := 0) h (by decide))) (pr_sh h).1 rfl).trans (by rw [qq_v (k := ((3 : Nat) : Int)) (pr_sc (o := 0) h (by decide) _)]; rfl)
theorem p6_3 (h : oPri a) : jm_put (qM X v w T c s) a 6 3 (.int (i3 z)) = some (qM X (up v a 3 z) w T c s) := p_I (Nat.lt_add_right T (pr_lt (o := 0) h (by decide))) (pr_sh h).1 rfl (pr_sc (o := 0) h (by decide) _)
theorem a6_0 (h : oPri a) (h0 : 0 ≤ z) (h1 : z < 30) : jm_aI (qM X v w T c s) (a + 1) (i3 z) = some (i3 (v (a + 1) z)) := (a_I (Nat.lt_add_right T (pr_lt (o := 1) h (by decide))) (pr_sh h).2.1 (by decide) h0 h1).trans (by rw [qq_v ((fun j => pr_sc (o := 1) h (by decide) j) z)])
theorem w6_0 (h : oPri a) (h0 : 0 ≤ z) (h1 : z < 30) : jm_wI (qM X v w T c s) (a + 1) (i3 z) (i3 y) = some (qM X (up v (a + 1) z y) w T c s) := w_I (Nat.lt_add_right T (pr_lt (o := 1) h (by decide))) (pr_sh h).2.1 (by decide) (fun j => pr_sc (o := 1) h (by decide) j) h0 h1
theorem n6_0 (h : oPri a) : jm_len (qM X v w T c s) (a + 1) = some (30) := l_A (Nat.lt_add_right T (pr_lt (o := 1) h (by decide))) (pr_sh h).2.1 (by decide)
theorem a6_1 (h : oPri a) (h0 : 0 ≤ z) (h1 : z < 30) : jm_aI (qM X v w T c s) (a + 2) (i3 z) = some (i3 (v (a + 2) z)) := (a_I (Nat.lt_add_right T (pr_lt (o := 2) h (by decide))) (pr_sh h).2.2.1 (by decide) h0 h1).trans (by rw [qq_v ((fun j => pr_sc (o := 2) h (by decide) j) z)])
theorem w6_1 (h : oPri a) (h0 : 0 ≤ z) (h1 : z < 30) : jm_wI (qM X v w T c s) (a + 2) (i3 z) (i3 y) = some (qM X (up v (a + 2) z y) w T c s) := w_I (Nat.lt_add_right T (pr_lt (o := 2) h (by decide))) (pr_sh h).2.2.1 (by decide) (fun j => pr_sc (o := 2) h (by decide) j) h0 h1
theorem n6_1 (h : oPri a) : jm_len (qM X v w T c s) (a + 2) = some (30) := l_A (Nat.lt_add_right T (pr_lt (o := 2) h (by decide))) (pr_sh h).2.2.1 (by decide)
theorem a6_2 (h : oPri a) (h0 : 0 ≤ z) (h1 : z < 30) : jm_aI (qM X v w T c s) (a + 3) (i3 z) = some (i3 (v (a + 3) z)) := (a_I (Nat.lt_add_right T (pr_lt (o := 3) h (by decide))) (pr_sh h).2.2.2 (by decide) h0 h1).trans (by rw [qq_v ((fun j => pr_sc (o := 3) h (by decide) j) z)])
theorem w6_2 (h : oPri a) (h0 : 0 ≤ z) (h1 : z < 30) : jm_wI (qM X v w T c s) (a + 3) (i3 z) (i3 y) = some (qM X (up v (a + 3) z y) w T c s) := w_I (Nat.lt_add_right T (pr_lt (o := 3) h (by decide))) (pr_sh h).2.2.2 (by decide) (fun j => pr_sc (o := 3) h (by decide) j) h0 h1
theorem n6_2 (h : oPri a) : jm_len (qM X v w T c s) (a + 3) = some (30) := l_A (Nat.lt_add_right T (pr_lt (o := 3) h (by decide))) (pr_sh h).2.2.2 (by decide)
theorem h_7 : pl_sh 5 = .inr (7, [(3, 1), (0, 0), (0, 0), (0, 0), (0, 0), (0, 0), (0, 0)]) := by decide +kernel
theorem o7 : jm_isC (qM X v w T c s) 5 7 = true := o_C (by omega) h_7
theorem r7_0 : jm_gR (qM X v w T c s) 5 7 0 = some (1) := g_R (by omega) h_7 rfl
theorem g7_1 : jm_gI (qM X v w T c s) 5 7 1 = some (i3 (w 5 1)) := (g_I (by omega) h_7 rfl).trans (by rw [qq_w (k := ((1 : Nat) : Int)) (by decide +kernel : pl_scr 5 (1 : Nat) = true)]; rfl)
theorem p7_1 : jm_put (qM X v w T c s) 5 7 1 (.int (i3 z)) = some (qM X v (up w 5 1 z) T c s) := p_i (by omega) h_7 rfl (by decide +kernel : pl_scr 5 (1 : Nat) = true)
theorem g7_2 : jm_gI (qM X v w T c s) 5 7 2 = some (i3 (w 5 2)) := (g_I (by omega) h_7 rfl).trans (by rw [qq_w (k := ((2 : Nat) : Int)) (by decide +kernel : pl_scr 5 (2 : Nat) = true)]; rfl)
theorem p7_2 : jm_put (qM X v w T c s) 5 7 2 (.int (i3 z)) = some (qM X v (up w 5 2 z) T c s) := p_i (by omega) h_7 rfl (by decide +kernel : pl_scr 5 (2 : Nat) = true)
theorem g7_3 : jm_gI (qM X v w T c s) 5 7 3 = some (i3 (w 5 3)) := (g_I (by omega) h_7 rfl).trans (by rw [qq_w (k := ((3 : Nat) : Int)) (by decide +kernel : pl_scr 5 (3 : Nat) = true)]; rfl)
theorem p7_3 : jm_put (qM X v w T c s) 5 7 3 (.int (i3 z)) = some (qM X v (up w 5 3 z) T c s) := p_i (by omega) h_7 rfl (by decide +kernel : pl_scr 5 (3 : Nat) = true)
theorem g7_4 : jm_gI (qM X v w T c s) 5 7 4 = some (i3 (w 5 4)) := (g_I (by omega) h_7 rfl).trans (by rw [qq_w (k := ((4 : Nat) : Int)) (by decide +kernel : pl_scr 5 (4 : Nat) = true)]; rfl)
theorem p7_4 : jm_put (qM X v w T c s) 5 7 4 (.int (i3 z)) = some (qM X v (up w 5 4 z) T c s) := p_i (by omega) h_7 rfl (by decide +kernel : pl_scr 5 (4 : Nat) = true)
theorem g7_5 : jm_gI (qM X v w T c s) 5 7 5 = some (i3 (v 5 5)) := (g_I (by omega) h_7 rfl).trans (by rw [qq_v (k := ((5 : Nat) : Int)) (by decide +kernel : pl_scr 5 (5 : Nat) = false)]; rfl)
theorem p7_5 : jm_put (qM X v w T c s) 5 7 5 (.int (i3 z)) = some (qM X (up v 5 5 z) w T c s) := p_I (by omega) h_7 rfl (by decide +kernel : pl_scr 5 (5 : Nat) = false)
theorem g7_6 : jm_gI (qM X v w T c s) 5 7 6 = some (i3 (v 5 6)) := (g_I (by omega) h_7 rfl).trans (by rw [qq_v (k := ((6 : Nat) : Int)) (by decide +kernel : pl_scr 5 (6 : Nat) = false)]; rfl)
theorem p7_6 : jm_put (qM X v w T c s) 5 7 6 (.int (i3 z)) = some (qM X (up v 5 6 z) w T c s) := p_I (by omega) h_7 rfl (by decide +kernel : pl_scr 5 (6 : Nat) = false)
theorem h_8 : pl_sh 8 = .inr (8, [(3, 9), (3, 10), (3, 11), (3, 12), (3, 13), (0, 0)]) := by decide +kernel
theorem o8 : jm_isC (qM X v w T c s) 8 8 = true := o_C (by omega) h_8
theorem r8_0 : jm_gR (qM X v w T c s) 8 8 0 = some (9) := g_R (by omega) h_8 rfl
theorem r8_1 : jm_gR (qM X v w T c s) 8 8 1 = some (10) := g_R (by omega) h_8 rfl
theorem r8_2 : jm_gR (qM X v w T c s) 8 8 2 = some (11) := g_R (by omega) h_8 rfl
theorem r8_3 : jm_gR (qM X v w T c s) 8 8 3 = some (12) := g_R (by omega) h_8 rfl
theorem r8_4 : jm_gR (qM X v w T c s) 8 8 4 = some (13) := g_R (by omega) h_8 rfl
theorem g8_5 : jm_gI (qM X v w T c s) 8 8 5 = some (i3 (w 8 5)) := (g_I (by omega) h_8 rfl).trans (by rw [qq_w (k := ((5 : Nat) : Int)) (by decide +kernel : pl_scr 8 (5 : Nat) = true)]; rfl)
theorem p8_5 : jm_put (qM X v w T c s) 8 8 5 (.int (i3 z)) = some (qM X v (up w 8 5 z) T c s) := p_i (by omega) h_8 rfl (by decide +kernel : pl_scr 8 (5 : Nat) = true)
theorem h_8_0 : pl_sh 9 = .inl (0, 30, []) := by decide +kernel
theorem t_8_0 : ∀ j, pl_scr 9 j = true := fun j => (sc_n (by decide) (by decide) (by decide)).trans (by decide +kernel)
theorem a8_0 (h0 : 0 ≤ z) (h1 : z < 30) : jm_aI (qM X v w T c s) 9 (i3 z) = some (i3 (w 9 z)) := (a_I (by omega) h_8_0 (by decide) h0 h1).trans (by rw [qq_w (t_8_0 z)])
theorem w8_0 (h0 : 0 ≤ z) (h1 : z < 30) : jm_wI (qM X v w T c s) 9 (i3 z) (i3 y) = some (qM X v (up w 9 z y) T c s) := w_i (by omega) h_8_0 (by decide) t_8_0 h0 h1
theorem n8_0 : jm_len (qM X v w T c s) 9 = some (30) := l_A (by omega) h_8_0 (by decide)
theorem h_8_1 : pl_sh 10 = .inl (0, 30, []) := by decide +kernel
theorem t_8_1 : ∀ j, pl_scr 10 j = true := fun j => (sc_n (by decide) (by decide) (by decide)).trans (by decide +kernel)
theorem a8_1 (h0 : 0 ≤ z) (h1 : z < 30) : jm_aI (qM X v w T c s) 10 (i3 z) = some (i3 (w 10 z)) := (a_I (by omega) h_8_1 (by decide) h0 h1).trans (by rw [qq_w (t_8_1 z)])
theorem w8_1 (h0 : 0 ≤ z) (h1 : z < 30) : jm_wI (qM X v w T c s) 10 (i3 z) (i3 y) = some (qM X v (up w 10 z y) T c s) := w_i (by omega) h_8_1 (by decide) t_8_1 h0 h1
theorem n8_1 : jm_len (qM X v w T c s) 10 = some (30) := l_A (by omega) h_8_1 (by decide)
theorem h_8_2 : pl_sh 11 = .inl (0, 30, []) := by decide +kernel
theorem t_8_2 : ∀ j, pl_scr 11 j = true := fun j => (sc_n (by decide) (by decide) (by decide)).trans (by decide +kernel)
theorem a8_2 (h0 : 0 ≤ z) (h1 : z < 30) : jm_aI (qM X v w T c s) 11 (i3 z) = some (i3 (w 11 z)) := (a_I (by omega) h_8_2 (by decide) h0 h1).trans (by rw [qq_w (t_8_2 z)])
theorem w8_2 (h0 : 0 ≤ z) (h1 : z < 30) : jm_wI (qM X v w T c s) 11 (i3 z) (i3 y) = some (qM X v (up w 11 z y) T c s) := w_i (by omega) h_8_2 (by decide) t_8_2 h0 h1
theorem n8_2 : jm_len (qM X v w T c s) 11 = some (30) := l_A (by omega) h_8_2 (by decide)
theorem h_8_3 : pl_sh 12 = .inl (0, 30, []) := by decide +kernel
theorem t_8_3 : ∀ j, pl_scr 12 j = true := fun j => (sc_n (by decide) (by decide) (by decide)).trans (by decide +kernel)
theorem a8_3 (h0 : 0 ≤ z) (h1 : z < 30) : jm_aI (qM X v w T c s) 12 (i3 z) = some (i3 (w 12 z)) := (a_I (by omega) h_8_3 (by decide) h0 h1).trans (by rw [qq_w (t_8_3 z)])
theorem w8_3 (h0 : 0 ≤ z) (h1 : z < 30) : jm_wI (qM X v w T c s) 12 (i3 z) (i3 y) = some (qM X v (up w 12 z y) T c s) := w_i (by omega) h_8_3 (by decide) t_8_3 h0 h1
theorem n8_3 : jm_len (qM X v w T c s) 12 = some (30) := l_A (by omega) h_8_3 (by decide)
theorem h_8_4 : pl_sh 13 = .inl (0, 30, []) := by decide +kernel
theorem t_8_4 : ∀ j, pl_scr 13 j = true := fun j => (sc_n (by decide) (by decide) (by decide)).trans (by decide +kernel)
theorem a8_4 (h0 : 0 ≤ z) (h1 : z < 30) : jm_aI (qM X v w T c s) 13 (i3 z) = some (i3 (w 13 z)) := (a_I (by omega) h_8_4 (by decide) h0 h1).trans (by rw [qq_w (t_8_4 z)])
theorem w8_4 (h0 : 0 ≤ z) (h1 : z < 30) : jm_wI (qM X v w T c s) 13 (i3 z) (i3 y) = some (qM X v (up w 13 z y) T c s) := w_i (by omega) h_8_4 (by decide) t_8_4 h0 h1
theorem n8_4 : jm_len (qM X v w T c s) 13 = some (30) := l_A (by omega) h_8_4 (by decide)
theorem o9 (h : oSer a) : jm_isC (qM X v w T c s) a 9 = true := o_C (Nat.lt_add_right T (sr_lt (o := 0) h (by decide))) (sr_sh h).1
theorem r9_0 (h : oSer a) : jm_gR (qM X v w T c s) a 9 0 = some (a + 1) := g_R (Nat.lt_add_right T (sr_lt (o := 0) h (by decide))) (sr_sh h).1 rfl
theorem g9_1 (h : oSer a) : jm_gI (qM X v w T c s) a 9 1 = some (i3 (v a 1)) := (g_I (Nat.lt_add_right T (sr_lt (o := 0) h (by decide))) (sr_sh h).1 rfl).trans (by rw [qq_v (k := ((1 : Nat) : Int)) (sr_sc (o := 0) h (by decide) _)]; rfl)
theorem p9_1 (h : oSer a) : jm_put (qM X v w T c s) a 9 1 (.int (i3 z)) = some (qM X (up v a 1 z) w T c s) := p_I (Nat.lt_add_right T (sr_lt (o := 0) h (by decide))) (sr_sh h).1 rfl (sr_sc (o := 0) h (by decide) _)
theorem r9_2 (h : oSer a) : jm_gR (qM X v w T c s) a 9 2 = some (a + 2) := g_R (Nat.lt_add_right T (sr_lt (o := 0) h (by decide))) (sr_sh h).1 rfl
theorem r9_3 (h : oSer a) : jm_gR (qM X v w T c s) a 9 3 = some (a + 3) := g_R (Nat.lt_add_right T (sr_lt (o := 0) h (by decide))) (sr_sh h).1 rfl
theorem r9_4 (h : oSer a) : jm_gR (qM X v w T c s) a 9 4 = some (a + 4) := g_R (Nat.lt_add_right T (sr_lt (o := 0) h (by decide))) (sr_sh h).1 rfl
theorem a9_0 (h : oSer a) (h0 : 0 ≤ z) (h1 : z < 6) : jm_aI (qM X v w T c s) (a + 1) (i3 z) = some (i3 (v (a + 1) z)) := (a_I (Nat.lt_add_right T (sr_lt (o := 1) h (by decide))) (sr_sh h).2.1 (by decide) h0 h1).trans (by rw [qq_v ((fun j => sr_sc (o := 1) h (by decide) j) z)])
theorem w9_0 (h : oSer a) (h0 : 0 ≤ z) (h1 : z < 6) : jm_wI (qM X v w T c s) (a + 1) (i3 z) (i3 y) = some (qM X (up v (a + 1) z y) w T c s) := w_I (Nat.lt_add_right T (sr_lt (o := 1) h (by decide))) (sr_sh h).2.1 (by decide) (fun j => sr_sc (o := 1) h (by decide) j) h0 h1
theorem n9_0 (h : oSer a) : jm_len (qM X v w T c s) (a + 1) = some (6) := l_A (Nat.lt_add_right T (sr_lt (o := 1) h (by decide))) (sr_sh h).2.1 (by decide)
theorem a9_2 (h : oSer a) (h0 : 0 ≤ z) (h1 : z < 10) : jm_aI (qM X v w T c s) (a + 2) (i3 z) = some (i3 (v (a + 2) z)) := (a_I (Nat.lt_add_right T (sr_lt (o := 2) h (by decide))) (sr_sh h).2.2.1 (by decide) h0 h1).trans (by rw [qq_v ((fun j => sr_sc (o := 2) h (by decide) j) z)])
theorem w9_2 (h : oSer a) (h0 : 0 ≤ z) (h1 : z < 10) : jm_wI (qM X v w T c s) (a + 2) (i3 z) (i3 y) = some (qM X (up v (a + 2) z y) w T c s) := w_I (Nat.lt_add_right T (sr_lt (o := 2) h (by decide))) (sr_sh h).2.2.1 (by decide) (fun j => sr_sc (o := 2) h (by decide) j) h0 h1
theorem n9_2 (h : oSer a) : jm_len (qM X v w T c s) (a + 2) = some (10) := l_A (Nat.lt_add_right T (sr_lt (o := 2) h (by decide))) (sr_sh h).2.2.1 (by decide)
theorem a9_3 (h : oSer a) (h0 : 0 ≤ z) (h1 : z < 10) : jm_aI (qM X v w T c s) (a + 3) (i3 z) = some (i3 (v (a + 3) z)) := (a_I (Nat.lt_add_right T (sr_lt (o := 3) h (by decide))) (sr_sh h).2.2.2.1 (by decide) h0 h1).trans (by rw [qq_v ((fun j => sr_sc (o := 3) h (by decide) j) z)])
theorem w9_3 (h : oSer a) (h0 : 0 ≤ z) (h1 : z < 10) : jm_wI (qM X v w T c s) (a + 3) (i3 z) (i3 y) = some (qM X (up v (a + 3) z y) w T c s) := w_I (Nat.lt_add_right T (sr_lt (o := 3) h (by decide))) (sr_sh h).2.2.2.1 (by decide) (fun j => sr_sc (o := 3) h (by decide) j) h0 h1
theorem n9_3 (h : oSer a) : jm_len (qM X v w T c s) (a + 3) = some (10) := l_A (Nat.lt_add_right T (sr_lt (o := 3) h (by decide))) (sr_sh h).2.2.2.1 (by decide)
theorem a9_4 (h : oSer a) (h0 : 0 ≤ z) (h1 : z < 10) : jm_aI (qM X v w T c s) (a + 4) (i3 z) = some (i3 (v (a + 4) z)) := (a_I (Nat.lt_add_right T (sr_lt (o := 4) h (by decide))) (sr_sh h).2.2.2.2 (by decide) h0 h1).trans (by rw [qq_v ((fun j => sr_sc (o := 4) h (by decide) j) z)])
theorem w9_4 (h : oSer a) (h0 : 0 ≤ z) (h1 : z < 10) : jm_wI (qM X v w T c s) (a + 4) (i3 z) (i3 y) = some (qM X (up v (a + 4) z y) w T c s) := w_I (Nat.lt_add_right T (sr_lt (o := 4) h (by decide))) (sr_sh h).2.2.2.2 (by decide) (fun j => sr_sc (o := 4) h (by decide) j) h0 h1
theorem n9_4 (h : oSer a) : jm_len (qM X v w T c s) (a + 4) = some (10) := l_A (Nat.lt_add_right T (sr_lt (o := 4) h (by decide))) (sr_sh h).2.2.2.2 (by decide)
theorem h_10 : pl_sh 6 = .inr (10, [(3, 5), (3, 7)]) := by decide +kernel
theorem o10 : jm_isC (qM X v w T c s) 6 10 = true := o_C (by omega) h_10
theorem r10_0 : jm_gR (qM X v w T c s) 6 10 0 = some (5) := g_R (by omega) h_10 rfl
theorem r10_1 : jm_gR (qM X v w T c s) 6 10 1 = some (7) := g_R (by omega) h_10 rfl
theorem h_10_1 : pl_sh 7 = .inl (1, 10, []) := by decide +kernel
theorem t_10_1 : ∀ j, pl_scr 7 j = true := fun j => (sc_n (by decide) (by decide) (by decide)).trans (by decide +kernel)
theorem a10_1 (h0 : 0 ≤ z) (h1 : z < 10) : jm_aY (qM X v w T c s) 7 (i3 z) = some (i3 (w 7 z)) := or_l ((a_Z (by omega) h_10_1 (by decide) h0 h1).trans (by rw [qq_w (t_10_1 z)]))
theorem w10_1 (h0 : 0 ≤ z) (h1 : z < 10) (hy : y = 0 ∨ y = 1) : jm_wY (qM X v w T c s) 7 (i3 z) (i3 y) = some (qM X v (up w 7 z y) T c s) := or_l (w_z (by omega) h_10_1 (by decide) t_10_1 h0 h1 hy)
theorem n10_1 : jm_len (qM X v w T c s) 7 = some (10) := l_A (by omega) h_10_1 (by decide)
theorem h_11 : pl_sh 0 = .inr (11, [(3, 1), (3, 3), (3, 5), (3, 6), (3, 8), (3, 14), (3, 46), (3, 78), (3, 336), (3, 337), (3, 338), (3, 339), (3, 342), (0, 0)]) := by decide +kernel
theorem o11 : jm_isC (qM X v w T c s) 0 11 = true := o_C (by omega) h_11
theorem r11_0 : jm_gR (qM X v w T c s) 0 11 0 = some (1) := g_R (by omega) h_11 rfl
theorem r11_1 : jm_gR (qM X v w T c s) 0 11 1 = some (3) := g_R (by omega) h_11 rfl
theorem r11_2 : jm_gR (qM X v w T c s) 0 11 2 = some (5) := g_R (by omega) h_11 rfl
theorem r11_3 : jm_gR (qM X v w T c s) 0 11 3 = some (6) := g_R (by omega) h_11 rfl
theorem r11_4 : jm_gR (qM X v w T c s) 0 11 4 = some (8) := g_R (by omega) h_11 rfl
theorem r11_5 : jm_gR (qM X v w T c s) 0 11 5 = some (14) := g_R (by omega) h_11 rfl
theorem r11_6 : jm_gR (qM X v w T c s) 0 11 6 = some (46) := g_R (by omega) h_11 rfl
theorem r11_7 : jm_gR (qM X v w T c s) 0 11 7 = some (78) := g_R (by omega) h_11 rfl
theorem r11_8 : jm_gR (qM X v w T c s) 0 11 8 = some (336) := g_R (by omega) h_11 rfl
theorem r11_9 : jm_gR (qM X v w T c s) 0 11 9 = some (337) := g_R (by omega) h_11 rfl
theorem r11_10 : jm_gR (qM X v w T c s) 0 11 10 = some (338) := g_R (by omega) h_11 rfl
theorem r11_11 : jm_gR (qM X v w T c s) 0 11 11 = some (339) := g_R (by omega) h_11 rfl
theorem r11_12 : jm_gR (qM X v w T c s) 0 11 12 = some (342) := g_R (by omega) h_11 rfl
theorem g11_13 : jm_gI (qM X v w T c s) 0 11 13 = some (i3 (w 0 13)) := (g_I (by omega) h_11 rfl).trans (by rw [qq_w (k := ((13 : Nat) : Int)) (by decide +kernel : pl_scr 0 (13 : Nat) = true)]; rfl)
theorem p11_13 : jm_put (qM X v w T c s) 0 11 13 (.int (i3 z)) = some (qM X v (up w 0 13 z) T c s) := p_i (by omega) h_11 rfl (by decide +kernel : pl_scr 0 (13 : Nat) = true)
theorem h_11_9 : pl_sh 337 = .inl (1, 2, []) := by decide +kernel
theorem t_11_9 : ∀ j, pl_scr 337 j = false := fun j => (sc_n (by decide) (by decide) (by decide)).trans (by decide +kernel)
theorem a11_9 (h0 : 0 ≤ z) (h1 : z < 2) : jm_aY (qM X v w T c s) 337 (i3 z) = some (i3 (v 337 z)) := or_l ((a_Z (by omega) h_11_9 (by decide) h0 h1).trans (by rw [qq_v (t_11_9 z)]))
theorem w11_9 (h0 : 0 ≤ z) (h1 : z < 2) (hy : y = 0 ∨ y = 1) : jm_wY (qM X v w T c s) 337 (i3 z) (i3 y) = some (qM X (up v 337 z y) w T c s) := or_l (w_Z (by omega) h_11_9 (by decide) t_11_9 h0 h1 hy)
theorem n11_9 : jm_len (qM X v w T c s) 337 = some (2) := l_A (by omega) h_11_9 (by decide)
theorem h_11_10 : pl_sh 338 = .inl (0, 6, []) := by decide +kernel
theorem t_11_10 : ∀ j, pl_scr 338 j = false := fun j => (sc_n (by decide) (by decide) (by decide)).trans (by decide +kernel)
theorem a11_10 (h0 : 0 ≤ z) (h1 : z < 6) : jm_aI (qM X v w T c s) 338 (i3 z) = some (i3 (v 338 z)) := (a_I (by omega) h_11_10 (by decide) h0 h1).trans (by rw [qq_v (t_11_10 z)])
theorem w11_10 (h0 : 0 ≤ z) (h1 : z < 6) : jm_wI (qM X v w T c s) 338 (i3 z) (i3 y) = some (qM X (up v 338 z y) w T c s) := w_I (by omega) h_11_10 (by decide) t_11_10 h0 h1
theorem n11_10 : jm_len (qM X v w T c s) 338 = some (6) := l_A (by omega) h_11_10 (by decide)
theorem q4_3 (h : oLnd a) (h0 : 0 ≤ z) (h1 : z < 5) : jm_aQ (qM X v w T c s) (a + 1) (i3 z) = some (a + 7 + 5 * z.toNat) := by
  refine or_l ?_
  refine a_R (Nat.lt_add_right T (ln_lt (o := 1) h (by decide))) (ln_1 a h) (by decide) (by decide) h0 h1 ?_
  have e : z.toNat < 5 := by omega
  generalize z.toNat = k at e
  match k, e with
  | 0, _ => rfl
  | 1, _ => rfl
  | 2, _ => rfl
  | 3, _ => rfl
  | 4, _ => rfl
  | _ + 5, h => omega
theorem q3_0 (h0 : 0 ≤ z) (h1 : z < 8) : jm_aQ (qM X v w T c s) 79 (i3 z) = some (80 + 32 * z.toNat) := by
  refine or_l ?_
  refine a_R (by omega) (by decide +kernel : pl_sh 79 = .inl (5, 8, pl_hls)) (by decide) (by decide) h0 h1 ?_
  have e : z.toNat < 8 := by omega
  have : ∀ k, k < 8 → pl_hls[k]? = some (80 + 32 * k) := by decide
  exact this _ e
theorem q11_8 (h0 : 0 ≤ z) (h1 : z < 2) : jm_aQ (qM X v w T c s) 336 (i3 z) = some (347 + 32 * z.toNat) := by
  refine or_l ?_
  refine a_R (by omega) (by decide +kernel : pl_sh 336 = .inl (5, 2, pl_sls)) (by decide) (by decide) h0 h1 ?_
  have e : z.toNat < 2 := by omega
  have : ∀ k, k < 2 → pl_sls[k]? = some (347 + 32 * k) := by decide
  exact this _ e
end OPZ
