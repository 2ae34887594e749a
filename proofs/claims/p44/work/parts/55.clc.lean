-- uses 24.zar 25.obj 26.ops 27.ra 29.rc 34.gen 35.byt 36.ser 37.lnd 38.mod 39.mo2 40.mo3 41.bit 42.mo4 43.mo5 44.mo6 53.cla 54.clb
/-! The class: cuts, plans. -/
theorem lr1 {α π β : Type} (P : Nat → α → π → Prop) (A : Nat → α → π → β) (g : α → Nat → α) (m : Nat)
    (h : ∀ k a p, k < m → P k a p → ∃ q, A k a p = A (k + 1) (g a k) q ∧ P (k + 1) (g a k) q) (a0 : α) (p0 : π) (h0 : P 0 a0 p0) :
    ∃ q, A 0 a0 p0 = A m (fo g a0 m) q ∧ P m (fo g a0 m) q := by
  induction m with
  | zero => exact ⟨p0, rfl, h0⟩
  | succ m ih =>
    obtain ⟨q, e, hq⟩ := ih (fun k a p hk => h k a p (by omega))
    obtain ⟨r, e2, hr⟩ := h m _ q (by omega) hq
    exact ⟨r, e.trans e2, hr⟩
/-- an object's cells told anew -/
def ov (w : Nat → Int → Int) (a : Nat) (g : Int → Int) : Nat → Int → Int := fun n k => if n = a then g k else w n k
def st1 (g : Int → Int) (k z : Int) : Int → Int := fun j => if j = k then z else g j
section OVS
variable {w : Nat → Int → Int} {a n : Nat} {g h : Int → Int} {k j z y : Int}
theorem ov_in : ov w a g a k = g k := if_pos rfl
theorem ov_b (hn : n ≠ a) : ov w a g n = w n := by funext k; exact if_neg hn
theorem ov_ne (hn : n ≠ a) : ov w a g n k = w n k := if_neg hn
theorem ov_id : ov w a (w a) = w := by
  funext n k
  unfold ov
  split
  · next h => rw [h]
  · rfl
theorem ov_up : up (ov w a g) a k z = ov w a (st1 g k z) := by
  funext n j
  unfold up ov st1
  by_cases e : n = a
  · by_cases q : j = k
    · rw [if_pos ⟨e, q⟩, if_pos e, if_pos q]
    · rw [if_neg (fun h => q h.2), if_pos e, if_pos e, if_neg q]
  · rw [if_neg (fun h => e h.1), if_neg e, if_neg e]
theorem up_ov (hn : n ≠ a) : up (ov w a g) n k z = ov (up w n k z) a g := by
  funext m j
  unfold up ov
  by_cases e : m = a
  · rw [if_neg (by omega), if_pos e, if_pos e]
  · rw [if_neg e, if_neg e]
theorem st1_eq : st1 g k z k = z := if_pos rfl
theorem st1_ne (h : j ≠ k) : st1 g k z j = g j := if_neg h
theorem w_ov : w = ov w a (w a) := ov_id.symm
end OVS
/-- the strips of the cuts, as the class adds them up -/
def ssF (μ : Nat → Int → Int) (i q : Int) (n : Nat) : Nat → Int
  | 0 => 0
  | j + 1 => ssF μ i q n j + stB μ i ((n : Int) - 1 - j) * nd (kM μ i) q n (j + 1)
theorem fo_rev (f : Int → Int) : ∀ n : Nat, fo (fun (a : Int) (j : Nat) => a + f ((n : Int) - 1 - j)) 0 n = fo (fun (a : Int) (k : Nat) => a + f k) 0 n := by
  have h1 : ∀ (g : Int → Int) (n : Nat), fo (fun (a : Int) (j : Nat) => a + g j) 0 (n + 1) = g 0 + fo (fun (a : Int) (j : Nat) => a + g ((j : Int) + 1)) 0 n := by
    intro g n
    induction n with
    | zero => show 0 + g ((0 : Nat) : Int) = g 0 + 0; rw [Int.zero_add, Int.add_zero]; rfl
    | succ n ih =>
      show fo (fun (a : Int) (j : Nat) => a + g j) 0 (n + 1) + g ((n + 1 : Nat) : Int) = g 0 + (fo (fun (a : Int) (j : Nat) => a + g ((j : Int) + 1)) 0 n + g ((n : Int) + 1))
      rw [ih, Int.add_assoc]
      rfl
  intro n
  induction n with
  | zero => rfl
  | succ n ih =>
    have e := h1 (fun z => f (((n + 1 : Nat) : Int) - 1 - z)) n
    rw [e]
    have e2 : fo (fun (a : Int) (j : Nat) => a + f (((n + 1 : Nat) : Int) - 1 - ((j : Int) + 1))) 0 n = fo (fun (a : Int) (j : Nat) => a + f ((n : Int) - 1 - j)) 0 n := fo_congr n (fun k x _ => by rw [show ((n + 1 : Nat) : Int) - 1 - ((k : Int) + 1) = (n : Int) - 1 - k by omega])
    rw [e2, ih]
    show f (((n + 1 : Nat) : Int) - 1 - 0) + _ = _ + f (n : Int)
    rw [show ((n + 1 : Nat) : Int) - 1 - 0 = n by omega, Int.add_comm]
section CLC
variable {d : Nat} {X : Nat × (Nat → Int32)} {v w : Nat → Int → Int} {T c s : Nat}
variable {b : Nat} {μ : Nat → Int → Int}
theorem ssF_eq (hz : zM μ) {i q : Int} {n : Nat} (hi0 : 0 ≤ i) (hi1 : i < μ 412 0) (hn : n < 10) (hq : aM μ i n ≠ 0 ∨ q = 0) (hK : ∀ k : Int, 0 ≤ k → k ≤ n → 0 ≤ kM μ i k) : ssF μ i q n n = fo (strM μ i (cuF (kM μ i) q n)) 0 10 := by
  have hv : aM μ i n ≠ 0 → ∀ m : Nat, m ≤ n → aM μ i ((n - m : Nat) : Int) ≠ 0 := by
    intro h m
    induction m with
    | zero => intro _; exact h
    | succ m ih =>
      intro hm q
      apply ih (by omega)
      have := aM_n hz hi0 hi1 (n := ((n - (m + 1) : Nat) : Int)) (by omega) q
      rw [show ((n - (m + 1) : Nat) : Int) + 1 = ((n - m : Nat) : Int) by omega] at this
      exact this
  let f : Int → Int := fun k => if cuF (kM μ i) q n k = 0 then 0 else cuF (kM μ i) q n k * (aM μ i k - 2 * aM μ i (k + 1))
  have e1 : ssF μ i q n n = fo (fun (a : Int) (j : Nat) => a + f ((n : Int) - 1 - j)) 0 n := by
    have : ∀ m : Nat, m ≤ n → ssF μ i q n m = fo (fun (a : Int) (j : Nat) => a + f ((n : Int) - 1 - j)) 0 m := by
      intro m
      induction m with
      | zero => intro _; rfl
      | succ m ih =>
        intro hm
        show ssF μ i q n m + stB μ i ((n : Int) - 1 - m) * nd (kM μ i) q n (m + 1) = fo (fun (a : Int) (j : Nat) => a + f ((n : Int) - 1 - j)) 0 m + f ((n : Int) - 1 - m)
        rw [ih (by omega)]
        congr 1
        have ec : cuF (kM μ i) q n ((n : Int) - 1 - m) = nd (kM μ i) q n (m + 1) := by
          unfold cuF
          rw [if_pos (by omega), show n - ((n : Int) - 1 - m).toNat = m + 1 by omega]
        show _ = if cuF (kM μ i) q n ((n : Int) - 1 - m) = 0 then 0 else cuF (kM μ i) q n ((n : Int) - 1 - m) * (aM μ i ((n : Int) - 1 - m) - 2 * aM μ i ((n : Int) - 1 - m + 1))
        rw [ec]
        by_cases g : nd (kM μ i) q n (m + 1) = 0
        · rw [if_pos g, g, Int.mul_zero]
        · rw [if_neg g, Int.mul_comm]
          congr 1
          unfold stB
          rw [if_neg]
          rintro (k | k)
          · omega
          · rcases hq with hq | hq
            · apply hv hq m (by omega)
              rw [show ((n - m : Nat) : Int) = (n : Int) - 1 - m + 1 by omega]
              exact k
            · apply g
              have := nd_b (K := kM μ i) (q := q) (n := n) (by omega) hK (m + 1) (by omega)
              omega
    exact this n (Nat.le_refl n)
  rw [e1, fo_rev]
  have e2 : ∀ m : Nat, n + m ≤ 10 → fo (strM μ i (cuF (kM μ i) q n)) 0 (n + m) = fo (fun (a : Int) (k : Nat) => a + f k) 0 n := by
    intro m
    induction m with
    | zero => intro _; rfl
    | succ m ih =>
      intro hm
      show strM μ i (cuF (kM μ i) q n) (fo (strM μ i (cuF (kM μ i) q n)) 0 (n + m)) (n + m) = _
      rw [ih (by omega)]
      unfold strM
      rw [show cuF (kM μ i) q n ((n + m : Nat) : Int) = 0 from if_neg (by omega), if_pos rfl, Int.add_zero]
  have e3 := e2 (10 - n) (by omega)
  rw [show n + (10 - n) = 10 by omega] at e3
  exact e3.symm
theorem stB_b (h : LO v b μ) {i : Nat} {n : Int} (hi : (i : Int) < μ 412 0) : -8000000 ≤ stB μ i n ∧ stB μ i n ≤ 8000000 := by
  have h1 := aM_b (h.2.2.1.o (i := i) (by omega) hi) n
  have h2 := aM_b (h.2.2.1.o (i := i) (by omega) hi) (n + 1)
  unfold stB
  split <;> omega
def ctW (w : Nat → Int → Int) (f : Int → Int) (t s : Int) : Nat → Int → Int := up (up (fil w 341 f 10) 340 1 t) 340 2 s
theorem tX1_make (h : LO v b μ) {i n : Nat} {q : Int} (hi : (i : Int) < μ 412 0) (hn : n < 10) (hq0 : 0 ≤ q) (hq1 : q ≤ 10000) :
    jm_env (d + 3) 25 [.ref 340, .ref (b + 7 + 5 * i), .int (i3 n), .int (i3 q)] (qM X v w T c s) = some (.inl none, qM X v (ctW w (cuF (kM μ i) q n) (cuS (kM μ i) q n n) (ssF μ i q n n)) T c s) := by
  have hk := h.2.2.1.k (i := i) (by omega) hi
  have hK : ∀ k : Int, 0 ≤ k → k ≤ n → 0 ≤ kM μ i k := fun k a b => (hk k a (by omega)).1
  have h1 := ch_n (fun k : Nat => jm_R (jm_env (d + 2)) jmM_X1_make 13 [some (.ref 340), some (.ref (b + 7 + 5 * i)), some (.int (i3 n)), some (.int (i3 q)), some (.int (i3 k)), none] [] (qM X v (up (up (fil w 341 (fun _ => 0) k) 340 1 0) 340 2 0) T c s)) 10 (fun k hk => by
    have e : fil w 341 (fun _ => 0) ((k + 1 : Nat) : Int) = up (fil w 341 (fun _ => 0) k) 341 k 0 := (fil_up (Int.natCast_nonneg k) rfl).symm
    rw [e, up_sw (a := 341) (b := 340) (by omega), up_sw (a := 341) (b := 340) (by omega), bX1_make_13]
    simp (disch := first | assumption | omega) only [eX1_make, bX1_make_0, bX1_make_20, bX1_make_34, bX1_make_50, bX1_make_119, p1_1, p1_2, r1_0, a1_0, w1_0, n1_0, g1_1, g1_2, i3_add, i3_sub, i3_mul, i3_neg, i6_add, i6_sub, i6_mul, i6_neg, i3_lt, i3_le, i3_eq, i6_lt, i6_eq, i3_div, i6_div, i6_i3, i3_i6, c6_lt, c6_ge, c6_gt, c6_le, c6_eq, i3_ite, i6_ite, ib_0, ib_z, ite_not, i1_0, i0_0, jB_1, jB_0, jB_ib, bI_v, bL_v, bD_v, bV_v, ob_s, ob_i, i3_ofNat, jx_e, bI_e, bL_e, bD_e, bV_e, i3_eq0, i6_eq0, if_mx, if_mn, if_true, if_false, not_true_eq_false, not_false_eq_true, Int.reduceEq, Int.reduceLT, Int.reduceLE]
    rw [if_neg (by omega)]
    rfl)
  have h2 := ch_n (fun j : Nat => jm_R (jm_env (d + 2)) jmM_X1_make 45 [some (.ref 340), some (.ref (b + 7 + 5 * i)), some (.int (i3 n)), some (.int (i3 q)), some (.int (i3 (nd (kM μ i) q n j))), some (.int (i3 ((n : Int) - j)))] [] (qM X v (ctW w (fun k => if (n : Int) - j ≤ k ∧ k < n then nd (kM μ i) q n (n - k.toNat) else 0) (cuS (kM μ i) q n j) (ssF μ i q n j)) T c s)) n (fun j hj => by
    have hb := nd_b hq0 hK j (by omega)
    have hb1 := nd_b hq0 hK (j + 1) (by omega)
    have hb2 := hk ((n : Int) - j) (by omega) (by omega)
    have hsb := stB_b h (i := i) (n := (n : Int) - 1 - j) hi
    have e3 : nd (kM μ i) q n (j + 1) = (max 0 (nd (kM μ i) q n j - kM μ i ((n : Int) - j)) + 1) / 2 := rfl
    have e4 : ∀ t s', ctW w (fun k => if (n : Int) - (j + 1 : Nat) ≤ k ∧ k < n then nd (kM μ i) q n (n - k.toNat) else 0) t s' = up (up (up (ctW w (fun k => if (n : Int) - j ≤ k ∧ k < n then nd (kM μ i) q n (n - k.toNat) else 0) (cuS (kM μ i) q n j) (ssF μ i q n j)) 341 ((n : Int) - j - 1) (nd (kM μ i) q n (j + 1))) 340 1 t) 340 2 s' := by
      intro t s'
      have e5 : fil w 341 (fun k => if (n : Int) - (j + 1 : Nat) ≤ k ∧ k < n then nd (kM μ i) q n (n - k.toNat) else 0) 10 = up (fil w 341 (fun k => if (n : Int) - j ≤ k ∧ k < n then nd (kM μ i) q n (n - k.toNat) else 0) 10) 341 ((n : Int) - j - 1) (nd (kM μ i) q n (j + 1)) := by
        funext a k
        unfold up fil
        by_cases g : a = 341 ∧ k = (n : Int) - j - 1
        · rw [if_pos g, if_pos (by omega)]
          dsimp only
          rw [if_pos (by omega), show n - k.toNat = j + 1 by omega]
        · rw [if_neg g]
          by_cases g2 : a = 341 ∧ 0 ≤ k ∧ k < 10
          · rw [if_pos g2, if_pos g2]
            dsimp only
            by_cases g3 : (n : Int) - j ≤ k ∧ k < n
            · rw [if_pos g3, if_pos (by omega)]
            · rw [if_neg g3, if_neg (by omega)]
          · rw [if_neg g2, if_neg g2]
      unfold ctW
      rw [e5, up_sw (a := 340) (b := 341) (by omega), up_sw (a := 340) (b := 341) (by omega), up_sw (a := 340) (b := 340) (i := 2) (j := 1) (by omega), up_up, up_up]
    rw [e4, show cuS (kM μ i) q n (j + 1) = cuS (kM μ i) q n j + nd (kM μ i) q n (j + 1) from rfl, show ssF μ i q n (j + 1) = ssF μ i q n j + stB μ i ((n : Int) - 1 - j) * nd (kM μ i) q n (j + 1) from rfl]
    rw [bX1_make_45]
    have c1 : ctW w (fun k => if (n : Int) - j ≤ k ∧ k < n then nd (kM μ i) q n (n - k.toNat) else 0) (cuS (kM μ i) q n j) (ssF μ i q n j) 340 1 = cuS (kM μ i) q n j := by unfold ctW; rw [up_ne (by omega), up_eq]
    have c2 : ctW w (fun k => if (n : Int) - j ≤ k ∧ k < n then nd (kM μ i) q n (n - k.toNat) else 0) (cuS (kM μ i) q n j) (ssF μ i q n j) 340 2 = ssF μ i q n j := up_eq
    have e6 : (n : Int) - j - 1 = (n : Int) - 1 - j := by omega
    rw [e6]
    simp (disch := first | assumption | omega) only [eX1_make, bX1_make_0, bX1_make_20, bX1_make_34, bX1_make_50, bX1_make_119, p1_1, p1_2, r1_0, a1_0, w1_0, n1_0, g1_1, g1_2, i3_add, i3_sub, i3_mul, i3_neg, i6_add, i6_sub, i6_mul, i6_neg, i3_lt, i3_le, i3_eq, i6_lt, i6_eq, i3_div, i6_div, i6_i3, i3_i6, c6_lt, c6_ge, c6_gt, c6_le, c6_eq, i3_ite, i6_ite, ib_0, ib_z, ite_not, i1_0, i0_0, jB_1, jB_0, jB_ib, bI_v, bL_v, bD_v, bV_v, ob_s, ob_i, i3_ofNat, jx_e, bI_e, bL_e, bD_e, bV_e, i3_eq0, i6_eq0, if_mx, if_mn, if_true, if_false, not_true_eq_false, not_false_eq_true, Int.reduceEq, Int.reduceLT, Int.reduceLE, tX9_sheetsAt h, ← e3, e6, tX9_stripAt h, up_ne, c1, c2]
    rw [if_neg (by omega)]
    rw [show (n : Int) - j + -1 = (n : Int) - (j + 1 : Nat) by omega])
  simp (disch := first | assumption | omega) only [eX1_make, bX1_make_0, bX1_make_20, bX1_make_34, bX1_make_50, bX1_make_119, p1_1, p1_2, r1_0, a1_0, w1_0, n1_0, g1_1, g1_2, i3_add, i3_sub, i3_mul, i3_neg, i6_add, i6_sub, i6_mul, i6_neg, i3_lt, i3_le, i3_eq, i6_lt, i6_eq, i3_div, i6_div, i6_i3, i3_i6, c6_lt, c6_ge, c6_gt, c6_le, c6_eq, i3_ite, i6_ite, ib_0, ib_z, ite_not, i1_0, i0_0, jB_1, jB_0, jB_ib, bI_v, bL_v, bD_v, bV_v, ob_s, ob_i, i3_ofNat, jx_e, bI_e, bL_e, bD_e, bV_e, i3_eq0, i6_eq0, if_mx, if_mn, if_true, if_false, not_true_eq_false, not_false_eq_true, Int.reduceEq, Int.reduceLT, Int.reduceLE]
  rw [show fil w 341 (fun _ => 0) ((0 : Nat) : Int) = w from fil_0] at h1
  refine Eq.trans h1 ?_
  rw [bX1_make_13]
  simp (disch := first | assumption | omega) only [eX1_make, bX1_make_0, bX1_make_20, bX1_make_34, bX1_make_50, bX1_make_119, p1_1, p1_2, r1_0, a1_0, w1_0, n1_0, g1_1, g1_2, i3_add, i3_sub, i3_mul, i3_neg, i6_add, i6_sub, i6_mul, i6_neg, i3_lt, i3_le, i3_eq, i6_lt, i6_eq, i3_div, i6_div, i6_i3, i3_i6, c6_lt, c6_ge, c6_gt, c6_le, c6_eq, i3_ite, i6_ite, ib_0, ib_z, ite_not, i1_0, i0_0, jB_1, jB_0, jB_ib, bI_v, bL_v, bD_v, bV_v, ob_s, ob_i, i3_ofNat, jx_e, bI_e, bL_e, bD_e, bV_e, i3_eq0, i6_eq0, if_mx, if_mn, if_true, if_false, not_true_eq_false, not_false_eq_true, Int.reduceEq, Int.reduceLT, Int.reduceLE]
  have e9 : min (n : Int) 9 = n := by omega
  have e10 : min (9 : Int) (n : Int) = n := by omega
  first | rw [if_pos (by omega)] | skip
  simp only [e9, e10]
  refine Eq.trans (Eq.trans ?_ h2) ?_
  · rw [show cuS (kM μ i) q n 0 = 0 from rfl, show nd (kM μ i) q n 0 = q from rfl, show ssF μ i q n 0 = 0 from rfl, show (n : Int) - (0 : Nat) = n by omega]
    unfold ctW
    rw [fil_cg (g := fun k => if (n : Int) ≤ k ∧ k < n then nd (kM μ i) q n (n - k.toNat) else 0) (fun k k0 k1 => by rw [if_neg (by omega)])]
    rfl
  · rw [bX1_make_45]
    simp (disch := first | assumption | omega) only [eX1_make, bX1_make_0, bX1_make_20, bX1_make_34, bX1_make_50, bX1_make_119, p1_1, p1_2, r1_0, a1_0, w1_0, n1_0, g1_1, g1_2, i3_add, i3_sub, i3_mul, i3_neg, i6_add, i6_sub, i6_mul, i6_neg, i3_lt, i3_le, i3_eq, i6_lt, i6_eq, i3_div, i6_div, i6_i3, i3_i6, c6_lt, c6_ge, c6_gt, c6_le, c6_eq, i3_ite, i6_ite, ib_0, ib_z, ite_not, i1_0, i0_0, jB_1, jB_0, jB_ib, bI_v, bL_v, bD_v, bV_v, ob_s, ob_i, i3_ofNat, jx_e, bI_e, bL_e, bD_e, bV_e, i3_eq0, i6_eq0, if_mx, if_mn, if_true, if_false, not_true_eq_false, not_false_eq_true, Int.reduceEq, Int.reduceLT, Int.reduceLE]
    rw [if_pos (by omega)]
    unfold ctW
    rw [fil_cg (g := cuF (kM μ i) q n) (fun k k0 k1 => by
      unfold cuF
      by_cases e : (n : Int) - n ≤ k ∧ k < n
      · rw [if_pos e, if_pos (by omega)]
      · rw [if_neg e, if_neg (by omega)])]
end CLC
