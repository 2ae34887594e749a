-- uses 24.zar 25.obj 26.ops 30.rd 31.re 34.gen 38.mod 39.mo2
/-! The reference: cuts, prints, names, copies, what is asked of arguments. -/
theorem ch_e {α : Type} (F : Nat → α) (E : α) (n : Nat) (h : ∀ k, k < n → F k = E ∨ F k = F (k + 1)) (he : F n = E) : F 0 = E := by
  have : ∀ r k, k + r = n → F k = E := by
    intro r
    induction r with
    | zero => intro k hk; rw [show k = n by omega, he]
    | succ r ih =>
      intro k hk
      rcases h k (by omega) with q | q
      · exact q
      · rw [q]; exact ih (k + 1) (by omega)
  exact this n 0 (by omega)
/-- how many are wanted of the size j places ahead, where q are wanted of size n -/
def nd (K : Int → Int) (q : Int) (n : Nat) : Nat → Int
  | 0 => q
  | j + 1 => (max 0 (nd K q n j - K ((n : Int) - j)) + 1) / 2
theorem nd_b {K : Int → Int} {q : Int} {n : Nat} (hq : 0 ≤ q) (hK : ∀ k : Int, 0 ≤ k → k ≤ n → 0 ≤ K k) : ∀ j, j ≤ n + 1 → 0 ≤ nd K q n j ∧ nd K q n j ≤ q := by
  intro j
  induction j with
  | zero => intro _; exact ⟨hq, Int.le_refl _⟩
  | succ j ih =>
    intro hj
    have h1 := ih (by omega)
    have h2 := hK ((n : Int) - j) (by omega) (by omega)
    unfold nd
    omega
/-- from where none are wanted, none are -/
theorem nd_z {K : Int → Int} {q : Int} {n : Nat} (hK : ∀ k : Int, 0 ≤ k → k ≤ n → 0 ≤ K k) {j : Nat} (h : nd K q n j ≤ K ((n : Int) - j)) : ∀ i, j + i + 1 ≤ n + 1 → nd K q n (j + i + 1) = 0 := by
  intro i
  induction i with
  | zero =>
    intro hi
    show nd K q n (j + 1) = 0
    unfold nd
    omega
  | succ i ih =>
    intro hi
    have h1 := ih (by omega)
    have h2 := hK ((n : Int) - (j + i + 1 : Nat)) (by omega) (by omega)
    show nd K q n ((j + i + 1) + 1) = 0
    unfold nd
    rw [h1]
    omega
/-- the cuts of each size -/
def cuF (K : Int → Int) (q : Int) (n : Nat) (k : Int) : Int := if 0 ≤ k ∧ k < n then nd K q n (n - k.toNat) else 0
/-- all cuts -/
def cuS (K : Int → Int) (q : Int) (n : Nat) : Nat → Int
  | 0 => 0
  | j + 1 => cuS K q n j + nd K q n (j + 1)
theorem cuS_b {K : Int → Int} {q : Int} {n : Nat} (hq : 0 ≤ q) (hK : ∀ k : Int, 0 ≤ k → k ≤ n → 0 ≤ K k) : ∀ j, j ≤ n → 0 ≤ cuS K q n j ∧ cuS K q n j ≤ j * q := by
  intro j
  induction j with
  | zero => intro _; unfold cuS; omega
  | succ j ih =>
    intro hj
    have h1 := ih (by omega)
    have h2 := nd_b hq hK (j + 1) (by omega)
    have e : ((j + 1 : Nat) : Int) * q = j * q + q := by rw [Int.natCast_add, Int.add_mul]; omega
    unfold cuS
    omega
theorem cuS_z {K : Int → Int} {q : Int} {n : Nat} (hK : ∀ k : Int, 0 ≤ k → k ≤ n → 0 ≤ K k) {j : Nat} (h : nd K q n j ≤ K ((n : Int) - j)) : ∀ i, j + i ≤ n → cuS K q n (j + i) = cuS K q n j := by
  intro i
  induction i with
  | zero => intro _; rfl
  | succ i ih =>
    intro hi
    show cuS K q n (j + i) + nd K q n (j + i + 1) = _
    rw [ih (by omega), nd_z hK h i (by omega)]
    omega
section MO3
variable {d : Nat} {X : Nat × (Nat → Int32)} {v w : Nat → Int → Int} {T c s : Nat}
theorem sX12_cutsOf {i : Int} {n : Nat} {q : Int} (hT : 18 ≤ T) (hi0 : 0 ≤ i) (hi1 : i < 5) (hn : n < 10) (hq0 : 0 ≤ q) (hq1 : q < 100000) (hk : ∀ n : Int, 0 ≤ n → n < 10 → 0 ≤ kM v i n ∧ kM v i n ≤ 20000) :
    jm_env (d + 2) 229 [.ref 411, .int (i3 i), .int (i3 n), .long (i6 q)] (qM X v w T c s) = some (.inl (some (.long (i6 (cuS (kM v i) q n n)))), qM X v (fil w 419 (cuF (kM v i) q n) 10) T c s) := by
  have hK : ∀ k : Int, 0 ≤ k → k ≤ n → 0 ≤ kM v i k := fun k a b => (hk k a (by omega)).1
  have h1 := ch_n (fun k : Nat => jm_R (jm_env (d + 1)) jmM_X12_cutsOf 3 [some (.ref 411), some (.int (i3 i)), some (.int (i3 n)), some (.long (i6 q)), none, some (.int (i3 k)), none, none, none, none] [] (qM X v (fil w 419 (fun _ => 0) k) T c s)) 10 (fun k hk => by
    have e : fil w 419 (fun _ => 0) ((k + 1 : Nat) : Int) = up (fil w 419 (fun _ => 0) k) 419 k 0 := (fil_up (Int.natCast_nonneg k) rfl).symm
    rw [e, bX12_cutsOf_3]
    simp (disch := first | assumption | omega) only [eX12_cutsOf, bX12_cutsOf_0, bX12_cutsOf_10, bX12_cutsOf_24, bX12_cutsOf_38, bX12_cutsOf_55, bX12_cutsOf_101, r12_13, a12_13, w12_13, n12_13, r12_0, a12_0, w12_0, n12_0, i3_add, i3_sub, i3_mul, i3_neg, i6_add, i6_sub, i6_mul, i6_neg, i3_lt, i3_le, i3_eq, i6_lt, i6_eq, i3_div, i6_div, i6_i3, i3_i6, c6_lt, c6_ge, c6_gt, c6_le, c6_eq, i3_ite, i6_ite, ib_0, ib_z, ite_not, i1_0, i0_0, jB_1, jB_0, jB_ib, bI_v, bL_v, bD_v, bV_v, ob_s, ob_i, i3_ofNat, jx_e, bI_e, bL_e, bD_e, bV_e, i3_eq0, i6_eq0, if_mx, if_mn, if_true, if_false, not_true_eq_false, not_false_eq_true, Int.reduceEq, Int.reduceLT, Int.reduceLE]
    rw [if_neg (by omega)]
    rfl)
  have h2 := ch_e (fun j : Nat => jm_R (jm_env (d + 1)) jmM_X12_cutsOf 33 [some (.ref 411), some (.int (i3 i)), some (.int (i3 n)), some (.long (i6 q)), none, some (.long (i6 (nd (kM v i) q n j))), none, some (.long (i6 (cuS (kM v i) q n j))), none, some (.int (i3 ((n : Int) - j)))] [] (qM X v (fil w 419 (fun k => if (n : Int) - j ≤ k ∧ k < n then nd (kM v i) q n (n - k.toNat) else 0) 10) T c s)) (some (.inl (some (.long (i6 (cuS (kM v i) q n n)))), qM X v (fil w 419 (cuF (kM v i) q n) 10) T c s)) n (fun j hj => by
    have hb := nd_b hq0 hK j (by omega)
    have hb2 : 0 ≤ v 412 (12 + 13 * i + 3 + ((n : Int) - j)) ∧ v 412 (12 + 13 * i + 3 + ((n : Int) - j)) ≤ 20000 := hk ((n : Int) - j) (by omega) (by omega)
    by_cases hz : nd (kM v i) q n j ≤ v 412 (12 + 13 * i + 3 + ((n : Int) - j))
    · left
      rw [bX12_cutsOf_33]
      simp (disch := first | assumption | omega) only [eX12_cutsOf, bX12_cutsOf_0, bX12_cutsOf_10, bX12_cutsOf_24, bX12_cutsOf_38, bX12_cutsOf_55, bX12_cutsOf_101, r12_13, a12_13, w12_13, n12_13, r12_0, a12_0, w12_0, n12_0, i3_add, i3_sub, i3_mul, i3_neg, i6_add, i6_sub, i6_mul, i6_neg, i3_lt, i3_le, i3_eq, i6_lt, i6_eq, i3_div, i6_div, i6_i3, i3_i6, c6_lt, c6_ge, c6_gt, c6_le, c6_eq, i3_ite, i6_ite, ib_0, ib_z, ite_not, i1_0, i0_0, jB_1, jB_0, jB_ib, bI_v, bL_v, bD_v, bV_v, ob_s, ob_i, i3_ofNat, jx_e, bI_e, bL_e, bD_e, bV_e, i3_eq0, i6_eq0, if_mx, if_mn, if_true, if_false, not_true_eq_false, not_false_eq_true, Int.reduceEq, Int.reduceLT, Int.reduceLE, sX12_stackAt, fil_ne]
      rw [if_neg (by omega), if_pos hz]
      rw [← cuS_z hK hz (n - j) (by omega), show j + (n - j) = n by omega]
      rw [fil_cg (g := cuF (kM v i) q n) (fun k k0 k1 => by
        unfold cuF
        by_cases e : (n : Int) - j ≤ k ∧ k < n
        · rw [if_pos e, if_pos (by omega)]
        · rw [if_neg e]
          by_cases e2 : 0 ≤ k ∧ k < n
          · rw [if_pos e2]
            have := nd_z hK hz (n - k.toNat - j - 1) (by omega)
            rw [show j + (n - k.toNat - j - 1) + 1 = n - k.toNat by omega] at this
            exact this.symm
          · rw [if_neg e2])]
    · right
      have e : fil w 419 (fun k => if (n : Int) - (j + 1 : Nat) ≤ k ∧ k < n then nd (kM v i) q n (n - k.toNat) else 0) 10 = up (fil w 419 (fun k => if (n : Int) - j ≤ k ∧ k < n then nd (kM v i) q n (n - k.toNat) else 0) 10) 419 ((n : Int) - j - 1) ((nd (kM v i) q n j - v 412 (12 + 13 * i + 3 + ((n : Int) - j)) + 1) / 2) := by
        funext a k
        unfold up fil
        by_cases g : a = 419 ∧ k = (n : Int) - j - 1
        · rw [if_pos g, if_pos (by omega)]
          dsimp only
          rw [if_pos (by omega)]
          rw [show n - k.toNat = j + 1 by omega]
          show (max 0 (nd (kM v i) q n j - kM v i ((n : Int) - j)) + 1) / 2 = _
          unfold kM
          unfold kM at hz hb
          omega
        · rw [if_neg g]
          by_cases g2 : a = 419 ∧ 0 ≤ k ∧ k < 10
          · rw [if_pos g2, if_pos g2]
            dsimp only
            by_cases g3 : (n : Int) - j ≤ k ∧ k < n
            · rw [if_pos g3, if_pos (by omega)]
            · rw [if_neg g3, if_neg (by omega)]
          · rw [if_neg g2, if_neg g2]
      have e3 : nd (kM v i) q n (j + 1) = (nd (kM v i) q n j - v 412 (12 + 13 * i + 3 + ((n : Int) - j)) + 1) / 2 := by
        show (max 0 (nd (kM v i) q n j - kM v i ((n : Int) - j)) + 1) / 2 = _
        unfold kM
        unfold kM at hz hb
        omega
      rw [e, show cuS (kM v i) q n (j + 1) = cuS (kM v i) q n j + nd (kM v i) q n (j + 1) from rfl, e3]
      rw [bX12_cutsOf_33]
      simp (disch := first | assumption | omega) only [eX12_cutsOf, bX12_cutsOf_0, bX12_cutsOf_10, bX12_cutsOf_24, bX12_cutsOf_38, bX12_cutsOf_55, bX12_cutsOf_101, r12_13, a12_13, w12_13, n12_13, r12_0, a12_0, w12_0, n12_0, i3_add, i3_sub, i3_mul, i3_neg, i6_add, i6_sub, i6_mul, i6_neg, i3_lt, i3_le, i3_eq, i6_lt, i6_eq, i3_div, i6_div, i6_i3, i3_i6, c6_lt, c6_ge, c6_gt, c6_le, c6_eq, i3_ite, i6_ite, ib_0, ib_z, ite_not, i1_0, i0_0, jB_1, jB_0, jB_ib, bI_v, bL_v, bD_v, bV_v, ob_s, ob_i, i3_ofNat, jx_e, bI_e, bL_e, bD_e, bV_e, i3_eq0, i6_eq0, if_mx, if_mn, if_true, if_false, not_true_eq_false, not_false_eq_true, Int.reduceEq, Int.reduceLT, Int.reduceLE, sX12_stackAt, fil_ne]
      rw [if_neg (by omega), if_neg hz]
      rw [show (n : Int) - j + -1 = (n : Int) - (j + 1 : Nat) by omega]) (by
    rw [bX12_cutsOf_33]
    simp (disch := first | assumption | omega) only [eX12_cutsOf, bX12_cutsOf_0, bX12_cutsOf_10, bX12_cutsOf_24, bX12_cutsOf_38, bX12_cutsOf_55, bX12_cutsOf_101, r12_13, a12_13, w12_13, n12_13, r12_0, a12_0, w12_0, n12_0, i3_add, i3_sub, i3_mul, i3_neg, i6_add, i6_sub, i6_mul, i6_neg, i3_lt, i3_le, i3_eq, i6_lt, i6_eq, i3_div, i6_div, i6_i3, i3_i6, c6_lt, c6_ge, c6_gt, c6_le, c6_eq, i3_ite, i6_ite, ib_0, ib_z, ite_not, i1_0, i0_0, jB_1, jB_0, jB_ib, bI_v, bL_v, bD_v, bV_v, ob_s, ob_i, i3_ofNat, jx_e, bI_e, bL_e, bD_e, bV_e, i3_eq0, i6_eq0, if_mx, if_mn, if_true, if_false, not_true_eq_false, not_false_eq_true, Int.reduceEq, Int.reduceLT, Int.reduceLE]
    rw [if_pos (by omega)]
    rw [fil_cg (g := cuF (kM v i) q n) (fun k k0 k1 => by
        unfold cuF
        by_cases e : (n : Int) - n ≤ k ∧ k < n
        · rw [if_pos e, if_pos (by omega)]
        · rw [if_neg e, if_neg (by omega)])])
  simp (disch := first | assumption | omega) only [eX12_cutsOf, bX12_cutsOf_0, bX12_cutsOf_10, bX12_cutsOf_24, bX12_cutsOf_38, bX12_cutsOf_55, bX12_cutsOf_101, r12_13, a12_13, w12_13, n12_13, r12_0, a12_0, w12_0, n12_0, i3_add, i3_sub, i3_mul, i3_neg, i6_add, i6_sub, i6_mul, i6_neg, i3_lt, i3_le, i3_eq, i6_lt, i6_eq, i3_div, i6_div, i6_i3, i3_i6, c6_lt, c6_ge, c6_gt, c6_le, c6_eq, i3_ite, i6_ite, ib_0, ib_z, ite_not, i1_0, i0_0, jB_1, jB_0, jB_ib, bI_v, bL_v, bD_v, bV_v, ob_s, ob_i, i3_ofNat, jx_e, bI_e, bL_e, bD_e, bV_e, i3_eq0, i6_eq0, if_mx, if_mn, if_true, if_false, not_true_eq_false, not_false_eq_true, Int.reduceEq, Int.reduceLT, Int.reduceLE]
  rw [show fil w 419 (fun _ => 0) ((0 : Nat) : Int) = w from fil_0] at h1
  refine Eq.trans h1 ?_
  rw [bX12_cutsOf_3]
  simp (disch := first | assumption | omega) only [eX12_cutsOf, bX12_cutsOf_0, bX12_cutsOf_10, bX12_cutsOf_24, bX12_cutsOf_38, bX12_cutsOf_55, bX12_cutsOf_101, r12_13, a12_13, w12_13, n12_13, r12_0, a12_0, w12_0, n12_0, i3_add, i3_sub, i3_mul, i3_neg, i6_add, i6_sub, i6_mul, i6_neg, i3_lt, i3_le, i3_eq, i6_lt, i6_eq, i3_div, i6_div, i6_i3, i3_i6, c6_lt, c6_ge, c6_gt, c6_le, c6_eq, i3_ite, i6_ite, ib_0, ib_z, ite_not, i1_0, i0_0, jB_1, jB_0, jB_ib, bI_v, bL_v, bD_v, bV_v, ob_s, ob_i, i3_ofNat, jx_e, bI_e, bL_e, bD_e, bV_e, i3_eq0, i6_eq0, if_mx, if_mn, if_true, if_false, not_true_eq_false, not_false_eq_true, Int.reduceEq, Int.reduceLT, Int.reduceLE]
  rw [if_pos (by omega)]
  refine Eq.trans ?_ h2
  rw [show cuS (kM v i) q n 0 = 0 from rfl, show nd (kM v i) q n 0 = q from rfl, show (n : Int) - (0 : Nat) = n by omega]
  rw [fil_cg (g := fun k => if (n : Int) ≤ k ∧ k < n then nd (kM v i) q n (n - k.toNat) else 0) (fun k k0 k1 => by rw [if_neg (by omega)])]
  rfl
/-- the strips of what is cut -/
def strM (v : Nat → Int → Int) (i : Int) (f : Int → Int) (a : Int) (k : Nat) : Int := a + if f k = 0 then 0 else f k * (aM v i k - 2 * aM v i ((k : Int) + 1))
theorem sX12_stripsOf_p {i : Int} {f : Int → Int} (hT : 18 ≤ T) (hi0 : 0 ≤ i) (hi1 : i < 5) (ho : oM v i) (hf : ∀ k : Int, 0 ≤ k → k < 10 → w 419 k = f k ∧ 0 ≤ f k ∧ f k ≤ 100000) : ∃ p, jm_env (d + 5) 230 [.ref 411, .int (i3 i)] (qM X v w T c s) = some (.inl (some (.long (i6 (fo (strM v i f) 0 10)))), qM X v (fw w p) T c s) := by
  obtain ⟨⟨q, e⟩, -⟩ := lq1 (fun _ _ => True) (fun (k : Nat) (a : Int) (p : Int × Int) => jm_R (jm_env (d + 4)) jmM_X12_stripsOf 5 [some (.ref 411), some (.int (i3 i)), some (.long (i6 a)), none, some (.int (i3 k))] [] (qM X v (fw w p) T c s)) (strM v i f) 10
    (fun k a p hk1 _ => by
      obtain ⟨h1, h2, h3⟩ := hf k (by omega) (by omega)
      rw [bX12_stripsOf_5]
      simp (disch := first | assumption | omega) only [eX12_stripsOf, bX12_stripsOf_0, bX12_stripsOf_12, bX12_stripsOf_25, bX12_stripsOf_29, bX12_stripsOf_44, bX12_stripsOf_52, r12_13, a12_13, w12_13, n12_13, i3_add, i3_sub, i3_mul, i3_neg, i6_add, i6_sub, i6_mul, i6_neg, i3_lt, i3_le, i3_eq, i6_lt, i6_eq, i3_div, i6_div, i6_i3, i3_i6, c6_lt, c6_ge, c6_gt, c6_le, c6_eq, i3_ite, i6_ite, ib_0, ib_z, ite_not, i1_0, i0_0, jB_1, jB_0, jB_ib, bI_v, bL_v, bD_v, bV_v, ob_s, ob_i, i3_ofNat, jx_e, bI_e, bL_e, bD_e, bV_e, i3_eq0, i6_eq0, if_mx, if_mn, if_true, if_false, not_true_eq_false, not_false_eq_true, Int.reduceEq, Int.reduceLT, Int.reduceLE, sX12_stripOf, fw_fw, fw_ne, h1]
      rw [if_neg (by omega)]
      unfold strM
      by_cases hz : f k = 0
      · rw [if_pos hz, if_pos hz]
        exact ⟨_, rfl⟩
      · rw [if_neg hz, if_neg hz]
        exact ⟨_, rfl⟩)
    (fun _ _ _ _ => trivial) 0 (w 411 9, w 411 10) trivial
  rw [fw_id] at e
  simp (disch := first | assumption | omega) only [eX12_stripsOf, bX12_stripsOf_0, bX12_stripsOf_12, bX12_stripsOf_25, bX12_stripsOf_29, bX12_stripsOf_44, bX12_stripsOf_52, r12_13, a12_13, w12_13, n12_13, i3_add, i3_sub, i3_mul, i3_neg, i6_add, i6_sub, i6_mul, i6_neg, i3_lt, i3_le, i3_eq, i6_lt, i6_eq, i3_div, i6_div, i6_i3, i3_i6, c6_lt, c6_ge, c6_gt, c6_le, c6_eq, i3_ite, i6_ite, ib_0, ib_z, ite_not, i1_0, i0_0, jB_1, jB_0, jB_ib, bI_v, bL_v, bD_v, bV_v, ob_s, ob_i, i3_ofNat, jx_e, bI_e, bL_e, bD_e, bV_e, i3_eq0, i6_eq0, if_mx, if_mn, if_true, if_false, not_true_eq_false, not_false_eq_true, Int.reduceEq, Int.reduceLT, Int.reduceLE]
  refine ⟨q, Eq.trans e ?_⟩
  rw [bX12_stripsOf_5]
  simp (disch := first | assumption | omega) only [eX12_stripsOf, bX12_stripsOf_0, bX12_stripsOf_12, bX12_stripsOf_25, bX12_stripsOf_29, bX12_stripsOf_44, bX12_stripsOf_52, r12_13, a12_13, w12_13, n12_13, i3_add, i3_sub, i3_mul, i3_neg, i6_add, i6_sub, i6_mul, i6_neg, i3_lt, i3_le, i3_eq, i6_lt, i6_eq, i3_div, i6_div, i6_i3, i3_i6, c6_lt, c6_ge, c6_gt, c6_le, c6_eq, i3_ite, i6_ite, ib_0, ib_z, ite_not, i1_0, i0_0, jB_1, jB_0, jB_ib, bI_v, bL_v, bD_v, bV_v, ob_s, ob_i, i3_ofNat, jx_e, bI_e, bL_e, bD_e, bV_e, i3_eq0, i6_eq0, if_mx, if_mn, if_true, if_false, not_true_eq_false, not_false_eq_true, Int.reduceEq, Int.reduceLT, Int.reduceLE]
  rw [if_pos (by omega)]
theorem sX12_stripsOf {i : Int} {f : Int → Int} (hT : 18 ≤ T) (hi0 : 0 ≤ i) (hi1 : i < 5) (ho : oM v i) (hf : ∀ k : Int, 0 ≤ k → k < 10 → w 419 k = f k ∧ 0 ≤ f k ∧ f k ≤ 100000) : jm_env (d + 5) 230 [.ref 411, .int (i3 i)] (qM X v w T c s) = some (.inl (some (.long (i6 (fo (strM v i f) 0 10)))), qM X v (fw w (pq (hid (d + 5) 230 [.ref 411, .int (i3 i)] (qM X v w T c s)) X v w T c s)) T c s) := pq_eq (sX12_stripsOf_p hT hi0 hi1 ho hf)

def prOk (v : Nat → Int → Int) : Prop := 0 ≤ v 412 3 ∧ v 412 3 ≤ 30 ∧ ∀ k : Int, 0 ≤ k → k < v 412 3 → 0 ≤ v 412 (77 + 3 * k) ∧ v 412 (77 + 3 * k) ≤ 2000 ∧ 0 ≤ v 412 (77 + 3 * k + 1) ∧ v 412 (77 + 3 * k + 1) ≤ 2000
/-- the place of a print -/
def prF (v : Nat → Int → Int) (pw ph : Int) : Int := fnd (fun k : Nat => v 412 (77 + 3 * k) = pw ∧ v 412 (77 + 3 * k + 1) = ph) (fun k => (k : Int)) (-1) 0 (v 412 3).toNat
theorem sX12_printOf {pw ph : Int} (hT : 18 ≤ T) (hp : prOk v) (h2 : 0 ≤ pw) (h3 : pw ≤ 2000) (h4 : 0 ≤ ph) (h5 : ph ≤ 2000) :
    jm_env (d + 1) 233 [.ref 411, .int (i3 pw), .int (i3 ph)] (qM X v w T c s) = some (.inl (some (.int (i3 (prF v pw ph)))), (qM X v w T c s)) := by
  obtain ⟨hc0, hc1, hp⟩ := hp
  have hl := ch_f (p := fun k : Nat => v 412 (77 + 3 * k) = pw ∧ v 412 (77 + 3 * k + 1) = ph) (fun k : Nat => jm_R (jm_env d) jmM_X12_printOf 2 [some (.ref 411), some (.int (i3 pw)), some (.int (i3 ph)), some (.int (i3 k))] [] (qM X v w T c s)) (fun k : Nat => some (.inl (some (.int (i3 (k)))), (qM X v w T c s))) (some (.inl (some (.int (i3 (-1)))), (qM X v w T c s))) (v 412 3).toNat (fun k hk => by
    obtain ⟨b0, b1, b2, b3⟩ := hp k (by omega) (by omega)
    rw [bX12_printOf_2]
    simp (disch := first | assumption | omega) only [eX12_printOf, bX12_printOf_0, bX12_printOf_14, bX12_printOf_31, bX12_printOf_50, bX12_printOf_52, bX12_printOf_58, r12_0, a12_0, w12_0, n12_0, i3_add, i3_sub, i3_mul, i3_neg, i6_add, i6_sub, i6_mul, i6_neg, i3_lt, i3_le, i3_eq, i6_lt, i6_eq, i3_div, i6_div, i6_i3, i3_i6, c6_lt, c6_ge, c6_gt, c6_le, c6_eq, i3_ite, i6_ite, ib_0, ib_z, ite_not, i1_0, i0_0, jB_1, jB_0, jB_ib, bI_v, bL_v, bD_v, bV_v, ob_s, ob_i, i3_ofNat, jx_e, bI_e, bL_e, bD_e, bV_e, i3_eq0, i6_eq0, if_mx, if_mn, if_true, if_false, not_true_eq_false, not_false_eq_true, Int.reduceEq, Int.reduceLT, Int.reduceLE]
    rw [if_neg (by omega)]
    by_cases q1 : v 412 (77 + 3 * k) = pw
    · by_cases q2 : v 412 (77 + 3 * k + 1) = ph
      · rw [if_pos q1, if_pos q2, if_pos ⟨q1, q2⟩]
      · rw [if_pos q1, if_neg q2, if_neg (fun q => q2 q.2)]; rfl
    · rw [if_neg q1, if_neg (fun q => q1 q.1)]; rfl) (by
    rw [bX12_printOf_2]
    simp (disch := first | assumption | omega) only [eX12_printOf, bX12_printOf_0, bX12_printOf_14, bX12_printOf_31, bX12_printOf_50, bX12_printOf_52, bX12_printOf_58, r12_0, a12_0, w12_0, n12_0, i3_add, i3_sub, i3_mul, i3_neg, i6_add, i6_sub, i6_mul, i6_neg, i3_lt, i3_le, i3_eq, i6_lt, i6_eq, i3_div, i6_div, i6_i3, i3_i6, c6_lt, c6_ge, c6_gt, c6_le, c6_eq, i3_ite, i6_ite, ib_0, ib_z, ite_not, i1_0, i0_0, jB_1, jB_0, jB_ib, bI_v, bL_v, bD_v, bV_v, ob_s, ob_i, i3_ofNat, jx_e, bI_e, bL_e, bD_e, bV_e, i3_eq0, i6_eq0, if_mx, if_mn, if_true, if_false, not_true_eq_false, not_false_eq_true, Int.reduceEq, Int.reduceLT, Int.reduceLE]
    rw [if_pos (by omega)])
  rw [fnd_map (fun z : Int => (some (.inl (some (.int (i3 (z)))), (qM X v w T c s)) : Option jm_Res))] at hl
  simp (disch := first | assumption | omega) only [eX12_printOf, bX12_printOf_0, bX12_printOf_14, bX12_printOf_31, bX12_printOf_50, bX12_printOf_52, bX12_printOf_58, r12_0, a12_0, w12_0, n12_0, i3_add, i3_sub, i3_mul, i3_neg, i6_add, i6_sub, i6_mul, i6_neg, i3_lt, i3_le, i3_eq, i6_lt, i6_eq, i3_div, i6_div, i6_i3, i3_i6, c6_lt, c6_ge, c6_gt, c6_le, c6_eq, i3_ite, i6_ite, ib_0, ib_z, ite_not, i1_0, i0_0, jB_1, jB_0, jB_ib, bI_v, bL_v, bD_v, bV_v, ob_s, ob_i, i3_ofNat, jx_e, bI_e, bL_e, bD_e, bV_e, i3_eq0, i6_eq0, if_mx, if_mn, if_true, if_false, not_true_eq_false, not_false_eq_true, Int.reduceEq, Int.reduceLT, Int.reduceLE]
  exact hl
def nmOk (v : Nat → Int → Int) : Prop := ∀ k : Int, 0 ≤ k → k < v 412 0 → 0 ≤ v 412 (12 + 13 * k + 0) ∧ v 412 (12 + 13 * k + 0) < 2147483648
/-- the series with a name -/
def nmF (v : Nat → Int → Int) (x : Int) : Int := fnd (fun k : Nat => v 412 (12 + 13 * k + 0) = x) (fun k => (k : Int)) (-1) 0 (v 412 0).toNat
theorem sX12_seriesNamed {x : Int} (hT : 18 ≤ T) (hc0 : 0 ≤ v 412 0) (hc1 : v 412 0 ≤ 5) (hp : nmOk v) (h2 : 0 ≤ x) (h3 : x < 2147483648) :
    jm_env (d + 2) 216 [.ref 411, .int (i3 x)] (qM X v w T c s) = some (.inl (some (.int (i3 (nmF v x)))), (qM X v w T c s)) := by
  have hl := ch_f (p := fun k : Nat => v 412 (12 + 13 * k + 0) = x) (fun k : Nat => jm_R (jm_env (d + 1)) jmM_X12_seriesNamed 2 [some (.ref 411), some (.int (i3 x)), some (.int (i3 k))] [] (qM X v w T c s)) (fun k : Nat => some (.inl (some (.int (i3 (k)))), (qM X v w T c s))) (some (.inl (some (.int (i3 (-1)))), (qM X v w T c s))) (v 412 0).toNat (fun k hk => by
    obtain ⟨b0, b1⟩ := hp k (by omega) (by omega)
    rw [bX12_seriesNamed_2]
    simp (disch := first | assumption | omega) only [eX12_seriesNamed, bX12_seriesNamed_0, bX12_seriesNamed_14, bX12_seriesNamed_30, bX12_seriesNamed_32, bX12_seriesNamed_38, r12_0, a12_0, w12_0, n12_0, i3_add, i3_sub, i3_mul, i3_neg, i6_add, i6_sub, i6_mul, i6_neg, i3_lt, i3_le, i3_eq, i6_lt, i6_eq, i3_div, i6_div, i6_i3, i3_i6, c6_lt, c6_ge, c6_gt, c6_le, c6_eq, i3_ite, i6_ite, ib_0, ib_z, ite_not, i1_0, i0_0, jB_1, jB_0, jB_ib, bI_v, bL_v, bD_v, bV_v, ob_s, ob_i, i3_ofNat, jx_e, bI_e, bL_e, bD_e, bV_e, i3_eq0, i6_eq0, if_mx, if_mn, if_true, if_false, not_true_eq_false, not_false_eq_true, Int.reduceEq, Int.reduceLT, Int.reduceLE, sX12_seriesAt]
    rw [if_neg (by omega)]
    rfl) (by
    rw [bX12_seriesNamed_2]
    simp (disch := first | assumption | omega) only [eX12_seriesNamed, bX12_seriesNamed_0, bX12_seriesNamed_14, bX12_seriesNamed_30, bX12_seriesNamed_32, bX12_seriesNamed_38, r12_0, a12_0, w12_0, n12_0, i3_add, i3_sub, i3_mul, i3_neg, i6_add, i6_sub, i6_mul, i6_neg, i3_lt, i3_le, i3_eq, i6_lt, i6_eq, i3_div, i6_div, i6_i3, i3_i6, c6_lt, c6_ge, c6_gt, c6_le, c6_eq, i3_ite, i6_ite, ib_0, ib_z, ite_not, i1_0, i0_0, jB_1, jB_0, jB_ib, bI_v, bL_v, bD_v, bV_v, ob_s, ob_i, i3_ofNat, jx_e, bI_e, bL_e, bD_e, bV_e, i3_eq0, i6_eq0, if_mx, if_mn, if_true, if_false, not_true_eq_false, not_false_eq_true, Int.reduceEq, Int.reduceLT, Int.reduceLE]
    rw [if_pos (by omega)])
  rw [fnd_map (fun z : Int => (some (.inl (some (.int (i3 (z)))), (qM X v w T c s)) : Option jm_Res))] at hl
  simp (disch := first | assumption | omega) only [eX12_seriesNamed, bX12_seriesNamed_0, bX12_seriesNamed_14, bX12_seriesNamed_30, bX12_seriesNamed_32, bX12_seriesNamed_38, r12_0, a12_0, w12_0, n12_0, i3_add, i3_sub, i3_mul, i3_neg, i6_add, i6_sub, i6_mul, i6_neg, i3_lt, i3_le, i3_eq, i6_lt, i6_eq, i3_div, i6_div, i6_i3, i3_i6, c6_lt, c6_ge, c6_gt, c6_le, c6_eq, i3_ite, i6_ite, ib_0, ib_z, ite_not, i1_0, i0_0, jB_1, jB_0, jB_ib, bI_v, bL_v, bD_v, bV_v, ob_s, ob_i, i3_ofNat, jx_e, bI_e, bL_e, bD_e, bV_e, i3_eq0, i6_eq0, if_mx, if_mn, if_true, if_false, not_true_eq_false, not_false_eq_true, Int.reduceEq, Int.reduceLT, Int.reduceLE]
  exact hl
theorem sX12_copies {a b : Nat} {fr to : Int} (F : Nat → jm_Mem) (g : Int → Int) (hr : ∀ k : Nat, k < 167 → jm_aL (F k) a (i3 (fr + k)) = some (i6 (g k))) (hw : ∀ k : Nat, k < 167 → jm_wL (F k) b (i3 (to + k)) (i6 (g k)) = some (F (k + 1))) :
    jm_env (d + 1) 212 [.ref a, .int (i3 fr), .ref b, .int (i3 to)] (F 0) = some (.inl none, F 167) := by
  have hl := ch_n (fun k : Nat => jm_R (jm_env d) jmM_X12_copies 3 [some (.ref a), some (.int (i3 fr)), some (.ref b), some (.int (i3 to)), some (.int (i3 k))] [] (F k)) 167 (fun k hk => by
    rw [bX12_copies_3]
    simp (disch := first | assumption | omega) only [eX12_copies, bX12_copies_0, bX12_copies_11, bX12_copies_29, i3_add, i3_sub, i3_mul, i3_neg, i6_add, i6_sub, i6_mul, i6_neg, i3_lt, i3_le, i3_eq, i6_lt, i6_eq, i3_div, i6_div, i6_i3, i3_i6, c6_lt, c6_ge, c6_gt, c6_le, c6_eq, i3_ite, i6_ite, ib_0, ib_z, ite_not, i1_0, i0_0, jB_1, jB_0, jB_ib, bI_v, bL_v, bD_v, bV_v, ob_s, ob_i, i3_ofNat, jx_e, bI_e, bL_e, bD_e, bV_e, i3_eq0, i6_eq0, if_mx, if_mn, if_true, if_false, not_true_eq_false, not_false_eq_true, Int.reduceEq, Int.reduceLT, Int.reduceLE, hr k hk, hw k hk]
    rw [if_neg (by omega)]
    rfl)
  simp (disch := first | assumption | omega) only [eX12_copies, bX12_copies_0, bX12_copies_11, bX12_copies_29, i3_add, i3_sub, i3_mul, i3_neg, i6_add, i6_sub, i6_mul, i6_neg, i3_lt, i3_le, i3_eq, i6_lt, i6_eq, i3_div, i6_div, i6_i3, i3_i6, c6_lt, c6_ge, c6_gt, c6_le, c6_eq, i3_ite, i6_ite, ib_0, ib_z, ite_not, i1_0, i0_0, jB_1, jB_0, jB_ib, bI_v, bL_v, bD_v, bV_v, ob_s, ob_i, i3_ofNat, jx_e, bI_e, bL_e, bD_e, bV_e, i3_eq0, i6_eq0, if_mx, if_mn, if_true, if_false, not_true_eq_false, not_false_eq_true, Int.reduceEq, Int.reduceLT, Int.reduceLE]
  refine Eq.trans hl ?_
  rw [bX12_copies_3]
  simp (disch := first | assumption | omega) only [eX12_copies, bX12_copies_0, bX12_copies_11, bX12_copies_29, i3_add, i3_sub, i3_mul, i3_neg, i6_add, i6_sub, i6_mul, i6_neg, i3_lt, i3_le, i3_eq, i6_lt, i6_eq, i3_div, i6_div, i6_i3, i3_i6, c6_lt, c6_ge, c6_gt, c6_le, c6_eq, i3_ite, i6_ite, ib_0, ib_z, ite_not, i1_0, i0_0, jB_1, jB_0, jB_ib, bI_v, bL_v, bD_v, bV_v, ob_s, ob_i, i3_ofNat, jx_e, bI_e, bL_e, bD_e, bV_e, i3_eq0, i6_eq0, if_mx, if_mn, if_true, if_false, not_true_eq_false, not_false_eq_true, Int.reduceEq, Int.reduceLT, Int.reduceLE]
  rw [if_pos (by omega)]
end MO3
