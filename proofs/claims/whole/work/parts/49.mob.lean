-- uses 24.zar 25.obj 26.ops 30.rd 31.re 34.gen 38.mod 39.mo2 40.mo3 41.bit 42.mo4 43.mo5 44.mo6 45.mo7 46.mo8 47.mo9 48.moa
/-! The reference: orders. -/
/-- the numbers of one series behind an order of q sheets of size n: its stacks -/
def fsF (K : Int → Int) (q : Int) (n : Nat) (k : Int) : Int := K k + 2 * cuF K q n (k - 1) - cuF K q n k - (if k = n then q else 0)
def fsG (K : Int → Int) (q : Int) (n : Nat) (m : Int) (k : Int) : Int := K k + 2 * cuF K q n (k - 1) - (if k < m then cuF K q n k else 0)
/-- the strips of the cuts for an order -/
def fsS (v : Nat → Int → Int) (i : Int) (q : Int) (n : Nat) : Int := fo (strM v i (cuF (kM v i) q n)) 0 10
/-- an order filled -/
def flU (v : Nat → Int → Int) (i : Int) (n : Nat) (a b q : Int) : Nat → Int → Int :=
  up (up (up (up (flo (up (up v 412 8 (v 412 8 + cuS (kM v i) q n n)) 412 7 (v 412 7 + fsS v i q n)) 412 (12 + 13 * i + 3) (fsF (kM v i) q n) ((n : Int) + 1)) 412 5 (v 412 5 + a * b * q)) 412 6 (v 412 6 + (aM v i n - a * b) * q)) 412 9 (v 412 9 + 1)) 412 10 (v 412 10 + q)
def flR (v : Nat → Int → Int) (a b q : Int) : Int := if (nrA v a b q).1 = -1 then (if fo2 (fitG v a b) 0 (v 412 0).toNat = 0 then -6 else -7) else 100 * (nrA v a b q).1 + (nrA v a b q).2
def flV (v : Nat → Int → Int) (a b q : Int) : Nat → Int → Int := if (nrA v a b q).1 = -1 then v else kpsV (flU v (nrA v a b q).1 (nrA v a b q).2.toNat a b q) a b q
theorem prOk_cg {v v' : Nat → Int → Int} (h : prOk v) (e : ∀ k : Int, k = 3 ∨ 77 ≤ k → v' 412 k = v 412 k) : prOk v' := by
  obtain ⟨h0, h1, h2⟩ := h
  unfold prOk
  rw [e 3 (Or.inl rfl)]
  refine ⟨h0, h1, fun k k0 k1 => ?_⟩
  rw [e _ (Or.inr (by omega)), e _ (Or.inr (by omega))]
  exact h2 k k0 k1
theorem flo_id {v : Nat → Int → Int} {b : Nat} {to : Int} {g : Int → Int} (h : g 0 = v b to) : flo v b to g 1 = v := by
  funext n k
  unfold flo
  by_cases q : n = b ∧ to ≤ k ∧ k < to + 1
  · have e : k = to := by omega
    rw [if_pos q, q.1, e, Int.sub_self, h]
  · rw [if_neg q]
theorem up_flo_in {v : Nat → Int → Int} {b : Nat} {to m k z : Int} {g h : Int → Int} (h0 : to ≤ k) (h1 : k < to + m) (hk : h (k - to) = z) (hh : ∀ j, 0 ≤ j → j < m → j ≠ k - to → h j = g j) : up (flo v b to g m) b k z = flo v b to h m := by
  funext n j
  unfold up flo
  by_cases e : n = b ∧ j = k
  · rw [if_pos e, if_pos (by omega), e.2, hk]
  · rw [if_neg e]
    by_cases q : n = b ∧ to ≤ j ∧ j < to + m
    · rw [if_pos q, if_pos q, hh _ (by omega) (by omega) (by omega)]
    · rw [if_neg q, if_neg q]
section MOB
variable {d : Nat} {X : Nat × (Nat → Int32)} {v w : Nat → Int → Int} {T c s : Nat}
theorem cuF_b {K : Int → Int} {q : Int} {n : Nat} (hq : 0 ≤ q) (hK : ∀ k : Int, 0 ≤ k → k ≤ n → 0 ≤ K k) (k : Int) : 0 ≤ cuF K q n k ∧ cuF K q n k ≤ q := by
  unfold cuF
  split
  · exact nd_b hq hK _ (by omega)
  · omega
/-- the stacks, cut by cut -/
theorem fills_loop {i a b q A W : Int} {n : Nat} {f : Int → Int} {u : Nat → Int → Int} {p : Int × Int} {xs : jm_Loc} (hT : 18 ≤ T) (hi0 : 0 ≤ i) (hi1 : i < 5) (hn : n < 10) (hw1 : w 411 11 = i) (hw2 : w 411 12 = n) (hf : ∀ k : Int, 0 ≤ k → k < 10 → w 419 k = cuF f q n k) (hu : ∀ k : Int, 0 ≤ k → k < 10 → u 412 (12 + 13 * i + 3 + k) = f k) :
    jm_R (jm_env (d + 1)) jmM_X12_fills 81 [some (.ref 411), some (.int (i3 a)), some (.int (i3 b)), some (.int (i3 q)), some (.long (i6 A)), none, some (.int (i3 0)), none] [] (qM X u w T c s) =
    jm_R (jm_env (d + 1)) jmM_X12_fills 81 [some (.ref 411), some (.int (i3 a)), some (.int (i3 b)), some (.int (i3 q)), some (.long (i6 A)), none, some (.int (i3 n)), none] [] (qM X (flo u 412 (12 + 13 * i + 3) (fsG f q n n) ((n : Int) + 1)) w T c s) := by
  have h := ch_n (fun k : Nat => jm_R (jm_env (d + 1)) jmM_X12_fills 81 [some (.ref 411), some (.int (i3 a)), some (.int (i3 b)), some (.int (i3 q)), some (.long (i6 A)), none, some (.int (i3 k)), none] [] (qM X (flo u 412 (12 + 13 * i + 3) (fsG f q n k) ((k : Int) + 1)) w T c s)) n (fun k hk => by
    have h1 := hf k (by omega) (by omega)
    have h2 := hu k (by omega) (by omega)
    have h3 := hu ((k : Int) + 1) (by omega) (by omega)
    rw [bX12_fills_81]
    simp (disch := first | assumption | omega) only [eX12_fills, bX12_fills_0, bX12_fills_15, bX12_fills_24, bX12_fills_29, bX12_fills_31, bX12_fills_32, bX12_fills_90, bX12_fills_150, g12_11, g12_12, r12_0, a12_0, w12_0, n12_0, r12_13, a12_13, w12_13, n12_13, i3_add, i3_sub, i3_mul, i3_neg, i6_add, i6_sub, i6_mul, i6_neg, i3_lt, i3_le, i3_eq, i6_lt, i6_eq, i3_div, i6_div, i6_i3, i3_i6, c6_lt, c6_ge, c6_gt, c6_le, c6_eq, i3_ite, i6_ite, ib_0, ib_z, ite_not, i1_0, i0_0, jB_1, jB_0, jB_ib, bI_v, bL_v, bD_v, bV_v, ob_s, ob_i, i3_ofNat, jx_e, bI_e, bL_e, bD_e, bV_e, i3_eq0, i6_eq0, if_mx, if_mn, if_true, if_false, not_true_eq_false, not_false_eq_true, Int.reduceEq, Int.reduceLT, Int.reduceLE, hw1, hw2, sX12_stackAt, h1]
    rw [if_neg (by omega)]
    have e1 : flo u 412 (12 + 13 * i + 3) (fsG f q n k) ((k : Int) + 1) 412 (12 + 13 * i + 3 + k) = fsG f q n k k := by
      rw [flo_in (by omega) (by omega), show 12 + 13 * i + 3 + (k : Int) - (12 + 13 * i + 3) = k by omega]
    have e2 : up (flo u 412 (12 + 13 * i + 3) (fsG f q n k) ((k : Int) + 1)) 412 (12 + 13 * i + 3 + k) (fsG f q n k k - cuF f q n k) = flo u 412 (12 + 13 * i + 3) (fsG f q n ((k : Int) + 1)) ((k : Int) + 1) := by
      refine up_flo_in (by omega) (by omega) ?_ ?_
      · rw [show 12 + 13 * i + 3 + (k : Int) - (12 + 13 * i + 3) = k by omega]
        unfold fsG
        rw [if_pos (by omega), if_neg (by omega)]
        omega
      · intro j j0 j1 j2
        unfold fsG
        rw [if_pos (by omega), if_pos (by omega)]
    have e3 : flo u 412 (12 + 13 * i + 3) (fsG f q n ((k : Int) + 1)) ((k : Int) + 1) 412 (12 + 13 * i + 3 + ((k : Int) + 1)) = f ((k : Int) + 1) := by
      rw [flo_ne (by omega), h3]
    rw [e1, e2, e3]
    have e4 : up (flo u 412 (12 + 13 * i + 3) (fsG f q n ((k : Int) + 1)) ((k : Int) + 1)) 412 (12 + 13 * i + 3 + ((k : Int) + 1)) (f ((k : Int) + 1) + 2 * cuF f q n k) = flo u 412 (12 + 13 * i + 3) (fsG f q n ((k + 1 : Nat) : Int)) (((k + 1 : Nat) : Int) + 1) := by
      refine flo_up (by omega) ?_
      unfold fsG
      rw [if_neg (by omega), show (k : Int) + 1 - 1 = k by omega]
      omega
    rw [e4]
    rfl)
  have e0 : flo u 412 (12 + 13 * i + 3) (fsG f q n ((0 : Nat) : Int)) (((0 : Nat) : Int) + 1) = u := by
    refine flo_id ?_
    have h1 := hu 0 (by omega) (by omega)
    rw [show 12 + 13 * i + 3 + 0 = 12 + 13 * i + 3 by omega] at h1
    rw [h1]
    unfold fsG cuF
    rw [if_neg (by omega), if_neg (by omega)]
    omega
  rw [e0] at h
  exact h
end MOB
