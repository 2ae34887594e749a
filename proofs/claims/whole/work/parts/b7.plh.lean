-- uses 24.zar 25.obj 26.ops 34.gen 38.mod 39.mo2 40.mo3 41.bit 44.mo6 45.mo7 46.mo8 47.mo9 48.moa 49.mob 50.moc 51.moe 53.cla 62.clj 64.okm 65.cll 68.okg 69.cln 70.clo 93.tka 97.srp b0.pla b3.pld b4.ple
/-! What an order leaves alone. -/
/-- the cell of a name -/
def nmI (k : Int) : Prop := ∃ j : Int, 0 ≤ j ∧ j < 5 ∧ k = 12 + 13 * j + 0
theorem byV_nm {μ : Nat → Int → Int} {i n r k : Int} (i0 : 0 ≤ i) (n0 : 0 ≤ n) (n1 : n < 10) (hk : nmI k) : byV μ i n r 412 k = μ 412 k := by
  obtain ⟨j, j0, j1, rfl⟩ := hk
  unfold byV
  split
  · rfl
  · rw [up_ne (by omega), up_ne (by omega), up_ne (by omega)]
theorem ctV_nm {μ : Nat → Int → Int} {i n r k : Int} (i0 : 0 ≤ i) (n0 : 0 ≤ n) (n1 : n < 10) (hc : ¬ ctR μ i n r < -1) (hk : nmI k) : ctV μ i n r 412 k = μ 412 k := by
  obtain ⟨j, j0, j1, rfl⟩ := hk
  have h9 : n + 1 < 10 := by
    unfold ctR at hc
    split at hc
    · omega
    · omega
  unfold ctV
  split
  · rfl
  · rw [up_ne (by omega), up_ne (by omega), up_ne (by omega), up_ne (by omega)]
theorem kpsV_nm {μ : Nat → Int → Int} {a b q k : Int} (h3 : 0 ≤ μ 412 3) (hk : nmI k) : kpsV μ a b q 412 k = μ 412 k := by
  obtain ⟨j, j0, j1, rfl⟩ := hk
  have := prF_c (v := μ) a b
  unfold kpsV
  split
  · split
    · rfl
    · rw [up_ne (by omega), up_ne (by omega), up_ne (by omega), up_ne (by omega)]
  · rw [up_ne (by omega)]
theorem flV_nm {μ : Nat → Int → Int} {a b q k : Int} (h3 : 0 ≤ μ 412 3) (hk : nmI k) : flV μ a b q 412 k = μ 412 k := by
  unfold flV
  rcases nrA_c (v := μ) a b q 0 with ⟨h1, -⟩ | ⟨-, g3, g4, g5, g6⟩
  · rw [if_pos h1]
  · rw [if_neg (by omega), kpsV_nm (by rw [flU_o (by omega) (by omega) (by omega) (by omega) (by omega) (by omega) (by omega) (by omega)]; exact h3) hk]
    obtain ⟨j, j0, j1, rfl⟩ := hk
    exact flU_o (by omega) (by omega) (by omega) (by omega) (by omega) (by omega) (by omega) (by omega)
theorem tsV_412 {μ u : Nat → Int → Int} {r k : Int} : tsV μ r u 412 k = if r < -1 then μ 412 k else u 412 k := by
  unfold tsV
  split
  · rw [up_ne (by omega)]
  · rfl
theorem oV_nm {μ : Nat → Int → Int} {e : oE} {c k : Int} (h3 : 0 ≤ μ 412 3) (hr : rgO c e) (h5 : e.1 ≠ 5) (hk : nmI k) : (oV μ e).2 412 k = μ 412 k := by
  have hk' := hk
  obtain ⟨j, j0, j1, rfl⟩ := hk'
  unfold oV
  rcases hr with ⟨hk1, hs, hn, hm, -⟩ | ⟨hk1, -⟩ | ⟨hk1, -⟩ | ⟨hk1, -⟩ | ⟨hk1, -⟩
  · by_cases g : e.2.1 = -1
    · rw [if_pos g, if_pos g]
      split
      · show up μ 418 5 (μ 418 5 + 1) 412 _ = μ 412 _
        exact up_ne (by omega)
      · rw [if_pos (by omega)]; show up μ 418 5 (μ 418 5 + 1) 412 _ = μ 412 _
        exact up_ne (by omega)
    · have hs0 : 0 ≤ e.2.1 := by omega
      rw [if_neg g, if_neg g]
      split
      · show tsV μ _ _ 412 _ = _
        rw [tsV_412]
        split
        · rfl
        · exact byV_nm hs0 hn.1 (by omega) hk
      · rw [if_pos (by omega)]; show tsV μ _ _ 412 _ = _
        rw [tsV_412]
        split
        · rfl
        · exact ctV_nm hs0 hn.1 (by omega) (by assumption) hk
  · rw [if_neg (by omega), if_neg (by omega), if_pos hk1]
    show tsV μ _ _ 412 _ = _
    rw [tsV_412]
    split
    · rfl
    · exact flV_nm h3 hk
  · rw [if_neg (by omega), if_neg (by omega), if_neg (by omega), if_pos hk1]
    show up μ 412 1 _ 412 _ = μ 412 _
    exact up_ne (by omega)
  · rw [if_neg (by omega), if_neg (by omega), if_neg (by omega), if_neg (by omega)]
    show up μ 412 2 _ 412 _ = μ 412 _
    exact up_ne (by omega)
  · exact absurd hk1 h5
theorem okM_ts {μ u : Nat → Int → Int} {r m : Int} (h : okM μ m) (hm : ¬ r < -1 → okM u (m + 1)) : okM (tsV μ r u) (m + 1) := by
  unfold tsV
  split
  · exact okM_418 (okM_le h (by omega))
  · exact hm (by assumption)
theorem okM_oV {μ : Nat → Int → Int} {e : oE} {m : Int} (h : okM μ m) (hm0 : 0 ≤ m) (hr : rgO (μ 412 0) e) (h5 : e.1 ≠ 5) : okM (oV μ e).2 (m + 1) := by
  unfold oV
  rcases hr with ⟨hk1, hs, hn, hm, -⟩ | ⟨hk1, ⟨p0, p1⟩, ⟨p2, p3⟩, ⟨p4, p5⟩, -⟩ | ⟨hk1, ⟨p0, p1⟩, -⟩ | ⟨hk1, ⟨p0, p1⟩, -⟩ | ⟨hk1, -⟩
  · by_cases g : e.2.1 = -1
    · rw [if_pos g, if_pos g]
      split
      · exact okM_418 (okM_le h (by omega))
      · rw [if_pos (by omega)]
        exact okM_418 (okM_le h (by omega))
    · rw [if_neg g, if_neg g]
      split
      · exact okM_ts h (fun q => okM_by h (by omega) (by omega) hn.1 (by omega) (by omega) (by omega) hm0 q)
      · rw [if_pos (by omega)]
        exact okM_ts h (fun q => okM_ct h (by omega) (by omega) hn.1 (by omega) (by omega) (by omega) hm0 q)
  · rw [if_neg (by omega), if_neg (by omega), if_pos hk1]
    refine okM_ts h (fun q => okM_fl h p0 p2 p1 p3 p4 p5 hm0 (fun g => q ?_))
    rcases flR_b (μ := μ) (a := e.2.1) (b := e.2.2.1) (q := e.2.2.2.1) with ⟨r1, -⟩ | ⟨-, -, -, r4⟩
    · exact r1
    · exact absurd g r4
  · rw [if_neg (by omega), if_neg (by omega), if_neg (by omega), if_pos hk1]
    exact okM_e (okM_le h (by omega)) (Or.inl ⟨rfl, p0, p1⟩)
  · rw [if_neg (by omega), if_neg (by omega), if_neg (by omega), if_neg (by omega)]
    exact okM_e (okM_le h (by omega)) (Or.inr ⟨rfl, p0, p1⟩)
  · exact absurd hk1 h5
/-- what stays true while orders run -/
def oI (v : Nat → Int → Int) (m c0 : Int) (N : Int → Int) : Prop := okM v m ∧ v 412 0 = c0 ∧ nmOk v ∧ nmF v = N
theorem oI_oV {v : Nat → Int → Int} {e : oE} {m c0 : Int} {N : Int → Int} (h : oI v m c0 N) (hm0 : 0 ≤ m) (hr : rgO c0 e) (h5 : e.1 ≠ 5) : oI (oV v e).2 (m + 1) c0 N := by
  obtain ⟨h1, h2, h3, h4⟩ := h
  have h30 := h1.2.2.2.1.1
  have hc5 := h1.1.2.1
  have e0 := oV_0 h30 hr h5
  have en : ∀ k : Int, 0 ≤ k → k < v 412 0 → (oV v e).2 412 (12 + 13 * k + 0) = v 412 (12 + 13 * k + 0) := fun k k0 k1 => oV_nm h30 hr h5 ⟨k, k0, by omega, rfl⟩
  refine ⟨okM_oV h1 hm0 (by rw [h2]; exact hr) h5, e0.trans h2, fun k k0 k1 => ?_, ?_⟩
  · rw [e0] at k1
    rw [en k k0 k1]
    exact h3 k k0 k1
  · rw [← h4]
    funext x
    unfold nmF
    rw [e0]
    exact fnd_congr _ _ (fun k k0 k1 => by rw [en k (by omega) (by omega)]) (fun k _ _ => rfl)
