-- uses 24.zar 25.obj 26.ops 27.ra 29.rc 34.gen 35.byt 36.ser 37.lnd 38.mod 39.mo2 40.mo3 44.mo6 45.mo7 46.mo8 47.mo9 48.moa 53.cla 58.clf 61.cli 62.clj
/-! Land and numbers, changed alike. -/
section LRU
variable {v μ : Nat → Int → Int} {z : Int}
theorem lr_stack (h : lr v 14 μ) (hc : μ 412 0 ≤ 5) (hp : μ 412 3 ≤ 30) {i : Nat} {n : Int} (hi : (i : Int) < μ 412 0) (n0 : 0 ≤ n) (n1 : n < 10) : lr (up v (14 + 7 + 5 * i + 4) n z) 14 (up μ 412 (12 + 13 * i + 3 + n) z) := by
  obtain ⟨⟨q0, q1, q2, q3⟩, qa, qp, qs⟩ := h
  refine ⟨⟨?_, ?_, ?_, ?_⟩, fun k k0 k1 => ?_, fun j j0 j1 => ?_, fun i' hi' => ?_⟩
  · rw [up_ne (by omega), up_ne (by omega)]; exact q0
  · rw [up_ne (by omega), up_ne (by omega)]; exact q1
  · rw [up_ne (by omega), up_ne (by omega)]; exact q2
  · rw [up_ne (by omega), up_ne (by omega)]; exact q3
  · rw [up_ne (by omega), up_ne (by omega)]; exact qa k k0 k1
  · rw [up_ne (by omega)] at j1
    rw [up_ne (by omega), up_ne (by omega), up_ne (by omega), up_ne (by omega), up_ne (by omega), up_ne (by omega)]; exact qp j j0 j1
  · rw [up_ne (by omega)] at hi'
    obtain ⟨r, nn⟩ := qs i' hi'
    refine ⟨fun m m0 m1 => ?_, ?_⟩
    · obtain ⟨r1, r2, r3⟩ := r m m0 m1
      rw [szM_up (by omega)]
      refine ⟨?_, ?_, ?_⟩
      · rw [up_ne (by omega)]; exact r1
      · rw [up_ne (by omega)]; exact r2
      · unfold kM at r3 ⊢
        by_cases g : i' = i ∧ m = n
        · obtain ⟨rfl, rfl⟩ := g
          rw [up_eq, up_eq]
        · rw [up_ne (by omega), up_ne (by omega)]; exact r3
    · unfold rn
      rw [up_ne (by omega), up_b (by omega), up_ne (by omega)]
      exact nn
theorem lr_acc (h : lr v 14 μ) (hc : μ 412 0 ≤ 5) {k : Int} (k0 : 0 ≤ k) (k1 : k < 8) : lr (up v (14 + 6) k z) 14 (up μ 412 (4 + k) z) := by
  obtain ⟨⟨q0, q1, q2, q3⟩, qa, qp, qs⟩ := h
  refine ⟨⟨?_, ?_, ?_, ?_⟩, fun j j0 j1 => ?_, fun j j0 j1 => ?_, fun i' hi' => ?_⟩
  · rw [up_ne (by omega), up_ne (by omega)]; exact q0
  · rw [up_ne (by omega), up_ne (by omega)]; exact q1
  · rw [up_ne (by omega), up_ne (by omega)]; exact q2
  · rw [up_ne (by omega), up_ne (by omega)]; exact q3
  · by_cases g : j = k
    · subst g; rw [up_eq, up_eq]
    · rw [up_ne (by omega), up_ne (by omega)]; exact qa j j0 j1
  · rw [up_ne (by omega)] at j1
    rw [up_ne (by omega), up_ne (by omega), up_ne (by omega), up_ne (by omega), up_ne (by omega), up_ne (by omega)]; exact qp j j0 j1
  · rw [up_ne (by omega)] at hi'
    obtain ⟨r, nn⟩ := qs i' hi'
    refine ⟨fun m m0 m1 => ?_, ?_⟩
    · obtain ⟨r1, r2, r3⟩ := r m m0 m1
      unfold kM at r3 ⊢
      rw [szM_up (by omega), up_ne (by omega), up_ne (by omega), up_ne (by omega), up_ne (by omega)]
      exact ⟨r1, r2, r3⟩
    · unfold rn
      rw [up_ne (by omega), up_b (by omega), up_ne (by omega)]
      exact nn
theorem lr_edge (h : lr v 14 μ) (hc : μ 412 0 ≤ 5) {k : Int} (hk : k = 0 ∨ k = 1) : lr (up v 14 k z) 14 (up μ 412 (1 + k) z) := by
  obtain ⟨⟨q0, q1, q2, q3⟩, qa, qp, qs⟩ := h
  refine ⟨⟨?_, ?_, ?_, ?_⟩, fun j j0 j1 => ?_, fun j j0 j1 => ?_, fun i' hi' => ?_⟩
  · rcases hk with rfl | rfl
    · rw [up_eq]; exact up_eq.symm
    · rw [up_ne (by omega), up_ne (by omega)]; exact q0
  · rcases hk with rfl | rfl
    · rw [up_ne (by omega), up_ne (by omega)]; exact q1
    · rw [up_eq]; exact up_eq.symm
  · rw [up_ne (by omega), up_ne (by omega)]; exact q2
  · rw [up_ne (by omega), up_ne (by omega)]; exact q3
  · rw [up_ne (by omega), up_ne (by omega)]; exact qa j j0 j1
  · rw [up_ne (by omega)] at j1
    rw [up_ne (by omega), up_ne (by omega), up_ne (by omega), up_ne (by omega), up_ne (by omega), up_ne (by omega)]; exact qp j j0 j1
  · rw [up_ne (by omega)] at hi'
    obtain ⟨r, nn⟩ := qs i' hi'
    refine ⟨fun m m0 m1 => ?_, ?_⟩
    · obtain ⟨r1, r2, r3⟩ := r m m0 m1
      unfold kM at r3 ⊢
      rw [szM_up (by omega), up_ne (by omega), up_ne (by omega), up_ne (by omega), up_ne (by omega)]
      exact ⟨r1, r2, r3⟩
    · unfold rn
      rw [up_ne (by omega), up_b (by omega), up_ne (by omega)]
      exact nn
theorem lr_pnum (h : lr v 14 μ) (hc : μ 412 0 ≤ 5) {k : Int} (k0 : 0 ≤ k) (k1 : k < μ 412 3) : lr (up v (14 + 5) k z) 14 (up μ 412 (77 + 3 * k + 2) z) := by
  obtain ⟨⟨q0, q1, q2, q3⟩, qa, qp, qs⟩ := h
  refine ⟨⟨?_, ?_, ?_, ?_⟩, fun j j0 j1 => ?_, fun j j0 j1 => ?_, fun i' hi' => ?_⟩
  · rw [up_ne (by omega), up_ne (by omega)]; exact q0
  · rw [up_ne (by omega), up_ne (by omega)]; exact q1
  · rw [up_ne (by omega), up_ne (by omega)]; exact q2
  · rw [up_ne (by omega), up_ne (by omega)]; exact q3
  · rw [up_ne (by omega), up_ne (by omega)]; exact qa j j0 j1
  · rw [up_ne (by omega)] at j1
    obtain ⟨r1, r2, r3⟩ := qp j j0 j1
    rw [up_ne (by omega), up_ne (by omega), up_ne (by omega), up_ne (by omega)]
    refine ⟨r1, r2, ?_⟩
    by_cases g : j = k
    · subst g; rw [up_eq, up_eq]
    · rw [up_ne (by omega), up_ne (by omega)]; exact r3
  · rw [up_ne (by omega)] at hi'
    obtain ⟨r, nn⟩ := qs i' hi'
    refine ⟨fun m m0 m1 => ?_, ?_⟩
    · obtain ⟨r1, r2, r3⟩ := r m m0 m1
      unfold kM at r3 ⊢
      rw [szM_up (by omega), up_ne (by omega), up_ne (by omega), up_ne (by omega), up_ne (by omega)]
      exact ⟨r1, r2, r3⟩
    · unfold rn
      rw [up_ne (by omega), up_b (by omega), up_ne (by omega)]
      exact nn
theorem lr_pnew (h : lr v 14 μ) (hc : μ 412 0 ≤ 5) (hp0 : 0 ≤ μ 412 3) {a b q : Int} : lr (up (up (up (up v (14 + 3) (μ 412 3) a) (14 + 4) (μ 412 3) b) (14 + 5) (μ 412 3) q) (14 + 2) 3 (μ 412 3 + 1)) 14 (up (up (up (up μ 412 3 (μ 412 3 + 1)) 412 (77 + 3 * μ 412 3) a) 412 (77 + 3 * μ 412 3 + 1) b) 412 (77 + 3 * μ 412 3 + 2) q) := by
  obtain ⟨⟨q0, q1, q2, q3⟩, qa, qp, qs⟩ := h
  have e3 : up (up (up (up μ 412 3 (μ 412 3 + 1)) 412 (77 + 3 * μ 412 3) a) 412 (77 + 3 * μ 412 3 + 1) b) 412 (77 + 3 * μ 412 3 + 2) q 412 3 = μ 412 3 + 1 := by rw [up_ne (by omega), up_ne (by omega), up_ne (by omega), up_eq]
  refine ⟨⟨?_, ?_, ?_, ?_⟩, fun j j0 j1 => ?_, fun j j0 j1 => ?_, fun i' hi' => ?_⟩
  · rw [up_ne (by omega), up_ne (by omega), up_ne (by omega), up_ne (by omega), up_ne (by omega), up_ne (by omega), up_ne (by omega), up_ne (by omega)]; exact q0
  · rw [up_ne (by omega), up_ne (by omega), up_ne (by omega), up_ne (by omega), up_ne (by omega), up_ne (by omega), up_ne (by omega), up_ne (by omega)]; exact q1
  · rw [up_ne (by omega), up_ne (by omega), up_ne (by omega), up_ne (by omega), up_ne (by omega), up_ne (by omega), up_ne (by omega), up_ne (by omega)]; exact q2
  · rw [e3, up_eq]
  · rw [up_ne (by omega), up_ne (by omega), up_ne (by omega), up_ne (by omega), up_ne (by omega), up_ne (by omega), up_ne (by omega), up_ne (by omega)]; exact qa j j0 j1
  · rw [e3] at j1
    by_cases g : j = μ 412 3
    · rw [g]
      refine ⟨?_, ?_, ?_⟩
      · rw [up_ne (by omega), up_ne (by omega), up_ne (by omega), up_eq, up_ne (by omega), up_ne (by omega), up_eq]
      · rw [up_ne (by omega), up_ne (by omega), up_eq, up_ne (by omega), up_eq]
      · rw [up_ne (by omega), up_eq, up_eq]
    · obtain ⟨r1, r2, r3⟩ := qp j j0 (by omega)
      refine ⟨?_, ?_, ?_⟩
      · rw [up_ne (by omega), up_ne (by omega), up_ne (by omega), up_ne (by omega), up_ne (by omega), up_ne (by omega), up_ne (by omega), up_ne (by omega)]; exact r1
      · rw [up_ne (by omega), up_ne (by omega), up_ne (by omega), up_ne (by omega), up_ne (by omega), up_ne (by omega), up_ne (by omega), up_ne (by omega)]; exact r2
      · rw [up_ne (by omega), up_ne (by omega), up_ne (by omega), up_ne (by omega), up_ne (by omega), up_ne (by omega), up_ne (by omega), up_ne (by omega)]; exact r3
  · rw [up_ne (by omega), up_ne (by omega), up_ne (by omega), up_ne (by omega)] at hi'
    obtain ⟨r, nn⟩ := qs i' hi'
    refine ⟨fun m m0 m1 => ?_, ?_⟩
    · obtain ⟨r1, r2, r3⟩ := r m m0 m1
      unfold kM at r3 ⊢
      rw [szM_up (by omega), szM_up (by omega), szM_up (by omega), szM_up (by omega)]
      refine ⟨?_, ?_, ?_⟩
      · rw [up_ne (by omega), up_ne (by omega), up_ne (by omega), up_ne (by omega)]; exact r1
      · rw [up_ne (by omega), up_ne (by omega), up_ne (by omega), up_ne (by omega)]; exact r2
      · rw [up_ne (by omega), up_ne (by omega), up_ne (by omega), up_ne (by omega), up_ne (by omega), up_ne (by omega), up_ne (by omega), up_ne (by omega)]; exact r3
    · unfold rn
      rw [up_ne (by omega), up_ne (by omega), up_ne (by omega), up_ne (by omega), up_b (by omega), up_b (by omega), up_b (by omega), up_b (by omega), up_ne (by omega), up_ne (by omega), up_ne (by omega), up_ne (by omega)]
      exact nn
end LRU
theorem hR_cg {v μ μ' : Nat → Int → Int} {n : Int} (h : hR v μ n) (h1 : μ' 411 7 = μ 411 7) (h2 : μ' 415 = μ 415) : hR v μ' n := by
  unfold hR at h ⊢
  have e : ∀ j, rw3 μ' j = rw3 μ j := fun j => by unfold rw3; rw [h2]
  rw [h1]
  exact ⟨h.1, fun j j0 j1 => by rw [e]; exact h.2 j j0 j1⟩
theorem hR_fr {v v' μ : Nat → Int → Int} {n : Int} (h : hR v μ n) (hf : ∀ m, 78 ≤ m → m < 336 → v' m = v m) : hR v' μ n := by
  obtain ⟨⟨h1, h2, h3, h4, h5⟩, hj⟩ := h
  have e : v' 78 = v 78 := hf 78 (by omega) (by omega)
  unfold hR
  rw [e]
  refine ⟨⟨h1, h2, h3, h4, h5⟩, fun j j0 j1 => ?_⟩
  obtain ⟨hl, ho⟩ := hj j j0 j1
  exact ⟨lr_fr (fun n n0 n1 => hf n (by omega) (by omega)) ho.1.2.1 hl, ho⟩
theorem hR_le {v μ : Nat → Int → Int} {n m : Int} (h : hR v μ n) (hm : n ≤ m) : hR v μ m := ⟨h.1, fun j j0 j1 => ⟨(h.2 j j0 j1).1, okM_le (h.2 j j0 j1).2 hm⟩⟩
theorem kpV_415 {u μ : Nat → Int → Int} {g : Int → Int} (h1 : u 411 7 = μ 411 7) (h2 : u 415 = μ 415) : kpV u g 415 = kpV μ g 415 ∧ kpV u g 411 7 = kpV μ g 411 7 := by
  have e1 : shV u 411 7 = shV μ 411 7 := by
    unfold shV
    rw [h1]
    split
    · rw [up_eq, up_eq]
    · exact h1
  have e2 : shV u 415 = shV μ 415 := by
    unfold shV
    rw [h1]
    split
    · rw [up_b (by omega), up_b (by omega)]
      funext k
      unfold fil
      rw [h2]
    · exact h2
  refine ⟨?_, ?_⟩
  · unfold kpV
    rw [up_b (by omega), up_b (by omega), e1]
    funext k
    unfold flo
    rw [e2]
  · unfold kpV
    rw [up_eq, up_eq, e1]
