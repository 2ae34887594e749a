-- uses 24.zar 25.obj 26.ops 27.ra 29.rc 34.gen 35.byt 36.ser 37.lnd 38.mod 39.mo2 40.mo3 44.mo6 45.mo7 48.moa 53.cla 61.cli
/-! The state kept right; the history. -/
def prN (μ : Nat → Int → Int) (B : Int) : Prop := ∀ j : Int, 0 ≤ j → j < μ 412 3 → 0 ≤ μ 412 (77 + 3 * j + 2) ∧ μ 412 (77 + 3 * j + 2) ≤ B
/-- no stacks behind the last series -/
def stZ (μ : Nat → Int → Int) : Prop := ∀ i n : Int, μ 412 0 ≤ i → i < 5 → 0 ≤ n → n < 10 → kM μ i n = 0
/-- what came is there or went -/
def csM (μ : Nat → Int → Int) : Prop := μ 412 4 = μ 412 5 + μ 412 6 + μ 412 7 + fo2 (areaG μ) 0 (μ 412 0).toNat
def okM (μ : Nat → Int → Int) (n : Int) : Prop := gM μ ∧ (1 ≤ μ 412 2 ∧ μ 412 2 ≤ 500) ∧ zM μ ∧ prOk μ ∧ prN μ (1000 * n) ∧ acOk μ (1000000000000 * n) ∧ stZ μ ∧ csM μ
/-- the same numbers -/
def eqS (μ' μ : Nat → Int → Int) : Prop := ∀ k : Int, 0 ≤ k → k < 167 → μ' 412 k = μ 412 k
section EQS
variable {μ μ' : Nat → Int → Int} (h : eqS μ' μ)
theorem eqS.sz (h : eqS μ' μ) {i : Int} (i0 : 0 ≤ i) (i1 : i < 5) (n : Int) : szM μ' i n = szM μ i n := by
  unfold szM
  rw [h _ (by omega) (by omega), h _ (by omega) (by omega)]
theorem eqS.a (h : eqS μ' μ) {i : Int} (i0 : 0 ≤ i) (i1 : i < 5) (n : Int) : aM μ' i n = aM μ i n := by
  unfold aM
  rw [h.sz i0 i1]
theorem eqS.k (h : eqS μ' μ) {i n : Int} (i0 : 0 ≤ i) (i1 : i < 5) (n0 : 0 ≤ n) (n1 : n < 10) : kM μ' i n = kM μ i n := by
  unfold kM
  rw [h _ (by omega) (by omega)]
theorem eqS.area (h : eqS μ' μ) {m : Nat} (hm : m ≤ 5) : fo2 (areaG μ') 0 m = fo2 (areaG μ) 0 m := fo2_congr m (fun k n x hk hn => by
  unfold areaG
  rw [h.k (by omega) (by omega) (by omega) (by omega), h.a (by omega) (by omega)])
theorem eqS.ok (h : eqS μ' μ) {n : Int} (ho : okM μ n) : okM μ' n := by
  obtain ⟨⟨g0, g1, g2, g3, g4⟩, ⟨r0, r1⟩, hz, ⟨p0, p1, p2⟩, hn, ha, hs, hc⟩ := ho
  have e0 := h 0 (by omega) (by omega)
  have e1 := h 1 (by omega) (by omega)
  have e2 := h 2 (by omega) (by omega)
  have e3 := h 3 (by omega) (by omega)
  refine ⟨⟨by omega, by omega, by omega, by omega, fun i i0 i1 => ?_⟩, ⟨by omega, by omega⟩, fun i i0 i1 => ?_, ⟨by omega, by omega, fun k k0 k1 => ?_⟩, fun j j0 j1 => ?_, fun k k0 k1 => ?_, fun i n i0 i1 n0 n1 => ?_, ?_⟩
  · obtain ⟨o, k⟩ := g4 i i0 (by omega)
    refine ⟨?_, fun n n0 n1 => ?_⟩
    · unfold oM at o ⊢
      rw [h _ (by omega) (by omega), h _ (by omega) (by omega)]
      exact o
    · rw [h.k i0 (by omega) n0 n1]
      exact k n n0 n1
  · have := hz i i0 (by omega)
    rw [h _ (by omega) (by omega), h _ (by omega) (by omega)]
    exact this
  · have := p2 k k0 (by omega)
    rw [h _ (by omega) (by omega), h _ (by omega) (by omega)]
    exact this
  · have := hn j j0 (by omega)
    rw [h _ (by omega) (by omega)]
    exact this
  · have := ha k k0 k1
    rw [h _ (by omega) (by omega)]
    exact this
  · rw [h.k (by omega) i1 n0 n1]
    exact hs i n (by omega) i1 n0 n1
  · unfold csM at hc ⊢
    rw [h 4 (by omega) (by omega), h 5 (by omega) (by omega), h 6 (by omega) (by omega), h 7 (by omega) (by omega), e0, h.area (by omega)]
    exact hc
theorem eqS.lr (h : eqS μ' μ) {v : Nat → Int → Int} {b : Nat} (h0 : μ 412 0 ≤ 5) (h3 : μ 412 3 ≤ 30) (hl : lr v b μ) : lr v b μ' := by
  obtain ⟨⟨q0, q1, q2, q3⟩, qa, qp, qs⟩ := hl
  have e0 := h 0 (by omega) (by omega)
  have e1 := h 1 (by omega) (by omega)
  have e2 := h 2 (by omega) (by omega)
  have e3 := h 3 (by omega) (by omega)
  refine ⟨⟨q0.trans e1.symm, q1.trans e2.symm, q2.trans e0.symm, q3.trans e3.symm⟩, fun k k0 k1 => ?_, fun j j0 j1 => ?_, fun i hi => ?_⟩
  · rw [h _ (by omega) (by omega)]
    exact qa k k0 k1
  · rw [h _ (by omega) (by omega), h _ (by omega) (by omega), h _ (by omega) (by omega)]
    exact qp j j0 (by omega)
  · obtain ⟨r, nn⟩ := qs i (by omega)
    refine ⟨fun n n0 n1 => ?_, ?_⟩
    · rw [h.sz (by omega) (by omega), h.k (by omega) (by omega) n0 n1]
      exact r n n0 n1
    · unfold rn
      rw [h _ (by omega) (by omega)]
      exact nn
end EQS
theorem okM_le {μ : Nat → Int → Int} {n m : Int} (h : okM μ n) (hm : n ≤ m) : okM μ m := by
  obtain ⟨g, r, z, p, hn, ha, hs, hc⟩ := h
  exact ⟨g, r, z, p, fun j j0 j1 => by have := hn j j0 j1; omega, fun k k0 k1 => by have := ha k k0 k1; omega, hs, hc⟩
theorem lr_fr {v v' : Nat → Int → Int} {b : Nat} {μ : Nat → Int → Int} (h : ∀ n, b ≤ n → n < b + 32 → v' n = v n) (h0 : μ 412 0 ≤ 5) (hl : lr v b μ) : lr v' b μ := by
  obtain ⟨⟨q0, q1, q2, q3⟩, qa, qp, qs⟩ := hl
  refine ⟨⟨?_, ?_, ?_, ?_⟩, fun k k0 k1 => ?_, fun j j0 j1 => ?_, fun i hi => ?_⟩
  · rw [h b (by omega) (by omega)]; exact q0
  · rw [h b (by omega) (by omega)]; exact q1
  · rw [h b (by omega) (by omega)]; exact q2
  · rw [h (b + 2) (by omega) (by omega)]; exact q3
  · rw [h (b + 6) (by omega) (by omega)]; exact qa k k0 k1
  · rw [h (b + 3) (by omega) (by omega), h (b + 4) (by omega) (by omega), h (b + 5) (by omega) (by omega)]; exact qp j j0 j1
  · obtain ⟨r, nn⟩ := qs i hi
    refine ⟨fun n n0 n1 => ?_, ?_⟩
    · rw [h (b + 7 + 5 * i + 2) (by omega) (by omega), h (b + 7 + 5 * i + 3) (by omega) (by omega), h (b + 7 + 5 * i + 4) (by omega) (by omega)]
      exact r n n0 n1
    · unfold rn
      rw [h (b + 7 + 5 * i) (by omega) (by omega), h (b + 7 + 5 * i + 1) (by omega) (by omega)]
      exact nn
/-- row j of the past -/
def rw3 (μ : Nat → Int → Int) (j : Int) : Nat → Int → Int := fun _ k => μ 415 (167 * j + k)
/-- the ring and the past -/
def hR (v μ : Nat → Int → Int) (n : Int) : Prop := (v 78 2 = μ 411 7 ∧ 0 ≤ μ 411 7 ∧ μ 411 7 ≤ 8 ∧ 0 ≤ v 78 1 ∧ v 78 1 ≤ 8) ∧ ∀ j : Int, 0 ≤ j → j < μ 411 7 → lr v (80 + 32 * ((v 78 1 - μ 411 7 + j) % 8).toNat) (rw3 μ j) ∧ okM (rw3 μ j) n
/-- floorMod by 8 -/
theorem i3_fm8 {z : Int} (h0 : -1 ≤ z) (h1 : z ≤ 8) : jm_fm (i3 z) (i3 8) = i3 (z % 8) := by
  have : z = -1 ∨ z = 0 ∨ z = 1 ∨ z = 2 ∨ z = 3 ∨ z = 4 ∨ z = 5 ∨ z = 6 ∨ z = 7 ∨ z = 8 := by omega
  rcases this with rfl | rfl | rfl | rfl | rfl | rfl | rfl | rfl | rfl | rfl <;> decide +kernel
section CLJ
variable {d : Nat} {X : Nat × (Nat → Int32)} {v w : Nat → Int → Int} {T c s : Nat}
variable {μ : Nat → Int → Int}
theorem kpV_row {g : Int → Int} {j k : Int} (hu0 : 0 ≤ μ 411 7) (hu1 : μ 411 7 ≤ 8) (j0 : 0 ≤ j) (j1 : j < kpV μ g 411 7) (k0 : 0 ≤ k) (k1 : k < 167) : kpV μ g 415 (167 * j + k) = if j + 1 = kpV μ g 411 7 then g k else if μ 411 7 = 8 then μ 415 (167 * (j + 1) + k) else μ 415 (167 * j + k) := by
  have hs := shV_u (v := μ) hu0 hu1
  have e : kpV μ g 411 7 = shV μ 411 7 + 1 := up_eq
  rw [e] at j1 ⊢
  unfold kpV
  rw [up_ne (by omega)]
  by_cases q : j + 1 = shV μ 411 7 + 1
  · rw [if_pos q, flo_in (by omega) (by omega)]
    congr 1
    have : j = shV μ 411 7 := by omega
    rw [this]
    omega
  · rw [if_neg q, flo_ne (by omega)]
    unfold shV
    by_cases q2 : μ 411 7 = 8
    · rw [if_pos q2, if_pos q2, up_ne (by omega), fil_in (by omega) (by omega)]
      congr 1
      omega
    · rw [if_neg q2, if_neg q2]
theorem tX3_keep {b : Nat} {n : Int} (h : hR v μ n) (hb : b = 14) (hl : lr v 14 μ) (ho : okM μ n) : ∃ v', jm_env (d + 3) 38 [.ref 78, .ref b] (qM X v w T c s) = some (.inl none, qM X v' w T c s) ∧ hR v' (kpV μ (μ 412)) n ∧ ∀ m : Nat, m < 78 ∨ 336 ≤ m → v' m = v m := by
  subst hb
  obtain ⟨⟨h1, h2, h3, h4, h5⟩, hj⟩ := h
  have hc : v 14 2 = μ 412 0 := hl.1.2.2.1
  obtain ⟨g0, g1, -⟩ := id ho.1
  have hp3 := ho.2.2.2.1.2.1
  have l14 := oLnd_14
  obtain ⟨x, hx⟩ : ∃ x : Nat, v 78 1 = x := ⟨(v 78 1).toNat, (Int.toNat_of_nonneg h4).symm⟩
  have hx8 : x ≤ 8 := by omega
  obtain ⟨y, hy⟩ : ∃ y : Nat, (x : Int) % 8 = y := ⟨x % 8, by omega⟩
  have hy8 : y < 8 := by omega
  have lx := oLnd_h hy8
  have efm : jm_fm (i3 (x : Int)) (i3 8) = i3 (y : Int) := by rw [i3_fm8 (by omega) (by omega), hy]
  obtain ⟨v1, e1, hlc, hf⟩ := tX4_copyFrom (d := d) (X := X) (v := v) (w := w) (T := T) (c := c) (s := s) lx l14 (by omega) (by omega) (by omega)
  have e3 : v1 78 2 = μ 411 7 := (hf.k (by omega) 2).trans h1
  have hu := shV_u (v := μ) h2 h3
  have ek : kpV μ (μ 412) 411 7 = min 7 (μ 411 7) + 1 := by
    show up _ 411 7 _ 411 7 = _
    rw [up_eq, hu.2.2]
  simp (disch := first | assumption | omega) only [eX3_keep, bX3_keep_0, g3_1, r3_0, q3_0, p3_1, g3_2, p3_2, i3_add, i3_sub, i3_mul, i3_neg, i6_add, i6_sub, i6_mul, i6_neg, i3_lt, i3_le, i3_eq, i6_lt, i6_eq, i3_div, i6_div, i6_i3, i3_i6, c6_lt, c6_ge, c6_gt, c6_le, c6_eq, i3_ite, i6_ite, ib_0, ib_z, ite_not, i1_0, i0_0, jB_1, jB_0, jB_ib, bI_v, bL_v, bD_v, bV_v, ob_s, ob_i, i3_ofNat, jx_e, bI_e, bL_e, bD_e, bV_e, i3_eq0, i6_eq0, if_mx, if_mn, if_true, if_false, not_true_eq_false, not_false_eq_true, Int.reduceEq, Int.reduceLT, Int.reduceLE, hx, efm, Int.toNat_natCast, e1, e3, up_ne]
  refine ⟨_, rfl, ⟨⟨?_, ?_, ?_, ?_, ?_⟩, ?_⟩, ?_⟩
  · rw [up_eq, ek]; omega
  · omega
  · omega
  · rw [up_ne (by omega), up_eq]; omega
  · rw [up_ne (by omega), up_eq]; omega
  · intro j j0 j1
    rw [ek] at j1
    rw [up_ne (by omega), up_eq, ek]
    have hrow : ∀ k : Int, 0 ≤ k → k < 167 → rw3 (kpV μ (μ 412)) j 412 k = if j + 1 = min 7 (μ 411 7) + 1 then μ 412 k else if μ 411 7 = 8 then μ 415 (167 * (j + 1) + k) else μ 415 (167 * j + k) := by
      intro k k0 k1
      have := kpV_row (g := μ 412) (k := k) h2 h3 j0 (by rw [ek]; exact j1) k0 k1
      rw [ek] at this
      exact this
    have hfr : ∀ (i : Nat), i < 8 → i ≠ y → ∀ n, 80 + 32 * i ≤ n → n < 80 + 32 * i + 32 → (up (up v1 78 1 ((y : Int) + 1)) 78 2 (min 8 (μ 411 7 + 1))) n = v n := by
      intro i hi hix n n0 n1
      rw [up_b (by omega), up_b (by omega)]
      exact hf n (by omega)
    by_cases q : j + 1 = min 7 (μ 411 7) + 1
    · have hE : eqS (rw3 (kpV μ (μ 412)) j) μ := fun k k0 k1 => by rw [hrow k k0 k1, if_pos q]
      have ei : (((y : Int) + 1 - (min 7 (μ 411 7) + 1) + j) % 8).toNat = y := by omega
      rw [ei]
      refine ⟨hE.lr (by omega) (by omega) ?_, hE.ok ho⟩
      refine lr_fr (fun n n0 n1 => ?_) (by omega) (lr_cp hlc hl (by omega))
      rw [up_b (by omega), up_b (by omega)]
    · by_cases q2 : μ 411 7 = 8
      · have hE : eqS (rw3 (kpV μ (μ 412)) j) (rw3 μ (j + 1)) := fun k k0 k1 => by rw [hrow k k0 k1, if_neg q, if_pos q2]; rfl
        obtain ⟨hl2, ho2⟩ := hj (j + 1) (by omega) (by omega)
        have ei : (((y : Int) + 1 - (min 7 (μ 411 7) + 1) + j) % 8).toNat = (((x : Int) - μ 411 7 + (j + 1)) % 8).toNat := by omega
        have o5 := ho2.1.2.1
        have o30 := ho2.2.2.2.1.2.1
        rw [ei]
        rw [hx] at hl2
        refine ⟨hE.lr o5 o30 (lr_fr (hfr _ (by omega) (by omega)) o5 hl2), hE.ok ho2⟩
      · have hE : eqS (rw3 (kpV μ (μ 412)) j) (rw3 μ j) := fun k k0 k1 => by rw [hrow k k0 k1, if_neg q, if_neg q2]; rfl
        obtain ⟨hl2, ho2⟩ := hj j (by omega) (by omega)
        have ei : (((y : Int) + 1 - (min 7 (μ 411 7) + 1) + j) % 8).toNat = (((x : Int) - μ 411 7 + j) % 8).toNat := by omega
        have o5 := ho2.1.2.1
        have o30 := ho2.2.2.2.1.2.1
        rw [ei]
        rw [hx] at hl2
        refine ⟨hE.lr o5 o30 (lr_fr (hfr _ (by omega) (by omega)) o5 hl2), hE.ok ho2⟩
  · intro m hm
    rw [up_b (by omega), up_b (by omega)]
    exact hf m (by omega)
end CLJ
