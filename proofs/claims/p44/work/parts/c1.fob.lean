-- uses 24.zar 25.obj 26.ops 27.ra 28.rb 29.rc 34.gen 38.mod 39.mo2 41.bit 46.mo8 53.cla 58.clf 61.cli b1.plb c0.foa
/-! The class folds a sheet: one place laid. -/
theorem fo_4i {x f k : Nat} {r c t : Int} (hf : f < 6) (hx : x < 2 ^ f) (hk : k < f + 1) (r0 : 0 ≤ r) (r1 : r < dnX x f k) (c0 : 0 ≤ c) (c1 : c < acX x f k) (t0 : 0 ≤ t) (t1 : t < htX k) : 0 ≤ qX x f k r c t ∧ qX x f k r c t < 64 := by
  have hh := (fo_h k (by omega)).1
  have h := fo_4 f hf x hx k hk r.toNat (by omega) c.toNat (by omega) t.toNat (by omega)
  unfold z4a at h
  rw [Int.toNat_of_nonneg r0, Int.toNat_of_nonneg c0, Int.toNat_of_nonneg t0] at h
  have h2 := (fo_h f hf).2.2
  omega
theorem i3_xr {a : Int} (h0 : 0 ≤ a) (h1 : a < 64) : i3 a ^^^ i3 1 = i3 (xr a) := i3_x1 h0 h1
/-- a pile array holds what k folds made -/
def pI (w : Nat → Int → Int) (m x f k : Nat) : Prop := ∀ r c t : Int, 0 ≤ r → r < dnX x f k → 0 ≤ c → c < acX x f k → 0 ≤ t → t < htX k → w m ((r * acX x f k + c) * htX k + t) = qX x f k r c t
section FOB
variable {d : Nat} {X : Nat × (Nat → Int32)} {v w : Nat → Int → Int} {T c s : Nat}
theorem v344 {z : Int} (z0 : 0 ≤ z) (z1 : z < 32) : jm_env (d + 1) 131 [.ref 344, .int (i3 z)] (qM X v w T c s) = some (.inl (some (.int (i3 (w 344 z)))), (qM X v w T c s)) := tX11_valueAt (k := 32) n2_4 (by decide) z0 z1 (a2_4 z0 z1)
theorem v346 {z : Int} (z0 : 0 ≤ z) (z1 : z < 64) : jm_env (d + 1) 131 [.ref 346, .int (i3 z)] (qM X v w T c s) = some (.inl (some (.int (i3 (w 346 z)))), (qM X v w T c s)) := tX11_valueAt (k := 64) n2_6 (by decide) z0 z1 (a2_6 z0 z1)
theorem s344 {z y : Int} (z0 : 0 ≤ z) (z1 : z < 32) : jm_env (d + 1) 132 [.ref 344, .int (i3 z), .int (i3 y)] (qM X v w T c s) = some (.inl none, qM X v (up w 344 z y) T c s) := tX11_setAt (k := 32) n2_4 (by decide) z0 z1 (w2_4 z0 z1)
theorem s345 {z y : Int} (z0 : 0 ≤ z) (z1 : z < 32) : jm_env (d + 1) 132 [.ref 345, .int (i3 z), .int (i3 y)] (qM X v w T c s) = some (.inl none, qM X v (up w 345 z y) T c s) := tX11_setAt (k := 32) n2_5 (by decide) z0 z1 (w2_5 z0 z1)
theorem s346 {z y : Int} (z0 : 0 ≤ z) (z1 : z < 64) : jm_env (d + 1) 132 [.ref 346, .int (i3 z), .int (i3 y)] (qM X v w T c s) = some (.inl none, qM X v (up w 346 z y) T c s) := tX11_setAt (k := 64) n2_6 (by decide) z0 z1 (w2_6 z0 z1)
/-- the leaves of one place -/
theorem tX2_layPlace_l {h S C Tp a1 a2 a3 a4 a6 a7 : Int} {w : Nat → Int → Int} {hn : Nat} (hh : h = hn) (h1 : 1 ≤ h) (h16 : h ≤ 16) (S0 : 0 ≤ S) (S1 : S + h ≤ 32) (C0 : 0 ≤ C) (C1 : C + h ≤ 32) (T0 : 0 ≤ Tp) (T1 : Tp + 2 * h ≤ 32) (hv : ∀ z : Int, 0 ≤ z → z < h → 0 ≤ w 344 (C + z) ∧ w 344 (C + z) < 64) :
    ∃ w', jm_R (jm_env (d + 1)) jmM_X2_layPlace 82 [some (.ref 342), some (.int (i3 a1)), some (.int (i3 a2)), some (.int (i3 a3)), some (.int (i3 a4)), some (.int (i3 h)), some (.int (i3 a6)), some (.int (i3 a7)), some (.int (i3 S)), some (.int (i3 C)), some (.int (i3 Tp)), some (.int (i3 0))] [] (qM X v w T c s) = some (.inl none, qM X v w' T c s) ∧ (∀ (m : Nat) (j : Int), m ≠ 345 → w' m j = w m j) ∧ (∀ j : Int, j < Tp ∨ Tp + 2 * h ≤ j → w' 345 j = w 345 j) ∧ ∀ t : Int, 0 ≤ t → t < h → w' 345 (Tp + t) = xr (w 344 (C + (h - 1 - t))) ∧ w' 345 (Tp + h + t) = w 344 (S + t) := by
  have hl := lpI (S := Nat → Int → Int) (L := fun j u => jm_R (jm_env (d + 1)) jmM_X2_layPlace 82 [some (.ref 342), some (.int (i3 a1)), some (.int (i3 a2)), some (.int (i3 a3)), some (.int (i3 a4)), some (.int (i3 h)), some (.int (i3 a6)), some (.int (i3 a7)), some (.int (i3 S)), some (.int (i3 C)), some (.int (i3 Tp)), some (.int (i3 (j : Nat)))] [] (qM X v u T c s)) (I := fun j u => (∀ (m : Nat) (j : Int), m ≠ 345 → u m j = w m j) ∧ (∀ j : Int, j < Tp ∨ Tp + 2 * h ≤ j → u 345 j = w 345 j) ∧ ∀ t : Int, 0 ≤ t → t < (j : Nat) → u 345 (Tp + t) = xr (w 344 (C + (h - 1 - t))) ∧ u 345 (Tp + h + t) = w 344 (S + t)) hn 0 (fun j u _ hj ⟨i1, i2, i3'⟩ => by
    have q : (h ≤ (j : Int)) = False := eq_false (by omega)
    have hx := hv (h - 1 - j) (by omega) (by omega)
    have e1 := v344 (d := d) (X := X) (v := v) (w := u) (T := T) (c := c) (s := s) (z := C + h - 1 - j) (by omega) (by omega)
    rw [i1 344 _ (by omega), show C + h - 1 - (j : Int) = C + (h - 1 - j) by omega] at e1
    have e2 := s345 (d := d) (X := X) (v := v) (w := u) (T := T) (c := c) (s := s) (z := Tp + j) (y := xr (w 344 (C + (h - 1 - j)))) (by omega) (by omega)
    have e3 := v344 (d := d) (X := X) (v := v) (w := up u 345 (Tp + j) (xr (w 344 (C + (h - 1 - j))))) (T := T) (c := c) (s := s) (z := S + j) (by omega) (by omega)
    rw [up_ne (by omega), i1 344 _ (by omega)] at e3
    have e4 := s345 (d := d) (X := X) (v := v) (w := up u 345 (Tp + j) (xr (w 344 (C + (h - 1 - j))))) (T := T) (c := c) (s := s) (z := Tp + h + j) (y := w 344 (S + j)) (by omega) (by omega)
    refine ⟨up (up u 345 (Tp + j) (xr (w 344 (C + (h - 1 - j))))) 345 (Tp + h + j) (w 344 (S + j)), ?_, fun m k hm => ?_, fun k hk => ?_, fun t t0 t1 => ?_⟩
    · rw [bX2_layPlace_82]
      simp (disch := first | assumption | omega) only [↓reduceIte, i3_add, i3_sub, i3_mul, i3_neg, i6_add, i6_sub, i6_mul, i6_neg, i3_lt, i3_le, i3_eq, i6_lt, i6_eq, i3_div, i6_div, i6_i3, i3_i6, c6_lt, c6_ge, c6_gt, c6_le, c6_eq, i3_ite, i6_ite, ib_0, ib_z, ite_not, i1_0, i0_0, jB_1, jB_0, jB_ib, bI_v, bL_v, bD_v, bV_v, ob_s, ob_i, i3_ofNat, jx_e, bI_e, bL_e, bD_e, bV_e, i3_eq0, i6_eq0, if_mx, if_mn, if_true, if_false, not_true_eq_false, not_false_eq_true, Int.reduceEq, Int.reduceLT, Int.reduceLE, q, bX2_layPlace_89, r2_5, r2_4, show C + h - 1 - (j : Int) = C + (h - 1 - j) by omega, e1, i3_xr hx.1 hx.2, e2, e3, e4]
      rfl
    · rw [up_ne (by omega), up_ne (by omega)]; exact i1 m k hm
    · rw [up_ne (by omega), up_ne (by omega)]; exact i2 k hk
    · by_cases g : t = j
      · rw [g]
        exact ⟨by rw [up_ne (by omega), up_eq], up_eq⟩
      · obtain ⟨y1, y2⟩ := i3' t t0 (by omega)
        exact ⟨by rw [up_ne (by omega), up_ne (by omega)]; exact y1, by rw [up_ne (by omega), up_ne (by omega)]; exact y2⟩) w ⟨fun _ _ _ => rfl, fun _ _ => rfl, fun t t0 t1 => by omega⟩
  obtain ⟨w', e, i1, i2, i3'⟩ := hl
  refine ⟨w', ?_, i1, i2, fun t t0 t1 => i3' t t0 (by omega)⟩
  have q : (h ≤ ((0 + hn : Nat) : Int)) = True := eq_true (by omega)
  refine Eq.trans e ?_
  rw [bX2_layPlace_82]
  simp (disch := first | assumption | omega) only [↓reduceIte, i3_add, i3_sub, i3_mul, i3_neg, i6_add, i6_sub, i6_mul, i6_neg, i3_lt, i3_le, i3_eq, i6_lt, i6_eq, i3_div, i6_div, i6_i3, i3_i6, c6_lt, c6_ge, c6_gt, c6_le, c6_eq, i3_ite, i6_ite, ib_0, ib_z, ite_not, i1_0, i0_0, jB_1, jB_0, jB_ib, bI_v, bL_v, bD_v, bV_v, ob_s, ob_i, i3_ofNat, jx_e, bI_e, bL_e, bD_e, bV_e, i3_eq0, i6_eq0, if_mx, if_mn, if_true, if_false, not_true_eq_false, not_false_eq_true, Int.reduceEq, Int.reduceLT, Int.reduceLE, q, bX2_layPlace_153]
theorem tX2_layPlace {cc x f k : Nat} {r c : Int} (hf : f < 6) (hx : x < 2 ^ f) (hk : k < f) (r0 : 0 ≤ r) (r1 : r < dnX x f (k + 1)) (c0 : 0 ≤ c) (c1 : c < acX x f (k + 1)) (hp : pI w 344 x f k) :
    ∃ w', jm_env (d + 2) 31 [.ref 342, .int (i3 r), .int (i3 c), .int (i3 (dnX x f (k + 1))), .int (i3 (acX x f (k + 1))), .int (i3 (htX k)), .int (i3 (if bt x k = true then 1 else 0))] (qM X v w T cc s) = some (.inl none, qM X v w' T cc s) ∧ (∀ (m : Nat) (j : Int), m ≠ 345 → w' m j = w m j) ∧ (∀ j : Int, j < (r * acX x f (k + 1) + c) * htX (k + 1) ∨ (r * acX x f (k + 1) + c) * htX (k + 1) + htX (k + 1) ≤ j → w' 345 j = w 345 j) ∧ ∀ t : Int, 0 ≤ t → t < htX (k + 1) → w' 345 ((r * acX x f (k + 1) + c) * htX (k + 1) + t) = qX x f (k + 1) r c t := by
  obtain ⟨g1, g2⟩ := fo_2 f hf x hx k hk
  obtain ⟨a1, a2, a3, a4, a5⟩ := fo_3 f hf x hx k (by omega)
  obtain ⟨b1, b2, b3, b4, b5⟩ := fo_3 f hf x hx (k + 1) (by omega)
  obtain ⟨z1, z2, z3, z4, z5, -⟩ := fo_1 f hf x hx
  obtain ⟨h1, h2, h3⟩ := fo_h k (by omega)
  obtain ⟨k1, k2, k3⟩ := fo_h (k + 1) (by omega)
  have hfh := (fo_h f hf).2.2
  have hht : htX (k + 1) = 2 * htX k := rfl
  have hTp := pl_lt (t := 0) (b := htX (k + 1)) r0 r1 c0 c1 (by omega) (by omega)
  have hTq := pl_lt (t := htX (k + 1) - 1) (b := htX (k + 1)) r0 r1 c0 c1 (by omega) (by omega)
  rw [b1] at hTp hTq
  have eTp : (r * acX x f (k + 1) + c) * 2 * htX k = (r * acX x f (k + 1) + c) * htX (k + 1) := by rw [hht, Int.mul_assoc]
  have hq4 : ∀ t : Int, 0 ≤ t → t < htX (k + 1) → qX x f (k + 1) r c t = if t < htX k then xr (if bt x k = true then qX x f k (dnX x f k - 1 - r) c (htX k - 1 - t) else qX x f k r (acX x f k - 1 - c) (htX k - 1 - t)) else qX x f k r c (t - htX k) := fun t _ _ => rfl
  have key : ∀ (S C a6 a7 : Int), S = (r * acX x f k + c) * htX k → (∃ r' c' : Int, (0 ≤ r' ∧ r' < dnX x f k) ∧ (0 ≤ c' ∧ c' < acX x f k) ∧ C = (r' * acX x f k + c') * htX k ∧ ∀ t : Int, 0 ≤ t → t < htX k → qX x f (k + 1) r c t = xr (qX x f k r' c' (htX k - 1 - t))) → (r < dnX x f k ∧ c < acX x f k) →
      ∃ w', jm_R (jm_env (d + 1)) jmM_X2_layPlace 82 [some (.ref 342), some (.int (i3 r)), some (.int (i3 c)), some (.int (i3 (dnX x f (k + 1)))), some (.int (i3 (acX x f (k + 1)))), some (.int (i3 (htX k))), some (.int (i3 a6)), some (.int (i3 a7)), some (.int (i3 S)), some (.int (i3 C)), some (.int (i3 ((r * acX x f (k + 1) + c) * 2 * htX k))), some (.int (i3 0))] [] (qM X v w T cc s) = some (.inl none, qM X v w' T cc s) ∧ (∀ (m : Nat) (j : Int), m ≠ 345 → w' m j = w m j) ∧ (∀ j : Int, j < (r * acX x f (k + 1) + c) * htX (k + 1) ∨ (r * acX x f (k + 1) + c) * htX (k + 1) + htX (k + 1) ≤ j → w' 345 j = w 345 j) ∧ ∀ t : Int, 0 ≤ t → t < htX (k + 1) → w' 345 ((r * acX x f (k + 1) + c) * htX (k + 1) + t) = qX x f (k + 1) r c t := by
    intro S C a6 a7 hS ⟨r', c', hr', hc', hC, hq⟩ hrc
    rw [eTp]
    have S0 := pl_lt (t := 0) (b := htX k) r0 hrc.1 c0 hrc.2 (by omega) (by omega)
    have S1 := pl_lt (t := htX k - 1) (b := htX k) r0 hrc.1 c0 hrc.2 (by omega) (by omega)
    have C0 := pl_lt (t := 0) (b := htX k) hr'.1 hr'.2 hc'.1 hc'.2 (by omega) (by omega)
    have C1 := pl_lt (t := htX k - 1) (b := htX k) hr'.1 hr'.2 hc'.1 hc'.2 (by omega) (by omega)
    rw [a1] at S0 S1 C0 C1
    rw [← hS] at S0 S1
    rw [← hC] at C0 C1
    have hv : ∀ z : Int, 0 ≤ z → z < htX k → w 344 (C + z) = qX x f k r' c' z := fun z z0 z1 => by rw [hC]; exact hp r' c' z hr'.1 hr'.2 hc'.1 hc'.2 z0 z1
    generalize hTT : (r * acX x f (k + 1) + c) * htX (k + 1) = Tp at *
    obtain ⟨w', e, i1, i2, i3'⟩ := tX2_layPlace_l (d := d) (X := X) (v := v) (w := w) (T := T) (c := cc) (s := s) (S := S) (C := C) (Tp := Tp) (a1 := r) (a2 := c) (a3 := dnX x f (k + 1)) (a4 := acX x f (k + 1)) (a6 := a6) (a7 := a7) (hn := 2 ^ k) h1 h2 (by omega) (by omega) (by omega) (by omega) (by omega) (by omega) (by omega) (fun z z0 z1 => by
      rw [hv z z0 z1]
      exact fo_4i hf hx (by omega) hr'.1 hr'.2 hc'.1 hc'.2 z0 z1)
    refine ⟨w', e, i1, fun j hj => i2 j (by omega), fun t t0 t1 => ?_⟩
    by_cases g : t < htX k
    · rw [(i3' t t0 g).1, hv _ (by omega) (by omega), hq t t0 g]
    · have h := (i3' (t - htX k) (by omega) (by omega)).2
      rw [show Tp + htX k + (t - htX k) = Tp + t by omega] at h
      rw [h, hS, hp r c (t - htX k) r0 hrc.1 c0 hrc.2 (by omega) (by omega), hq4 t t0 t1, if_neg g]
  rw [eX2_layPlace, bX2_layPlace_0]
  cases hb : bt x k
  · obtain ⟨g3, g4⟩ := g2 hb
    obtain ⟨w', e, i1⟩ := key ((r * (2 * acX x f (k + 1)) + c) * htX k) ((r * (2 * acX x f (k + 1)) + 2 * acX x f (k + 1) - 1 - c) * htX k) 0 (2 * acX x f (k + 1)) (by rw [g4]) ⟨r, acX x f k - 1 - c, by omega, by omega, by
      rw [g4, show r * (2 * acX x f (k + 1)) + 2 * acX x f (k + 1) - 1 - c = r * (2 * acX x f (k + 1)) + (2 * acX x f (k + 1) - 1 - c) by omega], fun t t0 t1 => by
      rw [hq4 t t0 (by omega), if_pos t1, hb, if_neg Bool.false_ne_true]⟩ (by omega)
    refine ⟨w', ?_, i1⟩
    refine Eq.trans ?_ e
    simp (disch := first | assumption | omega) only [Bool.false_eq_true, ↓reduceIte, i3_add, i3_sub, i3_mul, i3_neg, i6_add, i6_sub, i6_mul, i6_neg, i3_lt, i3_le, i3_eq, i6_lt, i6_eq, i3_div, i6_div, i6_i3, i3_i6, c6_lt, c6_ge, c6_gt, c6_le, c6_eq, i3_ite, i6_ite, ib_0, ib_z, ite_not, i1_0, i0_0, jB_1, jB_0, jB_ib, bI_v, bL_v, bD_v, bV_v, ob_s, ob_i, i3_ofNat, jx_e, bI_e, bL_e, bD_e, bV_e, i3_eq0, i6_eq0, if_mx, if_mn, if_true, if_false, not_true_eq_false, not_false_eq_true, Int.reduceEq, Int.reduceLT, Int.reduceLE, bX2_layPlace_10, bX2_layPlace_14, bX2_layPlace_50, bX2_layPlace_64]
  · obtain ⟨g3, g4⟩ := g1 hb
    have q10 : ((1 : Int) = 0) = False := by decide
    obtain ⟨w', e, i1⟩ := key ((r * acX x f (k + 1) + c) * htX k) (((2 * dnX x f (k + 1) - 1 - r) * acX x f (k + 1) + c) * htX k) 1 (acX x f (k + 1)) (by rw [g4]) ⟨dnX x f k - 1 - r, c, by omega, by omega, by
      rw [g4, g3], fun t t0 t1 => by
      rw [hq4 t t0 (by omega), if_pos t1, hb, if_pos rfl]⟩ (by omega)
    refine ⟨w', ?_, i1⟩
    refine Eq.trans ?_ e
    simp (disch := first | assumption | omega) only [↓reduceIte, i3_add, i3_sub, i3_mul, i3_neg, i6_add, i6_sub, i6_mul, i6_neg, i3_lt, i3_le, i3_eq, i6_lt, i6_eq, i3_div, i6_div, i6_i3, i3_i6, c6_lt, c6_ge, c6_gt, c6_le, c6_eq, i3_ite, i6_ite, ib_0, ib_z, ite_not, i1_0, i0_0, jB_1, jB_0, jB_ib, bI_v, bL_v, bD_v, bV_v, ob_s, ob_i, i3_ofNat, jx_e, bI_e, bL_e, bD_e, bV_e, i3_eq0, i6_eq0, if_mx, if_mn, if_true, if_false, not_true_eq_false, not_false_eq_true, Int.reduceEq, Int.reduceLT, Int.reduceLE, q10, bX2_layPlace_5, bX2_layPlace_14, bX2_layPlace_32, bX2_layPlace_64]
end FOB
