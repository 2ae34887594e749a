-- uses 24.zar 25.obj 26.ops 30.rd 31.re 32.rf 34.gen 35.byt 38.mod 41.bit 43.mo5 51.moe 93.tka 97.srp
/-! The reference's reading: tokens. -/
/-- the text is b -/
def txW (w : Nat → Int → Int) (b : Int → Int) (n : Nat) : Prop := okB b n ∧ w 411 17 = n ∧ ∀ k : Int, 0 ≤ k → k < n → w 421 k = b k
def tkM (b : Int → Int) (p : Nat) : Int := if kd b p = 3 then (if b p = 59 ∨ b p = 40 ∨ b p = 41 then 3 else 4) else kd b p
/-- it stands at the token that begins at p -/
def SC (w : Nat → Int → Int) (b : Int → Int) (n p : Nat) : Prop := txW w b n ∧ p ≤ n ∧ w 411 18 = en b p ∧ w 411 19 = p ∧ w 411 20 = tkM b p ∧ isI (w 411 21) ∧ (kd b p = 2 → w 411 21 = nv b p) ∧ (kd b p = 1 → w 411 26 = wd b p)
/-- only the reading changed -/
def frT (w' w : Nat → Int → Int) : Prop := ∀ (m : Nat) (k : Int), (m ≠ 411 ∨ k < 18 ∨ (23 < k ∧ k ≠ 26)) → w' m k = w m k
theorem frT_id {w : Nat → Int → Int} : frT w w := fun _ _ _ => rfl
theorem frT_tr {w w' w'' : Nat → Int → Int} (h : frT w'' w') (g : frT w' w) : frT w'' w := fun m k hk => (h m k hk).trans (g m k hk)
theorem txW_fr {w w' : Nat → Int → Int} {b : Int → Int} {n : Nat} (h : txW w b n) (hf : frT w' w) : txW w' b n := ⟨h.1, (hf 411 17 (by omega)).trans h.2.1, fun k k0 k1 => (hf 421 k (by omega)).trans (h.2.2 k k0 k1)⟩
def GD (w : Nat → Int → Int) (b : Int → Int) (n p : Nat) : Prop := SC w b n p ∧ w 411 22 = 0
def BD (w : Nat → Int → Int) (b : Int → Int) (n : Nat) (cd : Int) (q : Nat) : Prop := (∃ p, SC w b n p) ∧ w 411 22 = cd ∧ w 411 23 = q ∧ 1 ≤ cd ∧ cd ≤ 4
theorem kd_b (b : Int → Int) (p : Nat) : 0 ≤ kd b p ∧ kd b p ≤ 3 := by rcases kd_c b p with ⟨q, -⟩ | ⟨q, -⟩ | ⟨q, -⟩ | ⟨q, -⟩ <;> omega
theorem tkM_b (b : Int → Int) (p : Nat) : 0 ≤ tkM b p ∧ tkM b p ≤ 4 := by
  have := kd_b b p
  unfold tkM
  split
  · split <;> omega
  · omega
theorem tkM_e {b : Int → Int} {p : Nat} : (tkM b p = 1 ↔ kd b p = 1) ∧ (tkM b p = 2 ↔ kd b p = 2) ∧ (tkM b p = 0 ↔ kd b p = 0) := by
  unfold tkM
  split
  · split <;> omega
  · exact ⟨Iff.rfl, Iff.rfl, Iff.rfl⟩
/-- a word's number, by i of its letters -/
def wdR (b : Int → Int) (p i : Nat) : Int := nk (fun k => b (p + k)) (min i 12)
section RFA
variable {d : Nat} {X : Nat × (Nat → Int32)} {v w : Nat → Int → Int} {T c s : Nat}
variable {b : Int → Int} {n : Nat}
theorem sX12_see {k : Int} (hT : 18 ≤ T) (h : txW w b n) (k0 : 0 ≤ k) (k1 : k ≤ 600) : jm_env (d + 1) 242 [.ref 411, .int (i3 k)] (qM X v w T c s) = some (.inl (some (.int (i3 (b k)))), (qM X v w T c s)) := by
  obtain ⟨ho, h17, h21⟩ := h
  have hn := ho.1
  by_cases g : k < n
  · have e := h21 k k0 g
    have hk : ((n : Int) ≤ k) = False := eq_false (by omega)
    simp (disch := first | assumption | omega) only [↓reduceIte, eX12_see, bX12_see_0, bX12_see_8, bX12_see_17, bX12_see_18, g12_17, r12_15, a12_15, w12_15, n12_15, i3_add, i3_sub, i3_mul, i3_neg, i6_add, i6_sub, i6_mul, i6_neg, i3_lt, i3_le, i3_eq, i6_lt, i6_eq, i3_div, i6_div, i6_i3, i3_i6, c6_lt, c6_ge, c6_gt, c6_le, c6_eq, i3_ite, i6_ite, ib_0, ib_z, ite_not, i1_0, i0_0, jB_1, jB_0, jB_ib, bI_v, bL_v, bD_v, bV_v, ob_s, ob_i, i3_ofNat, jx_e, bI_e, bL_e, bD_e, bV_e, i3_eq0, i6_eq0, if_mx, if_mn, if_true, if_false, not_true_eq_false, not_false_eq_true, Int.reduceEq, Int.reduceLT, Int.reduceLE, h17, hk, e]
  · have hk : ((n : Int) ≤ k) = True := eq_true (by omega)
    have e := ho.2.2 k (Or.inr (by omega))
    simp (disch := first | assumption | omega) only [↓reduceIte, eX12_see, bX12_see_0, bX12_see_8, bX12_see_17, bX12_see_18, g12_17, r12_15, a12_15, w12_15, n12_15, i3_add, i3_sub, i3_mul, i3_neg, i6_add, i6_sub, i6_mul, i6_neg, i3_lt, i3_le, i3_eq, i6_lt, i6_eq, i3_div, i6_div, i6_i3, i3_i6, c6_lt, c6_ge, c6_gt, c6_le, c6_eq, i3_ite, i6_ite, ib_0, ib_z, ite_not, i1_0, i0_0, jB_1, jB_0, jB_ib, bI_v, bL_v, bD_v, bV_v, ob_s, ob_i, i3_ofNat, jx_e, bI_e, bL_e, bD_e, bV_e, i3_eq0, i6_eq0, if_mx, if_mn, if_true, if_false, not_true_eq_false, not_false_eq_true, Int.reduceEq, Int.reduceLT, Int.reduceLE, h17, hk, e]
theorem txW_u {k z : Int} (h : txW w b n) (hk : k ≠ 17) : txW (up w 411 k z) b n := ⟨h.1, by rw [up_ne (by omega)]; exact h.2.1, fun j j0 j1 => by rw [up_ne (by omega)]; exact h.2.2 j j0 j1⟩
theorem sX12_scan_0 {e : Nat} (hT : 18 ≤ T) (h : txW w b n) (he : e ≤ n) : jm_R (jm_env (d + 2)) jmM_X12_scan 0 [some (.ref 411), none] [] (qM X v (up w 411 18 e) T c s) = jm_R (jm_env (d + 2)) jmM_X12_scan 39 [some (.ref 411), none] [] (qM X v (up w 411 18 (sk b e : Nat)) T c s) := by
  have ho := h.1
  have hn := ho.1
  have e1 := skp_ch (p := blB) (fun j : Nat => jm_R (jm_env (d + 2)) jmM_X12_scan 0 [some (.ref 411), none] [] (qM X v (up w 411 18 j) T c s)) ho (by decide) he (fun j j0 j1 hb => by
    have hjn := (skp_s ho (p := blB) (by decide) he).1.2
    have hbb := b_b ho j
    have hs := fun v' => sX12_see (d := d + 1) (X := X) (v := v') (w := up w 411 18 j) (T := T) (c := c) (s := s) (k := j) hT (txW_u h (by omega)) (by omega) (by omega)
    rw [bX12_scan_0]
    simp (disch := first | assumption | omega) only [g12_18, p12_18, p12_19, p12_20, p12_26, g12_19, g12_26, p12_21, g12_21, i3_add, i3_sub, i3_mul, i3_neg, i6_add, i6_sub, i6_mul, i6_neg, i3_lt, i3_le, i3_eq, i6_lt, i6_eq, i3_div, i6_div, i6_i3, i3_i6, c6_lt, c6_ge, c6_gt, c6_le, c6_eq, i3_ite, i6_ite, ib_0, ib_z, ite_not, i1_0, i0_0, jB_1, jB_0, jB_ib, bI_v, bL_v, bD_v, bV_v, ob_s, ob_i, i3_ofNat, jx_e, bI_e, bL_e, bD_e, bV_e, i3_eq0, i6_eq0, if_mx, if_mn, if_true, if_false, not_true_eq_false, not_false_eq_true, Int.reduceEq, Int.reduceLT, Int.reduceLE, bX12_scan_13, bX12_scan_26, up_eq, up_up, hs]
    by_cases g : b j = 32
    · rw [if_pos g]; rfl
    · rw [if_neg g, if_pos (by rcases hb with hb | hb; exact absurd hb g; exact hb)]; rfl)
  refine e1.trans ?_
  obtain ⟨⟨s1, s2⟩, -, s3⟩ := skp_s ho (p := blB) (by decide) he
  have hbb := b_b ho (skp blB b e : Nat)
  have hs := fun v' => sX12_see (d := d + 1) (X := X) (v := v') (w := up w 411 18 (skp blB b e : Nat)) (T := T) (c := c) (s := s) (k := (skp blB b e : Nat)) hT (txW_u h (by omega)) (by omega) (by omega)
  show jm_R (jm_env (d + 2)) jmM_X12_scan 0 [some (.ref 411), none] [] (qM X v (up w 411 18 (skp blB b e : Nat)) T c s) = _
  rw [bX12_scan_0]
  simp (disch := first | assumption | omega) only [g12_18, p12_18, p12_19, p12_20, p12_26, g12_19, g12_26, p12_21, g12_21, i3_add, i3_sub, i3_mul, i3_neg, i6_add, i6_sub, i6_mul, i6_neg, i3_lt, i3_le, i3_eq, i6_lt, i6_eq, i3_div, i6_div, i6_i3, i3_i6, c6_lt, c6_ge, c6_gt, c6_le, c6_eq, i3_ite, i6_ite, ib_0, ib_z, ite_not, i1_0, i0_0, jB_1, jB_0, jB_ib, bI_v, bL_v, bD_v, bV_v, ob_s, ob_i, i3_ofNat, jx_e, bI_e, bL_e, bD_e, bV_e, i3_eq0, i6_eq0, if_mx, if_mn, if_true, if_false, not_true_eq_false, not_false_eq_true, Int.reduceEq, Int.reduceLT, Int.reduceLE, bX12_scan_13, up_eq, hs]
  rw [if_neg (fun q => s3 (Or.inl q)), if_neg (fun q => s3 (Or.inr q))]
  rfl
theorem sX12_scan_81 {p : Nat} {x1 : Int} (hT : 18 ≤ T) (h : txW w b n) (hp : p ≤ n) (h1 : smB (b p)) (h19 : w 411 19 = p) : jm_R (jm_env (d + 2)) jmM_X12_scan 81 [some (.ref 411), some (.int (i3 x1))] [] (qM X v (up (up w 411 18 p) 411 26 0) T c s) = some (.inl none, qM X v (up (up (up w 411 18 (en b p)) 411 26 (wd b p)) 411 20 1) T c s) := by
  have ho := h.1
  have hn := ho.1
  have hk1 := kd_1 h1
  obtain ⟨⟨s1, s2⟩, sp, s3⟩ := skp_s ho (p := smB) (by decide) hp
  have een := en_1 h1
  have e1 := skp_ch (p := smB) (fun j : Nat => jm_R (jm_env (d + 2)) jmM_X12_scan 81 [some (.ref 411), some (.int (i3 x1))] [] (qM X v (up (up w 411 18 j) 411 26 (wdR b p (j - p))) T c s)) ho (by decide) hp (fun j j0 j1 hb => by
    have hbb := b_b ho j
    have hq : (97 ≤ b j ∧ b j ≤ 122) = True := eq_true hb
    have hs := fun v' => sX12_see (d := d + 1) (X := X) (v := v') (w := up (up w 411 18 j) 411 26 (wdR b p (j - p))) (T := T) (c := c) (s := s) (k := j) hT (txW_u (txW_u h (by omega)) (by omega)) (by omega) (by omega)
    have hwb : ltOk (fun k => b (p + k)) (min (j - p) 12) := wd_ok ho hp hk1 (by omega)
    have hwb2 := nk_b hwb
    have hp32 : (32 : Int) ^ (min (j - p) 12) ≤ 1152921504606846976 := by
      have : ∀ n : Nat, n ≤ 12 → (32 : Int) ^ n ≤ 1152921504606846976 := by decide
      exact this _ (by omega)
    have hwr : 0 ≤ wdR b p (j - p) ∧ wdR b p (j - p) < 1152921504606846976 := by unfold wdR; omega
    have e18 : up (up w 411 18 j) 411 26 (wdR b p (j - p)) 411 18 = j := by rw [up_ne (by omega), up_eq]
    have e19 : up (up w 411 18 j) 411 26 (wdR b p (j - p)) 411 19 = p := by rw [up_ne (by omega), up_ne (by omega)]; exact h19
    have e26 : up (up w 411 18 j) 411 26 (wdR b p (j - p)) 411 26 = wdR b p (j - p) := up_eq
    rw [bX12_scan_81]
    simp (disch := first | assumption | omega) only [g12_18, p12_18, p12_19, p12_20, p12_26, g12_19, g12_26, p12_21, g12_21, i3_add, i3_sub, i3_mul, i3_neg, i6_add, i6_sub, i6_mul, i6_neg, i3_lt, i3_le, i3_eq, i6_lt, i6_eq, i3_div, i6_div, i6_i3, i3_i6, c6_lt, c6_ge, c6_gt, c6_le, c6_eq, i3_ite, i6_ite, ib_0, ib_z, ite_not, i1_0, i0_0, jB_1, jB_0, jB_ib, bI_v, bL_v, bD_v, bV_v, ob_s, ob_i, i3_ofNat, jx_e, bI_e, bL_e, bD_e, bV_e, i3_eq0, i6_eq0, if_mx, if_mn, if_true, if_false, not_true_eq_false, not_false_eq_true, Int.reduceEq, Int.reduceLT, Int.reduceLE, bX12_scan_95, bX12_scan_110, bX12_scan_135, bX12_scan_139, e18, e19, e26, hs, sX12_isSmall, hq]
    by_cases g : j - p < 12
    · have ew : wdR b p (j + 1 - p) = 32 * wdR b p (j - p) + b j - 96 := by
        unfold wdR
        rw [show min (j + 1 - p) 12 = (j - p) + 1 by omega, show min (j - p) 12 = j - p by omega]
        show 32 * nk (fun k => b (p + k)) (j - p) + (b (p + ((j - p : Nat) : Int)) - 96) = _
        rw [show (p : Int) + ((j - p : Nat) : Int) = j by omega]
        omega
      rw [if_neg (by omega), ew]
      simp (disch := first | assumption | omega) only [up_up, up_ne, up_eq, i3_add, i3_sub, i3_mul, i3_neg, i6_add, i6_sub, i6_mul, i6_neg, i3_lt, i3_le, i3_eq, i6_lt, i6_eq, i3_div, i6_div, i6_i3, i3_i6, c6_lt, c6_ge, c6_gt, c6_le, c6_eq, i3_ite, i6_ite, ib_0, ib_z, ite_not, i1_0, i0_0, jB_1, jB_0, jB_ib, bI_v, bL_v, bD_v, bV_v, ob_s, ob_i, i3_ofNat, jx_e, bI_e, bL_e, bD_e, bV_e, i3_eq0, i6_eq0, if_mx, if_mn, if_true, if_false, not_true_eq_false, not_false_eq_true, Int.reduceEq, Int.reduceLT, Int.reduceLE, p12_26, g12_18, p12_18]
      rw [up_sw (i := 26) (j := 18) (by omega), up_up]
      rfl
    · have ew : wdR b p (j + 1 - p) = wdR b p (j - p) := by
        unfold wdR
        rw [show min (j + 1 - p) 12 = 12 by omega, show min (j - p) 12 = 12 by omega]
      rw [if_pos (by omega), ew]
      simp (disch := first | assumption | omega) only [up_up, up_ne, up_eq, i3_add, i3_sub, i3_mul, i3_neg, i6_add, i6_sub, i6_mul, i6_neg, i3_lt, i3_le, i3_eq, i6_lt, i6_eq, i3_div, i6_div, i6_i3, i3_i6, c6_lt, c6_ge, c6_gt, c6_le, c6_eq, i3_ite, i6_ite, ib_0, ib_z, ite_not, i1_0, i0_0, jB_1, jB_0, jB_ib, bI_v, bL_v, bD_v, bV_v, ob_s, ob_i, i3_ofNat, jx_e, bI_e, bL_e, bD_e, bV_e, i3_eq0, i6_eq0, if_mx, if_mn, if_true, if_false, not_true_eq_false, not_false_eq_true, Int.reduceEq, Int.reduceLT, Int.reduceLE, p12_26, g12_18, p12_18]
      rw [up_sw (i := 26) (j := 18) (by omega), up_up]
      rfl)
  have e0 : wdR b p (p - p) = 0 := by unfold wdR; rw [Nat.sub_self]; rfl
  rw [e0] at e1
  refine e1.trans ?_
  have hbb := b_b ho (skp smB b p : Nat)
  have hq : (97 ≤ b (skp smB b p : Nat) ∧ b (skp smB b p : Nat) ≤ 122) = False := eq_false s3
  have hs := fun v' => sX12_see (d := d + 1) (X := X) (v := v') (w := up (up w 411 18 (skp smB b p : Nat)) 411 26 (wdR b p (skp smB b p - p))) (T := T) (c := c) (s := s) (k := (skp smB b p : Nat)) hT (txW_u (txW_u h (by omega)) (by omega)) (by omega) (by omega)
  have e18 : up (up w 411 18 (skp smB b p : Nat)) 411 26 (wdR b p (skp smB b p - p)) 411 18 = (skp smB b p : Nat) := by rw [up_ne (by omega), up_eq]
  rw [bX12_scan_81]
  simp (disch := first | assumption | omega) only [g12_18, p12_18, p12_19, p12_20, p12_26, g12_19, g12_26, p12_21, g12_21, i3_add, i3_sub, i3_mul, i3_neg, i6_add, i6_sub, i6_mul, i6_neg, i3_lt, i3_le, i3_eq, i6_lt, i6_eq, i3_div, i6_div, i6_i3, i3_i6, c6_lt, c6_ge, c6_gt, c6_le, c6_eq, i3_ite, i6_ite, ib_0, ib_z, ite_not, i1_0, i0_0, jB_1, jB_0, jB_ib, bI_v, bL_v, bD_v, bV_v, ob_s, ob_i, i3_ofNat, jx_e, bI_e, bL_e, bD_e, bV_e, i3_eq0, i6_eq0, if_mx, if_mn, if_true, if_false, not_true_eq_false, not_false_eq_true, Int.reduceEq, Int.reduceLT, Int.reduceLE, bX12_scan_155, bX12_scan_286, e18, hs, sX12_isSmall, hq]
  unfold wd wdR
  rw [een]
theorem sX12_scan_175 {p : Nat} {x1 : Int} (hT : 18 ≤ T) (h : txW w b n) (hp : p ≤ n) (h1 : dgB (b p)) : jm_R (jm_env (d + 2)) jmM_X12_scan 175 [some (.ref 411), some (.int (i3 x1))] [] (qM X v (up (up w 411 18 p) 411 21 0) T c s) = some (.inl none, qM X v (up (up (up w 411 18 (en b p)) 411 21 (nv b p)) 411 20 2) T c s) := by
  have ho := h.1
  have hn := ho.1
  have hk1 := kd_2 h1
  obtain ⟨⟨s1, s2⟩, sp, s3⟩ := skp_s ho (p := dgB) (by decide) hp
  have een := en_2 h1
  have e1 := skp_ch (p := dgB) (fun j : Nat => jm_R (jm_env (d + 2)) jmM_X12_scan 175 [some (.ref 411), some (.int (i3 x1))] [] (qM X v (up (up w 411 18 j) 411 21 (nmR b p (j - p))) T c s)) ho (by decide) hp (fun j j0 j1 hb => by
    have hbb := b_b ho j
    have hq : (48 ≤ b j ∧ b j ≤ 57) = True := eq_true hb
    have hs := fun v' => sX12_see (d := d + 1) (X := X) (v := v') (w := up (up w 411 18 j) 411 21 (nmR b p (j - p))) (T := T) (c := c) (s := s) (k := j) hT (txW_u (txW_u h (by omega)) (by omega)) (by omega) (by omega)
    obtain ⟨m1, m2, m3⟩ := nm_b (b := b) (p := p) (j - p) (fun i hi => sp (p + i) (by omega) (by omega))
    have e18 : up (up w 411 18 j) 411 21 (nmR b p (j - p)) 411 18 = j := by rw [up_ne (by omega), up_eq]
    have e21 : up (up w 411 18 j) 411 21 (nmR b p (j - p)) 411 21 = nmR b p (j - p) := up_eq
    have ew : nmR b p (j + 1 - p) = if 999999 < nmR b p (j - p) then nmR b p (j - p) else 10 * nmR b p (j - p) + b j - 48 := by
      rw [show j + 1 - p = (j - p) + 1 by omega, show nmR b p (j - p + 1) = if 999999 < nmR b p (j - p) then nmR b p (j - p) else 10 * nmR b p (j - p) + b ((p + (j - p) : Nat) : Int) - 48 from rfl, show p + (j - p) = j by omega]
    rw [bX12_scan_175]
    simp (disch := first | assumption | omega) only [g12_18, p12_18, p12_19, p12_20, p12_26, g12_19, g12_26, p12_21, g12_21, i3_add, i3_sub, i3_mul, i3_neg, i6_add, i6_sub, i6_mul, i6_neg, i3_lt, i3_le, i3_eq, i6_lt, i6_eq, i3_div, i6_div, i6_i3, i3_i6, c6_lt, c6_ge, c6_gt, c6_le, c6_eq, i3_ite, i6_ite, ib_0, ib_z, ite_not, i1_0, i0_0, jB_1, jB_0, jB_ib, bI_v, bL_v, bD_v, bV_v, ob_s, ob_i, i3_ofNat, jx_e, bI_e, bL_e, bD_e, bV_e, i3_eq0, i6_eq0, if_mx, if_mn, if_true, if_false, not_true_eq_false, not_false_eq_true, Int.reduceEq, Int.reduceLT, Int.reduceLE, bX12_scan_189, bX12_scan_199, bX12_scan_206, bX12_scan_225, e18, e21, hs, sX12_isDigit, hq]
    by_cases g : nmR b p (j - p) ≤ 999999
    · rw [if_pos g, ew, if_neg (by omega)]
      simp (disch := first | assumption | omega) only [up_up, up_ne, up_eq, i3_add, i3_sub, i3_mul, i3_neg, i6_add, i6_sub, i6_mul, i6_neg, i3_lt, i3_le, i3_eq, i6_lt, i6_eq, i3_div, i6_div, i6_i3, i3_i6, c6_lt, c6_ge, c6_gt, c6_le, c6_eq, i3_ite, i6_ite, ib_0, ib_z, ite_not, i1_0, i0_0, jB_1, jB_0, jB_ib, bI_v, bL_v, bD_v, bV_v, ob_s, ob_i, i3_ofNat, jx_e, bI_e, bL_e, bD_e, bV_e, i3_eq0, i6_eq0, if_mx, if_mn, if_true, if_false, not_true_eq_false, not_false_eq_true, Int.reduceEq, Int.reduceLT, Int.reduceLE, p12_21, g12_18, p12_18]
      rw [up_sw (i := 21) (j := 18) (by omega), up_up]
      rfl
    · rw [if_neg g, ew, if_pos (by omega)]
      simp (disch := first | assumption | omega) only [up_up, up_ne, up_eq, i3_add, i3_sub, i3_mul, i3_neg, i6_add, i6_sub, i6_mul, i6_neg, i3_lt, i3_le, i3_eq, i6_lt, i6_eq, i3_div, i6_div, i6_i3, i3_i6, c6_lt, c6_ge, c6_gt, c6_le, c6_eq, i3_ite, i6_ite, ib_0, ib_z, ite_not, i1_0, i0_0, jB_1, jB_0, jB_ib, bI_v, bL_v, bD_v, bV_v, ob_s, ob_i, i3_ofNat, jx_e, bI_e, bL_e, bD_e, bV_e, i3_eq0, i6_eq0, if_mx, if_mn, if_true, if_false, not_true_eq_false, not_false_eq_true, Int.reduceEq, Int.reduceLT, Int.reduceLE, p12_21, g12_18, p12_18]
      rw [up_sw (i := 21) (j := 18) (by omega), up_up]
      rfl)
  have e0 : nmR b p (p - p) = 0 := by rw [Nat.sub_self]; rfl
  rw [e0] at e1
  refine e1.trans ?_
  have hbb := b_b ho (skp dgB b p : Nat)
  have hq : (48 ≤ b (skp dgB b p : Nat) ∧ b (skp dgB b p : Nat) ≤ 57) = False := eq_false s3
  have hs := fun v' => sX12_see (d := d + 1) (X := X) (v := v') (w := up (up w 411 18 (skp dgB b p : Nat)) 411 21 (nmR b p (skp dgB b p - p))) (T := T) (c := c) (s := s) (k := (skp dgB b p : Nat)) hT (txW_u (txW_u h (by omega)) (by omega)) (by omega) (by omega)
  have e18 : up (up w 411 18 (skp dgB b p : Nat)) 411 21 (nmR b p (skp dgB b p - p)) 411 18 = (skp dgB b p : Nat) := by rw [up_ne (by omega), up_eq]
  rw [bX12_scan_175]
  simp (disch := first | assumption | omega) only [g12_18, p12_18, p12_19, p12_20, p12_26, g12_19, g12_26, p12_21, g12_21, i3_add, i3_sub, i3_mul, i3_neg, i6_add, i6_sub, i6_mul, i6_neg, i3_lt, i3_le, i3_eq, i6_lt, i6_eq, i3_div, i6_div, i6_i3, i3_i6, c6_lt, c6_ge, c6_gt, c6_le, c6_eq, i3_ite, i6_ite, ib_0, ib_z, ite_not, i1_0, i0_0, jB_1, jB_0, jB_ib, bI_v, bL_v, bD_v, bV_v, ob_s, ob_i, i3_ofNat, jx_e, bI_e, bL_e, bD_e, bV_e, i3_eq0, i6_eq0, if_mx, if_mn, if_true, if_false, not_true_eq_false, not_false_eq_true, Int.reduceEq, Int.reduceLT, Int.reduceLE, bX12_scan_241, bX12_scan_286, e18, hs, sX12_isDigit, hq]
  unfold nv
  rw [een]
end RFA
