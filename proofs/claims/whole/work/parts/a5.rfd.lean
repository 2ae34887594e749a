-- uses 24.zar 25.obj 26.ops 30.rd 31.re 32.rf 34.gen 35.byt 38.mod 39.mo2 40.mo3 41.bit 43.mo5 46.mo8 51.moe 53.cla 55.clc 62.clj 64.okm 74.cls 93.tka 97.srp a2.rfa a3.rfb a4.rfc
/-! The reference: sizes and series of a setup. -/
def toS (to : Int → Int) : Int := to 0 + to 1 + to 2 + to 3 + to 4 + to 5 + to 6 + to 7 + to 8 + to 9
theorem toS_st {to : Int → Int} {k : Int} (k0 : 0 ≤ k) (k1 : k < 10) (h : to k = 0) : toS (st1 to k 1) = toS to + 1 := by
  have : k = 0 ∨ k = 1 ∨ k = 2 ∨ k = 3 ∨ k = 4 ∨ k = 5 ∨ k = 6 ∨ k = 7 ∨ k = 8 ∨ k = 9 := by omega
  unfold toS st1
  rcases this with rfl | rfl | rfl | rfl | rfl | rfl | rfl | rfl | rfl | rfl <;> simp [h] <;> omega
/-- .. and the flags at a -/
def frY (a : Nat) (w' w : Nat → Int → Int) : Prop := ∀ (m : Nat) (k : Int), m ≠ a → (m ≠ 411 ∨ (k ≠ 9 ∧ k ≠ 10 ∧ (k < 18 ∨ (23 < k ∧ k ≠ 26)))) → w' m k = w m k
theorem frY_tr {a : Nat} {w w' w'' : Nat → Int → Int} (h : frY a w'' w') (g : frY a w' w) : frY a w'' w := fun m k h1 h2 => (h m k h1 h2).trans (g m k h1 h2)
theorem frS.y {a : Nat} {w w' : Nat → Int → Int} (h : frS w' w) : frY a w' w := fun m k _ h2 => h m k h2
section RFD
variable {d : Nat} {X : Nat × (Nat → Int32)} {v w : Nat → Int → Int} {T c s : Nat}
variable {b : Int → Int} {n : Nat}
theorem sX12_sizes {i a : Nat} {x1 x2 x3 : Int} (hT : 18 ≤ T) (ha0 : 431 ≤ a) (ha1 : a < 411 + T) : ∀ (f : Nat) (v w : Nat → Int → Int) (to : Int → Int) (p : Nat), GD w b n p → suM v → v 412 0 = i + 1 → (∀ k : Int, 0 ≤ k → k < 10 → w a k = to k ∧ (to k = 0 ∨ to k = 1)) → toS to + f = 11 →
    (∀ e, szP b i f v to p = .inl e → ∃ v' w', jm_R (jm_env (d + 7)) jmM_X12_seriesText 105 [some (.ref 411), some (.int (i3 x1)), some (.int (i3 x2)), some (.int (i3 x3)), some (.ref a)] [] (qM X v w T c s) = some (.inl none, qM X v' w' T c s) ∧ BD w' b n e.1 e.2 ∧ (∀ m : Nat, m ≠ 412 → v' m = v m) ∧ frY a w' w) ∧
    (∀ u, szP b i f v to p = .inr u → ∃ w', jm_R (jm_env (d + 7)) jmM_X12_seriesText 105 [some (.ref 411), some (.int (i3 x1)), some (.int (i3 x2)), some (.int (i3 x3)), some (.ref a)] [] (qM X v w T c s) = some (.inl none, qM X u.1 w' T c s) ∧ GD w' b n u.2 ∧ (∀ m : Nat, m ≠ 412 → u.1 m = v m) ∧ frY a w' w) := by
  intro f
  induction f with
  | zero =>
    intro v w to p h hs hc hto hf
    exfalso
    have t0 := (hto 0 (by omega) (by omega)).2
    have t1 := (hto 1 (by omega) (by omega)).2
    have t2 := (hto 2 (by omega) (by omega)).2
    have t3 := (hto 3 (by omega) (by omega)).2
    have t4 := (hto 4 (by omega) (by omega)).2
    have t5 := (hto 5 (by omega) (by omega)).2
    have t6 := (hto 6 (by omega) (by omega)).2
    have t7 := (hto 7 (by omega) (by omega)).2
    have t8 := (hto 8 (by omega) (by omega)).2
    have t9 := (hto 9 (by omega) (by omega)).2
    unfold toS at hf
    omega
  | succ f ih =>
    intro v w to p h hs hc hto hf
    have hc5 := hs.1.2.1
    have i5 : i < 5 := by omega
    have ho := hs.1.o (i := i) (by omega) (by omega)
    unfold szP
    by_cases q1 : isW b p 632645
    · rw [if_pos q1]
      have e1 := sX12_isWord (d := d + 6) (X := X) (v := v) (T := T) (c := c) (s := s) (W := 632645) hT h (by omega) (by omega)
      rw [if_pos q1] at e1
      obtain ⟨w1, e2, hg, hf1⟩ := sX12_goesOn_1 (d := d + 3) (X := X) (v := v) (T := T) (c := c) (s := s) hT h
      have hsub : (v 412 0 : Int) - 1 = i := by omega
      have head : jm_R (jm_env (d + 7)) jmM_X12_seriesText 105 [some (.ref 411), some (.int (i3 x1)), some (.int (i3 x2)), some (.int (i3 x3)), some (.ref a)] [] (qM X v w T c s) = (jm_env (d + 7) 256 [.ref 411, .int (i3 i), .ref a] (qM X v w1 T c s)).bind (jm_bV (fun m4 => jm_R (jm_env (d + 7)) jmM_X12_seriesText 105 [some (.ref 411), some (.int (i3 x1)), some (.int (i3 x2)), some (.int (i3 x3)), some (.ref a)] [] m4) jm_x) := by
        conv => lhs; rw [bX12_seriesText_105]
        simp (disch := first | assumption | omega) only [i3_add, i3_sub, i3_mul, i3_neg, i6_add, i6_sub, i6_mul, i6_neg, i3_lt, i3_le, i3_eq, i6_lt, i6_eq, i3_div, i6_div, i6_i3, i3_i6, c6_lt, c6_ge, c6_gt, c6_le, c6_eq, i3_ite, i6_ite, ib_0, ib_z, ite_not, i1_0, i0_0, jB_1, jB_0, jB_ib, bI_v, bL_v, bD_v, bV_v, ob_s, ob_i, i3_ofNat, jx_e, bI_e, bL_e, bD_e, bV_e, i3_eq0, i6_eq0, if_mx, if_mn, if_true, if_false, not_true_eq_false, not_false_eq_true, Int.reduceEq, Int.reduceLT, Int.reduceLE, e1, bX12_seriesText_115, e2, r12_0, a12_0, hsub]
      have hto1 : ∀ k : Int, 0 ≤ k → k < 10 → w1 a k = to k ∧ (to k = 0 ∨ to k = 1) := fun k k0 k1 => by rw [hf1 a k (by omega)]; exact hto k k0 k1
      have hfail : ∀ {z : Int} {q : Nat}, (∃ w', jm_env (d + 7) 256 [.ref 411, .int (i3 i), .ref a] (qM X v w1 T c s) = some (.inl none, qM X v w' T c s) ∧ BD w' b n z q ∧ frS w' w1) → (∀ e, (Sum.inl (z, q) : pR) = .inl e → ∃ v' w', jm_R (jm_env (d + 7)) jmM_X12_seriesText 105 [some (.ref 411), some (.int (i3 x1)), some (.int (i3 x2)), some (.int (i3 x3)), some (.ref a)] [] (qM X v w T c s) = some (.inl none, qM X v' w' T c s) ∧ BD w' b n e.1 e.2 ∧ (∀ m : Nat, m ≠ 412 → v' m = v m) ∧ frY a w' w) ∧ (∀ u, (Sum.inl (z, q) : pR) = .inr u → ∃ w', jm_R (jm_env (d + 7)) jmM_X12_seriesText 105 [some (.ref 411), some (.int (i3 x1)), some (.int (i3 x2)), some (.int (i3 x3)), some (.ref a)] [] (qM X v w T c s) = some (.inl none, qM X u.1 w' T c s) ∧ GD w' b n u.2 ∧ (∀ m : Nat, m ≠ 412 → u.1 m = v m) ∧ frY a w' w) := by
        rintro z q ⟨w', y1, y2, y3⟩
        refine ⟨fun e he => ?_, fun u hu => (by cases hu)⟩
        cases he
        refine ⟨v, w', ?_, y2, fun _ _ => rfl, frY_tr y3.y hf1.s.y⟩
        have e9 := sX12_isWord_bad (d := d + 6) (X := X) (v := v) (T := T) (c := c) (s := s) (W := 632645) hT y2
        rw [head]
        simp (disch := first | assumption | omega) only [y1, i3_add, i3_sub, i3_mul, i3_neg, i6_add, i6_sub, i6_mul, i6_neg, i3_lt, i3_le, i3_eq, i6_lt, i6_eq, i3_div, i6_div, i6_i3, i3_i6, c6_lt, c6_ge, c6_gt, c6_le, c6_eq, i3_ite, i6_ite, ib_0, ib_z, ite_not, i1_0, i0_0, jB_1, jB_0, jB_ib, bI_v, bL_v, bD_v, bV_v, ob_s, ob_i, i3_ofNat, jx_e, bI_e, bL_e, bD_e, bV_e, i3_eq0, i6_eq0, if_mx, if_mn, if_true, if_false, not_true_eq_false, not_false_eq_true, Int.reduceEq, Int.reduceLT, Int.reduceLE]
        rw [bX12_seriesText_105]
        simp (disch := first | assumption | omega) only [i3_add, i3_sub, i3_mul, i3_neg, i6_add, i6_sub, i6_mul, i6_neg, i3_lt, i3_le, i3_eq, i6_lt, i6_eq, i3_div, i6_div, i6_i3, i3_i6, c6_lt, c6_ge, c6_gt, c6_le, c6_eq, i3_ite, i6_ite, ib_0, ib_z, ite_not, i1_0, i0_0, jB_1, jB_0, jB_ib, bI_v, bL_v, bD_v, bV_v, ob_s, ob_i, i3_ofNat, jx_e, bI_e, bL_e, bD_e, bV_e, i3_eq0, i6_eq0, if_mx, if_mn, if_true, if_false, not_true_eq_false, not_false_eq_true, Int.reduceEq, Int.reduceLT, Int.reduceLE, e9, bX12_seriesText_137]
      by_cases q2 : isN b (nx b p) 0 9
      · rw [if_pos q2]
        by_cases q3 : to (nv b (nx b p)) ≠ 0 ∨ aM v i (nv b (nx b p)) = 0
        · rw [if_pos q3]
          exact hfail (sX12_stackText_0 (d := d + 1) hT hg ha0 ha1 i5 ho hto1 (Or.inr (Or.inl ⟨q2, q3, rfl, rfl⟩)))
        · rw [if_neg q3]
          by_cases q4 : isN b (nx b (nx b p)) 0 9999
          · rw [if_pos q4]
            obtain ⟨w2, y1, y2, y3, y4⟩ := sX12_stackText_1 (d := d + 1) (X := X) (v := v) (T := T) (c := c) (s := s) hT hg ha0 ha1 i5 ho hto1 q2 q3 q4
            obtain ⟨-, z0, z1⟩ := id q2
            obtain ⟨-, u0, u1⟩ := id q4
            have hto0 : to (nv b (nx b p)) = 0 := by
              by_cases k : to (nv b (nx b p)) = 0
              · exact k
              · exact absurd (Or.inl k) q3
            have hfy : frY a w2 w := frY_tr (fun m k m1 m2 => y4 m k m1 m2) hf1.s.y
            obtain ⟨r1, r2⟩ := ih (up v 412 (12 + 13 * i + 3 + nv b (nx b p)) (nv b (nx b (nx b p)))) w2 (st1 to (nv b (nx b p)) 1) (nx b (nx b (nx b p))) y2 (suM_st hs (by omega) (by omega) z0 (by omega) u0 u1) (by rw [up_ne (by omega)]; exact hc) (fun k k0 k1 => by
              rw [y3 k]
              unfold st1
              by_cases e : k = nv b (nx b p)
              · rw [if_pos e, if_pos e]; exact ⟨rfl, Or.inr rfl⟩
              · rw [if_neg e, if_neg e]; exact hto1 k k0 k1) (by rw [toS_st z0 (by omega) hto0]; omega)
            have hh : jm_R (jm_env (d + 7)) jmM_X12_seriesText 105 [some (.ref 411), some (.int (i3 x1)), some (.int (i3 x2)), some (.int (i3 x3)), some (.ref a)] [] (qM X v w T c s) = jm_R (jm_env (d + 7)) jmM_X12_seriesText 105 [some (.ref 411), some (.int (i3 x1)), some (.int (i3 x2)), some (.int (i3 x3)), some (.ref a)] [] (qM X (up v 412 (12 + 13 * i + 3 + nv b (nx b p)) (nv b (nx b (nx b p)))) w2 T c s) := by
              rw [head]
              simp (disch := first | assumption | omega) only [y1, i3_add, i3_sub, i3_mul, i3_neg, i6_add, i6_sub, i6_mul, i6_neg, i3_lt, i3_le, i3_eq, i6_lt, i6_eq, i3_div, i6_div, i6_i3, i3_i6, c6_lt, c6_ge, c6_gt, c6_le, c6_eq, i3_ite, i6_ite, ib_0, ib_z, ite_not, i1_0, i0_0, jB_1, jB_0, jB_ib, bI_v, bL_v, bD_v, bV_v, ob_s, ob_i, i3_ofNat, jx_e, bI_e, bL_e, bD_e, bV_e, i3_eq0, i6_eq0, if_mx, if_mn, if_true, if_false, not_true_eq_false, not_false_eq_true, Int.reduceEq, Int.reduceLT, Int.reduceLE]
            rw [hh]
            refine ⟨fun e he => ?_, fun u hu => ?_⟩
            · obtain ⟨v', w', x1, x2, x3, x4⟩ := r1 e he
              exact ⟨v', w', x1, x2, fun m hm => (x3 m hm).trans (up_b hm), frY_tr x4 hfy⟩
            · obtain ⟨w', x1, x2, x3, x4⟩ := r2 u hu
              exact ⟨w', x1, x2, fun m hm => (x3 m hm).trans (up_b hm), frY_tr x4 hfy⟩
          · rw [if_neg q4]
            exact hfail (sX12_stackText_0 (d := d + 1) hT hg ha0 ha1 i5 ho hto1 (Or.inr (Or.inr ⟨q2, q3, q4, rfl, rfl⟩)))
      · rw [if_neg q2]
        exact hfail (sX12_stackText_0 (d := d + 1) hT hg ha0 ha1 i5 ho hto1 (Or.inl ⟨q2, rfl, rfl⟩))
    · rw [if_neg q1]
      have e1 := sX12_isWord (d := d + 6) (X := X) (v := v) (T := T) (c := c) (s := s) (W := 632645) hT h (by omega) (by omega)
      rw [if_neg q1] at e1
      refine ⟨fun e he => (by cases he), fun u hu => ?_⟩
      cases hu
      refine ⟨w, ?_, h, fun _ _ => rfl, fun _ _ _ _ => rfl⟩
      rw [bX12_seriesText_105]
      simp (disch := first | assumption | omega) only [i3_add, i3_sub, i3_mul, i3_neg, i6_add, i6_sub, i6_mul, i6_neg, i3_lt, i3_le, i3_eq, i6_lt, i6_eq, i3_div, i6_div, i6_i3, i3_i6, c6_lt, c6_ge, c6_gt, c6_le, c6_eq, i3_ite, i6_ite, ib_0, ib_z, ite_not, i1_0, i0_0, jB_1, jB_0, jB_ib, bI_v, bL_v, bD_v, bV_v, ob_s, ob_i, i3_ofNat, jx_e, bI_e, bL_e, bD_e, bV_e, i3_eq0, i6_eq0, if_mx, if_mn, if_true, if_false, not_true_eq_false, not_false_eq_true, Int.reduceEq, Int.reduceLT, Int.reduceLE, e1, bX12_seriesText_137]
/-- a series that failed already -/
theorem sX12_se57 {cd x : Int} {q : Nat} (hT : 18 ≤ T) (h : BD w b n cd q) (hx : x = 0 ∨ x = 1) : jm_R (jm_env (d + 7)) jmM_X12_seriesText 57 [some (.ref 411), none, none, none, none] [.int (i3 x), .ref 411] (qM X v w T c s) = some (.inl none, (qM X v w T c s)) := by
  obtain ⟨h22, c1, c4⟩ := BD_b h
  have e1 := sX12_must_bad (d := d + 6) (X := X) (v := v) (T := T) (c := c) (s := s) (z := 3) hT h22 c1 c4 hx
  have e2 := sX12_name_bad (d := d + 2) (X := X) (v := v) (T := T) (c := c) (s := s) hT h
  have e3 := sX12_reads_bad (d := d + 2) (X := X) (v := v) (T := T) (c := c) (s := s) (x := 1) (y := 2000) hT h (by omega) (by omega) (by omega)
  have e4 := sX12_isGood_0 (d := d + 6) (X := X) (v := v) (T := T) (c := c) (s := s) hT h
  rw [bX12_seriesText_57]
  simp (disch := first | assumption | omega) only [i3_add, i3_sub, i3_mul, i3_neg, i6_add, i6_sub, i6_mul, i6_neg, i3_lt, i3_le, i3_eq, i6_lt, i6_eq, i3_div, i6_div, i6_i3, i3_i6, c6_lt, c6_ge, c6_gt, c6_le, c6_eq, i3_ite, i6_ite, ib_0, ib_z, ite_not, i1_0, i0_0, jB_1, jB_0, jB_ib, bI_v, bL_v, bD_v, bV_v, ob_s, ob_i, i3_ofNat, jx_e, bI_e, bL_e, bD_e, bV_e, i3_eq0, i6_eq0, if_mx, if_mn, if_true, if_false, not_true_eq_false, not_false_eq_true, Int.reduceEq, Int.reduceLT, Int.reduceLE, e1, e2, e3, e4, bX12_seriesText_91]
/-- one series' text: its answer is the pure one's -/
def oS (x : Option jm_Res) (X : Nat × (Nat → Int32)) (v w : Nat → Int → Int) (T c s : Nat) (b : Int → Int) (n K : Nat) (r : pR) : Prop :=
  (∀ e, r = .inl e → ∃ v' w' k, x = some (.inl none, qM X v' w' (T + k) (c + k) (s + 10 * k)) ∧ BD w' b n e.1 e.2 ∧ (∀ m : Nat, m ≠ 412 → v' m = v m) ∧ k ≤ K ∧ ∀ (m : Nat) (k : Int), m < 411 + T → (m ≠ 411 ∨ (k ≠ 9 ∧ k ≠ 10 ∧ (k < 18 ∨ (23 < k ∧ k ≠ 26)))) → w' m k = w m k) ∧
  (∀ u, r = .inr u → ∃ w' k, x = some (.inl none, qM X u.1 w' (T + k) (c + k) (s + 10 * k)) ∧ GD w' b n u.2 ∧ (∀ m : Nat, m ≠ 412 → u.1 m = v m) ∧ k ≤ K ∧ ∀ (m : Nat) (k : Int), m < 411 + T → (m ≠ 411 ∨ (k ≠ 9 ∧ k ≠ 10 ∧ (k < 18 ∨ (23 < k ∧ k ≠ 26)))) → w' m k = w m k)
theorem oS_l {x : Option jm_Res} {K : Nat} {r : pR} {z : Int} {q : Nat} (hr : r = .inl (z, q)) (h : ∃ w', x = some (.inl none, qM X v w' T c s) ∧ BD w' b n z q ∧ frS w' w) : oS x X v w T c s b n K r := by
  subst hr
  obtain ⟨w', h1, h2, h3⟩ := h
  exact ⟨fun e he => (by cases he; exact ⟨v, w', 0, h1, h2, fun _ _ => rfl, Nat.zero_le _, fun m k _ hk => h3 m k hk⟩), fun u hu => (by cases hu)⟩
theorem wd_6 (ho : okB b n) {p : Nat} (hp : p ≤ n) (g : isM b p) : 0 ≤ wd b p ∧ wd b p < 1073741824 := by
  obtain ⟨h1, h2, -⟩ := nk_b (wd_ok ho hp g.1 (m := min (en b p - p) 12) (by omega))
  have : (32 : Int) ^ (min (en b p - p) 12) ≤ 1073741824 := by
    have : ∀ n : Nat, n ≤ 6 → (32 : Int) ^ n ≤ 1073741824 := by decide
    exact this _ (by have := g.2; omega)
  unfold wd
  omega
theorem sX12_seriesText {p : Nat} (hT : 20 ≤ T) (hT2 : T < 900000) (h : GD w b n p) (hs : suM v) (hnm : nmOk v) (q1 : isW b p 643376307) : oS (jm_env (d + 8) 257 [.ref 411] (qM X v w T c s)) X v w T c s b n 1 (seP b v p) := by
  have hT' : 18 ≤ T := by omega
  obtain ⟨⟨hx1, hp, -⟩, h22⟩ := id h
  have ho := hx1.1
  have hc0 := hs.1.1
  have hc5 := hs.1.2.1
  have b1 := (nx_b ho hp).2
  have b2 := (nx_b ho b1).2
  have b3 := (nx_b ho b2).2
  obtain ⟨i, hi⟩ : ∃ i : Nat, v 412 0 = i := ⟨(v 412 0).toNat, (Int.toNat_of_nonneg hc0).symm⟩
  unfold seP
  rw [if_pos q1, eX12_seriesText (h := hT'), bX12_seriesText_0]
  by_cases q2 : 5 ≤ v 412 0
  · rw [if_pos q2]
    obtain ⟨hb, hf⟩ := BD_mk (z := 4) h.1 (by omega) (by omega)
    have e1 := sX12_must_0 (d := d + 6) (X := X) (v := v) (T := T) (c := c) (s := s) (z := 4) hT' h22 h.1
    have e2 := sX12_goesOn_0 (d := d + 3) (X := X) (v := v) (T := T) (c := c) (s := s) hT' hb
    have e3 := sX12_nameHere_bad (d := d + 5) (X := X) (v := v) (T := T) (c := c) (s := s) hT' hb
    have e4 := sX12_isGood_0 (d := d + 6) (X := X) (v := v) (T := T) (c := c) (s := s) hT' hb
    have e5 := sX12_se57 (d := d) (X := X) (v := v) (T := T) (c := c) (s := s) (x := 1) hT' hb (Or.inr rfl)
    refine oS_l rfl ⟨_, ?_, hb, hf.s⟩
    simp (disch := first | assumption | omega) only [i3_add, i3_sub, i3_mul, i3_neg, i6_add, i6_sub, i6_mul, i6_neg, i3_lt, i3_le, i3_eq, i6_lt, i6_eq, i3_div, i6_div, i6_i3, i3_i6, c6_lt, c6_ge, c6_gt, c6_le, c6_eq, i3_ite, i6_ite, ib_0, ib_z, ite_not, i1_0, i0_0, jB_1, jB_0, jB_ib, bI_v, bL_v, bD_v, bV_v, ob_s, ob_i, i3_ofNat, jx_e, bI_e, bL_e, bD_e, bV_e, i3_eq0, i6_eq0, if_mx, if_mn, if_true, if_false, not_true_eq_false, not_false_eq_true, Int.reduceEq, Int.reduceLT, Int.reduceLE, r12_0, a12_0]
    rw [if_pos q2]
    simp (disch := first | assumption | omega) only [i3_add, i3_sub, i3_mul, i3_neg, i6_add, i6_sub, i6_mul, i6_neg, i3_lt, i3_le, i3_eq, i6_lt, i6_eq, i3_div, i6_div, i6_i3, i3_i6, c6_lt, c6_ge, c6_gt, c6_le, c6_eq, i3_ite, i6_ite, ib_0, ib_z, ite_not, i1_0, i0_0, jB_1, jB_0, jB_ib, bI_v, bL_v, bD_v, bV_v, ob_s, ob_i, i3_ofNat, jx_e, bI_e, bL_e, bD_e, bV_e, i3_eq0, i6_eq0, if_mx, if_mn, if_true, if_false, not_true_eq_false, not_false_eq_true, Int.reduceEq, Int.reduceLT, Int.reduceLE, bX12_seriesText_18, bX12_seriesText_19, bX12_seriesText_52, e1, e2, e3, e4, e5]
  · rw [if_neg q2]
    have q2' : (5 ≤ v 412 0) = False := eq_false q2
    have e1 := sX12_must_1 (d := d + 6) (X := X) (v := v) (T := T) (c := c) (s := s) (z := 4) hT' h22
    obtain ⟨w1, e2, hg, hf1⟩ := sX12_goesOn_1 (d := d + 3) (X := X) (v := v) (T := T) (c := c) (s := s) hT' h
    by_cases q3 : isM b (nx b p)
    · rw [if_pos q3]
      have e3 := sX12_nameHere_1 (d := d + 5) (X := X) (v := v) (T := T) (c := c) (s := s) hT' hg q3
      have e4 := sX12_isGood_1 (d := d + 6) (X := X) (v := v) (T := T) (c := c) (s := s) hT' hg.2
      have e26 := hg.1.2.2.2.2.2.2.2 q3.1
      obtain ⟨wd0, wd1⟩ := wd_6 ho b1 q3
      have e5 := sX12_seriesNamed (d := d + 5) (X := X) (w := w1) (T := T) (c := c) (s := s) (x := wd b (nx b p)) hT' hc0 hc5 hnm wd0 (by omega)
      have hnb := nmF_b (u := v) hc0 hc5 (wd b (nx b p))
      by_cases q4 : nmF v (wd b (nx b p)) ≠ -1
      · rw [if_pos q4]
        obtain ⟨hb, hf⟩ := BD_mk (z := 3) hg.1 (by omega) (by omega)
        have e6 := sX12_must_0 (d := d + 6) (X := X) (v := v) (T := T) (c := c) (s := s) (z := 3) hT' hg.2 hg.1
        have e7 := sX12_name_bad (d := d + 2) (X := X) (v := v) (T := T) (c := c) (s := s) hT' hb
        have e8 := sX12_reads_bad (d := d + 2) (X := X) (v := v) (T := T) (c := c) (s := s) (x := 1) (y := 2000) hT' hb (by omega) (by omega) (by omega)
        have e9 := sX12_isGood_0 (d := d + 6) (X := X) (v := v) (T := T) (c := c) (s := s) hT' hb
        refine oS_l rfl ⟨_, ?_, hb, frS_tr hf.s hf1.s⟩
        simp (disch := first | assumption | omega) only [↓reduceIte, i3_add, i3_sub, i3_mul, i3_neg, i6_add, i6_sub, i6_mul, i6_neg, i3_lt, i3_le, i3_eq, i6_lt, i6_eq, i3_div, i6_div, i6_i3, i3_i6, c6_lt, c6_ge, c6_gt, c6_le, c6_eq, i3_ite, i6_ite, ib_0, ib_z, ite_not, i1_0, i0_0, jB_1, jB_0, jB_ib, bI_v, bL_v, bD_v, bV_v, ob_s, ob_i, i3_ofNat, jx_e, bI_e, bL_e, bD_e, bV_e, i3_eq0, i6_eq0, if_mx, if_mn, if_true, if_false, not_true_eq_false, not_false_eq_true, Int.reduceEq, Int.reduceLT, Int.reduceLE, r12_0, a12_0, q2', bX12_seriesText_14, bX12_seriesText_19, bX12_seriesText_39, e1, e2, e3, e4, g12_26, e26, e5]
        rw [if_neg q4]
        simp (disch := first | assumption | omega) only [↓reduceIte, i3_add, i3_sub, i3_mul, i3_neg, i6_add, i6_sub, i6_mul, i6_neg, i3_lt, i3_le, i3_eq, i6_lt, i6_eq, i3_div, i6_div, i6_i3, i3_i6, c6_lt, c6_ge, c6_gt, c6_le, c6_eq, i3_ite, i6_ite, ib_0, ib_z, ite_not, i1_0, i0_0, jB_1, jB_0, jB_ib, bI_v, bL_v, bD_v, bV_v, ob_s, ob_i, i3_ofNat, jx_e, bI_e, bL_e, bD_e, bV_e, i3_eq0, i6_eq0, if_mx, if_mn, if_true, if_false, not_true_eq_false, not_false_eq_true, Int.reduceEq, Int.reduceLT, Int.reduceLE, bX12_seriesText_56, bX12_seriesText_57, bX12_seriesText_91, e6, e7, e8, e9]
      · rw [if_neg q4]
        have q4' : nmF v (wd b (nx b p)) = -1 := by
          by_cases g : nmF v (wd b (nx b p)) = -1
          · exact g
          · exact absurd g q4
        have e6 := sX12_must_1 (d := d + 6) (X := X) (v := v) (T := T) (c := c) (s := s) (z := 3) hT' hg.2
        obtain ⟨w2, e7, hg2, hf2⟩ := sX12_name_1 (d := d + 2) (X := X) (v := v) (T := T) (c := c) (s := s) hT' hg q3
        by_cases q5 : isN b (nx b (nx b p)) 1 2000
        · rw [if_pos q5]
          obtain ⟨w3, e8, hg3, hf3⟩ := sX12_reads_1 (d := d + 2) (X := X) (v := v) (T := T) (c := c) (s := s) hT' hg2 (by omega) (by omega) q5
          by_cases q6 : isN b (nx b (nx b (nx b p))) 1 2000
          · rw [if_pos q6]
            obtain ⟨w4, e9, hg4, hf4⟩ := sX12_reads_1 (d := d + 2) (X := X) (v := v) (T := T) (c := c) (s := s) hT' hg3 (by omega) (by omega) q6
            obtain ⟨-, y0, y1⟩ := id q5
            obtain ⟨-, z0, z1⟩ := id q6
            have e10 := sX12_isGood_1 (d := d + 6) (X := X) (v := v) (T := T) (c := c) (s := s) hT' hg4.2
            have e11 := sX12_comes (d := d + 5) (X := X) (v := v) (w := w4) (T := T) (c := c) (s := s) (nm := wd b (nx b p)) (a := nv b (nx b (nx b p))) (b := nv b (nx b (nx b (nx b p)))) hT' hc0 (by omega) (by omega) (by omega) (by omega) (by omega) (by omega) (by omega)
            have hfr : frS w4 w := frS_tr hf4.s (frS_tr hf3.s (frS_tr hf2.s hf1.s))
            have hs2 := suM_cm (x := wd b (nx b p)) hs (by omega) y0 y1 z0 z1
            have e0 := cm_0 (x := wd b (nx b p)) (a := nv b (nx b (nx b p))) (b := nv b (nx b (nx b (nx b p)))) hc0
            have hg5 : GD (ov w4 (411 + T) (fun _ => 0)) b n (nx b (nx b (nx b (nx b p)))) := by
              obtain ⟨⟨⟨a1, a2, a3⟩, b1, b2, b3, b4, b5, b6, b7⟩, b8⟩ := hg4
              refine ⟨⟨⟨a1, by rw [ov_b (by omega)]; exact a2, fun k k0 k1 => by rw [ov_b (by omega)]; exact a3 k k0 k1⟩, b1, ?_, ?_, ?_, ?_, ?_, ?_⟩, ?_⟩
              all_goals rw [ov_b (by omega)]; assumption
            have key : jm_R (jm_env (d + 7)) jmM_X12_seriesText 0 [some (.ref 411), none, none, none, none] [] (qM X v w T c s) = jm_R (jm_env (d + 7)) jmM_X12_seriesText 105 [some (.ref 411), some (.int (i3 (wd b (nx b p)))), some (.int (i3 (nv b (nx b (nx b p))))), some (.int (i3 (nv b (nx b (nx b (nx b p)))))), some (.ref (411 + T))] [] (qM X (cmV v (wd b (nx b p)) (nv b (nx b (nx b p))) (nv b (nx b (nx b (nx b p))))) (ov w4 (411 + T) (fun _ => 0)) (T + 1) (c + 1) (s + 10)) := by
              rw [bX12_seriesText_0]
              simp (disch := first | assumption | omega) only [↓reduceIte, i3_add, i3_sub, i3_mul, i3_neg, i6_add, i6_sub, i6_mul, i6_neg, i3_lt, i3_le, i3_eq, i6_lt, i6_eq, i3_div, i6_div, i6_i3, i3_i6, c6_lt, c6_ge, c6_gt, c6_le, c6_eq, i3_ite, i6_ite, ib_0, ib_z, ite_not, i1_0, i0_0, jB_1, jB_0, jB_ib, bI_v, bL_v, bD_v, bV_v, ob_s, ob_i, i3_ofNat, jx_e, bI_e, bL_e, bD_e, bV_e, i3_eq0, i6_eq0, if_mx, if_mn, if_true, if_false, not_true_eq_false, not_false_eq_true, Int.reduceEq, Int.reduceLT, Int.reduceLE, r12_0, a12_0, q2', bX12_seriesText_14, bX12_seriesText_19, bX12_seriesText_39, e1, e2, e3, e4, g12_26, e26, e5, q4']
              simp (disch := first | assumption | omega) only [↓reduceIte, i3_add, i3_sub, i3_mul, i3_neg, i6_add, i6_sub, i6_mul, i6_neg, i3_lt, i3_le, i3_eq, i6_lt, i6_eq, i3_div, i6_div, i6_i3, i3_i6, c6_lt, c6_ge, c6_gt, c6_le, c6_eq, i3_ite, i6_ite, ib_0, ib_z, ite_not, i1_0, i0_0, jB_1, jB_0, jB_ib, bI_v, bL_v, bD_v, bV_v, ob_s, ob_i, i3_ofNat, jx_e, bI_e, bL_e, bD_e, bV_e, i3_eq0, i6_eq0, if_mx, if_mn, if_true, if_false, not_true_eq_false, not_false_eq_true, Int.reduceEq, Int.reduceLT, Int.reduceLE, bX12_seriesText_52, bX12_seriesText_57, bX12_seriesText_92, e6, e7, e8, e9, e10, e11, hi_mk]
              rfl
            rw [← bX12_seriesText_0, key]
            obtain ⟨r1, r2⟩ := sX12_sizes (d := d) (X := X) (T := T + 1) (c := c + 1) (s := s + 10) (i := i) (a := 411 + T) (x1 := wd b (nx b p)) (x2 := nv b (nx b (nx b p))) (x3 := nv b (nx b (nx b (nx b p)))) (by omega) (by omega) (by omega) 11 _ _ (fun _ => 0) _ hg5 hs2 (by rw [e0, hi]) (fun k k0 k1 => ⟨ov_in, Or.inl rfl⟩) (by decide)
            rw [hi]
            have hcm : ∀ m : Nat, m ≠ 412 → cmV v (wd b (nx b p)) (nv b (nx b (nx b p))) (nv b (nx b (nx b (nx b p)))) m = v m := fun m hm => cm_b hm
            have hfin : ∀ {w' : Nat → Int → Int}, frY (411 + T) w' (ov w4 (411 + T) (fun _ => 0)) → ∀ (m : Nat) (k : Int), m < 411 + T → (m ≠ 411 ∨ (k ≠ 9 ∧ k ≠ 10 ∧ (k < 18 ∨ (23 < k ∧ k ≠ 26)))) → w' m k = w m k := fun hy m k m1 m2 => by
              rw [hy m k (by omega) m2, ov_b (by omega), hfr m k m2]
            refine ⟨fun e he => ?_, fun u hu => ?_⟩
            · obtain ⟨v', w', y1, y2, y3, y4⟩ := r1 e he
              exact ⟨v', w', 1, y1, y2, fun m hm => (y3 m hm).trans (hcm m hm), Nat.le_refl _, hfin y4⟩
            · obtain ⟨w', y1, y2, y3, y4⟩ := r2 u hu
              exact ⟨w', 1, y1, y2, fun m hm => (y3 m hm).trans (hcm m hm), Nat.le_refl _, hfin y4⟩
          · rw [if_neg q6]
            obtain ⟨w4, e9, hb, hf4⟩ := sX12_reads_0 (d := d + 2) (X := X) (v := v) (T := T) (c := c) (s := s) hT' hg3 (by omega) (by omega) (by omega) q6
            have e10 := sX12_isGood_0 (d := d + 6) (X := X) (v := v) (T := T) (c := c) (s := s) hT' hb
            refine oS_l rfl ⟨w4, ?_, hb, frS_tr hf4.s (frS_tr hf3.s (frS_tr hf2.s hf1.s))⟩
            simp (disch := first | assumption | omega) only [↓reduceIte, i3_add, i3_sub, i3_mul, i3_neg, i6_add, i6_sub, i6_mul, i6_neg, i3_lt, i3_le, i3_eq, i6_lt, i6_eq, i3_div, i6_div, i6_i3, i3_i6, c6_lt, c6_ge, c6_gt, c6_le, c6_eq, i3_ite, i6_ite, ib_0, ib_z, ite_not, i1_0, i0_0, jB_1, jB_0, jB_ib, bI_v, bL_v, bD_v, bV_v, ob_s, ob_i, i3_ofNat, jx_e, bI_e, bL_e, bD_e, bV_e, i3_eq0, i6_eq0, if_mx, if_mn, if_true, if_false, not_true_eq_false, not_false_eq_true, Int.reduceEq, Int.reduceLT, Int.reduceLE, r12_0, a12_0, q2', bX12_seriesText_14, bX12_seriesText_19, bX12_seriesText_39, e1, e2, e3, e4, g12_26, e26, e5, q4']
            simp (disch := first | assumption | omega) only [↓reduceIte, i3_add, i3_sub, i3_mul, i3_neg, i6_add, i6_sub, i6_mul, i6_neg, i3_lt, i3_le, i3_eq, i6_lt, i6_eq, i3_div, i6_div, i6_i3, i3_i6, c6_lt, c6_ge, c6_gt, c6_le, c6_eq, i3_ite, i6_ite, ib_0, ib_z, ite_not, i1_0, i0_0, jB_1, jB_0, jB_ib, bI_v, bL_v, bD_v, bV_v, ob_s, ob_i, i3_ofNat, jx_e, bI_e, bL_e, bD_e, bV_e, i3_eq0, i6_eq0, if_mx, if_mn, if_true, if_false, not_true_eq_false, not_false_eq_true, Int.reduceEq, Int.reduceLT, Int.reduceLE, bX12_seriesText_52, bX12_seriesText_57, bX12_seriesText_91, e6, e7, e8, e9, e10]
        · rw [if_neg q5]
          obtain ⟨w3, e8, hb, hf3⟩ := sX12_reads_0 (d := d + 2) (X := X) (v := v) (T := T) (c := c) (s := s) hT' hg2 (by omega) (by omega) (by omega) q5
          have e9 := sX12_reads_bad (d := d + 2) (X := X) (v := v) (T := T) (c := c) (s := s) (x := 1) (y := 2000) hT' hb (by omega) (by omega) (by omega)
          have e10 := sX12_isGood_0 (d := d + 6) (X := X) (v := v) (T := T) (c := c) (s := s) hT' hb
          refine oS_l rfl ⟨w3, ?_, hb, frS_tr hf3.s (frS_tr hf2.s hf1.s)⟩
          simp (disch := first | assumption | omega) only [↓reduceIte, i3_add, i3_sub, i3_mul, i3_neg, i6_add, i6_sub, i6_mul, i6_neg, i3_lt, i3_le, i3_eq, i6_lt, i6_eq, i3_div, i6_div, i6_i3, i3_i6, c6_lt, c6_ge, c6_gt, c6_le, c6_eq, i3_ite, i6_ite, ib_0, ib_z, ite_not, i1_0, i0_0, jB_1, jB_0, jB_ib, bI_v, bL_v, bD_v, bV_v, ob_s, ob_i, i3_ofNat, jx_e, bI_e, bL_e, bD_e, bV_e, i3_eq0, i6_eq0, if_mx, if_mn, if_true, if_false, not_true_eq_false, not_false_eq_true, Int.reduceEq, Int.reduceLT, Int.reduceLE, r12_0, a12_0, q2', bX12_seriesText_14, bX12_seriesText_19, bX12_seriesText_39, e1, e2, e3, e4, g12_26, e26, e5, q4']
          simp (disch := first | assumption | omega) only [↓reduceIte, i3_add, i3_sub, i3_mul, i3_neg, i6_add, i6_sub, i6_mul, i6_neg, i3_lt, i3_le, i3_eq, i6_lt, i6_eq, i3_div, i6_div, i6_i3, i3_i6, c6_lt, c6_ge, c6_gt, c6_le, c6_eq, i3_ite, i6_ite, ib_0, ib_z, ite_not, i1_0, i0_0, jB_1, jB_0, jB_ib, bI_v, bL_v, bD_v, bV_v, ob_s, ob_i, i3_ofNat, jx_e, bI_e, bL_e, bD_e, bV_e, i3_eq0, i6_eq0, if_mx, if_mn, if_true, if_false, not_true_eq_false, not_false_eq_true, Int.reduceEq, Int.reduceLT, Int.reduceLE, bX12_seriesText_52, bX12_seriesText_57, bX12_seriesText_91, e6, e7, e8, e9, e10]
    · rw [if_neg q3]
      obtain ⟨w2, e3, hb, hf2⟩ := sX12_nameHere_0 (d := d + 5) (X := X) (v := v) (T := T) (c := c) (s := s) hT' hg q3
      have e4 := sX12_isGood_0 (d := d + 6) (X := X) (v := v) (T := T) (c := c) (s := s) hT' hb
      have e5 := sX12_se57 (d := d) (X := X) (v := v) (T := T) (c := c) (s := s) (x := 1) hT' hb (Or.inr rfl)
      refine oS_l rfl ⟨w2, ?_, hb, frS_tr hf2.s hf1.s⟩
      simp (disch := first | assumption | omega) only [↓reduceIte, i3_add, i3_sub, i3_mul, i3_neg, i6_add, i6_sub, i6_mul, i6_neg, i3_lt, i3_le, i3_eq, i6_lt, i6_eq, i3_div, i6_div, i6_i3, i3_i6, c6_lt, c6_ge, c6_gt, c6_le, c6_eq, i3_ite, i6_ite, ib_0, ib_z, ite_not, i1_0, i0_0, jB_1, jB_0, jB_ib, bI_v, bL_v, bD_v, bV_v, ob_s, ob_i, i3_ofNat, jx_e, bI_e, bL_e, bD_e, bV_e, i3_eq0, i6_eq0, if_mx, if_mn, if_true, if_false, not_true_eq_false, not_false_eq_true, Int.reduceEq, Int.reduceLT, Int.reduceLE, r12_0, a12_0, q2', bX12_seriesText_14, bX12_seriesText_19, bX12_seriesText_52, e1, e2, e3, e4, e5]
end RFD
