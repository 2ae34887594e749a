-- uses 24.zar 25.obj 26.ops 27.ra 28.rb 29.rc 34.gen 35.byt 36.ser 37.lnd 38.mod 39.mo2 40.mo3 41.bit 44.mo6 45.mo7 46.mo8 47.mo9 48.moa 49.mob 50.moc 51.moe 52.mof 53.cla 54.clb 55.clc 56.cld 57.cle 58.clf 61.cli 62.clj 63.clk 64.okm 65.cll 66.clm 67.okf 68.okg 69.cln 70.clo 73.clr 74.cls 93.tka 94.tkb 97.srp 98.srq b0.pla b1.plb b2.plc
/-! The class does a script. -/
theorem byV_0 {μ : Nat → Int → Int} {i n r : Int} (i0 : 0 ≤ i) (n0 : 0 ≤ n) : byV μ i n r 412 0 = μ 412 0 := by
  unfold byV
  split
  · rfl
  · rw [up_ne (by omega), up_ne (by omega), up_ne (by omega)]
theorem ctV_0 {μ : Nat → Int → Int} {i n r : Int} (i0 : 0 ≤ i) (n0 : 0 ≤ n) : ctV μ i n r 412 0 = μ 412 0 := by
  unfold ctV
  split
  · rfl
  · rw [up_ne (by omega), up_ne (by omega), up_ne (by omega), up_ne (by omega)]
theorem kpsV_0 {μ : Nat → Int → Int} {a b q : Int} (h3 : 0 ≤ μ 412 3) : kpsV μ a b q 412 0 = μ 412 0 := by
  have := prF_c (v := μ) a b
  unfold kpsV
  split
  · split
    · rfl
    · rw [up_ne (by omega), up_ne (by omega), up_ne (by omega), up_ne (by omega)]
  · rw [up_ne (by omega)]
theorem flV_0 {μ : Nat → Int → Int} {a b q : Int} (h3 : 0 ≤ μ 412 3) : flV μ a b q 412 0 = μ 412 0 := by
  unfold flV
  rcases nrA_c (v := μ) a b q 0 with ⟨h1, -⟩ | ⟨-, g3, g4, g5, g6⟩
  · rw [if_pos h1]
  · rw [if_neg (by omega), kpsV_0 (by rw [flU_o (by omega) (by omega) (by omega) (by omega) (by omega) (by omega) (by omega) (by omega)]; exact h3), flU_o (by omega) (by omega) (by omega) (by omega) (by omega) (by omega) (by omega) (by omega)]
theorem tsV_0 {μ u : Nat → Int → Int} {r : Int} (h : u 412 0 = μ 412 0) : tsV μ r u 412 0 = μ 412 0 := by
  unfold tsV
  split
  · rw [up_ne (by omega)]
  · exact h
theorem oV_0 {μ : Nat → Int → Int} {e : oE} {c : Int} (h3 : 0 ≤ μ 412 3) (hr : rgO c e) (h5 : e.1 ≠ 5) : (oV μ e).2 412 0 = μ 412 0 := by
  unfold oV
  rcases hr with ⟨hk, hs, hn, hm, -⟩ | ⟨hk, -⟩ | ⟨hk, -⟩ | ⟨hk, -⟩ | ⟨hk, -⟩
  · by_cases g : e.2.1 = -1
    · split
      · show up μ 418 5 (μ 418 5 + 1) 412 0 = μ 412 0
        exact up_ne (by omega)
      · rw [if_pos (by omega)]; show up μ 418 5 (μ 418 5 + 1) 412 0 = μ 412 0
        exact up_ne (by omega)
    · have hs0 : 0 ≤ e.2.1 := by omega
      split
      · exact tsV_0 (byV_0 hs0 hn.1)
      · rw [if_pos (by omega)]; exact tsV_0 (ctV_0 hs0 hn.1)
  · rw [if_neg (by omega), if_neg (by omega), if_pos hk]
    exact tsV_0 (flV_0 h3)
  · rw [if_neg (by omega), if_neg (by omega), if_neg (by omega), if_pos hk]
    show up μ 412 1 e.2.1 412 0 = μ 412 0
    exact up_ne (by omega)
  · rw [if_neg (by omega), if_neg (by omega), if_neg (by omega), if_neg (by omega)]
    show up μ 412 2 e.2.1 412 0 = μ 412 0
    exact up_ne (by omega)
  · exact absurd hk h5
theorem rgO_k {c : Int} {e : oE} (h : rgO c e) : 0 ≤ e.1 ∧ e.1 ≤ 5 := by
  rcases h with ⟨hk, -⟩ | ⟨hk, -⟩ | ⟨hk, -⟩ | ⟨hk, -⟩ | ⟨hk, -⟩ <;> omega
theorem wfL_k {c : Int} : ∀ (F : Nat) (L : List oE), wfL c F L → ∀ x ∈ L, 0 ≤ x.1 ∧ x.1 ≤ 5 := by
  intro F
  induction F with
  | zero => intro L h x hx; rw [show L = [] from h] at hx; exact absurd hx (by simp)
  | succ F ih =>
    intro L h x hx
    cases L with
    | nil => exact absurd hx (by simp)
    | cons e l =>
      obtain ⟨h1, h2, h3, h4⟩ := h
      rcases List.mem_cons.mp hx with rfl | hx
      · exact rgO_k h2
      · rw [← List.take_append_drop e.2.2.2.2 l] at hx
        rcases List.mem_append.mp hx with hx | hx
        · exact ih _ h3 x hx
        · exact ih _ h4 x hx
/-- only scriptDone and the plan changed -/
def frQ (w' w : Nat → Int → Int) : Prop := ∀ (m : Nat) (k : Int), (m ≠ 0 ∨ k ≠ 13) → m ≠ 339 → m ≠ 340 → m ≠ 341 → w' m k = w m k
theorem frQ_id {w : Nat → Int → Int} : frQ w w := fun _ _ _ _ _ _ => rfl
theorem frQ_tr {w w' w'' : Nat → Int → Int} (h : frQ w'' w') (g : frQ w' w) : frQ w'' w := fun m k a b c d => (h m k a b c d).trans (g m k a b c d)
theorem tbW_Q {w w' : Nat → Int → Int} {k : Nat} {L : List oE} (h : tbW w k L) (hf : frQ w' w) : tbW w' k L := tbW_fr h (fun m j m1 m2 _ _ => hf m j (by omega) (by omega) (by omega) (by omega))
section PLD
variable {d : Nat} {X : Nat × (Nat → Int32)} {v w : Nat → Int → Int} {T c s : Nat}
variable {μ : Nat → Int → Int}
theorem tX8_isPlace {k t : Int} (h85 : w 8 5 = t) (k0 : 0 ≤ k) (k1 : k < t) (ht : t ≤ 30) : jm_env (d + 1) 96 [.ref 8, .int (i3 k)] (qM X v w T c s) = some (.inl (some (.int (i3 (1)))), (qM X v w T c s)) := by
  have q0 : (k < 0) = False := eq_false (by omega)
  have q1 : (t ≤ k) = False := eq_false (by omega)
  have q2 : (30 ≤ k) = False := eq_false (by omega)
  simp (disch := first | assumption | omega) only [↓reduceIte, eX8_isPlace, bX8_isPlace_0, bX8_isPlace_4, bX8_isPlace_12, bX8_isPlace_18, bX8_isPlace_22, bX8_isPlace_23, g8_5, i3_add, i3_sub, i3_mul, i3_neg, i6_add, i6_sub, i6_mul, i6_neg, i3_lt, i3_le, i3_eq, i6_lt, i6_eq, i3_div, i6_div, i6_i3, i3_i6, c6_lt, c6_ge, c6_gt, c6_le, c6_eq, i3_ite, i6_ite, ib_0, ib_z, ite_not, i1_0, i0_0, jB_1, jB_0, jB_ib, bI_v, bL_v, bD_v, bV_v, ob_s, ob_i, i3_ofNat, jx_e, bI_e, bL_e, bD_e, bV_e, i3_eq0, i6_eq0, if_mx, if_mn, if_true, if_false, not_true_eq_false, not_false_eq_true, Int.reduceEq, Int.reduceLT, Int.reduceLE, h85, q0, q1, q2]
theorem tX8_kindAt {k t : Int} (h85 : w 8 5 = t) (k0 : 0 ≤ k) (k1 : k < t) (ht : t ≤ 30) : jm_env (d + 2) 97 [.ref 8, .int (i3 k)] (qM X v w T c s) = some (.inl (some (.int (i3 (w 9 k)))), (qM X v w T c s)) := by
  simp (disch := first | assumption | omega) only [↓reduceIte, eX8_kindAt, bX8_kindAt_0, bX8_kindAt_8, bX8_kindAt_17, bX8_kindAt_18, r8_0, a8_0, w8_0, n8_0, i3_add, i3_sub, i3_mul, i3_neg, i6_add, i6_sub, i6_mul, i6_neg, i3_lt, i3_le, i3_eq, i6_lt, i6_eq, i3_div, i6_div, i6_i3, i3_i6, c6_lt, c6_ge, c6_gt, c6_le, c6_eq, i3_ite, i6_ite, ib_0, ib_z, ite_not, i1_0, i0_0, jB_1, jB_0, jB_ib, bI_v, bL_v, bD_v, bV_v, ob_s, ob_i, i3_ofNat, jx_e, bI_e, bL_e, bD_e, bV_e, i3_eq0, i6_eq0, if_mx, if_mn, if_true, if_false, not_true_eq_false, not_false_eq_true, Int.reduceEq, Int.reduceLT, Int.reduceLE, tX8_isPlace h85 k0 k1 ht]
theorem tX8_firstAt {k t : Int} (h85 : w 8 5 = t) (k0 : 0 ≤ k) (k1 : k < t) (ht : t ≤ 30) : jm_env (d + 2) 98 [.ref 8, .int (i3 k)] (qM X v w T c s) = some (.inl (some (.int (i3 (w 10 k)))), (qM X v w T c s)) := by
  simp (disch := first | assumption | omega) only [↓reduceIte, eX8_firstAt, bX8_firstAt_0, bX8_firstAt_8, bX8_firstAt_17, bX8_firstAt_18, r8_1, a8_1, w8_1, n8_1, i3_add, i3_sub, i3_mul, i3_neg, i6_add, i6_sub, i6_mul, i6_neg, i3_lt, i3_le, i3_eq, i6_lt, i6_eq, i3_div, i6_div, i6_i3, i3_i6, c6_lt, c6_ge, c6_gt, c6_le, c6_eq, i3_ite, i6_ite, ib_0, ib_z, ite_not, i1_0, i0_0, jB_1, jB_0, jB_ib, bI_v, bL_v, bD_v, bV_v, ob_s, ob_i, i3_ofNat, jx_e, bI_e, bL_e, bD_e, bV_e, i3_eq0, i6_eq0, if_mx, if_mn, if_true, if_false, not_true_eq_false, not_false_eq_true, Int.reduceEq, Int.reduceLT, Int.reduceLE, tX8_isPlace h85 k0 k1 ht]
theorem tX8_secondAt {k t : Int} (h85 : w 8 5 = t) (k0 : 0 ≤ k) (k1 : k < t) (ht : t ≤ 30) : jm_env (d + 2) 99 [.ref 8, .int (i3 k)] (qM X v w T c s) = some (.inl (some (.int (i3 (w 11 k)))), (qM X v w T c s)) := by
  simp (disch := first | assumption | omega) only [↓reduceIte, eX8_secondAt, bX8_secondAt_0, bX8_secondAt_8, bX8_secondAt_17, bX8_secondAt_18, r8_2, a8_2, w8_2, n8_2, i3_add, i3_sub, i3_mul, i3_neg, i6_add, i6_sub, i6_mul, i6_neg, i3_lt, i3_le, i3_eq, i6_lt, i6_eq, i3_div, i6_div, i6_i3, i3_i6, c6_lt, c6_ge, c6_gt, c6_le, c6_eq, i3_ite, i6_ite, ib_0, ib_z, ite_not, i1_0, i0_0, jB_1, jB_0, jB_ib, bI_v, bL_v, bD_v, bV_v, ob_s, ob_i, i3_ofNat, jx_e, bI_e, bL_e, bD_e, bV_e, i3_eq0, i6_eq0, if_mx, if_mn, if_true, if_false, not_true_eq_false, not_false_eq_true, Int.reduceEq, Int.reduceLT, Int.reduceLE, tX8_isPlace h85 k0 k1 ht]
theorem tX8_thirdAt {k t : Int} (h85 : w 8 5 = t) (k0 : 0 ≤ k) (k1 : k < t) (ht : t ≤ 30) : jm_env (d + 2) 100 [.ref 8, .int (i3 k)] (qM X v w T c s) = some (.inl (some (.int (i3 (w 12 k)))), (qM X v w T c s)) := by
  simp (disch := first | assumption | omega) only [↓reduceIte, eX8_thirdAt, bX8_thirdAt_0, bX8_thirdAt_8, bX8_thirdAt_17, bX8_thirdAt_18, r8_3, a8_3, w8_3, n8_3, i3_add, i3_sub, i3_mul, i3_neg, i6_add, i6_sub, i6_mul, i6_neg, i3_lt, i3_le, i3_eq, i6_lt, i6_eq, i3_div, i6_div, i6_i3, i3_i6, c6_lt, c6_ge, c6_gt, c6_le, c6_eq, i3_ite, i6_ite, ib_0, ib_z, ite_not, i1_0, i0_0, jB_1, jB_0, jB_ib, bI_v, bL_v, bD_v, bV_v, ob_s, ob_i, i3_ofNat, jx_e, bI_e, bL_e, bD_e, bV_e, i3_eq0, i6_eq0, if_mx, if_mn, if_true, if_false, not_true_eq_false, not_false_eq_true, Int.reduceEq, Int.reduceLT, Int.reduceLE, tX8_isPlace h85 k0 k1 ht]
theorem tX8_endAt {k t : Int} (h85 : w 8 5 = t) (k0 : 0 ≤ k) (k1 : k < t) (ht : t ≤ 30) : jm_env (d + 2) 101 [.ref 8, .int (i3 k)] (qM X v w T c s) = some (.inl (some (.int (i3 (w 13 k)))), (qM X v w T c s)) := by
  simp (disch := first | assumption | omega) only [↓reduceIte, eX8_endAt, bX8_endAt_0, bX8_endAt_8, bX8_endAt_17, bX8_endAt_20, r8_4, a8_4, w8_4, n8_4, i3_add, i3_sub, i3_mul, i3_neg, i6_add, i6_sub, i6_mul, i6_neg, i3_lt, i3_le, i3_eq, i6_lt, i6_eq, i3_div, i6_div, i6_i3, i3_i6, c6_lt, c6_ge, c6_gt, c6_le, c6_eq, i3_ite, i6_ite, ib_0, ib_z, ite_not, i1_0, i0_0, jB_1, jB_0, jB_ib, bI_v, bL_v, bD_v, bV_v, ob_s, ob_i, i3_ofNat, jx_e, bI_e, bL_e, bD_e, bV_e, i3_eq0, i6_eq0, if_mx, if_mn, if_true, if_false, not_true_eq_false, not_false_eq_true, Int.reduceEq, Int.reduceLT, Int.reduceLE, tX8_isPlace h85 k0 k1 ht]
theorem tX8_isIdleAt {a t : Nat} {L : List oE} (h85 : w 8 5 = t) (ht : t ≤ 30) (ha : a + 1 + L.length ≤ t) (h13 : w 13 a = (a : Int) + 1 + L.length) (htb : tbW w (a + 1) L) (hk : ∀ x ∈ L, 0 ≤ x.1 ∧ x.1 ≤ 5) : jm_env (d + 3) 102 [.ref 8, .int (i3 a)] (qM X v w T c s) = some (.inl (some (.int (i3 (if ∀ x ∈ L, x.1 = 5 then 1 else 0)))), (qM X v w T c s)) := by
  have e13 := tX8_endAt (d := d) (X := X) (v := v) (w := w) (T := T) (c := c) (s := s) (k := a) h85 (by omega) (by omega) (by omega)
  have key : ∀ (M : List oE) (k : Nat), tbW w k M → k + M.length = a + 1 + L.length → (∀ x ∈ M, 0 ≤ x.1 ∧ x.1 ≤ 5) → jm_R (jm_env (d + 2)) jmM_X8_isIdleAt 4 [some (.ref 8), some (.int (i3 a)), some (.int (i3 k))] [] (qM X v w T c s) = some (.inl (some (.int (i3 (if ∀ x ∈ M, x.1 = 5 then 1 else 0)))), (qM X v w T c s)) := by
    intro M
    induction M with
    | nil =>
      intro k _ hl _
      have hl : k = a + 1 + L.length := hl
      have q : ((a : Int) + 1 + L.length ≤ k) = True := eq_true (by omega)
      rw [bX8_isIdleAt_4]
      simp (disch := first | assumption | omega) only [↓reduceIte, i3_add, i3_sub, i3_mul, i3_neg, i6_add, i6_sub, i6_mul, i6_neg, i3_lt, i3_le, i3_eq, i6_lt, i6_eq, i3_div, i6_div, i6_i3, i3_i6, c6_lt, c6_ge, c6_gt, c6_le, c6_eq, i3_ite, i6_ite, ib_0, ib_z, ite_not, i1_0, i0_0, jB_1, jB_0, jB_ib, bI_v, bL_v, bD_v, bV_v, ob_s, ob_i, i3_ofNat, jx_e, bI_e, bL_e, bD_e, bV_e, i3_eq0, i6_eq0, if_mx, if_mn, if_true, if_false, not_true_eq_false, not_false_eq_true, Int.reduceEq, Int.reduceLT, Int.reduceLE, e13, h13, q, bX8_isIdleAt_30]
      rw [if_pos (by simp)]
    | cons e l ih =>
      intro k hb hl hk
      have hl2 : k + (l.length + 1) = a + 1 + L.length := hl
      obtain ⟨⟨a1, -⟩, hb2⟩ := hb
      have q : ((a : Int) + 1 + L.length ≤ k) = False := eq_false (by omega)
      have e9 := tX8_kindAt (d := d) (X := X) (v := v) (w := w) (T := T) (c := c) (s := s) (k := k) h85 (by omega) (by omega) (by omega)
      have hke := hk e List.mem_cons_self
      have hr := ih (k + 1) hb2 (by omega) (fun x hx => hk x (List.mem_cons_of_mem _ hx))
      rw [bX8_isIdleAt_4]
      by_cases g : e.1 = 5
      · have g' : (e.1 = 5) = True := eq_true g
        simp (disch := first | assumption | omega) only [↓reduceIte, i3_add, i3_sub, i3_mul, i3_neg, i6_add, i6_sub, i6_mul, i6_neg, i3_lt, i3_le, i3_eq, i6_lt, i6_eq, i3_div, i6_div, i6_i3, i3_i6, c6_lt, c6_ge, c6_gt, c6_le, c6_eq, i3_ite, i6_ite, ib_0, ib_z, ite_not, i1_0, i0_0, jB_1, jB_0, jB_ib, bI_v, bL_v, bD_v, bV_v, ob_s, ob_i, i3_ofNat, jx_e, bI_e, bL_e, bD_e, bV_e, i3_eq0, i6_eq0, if_mx, if_mn, if_true, if_false, not_true_eq_false, not_false_eq_true, Int.reduceEq, Int.reduceLT, Int.reduceLE, e13, h13, q, bX8_isIdleAt_13, e9, a1, g', bX8_isIdleAt_24]
        refine Eq.trans hr ?_
        by_cases g2 : ∀ x ∈ l, x.1 = 5
        · rw [if_pos g2, if_pos (fun x hx => by rcases List.mem_cons.mp hx with rfl | hx; exact g; exact g2 x hx)]
        · rw [if_neg g2, if_neg (fun q => g2 (fun x hx => q x (List.mem_cons_of_mem _ hx)))]
      · have g' : (e.1 = 5) = False := eq_false g
        simp (disch := first | assumption | omega) only [↓reduceIte, i3_add, i3_sub, i3_mul, i3_neg, i6_add, i6_sub, i6_mul, i6_neg, i3_lt, i3_le, i3_eq, i6_lt, i6_eq, i3_div, i6_div, i6_i3, i3_i6, c6_lt, c6_ge, c6_gt, c6_le, c6_eq, i3_ite, i6_ite, ib_0, ib_z, ite_not, i1_0, i0_0, jB_1, jB_0, jB_ib, bI_v, bL_v, bD_v, bV_v, ob_s, ob_i, i3_ofNat, jx_e, bI_e, bL_e, bD_e, bV_e, i3_eq0, i6_eq0, if_mx, if_mn, if_true, if_false, not_true_eq_false, not_false_eq_true, Int.reduceEq, Int.reduceLT, Int.reduceLE, e13, h13, q, bX8_isIdleAt_13, e9, a1, g', bX8_isIdleAt_22]
        rw [if_neg (fun q => g (q e List.mem_cons_self))]
  rw [eX8_isIdleAt, bX8_isIdleAt_0]
  simp only [i3_add]
  exact key L (a + 1) htb rfl hk
/-- one order done -/
theorem tX11_doOrder {a t : Nat} {e : oE} {m : Int} (h : LQ v μ m) (hm : 0 ≤ m) (h85 : w 8 5 = t) (ht : t ≤ 30) (ha : a < t) (hen : enW w a e) (hr : rgO (μ 412 0) e) (h5 : e.1 ≠ 5) :
    ∃ v' w', jm_env (d + 6) 147 [.ref 0, .int (i3 a)] (qM X v w T c s) = some (.inl (some (.int (i3 ((oV μ e).1)))), qM X v' w' T c s) ∧ LQ v' (oV μ e).2 (m + 1) ∧ frL v' v ∧ fr3 w w' := by
  have hlo := h.lo
  have hc5 := hlo.2.2.1.2.1
  have o14 := oLnd_14
  obtain ⟨a1, a2, a3, a4, -⟩ := hen
  have e9 := tX8_kindAt (d := d + 3) (X := X) (v := v) (w := w) (T := T) (c := c) (s := s) (k := a) h85 (by omega) (by omega) (by omega)
  have e10 := tX8_firstAt (d := d + 3) (X := X) (v := v) (w := w) (T := T) (c := c) (s := s) (k := a) h85 (by omega) (by omega) (by omega)
  have e11 := tX8_secondAt (d := d + 3) (X := X) (v := v) (w := w) (T := T) (c := c) (s := s) (k := a) h85 (by omega) (by omega) (by omega)
  have e12 := tX8_thirdAt (d := d + 3) (X := X) (v := v) (w := w) (T := T) (c := c) (s := s) (k := a) h85 (by omega) (by omega) (by omega)
  have head : jm_env (d + 6) 147 [.ref 0, .int (i3 a)] (qM X v w T c s) = jm_R (jm_env (d + 5)) jmM_X11_doOrder 36 [some (.ref 0), some (.int (i3 a)), some (.int (i3 e.2.1)), some (.int (i3 e.2.2.1)), some (.int (i3 e.2.2.2.1))] [.int (i3 e.1)] (qM X v w T c s) := by
    rw [eX11_doOrder, bX11_doOrder_0]
    simp (disch := first | assumption | omega) only [i3_add, i3_sub, i3_mul, i3_neg, i6_add, i6_sub, i6_mul, i6_neg, i3_lt, i3_le, i3_eq, i6_lt, i6_eq, i3_div, i6_div, i6_i3, i3_i6, c6_lt, c6_ge, c6_gt, c6_le, c6_eq, i3_ite, i6_ite, ib_0, ib_z, ite_not, i1_0, i0_0, jB_1, jB_0, jB_ib, bI_v, bL_v, bD_v, bV_v, ob_s, ob_i, i3_ofNat, jx_e, bI_e, bL_e, bD_e, bV_e, i3_eq0, i6_eq0, if_mx, if_mn, if_true, if_false, not_true_eq_false, not_false_eq_true, Int.reduceEq, Int.reduceLT, Int.reduceLE, r11_4, e9, e10, e11, e12, a1, a2, a3, a4]
  rw [head]
  have fr0 : fr3 w w := fun _ _ _ _ _ => rfl
  unfold oV
  rcases hr with ⟨hk, hs, hn, hm1, -⟩ | ⟨hk, ⟨p0, p1⟩, ⟨p2, p3⟩, ⟨p4, p5⟩, -⟩ | ⟨hk, ⟨p0, p1⟩, -⟩ | ⟨hk, ⟨p0, p1⟩, -⟩ | ⟨hk, -⟩
  · have hs4 := tX4_hasSeries (d := d + 4) (X := X) (w := w) (T := T) (c := c) (s := s) (i := e.2.1) hlo (by omega) (by omega)
    rcases hk with ⟨hk, h99⟩ | ⟨hk, h99⟩
    · rw [if_pos hk, hk, bX11_doOrder_36_0]
      by_cases g : e.2.1 = -1
      · rw [if_pos g]
        have q : (0 ≤ e.2.1 ∧ e.2.1 < μ 412 0) = False := eq_false (by omega)
        obtain ⟨v', y1, y2, y3⟩ := tX11_refuse (d := d + 4) (X := X) (w := w) (T := T) (c := c) (s := s) (r := -2) h (by omega) (by omega)
        refine ⟨v', w, ?_, LQ_le y2 (by omega), y3, fr0⟩
        simp only [q] at hs4
        simp (disch := first | assumption | omega) only [↓reduceIte, bX11_doOrder_68, i3_add, i3_sub, i3_mul, i3_neg, i6_add, i6_sub, i6_mul, i6_neg, i3_lt, i3_le, i3_eq, i6_lt, i6_eq, i3_div, i6_div, i6_i3, i3_i6, c6_lt, c6_ge, c6_gt, c6_le, c6_eq, i3_ite, i6_ite, ib_0, ib_z, ite_not, i1_0, i0_0, jB_1, jB_0, jB_ib, bI_v, bL_v, bD_v, bV_v, ob_s, ob_i, i3_ofNat, jx_e, bI_e, bL_e, bD_e, bV_e, i3_eq0, i6_eq0, if_mx, if_mn, if_true, if_false, not_true_eq_false, not_false_eq_true, Int.reduceEq, Int.reduceLT, Int.reduceLE, r11_5, hs4, bX11_doOrder_91, y1, bX11_doOrder_97]
      · rw [if_neg g]
        have q : (0 ≤ e.2.1 ∧ e.2.1 < μ 412 0) = True := eq_true (by omega)
        obtain ⟨v', y1, y2, y3⟩ := tX11_doBuy (d := d + 1) (X := X) (w := w) (T := T) (c := c) (s := s) (i := e.2.1) (n := e.2.2.1) (r := e.2.2.2.1) (z := 0) h hm (by omega) (by omega) hn.1 (by omega) hm1 h99 (Or.inl rfl)
        refine ⟨v', w, ?_, y2, y3, fr0⟩
        simp only [q] at hs4
        simp (disch := first | assumption | omega) only [↓reduceIte, bX11_doOrder_68, i3_add, i3_sub, i3_mul, i3_neg, i6_add, i6_sub, i6_mul, i6_neg, i3_lt, i3_le, i3_eq, i6_lt, i6_eq, i3_div, i6_div, i6_i3, i3_i6, c6_lt, c6_ge, c6_gt, c6_le, c6_eq, i3_ite, i6_ite, ib_0, ib_z, ite_not, i1_0, i0_0, jB_1, jB_0, jB_ib, bI_v, bL_v, bD_v, bV_v, ob_s, ob_i, i3_ofNat, jx_e, bI_e, bL_e, bD_e, bV_e, i3_eq0, i6_eq0, if_mx, if_mn, if_true, if_false, not_true_eq_false, not_false_eq_true, Int.reduceEq, Int.reduceLT, Int.reduceLE, r11_5, hs4, bX11_doOrder_79, y1, bX11_doOrder_97]
    · rw [if_neg (by omega), if_pos hk, hk, bX11_doOrder_36_1]
      by_cases g : e.2.1 = -1
      · rw [if_pos g]
        have q : (0 ≤ e.2.1 ∧ e.2.1 < μ 412 0) = False := eq_false (by omega)
        obtain ⟨v', y1, y2, y3⟩ := tX11_refuse (d := d + 4) (X := X) (w := w) (T := T) (c := c) (s := s) (r := -2) h (by omega) (by omega)
        refine ⟨v', w, ?_, LQ_le y2 (by omega), y3, fr0⟩
        simp only [q] at hs4
        simp (disch := first | assumption | omega) only [↓reduceIte, bX11_doOrder_98, i3_add, i3_sub, i3_mul, i3_neg, i6_add, i6_sub, i6_mul, i6_neg, i3_lt, i3_le, i3_eq, i6_lt, i6_eq, i3_div, i6_div, i6_i3, i3_i6, c6_lt, c6_ge, c6_gt, c6_le, c6_eq, i3_ite, i6_ite, ib_0, ib_z, ite_not, i1_0, i0_0, jB_1, jB_0, jB_ib, bI_v, bL_v, bD_v, bV_v, ob_s, ob_i, i3_ofNat, jx_e, bI_e, bL_e, bD_e, bV_e, i3_eq0, i6_eq0, if_mx, if_mn, if_true, if_false, not_true_eq_false, not_false_eq_true, Int.reduceEq, Int.reduceLT, Int.reduceLE, r11_5, hs4, bX11_doOrder_121, y1, bX11_doOrder_127]
      · rw [if_neg g]
        have q : (0 ≤ e.2.1 ∧ e.2.1 < μ 412 0) = True := eq_true (by omega)
        obtain ⟨v', y1, y2, y3⟩ := tX11_doCut (d := d + 1) (X := X) (w := w) (T := T) (c := c) (s := s) (i := e.2.1) (n := e.2.2.1) (r := e.2.2.2.1) (z := 0) h hm (by omega) (by omega) hn.1 (by omega) hm1 h99 (Or.inl rfl)
        refine ⟨v', w, ?_, y2, y3, fr0⟩
        simp only [q] at hs4
        simp (disch := first | assumption | omega) only [↓reduceIte, bX11_doOrder_98, i3_add, i3_sub, i3_mul, i3_neg, i6_add, i6_sub, i6_mul, i6_neg, i3_lt, i3_le, i3_eq, i6_lt, i6_eq, i3_div, i6_div, i6_i3, i3_i6, c6_lt, c6_ge, c6_gt, c6_le, c6_eq, i3_ite, i6_ite, ib_0, ib_z, ite_not, i1_0, i0_0, jB_1, jB_0, jB_ib, bI_v, bL_v, bD_v, bV_v, ob_s, ob_i, i3_ofNat, jx_e, bI_e, bL_e, bD_e, bV_e, i3_eq0, i6_eq0, if_mx, if_mn, if_true, if_false, not_true_eq_false, not_false_eq_true, Int.reduceEq, Int.reduceLT, Int.reduceLE, r11_5, hs4, bX11_doOrder_109, y1, bX11_doOrder_127]
  · rw [if_neg (by omega), if_neg (by omega), if_pos hk, hk, bX11_doOrder_36_2]
    obtain ⟨v', w', y1, y2, y3, y4⟩ := tX11_doPrintOrder (d := d) (X := X) (w := w) (T := T) (c := c) (s := s) (a := e.2.1) (b := e.2.2.1) (q := e.2.2.2.1) (z := 0) h hm p0 p1 p2 p3 p4 p5 (Or.inl rfl)
    refine ⟨v', w', ?_, y2, y3, y4⟩
    simp (disch := first | assumption | omega) only [↓reduceIte, bX11_doOrder_128, i3_add, i3_sub, i3_mul, i3_neg, i6_add, i6_sub, i6_mul, i6_neg, i3_lt, i3_le, i3_eq, i6_lt, i6_eq, i3_div, i6_div, i6_i3, i3_i6, c6_lt, c6_ge, c6_gt, c6_le, c6_eq, i3_ite, i6_ite, ib_0, ib_z, ite_not, i1_0, i0_0, jB_1, jB_0, jB_ib, bI_v, bL_v, bD_v, bV_v, ob_s, ob_i, i3_ofNat, jx_e, bI_e, bL_e, bD_e, bV_e, i3_eq0, i6_eq0, if_mx, if_mn, if_true, if_false, not_true_eq_false, not_false_eq_true, Int.reduceEq, Int.reduceLT, Int.reduceLE, y1]
  · rw [if_neg (by omega), if_neg (by omega), if_neg (by omega), if_pos hk, hk, bX11_doOrder_36_3]
    obtain ⟨v', y1, y2, y3⟩ := tX11_doSetEdge (d := d + 1) (X := X) (w := w) (T := T) (c := c) (s := s) (e := e.2.1) (z := 0) h hm p0 p1 (Or.inl rfl)
    rw [if_neg (by omega)] at y2
    refine ⟨v', w, ?_, y2, y3, fr0⟩
    simp (disch := first | assumption | omega) only [↓reduceIte, bX11_doOrder_138, i3_add, i3_sub, i3_mul, i3_neg, i6_add, i6_sub, i6_mul, i6_neg, i3_lt, i3_le, i3_eq, i6_lt, i6_eq, i3_div, i6_div, i6_i3, i3_i6, c6_lt, c6_ge, c6_gt, c6_le, c6_eq, i3_ite, i6_ite, ib_0, ib_z, ite_not, i1_0, i0_0, jB_1, jB_0, jB_ib, bI_v, bL_v, bD_v, bV_v, ob_s, ob_i, i3_ofNat, jx_e, bI_e, bL_e, bD_e, bV_e, i3_eq0, i6_eq0, if_mx, if_mn, if_true, if_false, not_true_eq_false, not_false_eq_true, Int.reduceEq, Int.reduceLT, Int.reduceLE, y1]
  · rw [if_neg (by omega), if_neg (by omega), if_neg (by omega), if_neg (by omega), hk, bX11_doOrder_36_d _ _ _ _ _ _ 4 _ (by omega) (by omega) (by omega)]
    obtain ⟨v', y1, y2, y3⟩ := tX11_doSetReam (d := d + 1) (X := X) (w := w) (T := T) (c := c) (s := s) (e := e.2.1) (z := 0) h hm p0 p1 (Or.inl rfl)
    rw [if_neg (by omega)] at y2
    refine ⟨v', w, ?_, y2, y3, fr0⟩
    simp (disch := first | assumption | omega) only [↓reduceIte, bX11_doOrder_145, i3_add, i3_sub, i3_mul, i3_neg, i6_add, i6_sub, i6_mul, i6_neg, i3_lt, i3_le, i3_eq, i6_lt, i6_eq, i3_div, i6_div, i6_i3, i3_i6, c6_lt, c6_ge, c6_gt, c6_le, c6_eq, i3_ite, i6_ite, ib_0, ib_z, ite_not, i1_0, i0_0, jB_1, jB_0, jB_ib, bI_v, bL_v, bD_v, bV_v, ob_s, ob_i, i3_ofNat, jx_e, bI_e, bL_e, bD_e, bV_e, i3_eq0, i6_eq0, if_mx, if_mn, if_true, if_false, not_true_eq_false, not_false_eq_true, Int.reduceEq, Int.reduceLT, Int.reduceLE, y1]
  · exact absurd hk h5
end PLD
