-- uses 24.zar 25.obj 26.ops 27.ra 28.rb 29.rc 34.gen 35.byt 36.ser 37.lnd 38.mod 39.mo2 40.mo3 41.bit 44.mo6 46.mo8 51.moe 53.cla 58.clf 61.cli 62.clj 63.clk 64.okm 65.cll 73.clr 74.cls 93.tka 94.tkb 96.srd 97.srp 98.srq a0.srr b0.pla
/-! The class's reading of a script. -/
/-- the table holds an order at k -/
def enW (w : Nat → Int → Int) (k : Nat) (e : oE) : Prop := w 9 k = e.1 ∧ w 10 k = e.2.1 ∧ w 11 k = e.2.2.1 ∧ w 12 k = e.2.2.2.1 ∧ w 13 k = (k : Int) + 1 + e.2.2.2.2
def tbW (w : Nat → Int → Int) : Nat → List oE → Prop
  | _, [] => True
  | k, e :: l => enW w k e ∧ tbW w (k + 1) l
/-- below t the table is the same -/
def kpT (w' w : Nat → Int → Int) (t : Nat) : Prop := (∀ m : Nat, (m < 8 ∨ 14 ≤ m) → m ≠ 5 → w' m = w m) ∧ ∀ (m : Nat) (j : Int), 9 ≤ m → m ≤ 13 → j < t → w' m j = w m j
theorem kpT_id {w : Nat → Int → Int} {t : Nat} : kpT w w t := ⟨fun _ _ _ => rfl, fun _ _ _ _ _ => rfl⟩
theorem kpT_tr {w w' w'' : Nat → Int → Int} {t t' : Nat} (h : kpT w'' w' t') (g : kpT w' w t) (ht : t ≤ t') : kpT w'' w t := ⟨fun m h1 h2 => (h.1 m h1 h2).trans (g.1 m h1 h2), fun m j h1 h2 h3 => (h.2 m j h1 h2 (by omega)).trans (g.2 m j h1 h2 h3)⟩
theorem enW_fr {w w' : Nat → Int → Int} {k : Nat} {e : oE} (h : enW w k e) (hf : ∀ m : Nat, 9 ≤ m → m ≤ 13 → w' m k = w m k) : enW w' k e := by
  unfold enW at h ⊢
  rw [hf 9 (by omega) (by omega), hf 10 (by omega) (by omega), hf 11 (by omega) (by omega), hf 12 (by omega) (by omega), hf 13 (by omega) (by omega)]
  exact h
theorem tbW_fr {w w' : Nat → Int → Int} : ∀ {L : List oE} {k : Nat}, tbW w k L → (∀ (m : Nat) (j : Nat), 9 ≤ m → m ≤ 13 → k ≤ j → j < k + L.length → w' m j = w m j) → tbW w' k L := by
  intro L
  induction L with
  | nil => intro k _ _; trivial
  | cons e l ih =>
    intro k h hf
    refine ⟨enW_fr h.1 (fun m h1 h2 => hf m k h1 h2 (Nat.le_refl _) (by simp)), ih h.2 (fun m j h1 h2 h3 h4 => hf m j h1 h2 (by omega) (by simp only [List.length_cons]; omega))⟩
theorem tbW_app {w : Nat → Int → Int} : ∀ {L M : List oE} {k : Nat}, tbW w k (L ++ M) ↔ tbW w k L ∧ tbW w (k + L.length) M := by
  intro L
  induction L with
  | nil => intro M k; simp [tbW]
  | cons e l ih =>
    intro M k
    show enW w k e ∧ tbW w (k + 1) (l ++ M) ↔ (enW w k e ∧ tbW w (k + 1) l) ∧ tbW w (k + (l.length + 1)) M
    rw [ih, show k + 1 + l.length = k + (l.length + 1) by omega, and_assoc]
/-- an order told anew at t -/
def adW (w : Nat → Int → Int) (t : Nat) (k : Int) : Nat → Int → Int := up (up (up (up (up (up w 9 t k) 10 t 0) 11 t 0) 12 t 0) 13 t (t + 1)) 8 5 (t + 1)
theorem adW_t {w : Nat → Int → Int} {t : Nat} {k : Int} : adW w t k 8 5 = t + 1 ∧ enW (adW w t k) t (k, 0, 0, 0, 0) ∧ kpT (adW w t k) w t := by
  unfold adW
  refine ⟨up_eq, ⟨?_, ?_, ?_, ?_, ?_⟩, fun m h1 h2 => ?_, fun m j h1 h2 h3 => ?_⟩
  · rw [up_ne (by omega), up_ne (by omega), up_ne (by omega), up_ne (by omega), up_ne (by omega), up_eq]
  · rw [up_ne (by omega), up_ne (by omega), up_ne (by omega), up_ne (by omega), up_eq]
  · rw [up_ne (by omega), up_ne (by omega), up_ne (by omega), up_eq]
  · rw [up_ne (by omega), up_ne (by omega), up_eq]
  · rw [up_ne (by omega), up_eq]
    show (t : Int) + 1 = (t : Int) + 1 + ((0 : Nat) : Int)
    omega
  · rw [up_b (by omega), up_b (by omega), up_b (by omega), up_b (by omega), up_b (by omega), up_b (by omega)]
  · rw [up_ne (by omega), up_ne (by omega), up_ne (by omega), up_ne (by omega), up_ne (by omega), up_ne (by omega)]
section PLB
variable {d : Nat} {X : Nat × (Nat → Int32)} {v w : Nat → Int → Int} {T c s : Nat}
variable {b : Int → Int} {n : Nat} {μ : Nat → Int → Int}
theorem tX11_setAt8 {a : Nat} {z : Int} {t : Int} (ha : a = 10 ∨ a = 11 ∨ a = 12 ∨ a = 13) (t0 : 0 ≤ t) (t1 : t < 30) : jm_env (d + 1) 203 [.ref a, .int (i3 t), .int (i3 z)] (qM X v w T c s) = some (.inl none, qM X v (up w a t z) T c s) := by
  rcases ha with rfl | rfl | rfl | rfl
  · exact tX11_setAt (k := 30) n8_1 (by decide) t0 (by omega) (w8_1 t0 (by omega))
  · exact tX11_setAt (k := 30) n8_2 (by decide) t0 (by omega) (w8_2 t0 (by omega))
  · exact tX11_setAt (k := 30) n8_3 (by decide) t0 (by omega) (w8_3 t0 (by omega))
  · exact tX11_setAt (k := 30) n8_4 (by decide) t0 (by omega) (w8_4 t0 (by omega))
theorem tX8_readNumber_1 {a p : Nat} {t x y : Int} (h : TB v b n) (hp : p ≤ n) (ha : a = 10 ∨ a = 11 ∨ a = 12 ∨ a = 13) (t0 : 0 ≤ t) (t1 : t < 30) (x0 : 0 ≤ x) (y1 : y ≤ 9999) (g : isN b p x y) : jm_env (d + 3) 109 [.ref 5, .ref a, .int (i3 t), .int (i3 x), .int (i3 y)] (qM X v (RD w b p) T c s) = some (.inl (some (.int (i3 (1)))), qM X v (RD (up w a t (nv b p)) b (nx b p)) T c s) := by
  have e1 := tX7_seesNo_1 (d := d) (X := X) (w := w) (T := T) (c := c) (s := s) h hp x0 y1 g
  have e4 := RD_4 (w := w) h.ok hp g y1
  have e2 := tX11_setAt8 (d := d + 1) (X := X) (v := v) (w := RD w b p) (T := T) (c := c) (s := s) (z := nv b p) ha t0 t1
  rw [RD_o (by omega)] at e2
  have e3 := tX7_advance (d := d) (X := X) (w := up w a t (nv b p)) (T := T) (c := c) (s := s) h hp
  simp (disch := first | assumption | omega) only [eX8_readNumber, bX8_readNumber_0, bX8_readNumber_10, bX8_readNumber_12, i3_add, i3_sub, i3_mul, i3_neg, i6_add, i6_sub, i6_mul, i6_neg, i3_lt, i3_le, i3_eq, i6_lt, i6_eq, i3_div, i6_div, i6_i3, i3_i6, c6_lt, c6_ge, c6_gt, c6_le, c6_eq, i3_ite, i6_ite, ib_0, ib_z, ite_not, i1_0, i0_0, jB_1, jB_0, jB_ib, bI_v, bL_v, bD_v, bV_v, ob_s, ob_i, i3_ofNat, jx_e, bI_e, bL_e, bD_e, bV_e, i3_eq0, i6_eq0, if_mx, if_mn, if_true, if_false, not_true_eq_false, not_false_eq_true, Int.reduceEq, Int.reduceLT, Int.reduceLE, e1, g7_4, e4, e2, e3]
theorem tX8_readNumber_0 {a p : Nat} {t x y : Int} (h : TB v b n) (hp : p ≤ n) (x0 : 0 ≤ x) (xy : x ≤ y) (y1 : y ≤ 9999) (g : ¬ isN b p x y) : jm_env (d + 3) 109 [.ref 5, .ref a, .int (i3 t), .int (i3 x), .int (i3 y)] (qM X v (RD w b p) T c s) = some (.inl (some (.int (i3 (0)))), qM X (up (up v 5 5 (ecN b p)) 5 6 p) (RD w b p) T c s) := by
  have e1 := tX7_seesNo_0 (d := d) (X := X) (w := w) (T := T) (c := c) (s := s) h hp x0 xy y1 g
  simp (disch := first | assumption | omega) only [eX8_readNumber, bX8_readNumber_0, bX8_readNumber_10, bX8_readNumber_12, i3_add, i3_sub, i3_mul, i3_neg, i6_add, i6_sub, i6_mul, i6_neg, i3_lt, i3_le, i3_eq, i6_lt, i6_eq, i3_div, i6_div, i6_i3, i3_i6, c6_lt, c6_ge, c6_gt, c6_le, c6_eq, i3_ite, i6_ite, ib_0, ib_z, ite_not, i1_0, i0_0, jB_1, jB_0, jB_ib, bI_v, bL_v, bD_v, bV_v, ob_s, ob_i, i3_ofNat, jx_e, bI_e, bL_e, bD_e, bV_e, i3_eq0, i6_eq0, if_mx, if_mn, if_true, if_false, not_true_eq_false, not_false_eq_true, Int.reduceEq, Int.reduceLT, Int.reduceLE, e1]
theorem tX8_kindOfWord {p : Nat} (h : TB v b n) (hp : p ≤ n) (hT : T < 1000000000) : jm_env (d + 3) 106 [.ref 5] (qM X v (RD w b p) T c s) = some (.inl (some (.int (i3 (kw b p)))), qM X v (RD w b p) T c s) := by
  have e4 := tX7_isWord (d := d) (X := X) (w := w) (c := c) (s := s) (k := 4) h hp hT (by omega) (by omega)
  have e5 := tX7_isWord (d := d) (X := X) (w := w) (c := c) (s := s) (k := 5) h hp hT (by omega) (by omega)
  have e6 := tX7_isWord (d := d) (X := X) (w := w) (c := c) (s := s) (k := 6) h hp hT (by omega) (by omega)
  have e7 := tX7_isWord (d := d) (X := X) (w := w) (c := c) (s := s) (k := 7) h hp hT (by omega) (by omega)
  have e8 := tX7_isWord (d := d) (X := X) (w := w) (c := c) (s := s) (k := 8) h hp hT (by omega) (by omega)
  have e9 := tX7_isWord (d := d) (X := X) (w := w) (c := c) (s := s) (k := 9) h hp hT (by omega) (by omega)
  rw [wNo_4] at e4
  rw [wNo_5] at e5
  rw [wNo_6] at e6
  rw [wNo_7] at e7
  rw [wNo_8] at e8
  rw [wNo_9] at e9
  rw [eX8_kindOfWord, bX8_kindOfWord_0]
  unfold kw
  by_cases q0 : isW b p 2745
  · rw [if_pos q0] at e4 ⊢
    simp (disch := first | assumption | omega) only [i3_add, i3_sub, i3_mul, i3_neg, i6_add, i6_sub, i6_mul, i6_neg, i3_lt, i3_le, i3_eq, i6_lt, i6_eq, i3_div, i6_div, i6_i3, i3_i6, c6_lt, c6_ge, c6_gt, c6_le, c6_eq, i3_ite, i6_ite, ib_0, ib_z, ite_not, i1_0, i0_0, jB_1, jB_0, jB_ib, bI_v, bL_v, bD_v, bV_v, ob_s, ob_i, i3_ofNat, jx_e, bI_e, bL_e, bD_e, bV_e, i3_eq0, i6_eq0, if_mx, if_mn, if_true, if_false, not_true_eq_false, not_false_eq_true, Int.reduceEq, Int.reduceLT, Int.reduceLE, show (1099511627780 : Nat) = 1099511627776 + 4 from rfl, e4, bX8_kindOfWord_9]
  · rw [if_neg q0] at e4 ⊢
    simp (disch := first | assumption | omega) only [i3_add, i3_sub, i3_mul, i3_neg, i6_add, i6_sub, i6_mul, i6_neg, i3_lt, i3_le, i3_eq, i6_lt, i6_eq, i3_div, i6_div, i6_i3, i3_i6, c6_lt, c6_ge, c6_gt, c6_le, c6_eq, i3_ite, i6_ite, ib_0, ib_z, ite_not, i1_0, i0_0, jB_1, jB_0, jB_ib, bI_v, bL_v, bD_v, bV_v, ob_s, ob_i, i3_ofNat, jx_e, bI_e, bL_e, bD_e, bV_e, i3_eq0, i6_eq0, if_mx, if_mn, if_true, if_false, not_true_eq_false, not_false_eq_true, Int.reduceEq, Int.reduceLT, Int.reduceLE, show (1099511627780 : Nat) = 1099511627776 + 4 from rfl, e4, bX8_kindOfWord_11]
    by_cases q1 : isW b p 3764
    · rw [if_pos q1] at e5 ⊢
      simp (disch := first | assumption | omega) only [i3_add, i3_sub, i3_mul, i3_neg, i6_add, i6_sub, i6_mul, i6_neg, i3_lt, i3_le, i3_eq, i6_lt, i6_eq, i3_div, i6_div, i6_i3, i3_i6, c6_lt, c6_ge, c6_gt, c6_le, c6_eq, i3_ite, i6_ite, ib_0, ib_z, ite_not, i1_0, i0_0, jB_1, jB_0, jB_ib, bI_v, bL_v, bD_v, bV_v, ob_s, ob_i, i3_ofNat, jx_e, bI_e, bL_e, bD_e, bV_e, i3_eq0, i6_eq0, if_mx, if_mn, if_true, if_false, not_true_eq_false, not_false_eq_true, Int.reduceEq, Int.reduceLT, Int.reduceLE, show (1099511627781 : Nat) = 1099511627776 + 5 from rfl, e5, bX8_kindOfWord_20]
    · rw [if_neg q1] at e5 ⊢
      simp (disch := first | assumption | omega) only [i3_add, i3_sub, i3_mul, i3_neg, i6_add, i6_sub, i6_mul, i6_neg, i3_lt, i3_le, i3_eq, i6_lt, i6_eq, i3_div, i6_div, i6_i3, i3_i6, c6_lt, c6_ge, c6_gt, c6_le, c6_eq, i3_ite, i6_ite, ib_0, ib_z, ite_not, i1_0, i0_0, jB_1, jB_0, jB_ib, bI_v, bL_v, bD_v, bV_v, ob_s, ob_i, i3_ofNat, jx_e, bI_e, bL_e, bD_e, bV_e, i3_eq0, i6_eq0, if_mx, if_mn, if_true, if_false, not_true_eq_false, not_false_eq_true, Int.reduceEq, Int.reduceLT, Int.reduceLE, show (1099511627781 : Nat) = 1099511627776 + 5 from rfl, e5, bX8_kindOfWord_22]
      by_cases q2 : isW b p 16322738
      · rw [if_pos q2] at e6 ⊢
        simp (disch := first | assumption | omega) only [i3_add, i3_sub, i3_mul, i3_neg, i6_add, i6_sub, i6_mul, i6_neg, i3_lt, i3_le, i3_eq, i6_lt, i6_eq, i3_div, i6_div, i6_i3, i3_i6, c6_lt, c6_ge, c6_gt, c6_le, c6_eq, i3_ite, i6_ite, ib_0, ib_z, ite_not, i1_0, i0_0, jB_1, jB_0, jB_ib, bI_v, bL_v, bD_v, bV_v, ob_s, ob_i, i3_ofNat, jx_e, bI_e, bL_e, bD_e, bV_e, i3_eq0, i6_eq0, if_mx, if_mn, if_true, if_false, not_true_eq_false, not_false_eq_true, Int.reduceEq, Int.reduceLT, Int.reduceLE, show (1099511627782 : Nat) = 1099511627776 + 6 from rfl, e6, bX8_kindOfWord_31]
      · rw [if_neg q2] at e6 ⊢
        simp (disch := first | assumption | omega) only [i3_add, i3_sub, i3_mul, i3_neg, i6_add, i6_sub, i6_mul, i6_neg, i3_lt, i3_le, i3_eq, i6_lt, i6_eq, i3_div, i6_div, i6_i3, i3_i6, c6_lt, c6_ge, c6_gt, c6_le, c6_eq, i3_ite, i6_ite, ib_0, ib_z, ite_not, i1_0, i0_0, jB_1, jB_0, jB_ib, bI_v, bL_v, bD_v, bV_v, ob_s, ob_i, i3_ofNat, jx_e, bI_e, bL_e, bD_e, bV_e, i3_eq0, i6_eq0, if_mx, if_mn, if_true, if_false, not_true_eq_false, not_false_eq_true, Int.reduceEq, Int.reduceLT, Int.reduceLE, show (1099511627782 : Nat) = 1099511627776 + 6 from rfl, e6, bX8_kindOfWord_33]
        by_cases q3 : isW b p 168165
        · rw [if_pos q3] at e7 ⊢
          simp (disch := first | assumption | omega) only [i3_add, i3_sub, i3_mul, i3_neg, i6_add, i6_sub, i6_mul, i6_neg, i3_lt, i3_le, i3_eq, i6_lt, i6_eq, i3_div, i6_div, i6_i3, i3_i6, c6_lt, c6_ge, c6_gt, c6_le, c6_eq, i3_ite, i6_ite, ib_0, ib_z, ite_not, i1_0, i0_0, jB_1, jB_0, jB_ib, bI_v, bL_v, bD_v, bV_v, ob_s, ob_i, i3_ofNat, jx_e, bI_e, bL_e, bD_e, bV_e, i3_eq0, i6_eq0, if_mx, if_mn, if_true, if_false, not_true_eq_false, not_false_eq_true, Int.reduceEq, Int.reduceLT, Int.reduceLE, show (1099511627783 : Nat) = 1099511627776 + 7 from rfl, e7, bX8_kindOfWord_42]
        · rw [if_neg q3] at e7 ⊢
          simp (disch := first | assumption | omega) only [i3_add, i3_sub, i3_mul, i3_neg, i6_add, i6_sub, i6_mul, i6_neg, i3_lt, i3_le, i3_eq, i6_lt, i6_eq, i3_div, i6_div, i6_i3, i3_i6, c6_lt, c6_ge, c6_gt, c6_le, c6_eq, i3_ite, i6_ite, ib_0, ib_z, ite_not, i1_0, i0_0, jB_1, jB_0, jB_ib, bI_v, bL_v, bD_v, bV_v, ob_s, ob_i, i3_ofNat, jx_e, bI_e, bL_e, bD_e, bV_e, i3_eq0, i6_eq0, if_mx, if_mn, if_true, if_false, not_true_eq_false, not_false_eq_true, Int.reduceEq, Int.reduceLT, Int.reduceLE, show (1099511627783 : Nat) = 1099511627776 + 7 from rfl, e7, bX8_kindOfWord_44]
          by_cases q4 : isW b p 594989
          · rw [if_pos q4] at e8 ⊢
            simp (disch := first | assumption | omega) only [i3_add, i3_sub, i3_mul, i3_neg, i6_add, i6_sub, i6_mul, i6_neg, i3_lt, i3_le, i3_eq, i6_lt, i6_eq, i3_div, i6_div, i6_i3, i3_i6, c6_lt, c6_ge, c6_gt, c6_le, c6_eq, i3_ite, i6_ite, ib_0, ib_z, ite_not, i1_0, i0_0, jB_1, jB_0, jB_ib, bI_v, bL_v, bD_v, bV_v, ob_s, ob_i, i3_ofNat, jx_e, bI_e, bL_e, bD_e, bV_e, i3_eq0, i6_eq0, if_mx, if_mn, if_true, if_false, not_true_eq_false, not_false_eq_true, Int.reduceEq, Int.reduceLT, Int.reduceLE, show (1099511627784 : Nat) = 1099511627776 + 8 from rfl, e8, bX8_kindOfWord_53]
          · rw [if_neg q4] at e8 ⊢
            simp (disch := first | assumption | omega) only [i3_add, i3_sub, i3_mul, i3_neg, i6_add, i6_sub, i6_mul, i6_neg, i3_lt, i3_le, i3_eq, i6_lt, i6_eq, i3_div, i6_div, i6_i3, i3_i6, c6_lt, c6_ge, c6_gt, c6_le, c6_eq, i3_ite, i6_ite, ib_0, ib_z, ite_not, i1_0, i0_0, jB_1, jB_0, jB_ib, bI_v, bL_v, bD_v, bV_v, ob_s, ob_i, i3_ofNat, jx_e, bI_e, bL_e, bD_e, bV_e, i3_eq0, i6_eq0, if_mx, if_mn, if_true, if_false, not_true_eq_false, not_false_eq_true, Int.reduceEq, Int.reduceLT, Int.reduceLE, show (1099511627784 : Nat) = 1099511627776 + 8 from rfl, e8, bX8_kindOfWord_55]
            by_cases q5 : isW b p 1279278
            · rw [if_pos q5] at e9 ⊢
              simp (disch := first | assumption | omega) only [i3_add, i3_sub, i3_mul, i3_neg, i6_add, i6_sub, i6_mul, i6_neg, i3_lt, i3_le, i3_eq, i6_lt, i6_eq, i3_div, i6_div, i6_i3, i3_i6, c6_lt, c6_ge, c6_gt, c6_le, c6_eq, i3_ite, i6_ite, ib_0, ib_z, ite_not, i1_0, i0_0, jB_1, jB_0, jB_ib, bI_v, bL_v, bD_v, bV_v, ob_s, ob_i, i3_ofNat, jx_e, bI_e, bL_e, bD_e, bV_e, i3_eq0, i6_eq0, if_mx, if_mn, if_true, if_false, not_true_eq_false, not_false_eq_true, Int.reduceEq, Int.reduceLT, Int.reduceLE, show (1099511627785 : Nat) = 1099511627776 + 9 from rfl, e9, bX8_kindOfWord_64, bX8_kindOfWord_69]
            · rw [if_neg q5] at e9 ⊢
              simp (disch := first | assumption | omega) only [i3_add, i3_sub, i3_mul, i3_neg, i6_add, i6_sub, i6_mul, i6_neg, i3_lt, i3_le, i3_eq, i6_lt, i6_eq, i3_div, i6_div, i6_i3, i3_i6, c6_lt, c6_ge, c6_gt, c6_le, c6_eq, i3_ite, i6_ite, ib_0, ib_z, ite_not, i1_0, i0_0, jB_1, jB_0, jB_ib, bI_v, bL_v, bD_v, bV_v, ob_s, ob_i, i3_ofNat, jx_e, bI_e, bL_e, bD_e, bV_e, i3_eq0, i6_eq0, if_mx, if_mn, if_true, if_false, not_true_eq_false, not_false_eq_true, Int.reduceEq, Int.reduceLT, Int.reduceLE, show (1099511627785 : Nat) = 1099511627776 + 9 from rfl, e9, bX8_kindOfWord_68, bX8_kindOfWord_69]
/-- the arguments read, or not -/
def oA (x : Option jm_Res) (X : Nat × (Nat → Int32)) (v w : Nat → Int → Int) (T c s : Nat) (b : Int → Int) (t : Nat) (r : aR) : Prop :=
  (∀ e, r = .inl e → ∃ w', x = some (.inl (some (.int (i3 (0)))), qM X (up (up v 5 5 e.1) 5 6 e.2) w' T c s)) ∧
  (∀ u, r = .inr u → ∃ w', x = some (.inl (some (.int (i3 (1)))), qM X v (RD w' b u.1) T c s) ∧ w' 8 5 = w 8 5 ∧ enW w' t u.2 ∧ kpT w' w t)
theorem oA_l {x : Option jm_Res} {t : Nat} {r : aR} {z : Int} {q : Nat} (hr : r = .inl (z, q)) (h : ∃ w', x = some (.inl (some (.int (i3 (0)))), qM X (up (up v 5 5 z) 5 6 q) w' T c s)) : oA x X v w T c s b t r := by
  subst hr
  exact ⟨fun e he => (by cases he; exact h), fun u hu => (by cases hu)⟩
theorem oA_r {x : Option jm_Res} {t : Nat} {r : aR} {u : Nat × oE} (hr : r = .inr u) (h : ∃ w', x = some (.inl (some (.int (i3 (1)))), qM X v (RD w' b u.1) T c s) ∧ w' 8 5 = w 8 5 ∧ enW w' t u.2 ∧ kpT w' w t) : oA x X v w T c s b t r := by
  subst hr
  exact ⟨fun e he => (by cases he), fun u hu => (by cases hu; exact h)⟩
theorem tX8_readStackOrder {p t : Nat} {k y : Int} (h : TB v b n) (hp : p ≤ n) (hlo : LO v 14 μ) (ht : t < 30) (y0 : 1 ≤ y) (y1 : y ≤ 9999) (hen : enW w t (k, 0, 0, 0, 0)) :
    oA (jm_env (d + 4) 107 [.ref 8, .ref 5, .ref 14, .int (i3 t), .int (i3 1), .int (i3 y)] (qM X v (RD w b p) T c s)) X v w T c s b t (aO3 b (nmF μ) k y p) := by
  have ho := h.ok
  have hn6 := ho.1
  have b1 := (nx_b ho hp).2
  have b2 := (nx_b ho b1).2
  have o1 := oByt_1
  unfold aO3
  by_cases q1 : isM b p
  · rw [if_pos q1]
    have e1 := tX7_seesName_1 (d := d + 1) (X := X) (v := v) (w := w) (T := T) (c := c) (s := s) q1.1 q1.2 ho hp
    have hb1 := en_b ho hp
    have hlt := wd_ok ho hp q1.1 (Nat.le_refl _)
    have ln6 := q1.2
    have hbat : ∀ k : Int, 0 ≤ k → k < ((en b p - p : Nat) : Int) → bat v 1 ((p : Nat) + k) = v 2 ((p : Nat) + k) := fun k k0 k1 => by
      rw [tb_v h (by omega) (by omega), h.1]
    have hwd : wd b p = nk (fun k => v 2 ((p : Nat) + k)) (en b p - p) := by
      unfold wd
      rw [show min (en b p - p) 12 = en b p - p by omega]
      exact nk_cg (fun k k0 k1 => (tb_v h (by omega) (by omega)).symm)
    have hlt2 : ltOk (fun k => v 2 ((p : Nat) + k)) (en b p - p) := fun k k0 k1 => by
      have := hlt k k0 k1
      dsimp only at this ⊢
      rw [tb_v h (by omega) (by omega)]
      exact this
    have e2 := tX4_seriesNamed (d := d) (X := X) (w := RD w b p) (T := T) (c := c) (s := s) (st := (p : Nat)) (n := en b p - p) hlo h.2.2 (by omega) (by omega) hbat hlt2
    rw [← hwd] at e2
    have hsub : ((en b p : Int) - (p : Nat)) = ((en b p - p : Nat) : Int) := by omega
    have hnb := nmF_b (u := μ) hlo.2.2.1.1 hlo.2.2.1.2.1 (wd b p)
    have e3 := tX11_setAt8 (d := d + 2) (X := X) (v := v) (w := RD w b p) (T := T) (c := c) (s := s) (a := 10) (z := nmF μ (wd b p)) (t := t) (Or.inl rfl) (by omega) (by omega)
    rw [RD_o (by omega)] at e3
    have e4 := tX7_advance (d := d + 1) (X := X) (w := up w 10 t (nmF μ (wd b p))) (T := T) (c := c) (s := s) h hp
    by_cases q2 : isN b (nx b p) 0 9
    · rw [if_pos q2]
      have e5 := tX8_readNumber_1 (d := d) (X := X) (w := up w 10 t (nmF μ (wd b p))) (T := T) (c := c) (s := s) (a := 11) (t := t) h b1 (Or.inr (Or.inl rfl)) (by omega) (by omega) (by omega) (by omega) q2
      by_cases q3 : isN b (nx b (nx b p)) 1 y
      · rw [if_pos q3]
        have e6 := tX8_readNumber_1 (d := d) (X := X) (w := up (up w 10 t (nmF μ (wd b p))) 11 t (nv b (nx b p))) (T := T) (c := c) (s := s) (a := 12) (t := t) h b2 (Or.inr (Or.inr (Or.inl rfl))) (by omega) (by omega) (by omega) y1 q3
        obtain ⟨a1, a2, a3, a4, a5⟩ := hen
        refine oA_r rfl ⟨up (up (up w 10 t (nmF μ (wd b p))) 11 t (nv b (nx b p))) 12 t (nv b (nx b (nx b p))), ?_, ?_, ⟨?_, ?_, ?_, ?_, ?_⟩, fun m m1 m2 => ?_, fun m j m1 m2 m3 => ?_⟩
        · simp (disch := first | assumption | omega) only [↓reduceIte, eX8_readStackOrder, bX8_readStackOrder_0, bX8_readStackOrder_7, bX8_readStackOrder_9, bX8_readStackOrder_57, bX8_readStackOrder_73, bX8_readStackOrder_77, bX8_readStackOrder_78, i3_add, i3_sub, i3_mul, i3_neg, i6_add, i6_sub, i6_mul, i6_neg, i3_lt, i3_le, i3_eq, i6_lt, i6_eq, i3_div, i6_div, i6_i3, i3_i6, c6_lt, c6_ge, c6_gt, c6_le, c6_eq, i3_ite, i6_ite, ib_0, ib_z, ite_not, i1_0, i0_0, jB_1, jB_0, jB_ib, bI_v, bL_v, bD_v, bV_v, ob_s, ob_i, i3_ofNat, jx_e, bI_e, bL_e, bD_e, bV_e, i3_eq0, i6_eq0, if_mx, if_mn, if_true, if_false, not_true_eq_false, not_false_eq_true, Int.reduceEq, Int.reduceLT, Int.reduceLE, e1, r8_1, r8_2, r8_3, r7_0, g7_2, g7_3, RD_2, RD_3, hsub, e2, e3, e4, e5, e6]
        · rw [up_ne (by omega), up_ne (by omega), up_ne (by omega)]
        · rw [up_ne (by omega), up_ne (by omega), up_ne (by omega)]; exact a1
        · rw [up_ne (by omega), up_ne (by omega), up_eq]
        · rw [up_ne (by omega), up_eq]
        · rw [up_eq]
        · rw [up_ne (by omega), up_ne (by omega), up_ne (by omega)]; exact a5
        · rw [up_b (by omega), up_b (by omega), up_b (by omega)]
        · rw [up_ne (by omega), up_ne (by omega), up_ne (by omega)]
      · rw [if_neg q3]
        have e6 := tX8_readNumber_0 (d := d) (X := X) (w := up (up w 10 t (nmF μ (wd b p))) 11 t (nv b (nx b p))) (T := T) (c := c) (s := s) (a := 12) (t := t) h b2 (by omega) y0 y1 q3
        refine oA_l rfl ⟨RD (up (up w 10 t (nmF μ (wd b p))) 11 t (nv b (nx b p))) b (nx b (nx b p)), ?_⟩
        simp (disch := first | assumption | omega) only [↓reduceIte, eX8_readStackOrder, bX8_readStackOrder_0, bX8_readStackOrder_7, bX8_readStackOrder_9, bX8_readStackOrder_57, bX8_readStackOrder_73, bX8_readStackOrder_77, bX8_readStackOrder_78, i3_add, i3_sub, i3_mul, i3_neg, i6_add, i6_sub, i6_mul, i6_neg, i3_lt, i3_le, i3_eq, i6_lt, i6_eq, i3_div, i6_div, i6_i3, i3_i6, c6_lt, c6_ge, c6_gt, c6_le, c6_eq, i3_ite, i6_ite, ib_0, ib_z, ite_not, i1_0, i0_0, jB_1, jB_0, jB_ib, bI_v, bL_v, bD_v, bV_v, ob_s, ob_i, i3_ofNat, jx_e, bI_e, bL_e, bD_e, bV_e, i3_eq0, i6_eq0, if_mx, if_mn, if_true, if_false, not_true_eq_false, not_false_eq_true, Int.reduceEq, Int.reduceLT, Int.reduceLE, e1, r8_1, r8_2, r8_3, r7_0, g7_2, g7_3, RD_2, RD_3, hsub, e2, e3, e4, e5, e6]
    · rw [if_neg q2]
      have e5 := tX8_readNumber_0 (d := d) (X := X) (w := up w 10 t (nmF μ (wd b p))) (T := T) (c := c) (s := s) (a := 11) (t := t) h b1 (by omega) (by omega) (by omega) q2
      refine oA_l rfl ⟨RD (up w 10 t (nmF μ (wd b p))) b (nx b p), ?_⟩
      simp (disch := first | assumption | omega) only [↓reduceIte, eX8_readStackOrder, bX8_readStackOrder_0, bX8_readStackOrder_7, bX8_readStackOrder_9, bX8_readStackOrder_57, bX8_readStackOrder_73, bX8_readStackOrder_77, bX8_readStackOrder_78, i3_add, i3_sub, i3_mul, i3_neg, i6_add, i6_sub, i6_mul, i6_neg, i3_lt, i3_le, i3_eq, i6_lt, i6_eq, i3_div, i6_div, i6_i3, i3_i6, c6_lt, c6_ge, c6_gt, c6_le, c6_eq, i3_ite, i6_ite, ib_0, ib_z, ite_not, i1_0, i0_0, jB_1, jB_0, jB_ib, bI_v, bL_v, bD_v, bV_v, ob_s, ob_i, i3_ofNat, jx_e, bI_e, bL_e, bD_e, bV_e, i3_eq0, i6_eq0, if_mx, if_mn, if_true, if_false, not_true_eq_false, not_false_eq_true, Int.reduceEq, Int.reduceLT, Int.reduceLE, e1, r8_1, r8_2, r7_0, g7_2, g7_3, RD_2, RD_3, hsub, e2, e3, e4, e5]
  · rw [if_neg q1]
    have e1 := tX7_seesNa_0 (d := d + 1) (X := X) (v := v) (w := w) (T := T) (c := c) (s := s) h hp q1
    refine oA_l rfl ⟨RD w b p, ?_⟩
    simp (disch := first | assumption | omega) only [↓reduceIte, eX8_readStackOrder, bX8_readStackOrder_0, bX8_readStackOrder_7, bX8_readStackOrder_9, bX8_readStackOrder_57, bX8_readStackOrder_73, bX8_readStackOrder_77, bX8_readStackOrder_78, i3_add, i3_sub, i3_mul, i3_neg, i6_add, i6_sub, i6_mul, i6_neg, i3_lt, i3_le, i3_eq, i6_lt, i6_eq, i3_div, i6_div, i6_i3, i3_i6, c6_lt, c6_ge, c6_gt, c6_le, c6_eq, i3_ite, i6_ite, ib_0, ib_z, ite_not, i1_0, i0_0, jB_1, jB_0, jB_ib, bI_v, bL_v, bD_v, bV_v, ob_s, ob_i, i3_ofNat, jx_e, bI_e, bL_e, bD_e, bV_e, i3_eq0, i6_eq0, if_mx, if_mn, if_true, if_false, not_true_eq_false, not_false_eq_true, Int.reduceEq, Int.reduceLT, Int.reduceLE, e1]
end PLB
