-- uses 24.zar 25.obj 26.ops 27.ra 28.rb 29.rc 34.gen 35.byt 36.ser 37.lnd 38.mod 39.mo2 40.mo3 41.bit 44.mo6 46.mo8 51.moe 53.cla 58.clf 61.cli 62.clj 63.clk 64.okm 65.cll 73.clr 74.cls 93.tka 94.tkb 96.srd 97.srp 98.srq a0.srr b0.pla b1.plb
/-! The class's reading of a script: orders. -/
theorem nmF_c {u : Nat → Int → Int} (h0 : 0 ≤ u 412 0) (x : Int) : nmF u x = -1 ∨ (0 ≤ nmF u x ∧ nmF u x < u 412 0) := by
  unfold nmF
  exact fnd_P (P := fun z : Int => z = -1 ∨ (0 ≤ z ∧ z < u 412 0)) _ _ (Or.inl rfl) (fun j j0 j1 _ => Or.inr (by omega))
section PLC
variable {d : Nat} {X : Nat × (Nat → Int32)} {v w : Nat → Int → Int} {T c s : Nat}
variable {b : Int → Int} {n : Nat} {μ : Nat → Int → Int}
theorem oA_map {x y : Option jm_Res} {t : Nat} {r : aR} (h : oA x X v w T c s b t r) (hb : ∀ (z : Int) (m : jm_Mem), (z = 0 ∨ z = 1) → x = some (.inl (some (.int (i3 (z)))), m) → y = some (.inl (some (.int (i3 (z)))), m)) : oA y X v w T c s b t r := by
  refine ⟨fun e he => ?_, fun u hu => ?_⟩
  · obtain ⟨w', h1⟩ := h.1 e he
    exact ⟨w', hb 0 _ (Or.inl rfl) h1⟩
  · obtain ⟨w', h1, h2⟩ := h.2 u hu
    exact ⟨w', hb 1 _ (Or.inr rfl) h1, h2⟩
theorem tX8_arg1 {p t : Nat} {k x y : Int} (h : TB v b n) (hp : p ≤ n) (ht : t < 30) (x0 : 0 ≤ x) (xy : x ≤ y) (y1 : y ≤ 9999) (hen : enW w t (k, 0, 0, 0, 0)) :
    oA (jm_env (d + 4) 109 [.ref 5, .ref 10, .int (i3 t), .int (i3 x), .int (i3 y)] (qM X v (RD w b p) T c s)) X v w T c s b t (aO1 b k x y p) := by
  unfold aO1
  by_cases q : isN b p x y
  · rw [if_pos q]
    obtain ⟨a1, a2, a3, a4, a5⟩ := hen
    refine oA_r rfl ⟨up w 10 t (nv b p), tX8_readNumber_1 (d := d + 1) h hp (Or.inl rfl) (by omega) (by omega) x0 y1 q, up_ne (by omega), ⟨?_, ?_, ?_, ?_, ?_⟩, fun m m1 m2 => up_b (by omega), fun m j m1 m2 m3 => up_ne (by omega)⟩
    · rw [up_ne (by omega)]; exact a1
    · exact up_eq
    · rw [up_ne (by omega)]; exact a3
    · rw [up_ne (by omega)]; exact a4
    · rw [up_ne (by omega)]; exact a5
  · rw [if_neg q]
    exact oA_l rfl ⟨_, tX8_readNumber_0 (d := d + 1) h hp x0 xy y1 q⟩
theorem tX8_args {p t : Nat} {k dep : Int} (h : TB v b n) (hp : p ≤ n) (hlo : LO v 14 μ) (ht : t < 30) (k0 : 0 ≤ k) (k4 : k ≤ 4) (hen : enW w t (k, 0, 0, 0, 0)) :
    oA (jm_R (jm_env (d + 4)) jmM_X8_readOrder 110 [some (.ref 8), some (.ref 5), some (.ref 14), some (.int (i3 dep)), some (.int (i3 k)), some (.int (i3 t))] [.int (i3 k)] (qM X v (RD w b p) T c s)) X v w T c s b t (aO b (nmF μ) k p) := by
  have ho := h.ok
  have b1 := (nx_b ho hp).2
  have b2 := (nx_b ho b1).2
  have hk : k = 0 ∨ k = 1 ∨ k = 2 ∨ k = 3 ∨ k = 4 := by omega
  rcases hk with rfl | rfl | rfl | rfl | rfl
  · refine oA_map (tX8_readStackOrder (d := d) (y := 99) (k := 0) h hp hlo ht (by omega) (by omega) hen) (fun z m hz e => ?_)
    rw [bX8_readOrder_110_0, bX8_readOrder_144]
    rcases hz with rfl | rfl <;> simp (disch := first | assumption | omega) only [i3_add, i3_sub, i3_mul, i3_neg, i6_add, i6_sub, i6_mul, i6_neg, i3_lt, i3_le, i3_eq, i6_lt, i6_eq, i3_div, i6_div, i6_i3, i3_i6, c6_lt, c6_ge, c6_gt, c6_le, c6_eq, i3_ite, i6_ite, ib_0, ib_z, ite_not, i1_0, i0_0, jB_1, jB_0, jB_ib, bI_v, bL_v, bD_v, bV_v, ob_s, ob_i, i3_ofNat, jx_e, bI_e, bL_e, bD_e, bV_e, i3_eq0, i6_eq0, if_mx, if_mn, if_true, if_false, not_true_eq_false, not_false_eq_true, Int.reduceEq, Int.reduceLT, Int.reduceLE, e]
  · refine oA_map (tX8_readStackOrder (d := d) (y := 9999) (k := 1) h hp hlo ht (by omega) (by omega) hen) (fun z m hz e => ?_)
    rw [bX8_readOrder_110_1, bX8_readOrder_156]
    rcases hz with rfl | rfl <;> simp (disch := first | assumption | omega) only [i3_add, i3_sub, i3_mul, i3_neg, i6_add, i6_sub, i6_mul, i6_neg, i3_lt, i3_le, i3_eq, i6_lt, i6_eq, i3_div, i6_div, i6_i3, i3_i6, c6_lt, c6_ge, c6_gt, c6_le, c6_eq, i3_ite, i6_ite, ib_0, ib_z, ite_not, i1_0, i0_0, jB_1, jB_0, jB_ib, bI_v, bL_v, bD_v, bV_v, ob_s, ob_i, i3_ofNat, jx_e, bI_e, bL_e, bD_e, bV_e, i3_eq0, i6_eq0, if_mx, if_mn, if_true, if_false, not_true_eq_false, not_false_eq_true, Int.reduceEq, Int.reduceLT, Int.reduceLE, e]
  · show oA _ X v w T c s b t (aO2 b p)
    unfold aO2
    rw [bX8_readOrder_110_2, bX8_readOrder_169]
    by_cases q1 : isN b p 1 2000
    · rw [if_pos q1]
      have e1 := tX8_readNumber_1 (d := d + 1) (X := X) (w := w) (T := T) (c := c) (s := s) (a := 10) (t := t) h hp (Or.inl rfl) (by omega) (by omega) (by omega) (by omega) q1
      by_cases q2 : isN b (nx b p) 1 2000
      · rw [if_pos q2]
        have e2 := tX8_readNumber_1 (d := d + 1) (X := X) (w := up w 10 t (nv b p)) (T := T) (c := c) (s := s) (a := 11) (t := t) h b1 (Or.inr (Or.inl rfl)) (by omega) (by omega) (by omega) (by omega) q2
        by_cases q3 : isN b (nx b (nx b p)) 1 999
        · rw [if_pos q3]
          have e3 := tX8_readNumber_1 (d := d + 1) (X := X) (w := up (up w 10 t (nv b p)) 11 t (nv b (nx b p))) (T := T) (c := c) (s := s) (a := 12) (t := t) h b2 (Or.inr (Or.inr (Or.inl rfl))) (by omega) (by omega) (by omega) (by omega) q3
          obtain ⟨a1, a2, a3, a4, a5⟩ := hen
          refine oA_r rfl ⟨up (up (up w 10 t (nv b p)) 11 t (nv b (nx b p))) 12 t (nv b (nx b (nx b p))), ?_, ?_, ⟨?_, ?_, ?_, ?_, ?_⟩, fun m m1 m2 => ?_, fun m j m1 m2 m3 => ?_⟩
          · simp (disch := first | assumption | omega) only [↓reduceIte, i3_add, i3_sub, i3_mul, i3_neg, i6_add, i6_sub, i6_mul, i6_neg, i3_lt, i3_le, i3_eq, i6_lt, i6_eq, i3_div, i6_div, i6_i3, i3_i6, c6_lt, c6_ge, c6_gt, c6_le, c6_eq, i3_ite, i6_ite, ib_0, ib_z, ite_not, i1_0, i0_0, jB_1, jB_0, jB_ib, bI_v, bL_v, bD_v, bV_v, ob_s, ob_i, i3_ofNat, jx_e, bI_e, bL_e, bD_e, bV_e, i3_eq0, i6_eq0, if_mx, if_mn, if_true, if_false, not_true_eq_false, not_false_eq_true, Int.reduceEq, Int.reduceLT, Int.reduceLE, r8_1, r8_2, r8_3, e1, bX8_readOrder_186, e2, bX8_readOrder_203, e3, bX8_readOrder_220, bX8_readOrder_225]
          · rw [up_ne (by omega), up_ne (by omega), up_ne (by omega)]
          · rw [up_ne (by omega), up_ne (by omega), up_ne (by omega)]; exact a1
          · rw [up_ne (by omega), up_ne (by omega), up_eq]
          · rw [up_ne (by omega), up_eq]
          · rw [up_eq]
          · rw [up_ne (by omega), up_ne (by omega), up_ne (by omega)]; exact a5
          · rw [up_b (by omega), up_b (by omega), up_b (by omega)]
          · rw [up_ne (by omega), up_ne (by omega), up_ne (by omega)]
        · rw [if_neg q3]
          have e3 := tX8_readNumber_0 (d := d + 1) (X := X) (w := up (up w 10 t (nv b p)) 11 t (nv b (nx b p))) (T := T) (c := c) (s := s) (a := 12) (t := t) h b2 (by omega) (by omega) (by omega) q3
          refine oA_l rfl ⟨RD (up (up w 10 t (nv b p)) 11 t (nv b (nx b p))) b (nx b (nx b p)), ?_⟩
          simp (disch := first | assumption | omega) only [↓reduceIte, i3_add, i3_sub, i3_mul, i3_neg, i6_add, i6_sub, i6_mul, i6_neg, i3_lt, i3_le, i3_eq, i6_lt, i6_eq, i3_div, i6_div, i6_i3, i3_i6, c6_lt, c6_ge, c6_gt, c6_le, c6_eq, i3_ite, i6_ite, ib_0, ib_z, ite_not, i1_0, i0_0, jB_1, jB_0, jB_ib, bI_v, bL_v, bD_v, bV_v, ob_s, ob_i, i3_ofNat, jx_e, bI_e, bL_e, bD_e, bV_e, i3_eq0, i6_eq0, if_mx, if_mn, if_true, if_false, not_true_eq_false, not_false_eq_true, Int.reduceEq, Int.reduceLT, Int.reduceLE, r8_1, r8_2, r8_3, e1, bX8_readOrder_186, e2, bX8_readOrder_203, e3, bX8_readOrder_224, bX8_readOrder_225]
      · rw [if_neg q2]
        have e2 := tX8_readNumber_0 (d := d + 1) (X := X) (w := up w 10 t (nv b p)) (T := T) (c := c) (s := s) (a := 11) (t := t) h b1 (by omega) (by omega) (by omega) q2
        refine oA_l rfl ⟨RD (up w 10 t (nv b p)) b (nx b p), ?_⟩
        simp (disch := first | assumption | omega) only [↓reduceIte, i3_add, i3_sub, i3_mul, i3_neg, i6_add, i6_sub, i6_mul, i6_neg, i3_lt, i3_le, i3_eq, i6_lt, i6_eq, i3_div, i6_div, i6_i3, i3_i6, c6_lt, c6_ge, c6_gt, c6_le, c6_eq, i3_ite, i6_ite, ib_0, ib_z, ite_not, i1_0, i0_0, jB_1, jB_0, jB_ib, bI_v, bL_v, bD_v, bV_v, ob_s, ob_i, i3_ofNat, jx_e, bI_e, bL_e, bD_e, bV_e, i3_eq0, i6_eq0, if_mx, if_mn, if_true, if_false, not_true_eq_false, not_false_eq_true, Int.reduceEq, Int.reduceLT, Int.reduceLE, r8_1, r8_2, r8_3, e1, bX8_readOrder_186, e2, bX8_readOrder_224, bX8_readOrder_225]
    · rw [if_neg q1]
      have e1 := tX8_readNumber_0 (d := d + 1) (X := X) (w := w) (T := T) (c := c) (s := s) (a := 10) (t := t) h hp (by omega) (by omega) (by omega) q1
      refine oA_l rfl ⟨RD w b p, ?_⟩
      simp (disch := first | assumption | omega) only [↓reduceIte, i3_add, i3_sub, i3_mul, i3_neg, i6_add, i6_sub, i6_mul, i6_neg, i3_lt, i3_le, i3_eq, i6_lt, i6_eq, i3_div, i6_div, i6_i3, i3_i6, c6_lt, c6_ge, c6_gt, c6_le, c6_eq, i3_ite, i6_ite, ib_0, ib_z, ite_not, i1_0, i0_0, jB_1, jB_0, jB_ib, bI_v, bL_v, bD_v, bV_v, ob_s, ob_i, i3_ofNat, jx_e, bI_e, bL_e, bD_e, bV_e, i3_eq0, i6_eq0, if_mx, if_mn, if_true, if_false, not_true_eq_false, not_false_eq_true, Int.reduceEq, Int.reduceLT, Int.reduceLE, r8_1, e1, bX8_readOrder_224, bX8_readOrder_225]
  · refine oA_map (tX8_arg1 (d := d) (k := 3) (x := 0) (y := 50) h hp ht (by omega) (by omega) (by omega) hen) (fun z m hz e => ?_)
    rw [bX8_readOrder_110_3, bX8_readOrder_226]
    rcases hz with rfl | rfl <;> simp (disch := first | assumption | omega) only [i3_add, i3_sub, i3_mul, i3_neg, i6_add, i6_sub, i6_mul, i6_neg, i3_lt, i3_le, i3_eq, i6_lt, i6_eq, i3_div, i6_div, i6_i3, i3_i6, c6_lt, c6_ge, c6_gt, c6_le, c6_eq, i3_ite, i6_ite, ib_0, ib_z, ite_not, i1_0, i0_0, jB_1, jB_0, jB_ib, bI_v, bL_v, bD_v, bV_v, ob_s, ob_i, i3_ofNat, jx_e, bI_e, bL_e, bD_e, bV_e, i3_eq0, i6_eq0, if_mx, if_mn, if_true, if_false, not_true_eq_false, not_false_eq_true, Int.reduceEq, Int.reduceLT, Int.reduceLE, r8_1, e]
  · refine oA_map (tX8_arg1 (d := d) (k := 4) (x := 1) (y := 500) h hp ht (by omega) (by omega) (by omega) hen) (fun z m hz e => ?_)
    rw [bX8_readOrder_110_4, bX8_readOrder_240]
    rcases hz with rfl | rfl <;> simp (disch := first | assumption | omega) only [i3_add, i3_sub, i3_mul, i3_neg, i6_add, i6_sub, i6_mul, i6_neg, i3_lt, i3_le, i3_eq, i6_lt, i6_eq, i3_div, i6_div, i6_i3, i3_i6, c6_lt, c6_ge, c6_gt, c6_le, c6_eq, i3_ite, i6_ite, ib_0, ib_z, ite_not, i1_0, i0_0, jB_1, jB_0, jB_ib, bI_v, bL_v, bD_v, bV_v, ob_s, ob_i, i3_ofNat, jx_e, bI_e, bL_e, bD_e, bV_e, i3_eq0, i6_eq0, if_mx, if_mn, if_true, if_false, not_true_eq_false, not_false_eq_true, Int.reduceEq, Int.reduceLT, Int.reduceLE, r8_1, e]
/-- an order's own row is made, its word gone over -/
theorem tX8_readOrder_h {p t dep : Nat} (h : TB v b n) (hp : p ≤ n) (hT : T < 1000000000) (ht : t < 30) (h85 : w 8 5 = t) (hd : dep ≤ 3) (hk : kw b p ≠ -1) (hk5 : ¬ (kw b p = 5 ∧ 3 ≤ dep)) :
    jm_env (d + 5) 105 [.ref 8, .ref 5, .ref 14, .int (i3 dep)] (qM X v (RD w b p) T c s) = jm_R (jm_env (d + 4)) jmM_X8_readOrder 110 [some (.ref 8), some (.ref 5), some (.ref 14), some (.int (i3 dep)), some (.int (i3 (kw b p))), some (.int (i3 t))] [.int (i3 (kw b p))] (qM X v (RD (adW w t (kw b p)) b (nx b p)) T c s) := by
  have e1 := tX8_kindOfWord (d := d + 1) (X := X) (w := w) (c := c) (s := s) h hp hT
  have hkb := kw_b b p
  have hk' : (kw b p = -1) = False := eq_false hk
  have ht' : ((30 : Int) ≤ t) = False := eq_false (by omega)
  have x85 : RD w b p 8 5 = t := by rw [RD_b (by omega)]; exact h85
  have ea := tX7_advance (d := d + 2) (X := X) (w := adW w t (kw b p)) (T := T) (c := c) (s := s) h hp
  have eup : up (up (up (up (up (up (RD w b p) 9 t (kw b p)) 10 t 0) 11 t 0) 12 t 0) 13 t ((t : Int) + 1)) 8 5 ((t : Int) + 1) = RD (adW w t (kw b p)) b p := by
    rw [RD_o (by omega), RD_o (by omega), RD_o (by omega), RD_o (by omega), RD_o (by omega), RD_o (by omega)]
    rfl
  have x85' : ∀ z1 z2 z3 z4 z5 : Int, up (up (up (up (up (RD w b p) 9 t z1) 10 t z2) 11 t z3) 12 t z4) 13 t z5 8 5 = t := fun z1 z2 z3 z4 z5 => by
    rw [up_ne (by omega), up_ne (by omega), up_ne (by omega), up_ne (by omega), up_ne (by omega), x85]
  have h44 : jm_R (jm_env (d + 4)) jmM_X8_readOrder 44 [some (.ref 8), some (.ref 5), some (.ref 14), some (.int (i3 dep)), some (.int (i3 (kw b p))), none] [] (qM X v (RD w b p) T c s) = jm_R (jm_env (d + 4)) jmM_X8_readOrder 110 [some (.ref 8), some (.ref 5), some (.ref 14), some (.int (i3 dep)), some (.int (i3 (kw b p))), some (.int (i3 t))] [.int (i3 (kw b p))] (qM X v (RD (adW w t (kw b p)) b (nx b p)) T c s) := by
    rw [bX8_readOrder_44]
    simp (disch := first | assumption | omega) only [i3_add, i3_sub, i3_mul, i3_neg, i6_add, i6_sub, i6_mul, i6_neg, i3_lt, i3_le, i3_eq, i6_lt, i6_eq, i3_div, i6_div, i6_i3, i3_i6, c6_lt, c6_ge, c6_gt, c6_le, c6_eq, i3_ite, i6_ite, ib_0, ib_z, ite_not, i1_0, i0_0, jB_1, jB_0, jB_ib, bI_v, bL_v, bD_v, bV_v, ob_s, ob_i, i3_ofNat, jx_e, bI_e, bL_e, bD_e, bV_e, i3_eq0, i6_eq0, if_mx, if_mn, if_true, if_false, not_true_eq_false, not_false_eq_true, Int.reduceEq, Int.reduceLT, Int.reduceLE, g8_5, x85, r8_0, r8_1, r8_2, r8_3, r8_4, w8_0, w8_1, w8_2, w8_3, w8_4, x85', p8_5, eup, ea]
  rw [eX8_readOrder, bX8_readOrder_0]
  by_cases q5 : kw b p = 5
  · have hd' : ((dep : Int) < 3) = True := eq_true (by
      by_cases g : 3 ≤ dep
      · exact absurd ⟨q5, g⟩ hk5
      · omega)
    have q5' : (kw b p = 5) = True := eq_true q5
    simp (disch := first | assumption | omega) only [↓reduceIte, i3_add, i3_sub, i3_mul, i3_neg, i6_add, i6_sub, i6_mul, i6_neg, i3_lt, i3_le, i3_eq, i6_lt, i6_eq, i3_div, i6_div, i6_i3, i3_i6, c6_lt, c6_ge, c6_gt, c6_le, c6_eq, i3_ite, i6_ite, ib_0, ib_z, ite_not, i1_0, i0_0, jB_1, jB_0, jB_ib, bI_v, bL_v, bD_v, bV_v, ob_s, ob_i, i3_ofNat, jx_e, bI_e, bL_e, bD_e, bV_e, i3_eq0, i6_eq0, if_mx, if_mn, if_true, if_false, not_true_eq_false, not_false_eq_true, Int.reduceEq, Int.reduceLT, Int.reduceLE, e1, hk', bX8_readOrder_18, g8_5, x85, ht', bX8_readOrder_27, q5', bX8_readOrder_33, hd', h44]
  · have q5' : (kw b p = 5) = False := eq_false q5
    simp (disch := first | assumption | omega) only [↓reduceIte, i3_add, i3_sub, i3_mul, i3_neg, i6_add, i6_sub, i6_mul, i6_neg, i3_lt, i3_le, i3_eq, i6_lt, i6_eq, i3_div, i6_div, i6_i3, i3_i6, c6_lt, c6_ge, c6_gt, c6_le, c6_eq, i3_ite, i6_ite, ib_0, ib_z, ite_not, i1_0, i0_0, jB_1, jB_0, jB_ib, bI_v, bL_v, bD_v, bV_v, ob_s, ob_i, i3_ofNat, jx_e, bI_e, bL_e, bD_e, bV_e, i3_eq0, i6_eq0, if_mx, if_mn, if_true, if_false, not_true_eq_false, not_false_eq_true, Int.reduceEq, Int.reduceLT, Int.reduceLE, e1, hk', bX8_readOrder_18, g8_5, x85, ht', bX8_readOrder_27, q5', h44]
theorem tX8_readOrder_0 {p t dep : Nat} {z : Int} (h : TB v b n) (hp : p ≤ n) (hT : T < 1000000000) (ht : t ≤ 30) (h85 : w 8 5 = t) (hd : dep ≤ 3) (hz : (kw b p = -1 ∧ z = 1) ∨ (kw b p ≠ -1 ∧ (30 ≤ t ∨ (kw b p = 5 ∧ 3 ≤ dep)) ∧ z = 4)) :
    jm_env (d + 5) 105 [.ref 8, .ref 5, .ref 14, .int (i3 dep)] (qM X v (RD w b p) T c s) = some (.inl (some (.int (i3 (0)))), qM X (up (up v 5 5 z) 5 6 p) (RD w b p) T c s) := by
  have e1 := tX8_kindOfWord (d := d + 1) (X := X) (w := w) (c := c) (s := s) h hp hT
  have hkb := kw_b b p
  have x85 : RD w b p 8 5 = t := by rw [RD_b (by omega)]; exact h85
  rw [eX8_readOrder, bX8_readOrder_0]
  rcases hz with ⟨k, rfl⟩ | ⟨k, k2, rfl⟩
  · have ef := tX7_fail (d := d + 3) (X := X) (v := v) (w := w) (T := T) (c := c) (s := s) (b := b) (p := p) (z := 1)
    rw [k] at e1
    simp (disch := first | assumption | omega) only [↓reduceIte, i3_add, i3_sub, i3_mul, i3_neg, i6_add, i6_sub, i6_mul, i6_neg, i3_lt, i3_le, i3_eq, i6_lt, i6_eq, i3_div, i6_div, i6_i3, i3_i6, c6_lt, c6_ge, c6_gt, c6_le, c6_eq, i3_ite, i6_ite, ib_0, ib_z, ite_not, i1_0, i0_0, jB_1, jB_0, jB_ib, bI_v, bL_v, bD_v, bV_v, ob_s, ob_i, i3_ofNat, jx_e, bI_e, bL_e, bD_e, bV_e, i3_eq0, i6_eq0, if_mx, if_mn, if_true, if_false, not_true_eq_false, not_false_eq_true, Int.reduceEq, Int.reduceLT, Int.reduceLE, e1, bX8_readOrder_12, ef]
  · have ef := tX7_fail (d := d + 3) (X := X) (v := v) (w := w) (T := T) (c := c) (s := s) (b := b) (p := p) (z := 4)
    have hk' : (kw b p = -1) = False := eq_false k
    have h38 : jm_R (jm_env (d + 4)) jmM_X8_readOrder 38 [some (.ref 8), some (.ref 5), some (.ref 14), some (.int (i3 dep)), some (.int (i3 (kw b p))), none] [] (qM X v (RD w b p) T c s) = some (.inl (some (.int (i3 (0)))), qM X (up (up v 5 5 4) 5 6 p) (RD w b p) T c s) := by
      rw [bX8_readOrder_38]
      simp (disch := first | assumption | omega) only [i3_add, i3_sub, i3_mul, i3_neg, i6_add, i6_sub, i6_mul, i6_neg, i3_lt, i3_le, i3_eq, i6_lt, i6_eq, i3_div, i6_div, i6_i3, i3_i6, c6_lt, c6_ge, c6_gt, c6_le, c6_eq, i3_ite, i6_ite, ib_0, ib_z, ite_not, i1_0, i0_0, jB_1, jB_0, jB_ib, bI_v, bL_v, bD_v, bV_v, ob_s, ob_i, i3_ofNat, jx_e, bI_e, bL_e, bD_e, bV_e, i3_eq0, i6_eq0, if_mx, if_mn, if_true, if_false, not_true_eq_false, not_false_eq_true, Int.reduceEq, Int.reduceLT, Int.reduceLE, ef]
    by_cases q : 30 ≤ t
    · have q' : ((30 : Int) ≤ t) = True := eq_true (by omega)
      simp (disch := first | assumption | omega) only [↓reduceIte, i3_add, i3_sub, i3_mul, i3_neg, i6_add, i6_sub, i6_mul, i6_neg, i3_lt, i3_le, i3_eq, i6_lt, i6_eq, i3_div, i6_div, i6_i3, i3_i6, c6_lt, c6_ge, c6_gt, c6_le, c6_eq, i3_ite, i6_ite, ib_0, ib_z, ite_not, i1_0, i0_0, jB_1, jB_0, jB_ib, bI_v, bL_v, bD_v, bV_v, ob_s, ob_i, i3_ofNat, jx_e, bI_e, bL_e, bD_e, bV_e, i3_eq0, i6_eq0, if_mx, if_mn, if_true, if_false, not_true_eq_false, not_false_eq_true, Int.reduceEq, Int.reduceLT, Int.reduceLE, e1, hk', bX8_readOrder_18, g8_5, x85, q', h38]
    · have q' : ((30 : Int) ≤ t) = False := eq_false (by omega)
      obtain ⟨k5, kd⟩ : kw b p = 5 ∧ 3 ≤ dep := by
        rcases k2 with k2 | k2
        · exact absurd k2 q
        · exact k2
      have k5' : (kw b p = 5) = True := eq_true k5
      have kd' : ((dep : Int) < 3) = False := eq_false (by omega)
      simp (disch := first | assumption | omega) only [↓reduceIte, i3_add, i3_sub, i3_mul, i3_neg, i6_add, i6_sub, i6_mul, i6_neg, i3_lt, i3_le, i3_eq, i6_lt, i6_eq, i3_div, i6_div, i6_i3, i3_i6, c6_lt, c6_ge, c6_gt, c6_le, c6_eq, i3_ite, i6_ite, ib_0, ib_z, ite_not, i1_0, i0_0, jB_1, jB_0, jB_ib, bI_v, bL_v, bD_v, bV_v, ob_s, ob_i, i3_ofNat, jx_e, bI_e, bL_e, bD_e, bV_e, i3_eq0, i6_eq0, if_mx, if_mn, if_true, if_false, not_true_eq_false, not_false_eq_true, Int.reduceEq, Int.reduceLT, Int.reduceLE, e1, hk', bX8_readOrder_18, g8_5, x85, q', bX8_readOrder_27, k5', bX8_readOrder_33, kd', h38]
/-- the orders read, or not -/
def oO (x : Option jm_Res) (X : Nat × (Nat → Int32)) (v w : Nat → Int → Int) (T c s : Nat) (b : Int → Int) (t : Nat) (r : oR) : Prop :=
  (∀ e, r = .inl e → ∃ w', x = some (.inl (some (.int (i3 (0)))), qM X (up (up v 5 5 e.1) 5 6 e.2) w' T c s)) ∧
  (∀ u, r = .inr u → ∃ w', x = some (.inl (some (.int (i3 (1)))), qM X v (RD w' b u.1) T c s) ∧ w' 8 5 = ((t + u.2.length : Nat) : Int) ∧ tbW w' t u.2 ∧ kpT w' w t)
theorem oO_l {x : Option jm_Res} {t : Nat} {r : oR} {z : Int} {q : Nat} (hr : r = .inl (z, q)) (h : ∃ w', x = some (.inl (some (.int (i3 (0)))), qM X (up (up v 5 5 z) 5 6 q) w' T c s)) : oO x X v w T c s b t r := by
  subst hr
  exact ⟨fun e he => (by cases he; exact h), fun u hu => (by cases hu)⟩
theorem oO_r {x : Option jm_Res} {t : Nat} {r : oR} {u : Nat × List oE} (hr : r = .inr u) (h : ∃ w', x = some (.inl (some (.int (i3 (1)))), qM X v (RD w' b u.1) T c s) ∧ w' 8 5 = ((t + u.2.length : Nat) : Int) ∧ tbW w' t u.2 ∧ kpT w' w t) : oO x X v w T c s b t r := by
  subst hr
  exact ⟨fun e he => (by cases he), fun u hu => (by cases hu; exact h)⟩
theorem tX8_orders : ∀ (f q dep j t p : Nat) (w : Nat → Int → Int), dep + q = 3 → TB v b n → p ≤ n → LO v 14 μ → T < 1000000000 → t ≤ 30 → j ≤ t → 31 ≤ f + t → w 8 5 = t →
    oO (jm_R (jm_env (d + 3 * q + 6)) jmM_X8_readOrders 3 [some (.ref 8), some (.ref 5), some (.ref 14), some (.int (i3 dep)), some (.int (i3 j))] [] (qM X v (RD w b p) T c s)) X v w T c s b t (pO b (nmF μ) f dep t p) := by
  intro f
  induction f with
  | zero => intro q dep j t p w hq h hp hlo hT ht hj hf h85; omega
  | succ f ih =>
    intro q dep j t p w hq h hp hlo hT ht hj hf h85
    have ho := h.ok
    have b1 := (nx_b ho hp).2
    have b2 := (nx_b ho b1).2
    have b3 := (nx_b ho b2).2
    have hkb := kd_b b p
    have hkw := kw_b b p
    have hj30 : ((30 : Int) < j) = False := eq_false (by omega)
    obtain ⟨hnm0, hnm1⟩ : 0 ≤ μ 412 0 ∧ μ 412 0 ≤ 5 := ⟨hlo.2.2.1.1, hlo.2.2.1.2.1⟩
    have hN : ∀ x, nmF μ x = -1 ∨ (0 ≤ nmF μ x ∧ nmF μ x < μ 412 0) := fun x => nmF_c hnm0 x
    have htop : ((dep = 0 ∧ kd b p = 0) ∨ (dep ≠ 0 ∧ isG b p 41)) → jm_R (jm_env (d + 3 * q + 6)) jmM_X8_readOrders 3 [some (.ref 8), some (.ref 5), some (.ref 14), some (.int (i3 dep)), some (.int (i3 j))] [] (qM X v (RD w b p) T c s) = some (.inl (some (.int (i3 (1)))), qM X v (RD w b p) T c s) := by
      intro g
      rw [bX8_readOrders_3]
      rcases g with ⟨g1, g2⟩ | ⟨g1, g2⟩
      · have g1' : ((dep : Int) = 0) = True := eq_true (by omega)
        simp (disch := first | assumption | omega) only [↓reduceIte, i3_add, i3_sub, i3_mul, i3_neg, i6_add, i6_sub, i6_mul, i6_neg, i3_lt, i3_le, i3_eq, i6_lt, i6_eq, i3_div, i6_div, i6_i3, i3_i6, c6_lt, c6_ge, c6_gt, c6_le, c6_eq, i3_ite, i6_ite, ib_0, ib_z, ite_not, i1_0, i0_0, jB_1, jB_0, jB_ib, bI_v, bL_v, bD_v, bV_v, ob_s, ob_i, i3_ofNat, jx_e, bI_e, bL_e, bD_e, bV_e, i3_eq0, i6_eq0, if_mx, if_mn, if_true, if_false, not_true_eq_false, not_false_eq_true, Int.reduceEq, Int.reduceLT, Int.reduceLE, hj30, bX8_readOrders_10, g1', bX8_readOrders_14, g7_1, RD_1, g2, bX8_readOrders_21, bX8_readOrders_33]
      · have g1' : ((dep : Int) = 0) = False := eq_false (by omega)
        have es := tX7_isSign (d := d + 3 * q + 5) (X := X) (v := v) (w := w) (T := T) (c := c) (s := s) (z := 41) ho hp (by omega) (by omega)
        rw [if_pos g2] at es
        simp (disch := first | assumption | omega) only [↓reduceIte, i3_add, i3_sub, i3_mul, i3_neg, i6_add, i6_sub, i6_mul, i6_neg, i3_lt, i3_le, i3_eq, i6_lt, i6_eq, i3_div, i6_div, i6_i3, i3_i6, c6_lt, c6_ge, c6_gt, c6_le, c6_eq, i3_ite, i6_ite, ib_0, ib_z, ite_not, i1_0, i0_0, jB_1, jB_0, jB_ib, bI_v, bL_v, bD_v, bV_v, ob_s, ob_i, i3_ofNat, jx_e, bI_e, bL_e, bD_e, bV_e, i3_eq0, i6_eq0, if_mx, if_mn, if_true, if_false, not_true_eq_false, not_false_eq_true, Int.reduceEq, Int.reduceLT, Int.reduceLE, hj30, bX8_readOrders_10, g1', bX8_readOrders_24, es, bX8_readOrders_33]
    have hgo : ¬ ((dep = 0 ∧ kd b p = 0) ∨ (dep ≠ 0 ∧ isG b p 41)) → jm_R (jm_env (d + 3 * q + 6)) jmM_X8_readOrders 3 [some (.ref 8), some (.ref 5), some (.ref 14), some (.int (i3 dep)), some (.int (i3 j))] [] (qM X v (RD w b p) T c s) = jm_R (jm_env (d + 3 * q + 6)) jmM_X8_readOrders 35 [some (.ref 8), some (.ref 5), some (.ref 14), some (.int (i3 dep)), some (.int (i3 j))] [] (qM X v (RD w b p) T c s) := by
      intro g
      rw [bX8_readOrders_3]
      by_cases g0 : dep = 0
      · have g1' : ((dep : Int) = 0) = True := eq_true (by omega)
        have g2' : (kd b p = 0) = False := eq_false (fun k => g (Or.inl ⟨g0, k⟩))
        simp (disch := first | assumption | omega) only [↓reduceIte, i3_add, i3_sub, i3_mul, i3_neg, i6_add, i6_sub, i6_mul, i6_neg, i3_lt, i3_le, i3_eq, i6_lt, i6_eq, i3_div, i6_div, i6_i3, i3_i6, c6_lt, c6_ge, c6_gt, c6_le, c6_eq, i3_ite, i6_ite, ib_0, ib_z, ite_not, i1_0, i0_0, jB_1, jB_0, jB_ib, bI_v, bL_v, bD_v, bV_v, ob_s, ob_i, i3_ofNat, jx_e, bI_e, bL_e, bD_e, bV_e, i3_eq0, i6_eq0, if_mx, if_mn, if_true, if_false, not_true_eq_false, not_false_eq_true, Int.reduceEq, Int.reduceLT, Int.reduceLE, hj30, bX8_readOrders_10, g1', bX8_readOrders_14, g7_1, RD_1, g2']
      · have g1' : ((dep : Int) = 0) = False := eq_false (by omega)
        have es := tX7_isSign (d := d + 3 * q + 5) (X := X) (v := v) (w := w) (T := T) (c := c) (s := s) (z := 41) ho hp (by omega) (by omega)
        rw [if_neg (fun k => g (Or.inr ⟨g0, k⟩))] at es
        simp (disch := first | assumption | omega) only [↓reduceIte, i3_add, i3_sub, i3_mul, i3_neg, i6_add, i6_sub, i6_mul, i6_neg, i3_lt, i3_le, i3_eq, i6_lt, i6_eq, i3_div, i6_div, i6_i3, i3_i6, c6_lt, c6_ge, c6_gt, c6_le, c6_eq, i3_ite, i6_ite, ib_0, ib_z, ite_not, i1_0, i0_0, jB_1, jB_0, jB_ib, bI_v, bL_v, bD_v, bV_v, ob_s, ob_i, i3_ofNat, jx_e, bI_e, bL_e, bD_e, bV_e, i3_eq0, i6_eq0, if_mx, if_mn, if_true, if_false, not_true_eq_false, not_false_eq_true, Int.reduceEq, Int.reduceLT, Int.reduceLE, hj30, bX8_readOrders_10, g1', bX8_readOrders_24, es]
    unfold pO
    by_cases q0 : (dep = 0 ∧ kd b p = 0) ∨ (dep ≠ 0 ∧ isG b p 41)
    · rw [if_pos q0]
      exact oO_r rfl ⟨w, htop q0, h85, trivial, kpT_id⟩
    · rw [if_neg q0, hgo q0, bX8_readOrders_35]
      have hfail : ∀ {z : Int} {k : Nat} {r : oR}, r = .inl (z, k) → (∃ w', jm_env (d + 3 * q + 6) 105 [.ref 8, .ref 5, .ref 14, .int (i3 dep)] (qM X v (RD w b p) T c s) = some (.inl (some (.int (i3 (0)))), qM X (up (up v 5 5 z) 5 6 k) w' T c s)) → oO ((jm_env (d + 3 * q + 6) 105 [.ref 8, .ref 5, .ref 14, .int (i3 dep)] (qM X v (RD w b p) T c s)).bind (jm_bI (fun v1 m2 => if v1 = i3 0 then jm_R (jm_env (d + 3 * q + 6)) jmM_X8_readOrders 54 [some (.ref 8), some (.ref 5), some (.ref 14), some (.int (i3 dep)), some (.int (i3 j))] [] m2 else jm_R (jm_env (d + 3 * q + 6)) jmM_X8_readOrders 45 [some (.ref 8), some (.ref 5), some (.ref 14), some (.int (i3 dep)), some (.int (i3 j))] [] m2) jm_x)) X v w T c s b t r := by
        rintro z k r hr ⟨w', e⟩
        refine oO_l hr ⟨w', ?_⟩
        simp (disch := first | assumption | omega) only [i3_add, i3_sub, i3_mul, i3_neg, i6_add, i6_sub, i6_mul, i6_neg, i3_lt, i3_le, i3_eq, i6_lt, i6_eq, i3_div, i6_div, i6_i3, i3_i6, c6_lt, c6_ge, c6_gt, c6_le, c6_eq, i3_ite, i6_ite, ib_0, ib_z, ite_not, i1_0, i0_0, jB_1, jB_0, jB_ib, bI_v, bL_v, bD_v, bV_v, ob_s, ob_i, i3_ofNat, jx_e, bI_e, bL_e, bD_e, bV_e, i3_eq0, i6_eq0, if_mx, if_mn, if_true, if_false, not_true_eq_false, not_false_eq_true, Int.reduceEq, Int.reduceLT, Int.reduceLE, e, bX8_readOrders_54]
      /- behind an order that was read: the sign, and the rest -/
      have hrest : ∀ {w1 : Nat → Int → Int} {p1 t1 : Nat} {L1 : List oE}, jm_env (d + 3 * q + 6) 105 [.ref 8, .ref 5, .ref 14, .int (i3 dep)] (qM X v (RD w b p) T c s) = some (.inl (some (.int (i3 (1)))), qM X v (RD w1 b p1) T c s) → p1 ≤ n → w1 8 5 = t1 → t1 = t + L1.length → 1 ≤ L1.length → t1 ≤ 30 → tbW w1 t L1 → kpT w1 w t → oO ((jm_env (d + 3 * q + 6) 105 [.ref 8, .ref 5, .ref 14, .int (i3 dep)] (qM X v (RD w b p) T c s)).bind (jm_bI (fun v1 m2 => if v1 = i3 0 then jm_R (jm_env (d + 3 * q + 6)) jmM_X8_readOrders 54 [some (.ref 8), some (.ref 5), some (.ref 14), some (.int (i3 dep)), some (.int (i3 j))] [] m2 else jm_R (jm_env (d + 3 * q + 6)) jmM_X8_readOrders 45 [some (.ref 8), some (.ref 5), some (.ref 14), some (.int (i3 dep)), some (.int (i3 j))] [] m2) jm_x)) X v w T c s b t (if isG b p1 59 then (match pO b (nmF μ) f dep t1 (nx b p1) with | .inl e => .inl e | .inr r => .inr (r.1, L1 ++ r.2)) else .inl (1, p1)) := by
        intro w1 p1 t1 L1 e hp1 h1 ht1 hL1 ht30 htb hkp
        have bb := (nx_b ho hp1).2
        by_cases g : isG b p1 59
        · rw [if_pos g]
          have es := tX7_takeSign_1 (d := d + 3 * q + 3) (X := X) (v := v) (w := w1) (T := T) (c := c) (s := s) h hp1 (by omega) (by omega) g
          obtain ⟨r1, r2⟩ := ih q dep (j + 1) t1 (nx b p1) w1 hq h bb hlo hT ht30 (by omega) (by omega) h1
          have hh : (jm_env (d + 3 * q + 6) 105 [.ref 8, .ref 5, .ref 14, .int (i3 dep)] (qM X v (RD w b p) T c s)).bind (jm_bI (fun v1 m2 => if v1 = i3 0 then jm_R (jm_env (d + 3 * q + 6)) jmM_X8_readOrders 54 [some (.ref 8), some (.ref 5), some (.ref 14), some (.int (i3 dep)), some (.int (i3 j))] [] m2 else jm_R (jm_env (d + 3 * q + 6)) jmM_X8_readOrders 45 [some (.ref 8), some (.ref 5), some (.ref 14), some (.int (i3 dep)), some (.int (i3 j))] [] m2) jm_x) = jm_R (jm_env (d + 3 * q + 6)) jmM_X8_readOrders 3 [some (.ref 8), some (.ref 5), some (.ref 14), some (.int (i3 dep)), some (.int (i3 (j + 1 : Nat)))] [] (qM X v (RD w1 b (nx b p1)) T c s) := by
            simp (disch := first | assumption | omega) only [↓reduceIte, i3_add, i3_sub, i3_mul, i3_neg, i6_add, i6_sub, i6_mul, i6_neg, i3_lt, i3_le, i3_eq, i6_lt, i6_eq, i3_div, i6_div, i6_i3, i3_i6, c6_lt, c6_ge, c6_gt, c6_le, c6_eq, i3_ite, i6_ite, ib_0, ib_z, ite_not, i1_0, i0_0, jB_1, jB_0, jB_ib, bI_v, bL_v, bD_v, bV_v, ob_s, ob_i, i3_ofNat, jx_e, bI_e, bL_e, bD_e, bV_e, i3_eq0, i6_eq0, if_mx, if_mn, if_true, if_false, not_true_eq_false, not_false_eq_true, Int.reduceEq, Int.reduceLT, Int.reduceLE, e, bX8_readOrders_45, es, bX8_readOrders_56]
            rfl
          rw [hh]
          rcases e2 : pO b (nmF μ) f dep t1 (nx b p1) with x | u
          · obtain ⟨w', y1⟩ := r1 x e2
            exact oO_l (z := x.1) (q := x.2) rfl ⟨w', y1⟩
          · obtain ⟨w', y1, y2, y3, y4⟩ := r2 u e2
            refine oO_r rfl ⟨w', y1, ?_, ?_, kpT_tr y4 hkp (by omega)⟩
            · rw [y2, ht1, List.length_append]
              congr 1
              omega
            · rw [tbW_app, ← ht1]
              exact ⟨tbW_fr htb (fun m k m1 m2 k1 k2 => y4.2 m k m1 m2 (by omega)), y3⟩
        · rw [if_neg g]
          have es := tX7_takeSign_0 (d := d + 3 * q + 3) (X := X) (v := v) (w := w1) (T := T) (c := c) (s := s) h hp1 (by omega) (by omega) g
          refine oO_l rfl ⟨RD w1 b p1, ?_⟩
          simp (disch := first | assumption | omega) only [↓reduceIte, i3_add, i3_sub, i3_mul, i3_neg, i6_add, i6_sub, i6_mul, i6_neg, i3_lt, i3_le, i3_eq, i6_lt, i6_eq, i3_div, i6_div, i6_i3, i3_i6, c6_lt, c6_ge, c6_gt, c6_le, c6_eq, i3_ite, i6_ite, ib_0, ib_z, ite_not, i1_0, i0_0, jB_1, jB_0, jB_ib, bI_v, bL_v, bD_v, bV_v, ob_s, ob_i, i3_ofNat, jx_e, bI_e, bL_e, bD_e, bV_e, i3_eq0, i6_eq0, if_mx, if_mn, if_true, if_false, not_true_eq_false, not_false_eq_true, Int.reduceEq, Int.reduceLT, Int.reduceLE, e, bX8_readOrders_45, es, bX8_readOrders_54]
      by_cases q1 : kw b p = -1
      · rw [if_pos q1]
        exact hfail rfl ⟨_, tX8_readOrder_0 (d := d + 3 * q + 1) h hp hT ht h85 (by omega) (Or.inl ⟨q1, rfl⟩)⟩
      · rw [if_neg q1]
        by_cases q2 : 30 ≤ t ∨ (kw b p = 5 ∧ 3 ≤ dep)
        · rw [if_pos q2]
          exact hfail rfl ⟨_, tX8_readOrder_0 (d := d + 3 * q + 1) h hp hT ht h85 (by omega) (Or.inr ⟨q1, q2, rfl⟩)⟩
        · rw [if_neg q2]
          have ht30 : t < 30 := by
            by_cases g : 30 ≤ t
            · exact absurd (Or.inl g) q2
            · omega
          have hh := tX8_readOrder_h (d := d + 3 * q + 1) (X := X) (w := w) (c := c) (s := s) h hp hT ht30 h85 (show dep ≤ 3 by omega) q1 (fun k => q2 (Or.inr k))
          obtain ⟨ad1, ad2, ad3⟩ := adW_t (w := w) (t := t) (k := kw b p)
          by_cases q3 : kw b p = 5
          · rw [if_pos q3]
            have hd3 : ¬ 3 ≤ dep := fun k => q2 (Or.inr ⟨q3, k⟩)
            obtain ⟨q', rfl⟩ : ∃ q', q = q' + 1 := ⟨q - 1, by omega⟩
            rw [q3] at ad1 ad2 ad3 hh
            have h110 := bX8_readOrder_110_d (jm_env (d + 3 * (q' + 1) + 1 + 4)) 8 5 14 dep 5 t 5 (qM X v (RD (adW w t 5) b (nx b p)) T c s) (by omega) (by omega) (by omega)
            rw [h110, bX8_readOrder_255, show d + 3 * (q' + 1) + 1 + 4 = d + 3 * q' + 8 by omega] at hh
            by_cases q4 : isN b (nx b p) 1 20
            · rw [if_pos q4]
              have e1 := tX8_readNumber_1 (d := d + 3 * q' + 4) (X := X) (w := adW w t 5) (T := T) (c := c) (s := s) (a := 10) (t := t) h b1 (Or.inl rfl) (by omega) (by omega) (by omega) (by omega) q4
              by_cases q5 : isG b (nx b (nx b p)) 40
              · rw [if_pos q5]
                have e2 := tX7_takeSign_1 (d := d + 3 * q' + 4) (X := X) (v := v) (w := up (adW w t 5) 10 t (nv b (nx b p))) (T := T) (c := c) (s := s) h b2 (by omega) (by omega) q5
                obtain ⟨r1, r2⟩ := ih q' (dep + 1) 0 (t + 1) (nx b (nx b (nx b p))) (up (adW w t 5) 10 t (nv b (nx b p))) (by omega) h b3 hlo hT (by omega) (by omega) (by omega) (by rw [up_ne (by omega)]; exact ad1)
                have e3 : jm_env (d + 3 * q' + 7) 104 [.ref 8, .ref 5, .ref 14, .int (i3 ((dep : Int) + 1))] (qM X v (RD (up (adW w t 5) 10 t (nv b (nx b p))) b (nx b (nx b (nx b p)))) T c s) = jm_R (jm_env (d + 3 * q' + 6)) jmM_X8_readOrders 3 [some (.ref 8), some (.ref 5), some (.ref 14), some (.int (i3 ((dep + 1 : Nat) : Int))), some (.int (i3 ((0 : Nat) : Int)))] [] (qM X v (RD (up (adW w t 5) 10 t (nv b (nx b p))) b (nx b (nx b (nx b p)))) T c s) := by
                  rw [eX8_readOrders, bX8_readOrders_0]
                  rfl
                rcases e4 : pO b (nmF μ) f (dep + 1) (t + 1) (nx b (nx b (nx b p))) with x | u
                · obtain ⟨w', y1⟩ := r1 x e4
                  refine hfail (z := x.1) (k := x.2) rfl ⟨w', hh.trans ?_⟩
                  rw [← e3] at y1
                  simp (disch := first | assumption | omega) only [↓reduceIte, eX8_readAgain, bX8_readAgain_0, i3_add, i3_sub, i3_mul, i3_neg, i6_add, i6_sub, i6_mul, i6_neg, i3_lt, i3_le, i3_eq, i6_lt, i6_eq, i3_div, i6_div, i6_i3, i3_i6, c6_lt, c6_ge, c6_gt, c6_le, c6_eq, i3_ite, i6_ite, ib_0, ib_z, ite_not, i1_0, i0_0, jB_1, jB_0, jB_ib, bI_v, bL_v, bD_v, bV_v, ob_s, ob_i, i3_ofNat, jx_e, bI_e, bL_e, bD_e, bV_e, i3_eq0, i6_eq0, if_mx, if_mn, if_true, if_false, not_true_eq_false, not_false_eq_true, Int.reduceEq, Int.reduceLT, Int.reduceLE, r8_1, e1, bX8_readAgain_15, e2, bX8_readAgain_24, y1, bX8_readAgain_46]
                · obtain ⟨w', y1, y2, y3, y4⟩ := r2 u e4
                  obtain ⟨s1, s2, s3, s4⟩ := pO_s ho hN _ _ _ _ _ b3 (by omega) e4
                  have bu := (nx_b ho s1).2
                  have s5 : isG b u.1 41 := by
                    rcases s4 with ⟨k, -⟩ | ⟨-, k⟩
                    · omega
                    · exact k
                  have e5 := tX7_takeSign_1 (d := d + 3 * q' + 4) (X := X) (v := v) (w := w') (T := T) (c := c) (s := s) h s1 (by omega) (by omega) s5
                  have x85 : RD w' b (nx b u.1) 8 5 = ((t + 1 + u.2.length : Nat) : Int) := by rw [RD_b (by omega)]; exact y2
                  have e6 := tX11_setAt8 (d := d + 3 * q' + 6) (X := X) (v := v) (w := RD w' b (nx b u.1)) (T := T) (c := c) (s := s) (a := 13) (z := ((t + 1 + u.2.length : Nat) : Int)) (t := t) (Or.inr (Or.inr (Or.inr rfl))) (by omega) (by omega)
                  rw [RD_o (by omega)] at e6
                  rw [← e3] at y1
                  have key : jm_env (d + 3 * (q' + 1) + 6) 105 [.ref 8, .ref 5, .ref 14, .int (i3 dep)] (qM X v (RD w b p) T c s) = some (.inl (some (.int (i3 (1)))), qM X v (RD (up w' 13 t ((t + 1 + u.2.length : Nat) : Int)) b (nx b u.1)) T c s) := by
                    refine hh.trans ?_
                    simp (disch := first | assumption | omega) only [↓reduceIte, eX8_readAgain, bX8_readAgain_0, i3_add, i3_sub, i3_mul, i3_neg, i6_add, i6_sub, i6_mul, i6_neg, i3_lt, i3_le, i3_eq, i6_lt, i6_eq, i3_div, i6_div, i6_i3, i3_i6, c6_lt, c6_ge, c6_gt, c6_le, c6_eq, i3_ite, i6_ite, ib_0, ib_z, ite_not, i1_0, i0_0, jB_1, jB_0, jB_ib, bI_v, bL_v, bD_v, bV_v, ob_s, ob_i, i3_ofNat, jx_e, bI_e, bL_e, bD_e, bV_e, i3_eq0, i6_eq0, if_mx, if_mn, if_true, if_false, not_true_eq_false, not_false_eq_true, Int.reduceEq, Int.reduceLT, Int.reduceLE, r8_1, e1, bX8_readAgain_15, e2, bX8_readAgain_24, y1, bX8_readAgain_37, e5, bX8_readAgain_48, r8_4, g8_5, x85, e6]
                  have hrow : ∀ m : Nat, 9 ≤ m → m ≤ 13 → w' m t = up (adW w t 5) 10 t (nv b (nx b p)) m t := fun m m1 m2 => y4.2 m t m1 m2 (by omega)
                  obtain ⟨a1, a2, a3, a4, a5⟩ := ad2
                  have hfin := hrest (L1 := (5, nv b (nx b p), 0, 0, u.2.length) :: u.2) (t1 := t + 1 + u.2.length) key bu (by rw [up_ne (by omega)]; exact y2) (by simp only [List.length_cons]; omega) (by simp) s2 ⟨⟨?_, ?_, ?_, ?_, ?_⟩, tbW_fr y3 (fun m k m1 m2 k1 k2 => up_ne (by omega))⟩ ⟨fun m m1 m2 => ?_, fun m k m1 m2 k1 => ?_⟩
                  · dsimp only
                    by_cases g : isG b (nx b u.1) 59
                    · rw [if_pos g] at hfin ⊢
                      rcases e7 : pO b (nmF μ) f dep (t + 1 + u.2.length) (nx b (nx b u.1)) with x | z
                      · rw [e7] at hfin; exact hfin
                      · rw [e7] at hfin; exact hfin
                    · rw [if_neg g] at hfin ⊢
                      exact hfin
                  · rw [up_ne (by omega), hrow 9 (by omega) (by omega), up_ne (by omega)]; exact a1
                  · rw [up_ne (by omega), hrow 10 (by omega) (by omega), up_eq]
                  · rw [up_ne (by omega), hrow 11 (by omega) (by omega), up_ne (by omega)]; exact a3
                  · rw [up_ne (by omega), hrow 12 (by omega) (by omega), up_ne (by omega)]; exact a4
                  · rw [up_eq]
                    show ((t + 1 + u.2.length : Nat) : Int) = (t : Int) + 1 + ((u.2.length : Nat) : Int)
                    omega
                  · rw [up_b (by omega), y4.1 m m1 m2, up_b (by omega), ad3.1 m m1 m2]
                  · rw [up_ne (by omega), y4.2 m k m1 m2 (by omega), up_ne (by omega), ad3.2 m k m1 m2 k1]
              · rw [if_neg q5]
                have e2 := tX7_takeSign_0 (d := d + 3 * q' + 4) (X := X) (v := v) (w := up (adW w t 5) 10 t (nv b (nx b p))) (T := T) (c := c) (s := s) h b2 (by omega) (by omega) q5
                refine hfail rfl ⟨RD (up (adW w t 5) 10 t (nv b (nx b p))) b (nx b (nx b p)), hh.trans ?_⟩
                simp (disch := first | assumption | omega) only [↓reduceIte, eX8_readAgain, bX8_readAgain_0, i3_add, i3_sub, i3_mul, i3_neg, i6_add, i6_sub, i6_mul, i6_neg, i3_lt, i3_le, i3_eq, i6_lt, i6_eq, i3_div, i6_div, i6_i3, i3_i6, c6_lt, c6_ge, c6_gt, c6_le, c6_eq, i3_ite, i6_ite, ib_0, ib_z, ite_not, i1_0, i0_0, jB_1, jB_0, jB_ib, bI_v, bL_v, bD_v, bV_v, ob_s, ob_i, i3_ofNat, jx_e, bI_e, bL_e, bD_e, bV_e, i3_eq0, i6_eq0, if_mx, if_mn, if_true, if_false, not_true_eq_false, not_false_eq_true, Int.reduceEq, Int.reduceLT, Int.reduceLE, r8_1, e1, bX8_readAgain_15, e2, bX8_readAgain_46]
            · rw [if_neg q4]
              have e1 := tX8_readNumber_0 (d := d + 3 * q' + 4) (X := X) (w := adW w t 5) (T := T) (c := c) (s := s) (a := 10) (t := t) h b1 (by omega) (by omega) (by omega) q4
              refine hfail rfl ⟨RD (adW w t 5) b (nx b p), hh.trans ?_⟩
              simp (disch := first | assumption | omega) only [↓reduceIte, eX8_readAgain, bX8_readAgain_0, i3_add, i3_sub, i3_mul, i3_neg, i6_add, i6_sub, i6_mul, i6_neg, i3_lt, i3_le, i3_eq, i6_lt, i6_eq, i3_div, i6_div, i6_i3, i3_i6, c6_lt, c6_ge, c6_gt, c6_le, c6_eq, i3_ite, i6_ite, ib_0, ib_z, ite_not, i1_0, i0_0, jB_1, jB_0, jB_ib, bI_v, bL_v, bD_v, bV_v, ob_s, ob_i, i3_ofNat, jx_e, bI_e, bL_e, bD_e, bV_e, i3_eq0, i6_eq0, if_mx, if_mn, if_true, if_false, not_true_eq_false, not_false_eq_true, Int.reduceEq, Int.reduceLT, Int.reduceLE, r8_1, e1, bX8_readAgain_46]
          · rw [if_neg q3]
            obtain ⟨r1, r2⟩ := tX8_args (d := d + 3 * q + 1) (X := X) (w := adW w t (kw b p)) (T := T) (c := c) (s := s) (dep := dep) h b1 hlo ht30 (show 0 ≤ kw b p by omega) (by omega) ad2
            rcases e1 : aO b (nmF μ) (kw b p) (nx b p) with x | u
            · obtain ⟨w', y1⟩ := r1 x e1
              exact hfail (z := x.1) (k := x.2) rfl ⟨w', hh.trans y1⟩
            · obtain ⟨w', y1, y2, y3, y4⟩ := r2 u e1
              obtain ⟨s1, s2, s3, s4⟩ := aO_s ho hN b1 (by omega) (by omega) e1
              have hfin := hrest (L1 := [u.2]) (t1 := t + 1) (hh.trans y1) s1 (by rw [y2, ad1]; rfl) rfl (Nat.le_refl _) (by omega) ⟨y3, trivial⟩ (kpT_tr y4 ad3 (Nat.le_refl _))
              dsimp only
              by_cases g : isG b u.1 59
              · rw [if_pos g] at hfin ⊢
                rcases e7 : pO b (nmF μ) f dep (t + 1) (nx b u.1) with x | z
                · rw [e7] at hfin; exact hfin
                · rw [e7] at hfin; exact hfin
              · rw [if_neg g] at hfin ⊢
                exact hfin
end PLC
