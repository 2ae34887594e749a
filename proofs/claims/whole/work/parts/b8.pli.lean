-- uses 24.zar 25.obj 26.ops 30.rd 31.re 34.gen 38.mod 39.mo2 40.mo3 41.bit 42.mo4 44.mo6 45.mo7 46.mo8 47.mo9 48.moa 49.mob 50.moc 51.moe 53.cla 62.clj 64.okm 65.cll 68.okg 70.clo 93.tka 96.srd 97.srp a2.rfa a3.rfb a4.rfc a5.rfd b0.pla b3.pld b4.ple b6.plg b7.plh
/-! The reference reads an order, and does it. -/
/-- what an order may change beside the land -/
def frC (w' w : Nat → Int → Int) : Prop := ∀ (m : Nat) (k : Int), m ≠ 419 → (m ≠ 411 ∨ k < 9 ∨ (12 < k ∧ k < 18) ∨ (23 < k ∧ k ≠ 26 ∧ k ≠ 28 ∧ k ≠ 31)) → w' m k = w m k
theorem frC_tr {w w' w'' : Nat → Int → Int} (h : frC w'' w') (g : frC w' w) : frC w'' w := fun m k a b => (h m k a b).trans (g m k a b)
theorem frT.c {w w' : Nat → Int → Int} (h : frT w' w) : frC w' w := fun m k _ hk => h m k (by omega)
def cmW (w' : Nat → Int → Int) (z D : Int) : Prop := w' 411 28 = (if z < -1 ∨ 40 ≤ D + 1 then 1 else 0) ∧ w' 411 31 = (if z < -1 then D else D + 1)
def frG (w' w : Nat → Int → Int) : Prop := ∀ (m : Nat) (k : Int), m ≠ 419 → (m ≠ 411 ∨ k < 9 ∨ (12 < k ∧ k ≠ 28 ∧ k ≠ 31)) → w' m k = w m k
theorem frG_tr {w w' w'' : Nat → Int → Int} (h : frG w'' w') (g : frG w' w) : frG w'' w := fun m k a b => (h m k a b).trans (g m k a b)
theorem frG.c {w w' : Nat → Int → Int} (h : frG w' w) : frC w' w := fun m k m1 hk => h m k m1 (by omega)
theorem frF.g {w w' : Nat → Int → Int} (h : frF w' w) : frG w' w := fun m k m1 hk => h m k m1 (by omega)
theorem frG_fw {w : Nat → Int → Int} {p : Int × Int} : frG (fw w p) w := fun m k _ hk => fw_ne (by omega)
theorem GD_G {w w' : Nat → Int → Int} {b : Int → Int} {n p : Nat} (h : GD w b n p) (hf : frG w' w) : GD w' b n p := by
  obtain ⟨⟨⟨t1, t2, t3⟩, s1, s2, s3, s4, s5, s6, s7⟩, h22⟩ := h
  have e : ∀ k : Int, 12 < k → k < 28 → w' 411 k = w 411 k := fun k k0 k1 => hf 411 k (by omega) (by omega)
  refine ⟨⟨⟨t1, (e 17 (by omega) (by omega)).trans t2, fun k k0 k1 => (hf 421 k (by omega) (by omega)).trans (t3 k k0 k1)⟩, s1, (e 18 (by omega) (by omega)).trans s2, (e 19 (by omega) (by omega)).trans s3, (e 20 (by omega) (by omega)).trans s4, ?_, fun q => (e 21 (by omega) (by omega)).trans (s6 q), fun q => (e 26 (by omega) (by omega)).trans (s7 q)⟩, (e 22 (by omega) (by omega)).trans h22⟩
  rw [e 21 (by omega) (by omega)]; exact s5
section PLI
variable {d : Nat} {X : Nat × (Nat → Int32)} {v w : Nat → Int → Int} {T c s : Nat}
variable {b : Int → Int} {n : Nat}
theorem sX12_came {z D : Int} {u : Nat → Int → Int} (hT : 18 ≤ T) (z0 : -7 ≤ z) (z1 : z < 2147483648) (h31 : w 411 31 = D) (D0 : 0 ≤ D) (D1 : D < 40) (hu : z < -1 → u = v) : ∃ w', jm_env (d + 1) 264 [.ref 411, .int (i3 z)] (qM X u w T c s) = some (.inl none, qM X (tsV v z u) w' T c s) ∧ cmW w' z D ∧ ∀ (m : Nat) (k : Int), (m ≠ 411 ∨ (k ≠ 28 ∧ k ≠ 31)) → w' m k = w m k := by
  unfold tsV cmW
  by_cases g : z < -1
  · have q : (-1 ≤ z) = False := eq_false (by omega)
    refine ⟨up w 411 28 1, ?_, ⟨?_, ?_⟩, fun m k hk => up_ne (by omega)⟩
    · rw [if_pos g, hu g]
      simp (disch := first | assumption | omega) only [↓reduceIte, eX12_came, bX12_came_0, bX12_came_5, bX12_came_24, bX12_came_44, bX12_came_48, bX12_came_49, r12_6, a12_6, w12_6, n12_6, p12_28, g12_31, p12_31, i3_add, i3_sub, i3_mul, i3_neg, i6_add, i6_sub, i6_mul, i6_neg, i3_lt, i3_le, i3_eq, i6_lt, i6_eq, i3_div, i6_div, i6_i3, i3_i6, c6_lt, c6_ge, c6_gt, c6_le, c6_eq, i3_ite, i6_ite, ib_0, ib_z, ite_not, i1_0, i0_0, jB_1, jB_0, jB_ib, bI_v, bL_v, bD_v, bV_v, ob_s, ob_i, i3_ofNat, jx_e, bI_e, bL_e, bD_e, bV_e, i3_eq0, i6_eq0, if_mx, if_mn, if_true, if_false, not_true_eq_false, not_false_eq_true, Int.reduceEq, Int.reduceLT, Int.reduceLE, q]
    · rw [if_pos (Or.inl g), up_eq]
    · rw [if_pos g, up_ne (by omega)]; exact h31
  · have q : (-1 ≤ z) = True := eq_true (by omega)
    rw [if_neg g]
    by_cases g2 : D + 1 = 40
    · have q2 : (D + 1 = 40) = True := eq_true g2
      refine ⟨up (up w 411 31 (D + 1)) 411 28 1, ?_, ⟨?_, ?_⟩, fun m k hk => by rw [up_ne (by omega), up_ne (by omega)]⟩
      · simp (disch := first | assumption | omega) only [↓reduceIte, eX12_came, bX12_came_0, bX12_came_5, bX12_came_24, bX12_came_44, bX12_came_48, bX12_came_49, r12_6, a12_6, w12_6, n12_6, p12_28, g12_31, p12_31, i3_add, i3_sub, i3_mul, i3_neg, i6_add, i6_sub, i6_mul, i6_neg, i3_lt, i3_le, i3_eq, i6_lt, i6_eq, i3_div, i6_div, i6_i3, i3_i6, c6_lt, c6_ge, c6_gt, c6_le, c6_eq, i3_ite, i6_ite, ib_0, ib_z, ite_not, i1_0, i0_0, jB_1, jB_0, jB_ib, bI_v, bL_v, bD_v, bV_v, ob_s, ob_i, i3_ofNat, jx_e, bI_e, bL_e, bD_e, bV_e, i3_eq0, i6_eq0, if_mx, if_mn, if_true, if_false, not_true_eq_false, not_false_eq_true, Int.reduceEq, Int.reduceLT, Int.reduceLE, q, h31, up_eq, q2]
      · rw [if_pos (Or.inr (by omega)), up_eq]
      · rw [if_neg g, up_ne (by omega), up_eq]
    · have q2 : (D + 1 = 40) = False := eq_false g2
      refine ⟨up (up w 411 31 (D + 1)) 411 28 0, ?_, ⟨?_, ?_⟩, fun m k hk => by rw [up_ne (by omega), up_ne (by omega)]⟩
      · simp (disch := first | assumption | omega) only [↓reduceIte, eX12_came, bX12_came_0, bX12_came_5, bX12_came_24, bX12_came_44, bX12_came_48, bX12_came_49, r12_6, a12_6, w12_6, n12_6, p12_28, g12_31, p12_31, i3_add, i3_sub, i3_mul, i3_neg, i6_add, i6_sub, i6_mul, i6_neg, i3_lt, i3_le, i3_eq, i6_lt, i6_eq, i3_div, i6_div, i6_i3, i3_i6, c6_lt, c6_ge, c6_gt, c6_le, c6_eq, i3_ite, i6_ite, ib_0, ib_z, ite_not, i1_0, i0_0, jB_1, jB_0, jB_ib, bI_v, bL_v, bD_v, bV_v, ob_s, ob_i, i3_ofNat, jx_e, bI_e, bL_e, bD_e, bV_e, i3_eq0, i6_eq0, if_mx, if_mn, if_true, if_false, not_true_eq_false, not_false_eq_true, Int.reduceEq, Int.reduceLT, Int.reduceLE, q, h31, up_eq, q2]
      · rw [if_neg (by omega), up_eq]
      · rw [if_neg g, up_ne (by omega), up_eq]
theorem sX12_isActive_0 (hT : 18 ≤ T) (h27 : w 411 27 = 0) : jm_env (d + 1) 263 [.ref 411] (qM X v w T c s) = some (.inl (some (.int (i3 (0)))), (qM X v w T c s)) := by
  simp (disch := first | assumption | omega) only [↓reduceIte, eX12_isActive, bX12_isActive_0, bX12_isActive_7, bX12_isActive_14, bX12_isActive_21, bX12_isActive_25, bX12_isActive_26, g12_27, g12_22, g12_28, i3_add, i3_sub, i3_mul, i3_neg, i6_add, i6_sub, i6_mul, i6_neg, i3_lt, i3_le, i3_eq, i6_lt, i6_eq, i3_div, i6_div, i6_i3, i3_i6, c6_lt, c6_ge, c6_gt, c6_le, c6_eq, i3_ite, i6_ite, ib_0, ib_z, ite_not, i1_0, i0_0, jB_1, jB_0, jB_ib, bI_v, bL_v, bD_v, bV_v, ob_s, ob_i, i3_ofNat, jx_e, bI_e, bL_e, bD_e, bV_e, i3_eq0, i6_eq0, if_mx, if_mn, if_true, if_false, not_true_eq_false, not_false_eq_true, Int.reduceEq, Int.reduceLT, Int.reduceLE, h27]
theorem sX12_isActive_1 (hT : 18 ≤ T) (h27 : w 411 27 = 1) (h22 : w 411 22 = 0) (h28 : w 411 28 = 0) : jm_env (d + 1) 263 [.ref 411] (qM X v w T c s) = some (.inl (some (.int (i3 (1)))), (qM X v w T c s)) := by
  have q : ((1 : Int) = 0) = False := by decide
  simp (disch := first | assumption | omega) only [↓reduceIte, eX12_isActive, bX12_isActive_0, bX12_isActive_7, bX12_isActive_14, bX12_isActive_21, bX12_isActive_25, bX12_isActive_26, g12_27, g12_22, g12_28, i3_add, i3_sub, i3_mul, i3_neg, i6_add, i6_sub, i6_mul, i6_neg, i3_lt, i3_le, i3_eq, i6_lt, i6_eq, i3_div, i6_div, i6_i3, i3_i6, c6_lt, c6_ge, c6_gt, c6_le, c6_eq, i3_ite, i6_ite, ib_0, ib_z, ite_not, i1_0, i0_0, jB_1, jB_0, jB_ib, bI_v, bL_v, bD_v, bV_v, ob_s, ob_i, i3_ofNat, jx_e, bI_e, bL_e, bD_e, bV_e, i3_eq0, i6_eq0, if_mx, if_mn, if_true, if_false, not_true_eq_false, not_false_eq_true, Int.reduceEq, Int.reduceLT, Int.reduceLE, h27, h22, h28, q]
theorem sX12_isActive_b {cd g : Int} {q : Nat} (hT : 18 ≤ T) (h27 : w 411 27 = g) (hg : g = 0 ∨ g = 1) (h : BD w b n cd q) : jm_env (d + 1) 263 [.ref 411] (qM X v w T c s) = some (.inl (some (.int (i3 (0)))), (qM X v w T c s)) := by
  obtain ⟨h22, c1, c4⟩ := BD_b h
  have q : (cd = 0) = False := eq_false (by omega)
  rcases hg with rfl | rfl
  · exact sX12_isActive_0 hT h27
  · have q2 : ((1 : Int) = 0) = False := by decide
    simp (disch := first | assumption | omega) only [↓reduceIte, eX12_isActive, bX12_isActive_0, bX12_isActive_7, bX12_isActive_14, bX12_isActive_21, bX12_isActive_25, bX12_isActive_26, g12_27, g12_22, g12_28, i3_add, i3_sub, i3_mul, i3_neg, i6_add, i6_sub, i6_mul, i6_neg, i3_lt, i3_le, i3_eq, i6_lt, i6_eq, i3_div, i6_div, i6_i3, i3_i6, c6_lt, c6_ge, c6_gt, c6_le, c6_eq, i3_ite, i6_ite, ib_0, ib_z, ite_not, i1_0, i0_0, jB_1, jB_0, jB_ib, bI_v, bL_v, bD_v, bV_v, ob_s, ob_i, i3_ofNat, jx_e, bI_e, bL_e, bD_e, bV_e, i3_eq0, i6_eq0, if_mx, if_mn, if_true, if_false, not_true_eq_false, not_false_eq_true, Int.reduceEq, Int.reduceLT, Int.reduceLE, h27, h22, q, q2]
/-- an order's text read, and the order done where g = 1 -/
def oD (x : Option jm_Res) (X : Nat × (Nat → Int32)) (v w : Nat → Int → Int) (T c s : Nat) (b : Int → Int) (n : Nat) (g D : Int) (r : aR) : Prop :=
  (∀ e, r = .inl e → ∃ w', x = some (.inl none, qM X v w' T c s) ∧ BD w' b n e.1 e.2 ∧ frT w' w) ∧
  (∀ u, r = .inr u → g = 0 → ∃ w', x = some (.inl none, qM X v w' T c s) ∧ GD w' b n u.1 ∧ frT w' w) ∧
  (∀ u, r = .inr u → g = 1 → ∃ w', x = some (.inl none, qM X (oV v u.2).2 w' T c s) ∧ GD w' b n u.1 ∧ frC w' w ∧ cmW w' (oV v u.2).1 D)
theorem oD_l {x : Option jm_Res} {g D z : Int} {q : Nat} (h : ∃ w', x = some (.inl none, qM X v w' T c s) ∧ BD w' b n z q ∧ frT w' w) : oD x X v w T c s b n g D (.inl (z, q)) :=
  ⟨fun e he => (by cases he; exact h), fun u hu => (by cases hu), fun u hu => (by cases hu)⟩
theorem oD_0 {x : Option jm_Res} {D : Int} {u : Nat × oE} (h : ∃ w', x = some (.inl none, qM X v w' T c s) ∧ GD w' b n u.1 ∧ frT w' w) : oD x X v w T c s b n 0 D (.inr u) :=
  ⟨fun e he => (by cases he), fun u hu _ => (by cases hu; exact h), fun u hu h1 => absurd h1 (by decide)⟩
theorem oD_1 {x : Option jm_Res} {D : Int} {u : Nat × oE} (h : ∃ w', x = some (.inl none, qM X (oV v u.2).2 w' T c s) ∧ GD w' b n u.1 ∧ frC w' w ∧ cmW w' (oV v u.2).1 D) : oD x X v w T c s b n 1 D (.inr u) :=
  ⟨fun e he => (by cases he), fun u hu h1 => absurd h1 (by decide), fun u hu _ => (by cases hu; exact h)⟩
theorem sX12_stackOrder_1 {p : Nat} {g D m : Int} (hT : 18 ≤ T) (h : GD w b n p) (ho : okM v m) (hnm : nmOk v) (hg : g = 0 ∨ g = 1) (h27 : w 411 27 = g) (h28 : w 411 28 = 0) (h31 : w 411 31 = D) (D0 : 0 ≤ D) (D1 : D < 40) :
    oD (jm_env (d + 8) 265 [.ref 411, .int (i3 1)] (qM X v w T c s)) X v w T c s b n g D (aO3 b (nmF v) 0 99 p) := by
  have hok := h.1.1.1
  have hpn := h.1.2.1
  have hc0 := ho.1.1
  have hc5 := ho.1.2.1
  have z0 : ((1 : Int) = 0) = False := by decide
  unfold aO3
  by_cases q1 : isM b p
  · rw [if_pos q1]
    obtain ⟨w1, e1, g1, f1⟩ := sX12_name_1 (d := d + 2) (X := X) (v := v) (T := T) (c := c) (s := s) hT h q1
    obtain ⟨wd0, wd1⟩ := wd_6 hok hpn q1
    have e2 := sX12_seriesNamed (d := d + 5) (X := X) (w := w1) (T := T) (c := c) (s := s) (x := wd b p) hT hc0 hc5 hnm wd0 (by omega)
    have hnb := nmF_c (u := v) hc0 (wd b p)
    have b1 := (nx_b hok hpn).2
    by_cases q2 : isN b (nx b p) 0 9
    · rw [if_pos q2]
      obtain ⟨w2, e3, g2, f2⟩ := sX12_reads_1 (d := d + 2) (X := X) (v := v) (T := T) (c := c) (s := s) hT g1 (by omega) (by omega) q2
      have hn1 := q2.2
      by_cases q3 : isN b (nx b (nx b p)) 1 99
      · rw [if_pos q3]
        obtain ⟨w3, e4, g3, f3⟩ := sX12_reads_1 (d := d + 2) (X := X) (v := v) (T := T) (c := c) (s := s) hT g2 (by omega) (by omega) q3
        have hn2 := q3.2
        have ff := frT_tr f3 (frT_tr f2 f1)
        have w27 := (ff 411 27 (by omega)).trans h27
        have w28 := (ff 411 28 (by omega)).trans h28
        have w31 := (ff 411 31 (by omega)).trans h31
        have head : ∀ z, jm_env (d + 7) 263 [.ref 411] (qM X v w3 T c s) = some (.inl (some (.int (i3 (z)))), qM X v w3 T c s) → (z = 0 ∨ z = 1) → jm_env (d + 8) 265 [.ref 411, .int (i3 1)] (qM X v w T c s) = jm_R (jm_env (d + 7)) jmM_X12_stackOrder (if z = 0 then 80 else 43) [some (.ref 411), some (.int (i3 1)), some (.int (i3 (nmF v (wd b p)))), some (.int (i3 (nv b (nx b p)))), some (.int (i3 (nv b (nx b (nx b p)))))] [] (qM X v w3 T c s) := by
          intro z hz hz1
          rw [eX12_stackOrder (h := hT), bX12_stackOrder_0]
          rcases hz1 with rfl | rfl
          · simp (disch := first | assumption | omega) only [↓reduceIte, i3_add, i3_sub, i3_mul, i3_neg, i6_add, i6_sub, i6_mul, i6_neg, i3_lt, i3_le, i3_eq, i6_lt, i6_eq, i3_div, i6_div, i6_i3, i3_i6, c6_lt, c6_ge, c6_gt, c6_le, c6_eq, i3_ite, i6_ite, ib_0, ib_z, ite_not, i1_0, i0_0, jB_1, jB_0, jB_ib, bI_v, bL_v, bD_v, bV_v, ob_s, ob_i, i3_ofNat, jx_e, bI_e, bL_e, bD_e, bV_e, i3_eq0, i6_eq0, if_mx, if_mn, if_true, if_false, not_true_eq_false, not_false_eq_true, Int.reduceEq, Int.reduceLT, Int.reduceLE, e1, e2, e3, z0, bX12_stackOrder_23, bX12_stackOrder_31, e4, hz]
          · have q9 : ((1 : Int) = 0) = False := by decide
            simp (disch := first | assumption | omega) only [↓reduceIte, i3_add, i3_sub, i3_mul, i3_neg, i6_add, i6_sub, i6_mul, i6_neg, i3_lt, i3_le, i3_eq, i6_lt, i6_eq, i3_div, i6_div, i6_i3, i3_i6, c6_lt, c6_ge, c6_gt, c6_le, c6_eq, i3_ite, i6_ite, ib_0, ib_z, ite_not, i1_0, i0_0, jB_1, jB_0, jB_ib, bI_v, bL_v, bD_v, bV_v, ob_s, ob_i, i3_ofNat, jx_e, bI_e, bL_e, bD_e, bV_e, i3_eq0, i6_eq0, if_mx, if_mn, if_true, if_false, not_true_eq_false, not_false_eq_true, Int.reduceEq, Int.reduceLT, Int.reduceLE, e1, e2, e3, z0, bX12_stackOrder_23, bX12_stackOrder_31, e4, hz, q9]
        rcases hg with rfl | rfl
        · refine oD_0 ⟨w3, ?_, g3, ff⟩
          rw [head 0 (sX12_isActive_0 (d := d + 6) hT w27) (Or.inl rfl), if_pos rfl, bX12_stackOrder_80]
        · apply oD_1
          rw [head 1 (sX12_isActive_1 (d := d + 6) hT w27 g3.2 w28) (Or.inr rfl), if_neg (by decide), bX12_stackOrder_43]
          unfold oV
          rw [if_pos (show ((0, nmF v (wd b p), nv b (nx b p), nv b (nx b (nx b p)), 0) : oE).1 = 0 from rfl)]
          by_cases q4 : nmF v (wd b p) = -1
          · rw [show ((0, nmF v (wd b p), nv b (nx b p), nv b (nx b (nx b p)), 0) : oE).2.1 = -1 from q4]
            rw [if_pos rfl, q4]
            obtain ⟨w4, e5, g4, f4⟩ := sX12_came (d := d + 6) (X := X) (v := v) (w := w3) (T := T) (c := c) (s := s) (z := -2) (u := v) hT (by omega) (by omega) w31 D0 D1 (fun _ => rfl)
            have e5' : tsV v (-2) v = up v 418 5 (v 418 5 + 1) := if_pos (by decide)
            rw [e5'] at e5
            have f4' : frG w4 w3 := fun m k _ hk => f4 m k (by omega)
            refine ⟨w4, ?_, GD_G g3 f4', frC_tr f4'.c ff.c, g4⟩
            simp (disch := first | assumption | omega) only [↓reduceIte, i3_add, i3_sub, i3_mul, i3_neg, i6_add, i6_sub, i6_mul, i6_neg, i3_lt, i3_le, i3_eq, i6_lt, i6_eq, i3_div, i6_div, i6_i3, i3_i6, c6_lt, c6_ge, c6_gt, c6_le, c6_eq, i3_ite, i6_ite, ib_0, ib_z, ite_not, i1_0, i0_0, jB_1, jB_0, jB_ib, bI_v, bL_v, bD_v, bV_v, ob_s, ob_i, i3_ofNat, jx_e, bI_e, bL_e, bD_e, bV_e, i3_eq0, i6_eq0, if_mx, if_mn, if_true, if_false, not_true_eq_false, not_false_eq_true, Int.reduceEq, Int.reduceLT, Int.reduceLE, bX12_stackOrder_49, bX12_stackOrder_77, e5, bX12_stackOrder_80]
          · rw [if_neg (show ¬ ((0, nmF v (wd b p), nv b (nx b p), nv b (nx b (nx b p)), 0) : oE).2.1 = -1 from q4)]
            show ∃ w', _ = some (_, qM X (tsV v (byR v (nmF v (wd b p)) (nv b (nx b p)) (nv b (nx b (nx b p)))) (byV v (nmF v (wd b p)) (nv b (nx b p)) (nv b (nx b (nx b p))))) w' T c s) ∧ GD w' b n (nx b (nx b (nx b p))) ∧ frC w' w ∧ cmW w' (byR v (nmF v (wd b p)) (nv b (nx b p)) (nv b (nx b (nx b p)))) D
            generalize nv b (nx b p) = a2 at *
            generalize nv b (nx b (nx b p)) = a3 at *
            generalize nmF v (wd b p) = a1 at *
            have h2 := ho.2.1
            have hx : 0 ≤ a3 * v 412 2 := Int.mul_nonneg (by omega) (by omega)
            have hbd := byR_b ho.1 (by omega : 0 ≤ a1) (by omega) hn1.1 (by omega : a2 < 10) hx
            obtain ⟨pp, e6⟩ := sX12_buys_p (d := d + 2) (X := X) (w := w3) (T := T) (c := c) (s := s) (i := a1) (n := a2) (r := a3) hT ho.1 (by omega) (by omega) (by omega) (by omega) (by omega) (by omega) h2.1 h2.2
            have w31' : (fw w3 pp) 411 31 = D := by rw [fw_ne (by omega)]; exact w31
            obtain ⟨w4, e5, g4, f4⟩ := sX12_came (d := d + 6) (X := X) (v := v) (w := fw w3 pp) (T := T) (c := c) (s := s) (z := byR v a1 a2 a3) (u := byV v a1 a2 a3) hT (by omega) (by omega) w31' D0 D1 (fun g => if_pos g)
            have f4' : frG w4 w3 := frG_tr (fun m k _ hk => f4 m k (by omega)) frG_fw
            have q4' : (a1 = -1) = False := eq_false q4
            refine ⟨w4, ?_, GD_G g3 f4', frC_tr f4'.c ff.c, g4⟩
            simp (disch := first | assumption | omega) only [↓reduceIte, i3_add, i3_sub, i3_mul, i3_neg, i6_add, i6_sub, i6_mul, i6_neg, i3_lt, i3_le, i3_eq, i6_lt, i6_eq, i3_div, i6_div, i6_i3, i3_i6, c6_lt, c6_ge, c6_gt, c6_le, c6_eq, i3_ite, i6_ite, ib_0, ib_z, ite_not, i1_0, i0_0, jB_1, jB_0, jB_ib, bI_v, bL_v, bD_v, bV_v, ob_s, ob_i, i3_ofNat, jx_e, bI_e, bL_e, bD_e, bV_e, i3_eq0, i6_eq0, if_mx, if_mn, if_true, if_false, not_true_eq_false, not_false_eq_true, Int.reduceEq, Int.reduceLT, Int.reduceLE, q4', bX12_stackOrder_54, z0, bX12_stackOrder_58, e6, bX12_stackOrder_77, e5, bX12_stackOrder_80]
      · rw [if_neg q3]
        obtain ⟨w3, e4, g3, f3⟩ := sX12_reads_0 (d := d + 2) (X := X) (v := v) (T := T) (c := c) (s := s) (x := 1) (y := 99) hT g2 (by omega) (by omega) (by omega) q3
        have ff := frT_tr f3 (frT_tr f2 f1)
        have e5 := sX12_isActive_b (d := d + 6) (X := X) (v := v) (T := T) (c := c) (s := s) hT ((ff 411 27 (by omega)).trans h27) hg g3
        refine oD_l ⟨w3, ?_, g3, ff⟩
        rw [eX12_stackOrder (h := hT), bX12_stackOrder_0]
        simp (disch := first | assumption | omega) only [↓reduceIte, i3_add, i3_sub, i3_mul, i3_neg, i6_add, i6_sub, i6_mul, i6_neg, i3_lt, i3_le, i3_eq, i6_lt, i6_eq, i3_div, i6_div, i6_i3, i3_i6, c6_lt, c6_ge, c6_gt, c6_le, c6_eq, i3_ite, i6_ite, ib_0, ib_z, ite_not, i1_0, i0_0, jB_1, jB_0, jB_ib, bI_v, bL_v, bD_v, bV_v, ob_s, ob_i, i3_ofNat, jx_e, bI_e, bL_e, bD_e, bV_e, i3_eq0, i6_eq0, if_mx, if_mn, if_true, if_false, not_true_eq_false, not_false_eq_true, Int.reduceEq, Int.reduceLT, Int.reduceLE, e1, e2, e3, z0, bX12_stackOrder_23, bX12_stackOrder_31, e4, e5, bX12_stackOrder_80]
    · rw [if_neg q2]
      obtain ⟨w2, e3, g2, f2⟩ := sX12_reads_0 (d := d + 2) (X := X) (v := v) (T := T) (c := c) (s := s) (x := 0) (y := 9) hT g1 (by omega) (by omega) (by omega) q2
      have e4 := sX12_reads_bad (d := d + 2) (X := X) (v := v) (T := T) (c := c) (s := s) (x := 1) (y := 99) hT g2 (by omega) (by omega) (by omega)
      have ff := frT_tr f2 f1
      have e5 := sX12_isActive_b (d := d + 6) (X := X) (v := v) (T := T) (c := c) (s := s) hT ((ff 411 27 (by omega)).trans h27) hg g2
      refine oD_l ⟨w2, ?_, g2, ff⟩
      rw [eX12_stackOrder (h := hT), bX12_stackOrder_0]
      simp (disch := first | assumption | omega) only [↓reduceIte, i3_add, i3_sub, i3_mul, i3_neg, i6_add, i6_sub, i6_mul, i6_neg, i3_lt, i3_le, i3_eq, i6_lt, i6_eq, i3_div, i6_div, i6_i3, i3_i6, c6_lt, c6_ge, c6_gt, c6_le, c6_eq, i3_ite, i6_ite, ib_0, ib_z, ite_not, i1_0, i0_0, jB_1, jB_0, jB_ib, bI_v, bL_v, bD_v, bV_v, ob_s, ob_i, i3_ofNat, jx_e, bI_e, bL_e, bD_e, bV_e, i3_eq0, i6_eq0, if_mx, if_mn, if_true, if_false, not_true_eq_false, not_false_eq_true, Int.reduceEq, Int.reduceLT, Int.reduceLE, e1, e2, e3, z0, bX12_stackOrder_23, bX12_stackOrder_31, e4, e5, bX12_stackOrder_80]
  · rw [if_neg q1]
    obtain ⟨w1, e1, g1, f1⟩ := sX12_name_0 (d := d + 2) (X := X) (v := v) (T := T) (c := c) (s := s) hT h q1
    have e2 := sX12_seriesNamed (d := d + 5) (X := X) (w := w1) (T := T) (c := c) (s := s) (x := 0) hT hc0 hc5 hnm (by omega) (by omega)
    have hnb := nmF_c (u := v) hc0 0
    have e3 := sX12_reads_bad (d := d + 2) (X := X) (v := v) (T := T) (c := c) (s := s) (x := 0) (y := 9) hT g1 (by omega) (by omega) (by omega)
    have e4 := sX12_reads_bad (d := d + 2) (X := X) (v := v) (T := T) (c := c) (s := s) (x := 1) (y := 99) hT g1 (by omega) (by omega) (by omega)
    have e5 := sX12_isActive_b (d := d + 6) (X := X) (v := v) (T := T) (c := c) (s := s) hT ((f1 411 27 (by omega)).trans h27) hg g1
    refine oD_l ⟨w1, ?_, g1, f1⟩
    rw [eX12_stackOrder (h := hT), bX12_stackOrder_0]
    simp (disch := first | assumption | omega) only [↓reduceIte, i3_add, i3_sub, i3_mul, i3_neg, i6_add, i6_sub, i6_mul, i6_neg, i3_lt, i3_le, i3_eq, i6_lt, i6_eq, i3_div, i6_div, i6_i3, i3_i6, c6_lt, c6_ge, c6_gt, c6_le, c6_eq, i3_ite, i6_ite, ib_0, ib_z, ite_not, i1_0, i0_0, jB_1, jB_0, jB_ib, bI_v, bL_v, bD_v, bV_v, ob_s, ob_i, i3_ofNat, jx_e, bI_e, bL_e, bD_e, bV_e, i3_eq0, i6_eq0, if_mx, if_mn, if_true, if_false, not_true_eq_false, not_false_eq_true, Int.reduceEq, Int.reduceLT, Int.reduceLE, e1, e2, e3, z0, bX12_stackOrder_23, bX12_stackOrder_31, e4, e5, bX12_stackOrder_80]
theorem sX12_stackOrder_0 {p : Nat} {g D m : Int} (hT : 18 ≤ T) (h : GD w b n p) (ho : okM v m) (hnm : nmOk v) (hg : g = 0 ∨ g = 1) (h27 : w 411 27 = g) (h28 : w 411 28 = 0) (h31 : w 411 31 = D) (D0 : 0 ≤ D) (D1 : D < 40) :
    oD (jm_env (d + 8) 265 [.ref 411, .int (i3 0)] (qM X v w T c s)) X v w T c s b n g D (aO3 b (nmF v) 1 9999 p) := by
  have hok := h.1.1.1
  have hpn := h.1.2.1
  have hc0 := ho.1.1
  have hc5 := ho.1.2.1
  have z0 : ((0 : Int) = 0) = True := by decide
  unfold aO3
  by_cases q1 : isM b p
  · rw [if_pos q1]
    obtain ⟨w1, e1, g1, f1⟩ := sX12_name_1 (d := d + 2) (X := X) (v := v) (T := T) (c := c) (s := s) hT h q1
    obtain ⟨wd0, wd1⟩ := wd_6 hok hpn q1
    have e2 := sX12_seriesNamed (d := d + 5) (X := X) (w := w1) (T := T) (c := c) (s := s) (x := wd b p) hT hc0 hc5 hnm wd0 (by omega)
    have hnb := nmF_c (u := v) hc0 (wd b p)
    have b1 := (nx_b hok hpn).2
    by_cases q2 : isN b (nx b p) 0 9
    · rw [if_pos q2]
      obtain ⟨w2, e3, g2, f2⟩ := sX12_reads_1 (d := d + 2) (X := X) (v := v) (T := T) (c := c) (s := s) hT g1 (by omega) (by omega) q2
      have hn1 := q2.2
      by_cases q3 : isN b (nx b (nx b p)) 1 9999
      · rw [if_pos q3]
        obtain ⟨w3, e4, g3, f3⟩ := sX12_reads_1 (d := d + 2) (X := X) (v := v) (T := T) (c := c) (s := s) hT g2 (by omega) (by omega) q3
        have hn2 := q3.2
        have ff := frT_tr f3 (frT_tr f2 f1)
        have w27 := (ff 411 27 (by omega)).trans h27
        have w28 := (ff 411 28 (by omega)).trans h28
        have w31 := (ff 411 31 (by omega)).trans h31
        have head : ∀ z, jm_env (d + 7) 263 [.ref 411] (qM X v w3 T c s) = some (.inl (some (.int (i3 (z)))), qM X v w3 T c s) → (z = 0 ∨ z = 1) → jm_env (d + 8) 265 [.ref 411, .int (i3 0)] (qM X v w T c s) = jm_R (jm_env (d + 7)) jmM_X12_stackOrder (if z = 0 then 80 else 43) [some (.ref 411), some (.int (i3 0)), some (.int (i3 (nmF v (wd b p)))), some (.int (i3 (nv b (nx b p)))), some (.int (i3 (nv b (nx b (nx b p)))))] [] (qM X v w3 T c s) := by
          intro z hz hz1
          rw [eX12_stackOrder (h := hT), bX12_stackOrder_0]
          rcases hz1 with rfl | rfl
          · simp (disch := first | assumption | omega) only [↓reduceIte, i3_add, i3_sub, i3_mul, i3_neg, i6_add, i6_sub, i6_mul, i6_neg, i3_lt, i3_le, i3_eq, i6_lt, i6_eq, i3_div, i6_div, i6_i3, i3_i6, c6_lt, c6_ge, c6_gt, c6_le, c6_eq, i3_ite, i6_ite, ib_0, ib_z, ite_not, i1_0, i0_0, jB_1, jB_0, jB_ib, bI_v, bL_v, bD_v, bV_v, ob_s, ob_i, i3_ofNat, jx_e, bI_e, bL_e, bD_e, bV_e, i3_eq0, i6_eq0, if_mx, if_mn, if_true, if_false, not_true_eq_false, not_false_eq_true, Int.reduceEq, Int.reduceLT, Int.reduceLE, e1, e2, e3, z0, bX12_stackOrder_28, bX12_stackOrder_31, e4, hz]
          · have q9 : ((1 : Int) = 0) = False := by decide
            simp (disch := first | assumption | omega) only [↓reduceIte, i3_add, i3_sub, i3_mul, i3_neg, i6_add, i6_sub, i6_mul, i6_neg, i3_lt, i3_le, i3_eq, i6_lt, i6_eq, i3_div, i6_div, i6_i3, i3_i6, c6_lt, c6_ge, c6_gt, c6_le, c6_eq, i3_ite, i6_ite, ib_0, ib_z, ite_not, i1_0, i0_0, jB_1, jB_0, jB_ib, bI_v, bL_v, bD_v, bV_v, ob_s, ob_i, i3_ofNat, jx_e, bI_e, bL_e, bD_e, bV_e, i3_eq0, i6_eq0, if_mx, if_mn, if_true, if_false, not_true_eq_false, not_false_eq_true, Int.reduceEq, Int.reduceLT, Int.reduceLE, e1, e2, e3, z0, bX12_stackOrder_28, bX12_stackOrder_31, e4, hz, q9]
        rcases hg with rfl | rfl
        · refine oD_0 ⟨w3, ?_, g3, ff⟩
          rw [head 0 (sX12_isActive_0 (d := d + 6) hT w27) (Or.inl rfl), if_pos rfl, bX12_stackOrder_80]
        · apply oD_1
          rw [head 1 (sX12_isActive_1 (d := d + 6) hT w27 g3.2 w28) (Or.inr rfl), if_neg (by decide), bX12_stackOrder_43]
          unfold oV
          rw [if_neg (show ¬ ((1, nmF v (wd b p), nv b (nx b p), nv b (nx b (nx b p)), 0) : oE).1 = 0 from (by decide : ¬ (1 : Int) = 0)), if_pos (show ((1, nmF v (wd b p), nv b (nx b p), nv b (nx b (nx b p)), 0) : oE).1 = 1 from rfl)]
          by_cases q4 : nmF v (wd b p) = -1
          · rw [show ((1, nmF v (wd b p), nv b (nx b p), nv b (nx b (nx b p)), 0) : oE).2.1 = -1 from q4]
            rw [if_pos rfl, q4]
            obtain ⟨w4, e5, g4, f4⟩ := sX12_came (d := d + 6) (X := X) (v := v) (w := w3) (T := T) (c := c) (s := s) (z := -2) (u := v) hT (by omega) (by omega) w31 D0 D1 (fun _ => rfl)
            have e5' : tsV v (-2) v = up v 418 5 (v 418 5 + 1) := if_pos (by decide)
            rw [e5'] at e5
            have f4' : frG w4 w3 := fun m k _ hk => f4 m k (by omega)
            refine ⟨w4, ?_, GD_G g3 f4', frC_tr f4'.c ff.c, g4⟩
            simp (disch := first | assumption | omega) only [↓reduceIte, i3_add, i3_sub, i3_mul, i3_neg, i6_add, i6_sub, i6_mul, i6_neg, i3_lt, i3_le, i3_eq, i6_lt, i6_eq, i3_div, i6_div, i6_i3, i3_i6, c6_lt, c6_ge, c6_gt, c6_le, c6_eq, i3_ite, i6_ite, ib_0, ib_z, ite_not, i1_0, i0_0, jB_1, jB_0, jB_ib, bI_v, bL_v, bD_v, bV_v, ob_s, ob_i, i3_ofNat, jx_e, bI_e, bL_e, bD_e, bV_e, i3_eq0, i6_eq0, if_mx, if_mn, if_true, if_false, not_true_eq_false, not_false_eq_true, Int.reduceEq, Int.reduceLT, Int.reduceLE, bX12_stackOrder_49, bX12_stackOrder_77, e5, bX12_stackOrder_80]
          · rw [if_neg (show ¬ ((1, nmF v (wd b p), nv b (nx b p), nv b (nx b (nx b p)), 0) : oE).2.1 = -1 from q4)]
            show ∃ w', _ = some (_, qM X (tsV v (ctR v (nmF v (wd b p)) (nv b (nx b p)) (nv b (nx b (nx b p)))) (ctV v (nmF v (wd b p)) (nv b (nx b p)) (nv b (nx b (nx b p))))) w' T c s) ∧ GD w' b n (nx b (nx b (nx b p))) ∧ frC w' w ∧ cmW w' (ctR v (nmF v (wd b p)) (nv b (nx b p)) (nv b (nx b (nx b p)))) D
            generalize nv b (nx b p) = a2 at *
            generalize nv b (nx b (nx b p)) = a3 at *
            generalize nmF v (wd b p) = a1 at *
            have h2 := ho.2.1
            have hx : 0 ≤ a3 * v 412 2 := Int.mul_nonneg (by omega) (by omega)
            have hbd := ctR_b (q := a3) ho.1 (by omega : 0 ≤ a1) (by omega) hn1.1 (by omega : a2 < 10) (by omega)
            obtain ⟨pp, e6⟩ := sX12_cuts_p (d := d + 1) (X := X) (w := w3) (T := T) (c := c) (s := s) (i := a1) (n := a2) (q := a3) hT ho.1 (by omega) (by omega) (by omega) (by omega) (by omega) (by omega)
            have w31' : (fw w3 pp) 411 31 = D := by rw [fw_ne (by omega)]; exact w31
            obtain ⟨w4, e5, g4, f4⟩ := sX12_came (d := d + 6) (X := X) (v := v) (w := fw w3 pp) (T := T) (c := c) (s := s) (z := ctR v a1 a2 a3) (u := ctV v a1 a2 a3) hT (by omega) (by omega) w31' D0 D1 (fun g => if_pos g)
            have f4' : frG w4 w3 := frG_tr (fun m k _ hk => f4 m k (by omega)) frG_fw
            have q4' : (a1 = -1) = False := eq_false q4
            refine ⟨w4, ?_, GD_G g3 f4', frC_tr f4'.c ff.c, g4⟩
            simp (disch := first | assumption | omega) only [↓reduceIte, i3_add, i3_sub, i3_mul, i3_neg, i6_add, i6_sub, i6_mul, i6_neg, i3_lt, i3_le, i3_eq, i6_lt, i6_eq, i3_div, i6_div, i6_i3, i3_i6, c6_lt, c6_ge, c6_gt, c6_le, c6_eq, i3_ite, i6_ite, ib_0, ib_z, ite_not, i1_0, i0_0, jB_1, jB_0, jB_ib, bI_v, bL_v, bD_v, bV_v, ob_s, ob_i, i3_ofNat, jx_e, bI_e, bL_e, bD_e, bV_e, i3_eq0, i6_eq0, if_mx, if_mn, if_true, if_false, not_true_eq_false, not_false_eq_true, Int.reduceEq, Int.reduceLT, Int.reduceLE, q4', bX12_stackOrder_54, z0, bX12_stackOrder_69, e6, bX12_stackOrder_77, e5, bX12_stackOrder_80]
      · rw [if_neg q3]
        obtain ⟨w3, e4, g3, f3⟩ := sX12_reads_0 (d := d + 2) (X := X) (v := v) (T := T) (c := c) (s := s) (x := 1) (y := 9999) hT g2 (by omega) (by omega) (by omega) q3
        have ff := frT_tr f3 (frT_tr f2 f1)
        have e5 := sX12_isActive_b (d := d + 6) (X := X) (v := v) (T := T) (c := c) (s := s) hT ((ff 411 27 (by omega)).trans h27) hg g3
        refine oD_l ⟨w3, ?_, g3, ff⟩
        rw [eX12_stackOrder (h := hT), bX12_stackOrder_0]
        simp (disch := first | assumption | omega) only [↓reduceIte, i3_add, i3_sub, i3_mul, i3_neg, i6_add, i6_sub, i6_mul, i6_neg, i3_lt, i3_le, i3_eq, i6_lt, i6_eq, i3_div, i6_div, i6_i3, i3_i6, c6_lt, c6_ge, c6_gt, c6_le, c6_eq, i3_ite, i6_ite, ib_0, ib_z, ite_not, i1_0, i0_0, jB_1, jB_0, jB_ib, bI_v, bL_v, bD_v, bV_v, ob_s, ob_i, i3_ofNat, jx_e, bI_e, bL_e, bD_e, bV_e, i3_eq0, i6_eq0, if_mx, if_mn, if_true, if_false, not_true_eq_false, not_false_eq_true, Int.reduceEq, Int.reduceLT, Int.reduceLE, e1, e2, e3, z0, bX12_stackOrder_28, bX12_stackOrder_31, e4, e5, bX12_stackOrder_80]
    · rw [if_neg q2]
      obtain ⟨w2, e3, g2, f2⟩ := sX12_reads_0 (d := d + 2) (X := X) (v := v) (T := T) (c := c) (s := s) (x := 0) (y := 9) hT g1 (by omega) (by omega) (by omega) q2
      have e4 := sX12_reads_bad (d := d + 2) (X := X) (v := v) (T := T) (c := c) (s := s) (x := 1) (y := 9999) hT g2 (by omega) (by omega) (by omega)
      have ff := frT_tr f2 f1
      have e5 := sX12_isActive_b (d := d + 6) (X := X) (v := v) (T := T) (c := c) (s := s) hT ((ff 411 27 (by omega)).trans h27) hg g2
      refine oD_l ⟨w2, ?_, g2, ff⟩
      rw [eX12_stackOrder (h := hT), bX12_stackOrder_0]
      simp (disch := first | assumption | omega) only [↓reduceIte, i3_add, i3_sub, i3_mul, i3_neg, i6_add, i6_sub, i6_mul, i6_neg, i3_lt, i3_le, i3_eq, i6_lt, i6_eq, i3_div, i6_div, i6_i3, i3_i6, c6_lt, c6_ge, c6_gt, c6_le, c6_eq, i3_ite, i6_ite, ib_0, ib_z, ite_not, i1_0, i0_0, jB_1, jB_0, jB_ib, bI_v, bL_v, bD_v, bV_v, ob_s, ob_i, i3_ofNat, jx_e, bI_e, bL_e, bD_e, bV_e, i3_eq0, i6_eq0, if_mx, if_mn, if_true, if_false, not_true_eq_false, not_false_eq_true, Int.reduceEq, Int.reduceLT, Int.reduceLE, e1, e2, e3, z0, bX12_stackOrder_28, bX12_stackOrder_31, e4, e5, bX12_stackOrder_80]
  · rw [if_neg q1]
    obtain ⟨w1, e1, g1, f1⟩ := sX12_name_0 (d := d + 2) (X := X) (v := v) (T := T) (c := c) (s := s) hT h q1
    have e2 := sX12_seriesNamed (d := d + 5) (X := X) (w := w1) (T := T) (c := c) (s := s) (x := 0) hT hc0 hc5 hnm (by omega) (by omega)
    have hnb := nmF_c (u := v) hc0 0
    have e3 := sX12_reads_bad (d := d + 2) (X := X) (v := v) (T := T) (c := c) (s := s) (x := 0) (y := 9) hT g1 (by omega) (by omega) (by omega)
    have e4 := sX12_reads_bad (d := d + 2) (X := X) (v := v) (T := T) (c := c) (s := s) (x := 1) (y := 9999) hT g1 (by omega) (by omega) (by omega)
    have e5 := sX12_isActive_b (d := d + 6) (X := X) (v := v) (T := T) (c := c) (s := s) hT ((f1 411 27 (by omega)).trans h27) hg g1
    refine oD_l ⟨w1, ?_, g1, f1⟩
    rw [eX12_stackOrder (h := hT), bX12_stackOrder_0]
    simp (disch := first | assumption | omega) only [↓reduceIte, i3_add, i3_sub, i3_mul, i3_neg, i6_add, i6_sub, i6_mul, i6_neg, i3_lt, i3_le, i3_eq, i6_lt, i6_eq, i3_div, i6_div, i6_i3, i3_i6, c6_lt, c6_ge, c6_gt, c6_le, c6_eq, i3_ite, i6_ite, ib_0, ib_z, ite_not, i1_0, i0_0, jB_1, jB_0, jB_ib, bI_v, bL_v, bD_v, bV_v, ob_s, ob_i, i3_ofNat, jx_e, bI_e, bL_e, bD_e, bV_e, i3_eq0, i6_eq0, if_mx, if_mn, if_true, if_false, not_true_eq_false, not_false_eq_true, Int.reduceEq, Int.reduceLT, Int.reduceLE, e1, e2, e3, z0, bX12_stackOrder_28, bX12_stackOrder_31, e4, e5, bX12_stackOrder_80]
end PLI
