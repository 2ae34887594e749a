-- uses 24.zar 25.obj 26.ops 31.re 34.gen 36.ser 37.lnd 38.mod 39.mo2 40.mo3 44.mo6 45.mo7 46.mo8 47.mo9 49.mob 51.moe 53.cla 58.clf 61.cli 62.clj 63.clk 64.okm 65.cll 66.clm 72.clq 73.clr 74.cls 80.wrf 88.ovr 89.rsa 92.rsd 93.tka 94.tkb 96.srd 97.srp a2.rfa a3.rfb a4.rfc a5.rfd a6.rfe a8.ldp b0.pla b2.plc b3.pld b4.ple b5.plf b7.plh b8.pli b9.plj ba.plk bb.pll bc.plm bd.pln
/-! Both sides play. -/
theorem oV_k {μ : Nat → Int → Int} {e : oE} {k : Nat} (h : k ≠ 412) (h2 : k ≠ 418) : (oV μ e).2 k = μ k := by
  have ts : ∀ (r : Int) (u : Nat → Int → Int), u k = μ k → tsV μ r u k = μ k := fun r u hu => by
    unfold tsV
    split
    · exact up_b h2
    · exact hu
  unfold oV
  split
  · split
    · exact up_b h2
    · exact ts _ _ (byV_b h)
  · split
    · split
      · exact up_b h2
      · exact ts _ _ (ctV_b h)
    · split
      · exact ts _ _ (flV_b h)
      · split
        · exact up_b h
        · exact up_b h
theorem itL_inv {P : (Nat → Int → Int) → Prop} {g : oSt → oSt × Bool} (hg : ∀ st, P st.1 → P (g st).1.1) : ∀ (n : Nat) (st : oSt), P st.1 → P (itL g n st).1.1 := by
  intro n
  induction n with
  | zero => intro st h; exact h
  | succ n ih =>
    intro st h
    unfold itL
    split
    · exact ih _ (hg st h)
    · exact hg st h
theorem rnL_inv {P : (Nat → Int → Int) → Prop} (hP : ∀ u e, P u → P (oV u e).2) : ∀ (F dep : Nat) (L : List oE) (st : oSt), P st.1 → P (rnL F dep L st).1.1 := by
  intro F
  induction F with
  | zero => intro dep L st h; exact h
  | succ F ih =>
    intro dep L st h
    cases L with
    | nil => exact h
    | cons e l =>
      unfold rnL
      have hit := itL_inv (P := P) (g := rnL F (dep + 1) (l.take e.2.2.2.2)) (fun st h => ih _ _ st h) e.2.1.toNat st h
      split
      · split
        · exact ih _ _ _ h
        · split
          · exact ih _ _ _ hit
          · exact hit
      · split
        · exact hP _ _ h
        · split
          · exact hP _ _ h
          · exact ih _ _ _ (hP _ _ h)
theorem rnL_k {F dep : Nat} {L : List oE} {st : oSt} {k : Nat} (h : k ≠ 412) (h2 : k ≠ 418) : (rnL F dep L st).1.1 k = st.1 k :=
  rnL_inv (P := fun u => u k = st.1 k) (fun u e hu => (oV_k h h2).trans hu) F dep L st rfl
section PLO0
variable {a v : Nat → Int → Int}
theorem o_tsV {r : Int} {u : Nat → Int → Int} : tsV (ovr a v) r (ovr a u) = ovr a (tsV v r u) := by
  unfold tsV
  split
  · rw [ovr_ge (by omega), ovr_up (by omega)]
  · rfl
theorem o_oV {e : oE} : oV (ovr a v) e = ((oV v e).1, ovr a (oV v e).2) := by
  unfold oV
  rw [o_byR, o_ctR, o_flR, o_byV, o_ctV, o_flV, o_tsV, o_tsV, o_tsV, o_412, ovr_ge (show 411 ≤ 418 by omega), ovr_up (by omega), ovr_up (by omega), ovr_up (by omega)]
  (repeat' split) <;> rfl
def oo (a : Nat → Int → Int) (r : oSt × Bool) : oSt × Bool := ((ovr a r.1.1, r.1.2), r.2)
theorem o_itL {g : oSt → oSt × Bool} (hg : ∀ u D, g (ovr a u, D) = oo a (g (u, D))) : ∀ (n : Nat) (u : Nat → Int → Int) (D : Int), itL g n (ovr a u, D) = oo a (itL g n (u, D)) := by
  intro n
  induction n with
  | zero => intro u D; rfl
  | succ n ih =>
    intro u D
    unfold itL
    rw [hg]
    by_cases q : (g (u, D)).2 = true
    · rw [if_pos q, if_pos (show (oo a (g (u, D))).2 = true from q)]
      exact ih _ _
    · rw [if_neg q, if_neg (show ¬ (oo a (g (u, D))).2 = true from q)]
theorem o_rnL : ∀ (F dep : Nat) (L : List oE) (u : Nat → Int → Int) (D : Int), rnL F dep L (ovr a u, D) = oo a (rnL F dep L (u, D)) := by
  intro F
  induction F with
  | zero => intro dep L u D; rfl
  | succ F ih =>
    intro dep L u D
    cases L with
    | nil => rfl
    | cons e l =>
      unfold rnL
      rw [o_itL (fun u D => ih (dep + 1) _ u D)]
      by_cases q : e.1 = 5
      · rw [if_pos q, if_pos q]
        by_cases q2 : 3 ≤ dep ∨ ∀ x ∈ l.take e.2.2.2.2, x.1 = 5
        · rw [if_pos q2, if_pos q2]
          exact ih _ _ _ _
        · rw [if_neg q2, if_neg q2]
          generalize itL (rnL F (dep + 1) (l.take e.2.2.2.2)) e.2.1.toNat (u, D) = r
          by_cases q3 : r.2 = true
          · rw [if_pos q3, if_pos (show (oo a r).2 = true from q3)]
            exact ih _ _ _ _
          · rw [if_neg q3, if_neg (show ¬ (oo a r).2 = true from q3)]
      · rw [if_neg q, if_neg q]
        dsimp only
        rw [o_oV]
        dsimp only
        split
        · rfl
        · split
          · rfl
          · exact ih _ _ _ _
end PLO0
/-- the text gone, the error told -/
def erV (v : Nat → Int → Int) (cd q : Int) : Nat → Int → Int := up (up (up v 411 16 0) 411 24 cd) 411 25 q
theorem erV_b {v : Nat → Int → Int} {cd q : Int} {m : Nat} (h : m ≠ 411) : erV v cd q m = v m := by unfold erV; rw [up_b h, up_b h, up_b h]
section PLO
variable {d : Nat} {X : Nat × (Nat → Int32)} {v w : Nat → Int → Int} {T c s : Nat}
variable {b : Int → Int} {n : Nat}
/-- the loop's beginning -/
theorem sX12_gt {g : Int} (hT : 18 ≤ T) (hg : g = 0 ∨ g = 1) (h : txW w b n) (h21 : isI (w 411 21)) : ∃ w1, (∀ r m, jm_R (jm_env (d + 11)) jmM_X12_goesThrough 29 [some (.ref 411), some (.int (i3 g))] [] (qM X v w1 T c s) = some (.inl r, m) → jm_env (d + 12) 272 [.ref 411, .int (i3 g)] (qM X v w T c s) = some (.inl r, m)) ∧ GD w1 b n (sk b 0) ∧ w1 411 27 = g ∧ w1 411 28 = 0 ∧ w1 411 29 = 0 ∧ w1 411 30 = 0 ∧ w1 411 31 = 0 ∧ w1 411 8 = w 411 8 := by
  have ht : txW (up (up (up (up (up w 411 27 g) 411 28 0) 411 29 0) 411 30 0) 411 31 0) b n := txW_u (txW_u (txW_u (txW_u (txW_u h (by omega)) (by omega)) (by omega)) (by omega)) (by omega)
  obtain ⟨w1, e1, g1, f1⟩ := sX12_starts (d := d + 7) (X := X) (v := v) (T := T) (c := c) (s := s) hT ht (by rw [up_ne (by omega), up_ne (by omega), up_ne (by omega), up_ne (by omega), up_ne (by omega)]; exact h21)
  refine ⟨w1, fun r m hm => ?_, g1, ?_, ?_, ?_, ?_, ?_, ?_⟩
  · rw [eX12_goesThrough (h := hT), bX12_goesThrough_0]
    rcases hg with rfl | rfl <;> simp (disch := first | assumption | omega) only [↓reduceIte, i3_add, i3_sub, i3_mul, i3_neg, i6_add, i6_sub, i6_mul, i6_neg, i3_lt, i3_le, i3_eq, i6_lt, i6_eq, i3_div, i6_div, i6_i3, i3_i6, c6_lt, c6_ge, c6_gt, c6_le, c6_eq, i3_ite, i6_ite, ib_0, ib_z, ite_not, i1_0, i0_0, jB_1, jB_0, jB_ib, bI_v, bL_v, bD_v, bV_v, ob_s, ob_i, i3_ofNat, jx_e, bI_e, bL_e, bD_e, bV_e, i3_eq0, i6_eq0, if_mx, if_mn, if_true, if_false, not_true_eq_false, not_false_eq_true, Int.reduceEq, Int.reduceLT, Int.reduceLE, p12_27, p12_28, p12_29, p12_30, p12_31, e1, hm]
  · rw [f1 411 27 (by omega), up_ne (by omega), up_ne (by omega), up_ne (by omega), up_ne (by omega), up_eq]
  · rw [f1 411 28 (by omega), up_ne (by omega), up_ne (by omega), up_ne (by omega), up_eq]
  · rw [f1 411 29 (by omega), up_ne (by omega), up_ne (by omega), up_eq]
  · rw [f1 411 30 (by omega), up_ne (by omega), up_eq]
  · rw [f1 411 31 (by omega), up_eq]
  · rw [f1 411 8 (by omega), up_ne (by omega), up_ne (by omega), up_ne (by omega), up_ne (by omega), up_ne (by omega)]
theorem mX12_play {m : Int} (hT : 18 ≤ T) (h : okB b n) (h16 : v 411 16 = n) (h420 : ∀ k : Int, 0 ≤ k → k < n → v 420 k = b k) (ho : okM v m) (hm : 0 ≤ m) (hnm : nmOk v) (hu0 : 0 ≤ v 411 7) (hu1 : v 411 7 ≤ 8) :
    (∀ e, pO b (nmF v) 31 0 0 (sk b 0) = .inl e → ∃ w', jm_env (d + 13) 273 [.ref 411] (qM X v w T c s) = some (.inl (some (.int (i3 (-1)))), qM X (erV v e.1 e.2) w' T c s)) ∧
    (∀ u, pO b (nmF v) 31 0 0 (sk b 0) = .inr u → ∃ w', jm_env (d + 13) 273 [.ref 411] (qM X v w T c s) = some (.inl (some (.int (i3 ((rnL 31 0 u.2 (kpV (erV v 0 (-1)) (v 412), 0)).1.2)))), qM X (rnL 31 0 u.2 (kpV (erV v 0 (-1)) (v 412), 0)).1.1 w' T c s)) := by
  obtain ⟨w0, e0, h21, hw0⟩ := qM_nm (X := X) (v := v) (w := w) (T := T) (c := c) (s := s) hT
  rw [e0]
  have q10 : ((1 : Int) = 0) = False := by decide
  obtain ⟨w1, e1, htx, hw1⟩ := sX12_takesText (d := d + 11) (X := X) (v := v) (w := up w0 411 8 0) (T := T) (c := c) (s := s) hT h h16 h420
  have h21' : isI (w1 411 21) := by rw [hw1 411 21 (by omega) (by omega), up_ne (by omega)]; exact h21
  obtain ⟨w2, e2, g2, k27, k28, k29, k30, k31, k8⟩ := sX12_gt (d := d) (X := X) (v := up v 411 16 0) (T := T) (c := c) (s := s) hT (Or.inl rfl) htx h21'
  have ho' : okM (up v 411 16 0) m := eqS.ok (fun k _ _ => up_ne (by omega)) ho
  have e412 : up v 411 16 0 412 = v 412 := up_b (by omega)
  have hnm' : nmOk (up v 411 16 0) := by
    unfold nmOk
    rw [e412]
    exact hnm
  have hnf : nmF (up v 411 16 0) = nmF v := by
    funext x
    unfold nmF
    rw [e412]
  have hP := sX12_first (d := d) (X := X) (T := T) (c := c) (s := s) hT ho' hnm' 31 0 0 (sk b 0) w2 g2 ⟨k27, k28, k29, k30, k31⟩ (by omega) (by omega) (by omega)
  rw [hnf] at hP
  refine ⟨fun e he => ?_, fun u hu => ?_⟩
  · obtain ⟨w3, x1, x2, x3⟩ := hP.1 e he
    have t1 := sX12_tellsError_0 (d := d + 11) (X := X) (v := up v 411 16 0) (T := T) (c := c) (s := s) hT x2
    obtain ⟨h22, c1, c4⟩ := BD_b x2
    have qc : (e.1 = 0) = False := eq_false (by omega)
    refine ⟨w3, ?_⟩
    rw [eX12_play (h := hT), bX12_play_0]
    simp (disch := first | assumption | omega) only [↓reduceIte, i3_add, i3_sub, i3_mul, i3_neg, i6_add, i6_sub, i6_mul, i6_neg, i3_lt, i3_le, i3_eq, i6_lt, i6_eq, i3_div, i6_div, i6_i3, i3_i6, c6_lt, c6_ge, c6_gt, c6_le, c6_eq, i3_ite, i6_ite, ib_0, ib_z, ite_not, i1_0, i0_0, jB_1, jB_0, jB_ib, bI_v, bL_v, bD_v, bV_v, ob_s, ob_i, i3_ofNat, jx_e, bI_e, bL_e, bD_e, bV_e, i3_eq0, i6_eq0, if_mx, if_mn, if_true, if_false, not_true_eq_false, not_false_eq_true, Int.reduceEq, Int.reduceLT, Int.reduceLE, p12_8, e1, e2 _ _ x1, t1, g12_22, h22, qc, bX12_play_25]
    rfl
  · obtain ⟨w3, x1, x2, x3, x4⟩ := hP.2 u hu
    have hp0 : sk b 0 ≤ n := (sk_s h (Nat.zero_le _)).1.2
    have hN := nmF_c (u := v) ho.1.1
    obtain ⟨z1, z2, z3, z4⟩ := pO_s h hN _ _ _ _ _ hp0 (by omega) hu
    have zk : kd b u.1 = 0 := by
      rcases z4 with ⟨-, q⟩ | ⟨q, -⟩
      · exact q
      · exact absurd rfl q
    have x5 := (sX12_loop_end (d := d + 10) (X := X) (v := up v 411 16 0) (T := T) (c := c) (s := s) (g := 0) hT x2 x3.2.1 x3.2.2.2.1 (by omega) (by omega) zk).1 rfl
    have t1 := sX12_tellsError_1 (d := d + 11) (X := X) (v := up v 411 16 0) (T := T) (c := c) (s := s) hT x2.2
    have h22 := x2.2
    have hE : up (up (up v 411 16 0) 411 24 0) 411 25 (-1) = erV v 0 (-1) := rfl
    rw [hE] at t1
    have e412E : erV v 0 (-1) 412 = v 412 := erV_b (by omega)
    have e7 : erV v 0 (-1) 411 7 = v 411 7 := by unfold erV; rw [up_ne (by omega), up_ne (by omega), up_ne (by omega)]
    have t2 := sX12_keepsPast (d := d + 10) (X := X) (v := erV v 0 (-1)) (w := w3) (T := T) (c := c) (s := s) (a := 412) (g := v 412) hT (by rw [e7]; exact hu0) (by rw [e7]; exact hu1) (fun v' hv k k0 k1 => by rw [a12_0 hT k0 k1, hv, e412E])
    have ekp : kpV (erV v 0 (-1)) (v 412) 412 = v 412 := (kpV_b (by omega) (by omega)).trans e412E
    obtain ⟨w4, e4, g4, j27, j28, j29, j30, j31, j8⟩ := sX12_gt (d := d) (X := X) (v := kpV (erV v 0 (-1)) (v 412)) (T := T) (c := c) (s := s) hT (Or.inr rfl) x2.1.1 x2.1.2.2.2.2.2.1
    have hI : oI (kpV (erV v 0 (-1)) (v 412)) (m + 0) (v 412 0) (nmF v) := ⟨eqS.ok (fun k _ _ => by rw [ekp]) (okM_le ho (by omega)), by rw [ekp], by unfold nmOk; rw [ekp]; exact hnm, by funext x; unfold nmF; rw [ekp]⟩
    have hS := sX12_second (d := d) (X := X) (T := T) (c := c) (s := s) (B := m) (c0 := v 412 0) hT hm 31 0 0 (sk b 0) u hu (by omega) (by omega) _ w4 0 g4 ⟨j27, j28, j30, j31⟩ (by omega) (by omega) hI
    have hend : ∃ w5, jm_R (jm_env (d + 11)) jmM_X12_goesThrough 29 [some (.ref 411), some (.int (i3 1))] [] (qM X (kpV (erV v 0 (-1)) (v 412)) w4 T c s) = some (.inl none, qM X (rnL 31 0 u.2 (kpV (erV v 0 (-1)) (v 412), 0)).1.1 w5 T c s) ∧ w5 411 31 = (rnL 31 0 u.2 (kpV (erV v 0 (-1)) (v 412), 0)).1.2 := by
      cases hx : (rnL 31 0 u.2 (kpV (erV v 0 (-1)) (v 412), 0)).2
      · obtain ⟨w5, y1, y2, -⟩ := hS.2 hx
        exact ⟨w5, y1, y2⟩
      · obtain ⟨w5, y1, y2, ⟨s27, s28, s30, s31⟩, -⟩ := hS.1 hx
        exact ⟨w5, y1.trans ((sX12_loop_end (d := d + 10) (X := X) (T := T) (c := c) (s := s) (g := 1) hT y2 s28 s30 (by omega) (by omega) zk).1 rfl), s31⟩
    obtain ⟨w5, y1, y2⟩ := hend
    generalize (rnL 31 0 u.2 (kpV (erV v 0 (-1)) (v 412), 0)).1.1 = V at *
    generalize (rnL 31 0 u.2 (kpV (erV v 0 (-1)) (v 412), 0)).1.2 = Z at *
    refine ⟨w5, ?_⟩
    rw [eX12_play (h := hT), bX12_play_0]
    simp (disch := first | assumption | omega) only [↓reduceIte, i3_add, i3_sub, i3_mul, i3_neg, i6_add, i6_sub, i6_mul, i6_neg, i3_lt, i3_le, i3_eq, i6_lt, i6_eq, i3_div, i6_div, i6_i3, i3_i6, c6_lt, c6_ge, c6_gt, c6_le, c6_eq, i3_ite, i6_ite, ib_0, ib_z, ite_not, i1_0, i0_0, jB_1, jB_0, jB_ib, bI_v, bL_v, bD_v, bV_v, ob_s, ob_i, i3_ofNat, jx_e, bI_e, bL_e, bD_e, bV_e, i3_eq0, i6_eq0, if_mx, if_mn, if_true, if_false, not_true_eq_false, not_false_eq_true, Int.reduceEq, Int.reduceLT, Int.reduceLE, p12_8, e1, e2 _ _ (x1.trans x5), t1, g12_22, h22, bX12_play_27, r12_0, t2, e4 _ _ y1, g12_31, y2]
end PLO
