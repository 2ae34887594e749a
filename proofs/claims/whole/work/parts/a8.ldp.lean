-- uses 24.zar 25.obj 26.ops 27.ra 28.rb 29.rc 30.rd 31.re 32.rf 34.gen 35.byt 36.ser 37.lnd 38.mod 39.mo2 40.mo3 41.bit 43.mo5 44.mo6 45.mo7 46.mo8 47.mo9 48.moa 51.moe 53.cla 55.clc 58.clf 61.cli 62.clj 63.clk 64.okm 65.cll 66.clm 72.clq 73.clr 74.cls 80.wrf 88.ovr 89.rsa 93.tka 94.tkb 97.srp 98.srq a1.srs a2.rfa a3.rfb a4.rfc a5.rfd a6.rfe a7.rff
/-! Both sides: load. -/
def rmap (a : Nat → Int → Int) (r : pR) : pR := match r with
  | .inl e => .inl e
  | .inr u => .inr (ovr a u.1, u.2)
theorem o_szP {a : Nat → Int → Int} {b : Int → Int} {i : Int} : ∀ (f : Nat) (μ : Nat → Int → Int) (to : Int → Int) (p : Nat), szP b i f (ovr a μ) to p = rmap a (szP b i f μ to p) := by
  intro f
  induction f with
  | zero => intro μ to p; rfl
  | succ f ih =>
    intro μ to p
    unfold szP
    rw [o_aM, ovr_up (by omega), ih]
    split
    · split
      · split
        · rfl
        · split <;> rfl
      · rfl
    · rfl
theorem o_seP {a μ : Nat → Int → Int} {b : Int → Int} {p : Nat} : seP b (ovr a μ) p = rmap a (seP b μ p) := by
  unfold seP
  rw [o_412, o_nmF, o_cmV, o_szP]
  split
  · split
    · rfl
    · split
      · split
        · rfl
        · split
          · split <;> rfl
          · rfl
      · rfl
  · rfl
theorem o_srP {a : Nat → Int → Int} {b : Int → Int} : ∀ (f : Nat) (μ : Nat → Int → Int) (p : Nat), srP b f (ovr a μ) p = rmap a (srP b f μ p) := by
  intro f
  induction f with
  | zero => intro μ p; rfl
  | succ f ih =>
    intro μ p
    unfold srP
    rw [o_seP]
    split
    · rfl
    · split
      · rcases e : seP b μ (nx b p) with x | u
        · rfl
        · exact ih u.1 u.2
      · rfl
theorem o_suP {a μ : Nat → Int → Int} {b : Int → Int} : suP b (ovr a μ) = rmap a (suP b μ) := by
  unfold suP
  rw [ovr_up (by omega), ovr_up (by omega), o_srP]
  split
  · split
    · split <;> rfl
    · rfl
  · rfl
theorem o_ldZ {a v : Nat → Int → Int} : ldZ (ovr a v) = ovr a (ldZ v) := by
  unfold ldZ
  rw [ovr_up (by omega), ovr_fil (by omega)]
theorem o_arU {a μ : Nat → Int → Int} : arU (ovr a μ) = ovr a (arU μ) := by
  unfold arU
  have e : areaG (ovr a μ) = areaG μ := by
    funext x k n
    unfold areaG
    rw [o_kM, o_aM]
  rw [e, o_412, ovr_up (by omega)]
theorem TXr_0 {v μ : Nat → Int → Int} (h1 : v 1 1 = 0) (h2 : μ 411 16 = 0) : TXr v μ := ⟨⟨by omega, by rw [h1]; have := (bcap_b 1).2; omega, fun k k0 k1 => by omega⟩, by omega, fun k k0 k1 => by omega⟩
theorem WR_cg {x x' u u' : Nat → Int → Int} (h : WR x u) (e3 : x' 3 = x 3) (e4 : x' 4 = x 4) (f : u' 411 43 = u 411 43) (g : u' 428 = u 428) : WR x' u' := by
  unfold WR at h ⊢
  rw [e3, e4, f, g]
  exact h
theorem LQ_cg {x x' u u' : Nat → Int → Int} {n : Int} (h : LQ x u n) (hx : ∀ k : Nat, (14 ≤ k ∧ k < 46) ∨ (78 ≤ k ∧ k < 336) ∨ k = 338 → x' k = x k) (hE : eqS u' u) (h7 : u' 411 7 = u 411 7) (h415 : u' 415 = u 415) (h418 : u' 418 = u 418) : LQ x' u' n := by
  obtain ⟨hl, ho, hh, hr⟩ := h
  have h5 := ho.1.2.1
  refine ⟨lr_fr (fun k k0 k1 => hx k (by omega)) (by rw [hE 0 (by omega) (by omega)]; exact h5) (hE.lr h5 ho.2.2.2.1.2.1 hl), hE.ok ho, hR_fr (hR_cg hh h7 h415) (fun k k0 k1 => hx k (by omega)), fun k k0 k1 => ?_⟩
  rw [hx 338 (by omega), h418]
  exact hr k k0 k1
section LDP
variable {d : Nat} {X : Nat × (Nat → Int32)} {v : Nat → Int → Int} {T : Nat} {n : Int}
theorem TB_of (h : TXr v v) : TB v (bat v 1) (v 1 1).toNat ∧ v 411 16 = ((v 1 1).toNat : Int) ∧ ∀ k : Int, 0 ≤ k → k < ((v 1 1).toNat : Int) → v 420 k = bat v 1 k := by
  obtain ⟨hb, h1, h2⟩ := h
  have h0 := hb.1
  refine ⟨⟨rfl, by omega, hb⟩, by omega, fun k k0 k1 => ?_⟩
  unfold bat
  rw [if_pos (by omega)]
  exact (h2 k k0 (by omega)).symm
/-- two calls that answer alike, and may make a few rows -/
def sKp (f1 f2 : jm_Mem → Option jm_Res) (X : Nat × (Nat → Int32)) (v : Nat → Int → Int) (T : Nat) (n : Int) : Prop :=
  ∀ (w : Nat → Int → Int) (c s : Nat), ∃ (z : Int) (v1 w1 : Nat → Int → Int), f1 (qM X v w T c s) = some (.inl (some (.int (i3 (z)))), qM X v1 w1 T c s) ∧
    ∀ (w' : Nat → Int → Int) (c' s' : Nat), ∃ (v2 w2 : Nat → Int → Int) (k : Nat), f2 (qM X v1 w' T c' s') = some (.inl (some (.int (i3 (z)))), qM X v2 w2 (T + k) (c' + k) (s' + 10 * k)) ∧ k ≤ 6 ∧ RS v2 n
theorem rp_load (hR : RS v n) (hn : 0 ≤ n) (hT : 20 ≤ T) (hT2 : T < 800000) : sKp (fun m => jm_env (d + 12) 139 [.ref 0] m) (fun m => jm_env (d + 12) 261 [.ref 411] m) X v T (n + 2) := by
  intro w c s
  obtain ⟨hq, ht, hw, ⟨he1, he2⟩, hs⟩ := hR
  obtain ⟨hTB, h16, h420⟩ := TB_of ht
  have ho := hTB.ok
  obtain ⟨r1, r2⟩ := tX11_readSetup (d := d + 1) (X := X) (w := w) (T := T) (c := c) (s := s) (μ := ldZ v) hTB ldZ_0 (by omega)
  rcases e : suP (bat v 1) (ldZ v) with x | u
  · obtain ⟨v1, w1, x1, x2, x3, x4, x5⟩ := r1 x e
    have f411 : ∀ m : Nat, 78 ≤ m → v1 m = v m := fun m hm => by rw [x5 m (by omega) (by omega), up_b (by omega)]
    have ev : v1 = ovr v1 v := ovr_eq (fun m hm => f411 m (by omega))
    have esu : suP (bat v 1) (ldZ v1) = .inl x := by
      rw [ev, o_ldZ, o_suP, e]
      rfl
    refine ⟨-1, v1, w1, ?_, fun w' c' s' => ?_⟩
    · show jm_env (d + 11 + 1) 139 [.ref 0] (qM X v w T c s) = _
      simp (disch := first | assumption | omega) only [eX11_load, bX11_load_0, bX11_load_7, bX11_load_17, bX11_load_18, r11_5, g4_2, i3_add, i3_sub, i3_mul, i3_neg, i6_add, i6_sub, i6_mul, i6_neg, i3_lt, i3_le, i3_eq, i6_lt, i6_eq, i3_div, i6_div, i6_i3, i3_i6, c6_lt, c6_ge, c6_gt, c6_le, c6_eq, i3_ite, i6_ite, ib_0, ib_z, ite_not, i1_0, i0_0, jB_1, jB_0, jB_ib, bI_v, bL_v, bD_v, bV_v, ob_s, ob_i, i3_ofNat, jx_e, bI_e, bL_e, bD_e, bV_e, i3_eq0, i6_eq0, if_mx, if_mn, if_true, if_false, not_true_eq_false, not_false_eq_true, Int.reduceEq, Int.reduceLT, Int.reduceLE, x1]
    · obtain ⟨v2, w2, k, y1, y2, y3, y4, y5, y6, y7, y8⟩ := (mX12_load (d := d + 1) (X := X) (v := v1) (w := w') (T := T) (c := c') (s := s') (b := bat v 1) (n := (v 1 1).toNat) hT hT2 ho (by rw [f411 411 (by omega)]; exact h16) (by rw [f411 420 (by omega)]; exact h420)).1 x esu
      have hE : eqS v2 v := fun j j0 j1 => by rw [y3 j j0 j1, f411 412 (by omega)]
      have g1 : ∀ m : Nat, m ≠ 1 → m ≠ 5 → (m < 46 ∨ 78 ≤ m) → m ≠ 411 → m ≠ 412 → v2 m = v m := fun m m1 m2 m3 m4 m5 => by rw [y7 m m4 m5, x5 m m3 m2, up_b m1]
      refine ⟨v2, w2, k, y1, y2, LQ_le (LQ_cg hq (fun j hj => g1 j (by omega) (by omega) (by omega) (by omega) (by omega)) hE ?_ (g1 _ (by omega) (by omega) (by omega) (by omega) (by omega)) (g1 _ (by omega) (by omega) (by omega) (by omega) (by omega))) (by omega), TXr_0 ?_ y4, WR_cg hw (g1 _ (by omega) (by omega) (by omega) (by omega) (by omega)) (g1 _ (by omega) (by omega) (by omega) (by omega) (by omega)) ?_ (g1 _ (by omega) (by omega) (by omega) (by omega) (by omega)), ⟨?_, ?_⟩, SLr_fr hs (fun j j0 j1 j2 j3 => g1 j (by omega) (by omega) (by omega) (by omega) (by omega)) (g1 _ (by omega) (by omega) (by omega) (by omega) (by omega)) (g1 _ (by omega) (by omega) (by omega) (by omega) (by omega)) (by omega)⟩
      · rw [y8 7 (by omega) (by omega) (by omega), f411 411 (by omega)]
      · rw [y7 1 (by omega) (by omega)]; exact x4
      · rw [y8 43 (by omega) (by omega) (by omega), f411 411 (by omega)]
      · rw [y7 5 (by omega) (by omega), x2, y5]
      · rw [y7 5 (by omega) (by omega), x3, y6]
  · obtain ⟨v1, w1, x1, x2, x3, x4, ⟨l1, l2, l3, l4, l5⟩, x6⟩ := r2 u e
    obtain ⟨hsu, -⟩ := suP_s ho ldZ_0 e
    have f411 : ∀ m : Nat, 411 ≤ m → v1 m = v m := fun m hm => x6 m (by omega) (by omega) (by omega) (by omega) (by omega)
    have ev : v1 = ovr v1 v := ovr_eq f411
    have esu : suP (bat v 1) (ldZ v1) = .inr (ovr v1 u.1, u.2) := by
      conv => lhs; rw [ev, o_ldZ, o_suP, e]
      rfl
    have ec : v1 14 2 = u.1 412 0 := by
      rw [l1.1.2.2.1]
      unfold arU
      exact up_ne (by omega)
    have hok := okM_ar (m := n + 2) hsu (by omega)
    refine ⟨u.1 412 0, v1, w1, ?_, fun w' c' s' => ?_⟩
    · have o14 := oLnd_14
      show jm_env (d + 11 + 1) 139 [.ref 0] (qM X v w T c s) = _
      simp (disch := first | assumption | omega) only [eX11_load, bX11_load_0, bX11_load_7, bX11_load_17, bX11_load_18, r11_5, g4_2, i3_add, i3_sub, i3_mul, i3_neg, i6_add, i6_sub, i6_mul, i6_neg, i3_lt, i3_le, i3_eq, i6_lt, i6_eq, i3_div, i6_div, i6_i3, i3_i6, c6_lt, c6_ge, c6_gt, c6_le, c6_eq, i3_ite, i6_ite, ib_0, ib_z, ite_not, i1_0, i0_0, jB_1, jB_0, jB_ib, bI_v, bL_v, bD_v, bV_v, ob_s, ob_i, i3_ofNat, jx_e, bI_e, bL_e, bD_e, bV_e, i3_eq0, i6_eq0, if_mx, if_mn, if_true, if_false, not_true_eq_false, not_false_eq_true, Int.reduceEq, Int.reduceLT, Int.reduceLE, x1, ec]
    · obtain ⟨v2, w2, k, y1, y2, y3, y4, y5, y6, y7, ⟨y8, y9⟩, y10, y11, y12⟩ := (mX12_load (d := d + 1) (X := X) (v := v1) (w := w') (T := T) (c := c') (s := s') (b := bat v 1) (n := (v 1 1).toNat) hT hT2 ho (by rw [f411 411 (by omega)]; exact h16) (by rw [f411 420 (by omega)]; exact h420)).2 _ esu
      have y1 : jm_env (d + 12) 261 [.ref 411] (qM X v1 w' T c' s') = some (.inl (some (.int (i3 (ovr v1 u.1 412 0)))), qM X v2 w2 (T + k) (c' + k) (s' + 10 * k)) := y1
      rw [o_412] at y1
      have hE : eqS v2 (arU u.1) := fun j j0 j1 => by
        rw [y3 j j0 j1]
        show arU (ovr v1 u.1) 412 j = _
        rw [o_arU, o_412]
      have g1 : ∀ m : Nat, m < 411 → v2 m = v1 m := fun m hm => y11 m (by omega) (by omega) (by omega) (by omega)
      have h78 := hq.2.2.1.1
      have h5 := hok.1.2.1
      refine ⟨v2, w2, k, y1, y2, ⟨lr_fr (fun j j0 j1 => g1 j (by omega)) (by rw [hE 0 (by omega) (by omega)]; exact h5) (hE.lr h5 hok.2.2.2.1.2.1 l1), hE.ok hok, ⟨⟨?_, by omega, by omega, ?_, ?_⟩, fun j j0 j1 => by omega⟩, fun j j0 j1 => ?_⟩, TXr_0 ?_ y4, WR_cg hw ?_ ?_ ?_ ?_, ⟨?_, ?_⟩, fun j j0 j1 => ?_⟩
      · rw [g1 78 (by omega), l2, y7]
      · rw [g1 78 (by omega), l3]; exact h78.2.2.2.1
      · rw [g1 78 (by omega), l3]; exact h78.2.2.2.2
      · rw [g1 338 (by omega), l4 j j0 j1, y10 _ (by omega) (by omega)]
      · rw [g1 1 (by omega)]; exact x4
      · rw [g1 3 (by omega)]; exact x6 3 (by omega) (by omega) (by omega) (by omega) (by omega)
      · rw [g1 4 (by omega)]; exact x6 4 (by omega) (by omega) (by omega) (by omega) (by omega)
      · rw [y12 43 (by omega) (by omega) (by omega) (by omega), f411 411 (by omega)]
      · rw [y11 428 (by omega) (by omega) (by omega) (by omega), f411 428 (by omega)]
      · rw [g1 5 (by omega), x2, y5]
      · rw [g1 5 (by omega), x3, y6]
      · have hj : j = 0 ∨ j = 1 := by omega
        have e7 : v2 417 j = 0 := by rcases hj with rfl | rfl <;> assumption
        rw [g1 337 (by omega), l5 j j0 j1, e7]
        exact ⟨rfl, Or.inl rfl, fun h => by omega⟩
end LDP
