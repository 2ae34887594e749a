-- uses 24.zar 25.obj 26.ops 34.gen 36.ser 37.lnd 38.mod 39.mo2 40.mo3 44.mo6 45.mo7 46.mo8 47.mo9 49.mob 51.moe 53.cla 58.clf 61.cli 62.clj 63.clk 64.okm 65.cll 66.clm 72.clq 73.clr 74.cls 80.wrf 88.ovr 89.rsa 92.rsd 93.tka 94.tkb 97.srp a2.rfa a8.ldp b0.pla b2.plc b4.ple b5.plf b7.plh bd.pln be.plo
/-! Both sides play alike. -/
section PLP
variable {d : Nat} {X : Nat × (Nat → Int32)} {v : Nat → Int → Int} {T : Nat} {n : Int}
theorem erV_7 {cd q k : Int} (h1 : k ≠ 16) (h2 : k ≠ 24) (h3 : k ≠ 25) : erV v cd q 411 k = v 411 k := by unfold erV; rw [up_ne (by omega), up_ne (by omega), up_ne (by omega)]
theorem erV_n {cd q : Int} : nmF (erV v cd q) = nmF v := by
  funext x
  unfold nmF
  rw [erV_b (by omega)]
theorem o_erV {a : Nat → Int → Int} {cd q : Int} : erV (ovr a v) cd q = ovr a (erV v cd q) := by
  unfold erV
  rw [ovr_up (by omega), ovr_up (by omega), ovr_up (by omega)]
theorem rp_play (hR : RS v n) (hn : 0 ≤ n) (hT : 18 ≤ T) (hT2 : T < 900000) : sNp (fun z => .int (i3 z)) (fun m => jm_env (d + 18) 140 [.ref 0] m) (fun m => jm_env (d + 18) 273 [.ref 411] m) X v T (n + 42) := fun w c s => by
  obtain ⟨hq, ht, hw, ⟨he1, he2⟩, hs⟩ := hR
  obtain ⟨hTB, h16, h420⟩ := TB_of ht
  have ho := hTB.ok
  have hok := hq.2.1
  have hnm := hq.lo.nm
  obtain ⟨-, hu0, hu1, -⟩ := hq.2.2.1.1
  have hqE : LQ v (erV v 0 (-1)) n := LQ_cg hq (fun _ _ => rfl) (fun k _ _ => by rw [erV_b (by omega)]) (erV_7 (by omega) (by omega) (by omega)) (erV_b (by omega)) (erV_b (by omega))
  obtain ⟨r1, r2⟩ := tX11_play (d := d) (X := X) (w := w) (T := T) (c := c) (s := s) hqE hn hTB (by omega)
  rw [erV_n] at r1 r2
  rcases e : pO (bat v 1) (nmF v) 31 0 0 (sk (bat v 1) 0) with x | u
  · obtain ⟨w1, x1⟩ := r1 x e
    generalize hv1 : up (up (up v 5 5 x.1) 5 6 x.2) 1 1 0 = v1 at x1
    have f1 : ∀ m : Nat, m ≠ 1 → m ≠ 5 → v1 m = v m := fun m m1 m5 => by rw [← hv1, up_b m1, up_b m5, up_b m5]
    refine ⟨-1, v1, w1, x1, fun w' c' s' => ?_⟩
    have hnf : nmF v1 = nmF v := by
      funext y
      unfold nmF
      rw [f1 412 (by omega) (by omega)]
    obtain ⟨w2, y1⟩ := (mX12_play (d := d + 5) (X := X) (v := v1) (w := w') (T := T) (c := c') (s := s') (m := n) hT ho (by rw [f1 411 (by omega) (by omega)]; exact h16) (by rw [f1 420 (by omega) (by omega)]; exact h420) (eqS.ok (fun k _ _ => by rw [f1 412 (by omega) (by omega)]) hok) hn (by unfold nmOk; rw [f1 412 (by omega) (by omega)]; exact hnm) (by rw [f1 411 (by omega) (by omega)]; exact hu0) (by rw [f1 411 (by omega) (by omega)]; exact hu1)).1 x (by rw [hnf]; exact e)
    refine ⟨_, w2, y1, ?_⟩
    have g1 : ∀ m : Nat, m ≠ 1 → m ≠ 5 → m ≠ 411 → erV v1 x.1 x.2 m = v m := fun m m1 m5 m4 => by rw [erV_b m4, f1 m m1 m5]
    have g2 : ∀ k : Int, k ≠ 16 → k ≠ 24 → k ≠ 25 → erV v1 x.1 x.2 411 k = v 411 k := fun k k1 k2 k3 => by rw [erV_7 k1 k2 k3, f1 411 (by omega) (by omega)]
    refine ⟨LQ_le (LQ_cg hq (fun k hk => g1 k (by omega) (by omega) (by omega)) (fun k _ _ => by rw [g1 412 (by omega) (by omega) (by omega)]) (g2 7 (by omega) (by omega) (by omega)) (g1 _ (by omega) (by omega) (by omega)) (g1 _ (by omega) (by omega) (by omega))) (by omega), TXr_0 ?_ ?_, WR_cg hw (g1 _ (by omega) (by omega) (by omega)) (g1 _ (by omega) (by omega) (by omega)) (g2 _ (by omega) (by omega) (by omega)) (g1 _ (by omega) (by omega) (by omega)), ⟨?_, ?_⟩, SLr_fr hs (fun k k0 k1 k2 k3 => g1 k (by omega) (by omega) (by omega)) (g1 _ (by omega) (by omega) (by omega)) (g1 _ (by omega) (by omega) (by omega)) (by omega)⟩
    · rw [erV_b (by omega), ← hv1, up_eq]
    · unfold erV
      rw [up_ne (by omega), up_ne (by omega), up_eq]
    · rw [erV_b (by omega), ← hv1, up_ne (by omega), up_ne (by omega), up_eq]
      unfold erV
      rw [up_ne (by omega), up_eq]
    · rw [erV_b (by omega), ← hv1, up_ne (by omega), up_eq]
      unfold erV
      rw [up_eq]
  · obtain ⟨v1, w1, x1, x2, x3, x4, x5, -, x6⟩ := r2 u e
    have ev : v1 = ovr v1 v := ovr_eq (fun k hk => x6 k (by omega) (by omega) (by omega))
    rw [erV_b (by omega)] at x1 x2
    have hy := fun w' c' s' => (mX12_play (d := d + 5) (X := X) (v := ovr v1 v) (w := w') (T := T) (c := c') (s := s') (b := bat v 1) (n := (v 1 1).toNat) (m := n) hT ho (by rw [ovr_ge (by omega)]; exact h16) (by rw [ovr_ge (by omega)]; exact h420) (okM_o hok) hn (nmOk_o hnm) (by rw [ovr_ge (by omega)]; exact hu0) (by rw [ovr_ge (by omega)]; exact hu1)).2 u (by
      rw [show nmF (ovr v1 v) = nmF v from funext fun y => o_nmF]; exact e)
    rw [o_erV, o_412, o_kpV, o_rnL, ← ev] at hy
    have u411 : ∀ k : Int, k ≠ 7 → (rnL 31 0 u.2 (kpV (erV v 0 (-1)) (v 412), 0)).1.1 411 k = erV v 0 (-1) 411 k := fun k hk => by
      rw [rnL_k (by omega) (by omega)]
      exact kpV_o hk
    have uB : ∀ k : Nat, k ≠ 411 → k ≠ 412 → k ≠ 415 → k ≠ 418 → (rnL 31 0 u.2 (kpV (erV v 0 (-1)) (v 412), 0)).1.1 k = v k := fun k k1 k2 k3 k4 => by
      rw [rnL_k k2 k4]
      exact (kpV_b k1 k3).trans (erV_b k1)
    generalize rnL 31 0 u.2 (kpV (erV v 0 (-1)) (v 412), 0) = R at *
    refine ⟨R.1.2, v1, w1, x1, fun w' c' s' => ?_⟩
    obtain ⟨w2, y1⟩ := hy w' c' s'
    refine ⟨ovr v1 R.1.1, w2, y1, LQ_o x2 (fun _ _ => rfl), TXr_0 ?_ ?_, ?_, ⟨?_, ?_⟩, ?_⟩
    · rw [ovr_lt (by omega)]; exact x5
    · rw [ovr_ge (by omega), u411 16 (by omega)]
      unfold erV
      rw [up_ne (by omega), up_ne (by omega), up_eq]
    · refine WR_o (WR_cg hw (x6 3 (by omega) (by omega) (by omega)) (x6 4 (by omega) (by omega) (by omega)) rfl rfl) rfl rfl ?_ (uB _ (by omega) (by omega) (by omega) (by omega))
      rw [u411 43 (by omega)]
      exact erV_7 (by omega) (by omega) (by omega)
    · rw [ovr_lt (by omega), ovr_ge (by omega), u411 24 (by omega), x3]
      unfold erV
      rw [up_ne (by omega), up_eq]
    · rw [ovr_lt (by omega), ovr_ge (by omega), u411 25 (by omega), x4]
      unfold erV
      rw [up_eq]
    · exact SLr_o (SLr_fr hs (fun k k0 k1 k2 k3 => x6 k (by omega) (by omega) (by omega)) rfl rfl (Int.le_refl n)) (fun _ _ _ _ _ => rfl) (uB _ (by omega) (by omega) (by omega) (by omega)) (uB _ (by omega) (by omega) (by omega) (by omega)) (by omega)
end PLP
