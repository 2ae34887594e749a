-- uses 24.zar 25.obj 26.ops 30.rd 31.re 34.gen 35.byt 36.ser 38.mod 39.mo2 40.mo3 41.bit 42.mo4 43.mo5 44.mo6 45.mo7 46.mo8 47.mo9 48.moa 49.mob 50.moc 51.moe 52.mof 53.cla 54.clb 58.clf 59.clg 60.clh 61.cli 62.clj 63.clk 64.okm 65.cll 66.clm 67.okf 68.okg 69.cln 70.clo 71.clp 72.clq 73.clr 74.cls 76.wrb 77.wrc 78.wrd 79.wre 80.wrf 88.ovr 89.rsa
/-! Both sides: what changes. -/
theorem mR_cg {x : Option jm_Res} {X : Nat × (Nat → Int32)} {v u : Nat → Int → Int} {T c s : Nat} {cd a : Int} (h : mR x X v T c s cd a) (e : v = u) : mR x X u T c s cd a := e ▸ h
section RSC
variable {d : Nat} {X : Nat × (Nat → Int32)} {v : Nat → Int → Int} {T : Nat} {n : Int}
theorem rp_buy {i k r : Int} (hR : RS v n) (hn : 0 ≤ n) (hT : 18 ≤ T) (hi : isI i) (hk : isI k) (hr : isI r) : sIp (fun m => jm_env (d + 10) 174 [.ref 0, .int (i3 i), .int (i3 k), .int (i3 r)] m) (fun m => jm_env (d + 11) 284 [.ref 411, .int (i3 i), .int (i3 k), .int (i3 r)] m) eIB eIA X v T (n + 1) := by
  refine sIp_chg (fun w c s => cX11_buy (d := d + 5) hR.1 hn hi hk hr) (fun v1 h0 h1 => ?_) cd2_c
  have hok := hR.1.2.1
  obtain ⟨-, hu0, hu1, -⟩ := hR.1.2.2.1.1
  by_cases g : ((0 ≤ i ∧ i < v 412 0) ∧ 0 ≤ k ∧ k < 10) ∧ 1 ≤ r ∧ r ≤ 99
  · obtain ⟨hq, hf⟩ := h0 (cd2_0 g.1 g.2)
    have e : v1 = ovr v1 v := ovr_eq (fun j hj => hf j (by omega))
    refine ⟨ovr v1 (trV v (byR v i k r) (byV v i k r)), RS_mk hR (by omega) hq hf (kpU_tr (fun k hk => byV_b hk)), fun w c s => ?_⟩
    have hoo := okM_o (a := v1) hok
    have h := mX12_buy (d := d + 5) (X := X) (v := ovr v1 v) (w := w) (T := T) (c := c) (s := s) hT hoo.1 hoo.2.1.1 hoo.2.1.2 (by rw [o_411]; exact hu0) (by rw [o_411]; exact hu1) hi hk hr
    simp only [o_byR, o_byV, o_trV, o_412] at h
    rw [if_pos g, ← e] at h
    exact h
  · have e1 : v1 = v := h1 (fun q => g (by
      unfold cd2 at q
      split at q
      · split at q
        · exact ⟨by assumption, by assumption⟩
        · omega
      · omega))
    subst e1
    refine ⟨v1, RS_le hR (by omega), fun w c s => ?_⟩
    have h := mX12_buy (d := d + 5) (X := X) (v := v1) (w := w) (T := T) (c := c) (s := s) hT hok.1 hok.2.1.1 hok.2.1.2 hu0 hu1 hi hk hr
    rw [if_neg g] at h
    exact h
theorem rp_cut {i k r : Int} (hR : RS v n) (hn : 0 ≤ n) (hT : 18 ≤ T) (hi : isI i) (hk : isI k) (hr : isI r) : sIp (fun m => jm_env (d + 10) 175 [.ref 0, .int (i3 i), .int (i3 k), .int (i3 r)] m) (fun m => jm_env (d + 11) 285 [.ref 411, .int (i3 i), .int (i3 k), .int (i3 r)] m) eIB eIA X v T (n + 1) := by
  refine sIp_chg (fun w c s => cX11_cut (d := d + 5) hR.1 hn hi hk hr) (fun v1 h0 h1 => ?_) cd2_c
  have hok := hR.1.2.1
  obtain ⟨-, hu0, hu1, -⟩ := hR.1.2.2.1.1
  by_cases g : ((0 ≤ i ∧ i < v 412 0) ∧ 0 ≤ k ∧ k < 10) ∧ 1 ≤ r ∧ r ≤ 9999
  · obtain ⟨hq, hf⟩ := h0 (cd2_0 g.1 g.2)
    have e : v1 = ovr v1 v := ovr_eq (fun j hj => hf j (by omega))
    refine ⟨ovr v1 (trV v (ctR v i k r) (ctV v i k r)), RS_mk hR (by omega) hq hf (kpU_tr (fun k hk => ctV_b hk)), fun w c s => ?_⟩
    have hoo := okM_o (a := v1) hok
    have h := mX12_cut (d := d + 4) (X := X) (v := ovr v1 v) (w := w) (T := T) (c := c) (s := s) hT hoo.1 (by rw [o_411]; exact hu0) (by rw [o_411]; exact hu1) hi hk hr
    simp only [o_ctR, o_ctV, o_trV, o_412] at h
    rw [if_pos g, ← e] at h
    exact h
  · have e1 : v1 = v := h1 (fun q => g (by
      unfold cd2 at q
      split at q
      · split at q
        · exact ⟨by assumption, by assumption⟩
        · omega
      · omega))
    subst e1
    refine ⟨v1, RS_le hR (by omega), fun w c s => ?_⟩
    have h := mX12_cut (d := d + 4) (X := X) (v := v1) (w := w) (T := T) (c := c) (s := s) hT hok.1 hu0 hu1 hi hk hr
    rw [if_neg g] at h
    exact h
theorem cd1_n {P : Prop} [Decidable P] (g : ¬ P) : cd1 P ≠ 0 := by rw [cd1_1 g]; decide
theorem rp_order {a b q : Int} (hR : RS v n) (hn : 0 ≤ n) (hT : 18 ≤ T) (ha : isI a) (hb : isI b) (hq : isI q) : sIp (fun m => jm_env (d + 10) 176 [.ref 0, .int (i3 a), .int (i3 b), .int (i3 q)] m) (fun m => jm_env (d + 11) 287 [.ref 411, .int (i3 a), .int (i3 b), .int (i3 q)] m) eIA eIA X v T (n + 1) := by
  refine sIp_chg (fun w c s => cX11_order (d := d + 4) hR.1 hn ha hb hq) (fun v1 h0 h1 => ?_) cd1_c
  have hok := hR.1.2.1
  obtain ⟨-, hu0, hu1, -⟩ := hR.1.2.2.1.1
  by_cases g : ((1 ≤ a ∧ a ≤ 2000) ∧ 1 ≤ b ∧ b ≤ 2000) ∧ 1 ≤ q ∧ q ≤ 999
  · obtain ⟨hq2, hf⟩ := h0 (cd1_0 g)
    have e : v1 = ovr v1 v := ovr_eq (fun j hj => hf j (by omega))
    refine ⟨ovr v1 (trV v (flR v a b q) (flV v a b q)), RS_mk hR (by omega) hq2 hf (kpU_tr (fun k hk => flV_b hk)), fun w c s => ?_⟩
    have hoo := okM_o (a := v1) hok
    have h := mX12_order (d := d + 3) (X := X) (v := ovr v1 v) (w := w) (T := T) (c := c) (s := s) hT hoo.1 hoo.2.2.2.1 (by rw [o_411]; exact hu0) (by rw [o_411]; exact hu1) ha hb hq
    simp only [o_flR, o_flV, o_trV] at h
    rw [if_pos g, ← e] at h
    exact h
  · have e1 : v1 = v := h1 (cd1_n g)
    subst e1
    refine ⟨v1, RS_le hR (by omega), fun w c s => ?_⟩
    have h := mX12_order (d := d + 3) (X := X) (v := v1) (w := w) (T := T) (c := c) (s := s) hT hok.1 hok.2.2.2.1 hu0 hu1 ha hb hq
    rw [if_neg g] at h
    exact h
theorem rp_setEdge {z : Int} (hR : RS v n) (hn : 0 ≤ n) (hT : 18 ≤ T) (hz : isI z) : sIp (fun m => jm_env (d + 10) 177 [.ref 0, .int (i3 z)] m) (fun m => jm_env (d + 11) 288 [.ref 411, .int (i3 z)] m) eIA eIA X v T (n + 1) := by
  refine sIp_chg (fun w c s => cX11_setEdge (d := d + 5) hR.1 hn hz) (fun v1 h0 h1 => ?_) cd1_c
  have hok := hR.1.2.1
  obtain ⟨-, hu0, hu1, -⟩ := hR.1.2.2.1.1
  have he0 := hok.1.2.2.1
  have he1 := hok.1.2.2.2.1
  by_cases g : 0 ≤ z ∧ z ≤ 50
  · obtain ⟨hq2, hf⟩ := h0 (cd1_0 g)
    have e : v1 = ovr v1 v := ovr_eq (fun j hj => hf j (by omega))
    refine ⟨ovr v1 (kpV (up v 412 1 z) (v 412)), RS_mk hR (by omega) hq2 hf (kpU_kp (kpU_412 (fun k hk => up_b hk))), fun w c s => ?_⟩
    have h := mX12_setEdge (d := d + 7) (X := X) (v := ovr v1 v) (w := w) (T := T) (c := c) (s := s) hT (by rw [o_412]; exact he0) (by rw [o_412]; exact he1) (by rw [o_411]; exact hu0) (by rw [o_411]; exact hu1) hz
    rw [o_kpE, o_412, if_pos g, ← e] at h
    exact h
  · have e1 : v1 = v := h1 (cd1_n g)
    subst e1
    refine ⟨v1, RS_le hR (by omega), fun w c s => ?_⟩
    have h := mX12_setEdge (d := d + 7) (X := X) (v := v1) (w := w) (T := T) (c := c) (s := s) hT he0 he1 hu0 hu1 hz
    rw [if_neg g] at h
    exact h
theorem rp_setReam {z : Int} (hR : RS v n) (hn : 0 ≤ n) (hT : 18 ≤ T) (hz : isI z) : sIp (fun m => jm_env (d + 10) 178 [.ref 0, .int (i3 z)] m) (fun m => jm_env (d + 11) 289 [.ref 411, .int (i3 z)] m) eIA eIA X v T (n + 1) := by
  refine sIp_chg (fun w c s => cX11_setReam (d := d + 5) hR.1 hn hz) (fun v1 h0 h1 => ?_) cd1_c
  have hok := hR.1.2.1
  obtain ⟨-, hu0, hu1, -⟩ := hR.1.2.2.1.1
  obtain ⟨he0, he1⟩ := hok.2.1
  by_cases g : 1 ≤ z ∧ z ≤ 500
  · obtain ⟨hq2, hf⟩ := h0 (cd1_0 g)
    have e : v1 = ovr v1 v := ovr_eq (fun j hj => hf j (by omega))
    refine ⟨ovr v1 (kpV (up v 412 2 z) (v 412)), RS_mk hR (by omega) hq2 hf (kpU_kp (kpU_412 (fun k hk => up_b hk))), fun w c s => ?_⟩
    have h := mX12_setReam (d := d + 7) (X := X) (v := ovr v1 v) (w := w) (T := T) (c := c) (s := s) hT (by rw [o_412]; exact he0) (by rw [o_412]; exact he1) (by rw [o_411]; exact hu0) (by rw [o_411]; exact hu1) hz
    rw [o_kpE, o_412, if_pos g, ← e] at h
    exact h
  · have e1 : v1 = v := h1 (cd1_n g)
    subst e1
    refine ⟨v1, RS_le hR (by omega), fun w c s => ?_⟩
    have h := mX12_setReam (d := d + 7) (X := X) (v := v1) (w := w) (T := T) (c := c) (s := s) hT he0 he1 hu0 hu1 hz
    rw [if_neg g] at h
    exact h
theorem kpU_un : kpU (unV v) v := by
  have h : ∀ k : Nat, k ≠ 411 → k ≠ 412 → unV v k = v k := fun k h1 h2 => by
    unfold unV
    rw [fil_b h2, up_b h1]
  refine ⟨h _ (by omega) (by omega), h _ (by omega) (by omega), h _ (by omega) (by omega), h _ (by omega) (by omega), fun k hk => ?_⟩
  unfold unV
  rw [fil_b (by omega), up_ne (by omega)]
theorem kpU_rs {q : Int} : kpU (rsV v q) v := by
  have h : ∀ k : Nat, k ≠ 411 → k ≠ 412 → rsV v q k = v k := fun k h1 h2 => by
    unfold rsV
    rw [up_b h1, fil_b h2]
  refine ⟨h _ (by omega) (by omega), h _ (by omega) (by omega), h _ (by omega) (by omega), h _ (by omega) (by omega), fun k hk => ?_⟩
  unfold rsV
  rw [up_ne (by omega), fil_b (by omega)]
theorem rp_undo (hR : RS v n) (hT : 18 ≤ T) : sNp (fun z => .int (i3 z)) (fun m => jm_env (d + 10) 188 [.ref 0] m) (fun m => jm_env (d + 10) 290 [.ref 411] m) X v T n := fun w c s => by
  obtain ⟨-, hu0, hu1, -⟩ := hR.1.2.2.1.1
  obtain ⟨v1, e1, hq, hf⟩ := cX11_undo (d := d + 6) (X := X) (w := w) (T := T) (c := c) (s := s) hR.1
  refine ⟨_, v1, w, e1, fun w' c' s' => ?_⟩
  have e : v1 = ovr v1 v := ovr_eq (fun j hj => hf j (by omega))
  obtain ⟨w2, h⟩ := mX12_undo (d := d + 8) (X := X) (v := ovr v1 v) (w := w') (T := T) (c := c') (s := s') hT (by rw [o_411]; exact hu0) (by rw [o_411]; exact hu1)
  rw [o_411, o_unV, ovr_if, ← e] at h
  refine ⟨_, w2, h, RS_mk hR (Int.le_refl _) hq hf ?_⟩
  split
  · exact kpU_412 (fun _ _ => rfl)
  · exact kpU_un
theorem rp_restore {q : Int} (hR : RS v n) (hT : 18 ≤ T) (hq : isI q) : sIp (fun m => jm_env (d + 10) 190 [.ref 0, .int (i3 q)] m) (fun m => jm_env (d + 11) 293 [.ref 411, .int (i3 q)] m) eIB eIS X v T n := by
  refine sIp_chg (fun w c s => cX11_restore (d := d + 7) hR.1 hR.2.2.2.2 hq) (fun v1 h0 h1 => ?_) cd2_c
  have hk : 0 ≤ q ∧ q < 2 → v 417 q = 0 ∨ v 417 q = 1 := fun g => (hR.2.2.2.2 q g.1 g.2).2.1
  by_cases g : (0 ≤ q ∧ q < 2) ∧ v 417 q = 1
  · obtain ⟨hq2, hf⟩ := h0 (cd2_0 g.1 g.2)
    have e : v1 = ovr v1 v := ovr_eq (fun j hj => hf j (by omega))
    refine ⟨ovr v1 (rsV v q), RS_mk hR (Int.le_refl _) hq2 hf kpU_rs, fun w c s => ?_⟩
    have h := mX12_restore (d := d + 8) (X := X) (v := ovr v1 v) (w := w) (T := T) (c := c) (s := s) hT hq (by rw [ovr_ge (by omega)]; exact hk)
    rw [o_rsV, o_416, ovr_ge (show 411 ≤ 417 by omega), if_pos g, ← e] at h
    exact h
  · have e1 : v1 = v := h1 (fun q => g (by
      unfold cd2 at q
      split at q
      · split at q
        · exact ⟨by assumption, by assumption⟩
        · omega
      · omega))
    subst e1
    refine ⟨v1, hR, fun w c s => ?_⟩
    have h := mX12_restore (d := d + 8) (X := X) (v := v1) (w := w) (T := T) (c := c) (s := s) hT hq hk
    rw [if_neg g] at h
    exact h
theorem rp_save {q : Int} (hR : RS v n) (hT : 18 ≤ T) (hq : isI q) : sIp (fun m => jm_env (d + 10) 189 [.ref 0, .int (i3 q)] m) (fun m => jm_env (d + 11) 292 [.ref 411, .int (i3 q)] m) eIB eIB X v T n := by
  refine sIp_chg (fun w c s => cX11_save (d := d + 7) hR.1 hR.2.2.2.2 hq) (fun v1 h0 h1 => ?_) cd1_c
  by_cases g : 0 ≤ q ∧ q < 2
  · obtain ⟨hq2, hs, hf⟩ := h0 (cd1_0 g)
    have e : v1 = ovr v1 v := ovr_eq (fun j hj => hf j (by omega))
    have hsv : ∀ k : Nat, k ≠ 416 → k ≠ 417 → svV v q k = v k := fun k h1 h2 => by
      unfold svV
      rw [up_b h2, flo_b h1]
    obtain ⟨-, ht, hw, ⟨e1, e2⟩, -⟩ := hR
    refine ⟨ovr v1 (svV v q), ⟨LQ_o hq2 (fun _ _ => rfl), TXr_o ht (hf 1 (by omega)).symm (hf 2 (by omega)).symm (by rw [hsv _ (by omega) (by omega)]) (hsv _ (by omega) (by omega)), WR_o hw (hf 3 (by omega)).symm (hf 4 (by omega)).symm (by rw [hsv _ (by omega) (by omega)]) (hsv _ (by omega) (by omega)), ⟨?_, ?_⟩, SLr_o hs (fun _ _ _ _ _ => rfl) rfl rfl (Int.le_refl _)⟩, fun w c s => ?_⟩
    · rw [ovr_lt (by omega), o_411, hf 5 (by omega), hsv _ (by omega) (by omega), e1]
    · rw [ovr_lt (by omega), o_411, hf 5 (by omega), hsv _ (by omega) (by omega), e2]
    · have h := mX12_save (d := d + 8) (X := X) (v := ovr v1 v) (w := w) (T := T) (c := c) (s := s) hT hq
      rw [o_svV, o_412, if_pos g, ← e] at h
      exact h
  · have e1 : v1 = v := h1 (cd1_n g)
    subst e1
    refine ⟨v1, hR, fun w c s => ?_⟩
    have h := mX12_save (d := d + 8) (X := X) (v := v1) (w := w) (T := T) (c := c) (s := s) hT hq
    rw [if_neg g] at h
    exact h
end RSC
