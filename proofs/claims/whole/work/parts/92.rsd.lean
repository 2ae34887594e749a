-- uses 24.zar 25.obj 26.ops 30.rd 31.re 34.gen 35.byt 36.ser 38.mod 39.mo2 40.mo3 41.bit 42.mo4 43.mo5 44.mo6 45.mo7 46.mo8 47.mo9 48.moa 49.mob 50.moc 51.moe 52.mof 53.cla 54.clb 58.clf 59.clg 60.clh 61.cli 62.clj 63.clk 64.okm 65.cll 66.clm 67.okf 68.okg 69.cln 70.clo 71.clp 72.clq 73.clr 74.cls 75.wra 76.wrb 77.wrc 78.wrd 79.wre 80.wrf 81.fpa 82.rat 88.ovr 89.rsa 91.rsc
/-! Both sides: text, names, what is written, ratio. -/
section RSD
variable {d : Nat} {X : Nat × (Nat → Int32)} {v : Nat → Int → Int} {T : Nat} {n : Int}
theorem apV_o {v : Nat → Int → Int} {z : Int} : (∀ k : Nat, k ≠ 411 → k ≠ 420 → apV v z k = v k) ∧ ∀ k : Int, k ≠ 16 → apV v z 411 k = v 411 k := by
  unfold apV
  exact ⟨fun k h1 h2 => by rw [up_b h1, up_b h2], fun k h => by rw [up_ne (by omega), up_ne (by omega)]⟩
theorem fourV_o {v : Nat → Int → Int} {z : Int} : (∀ k : Nat, k ≠ 411 → k ≠ 420 → fourV v z k = v k) ∧ ∀ k : Int, k ≠ 16 → fourV v z 411 k = v 411 k := by
  unfold fourV
  exact ⟨fun k h1 h2 => by rw [apV_o.1 k h1 h2, apV_o.1 k h1 h2, apV_o.1 k h1 h2, apV_o.1 k h1 h2], fun k h => by rw [apV_o.2 k h, apV_o.2 k h, apV_o.2 k h, apV_o.2 k h]⟩
theorem twV_o {v : Nat → Int → Int} {a b e f g : Int} : (∀ k : Nat, k ≠ 411 → k ≠ 420 → twV v a b e f g k = v k) ∧ ∀ k : Int, k ≠ 16 → twV v a b e f g 411 k = v 411 k := by
  unfold twV
  exact ⟨fun k h1 h2 => by rw [fourV_o.1 k h1 h2, fourV_o.1 k h1 h2, fourV_o.1 k h1 h2, fourV_o.1 k h1 h2, fourV_o.1 k h1 h2], fun k h => by rw [fourV_o.2 k h, fourV_o.2 k h, fourV_o.2 k h, fourV_o.2 k h, fourV_o.2 k h]⟩
/-- only the text changed -/
theorem RS_tx {v x u : Nat → Int → Int} (h : RS v n) (ht : TXr x u) (hx : ∀ k : Nat, k ≠ 1 → k ≠ 2 → x k = v k) (hu : (∀ k : Nat, k ≠ 411 → k ≠ 420 → u k = v k) ∧ ∀ k : Int, k ≠ 16 → u 411 k = v 411 k) : RS (ovr x u) n := by
  obtain ⟨hq, -, hw, ⟨e1, e2⟩, hs⟩ := h
  have hq2 : LQ x u n := LQ_tx hq (fun k k0 k1 => hx k (by omega) (by omega)) (hu.1 _ (by omega) (by omega)) (hu.2 _ (by omega)) (hu.1 _ (by omega) (by omega)) (hu.1 _ (by omega) (by omega))
  refine ⟨LQ_o hq2 (fun _ _ => rfl), TXr_o ht rfl rfl rfl rfl, WR_o hw (hx 3 (by omega) (by omega)).symm (hx 4 (by omega) (by omega)).symm (hu.2 _ (by omega)) (hu.1 _ (by omega) (by omega)), ⟨?_, ?_⟩, SLr_o hs (fun k k0 k1 k2 k3 => (hx k (by omega) (by omega)).symm) (hu.1 _ (by omega) (by omega)) (hu.1 _ (by omega) (by omega)) (Int.le_refl _)⟩
  · rw [ovr_lt (by omega), o_411, hx 5 (by omega) (by omega), hu.2 _ (by omega), e1]
  · rw [ovr_lt (by omega), o_411, hx 5 (by omega) (by omega), hu.2 _ (by omega), e2]
theorem tx_b (h : RS v n) : 0 ≤ v 411 16 ∧ v 411 16 ≤ 600 := by
  obtain ⟨-, ⟨⟨b0, b1, -⟩, h1, -⟩, -⟩ := h
  have hc : (bcap 1 : Int) = 600 := rfl
  omega
theorem rp_append {a b e f g : Int} (hR : RS v n) (hT : 18 ≤ T) (ha : isI a) (hb : isI b) (he : isI e) (hf : isI f) (hg : isI g) : sIp (fun m => jm_env (d + 10) 137 [.ref 0, .int (i3 a), .int (i3 b), .int (i3 e), .int (i3 f), .int (i3 g)] m) (fun m => jm_env (d + 11) 240 [.ref 411, .int (i3 a), .int (i3 b), .int (i3 e), .int (i3 f), .int (i3 g)] m) eIS eIS X v T n := by
  refine sIp_chg (fun w c s => cX11_append (d := d + 6) hR.2.1) (fun v1 h0 h1 => ?_) cd1_c
  obtain ⟨t0, t1⟩ := tx_b hR
  by_cases q : v 411 16 ≤ 580
  · obtain ⟨ht, hx⟩ := h0 (cd1_0 q)
    have ev : v1 = ovr v1 v := ovr_eq (fun j hj => hx j (by omega) (by omega))
    refine ⟨ovr v1 (twV v a b e f g), RS_tx hR ht hx twV_o, fun w c s => ?_⟩
    have h := mX12_append (d := d + 9) (X := X) (v := ovr v1 v) (w := w) (T := T) (c := c) (s := s) hT (by rw [o_411]; exact t0) (by rw [o_411]; exact t1) ha hb he hf hg
    rw [o_twV, o_411, if_pos q, ← ev] at h
    exact h
  · have e1 : v1 = v := h1 (cd1_n q)
    subst e1
    refine ⟨v1, hR, fun w c s => ?_⟩
    have h := mX12_append (d := d + 9) (X := X) (v := v1) (w := w) (T := T) (c := c) (s := s) hT t0 t1 ha hb he hf hg
    rw [if_neg q] at h
    exact h
theorem rp_truncate {k : Int} (hR : RS v n) (hT : 18 ≤ T) (hk : isI k) : sIp (fun m => jm_env (d + 10) 138 [.ref 0, .int (i3 k)] m) (fun m => jm_env (d + 11) 241 [.ref 411, .int (i3 k)] m) eIA eIA X v T n := by
  refine sIp_chg (fun w c s => cX11_truncate (d := d + 7) hR.2.1 hk) (fun v1 h0 h1 => ?_) cd1_c
  obtain ⟨t0, t1⟩ := tx_b hR
  by_cases q : 0 ≤ k ∧ k ≤ v 411 16
  · obtain ⟨ht, hx⟩ := h0 (cd1_0 q)
    have ev : v1 = ovr v1 v := ovr_eq (fun j hj => hx j (by omega))
    refine ⟨ovr v1 (up v 411 16 k), RS_tx hR ht (fun j j0 _ => hx j j0) ⟨fun j j0 _ => up_b j0, fun j j0 => up_ne (by omega)⟩, fun w c s => ?_⟩
    have h := mX12_truncate (d := d + 9) (X := X) (v := ovr v1 v) (w := w) (T := T) (c := c) (s := s) hT (by rw [o_411]; exact t0) (by rw [o_411]; exact t1) hk
    rw [ovr_up (by omega), o_411, if_pos q, ← ev] at h
    exact h
  · have e1 : v1 = v := h1 (cd1_n q)
    subst e1
    refine ⟨v1, hR, fun w c s => ?_⟩
    have h := mX12_truncate (d := d + 9) (X := X) (v := v1) (w := w) (T := T) (c := c) (s := s) hT t0 t1 hk
    rw [if_neg q] at h
    exact h
theorem whF_b {μ : Nat → Int → Int} (h0 : 0 ≤ μ 411 16) : 0 ≤ whF μ ∧ whF μ < 2147483648 := by
  by_cases q : 1 ≤ (μ 411 16).toNat ∧ (μ 411 16).toNat ≤ 6 ∧ ltOk (μ 420) (μ 411 16).toNat
  · rw [whF_1 (n := (μ 411 16).toNat) (by omega) q.2.1 q.2.2]
    obtain ⟨h1, h2, -⟩ := nk_b q.2.2
    have hp : (32 : Int) ^ (μ 411 16).toNat ≤ 1073741824 := by
      have : ∀ n : Nat, n ≤ 6 → (32 : Int) ^ n ≤ 1073741824 := by decide
      exact this _ q.2.1
    omega
  · rw [whF_0 (n := (μ 411 16).toNat) (by omega) q]
    omega
theorem nmOk_o {a u : Nat → Int → Int} (h : nmOk u) : nmOk (ovr a u) := by
  unfold nmOk at h ⊢
  rw [o_412]
  exact h
theorem fdV_o {u : Nat → Int → Int} {a b : Int} : (∀ k : Nat, k ≠ 411 → k ≠ 412 → k ≠ 415 → fdV u a b k = u k) ∧ ∀ k : Int, k ≠ 16 → k ≠ 7 → fdV u a b 411 k = u 411 k := by
  unfold fdV
  split
  · exact ⟨fun _ _ _ _ => rfl, fun _ _ _ => rfl⟩
  · unfold cmV
    exact ⟨fun k h1 h2 h3 => by rw [up_b h1, up_b h2, up_b h2, up_b h2, up_b h2, kpV_b h1 h3], fun k h1 h2 => by rw [up_ne (by omega), up_b (by omega), up_b (by omega), up_b (by omega), up_b (by omega), kpV_o h2]⟩
theorem rp_found {a b : Int} (hR : RS v n) (hn : 0 ≤ n) (hT : 18 ≤ T) (ha : isI a) (hb : isI b) : sIp (fun m => jm_env (d + 10) 173 [.ref 0, .int (i3 a), .int (i3 b)] m) (fun m => jm_env (d + 11) 283 [.ref 411, .int (i3 a), .int (i3 b)] m) eIA eIA X v T (n + 1) := by
  refine sIp_chg (fun w c s => cX11_found (d := d + 5) hR.1 hn hR.2.1 ha hb) (fun v1 h0 h1 => ?_) cd1_c
  obtain ⟨t0, t1⟩ := tx_b hR
  obtain ⟨hw0, hw1⟩ := whF_b t0
  have hok := hR.1.2.1
  obtain ⟨-, hu0, hu1, -⟩ := hR.1.2.2.1.1
  have hnm := hR.1.lo.nm
  have hby : ∀ k : Int, 0 ≤ k → k < v 411 16 → 0 ≤ v 420 k ∧ v 420 k ≤ 255 := fun k k0 k1 => by
    obtain ⟨⟨b0, b1, b2⟩, q1, q2⟩ := hR.2.1
    rw [← q2 k k0 (by omega)]
    exact b2 k k0 (by omega)
  by_cases q : (1 ≤ a ∧ a ≤ 2000) ∧ 1 ≤ b ∧ b ≤ 2000
  · obtain ⟨⟨hq, ht⟩, hx⟩ := h0 (cd1_0 q)
    have ev : v1 = ovr v1 v := ovr_eq (fun j hj => hx j (by omega) (by omega) (by omega))
    obtain ⟨-, -, hw, ⟨e1, e2⟩, hs⟩ := hR
    refine ⟨ovr v1 (fdV v a b), ⟨LQ_o hq (fun _ _ => rfl), TXr_o ht rfl rfl rfl rfl, WR_o hw (hx 3 (by omega) (by omega) (by omega)).symm (hx 4 (by omega) (by omega) (by omega)).symm (fdV_o.2 _ (by omega) (by omega)) (fdV_o.1 _ (by omega) (by omega) (by omega)), ⟨?_, ?_⟩, SLr_o hs (fun k k0 k1 k2 k3 => (hx k (by omega) (by omega) (by omega)).symm) (fdV_o.1 _ (by omega) (by omega) (by omega)) (fdV_o.1 _ (by omega) (by omega) (by omega)) (by omega)⟩, fun w c s => ?_⟩
    · rw [ovr_lt (by omega), o_411, hx 5 (by omega) (by omega) (by omega), fdV_o.2 _ (by omega) (by omega), e1]
    · rw [ovr_lt (by omega), o_411, hx 5 (by omega) (by omega) (by omega), fdV_o.2 _ (by omega) (by omega), e2]
    · have h := mX12_found (d := d + 7) (X := X) (v := ovr v1 v) (w := w) (T := T) (c := c) (s := s) hT (by rw [o_412]; exact hok.1.1) (by rw [o_412]; exact hok.1.2.1) (nmOk_o hnm) (by rw [o_411]; exact hu0) (by rw [o_411]; exact hu1) (by rw [o_411]; exact t0) (by rw [o_411]; exact t1) (by rw [o_411, o_420]; exact hby) (by rw [o_whF]; exact hw0) (by rw [o_whF]; exact hw1) ha hb
      have ef : fdA (ovr v1 v) = fdA v := by
        unfold fdA
        rw [o_412, o_whF, o_nmF]
      rw [o_fdV, ef, if_pos q, ← ev] at h
      exact h
  · have e1 : v1 = v := h1 (cd1_n q)
    subst e1
    refine ⟨v1, RS_le hR (by omega), fun w c s => ?_⟩
    have h := mX12_found (d := d + 7) (X := X) (v := v1) (w := w) (T := T) (c := c) (s := s) hT hok.1.1 hok.1.2.1 hnm hu0 hu1 t0 t1 hby hw0 hw1 ha hb
    rw [if_neg q] at h
    exact h
theorem o_wpL {a u : Nat → Int → Int} : ∀ {l : List Int}, wpL (ovr a u) l = ovr a (wpL u l) := by
  intro l
  induction l generalizing u with
  | nil => rfl
  | cons z l ih =>
    show wpL (wpV (ovr a u) z) l = ovr a (wpL (wpV u z) l)
    have e : wpV (ovr a u) z = ovr a (wpV u z) := by
      unfold wpV
      rw [o_411, ovr_up (by omega), ovr_up (by omega)]
    rw [e, ih]
theorem o_wrM {a u : Nat → Int → Int} {f : Int → Int} {ln : Nat} {i k : Int} : wrM (ovr a u) f ln i k = ovr a (wrM u f ln i k) := by
  unfold wrM
  rw [o_kM, o_411, o_wpL, ovr_if]
theorem o_waM {a u : Nat → Int → Int} {fs : Nat → Int → Int} {ls : Nat → Nat} {c' : Nat} : waM (ovr a u) fs ls c' = ovr a (waM u fs ls c') := by
  unfold waM
  rw [ovr_up (by omega)]
  refine fo_map (R := fun x y => x = ovr a y) c' rfl (fun k x y _ h => ?_)
  unfold wsM
  exact fo_map (R := fun x y => x = ovr a y) 10 h (fun j x y _ h => by rw [h, o_wrM])
theorem rp_writeStacks (hR : RS v n) (hT : 18 ≤ T) : sNp (fun z => .int (i3 z)) (fun m => jm_env (d + 10) 185 [.ref 0] m) (fun m => jm_env (d + 10) 337 [.ref 411] m) X v T n := fun w c s => by
  have hlo := hR.1.lo
  have hg := hR.1.2.1.1
  obtain ⟨c', hc'⟩ : ∃ c' : Nat, v 412 0 = c' := ⟨(v 412 0).toNat, (Int.toNat_of_nonneg hg.1).symm⟩
  have h5 : c' ≤ 5 := by have := hg.2.1; omega
  have hz : ∀ i : Nat, i < c' → rn v v (14 + 7 + 5 * i) i := fun i hi => hlo.zn (by omega)
  obtain ⟨e1, f1, b0, b1⟩ := sX11_writeStacks (d := d + 5) (X := X) (v := v) (w := w) (T := T) (c := c) (s := s) (c' := c') (hlo.2.1.1.2.2.1.trans hc') h5 (fun i hi => by have := hz i hi; exact ⟨by have := this.1; omega, this.2.1⟩) (fun i k hi k0 k1 => by
    have h1 := (hg.2.2.2.2 i (by omega) (by omega)).2 k k0 k1
    rw [(hlo.zr (i := i) (by omega) k k0 k1).2.2]
    exact h1)
  have hall := WR_all hlo hc'
  let fs : Nat → Int → Int := fun i => v (14 + 7 + 5 * i + 1)
  let ls : Nat → Nat := fun i => (v (14 + 7 + 5 * i) 1).toNat
  refine ⟨_, waC v c', w, e1, fun w' c2 s2 => ?_⟩
  have ev : waC v c' = ovr (waC v c') v := ovr_eq (fun j hj => f1 j (by omega) (by omega))
  have hsM : ∀ x : Nat → Int → Int, x 412 = v 412 → jm_env (d + 10) 337 [.ref 411] (qM X x w' T c2 s2) = some (.inl (some (.int (i3 (waM x fs ls c' 411 43)))), qM X (waM x fs ls c') (up w' 411 8 0) T c2 s2) ∧ frW (waM x fs ls c') x ∧ 0 ≤ waM x fs ls c' 411 43 ∧ waM x fs ls c' 411 43 ≤ 650 := fun x hx => sX12_writeStacks (d := d + 6) (X := X) (v := x) (w := w') (T := T) (c := c2) (s := s2) (fs := fs) (ls := ls) (c' := c') hT (by rw [hx]; exact hc') h5 (fun i hi => by
    obtain ⟨r0, r1, r2, r3⟩ := hz i hi
    rw [hx]
    exact ⟨r2, by show (v (14 + 7 + 5 * i) 1).toNat ≤ 6; omega, r3⟩) (fun i k hi k0 k1 => by
    have h1 := (hg.2.2.2.2 i (by omega) (by omega)).2 k k0 k1
    unfold kM at h1 ⊢
    rw [hx]
    exact h1)
  obtain ⟨e2, -, -, -⟩ := hsM (ovr (waC v c') v) o_412
  obtain ⟨-, f2, -, -⟩ := hsM v rfl
  rw [o_waM, o_411, ← ev] at e2
  have hall : WR (waC v c') (waM v fs ls c') := hall
  rw [← hall.1] at e2
  refine ⟨_, _, e2, ?_⟩
  have f3 : ∀ k : Nat, k ≠ 428 → k ≠ 411 → waM v fs ls c' k = v k := fun k h1 h2 => by
    funext j
    exact f2 k j h1 (Or.inl h2)
  obtain ⟨hq, ht, -, ⟨g1, g2⟩, hs⟩ := hR
  have hq2 : LQ (waC v c') (waM v fs ls c') n := LQ_tx hq (fun k k0 k1 => f1 k (by omega) (by omega)) (f3 _ (by omega) (by omega)) (f2 _ _ (by omega) (by omega)) (f3 _ (by omega) (by omega)) (f3 _ (by omega) (by omega))
  refine ⟨LQ_o hq2 (fun _ _ => rfl), TXr_o ht (f1 1 (by omega) (by omega)).symm (f1 2 (by omega) (by omega)).symm (f2 _ _ (by omega) (by omega)) (f3 _ (by omega) (by omega)), WR_o hall rfl rfl rfl rfl, ⟨?_, ?_⟩, SLr_o hs (fun k k0 k1 k2 k3 => (f1 k (by omega) (by omega)).symm) (f3 _ (by omega) (by omega)) (f3 _ (by omega) (by omega)) (Int.le_refl _)⟩
  · rw [ovr_lt (by omega), o_411, f1 5 (by omega) (by omega), f2 _ _ (by omega) (by omega), g1]
  · rw [ovr_lt (by omega), o_411, f1 5 (by omega) (by omega), f2 _ _ (by omega) (by omega), g2]
/-- ratio: both answer a double -/
def sDp (f1 f2 : jm_Mem → Option jm_Res) (E1 : String) (X : Nat × (Nat → Int32)) (v : Nat → Int → Int) (T : Nat) (n : Int) : Prop :=
  ∀ (w : Nat → Int → Int) (c s : Nat), ∃ (cd : Int) (z : UInt64) (w1 : Nat → Int → Int), ((cd = 0 ∧ f1 (qM X v w T c s) = some (.inl (some (.double z)), qM X v w1 T c s)) ∨ (cd = 1 ∧ f1 (qM X v w T c s) = some (.inr E1, qM X v w1 T (c + 1) (s + 6)))) ∧
    ∀ (w' : Nat → Int → Int) (c' s' : Nat), ∃ (b : UInt64) (w2 : Nat → Int → Int), f2 (qM X v w' T c' s') = some (.inl (some (.double b)), qM X v w2 T c' s') ∧ w2 411 8 = cd ∧ (cd = 0 → b = z) ∧ RS v n
theorem rp_ratio {i k : Int} (hR : RS v n) (hT : 18 ≤ T) (hi : isI i) (hk : isI k) : sDp (fun m => jm_env (d + 10) 153 [.ref 0, .int (i3 i), .int (i3 k)] m) (fun m => jm_env (d + 11) 306 [.ref 411, .int (i3 i), .int (i3 k)] m) eIB X v T n := fun w c s => by
  have h2 := fun w' c' s' => mX12_ratio (d := d + 7) (X := X) (v := v) (w := w') (T := T) (c := c') (s := s') (i := i) (n := k) hT hR.1.2.1.1 hR.1.2.1.2.2.1 hi hk
  obtain ⟨a0, a1⟩ := cX11_ratio (d := d + 7) (X := X) (v := v) (w := w) (T := T) (c := c) (s := s) (i := i) (n := k) hR.1.lo hi hk
  by_cases q : cd1 ((0 ≤ i ∧ i < v 412 0) ∧ 0 ≤ k ∧ k < 10) = 0
  · obtain ⟨w1, e⟩ := a0 q
    refine ⟨0, _, w1, Or.inl ⟨rfl, e⟩, fun w' c' s' => ?_⟩
    obtain ⟨w2, b, e2, e3, e4⟩ := h2 w' c' s'
    exact ⟨b, w2, e2, e3.trans q, fun _ => e4 q, hR⟩
  · have q1 : cd1 ((0 ≤ i ∧ i < v 412 0) ∧ 0 ≤ k ∧ k < 10) = 1 := by
      by_cases g : (0 ≤ i ∧ i < v 412 0) ∧ 0 ≤ k ∧ k < 10
      · exact absurd (cd1_0 g) q
      · exact cd1_1 g
    obtain ⟨w1, e⟩ := a1 q1
    refine ⟨1, 0, w1, Or.inr ⟨rfl, e⟩, fun w' c' s' => ?_⟩
    obtain ⟨w2, b, e2, e3, e4⟩ := h2 w' c' s'
    exact ⟨b, w2, e2, e3.trans q1, fun h => absurd h (by decide), hR⟩
end RSD
