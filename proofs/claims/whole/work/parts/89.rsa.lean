-- uses 24.zar 25.obj 26.ops 30.rd 31.re 34.gen 35.byt 38.mod 39.mo2 40.mo3 41.bit 44.mo6 45.mo7 46.mo8 47.mo9 48.moa 49.mob 50.moc 51.moe 53.cla 58.clf 61.cli 62.clj 63.clk 64.okm 65.cll 66.clm 72.clq 73.clr 77.wrc 78.wrd 79.wre 80.wrf 88.ovr
/-! The whole state: what the class holds is what the reference holds. -/
def RS (v : Nat → Int → Int) (n : Int) : Prop := LQ v v n ∧ TXr v v ∧ WR v v ∧ (v 5 5 = v 411 24 ∧ v 5 6 = v 411 25) ∧ SLr v v n
theorem LQ_o {x a u : Nat → Int → Int} {n : Int} (h : LQ x u n) (e : ∀ k : Nat, k < 411 → x k = a k) : LQ (ovr a u) (ovr a u) n := by
  obtain ⟨hl, ho, hh, hr⟩ := h
  have h5 := ho.1.2.1
  have h3 := ho.2.2.2.1.2.1
  have hE : eqS (ovr a u) u := fun k _ _ => by rw [o_412]
  have g : ∀ k : Nat, k < 411 → ovr a u k = x k := fun k hk => by rw [ovr_lt hk, e k hk]
  refine ⟨lr_fr (fun k _ _ => g k (by omega)) (by rw [o_412]; exact h5) (hE.lr h5 h3 hl), hE.ok ho, hR_fr (hR_cg hh (by rw [o_411]) (by rw [o_415])) (fun k _ _ => g k (by omega)), fun k k0 k1 => ?_⟩
  rw [g 338 (by omega), o_418]
  exact hr k k0 k1
theorem TXr_o {x a u z : Nat → Int → Int} (h : TXr x z) (e1 : x 1 = a 1) (e2 : x 2 = a 2) (e3 : u 411 16 = z 411 16) (e4 : u 420 = z 420) : TXr (ovr a u) (ovr a u) := by
  obtain ⟨⟨b0, b1, b2⟩, h1, h2⟩ := h
  have g1 : ovr a u 1 = x 1 := by rw [ovr_lt (by omega), e1]
  have g2 : ovr a u 2 = x 2 := by rw [ovr_lt (by omega), e2]
  unfold TXr bOk
  rw [o_411, o_420, g1, show (1 : Nat) + 1 = 2 from rfl, g2, e3, e4]
  exact ⟨⟨b0, b1, b2⟩, h1, h2⟩
theorem WR_o {x a u z : Nat → Int → Int} (h : WR x z) (e1 : x 3 = a 3) (e2 : x 4 = a 4) (e3 : u 411 43 = z 411 43) (e4 : u 428 = z 428) : WR (ovr a u) (ovr a u) := by
  have g1 : ovr a u 3 = x 3 := by rw [ovr_lt (by omega), e1]
  have g2 : ovr a u 4 = x 4 := by rw [ovr_lt (by omega), e2]
  have g3 : ovr a u 428 = z 428 := by rw [ovr_ge (by omega), e4]
  unfold WR at h ⊢
  rw [o_411, g1, g2, g3, e3]
  exact h
theorem SLr_o {x a u z : Nat → Int → Int} {n m : Int} (h : SLr x z n) (e : ∀ k : Nat, 337 ≤ k → k ≠ 338 → k < 411 → (k < 339 ∨ 347 ≤ k) → x k = a k) (e6 : u 416 = z 416) (e7 : u 417 = z 417) (hm : n ≤ m) : SLr (ovr a u) (ovr a u) m :=
  SLr_fr h (fun k k0 k1 k2 k3 => by rw [ovr_lt k2, e k k0 k1 k2 k3]) (by rw [ovr_ge (by omega), e6]) (by rw [ovr_ge (by omega), e7]) hm
/-- what a change of the land leaves -/
def kpU (u v : Nat → Int → Int) : Prop := u 420 = v 420 ∧ u 428 = v 428 ∧ u 416 = v 416 ∧ u 417 = v 417 ∧ ∀ k : Int, k ≠ 7 → u 411 k = v 411 k
theorem kpU_412 {u v : Nat → Int → Int} (h : ∀ k : Nat, k ≠ 412 → u k = v k) : kpU u v := ⟨h _ (by omega), h _ (by omega), h _ (by omega), h _ (by omega), fun k _ => by rw [h 411 (by omega)]⟩
theorem kpU_kp {u v : Nat → Int → Int} {g : Int → Int} (h : kpU u v) : kpU (kpV u g) v := by
  obtain ⟨a, b, c, d, e⟩ := h
  refine ⟨?_, ?_, ?_, ?_, fun k hk => ?_⟩
  · rw [kpV_b (by omega) (by omega), a]
  · rw [kpV_b (by omega) (by omega), b]
  · rw [kpV_b (by omega) (by omega), c]
  · rw [kpV_b (by omega) (by omega), d]
  · rw [kpV_o hk, e k hk]
theorem kpU_tr {u v : Nat → Int → Int} {r : Int} (h : ∀ k : Nat, k ≠ 412 → u k = v k) : kpU (trV v r u) v := by
  unfold trV
  split
  · exact ⟨up_b (by omega), up_b (by omega), up_b (by omega), up_b (by omega), fun k _ => by rw [up_b (by omega)]⟩
  · exact kpU_kp (kpU_412 h)
theorem RS_mk {x u v : Nat → Int → Int} {n m : Int} (h : RS v n) (hm : n ≤ m) (hq : LQ x u m) (hf : frL x v) (hu : kpU u v) : RS (ovr x u) m := by
  obtain ⟨-, ht, hw, ⟨e1, e2⟩, hs⟩ := h
  obtain ⟨a, b, c, d, e⟩ := hu
  have f : ∀ k : Nat, k < 14 ∨ (336 ≤ k ∧ k ≠ 338) → x k = v k := fun k hk => hf k (by omega)
  refine ⟨LQ_o hq (fun _ _ => rfl), TXr_o ht (f 1 (by omega)).symm (f 2 (by omega)).symm (e 16 (by omega)) a, WR_o hw (f 3 (by omega)).symm (f 4 (by omega)).symm (e 43 (by omega)) b, ⟨?_, ?_⟩, SLr_o hs (fun k k0 k1 k2 k3 => (f k (by omega)).symm) c d hm⟩
  · rw [ovr_lt (by omega), o_411, f 5 (by omega), e 24 (by omega), e1]
  · rw [ovr_lt (by omega), o_411, f 5 (by omega), e 25 (by omega), e2]
theorem RS_le {v : Nat → Int → Int} {n m : Int} (h : RS v n) (hm : n ≤ m) : RS v m := ⟨LQ_le h.1 hm, h.2.1, h.2.2.1, h.2.2.2.1, SLr_fr h.2.2.2.2 (fun _ _ _ _ _ => rfl) rfl rfl hm⟩
theorem okM_o {a u : Nat → Int → Int} {n : Int} (h : okM u n) : okM (ovr a u) n := eqS.ok (fun k _ _ => by rw [o_412]) h
/-- two calls that answer alike; f1 the class's, f2 the reference's, one behind the other -/
def sIp (f1 f2 : jm_Mem → Option jm_Res) (E1 E2 : String) (X : Nat × (Nat → Int32)) (v : Nat → Int → Int) (T : Nat) (n : Int) : Prop :=
  ∀ (w : Nat → Int → Int) (c s : Nat), ∃ (cd z : Int) (v1 w1 : Nat → Int → Int), ((cd = 0 ∧ f1 (qM X v w T c s) = some (.inl (some (.int (i3 (z)))), qM X v1 w1 T c s)) ∨ (cd = 1 ∧ f1 (qM X v w T c s) = some (.inr E1, qM X v1 w1 T (c + 1) (s + 6))) ∨ (cd = 2 ∧ E1 ≠ E2 ∧ f1 (qM X v w T c s) = some (.inr E2, qM X v1 w1 T (c + 1) (s + 6)))) ∧
    ∀ (w' : Nat → Int → Int) (c' s' : Nat), ∃ (b : Int) (v2 w2 : Nat → Int → Int), f2 (qM X v1 w' T c' s') = some (.inl (some (.int (i3 (b)))), qM X v2 w2 T c' s') ∧ w2 411 8 = cd ∧ (cd = 0 → b = z) ∧ RS v2 n
/-- .. that don't throw -/
def sNp (g : Int → Value) (f1 f2 : jm_Mem → Option jm_Res) (X : Nat × (Nat → Int32)) (v : Nat → Int → Int) (T : Nat) (n : Int) : Prop :=
  ∀ (w : Nat → Int → Int) (c s : Nat), ∃ (z : Int) (v1 w1 : Nat → Int → Int), f1 (qM X v w T c s) = some (.inl (some (g z)), qM X v1 w1 T c s) ∧
    ∀ (w' : Nat → Int → Int) (c' s' : Nat), ∃ (v2 w2 : Nat → Int → Int), f2 (qM X v1 w' T c' s') = some (.inl (some (g z)), qM X v2 w2 T c' s') ∧ RS v2 n
theorem sIp_ask {f1 f2 : jm_Mem → Option jm_Res} {E1 E2 : String} {X : Nat × (Nat → Int32)} {v : Nat → Int → Int} {T : Nat} {n cd z : Int}
    (h1 : ∀ w c s, cR (f1 (qM X v w T c s)) X v T c s E1 E2 cd z) (h2 : ∀ w c s, mR (f2 (qM X v w T c s)) X v T c s cd z) (hc : cd = 0 ∨ cd = 1 ∨ (cd = 2 ∧ E1 ≠ E2)) (hR : RS v n) : sIp f1 f2 E1 E2 X v T n := by
  intro w c s
  obtain ⟨a0, a1, a2⟩ := h1 w c s
  rcases hc with rfl | rfl | ⟨rfl, h12⟩
  · obtain ⟨w1, e⟩ := a0 rfl
    refine ⟨0, z, v, w1, Or.inl ⟨rfl, e⟩, fun w' c' s' => ?_⟩
    obtain ⟨w2, b, e2, e3, e4⟩ := h2 w' c' s'
    exact ⟨b, v, w2, e2, e3, e4, hR⟩
  · obtain ⟨w1, e⟩ := a1 rfl
    refine ⟨1, z, v, w1, Or.inr (Or.inl ⟨rfl, e⟩), fun w' c' s' => ?_⟩
    obtain ⟨w2, b, e2, e3, e4⟩ := h2 w' c' s'
    exact ⟨b, v, w2, e2, e3, e4, hR⟩
  · obtain ⟨w1, e⟩ := a2 rfl
    refine ⟨2, z, v, w1, Or.inr (Or.inr ⟨rfl, h12, e⟩), fun w' c' s' => ?_⟩
    obtain ⟨w2, b, e2, e3, e4⟩ := h2 w' c' s'
    exact ⟨b, v, w2, e2, e3, e4, hR⟩
theorem sIp_chg {f1 f2 : jm_Mem → Option jm_Res} {E1 E2 : String} {X : Nat × (Nat → Int32)} {v : Nat → Int → Int} {T : Nat} {n cd z : Int} {Q : (Nat → Int → Int) → Prop}
    (h1 : ∀ w c s, cW (f1 (qM X v w T c s)) X v T c s E1 E2 cd z Q) (h2 : ∀ v1, (cd = 0 → Q v1) → (cd ≠ 0 → v1 = v) → ∃ v2, RS v2 n ∧ ∀ w c s, mR (f2 (qM X v1 w T c s)) X v2 T c s cd z) (hc : cd = 0 ∨ cd = 1 ∨ (cd = 2 ∧ E1 ≠ E2)) : sIp f1 f2 E1 E2 X v T n := by
  intro w c s
  obtain ⟨a0, a1, a2⟩ := h1 w c s
  rcases hc with rfl | rfl | ⟨rfl, h12⟩
  · obtain ⟨v1, w1, e, hq⟩ := a0 rfl
    obtain ⟨v2, hR, h3⟩ := h2 v1 (fun _ => hq) (fun h => absurd rfl h)
    refine ⟨0, z, v1, w1, Or.inl ⟨rfl, e⟩, fun w' c' s' => ?_⟩
    obtain ⟨w2, b, e2, e3, e4⟩ := h3 w' c' s'
    exact ⟨b, v2, w2, e2, e3, e4, hR⟩
  · obtain ⟨w1, e⟩ := a1 rfl
    obtain ⟨v2, hR, h3⟩ := h2 v (fun h => absurd h (by decide)) (fun _ => rfl)
    refine ⟨1, z, v, w1, Or.inr (Or.inl ⟨rfl, e⟩), fun w' c' s' => ?_⟩
    obtain ⟨w2, b, e2, e3, e4⟩ := h3 w' c' s'
    exact ⟨b, v2, w2, e2, e3, e4, hR⟩
  · obtain ⟨w1, e⟩ := a2 rfl
    obtain ⟨v2, hR, h3⟩ := h2 v (fun h => absurd h (by decide)) (fun _ => rfl)
    refine ⟨2, z, v, w1, Or.inr (Or.inr ⟨rfl, h12, e⟩), fun w' c' s' => ?_⟩
    obtain ⟨w2, b, e2, e3, e4⟩ := h3 w' c' s'
    exact ⟨b, v2, w2, e2, e3, e4, hR⟩
theorem cd1_c {P : Prop} [Decidable P] {E1 E2 : String} : cd1 P = 0 ∨ cd1 P = 1 ∨ (cd1 P = 2 ∧ E1 ≠ E2) := by
  unfold cd1
  split
  · exact Or.inl rfl
  · exact Or.inr (Or.inl rfl)
theorem cd2_c {P Q : Prop} [Decidable P] [Decidable Q] {E1 E2 : String} (h : E1 ≠ E2 := by decide) : cd2 P Q = 0 ∨ cd2 P Q = 1 ∨ (cd2 P Q = 2 ∧ E1 ≠ E2) := by
  have : cd2 P Q = 0 ∨ cd2 P Q = 1 ∨ cd2 P Q = 2 := by unfold cd2; split <;> (try split) <;> omega
  rcases this with q | q | q
  · exact Or.inl q
  · exact Or.inr (Or.inl q)
  · exact Or.inr (Or.inr ⟨q, h⟩)
