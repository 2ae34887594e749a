-- uses 24.zar 25.obj 26.ops 27.ra 28.rb 29.rc 30.rd 31.re 32.rf 34.gen 35.byt 36.ser 37.lnd 38.mod 39.mo2 40.mo3 41.bit 43.mo5 44.mo6 45.mo7 46.mo8 47.mo9 48.moa 51.moe 53.cla 55.clc 58.clf 61.cli 62.clj 63.clk 64.okm 65.cll 66.clm 72.clq 73.clr 74.cls 80.wrf 88.ovr 89.rsa 93.tka 94.tkb 97.srp 98.srq a1.srs a2.rfa a3.rfb a4.rfc a5.rfd a6.rfe a7.rff
/-! Both sides: load. -/
def rmap (a : Nat → Int → Int) (r : pR) : pR := match r with
  | .inl e => .inl e
  | .inr u => .inr (ovr a u.1, u.2)
theorem o_szP {a : Nat → Int → Int} {b : Int → Int} {i : Int} : ∀ (f : Nat) (μ : Nat → Int → Int) (to : Int → Int) (p : Nat), szP b i f (ovr a μ) to p = rmap a (szP b i f μ to p) := by
  intro f
  induction f with
  | zero => intro μ to p; rfl
  | succ f ih =>
    intro μ to p
    unfold szP
    rw [o_aM, ovr_up (by omega), ih]
    split
    · split
      · split
        · rfl
        · split <;> rfl
      · rfl
    · rfl
theorem o_seP {a μ : Nat → Int → Int} {b : Int → Int} {p : Nat} : seP b (ovr a μ) p = rmap a (seP b μ p) := by
  unfold seP
  rw [o_412, o_nmF, o_cmV, o_szP]
  split
  · split
    · rfl
    · split
      · split
        · rfl
        · split
          · split <;> rfl
          · rfl
      · rfl
  · rfl
theorem o_srP {a : Nat → Int → Int} {b : Int → Int} : ∀ (f : Nat) (μ : Nat → Int → Int) (p : Nat), srP b f (ovr a μ) p = rmap a (srP b f μ p) := by
  intro f
  induction f with
  | zero => intro μ p; rfl
  | succ f ih =>
    intro μ p
    unfold srP
    rw [o_seP]
    split
    · rfl
    · split
      · rcases e : seP b μ (nx b p) with x | u
        · rfl
        · exact ih u.1 u.2
      · rfl
theorem o_suP {a μ : Nat → Int → Int} {b : Int → Int} : suP b (ovr a μ) = rmap a (suP b μ) := by
  unfold suP
  rw [ovr_up (by omega), ovr_up (by omega), o_srP]
  split
  · split
    · split <;> rfl
    · rfl
  · rfl
theorem o_ldZ {a v : Nat → Int → Int} : ldZ (ovr a v) = ovr a (ldZ v) := by
  unfold ldZ
  rw [ovr_up (by omega), ovr_fil (by omega)]
theorem o_arU {a μ : Nat → Int → Int} : arU (ovr a μ) = ovr a (arU μ) := by
  unfold arU
  have e : areaG (ovr a μ) = areaG μ := by
    funext x k n
    unfold areaG
    rw [o_kM, o_aM]
  rw [e, o_412, ovr_up (by omega)]
theorem TXr_0 {v μ : Nat → Int → Int} (h1 : v 1 1 = 0) (h2 : μ 411 16 = 0) : TXr v μ := ⟨⟨by omega, by rw [h1]; have := (bcap_b 1).2; omega, fun k k0 k1 => by omega⟩, by omega, fun k k0 k1 => by omega⟩
theorem WR_cg {x x' u u' : Nat → Int → Int} (h : WR x u) (e3 : x' 3 = x 3) (e4 : x' 4 = x 4) (f : u' 411 43 = u 411 43) (g : u' 428 = u 428) : WR x' u' := by
  unfold WR at h ⊢
  rw [e3, e4, f, g]
  exact h
theorem LQ_cg {x x' u u' : Nat → Int → Int} {n : Int} (h : LQ x u n) (hx : ∀ k : Nat, (14 ≤ k ∧ k < 46) ∨ (78 ≤ k ∧ k < 336) ∨ k = 338 → x' k = x k) (hE : eqS u' u) (h7 : u' 411 7 = u 411 7) (h415 : u' 415 = u 415) (h418 : u' 418 = u 418) : LQ x' u' n := by
  obtain ⟨hl, ho, hh, hr⟩ := h
  have h5 := ho.1.2.1
  refine ⟨lr_fr (fun k k0 k1 => hx k (by omega)) (by rw [hE 0 (by omega) (by omega)]; exact h5) (hE.lr h5 ho.2.2.2.1.2.1 hl), hE.ok ho, hR_fr (hR_cg hh h7 h415) (fun k k0 k1 => hx k (by omega)), fun k k0 k1 => ?_⟩
  rw [hx 338 (by omega), h418]
  exact hr k k0 k1
section LDP
variable {d : Nat} {X : Nat × (Nat → Int32)} {v : Nat → Int → Int} {T : Nat} {n : Int}
theorem TB_of (h : TXr v v) : TB v (bat v 1) (v 1 1).toNat ∧ v 411 16 = ((v 1 1).toNat : Int) ∧ ∀ k : Int, 0 ≤ k → k < ((v 1 1).toNat : Int) → v 420 k = bat v 1 k := by
  obtain ⟨hb, h1, h2⟩ := h
  have h0 := hb.1
  refine ⟨⟨rfl, by omega, hb⟩, by omega, fun k k0 k1 => ?_⟩
  unfold bat
  rw [if_pos (by omega)]
  exact (h2 k k0 (by omega)).symm
/-- two calls that answer alike, and may make a few rows -/
def sKp (f1 f2 : jm_Mem → Option jm_Res) (X : Nat × (Nat → Int32)) (v : Nat → Int → Int) (T : Nat) (n : Int) : Prop :=
  ∀ (w : Nat → Int → Int) (c s : Nat), ∃ (z : Int) (v1 w1 : Nat → Int → Int), f1 (qM X v w T c s) = some (.inl (some (.int (i3 (z)))), qM X v1 w1 T c s) ∧
    ∀ (w' : Nat → Int → Int) (c' s' : Nat), ∃ (v2 w2 : Nat → Int → Int) (k : Nat), f2 (qM X v1 w' T c' s') = some (.inl (some (.int (i3 (z)))), qM X v2 w2 (T + k) (c' + k) (s' + 10 * k)) ∧ k ≤ 6 ∧ RS v2 n
end LDP
