-- uses 24.zar 25.obj 26.ops 29.rc 30.rd 31.re 34.gen 35.byt 38.mod 39.mo2 46.mo8 51.moe 53.cla 55.clc 60.clh 62.clj 64.okm 65.cll 74.cls 75.wra 93.tka 94.tkb 97.srp a1.srs c0.foa d8.frm d9.frn e0.lwa e1.lwb e2.lwc e3.lwd e4.lwe e8.lwi f0.lwk f1.lwl f4.lwo f7.lwr g0.lwu g1.lwv g2.lww g3.lwx g6.lxa g7.lxb g8.lxc g9.lxd h0.lxe h1.lxf h2.lxg h3.lxh h4.lxi h5.lxj
/-! A land begun: paper, text, load. -/
def bT (TL : List Int) : Int → Int := fun k => if 0 ≤ k ∧ k < TL.length then TL.getD k.toNat 0 else -1
section LXK
variable {m m' : jm_Mem} {X : Nat × (Nat → Int32)} {v w μ : Nat → Int → Int} {d g : Nat} {E R : Int} {T c s : Nat} {L : seL} {TL : List Int}
theorem tX11_load_1 {b : Int → Int} {n : Nat} {u : (Nat → Int → Int) × Nat} (h : TB v b n) (hT : T < 1000000000) (hu : suP b (fun _ _ => 0) = .inr u) : ∃ v' w', jm_env (d + 11) 98 [.ref 0] (qM X v w T c s) = some (.inl (some (.int (i3 (u.1 412 0)))), qM X v' w' T c s) ∧ v' 5 5 = 0 ∧ v' 1 1 = 0 ∧ ldQ v' v (arU u.1) ∧ frE v' v := by
  obtain ⟨-, h2⟩ := tX11_readSetup (d := d) (X := X) (w := w) (T := T) (c := c) (s := s) (μ := fun _ _ => 0) h (fun _ _ _ => rfl) hT
  obtain ⟨v1, w1, x1, x2, x3, x4, x5, x6⟩ := h2 u hu
  have ec : v1 14 2 = u.1 412 0 := by
    rw [x5.1.1.2.2.1]
    unfold arU
    exact up_ne (by omega)
  have o14 := oLnd_14
  refine ⟨v1, w1, ?_, x2, x4, x5, x6⟩
  show jm_env (d + 10 + 1) 98 [.ref 0] (qM X v w T c s) = _
  simp (disch := first | assumption | omega) only [eX11_load, bX11_load_0, bX11_load_7, bX11_load_17, bX11_load_18, r11_5, g4_2, i3_add, i3_sub, i3_mul, i3_neg, i6_add, i6_sub, i6_mul, i6_neg, i3_lt, i3_le, i3_eq, i6_lt, i6_eq, i3_div, i6_div, i6_i3, i3_i6, c6_lt, c6_ge, c6_gt, c6_le, c6_eq, i3_ite, i6_ite, ib_0, ib_z, ite_not, i1_0, i0_0, jB_1, jB_0, jB_ib, bI_v, bL_v, bD_v, bV_v, ob_s, ob_i, i3_ofNat, jx_e, bI_e, bL_e, bD_e, bV_e, i3_eq0, i6_eq0, if_mx, if_mn, if_true, if_false, not_true_eq_false, not_false_eq_true, Int.reduceEq, Int.reduceLT, Int.reduceLE, x1, ec]
theorem szV_k {k : Nat} {i : Int} (hk : k ≠ 412) : ∀ (l : List (Int × Int)) (μ : Nat → Int → Int), szV μ i l k = μ k := by
  intro l
  induction l with
  | nil => intro μ; rfl
  | cons e l ih => intro μ; exact (ih _).trans (up_b hk)
theorem srV_k {k : Nat} (hk : k ≠ 412) : ∀ (L : seL) (μ : Nat → Int → Int), srV μ L k = μ k := by
  intro L
  induction L with
  | nil => intro μ; rfl
  | cons e L ih => intro μ; exact ((ih _).trans (szV_k hk _ _)).trans (cm_b hk)
theorem srV_h {k : Int} (k0 : 0 < k) (k1 : k < 12) : ∀ (L : seL) (μ : Nat → Int → Int), 0 ≤ μ 412 0 → (∀ e ∈ L, ∀ x ∈ e.2.2, 0 ≤ x.1 ∧ x.1 ≤ 9) → srV μ L 412 k = μ 412 k := by
  intro L
  induction L with
  | nil => intro μ _ _; rfl
  | cons e L ih =>
    intro μ h0 he
    obtain ⟨w, h, l⟩ := e
    have hb : ∀ x ∈ l, 0 ≤ x.1 ∧ x.1 ≤ 9 := he (w, h, l) List.mem_cons_self
    refine (ih _ ?_ fun e h => he e (List.mem_cons_of_mem _ h)).trans ?_
    · rw [szV_o l _ hb (by omega), cm_0 h0]
      omega
    · rw [szV_o l _ hb (by omega), cm_o (by omega) (by omega)]
theorem bT_s : sfx (bT TL) 0 TL := fun j => by
  unfold bT
  by_cases c : j < TL.length
  · rw [if_pos (by omega), show ((0 + j : Nat) : Int).toNat = j by omega, List.getD_eq_getElem?_getD, List.getD_eq_getElem?_getD, List.getElem?_eq_getElem c]
    rfl
  · rw [if_neg (by omega), List.getD_eq_getElem?_getD, List.getElem?_eq_none (by omega)]
    rfl
theorem bT_ok (h : TL.length ≤ 600) (hb : ∀ k, k < TL.length → 0 ≤ TL.getD k 0 ∧ TL.getD k 0 < 128) : okB (bT TL) TL.length := by
  refine ⟨h, fun k k0 k1 => ?_, fun k hk => ?_⟩
  · unfold bT
    rw [if_pos ⟨k0, k1⟩]
    have := hb k.toNat (by omega)
    omega
  · unfold bT
    exact if_neg (by omega)
theorem TX_TB (h : TX v TL.length (fun k => TL.getD k.toNat 0)) : TB v (bT TL) TL.length := by
  obtain ⟨h1, h2, h3⟩ := h
  refine ⟨?_, h2, h1⟩
  funext k
  unfold bat bT
  rw [h2]
  by_cases c : 0 ≤ k ∧ k < TL.length
  · rw [if_pos c, if_pos c]
    exact h3 k c.1 c.2
  · rw [if_neg c, if_neg c]
theorem TX_b (h : bOk v 1) : TX v (v 1 1) (fun k => v 2 k) := ⟨h, rfl, fun _ _ _ => rfl⟩
theorem isSL_c {b e : Nat} (h : isSL m b e TL) : ∀ k, k < TL.length → 0 ≤ TL.getD k 0 ∧ TL.getD k 0 < 128 := by
  intro k hk
  obtain ⟨cap, -, ⟨T', ⟨G, -, q2⟩, q3⟩, q4, -⟩ := h
  have := (q2 k (by omega)).2
  rw [q3 k hk] at this
  exact this
/-- the numbers that are behind a land's beginning -/
theorem num_b (ho : okE E R L) (hc : ∀ k, k < (suT E R L).length → 0 ≤ (suT E R L).getD k 0 ∧ (suT E R L).getD k 0 < 128) (e0 : 0 ≤ E) (e1 : E ≤ 50) (r0 : 1 ≤ R) (r1 : R ≤ 500) (hl : L.length ≤ 3) : ∃ q, suP (bT (suT E R L)) (fun _ _ => 0) = .inr (srV (muE E R) L, q) ∧ suM (srV (muE E R) L) ∧ srV (muE E R) L 412 1 = E ∧ srV (muE E R) L 412 2 = R := by
  obtain ⟨a1, a2, a3, a4, a5⟩ := ho
  obtain ⟨q, h⟩ := suP_t (b := bT (suT E R L)) bT_s e0 e1 r0 r1 (by omega) a1
  have hb : ∀ e ∈ L, ∀ x ∈ e.2.2, 0 ≤ x.1 ∧ x.1 ≤ 9 := fun e he x hx => by have := (a5 e he x hx).1; omega
  have m0 : (0 : Int) ≤ muE E R 412 0 := by
    unfold muE
    rw [up_ne (by omega), up_ne (by omega)]
    omega
  refine ⟨q, h, (suP_s (bT_ok (by omega) hc) (fun _ _ _ => rfl) h).1, ?_, ?_⟩
  · rw [srV_h (by omega) (by omega) L _ m0 hb]
    unfold muE
    rw [up_ne (by omega), up_eq]
  · rw [srV_h (by omega) (by omega) L _ m0 hb]
    unfold muE
    rw [up_eq]
end LXK
