-- uses 24.zar 25.obj 26.ops 27.ra 28.rb 29.rc 30.rd 31.re 33.rg 34.gen 35.byt 36.ser 37.lnd 38.mod 39.mo2 40.mo3 44.mo6 45.mo7 46.mo8 51.moe 53.cla 62.clj 64.okm 65.cll 72.clq 73.clr 75.wra 76.wrb 80.wrf 88.ovr 89.rsa 93.tka 94.tkb 96.srd 97.srp a0.srr a1.srs a8.ldp c0.foa d0.ina d1.inb d2.inc d3.ind d4.ine d5.inf d6.ing d7.inh d8.ini d9.inj
/-! The reference's constructor, and where both begin. -/
theorem eqS_g {μ' μ : Nat → Int → Int} (h : eqS μ' μ) (hg : gM μ) : gM μ' := by
  obtain ⟨g0, g1, g2, g3, g4⟩ := hg
  have e0 := h 0 (by omega) (by omega)
  have e1 := h 1 (by omega) (by omega)
  refine ⟨by omega, by omega, by omega, by omega, fun i i0 i1 => ?_⟩
  obtain ⟨o, k⟩ := g4 i i0 (by omega)
  refine ⟨?_, fun n n0 n1 => ?_⟩
  · unfold oM at o ⊢
    rw [h _ (by omega) (by omega), h _ (by omega) (by omega)]
    exact o
  · have := k n n0 n1
    unfold kM at this ⊢
    rw [h _ (by omega) (by omega)]
    exact this
theorem up412 {u u' : Nat → Int → Int} {k z : Int} (h : u 412 = u' 412) : up u 412 k z 412 = up u' 412 k z 412 := by
  funext j
  by_cases g : j = k
  · rw [g, up_eq, up_eq]
  · rw [up_ne (by omega), up_ne (by omega), h]
theorem cm412 {u u' : Nat → Int → Int} {x a b : Int} (h : u 412 = u' 412) : cmV u x a b 412 = cmV u' x a b 412 := by
  unfold cmV
  rw [h]
  exact up412 (up412 (up412 (up412 h)))
def yF (u : Nat → Int → Int) : Nat → Int → Int := up (up (up (cmV (cmV (up (up u 412 1 3) 412 2 50) 19391532 100 141) 409031 60 200) 412 15 10) 412 17 3) 412 28 4
theorem yF_412 {u u' : Nat → Int → Int} (h : u 412 = u' 412) : yF u 412 = yF u' 412 := up412 (up412 (up412 (cm412 (cm412 (up412 (up412 h))))))
theorem yF_0 : (alN 167 (fun k => decide (yF (fun _ _ => 0) 412 k = mF 412 k))) = true := by decide +kernel
theorem yF_b {u : Nat → Int → Int} {m : Nat} (h : m ≠ 412) : yF u m = u m := by
  unfold yF cmV
  rw [up_b h, up_b h, up_b h, up_b h, up_b h, up_b h, up_b h, up_b h, up_b h, up_b h, up_b h, up_b h, up_b h]
theorem yF_S {u : Nat → Int → Int} (h : u 412 = fun _ => 0) : eqS (yF u) mF := fun k k0 k1 => by
  have := of_decide_eq_true (alN_a yF_0 k.toNat (by omega))
  rw [Int.toNat_of_nonneg k0] at this
  rw [yF_412 (u' := fun _ _ => 0) h]
  exact this
section INP
variable {X : Nat × (Nat → Int32)} {u w : Nat → Int → Int} {c s d : Nat}
theorem iX12_b (h : u 412 = fun _ => 0) (hg : gM (yF u)) : ∃ p, tl12 (jm_env (d + 4)) (qM X u w 18 c s) = some (.inl none, qM X (arU (yF u)) (fw w p) 18 c s) := by
  have hT : 18 ≤ 18 := Nat.le_refl _
  obtain ⟨p, e⟩ := sX12_areaOfAll_p (d := d) (X := X) (v := yF u) (w := w) (T := 18) (c := c) (s := s) hT hg
  refine ⟨p, ?_⟩
  have h0 : u 412 0 = 0 := by rw [h]
  have c1 := sX12_comes (d := d + 2) (X := X) (v := up (up u 412 1 3) 412 2 50) (w := w) (T := 18) (c := c) (s := s) (nm := 19391532) (a := 100) (b := 141) hT (by rw [up_ne (by omega), up_ne (by omega)]; omega) (by rw [up_ne (by omega), up_ne (by omega)]; omega) (by omega) (by omega) (by omega) (by omega) (by omega) (by omega)
  have hx : cmV (up (up u 412 1 3) 412 2 50) 19391532 100 141 412 0 = 1 := by
    unfold cmV
    have e2 : up (up u 412 1 3) 412 2 50 412 0 = 0 := by rw [up_ne (by omega), up_ne (by omega)]; exact h0
    rw [e2, up_ne (by omega), up_ne (by omega), up_ne (by omega), up_eq]
    rfl
  have c2 := sX12_comes (d := d + 2) (X := X) (v := cmV (up (up u 412 1 3) 412 2 50) 19391532 100 141) (w := w) (T := 18) (c := c) (s := s) (nm := 409031) (a := 60) (b := 200) hT (by omega) (by omega) (by omega) (by omega) (by omega) (by omega) (by omega) (by omega)
  have e' : jm_env (d + 4) 223 [.ref 411] (qM X (up (up (up (cmV (cmV (up (up u 412 1 3) 412 2 50) 19391532 100 141) 409031 60 200) 412 15 10) 412 17 3) 412 28 4) w 18 c s) = some (.inl (some (.long (i6 (fo2 (areaG (yF u)) 0 (yF u 412 0).toNat)))), qM X (yF u) (fw w p) 18 c s) := e
  unfold tl12
  simp (disch := first | assumption | omega) only [i3_add, i3_sub, i3_mul, i3_neg, i6_add, i6_sub, i6_mul, i6_neg, i3_lt, i3_le, i3_eq, i6_lt, i6_eq, i3_div, i6_div, i6_i3, i3_i6, c6_lt, c6_ge, c6_gt, c6_le, c6_eq, i3_ite, i6_ite, ib_0, ib_z, ite_not, i1_0, i0_0, jB_1, jB_0, jB_ib, bI_v, bL_v, bD_v, bV_v, ob_s, ob_i, i3_ofNat, jx_e, bI_e, bL_e, bD_e, bV_e, i3_eq0, i6_eq0, if_mx, if_mn, if_true, if_false, not_true_eq_false, not_false_eq_true, Int.reduceEq, Int.reduceLT, Int.reduceLE, r12_0, w12_0, c1, c2, sX12_stackAt, Int.mul_zero, Int.add_zero, Int.reduceMul, Int.reduceAdd, e']
  rfl
end INP
