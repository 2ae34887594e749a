-- uses 24.zar 25.obj 26.ops 29.rc 30.rd 31.re 34.gen 35.byt 38.mod 39.mo2 46.mo8 51.moe 53.cla 55.clc 60.clh 62.clj 64.okm 65.cll 74.cls 75.wra 93.tka 94.tkb 97.srp a1.srs c0.foa d8.frm d9.frn e0.lwa e1.lwb e2.lwc e3.lwd e4.lwe e8.lwi f0.lwk f1.lwl f4.lwo f7.lwr g0.lwu g1.lwv g2.lww g3.lwx g6.lxa g7.lxb g8.lxc g9.lxd h0.lxe h1.lxf h2.lxg h3.lxh h4.lxi h5.lxj h6.lxk
/-! A land begun. -/
section LXL
variable {m m' : jm_Mem} {X : Nat × (Nat → Int32)} {v w μ : Nat → Int → Int} {d g : Nat}
theorem sL_begins {u : Int → Int} (hC : CR m X v w) (hb : bOk v 1) (h78 : 0 ≤ v 78 1 ∧ v 78 1 ≤ 8) (hA : isA m g 1 u) (hg : 411 ≤ g ∧ g < m.1) (h411 : 411 ≤ m.1) (hm : m.1 < 300000) : ∃ m' P v' w' μ, jm_env (d + 13) 12 [.ref 0, .ref g] m = some (.inl (some (.ref (P 0))), m') ∧ ST m' X P g v' w' μ 2 ∧ bd m m' 1100 := by
  obtain ⟨m1, P, e, b, E, R, L, y5, y6, r1, b1, ok1, l1, l3, ⟨E0, E1⟩, ⟨R0, R1⟩, d1⟩ := sL_begins_a (d := d + 4) hC hA hg h411 hm
  have hd1 := d1.2.1
  have hd1' := d1.1
  obtain ⟨h1, ⟨u1, h2⟩, h3, h4, h5, h6⟩ := id b1
  obtain ⟨a1, a2, a3, a4, a5, a6, a7, a8, a9, a10⟩ := id h3
  have hdc : 1000000 ≤ jm_dcp := by decide
  have hTb := isSL_c h5
  have hlen := ok1.2.2.2.1
  obtain ⟨q, hsu, hS, mE, mR⟩ := num_b ok1 hTb E0 E1 R0 R1 l3
  have mK : srV (muE E R) L 412 0 = L.length := ok1.2.1
  generalize hTL : suT E R L = TL at b1 h5 hTb hlen hsu
  have hk : ∀ k : Nat, k ≠ 412 → srV (muE E R) L k = fun _ => 0 := fun k hk => by
    rw [srV_k hk]
    unfold muE
    rw [up_b hk, up_b hk]
  generalize hμ : srV (muE E R) L = μ at b1 h4 hsu hS mE mR mK hk
  have hK : (μ 412 0).toNat = L.length := by omega
  have hg4 := hS.1
  have okm := okM_ar (m := 2) hS (by omega)
  have hLH : LH m1 P (μ 412 0).toNat (μ 412 1) (μ 412 2) (fun _ => 0) (wM μ) (hM μ) (kkM μ) := by
    rw [hK, mE, mR]
    exact h4
  have hp := sL_paper (d := d + 9) hLH (LM_o hg4 (by omega))
  have hP : ∀ j, j < 4 + 4 * L.length → 411 ≤ P j ∧ P j < m1.1 := fun j hj => a1 j hj (Or.inr l1)
  have hA2 := areaG_b hg4 L.length (by omega)
  have hAr : fo2 (fun a k n => a + kkM μ k n * (wM μ k n * hM μ k n)) 0 (μ 412 0).toNat = fo2 (areaG μ) 0 L.length := by rw [hK]; rfl
  rw [hAr] at hp
  obtain ⟨m2, r2, A2, f2⟩ := q_wL (z := 0) (y := fo2 (areaG μ) 0 L.length) h4.2.2.1 (by omega) (by omega) (by omega)
  have n2 : m2.1 = m1.1 := f2.1
  have p3 := hP 3 (by omega)
  obtain ⟨cap, s1⟩ := h5
  have s2 : isSB m2 b e cap TL.length (fun k => TL.getD k 0) := isSB_fr s1 (by omega) (f2.2.2 _ fun q => (a6 3 (by omega)).2.1 q.symm) (f2.2.2 _ fun q => (a6 3 (by omega)).2.2 q.symm)
  obtain ⟨m3, s', e', r3, t3, q1, q2, f3⟩ := sSB_toS (d := d + 6) s2 hTb (by omega)
  have n3 := f3.1
  have n3' := f3.2.1
  have c2 : CR m2 X v w := CR_f1 h1 f2 (by omega)
  have c3 : CR m3 X v w := CR_fr c2 f3 (by omega) (fun _ q => q.elim)
  have hb0 := hb.1
  have hb1 := hb.2.1
  have hbc : (bcap 1 : Int) = 600 := rfl
  obtain ⟨m4, v4, w4, r4, c4, t4, k4, f4⟩ := sL_feeds (d := d + 7) c3 (TX_b hb) hb0 (by omega) t3 (by omega) hTb (by omega) (by omega)
  have n4 := f4.1.1
  have n4' := f4.1.2.1
  obtain ⟨v5, w5, e5, z1, z2, z3, z4⟩ := tX11_load_1 (d := d + 1) (X := X) (v := v4) (w := w4) (T := 0) (c := 0) (s := 0) (TX_TB t4) (by omega) hsu
  obtain ⟨m5, r5, c5, f5⟩ := cr_call c4 fS_i0 e5
  have n5 : m5.1 = m4.1 := f5.1
  have e6 := cX11_errorCode (d := d + 11) (X := X) (v := v5) (w := w5) (T := 0) (c := 0) (s := 0)
  rw [z1] at e6
  obtain ⟨m6, r6, c6, f6⟩ := cr_call c5 fS_i0 e6
  have n6 : m6.1 = m5.1 := f6.1
  have no : ∀ j, 411 ≤ j → j < m1.1 → j ≠ P 3 → m6.2.1 j = m1.2.1 j := fun j j0 j1 j2 => by
    rw [f6.2.2 j (fP_no (by omega)), f5.2.2 j (fP_no (by omega)), f4.2 j (by omega) (fP_no (by omega)) id, f3.2.2.2.2 j (Or.inl (by omega)) id, f2.2.2 j j2]
  have no5 : ∀ j, 411 ≤ j → j < m1.1 → j ≠ P 3 → m5.2.1 j = m1.2.1 j := fun j j0 j1 j2 => by
    rw [f5.2.2 j (fP_no (by omega)), f4.2 j (by omega) (fP_no (by omega)) id, f3.2.2.2.2 j (Or.inl (by omega)) id, f2.2.2 j j2]
  have no6 : m6.2.1 (P 3) = m2.2.1 (P 3) := by rw [f6.2.2 _ (fP_no (by omega)), f5.2.2 _ (fP_no (by omega)), f4.2 _ (by omega) (fP_no (by omega)) id, f3.2.2.2.2 _ (Or.inl (by omega)) id]
  have P3n : ∀ j, j < 4 + 4 * L.length → j ≠ 3 → P j ≠ P 3 := fun j hj h3 q => h3 (a2 j 3 hj (by omega) q)
  have ar : ∀ k : Int, k ≠ 4 → arU μ 412 k = μ 412 k := fun k hk => up_ne (by omega)
  have arz : ∀ i n : Int, 0 ≤ i → szM (arU μ) i n = szM μ i n := fun i n hi => szM_up (by omega)
  have arr : ∀ j : Nat, j < L.length → isS m6 (P (4 + 4 * j)) (P (5 + 4 * j)) (P (6 + 4 * j)) (P (7 + 4 * j)) (wM (arU μ) j) (hM (arU μ) j) (kkM (arU μ) j) := fun j hj => by
    obtain ⟨x1, x2, x3, x4⟩ := h4.2.2.2 j hj
    have pn : ∀ i, 4 ≤ i → i < 8 → m6.2.1 (P (i + 4 * j)) = m1.2.1 (P (i + 4 * j)) := fun i i0 i1 => no _ (hP _ (by omega)).1 (hP _ (by omega)).2 (P3n _ (by omega) (by omega))
    refine ⟨isO_fr x1 (pn 4 (by omega) (by omega)), isA_cg (isA_fr x2 (pn 5 (by omega) (by omega))) (fun k _ _ => ?_), isA_cg (isA_fr x3 (pn 6 (by omega) (by omega))) (fun k _ _ => ?_), isA_cg (isA_fr x4 (pn 7 (by omega) (by omega))) (fun k k0 _ => ?_)⟩
    · show (szM μ j k).1 = (szM (arU μ) j k).1
      rw [arz _ _ (by omega)]
    · show (szM μ j k).2 = (szM (arU μ) j k).2
      rw [arz _ _ (by omega)]
    · exact (ar _ (by omega)).symm
  have aK : (arU μ 412 0).toNat = L.length := by rw [ar 0 (by omega), hK]
  have p0 := hP 0 (by omega)
  have p1 := hP 1 (by omega)
  have p2 := hP 2 (by omega)
  have e0 : m6.2.1 (P 0) = m1.2.1 (P 0) := no _ p0.1 p0.2 (P3n 0 (by omega) (by omega))
  have e1 : m6.2.1 (P 1) = m1.2.1 (P 1) := no _ p1.1 p1.2 (P3n 1 (by omega) (by omega))
  have e2 : m6.2.1 (P 2) = m1.2.1 (P 2) := no _ p2.1 p2.2 (P3n 2 (by omega) (by omega))
  obtain ⟨cq, l4⟩ := h4.2.1
  have hLM : LM m6 P (arU μ) := by
    unfold LM
    rw [aK, ar 1 (by omega), ar 2 (by omega), mE, mR]
    refine ⟨isO_fr h4.1 e0, ⟨cq, isLs_fr l4 (by omega) e1 e2⟩, isL_cg (isL_fr A2 no6) (fun k k0 k1 => ?_), arr⟩
    show st1 (fun _ => 0) 0 (fo2 (areaG μ) 0 L.length) k = arU μ 412 (4 + k)
    unfold st1
    by_cases c : k = 0
    · rw [if_pos c, c]
      show _ = up μ 412 4 (fo2 (areaG μ) 0 (μ 412 0).toNat) 412 (4 + 0)
      rw [show (4 : Int) + 0 = 4 from rfl, up_eq, hK]
    · rw [if_neg c, ar _ (by omega)]
      exact (hS.2.2.2.2 _ (by omega) (by omega)).symm
  have v78 : v5 78 1 = v 78 1 := by rw [z3.2.2.1, k4 78 (by omega) (by omega)]
  have hk' : ∀ k : Nat, k ≠ 412 → arU μ k = fun _ => 0 := fun k h => (up_b h).trans (hk k h)
  have z7 : arU μ 411 7 = 0 := by rw [hk' 411 (by omega)]
  refine ⟨m6, P, v5, w5, arU μ, ?_, ⟨c6, ⟨z3.1, okm, ⟨⟨?_, ?_, ?_, ?_, ?_⟩, fun j j0 j1 => ?_⟩, fun k k0 k1 => ?_⟩, hLM, ?_, ?_, ⟨u1, isA_fr h2 (no g (by omega) (by omega) fun q => (a6 3 (by omega)).1 q.symm)⟩, by omega, fun j hj => ?_, by omega, by omega, by omega, ⟨?_, ?_, fun k k0 k1 => ?_⟩⟩, ?_⟩
  · have o5 : isO m5 (P 0) 13 [.ref (P 1), .ref (P 3), .int (i3 E), .int (i3 R)] := isO_fr h4.1 (no5 _ p0.1 p0.2 (P3n 0 (by omega) (by omega)))
    have l5 : isLs m5 (P 1) (P 2) cq L.length (fun j => P (4 + 4 * j)) := isLs_fr l4 (by omega) (no5 _ p1.1 p1.2 (P3n 1 (by omega) (by omega))) (no5 _ p2.1 p2.2 (P3n 2 (by omega) (by omega)))
    have hsz := sAL_size (d := d + 11) l5
    have r5' : jm_env (d + 12) 98 [.ref 0] m4 = some (.inl (some (.int (i3 (μ 412 0)))), m5) := r5
    rw [r1, bL_begins_68, ie_le (by omega) (by omega) (by omega) (by omega), if_pos (by omega), bL_begins_243, q_gR h4.1 (k := 1) rfl, ob_s, hp, ob_s, bL_v, r2, ob_s, r3, ob_s, bR_w, r4, ob_s, bI_v, ie_eq (by omega) (by omega) (by omega) (by omega), if_neg (by omega)]
    rw [bL_begins_264, r5', ob_s, bI_v, q_gR o5 (k := 0) rfl, ob_s, hsz, ob_s, bI_v, mK, if_pos rfl, bL_begins_280, r6, ob_s, bI_v, if_pos rfl, bL_begins_287, bL_begins_292]
  · rw [z3.2.1, z7]
  · omega
  · omega
  · rw [v78]; exact h78.1
  · rw [v78]; exact h78.2
  · omega
  · rw [z3.2.2.2.1 k k0 k1, hk' 418 (by omega)]
  · rw [aK]
    exact ⟨fun j hj hk => by have := a1 j hj hk; omega, a2⟩
  · rw [ar 0 (by omega)]; omega
  · rw [aK] at hj; exact (a6 j hj).1
  · rw [z2]; omega
  · rw [z2]; omega
  · rw [z2] at k1; omega
  · exact bd_m (bd_t d1 (bd_t (bd_1 f2) (bd_t (bd_K f3) (bd_t f4.1 (bd_t (bd_C f5) (bd_C f6)))))) (by omega)
end LXL
