-- uses 24.zar 25.obj 26.ops 30.rd 31.re 34.gen 38.mod 46.mo8 51.moe 55.clc 74.cls 75.wra d8.frm d9.frn e0.lwa e1.lwb e2.lwc e3.lwd e4.lwe e8.lwi f0.lwk f1.lwl f4.lwo f7.lwr g0.lwu g1.lwv g2.lww g4.lwy g5.lwz g8.lxc g9.lxd h0.lxe h1.lxf h2.lxg
/-! A series more. -/
def exP (P : Nat → Nat) (i s : Nat) : Nat → Nat := fun j => if 4 + 4 * i ≤ j ∧ j < 8 + 4 * i then s + (j - (4 + 4 * i)) else P j
def setP (P : Nat → Nat) (e : Nat) : Nat → Nat := fun j => if j = 2 then e else P j
section LXH
variable {m m' : jm_Mem} {X : Nat × (Nat → Int32)} {v w μ : Nat → Int → Int} {P : Nat → Nat} {i K g b e d : Nat} {E R : Int} {TL SL : List Int}
theorem IB_K {S : Nat → Prop} {k : Nat} (h : IB m X v w P i K g b e E R μ TL) (hm : m'.1 ≤ 1000000) (f : frK m m' S k) (hS : ∀ j, S j → m.1 ≤ j ∧ j < 1000000) : IB m' X v w P i K g b e E R μ TL := by
  obtain ⟨h1, ⟨u, h2⟩, h3, h4, ⟨cap, h5⟩, h6⟩ := h
  obtain ⟨a1, a2, a3, a4, a5, a6, a7, a8, a9, a10⟩ := id h3
  have g1 := f.1
  have no : ∀ j, (j < m.1 ∨ 1000000 ≤ j) → m'.2.1 j = m.2.1 j := fun j hj => f.2.2.2.2 j hj fun q => by have := hS j q; omega
  exact ⟨CR_fr h1 f h6 (fun j q => by have := hS j q; omega), ⟨u, isA_fr h2 (no g (Or.inl a3.2))⟩, nmI_m h3 g1, LHq_fr h4 g1 (fun j hj => no _ (nmI_old h3 hj)), ⟨cap, isSB_fr h5 g1 (no b (Or.inl a4.2)) (no e (Or.inl a5.2))⟩, by omega⟩
/-- .. with its four cells, behind the others -/
theorem IB_ext {s : Nat} {ws hs : Int} (h : IB m X v w P i i g b e E R μ TL) (hs' : isS m s (s + 1) (s + 2) (s + 3) (fun n => (hv (ws, hs) n.toNat).1) (fun n => (hv (ws, hs) n.toNat).2) (fun _ => 0)) (hsm : s + 4 ≤ m.1) (hm : m.1 ≤ 1000000) (hn : ∀ j, (j < 4 + 4 * i ∧ (j ≠ 2 ∨ 1 ≤ i)) → P j < s) (hg : g < s ∧ b < s ∧ e < s) (h411 : 411 ≤ s) (hi : μ 412 0 = i) (hz : ∀ k : Int, 12 + 13 * (i : Int) + 3 ≤ k → k < 12 + 13 * (i : Int) + 13 → μ 412 k = 0) {x : Int} : IB m X v w (exP P i s) i (i + 1) g b e E R (cmV μ x ws hs) TL := by
  obtain ⟨h1, h2, h3, ⟨q1, ⟨cq, q2⟩, q3, q4⟩, h5, h6⟩ := h
  obtain ⟨a1, a2, a3, a4, a5, a6, a7, a8, a9, a10⟩ := id h3
  have hdc : 1000000 ≤ jm_dcp := by decide
  have eo : ∀ j, j < 4 + 4 * i → exP P i s j = P j := fun j hj => if_neg (by omega)
  have en : ∀ j, 4 + 4 * i ≤ j → j < 8 + 4 * i → exP P i s j = s + (j - (4 + 4 * i)) := fun j h0 h1 => if_pos ⟨h0, h1⟩
  have c0 : 0 ≤ μ 412 0 := by omega
  have hold : ∀ j, j < 4 + 4 * i → P j < s ∨ s + 4 ≤ P j := fun j hj => by
    by_cases c : j ≠ 2 ∨ 1 ≤ i
    · exact Or.inl (hn j ⟨hj, c⟩)
    · have : j = 2 ∧ i = 0 := by omega
      rw [this.1, a10 this.2]
      exact Or.inr (by omega)
  refine ⟨h1, h2, ⟨fun j hj hk => ?_, fun j k hj hk q => ?_, a3, a4, a5, fun j hj => ?_, a7, a8, a9, fun q => by rw [eo 2 (by omega)]; exact a10 q⟩, ⟨?_, ⟨cq, ?_⟩, ?_, fun j hj => ?_⟩, h5, h6⟩
  · by_cases c : j < 4 + 4 * i
    · rw [eo j c]; exact a1 j c hk
    · rw [en j (by omega) (by omega)]; omega
  · by_cases c : j < 4 + 4 * i
    · by_cases c2 : k < 4 + 4 * i
      · rw [eo j c, eo k c2] at q; exact a2 j k c c2 q
      · rw [eo j c, en k (by omega) (by omega)] at q
        rcases hold j c with y | y <;> omega
    · by_cases c2 : k < 4 + 4 * i
      · rw [eo k c2, en j (by omega) (by omega)] at q
        rcases hold k c2 with y | y <;> omega
      · rw [en j (by omega) (by omega), en k (by omega) (by omega)] at q
        omega
  · by_cases c : j < 4 + 4 * i
    · rw [eo j c]; exact a6 j c
    · rw [en j (by omega) (by omega)]; omega
  · rw [eo 0 (by omega), eo 1 (by omega), eo 3 (by omega)]; exact q1
  · rw [eo 1 (by omega), eo 2 (by omega)]
    exact isLs_cg q2 fun k hk => (eo _ (by omega)).symm
  · rw [eo 3 (by omega)]; exact q3
  · by_cases c : j = i
    · subst c
      have e1 : szM (cmV μ x ws hs) j = fun n => hv (ws, hs) n.toNat := by
        funext n
        unfold szM
        rw [← hi, cm_1 c0, cm_2 c0]
      rw [en _ (by omega) (by omega), en _ (by omega) (by omega), en _ (by omega) (by omega), en _ (by omega) (by omega), show s + (4 + 4 * j - (4 + 4 * j)) = s by omega, show s + (5 + 4 * j - (4 + 4 * j)) = s + 1 by omega, show s + (6 + 4 * j - (4 + 4 * j)) = s + 2 by omega, show s + (7 + 4 * j - (4 + 4 * j)) = s + 3 by omega]
      obtain ⟨s1, s2, s3, s4⟩ := hs'
      refine ⟨s1, isA_cg s2 fun k _ _ => ?_, isA_cg s3 fun k _ _ => ?_, isA_cg s4 fun k k0 k1 => ?_⟩
      · show _ = (szM (cmV μ x ws hs) j k).1; rw [e1]
      · show _ = (szM (cmV μ x ws hs) j k).2; rw [e1]
      · show 0 = kM (cmV μ x ws hs) j k
        rw [cm_k c0 (by omega) k0 (by omega)]
        exact (hz _ (by omega) (by omega)).symm
    · obtain ⟨s1, s2, s3, s4⟩ := q4 j (by omega)
      have e1 : szM (cmV μ x ws hs) j = szM μ j := by
        funext n
        unfold szM
        rw [cm_o (by omega) (by omega), cm_o (by omega) (by omega)]
      rw [eo _ (by omega), eo _ (by omega), eo _ (by omega), eo _ (by omega)]
      refine ⟨s1, isA_cg s2 fun k _ _ => ?_, isA_cg s3 fun k _ _ => ?_, isA_cg s4 fun k k0 k1 => ?_⟩
      · show (szM μ j k).1 = (szM (cmV μ x ws hs) j k).1; rw [e1]
      · show (szM μ j k).2 = (szM (cmV μ x ws hs) j k).2; rw [e1]
      · show kM μ j k = kM (cmV μ x ws hs) j k
        rw [cm_k c0 (by omega) k0 (by omega)]
/-- the series put to the land -/
theorem IB_add (h : IB m X v w P i (i + 1) g b e E R μ TL) (hi : i ≤ 5) (hm : m.1 < 900000) : ∃ m' e', jm_env (d + 5) 175 [.ref (P 1), .ref (P (4 + 4 * i))] m = some (.inl (some (.int (i3 1))), m') ∧ IB m' X v w (setP P e') (i + 1) (i + 1) g b e E R μ TL ∧ bd m m' 1 := by
  obtain ⟨h1, ⟨u, h2⟩, h3, ⟨q1, ⟨cq, q2⟩, q3, q4⟩, ⟨cap, h5⟩, h6⟩ := h
  obtain ⟨a1, a2, a3, a4, a5, a6, a7, a8, a9, a10⟩ := id h3
  have hdc : 1000000 ≤ jm_dcp := by decide
  obtain ⟨m', e', cap', r, l, le, f⟩ := sAL_add (d := d) (kd := 12) (x := P (4 + 4 * i)) q2 (by omega) (Or.inr (Or.inr rfl)) (fun k hk => by
    have n1 := a1 (4 + 4 * k) (by omega) (Or.inl (by omega))
    exact ⟨elt_o (q4 k (by omega)).1 (by omega) (Or.inl rfl), fun q => by have := a2 _ _ (by omega) (by omega) q; omega, Or.inl n1.2⟩) (by
    have n1 := a1 (4 + 4 * i) (by omega) (Or.inl (by omega))
    exact ⟨elt_o (q4 i (by omega)).1 (by omega) (Or.inl rfl), fun q => by have := a2 _ _ (by omega) (by omega) q; omega, Or.inl n1.2⟩) (by omega)
  have g1 := f.1
  have g2 := f.2.1
  have he' : 411 ≤ e' ∧ e' < m'.1 ∧ (∀ j, j < 4 + 4 * (i + 1) → j ≠ 2 → P j ≠ e') ∧ e' ≠ g ∧ e' ≠ b ∧ e' ≠ e := by
    have e1 := isLs_n l (by omega)
    rcases le with q | q
    · have : P 2 < m'.1 := by rw [← q]; exact e1
      by_cases c : 1 ≤ i
      · have n2 := a1 2 (by omega) (Or.inr c)
        have n6 := a6 2 (by omega)
        rw [q]
        exact ⟨n2.1, by omega, fun j hj hne t => hne (a2 _ _ hj (by omega) t), n6.1, n6.2.1, n6.2.2⟩
      · rw [a10 (by omega)] at this
        omega
    · refine ⟨by omega, e1, fun j hj hne => ?_, by omega, by omega, by omega⟩
      have := a1 j hj (Or.inl hne)
      omega
  have no : ∀ j, (j < m.1 ∨ 1000000 ≤ j) → j ≠ P 1 → j ≠ P 2 → m'.2.1 j = m.2.1 j := fun j hj y1 y2 => f.2.2.2.2 j hj fun q => q.elim y1 fun q => y2 q.1
  have n1 := a1 1 (by omega) (Or.inl (by omega))
  have so : ∀ j, j ≠ 2 → setP P e' j = P j := fun j hj => if_neg hj
  have s2 : setP P e' 2 = e' := if_pos rfl
  have pn : ∀ j, j < 4 + 4 * (i + 1) → j ≠ 1 → j ≠ 2 → m'.2.1 (P j) = m.2.1 (P j) := fun j hj y1 y2 => no _ (nmI_old h3 hj) (fun q => y1 (a2 _ _ hj (by omega) q)) (fun q => y2 (a2 _ _ hj (by omega) q))
  have pg := a6 1 (by omega)
  have pg2 := a6 2 (by omega)
  refine ⟨m', e', r, ⟨CR_fr h1 f h6 (fun j q => ?_), ⟨u, isA_fr h2 (no g (Or.inl a3.2) (fun q => pg.1 q.symm) (fun q => pg2.1 q.symm))⟩, ⟨fun j hj hk => ?_, fun j k hj hk q => ?_, by omega, by omega, by omega, fun j hj => ?_, a7, a8, a9, fun q => by omega⟩, ⟨?_, ⟨cap', ?_⟩, ?_, fun j hj => ?_⟩, ⟨cap, isSB_fr h5 g1 (no b (Or.inl a4.2) (fun q => pg.2.1 q.symm) (fun q => pg2.2.1 q.symm)) (no e (Or.inl a5.2) (fun q => pg.2.2 q.symm) (fun q => pg2.2.2 q.symm))⟩, by omega⟩, bd_K f⟩
  · rcases q with q | ⟨q, q'⟩
    · rw [q]; omega
    · by_cases c : 1 ≤ i
      · have := a1 2 (by omega) (Or.inr c)
        omega
      · rw [a10 (by omega)] at q'
        omega
  · by_cases c : j = 2
    · rw [c, s2]; omega
    · rw [so j c]
      have := a1 j hj (Or.inl c)
      omega
  · by_cases c : j = 2
    · by_cases c2 : k = 2
      · omega
      · rw [c, s2, so k c2] at q
        exact absurd q.symm (he'.2.2.1 k hk c2)
    · by_cases c2 : k = 2
      · rw [c2, s2, so j c] at q
        exact absurd q (he'.2.2.1 j hj c)
      · rw [so j c, so k c2] at q
        exact a2 j k hj hk q
  · by_cases c : j = 2
    · rw [c, s2]; exact he'.2.2.2
    · rw [so j c]; exact a6 j hj
  · rw [so 0 (by omega), so 1 (by omega), so 3 (by omega)]
    exact isO_fr q1 (pn 0 (by omega) (by omega) (by omega))
  · rw [so 1 (by omega), s2]
    refine isLs_cg l fun k hk => ?_
    rw [so _ (by omega)]
    by_cases c : k = i
    · rw [if_pos c, c]
    · rw [if_neg c]
  · rw [so 3 (by omega)]
    exact isL_fr q3 (pn 3 (by omega) (by omega) (by omega))
  · obtain ⟨s1, s2', s3, s4⟩ := q4 j hj
    rw [so _ (by omega), so _ (by omega), so _ (by omega), so _ (by omega)]
    exact ⟨isO_fr s1 (pn _ (by omega) (by omega) (by omega)), isA_fr s2' (pn _ (by omega) (by omega) (by omega)), isA_fr s3 (pn _ (by omega) (by omega) (by omega)), isA_fr s4 (pn _ (by omega) (by omega) (by omega))⟩
end LXH
