-- uses 24.zar 25.obj 26.ops 30.rd 31.re 34.gen 38.mod 46.mo8 51.moe 55.clc 75.wra d8.frm d9.frn e0.lwa e1.lwb e2.lwc e3.lwd e4.lwe e8.lwi f0.lwk f1.lwl f7.lwr g0.lwu g1.lwv g2.lww g8.lxc g9.lxd h0.lxe
/-! The law's land while it is built. -/
def LHq (m : jm_Mem) (P : Nat → Nat) (i K : Nat) (e r : Int) (A : Int → Int) (W H S : Nat → Int → Int) : Prop :=
  isO m (P 0) 13 [.ref (P 1), .ref (P 3), .int (i3 e), .int (i3 r)] ∧ (∃ cap, isLs m (P 1) (P 2) cap i (fun j => P (4 + 4 * j))) ∧ isL m (P 3) 8 A ∧
  (∀ j, j < K → isS m (P (4 + 4 * j)) (P (5 + 4 * j)) (P (6 + 4 * j)) (P (7 + 4 * j)) (W j) (H j) (S j))
/-- the names: of the land, of the drawer, of the text -/
def nmI (m : jm_Mem) (P : Nat → Nat) (i K g b e : Nat) : Prop := (∀ j, j < 4 + 4 * K → (j ≠ 2 ∨ 1 ≤ i) → 411 ≤ P j ∧ P j < m.1) ∧ (∀ j k, j < 4 + 4 * K → k < 4 + 4 * K → P j = P k → j = k) ∧ (411 ≤ g ∧ g < m.1) ∧ (411 ≤ b ∧ b < m.1) ∧ (411 ≤ e ∧ e < m.1) ∧ (∀ j, j < 4 + 4 * K → P j ≠ g ∧ P j ≠ b ∧ P j ≠ e) ∧ g ≠ b ∧ g ≠ e ∧ b ≠ e ∧ (i = 0 → P 2 = jm_dcp)
/-- the text so far -/
def isSL (m : jm_Mem) (b e : Nat) (TL : List Int) : Prop := ∃ cap, isSB m b e cap TL.length (fun k => TL.getD k 0)
def IB (m : jm_Mem) (X : Nat × (Nat → Int32)) (v w : Nat → Int → Int) (P : Nat → Nat) (i K g b e : Nat) (E R : Int) (μ : Nat → Int → Int) (TL : List Int) : Prop :=
  CR m X v w ∧ (∃ f, isA m g 1 f) ∧ nmI m P i K g b e ∧ LHq m P i K E R (fun _ => 0) (wM μ) (hM μ) (kkM μ) ∧ isSL m b e TL ∧ 411 ≤ m.1
section LXF
variable {m m' : jm_Mem} {X : Nat × (Nat → Int32)} {v w μ : Nat → Int → Int} {P : Nat → Nat} {i K g b e d : Nat} {E R : Int} {TL SL : List Int}
theorem LHq_fr {A : Int → Int} {W H S : Nat → Int → Int} (h : LHq m P i K E R A W H S) (h1 : m.1 ≤ m'.1) (hf : ∀ j, j < 4 + 4 * K → m'.2.1 (P j) = m.2.1 (P j)) : LHq m' P i K E R A W H S := by
  obtain ⟨q1, ⟨cap, q2⟩, q3, q4⟩ := h
  refine ⟨isO_fr q1 (hf 0 (by omega)), ⟨cap, isLs_fr q2 h1 (hf 1 (by omega)) (hf 2 (by omega))⟩, isL_fr q3 (hf 3 (by omega)), fun j hj => ?_⟩
  obtain ⟨s1, s2, s3, s4⟩ := q4 j hj
  exact ⟨isO_fr s1 (hf _ (by omega)), isA_fr s2 (hf _ (by omega)), isA_fr s3 (hf _ (by omega)), isA_fr s4 (hf _ (by omega))⟩
theorem nmI_old (h : nmI m P i K g b e) {j : Nat} (hj : j < 4 + 4 * K) : P j < m.1 ∨ 1000000 ≤ P j := by
  by_cases c : j ≠ 2 ∨ 1 ≤ i
  · exact Or.inl (h.1 j hj c).2
  · have : j = 2 ∧ i = 0 := by omega
    rw [this.1, h.2.2.2.2.2.2.2.2.2 this.2]
    exact Or.inr (by decide)
theorem nmI_m (h : nmI m P i K g b e) (h1 : m.1 ≤ m'.1) : nmI m' P i K g b e := by
  obtain ⟨a1, a2, a3, a4, a5, a6⟩ := h
  exact ⟨fun j hj hk => by have := a1 j hj hk; omega, a2, by omega, by omega, by omega, a6⟩
theorem apT_L : ∀ k, k < (TL ++ SL).length → apT (fun k => TL.getD k 0) TL.length (fun k => SL.getD k 0) k = (TL ++ SL).getD k 0 := by
  intro k hk
  unfold apT
  rw [List.getD_eq_getElem?_getD]
  by_cases c : k < TL.length
  · rw [if_pos c, List.getElem?_append_left c]
    exact List.getD_eq_getElem?_getD
  · rw [if_neg c, List.getElem?_append_right (by omega)]
    exact List.getD_eq_getElem?_getD
/-- a number is drawn -/
theorem IB_draw (h : IB m X v w P i K g b e E R μ TL) (hm : m.1 ≤ 1000000) {k : Int} (k0 : 0 < k) (k1 : k < 1000) : ∃ z m', jm_env (d + 1) 3 [.ref g, .int (i3 k)] m = some (.inl (some (.int (i3 z))), m') ∧ 0 ≤ z ∧ z < k ∧ IB m' X v w P i K g b e E R μ TL ∧ fr1 m m' g := by
  obtain ⟨h1, ⟨u, h2⟩, h3, h4, ⟨cap, h5⟩, h6⟩ := h
  obtain ⟨z, m', u', e1, z0, z1, a, f⟩ := sL_draw (d := d) h2 k0 k1
  obtain ⟨a1, a2, a3, a4, a5, a6, a7, a8, a9, a10⟩ := id h3
  refine ⟨z, m', e1, z0, z1, ⟨CR_f1 h1 f (by omega), ⟨u', a⟩, nmI_m h3 (by rw [f.1]; exact Nat.le_refl _), LHq_fr h4 (by rw [f.1]; exact Nat.le_refl _) (fun j hj => f.2.2 _ (a6 j hj).1), ⟨cap, isSB_fr h5 (by rw [f.1]; exact Nat.le_refl _) (f.2.2 _ (fun q => a7 q.symm)) (f.2.2 _ (fun q => a8 q.symm))⟩, by rw [f.1]; exact h6⟩, f⟩
theorem IB_side (h : IB m X v w P i K g b e E R μ TL) (hm : m.1 ≤ 1000000) : ∃ z m', jm_env (d + 2) 11 [.ref g] m = some (.inl (some (.int (i3 z))), m') ∧ 1 ≤ z ∧ z ≤ 240 ∧ IB m' X v w P i K g b e E R μ TL ∧ fr1 m m' g := by
  obtain ⟨h1, ⟨u, h2⟩, h3, h4, ⟨cap, h5⟩, h6⟩ := h
  obtain ⟨z, m', u', e1, z0, z1, a, f⟩ := sL_side (d := d) h2
  obtain ⟨a1, a2, a3, a4, a5, a6, a7, a8, a9, a10⟩ := id h3
  refine ⟨z, m', e1, z0, z1, ⟨CR_f1 h1 f (by omega), ⟨u', a⟩, nmI_m h3 (by rw [f.1]; exact Nat.le_refl _), LHq_fr h4 (by rw [f.1]; exact Nat.le_refl _) (fun j hj => f.2.2 _ (a6 j hj).1), ⟨cap, isSB_fr h5 (by rw [f.1]; exact Nat.le_refl _) (f.2.2 _ (fun q => a7 q.symm)) (f.2.2 _ (fun q => a8 q.symm))⟩, by rw [f.1]; exact h6⟩, f⟩
/-- the text made longer -/
theorem IB_tx {k e' cap' n' : Nat} {T' : Nat → Int} (h : IB m X v w P i K g b e E R μ TL) (hm : m'.1 ≤ 1000000) (hs : isSB m' b e' cap' n' T') (he : e' = e ∨ m.1 ≤ e') (f : frK m m' (fun j => j = b ∨ j = e) k) (hn : n' = (TL ++ SL).length) (hT : ∀ k, k < n' → T' k = (TL ++ SL).getD k 0) : IB m' X v w P i K g b e' E R μ (TL ++ SL) := by
  obtain ⟨h1, ⟨u, h2⟩, h3, h4, h5, h6⟩ := h
  obtain ⟨a1, a2, a3, a4, a5, a6, a7, a8, a9, a10⟩ := id h3
  have g1 := f.1
  have he1 := hs.2.2.2.2.2.1
  have hdc : 1000000 ≤ jm_dcp := by decide
  have hP : ∀ j, j < 4 + 4 * K → P j ≠ e' := fun j hj => by
    rcases he with q | q
    · rw [q]; exact (a6 j hj).2.2
    · by_cases c : j ≠ 2 ∨ 1 ≤ i
      · have := (a1 j hj c).2; omega
      · have : j = 2 ∧ i = 0 := by omega
        rw [this.1, a10 this.2]
        omega
  refine ⟨CR_fr h1 f h6 (fun j q => by omega), ⟨u, isA_fr h2 (f.2.2.2.2 g (Or.inl a3.2) (by omega))⟩, ⟨fun j hj hk => by have := a1 j hj hk; omega, a2, by omega, by omega, by omega, fun j hj => ⟨(a6 j hj).1, (a6 j hj).2.1, hP j hj⟩, a7, by omega, by omega, a10⟩, LHq_fr h4 g1 (fun j hj => f.2.2.2.2 _ (nmI_old h3 hj) (by have := a6 j hj; omega)), ⟨cap', ?_⟩, by omega⟩
  subst hn
  exact isSB_cg hs hT
/-- the strings of the program -/
theorem isK_c (h : CR m X v w) {k : Nat} (hk : k < 7) (hb : ∀ j, j < (jm_strT.getD k []).length → 0 ≤ ((jm_strT.getD k []).getD j 0).toInt ∧ ((jm_strT.getD k []).getD j 0).toInt < 128) : isK m (jm_str + k) (jm_strT.getD k []).length (fun j => ((jm_strT.getD k []).getD j 0).toInt) := by
  have hs : jm_str = 1099511627776 := rfl
  refine ⟨by omega, fun i => (jm_strT.getD k []).getD i 0, ?_, fun j hj => ⟨(Int32.ofInt_toInt _).symm, hb j hj⟩⟩
  rw [h _ (Or.inr (by omega))]
  show (if jm_str + k < 411 + 0 then pl_e (pl_sh (jm_str + k)) (pl_q v w (jm_str + k)) else pl_sp X (jm_str + k)) = _
  rw [if_neg (by omega)]
  unfold pl_sp
  have hsc : jm_scr = 2199023255552 := rfl
  rw [if_neg (by omega), if_pos (by omega), show jm_str + k - jm_str = k by omega]
  rfl
theorem map_gD (l : List Int32) (j : Nat) (h : j < l.length) : (l.map Int32.toInt).getD j 0 = (l.getD j 0).toInt := by
  rw [List.getD_eq_getElem?_getD, List.getD_eq_getElem?_getD, List.getElem?_map, List.getElem?_eq_getElem h]
  rfl
def kL (k : Nat) : List Int := (jm_strT.getD k []).map Int32.toInt
theorem kL_b : ∀ k, k < 7 → ∀ j, j < (jm_strT.getD k []).length → 0 ≤ ((jm_strT.getD k []).getD j 0).toInt ∧ ((jm_strT.getD k []).getD j 0).toInt < 128 := by decide +kernel
theorem kL_4 : kL 4 = wLand ++ [32] := by decide +kernel
theorem kL_5 : kL 5 = 59 :: (wSeries ++ [32]) := by decide +kernel
theorem kL_6 : kL 6 = 32 :: (wSize ++ [32]) := by decide +kernel
theorem CR_dg (h : CR m X v w) : m.2.1 jm_dcp = jm_dcE ∧ m.2.1 jm_dgt = jm_dgE (fun i => i / 10) ∧ m.2.1 jm_dgo = jm_dgE (fun i => i % 10) := by
  refine ⟨?_, ?_, ?_⟩
  · rw [h jm_dcp (Or.inr (by decide))]
    show (if jm_dcp < 411 + 0 then pl_e (pl_sh jm_dcp) (pl_q v w jm_dcp) else pl_sp X jm_dcp) = _
    rw [if_neg (by decide)]
    unfold pl_sp
    rw [if_neg (by decide), if_neg (by decide), if_pos rfl]
  · rw [h jm_dgt (Or.inr (by decide))]
    show (if jm_dgt < 411 + 0 then pl_e (pl_sh jm_dgt) (pl_q v w jm_dgt) else pl_sp X jm_dgt) = _
    rw [if_neg (by decide)]
    unfold pl_sp
    rw [if_neg (by decide), if_neg (by decide), if_neg (by decide), if_pos rfl]
  · rw [h jm_dgo (Or.inr (by decide))]
    show (if jm_dgo < 411 + 0 then pl_e (pl_sh jm_dgo) (pl_q v w jm_dgo) else pl_sp X jm_dgo) = _
    rw [if_neg (by decide)]
    unfold pl_sp
    rw [if_neg (by decide), if_neg (by decide), if_neg (by decide), if_neg (by decide), if_pos rfl]
/-- a constant, a letter, a number put behind the text -/
theorem IB_str (h : IB m X v w P i K g b e E R μ TL) {k : Nat} (hk : k < 7) (hl : TL.length + (kL k).length ≤ 480) (hm : m.1 < 900000) : ∃ m' e', jm_env (d + 5) 158 [.ref b, .ref (jm_str + k)] m = some (.inl (some (.ref b)), m') ∧ IB m' X v w P i K g b e' E R μ (TL ++ kL k) ∧ bd m m' 5 := by
  obtain ⟨h1, h2, h3, h4, ⟨cap, h5⟩, h6⟩ := id h
  have hlen : (kL k).length = (jm_strT.getD k []).length := List.length_map _
  obtain ⟨m', e', cap', r, s, l, f⟩ := sSB_str (d := d) h5 (isK_c h1 hk (kL_b k hk)) (by omega) hm
  refine ⟨m', e', r, IB_tx h (by have := f.2.1; omega) s l f (by rw [List.length_append, hlen]) (fun j hj => ?_), bd_K f⟩
  rw [← apT_L j (by rw [List.length_append, hlen]; exact hj)]
  unfold apT
  by_cases c : j < TL.length
  · rw [if_pos c, if_pos c]
  · rw [if_neg c, if_neg c]
    exact (map_gD _ _ (by omega)).symm
theorem IB_chr (h : IB m X v w P i K g b e E R μ TL) {z : Int} (z0 : 0 ≤ z) (z1 : z < 128) (hl : TL.length + 1 ≤ 480) (hm : m.1 < 900000) : ∃ m' e', jm_env (d + 5) 159 [.ref b, .int (i3 z)] m = some (.inl (some (.ref b)), m') ∧ IB m' X v w P i K g b e' E R μ (TL ++ [z]) ∧ bd m m' 5 := by
  obtain ⟨h1, h2, h3, h4, ⟨cap, h5⟩, h6⟩ := id h
  obtain ⟨m', e', cap', r, s, l, f⟩ := sSB_chr (d := d) h5 z0 z1 hl hm
  refine ⟨m', e', r, IB_tx h (by have := f.2.1; omega) s l f (by rw [List.length_append]; rfl) (fun j hj => ?_), bd_K f⟩
  rw [← apT_L j (by rw [List.length_append]; exact hj)]
  unfold apT
  by_cases c : j < TL.length
  · rw [if_pos c, if_pos c]
  · rw [if_neg c, if_neg c, show j - TL.length = 0 by omega]
    rfl
theorem IB_num (h : IB m X v w P i K g b e E R μ TL) {z : Int} (z0 : 0 ≤ z) (z1 : z < 1000) (hl : TL.length + 3 ≤ 480) (hm : m.1 < 900000) : ∃ m' e', jm_env (d + 5) 160 [.ref b, .int (i3 z)] m = some (.inl (some (.ref b)), m') ∧ IB m' X v w P i K g b e' E R μ (TL ++ dg z) ∧ bd m m' 5 := by
  obtain ⟨h1, h2, h3, h4, ⟨cap, h5⟩, h6⟩ := id h
  obtain ⟨-, d1, d2⟩ := CR_dg h1
  obtain ⟨m', e', cap', r, s, l, f⟩ := sSB_num (d := d) h5 z0 z1 hl hm d1 d2
  have hL := dg_L z0 z1
  refine ⟨m', e', r, IB_tx h (by have := f.2.1; omega) s l f (by rw [List.length_append, hL]) (fun j hj => ?_), bd_K f⟩
  rw [← apT_L j (by rw [List.length_append, hL]; exact hj)]
end LXF
