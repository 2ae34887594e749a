-- uses 24.zar 25.obj 26.ops 30.rd 31.re 34.gen 38.mod 46.mo8 51.moe 55.clc 75.wra d8.frm d9.frn e0.lwa e1.lwb e2.lwc e3.lwd e4.lwe e8.lwi f0.lwk f1.lwl f7.lwr g0.lwu g1.lwv g2.lww g8.lxc g9.lxd h0.lxe h1.lxf
/-! The stacks of a new series. -/
def okl (p : Int × Int) (l : List (Int × Int)) (t : Nat) : Prop := (∀ e ∈ l, (0 ≤ e.1 ∧ e.1 < t) ∧ (0 ≤ e.2 ∧ e.2 < 30) ∧ (hv p e.1.toNat).1 * (hv p e.1.toNat).2 ≠ 0) ∧ (l.map Prod.fst).Nodup ∧ l.length ≤ t ∧ (szT l).length ≤ 11 * l.length
section LXG
variable {m m' : jm_Mem} {X : Nat × (Nat → Int32)} {v w μ : Nat → Int → Int} {P : Nat → Nat} {i g b e d : Nat} {E R : Int} {TL SL : List Int}
theorem IB_w (h : IB m X v w P i (i + 1) g b e E R μ TL) {n s : Int} (hm : m.1 ≤ 1000000) (n0 : 0 ≤ n) (n1 : n < 10) : ∃ m', jm_wI m (P (7 + 4 * i)) (i3 n) (i3 s) = some m' ∧ IB m' X v w P i (i + 1) g b e E R (up μ 412 (12 + 13 * i + 3 + n) s) TL ∧ fr1 m m' (P (7 + 4 * i)) := by
  obtain ⟨h1, ⟨u, h2⟩, h3, ⟨q1, ⟨cq, q2⟩, q3, q4⟩, ⟨cap, h5⟩, h6⟩ := h
  obtain ⟨a1, a2, a3, a4, a5, a6, a7, a8, a9, a10⟩ := id h3
  obtain ⟨m', e1, A, f⟩ := q_wI (y := s) (q4 i (by omega)).2.2.2 n0 (by omega : n < (10 : Nat)) (by omega)
  have ht := a1 (7 + 4 * i) (by omega) (Or.inl (by omega))
  have hn := a6 (7 + 4 * i) (by omega)
  have hdc : 1000000 ≤ jm_dcp := by decide
  have ne : ∀ j, j < 4 + 4 * (i + 1) → j ≠ 7 + 4 * i → m'.2.1 (P j) = m.2.1 (P j) := fun j hj hne => f.2.2 _ fun q => hne (a2 _ _ hj (by omega) q)
  have l1 : m.1 ≤ m'.1 := by rw [f.1]; exact Nat.le_refl _
  refine ⟨m', e1, ⟨CR_f1 h1 f (by omega), ⟨u, isA_fr h2 (f.2.2 _ fun q => hn.1 q.symm)⟩, nmI_m h3 l1, ⟨isO_fr q1 (ne 0 (by omega) (by omega)), ⟨cq, isLs_fr q2 l1 (ne 1 (by omega) (by omega)) (ne 2 (by omega) (by omega))⟩, isL_fr q3 (ne 3 (by omega) (by omega)), fun j hj => ?_⟩, ⟨cap, isSB_fr h5 l1 (f.2.2 _ fun q => hn.2.1 q.symm) (f.2.2 _ fun q => hn.2.2 q.symm)⟩, by omega⟩, f⟩
  obtain ⟨s1, s2, s3, s4⟩ := q4 j hj
  have es : ∀ k : Int, szM (up μ 412 (12 + 13 * i + 3 + n) s) j k = szM μ j k := fun k => szM_up (by omega)
  refine ⟨isO_fr s1 (ne _ (by omega) (by omega)), isA_cg (isA_fr s2 (ne _ (by omega) (by omega))) (fun k _ _ => by show (szM μ j k).1 = (szM _ j k).1; rw [es]), isA_cg (isA_fr s3 (ne _ (by omega) (by omega))) (fun k _ _ => by show (szM μ j k).2 = (szM _ j k).2; rw [es]), ?_⟩
  by_cases c : j = i
  · subst c
    refine isA_cg A fun k k0 k1 => ?_
    show st1 (kM μ j) n s k = up μ 412 (12 + 13 * j + 3 + n) s 412 (12 + 13 * j + 3 + k)
    unfold st1
    by_cases c2 : k = n
    · rw [if_pos c2, c2, up_eq]
    · rw [if_neg c2, up_ne (by omega)]; rfl
  · refine isA_cg (isA_fr s4 (ne _ (by omega) (by omega))) fun k k0 k1 => ?_
    show μ 412 (12 + 13 * j + 3 + k) = up μ 412 (12 + 13 * i + 3 + n) s 412 (12 + 13 * j + 3 + k)
    rw [up_ne (by omega)]
theorem okl_m {p : Int × Int} {l : List (Int × Int)} {t : Nat} (h : okl p l t) : okl p l (t + 1) := by
  obtain ⟨h1, h2, h3, h4⟩ := h
  exact ⟨fun e he => by obtain ⟨⟨a, b⟩, c⟩ := h1 e he; exact ⟨⟨a, by omega⟩, c⟩, h2, by omega, h4⟩
theorem okl_a {p : Int × Int} {l : List (Int × Int)} {t : Nat} {s : Int} (h : okl p l t) (ht : t < 10) (s0 : 0 ≤ s) (s1 : s < 30) (ha : (hv p t).1 * (hv p t).2 ≠ 0) : okl p (l ++ [((t : Int), s)]) (t + 1) := by
  obtain ⟨h1, h2, h3, h4⟩ := h
  refine ⟨fun e he => ?_, ?_, by rw [List.length_append]; show l.length + 1 ≤ t + 1; omega, ?_⟩
  · rcases List.mem_append.mp he with he | he
    · obtain ⟨⟨a, b⟩, c⟩ := h1 e he
      exact ⟨⟨a, by omega⟩, c⟩
    · rw [List.mem_singleton.mp he]
      exact ⟨⟨by show (0 : Int) ≤ t; omega, by show (t : Int) < ((t + 1 : Nat) : Int); omega⟩, ⟨s0, s1⟩, ha⟩
  · rw [List.map_append, List.nodup_append]
    refine ⟨h2, by simp, fun a ha' b hb' q => ?_⟩
    obtain ⟨e, he, rfl⟩ := List.mem_map.mp ha'
    have hb' : b = (t : Int) := by simpa using hb'
    have := (h1 e he).1.2
    omega
  · have d1 : (dg (t : Int)).length ≤ 3 := by rw [dg_L (by omega) (by omega)]; unfold dL; split; omega; split <;> omega
    have d1' : (dg (t : Int)).length = 1 := by rw [dg_L (by omega) (by omega)]; exact if_pos (by omega)
    have d2 : (dg s).length ≤ 3 := by rw [dg_L s0 (by omega)]; unfold dL; split; omega; split <;> omega
    have d4 : wSize.length = 4 := rfl
    rw [szT_a, List.length_append, List.length_append]
    simp only [List.length_cons, List.length_append, List.length_nil]
    omega
theorem szL_a {n s : Int} {PRE : List Int} {l : List (Int × Int)} : (((PRE ++ szT l ++ kL 6) ++ dg n) ++ [32]) ++ dg s = PRE ++ szT (l ++ [(n, s)]) := by
  rw [szT_a, kL_6]
  simp only [List.append_assoc, List.cons_append, List.nil_append]
/-- the sizes gone through -/
theorem IB_sizes {a4 : Int} {ws hs : Int} {μc : Nat → Int → Int} {PRE : List Int} (w0 : 1 ≤ ws) (w1 : ws ≤ 2000) (h0 : 1 ≤ hs) (h1 : hs ≤ 2000) (hP : PRE.length ≤ 300) (hz : ∀ n : Int, szM μc i n = hv (ws, hs) n.toNat) (h : IB m X v w P i (i + 1) g b e E R μc PRE) (hm : m.1 < 800000) :
    ∀ t : Nat, t ≤ 10 → ∃ m' e' l, jm_R (jm_env (d + 5)) jmM_L_begins 146 [some (.ref 0), some (.ref g), some (.ref (P 0)), some (.ref b), some (.int (i3 a4)), some (.ref (P (4 + 4 * i))), some (.int (i3 0))] [] m = jm_R (jm_env (d + 5)) jmM_L_begins 146 [some (.ref 0), some (.ref g), some (.ref (P 0)), some (.ref b), some (.int (i3 a4)), some (.ref (P (4 + 4 * i))), some (.int (i3 t))] [] m' ∧ IB m' X v w P i (i + 1) g b e' E R (szV μc i l) (PRE ++ szT l) ∧ okl (ws, hs) l t ∧ bd m m' (25 * t) := by
  have hvb := fun n => hv_b (p := (ws, hs)) ⟨by show 0 ≤ ws; omega, w1, by show 0 ≤ hs; omega, h1⟩ n
  intro t
  induction t with
  | zero => intro _; exact ⟨m, e, [], rfl, by show IB m X v w P i (i + 1) g b e E R μc (PRE ++ []); rw [List.append_nil]; exact h, ⟨fun e he => absurd he List.not_mem_nil, List.nodup_nil, Nat.le_refl _, Nat.le_refl _⟩, bd_0⟩
  | succ t ih =>
    intro ht
    obtain ⟨m1, e1, l, r1, b1, o1, d1⟩ := ih (by omega)
    have hm1 := d1.2.1
    have hsz : ∀ n : Int, szM (szV μc i l) i n = hv (ws, hs) n.toNat := fun n => by
      rw [← hz n]
      unfold szM
      rw [szV_o l _ (fun e he => by have := (o1.1 e he).1; omega) (by omega), szV_o l _ (fun e he => by have := (o1.1 e he).1; omega) (by omega)]
    have s1 := b1.2.2.2.1.2.2.2 i (by omega)
    have hw : okW (wM (szV μc i l) i) (hM (szV μc i l) i) := fun n n0 n1 => by
      show (0 ≤ (szM (szV μc i l) i n).1 ∧ (szM (szV μc i l) i n).1 ≤ 2000) ∧ 0 ≤ (szM (szV μc i l) i n).2 ∧ (szM (szV μc i l) i n).2 ≤ 2000
      rw [hsz]
      have := hvb n.toNat
      omega
    have ea := sX12_ar (d := d + 4) s1 hw (n := (t : Int)) (by omega) (by omega)
    have eA : wM (szV μc i l) i t * hM (szV μc i l) i t = (hv (ws, hs) t).1 * (hv (ws, hs) t).2 := by
      show (szM (szV μc i l) i t).1 * (szM (szV μc i l) i t).2 = _
      rw [hsz]
      rfl
    rw [eA] at ea
    have hb := hvb t
    have hmu := mul_2k hb.1 hb.2.1 hb.2.2.1 hb.2.2.2
    have e153 : jm_R (jm_env (d + 5)) jmM_L_begins 146 [some (.ref 0), some (.ref g), some (.ref (P 0)), some (.ref b), some (.int (i3 a4)), some (.ref (P (4 + 4 * i))), some (.int (i3 t))] [] m1 = if (hv (ws, hs) t).1 * (hv (ws, hs) t).2 = 0 then jm_R (jm_env (d + 5)) jmM_L_begins 218 [some (.ref 0), some (.ref g), some (.ref (P 0)), some (.ref b), some (.int (i3 a4)), some (.ref (P (4 + 4 * i))), some (.int (i3 t))] [] m1 else jm_R (jm_env (d + 5)) jmM_L_begins 165 [some (.ref 0), some (.ref g), some (.ref (P 0)), some (.ref b), some (.int (i3 a4)), some (.ref (P (4 + 4 * i))), some (.int (i3 t))] [] m1 := by
      rw [bL_begins_146, ie_le (by omega) (by omega) (by omega) (by omega), if_neg (by omega), bL_begins_153, ea, ob_s, bL_v, le6_eq (by omega) (by omega) (by omega) (by omega)]
    by_cases c1 : (hv (ws, hs) t).1 * (hv (ws, hs) t).2 = 0
    · refine ⟨m1, e1, l, ?_, b1, okl_m o1, bd_m d1 (by omega)⟩
      rw [r1, e153, if_pos c1, bL_begins_218, i3_add]
      rfl
    · rw [if_neg c1] at e153
      obtain ⟨z, m2, e2, z0, z1, b2, f2⟩ := IB_draw (d := d + 4) b1 (by omega) (k := 3) (by omega) (by omega)
      have hm2 : m2.1 = m1.1 := f2.1
      by_cases c2 : z ≤ 0
      · have s2 := b2.2.2.2.1.2.2.2 i (by omega)
        have s1' := b2.2.2.2.1.2.2.2 i (by omega)
        obtain ⟨s, m3, e3, s0, s1'', b3, f3⟩ := IB_draw (d := d + 4) b2 (by omega) (k := 30) (by omega) (by omega)
        have hm3 : m3.1 = m2.1 := f3.1
        obtain ⟨m4, e4, b4, f4⟩ := IB_w b3 (n := (t : Int)) (s := s) (by omega) (by omega) (by omega)
        have hm4 : m4.1 = m3.1 := f4.1
        have lT := o1.2.2.2
        have lt := o1.2.2.1
        obtain ⟨m5, e5, r5, b5, d5⟩ := IB_str (d := d) b4 (k := 6) (by omega) (by rw [List.length_append, kL_6]; show _ + 6 ≤ 480; omega) (by omega)
        have hm5 := d5.2.1
        obtain ⟨m6, e6, r6, b6, d6⟩ := IB_num (d := d) b5 (z := (t : Int)) (by omega) (by omega) (by rw [List.length_append, List.length_append, kL_6]; show _ + 6 + 3 ≤ 480; omega) (by omega)
        have hm6 := d6.2.1
        have dgt : (dg (t : Int)).length = 1 := by rw [dg_L (by omega) (by omega)]; exact if_pos (by omega)
        obtain ⟨m7, e7, r7, b7, d7⟩ := IB_chr (d := d) b6 (z := 32) (by omega) (by omega) (by rw [List.length_append, List.length_append, List.length_append, kL_6, dgt]; show _ + 6 + 1 + 1 ≤ 480; omega) (by omega)
        have hm7 := d7.2.1
        have s7 := b7.2.2.2.1.2.2.2 i (by omega)
        have r7s : jm_aI m7 (P (7 + 4 * i)) (i3 t) = some (i3 s) := by
          rw [q_aI s7.2.2.2 (z := (t : Int)) (by omega) (by omega) (by omega)]
          show some (i3 (up (szV μc i l) 412 (12 + 13 * i + 3 + (t : Int)) s 412 (12 + 13 * i + 3 + (t : Int)))) = _
          rw [up_eq]
        obtain ⟨m8, e8, r8, b8, d8⟩ := IB_num (d := d) b7 (z := s) s0 (by omega) (by rw [List.length_append, List.length_append, List.length_append, List.length_append, kL_6, dgt]; show _ + 6 + 1 + 1 + 3 ≤ 480; omega) (by omega)
        rw [szL_a, ← szV_a (μ := μc) l μc] at b8
        refine ⟨m8, e8, l ++ [((t : Int), s)], ?_, b8, okl_a o1 (by omega) s0 s1'' c1, bd_m (bd_t d1 (bd_t (bd_1 f2) (bd_t (bd_1 f3) (bd_t (bd_1 f4) (bd_t d5 (bd_t d6 (bd_t d7 d8))))))) (by omega)⟩
        have hsr : jm_str + 6 = 1099511627782 := rfl
        rw [hsr] at r5
        rw [r1, e153, bL_begins_165, e2, ob_s, bI_v, ie_le (by omega) (by omega) (by omega) (by omega), if_pos c2, bL_begins_176, q_gR s2.1 (k := 2) rfl, ob_s, e3, ob_s, bI_v, e4, ob_s, r5, ob_s, bR_w, r6, ob_s, bR_w, r7, ob_s, bR_w, q_gR s7.1 (k := 2) rfl, ob_s, r7s, ob_s, r8, ob_s, bR_w, bL_begins_218, i3_add]
        rfl
      · refine ⟨m2, e1, l, ?_, b2, okl_m o1, bd_m (bd_t d1 (bd_1 f2)) (by omega)⟩
        rw [r1, e153, bL_begins_165, e2, ob_s, bI_v, ie_le (by omega) (by omega) (by omega) (by omega), if_neg c2, bL_begins_173, bL_begins_218, i3_add]
        rfl
end LXG
