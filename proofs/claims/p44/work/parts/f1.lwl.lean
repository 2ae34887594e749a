-- uses 24.zar 25.obj 26.ops 30.rd 31.re 34.gen 35.byt 38.mod 39.mo2 42.mo4 43.mo5 44.mo6 45.mo7 46.mo8 47.mo9 49.mob 51.moe 53.cla 58.clf 59.clg 60.clh 62.clj 65.cll 66.clm 68.okg 71.clp d8.frm d9.frn e0.lwa e1.lwb e2.lwc e3.lwd e4.lwe e7.lwh e8.lwi e9.lwj f0.lwk
/-! The law's state: the class and the own land tell the same numbers. -/
def ST (m : jm_Mem) (X : Nat × (Nat → Int32)) (P : Nat → Nat) (g : Nat) (v w μ : Nat → Int → Int) (n : Int) : Prop :=
  CR m X v w ∧ LQ v μ n ∧ LM m P μ ∧ LHn m P (μ 412 0).toNat ∧ 1 ≤ μ 412 0 ∧ (∃ f, isA m g 1 f) ∧ (411 ≤ g ∧ g < m.1) ∧ (∀ j, j < 4 + 4 * (μ 412 0).toNat → P j ≠ g) ∧ 411 ≤ m.1 ∧ 0 ≤ n ∧ n ≤ 1000 ∧ bOk v 1
/-- how much was made -/
def bd (m m' : jm_Mem) (k : Nat) : Prop := m.1 ≤ m'.1 ∧ m'.1 ≤ m.1 + k ∧ m'.2.2.1 ≤ m.2.2.1 + k ∧ m'.2.2.2 ≤ m.2.2.2 + 200 * k
section LWL
variable {m m' : jm_Mem} {X : Nat × (Nat → Int32)} {P : Nat → Nat} {g d : Nat} {v w μ : Nat → Int → Int} {n : Int}
theorem bd_t {m1 : jm_Mem} {k j : Nat} (h : bd m m1 k) (h2 : bd m1 m' j) : bd m m' (k + j) := by
  unfold bd at *
  omega
theorem bd_0 : bd m m 0 := by unfold bd; omega
theorem bd_m {k j : Nat} (h : bd m m' k) (hk : k ≤ j) : bd m m' j := by
  unfold bd at *
  omega
theorem bd_C (h : frC m m') : bd m m' 0 := by
  obtain ⟨h1, h2, -⟩ := h
  unfold bd
  rw [h1, h2]
  omega
theorem bd_K {S : Nat → Prop} {k : Nat} (h : frK m m' S k) : bd m m' k := ⟨h.1, h.2.1, h.2.2.1, h.2.2.2.1⟩
theorem bd_1 {a : Nat} (h : fr1 m m' a) : bd m m' 0 := by
  obtain ⟨h1, h2, -⟩ := h
  unfold bd
  rw [h1, h2]
  omega
theorem fP_no {a : Nat} (h : 411 ≤ a ∧ a < 1000000) : ¬ fP a := by
  have hs : 1000000 ≤ jm_str := by decide
  unfold fP
  omega
/-- .. the class was asked -/
theorem ST_C {w' : Nat → Int → Int} (h : ST m X P g v w μ n) (hm : m.1 ≤ 1000000) (hc : CR m' X v w') (f : frC m m') : ST m' X P g v w' μ n := by
  obtain ⟨h1, h2, h3, h4, h5, ⟨u, h6⟩, h7, h8, h9⟩ := h
  refine ⟨hc, h2, LM_C h3 h4 (by omega) hm f, LHn_C h4 f, h5, ⟨u, isA_fr h6 (f.2.2 g (fP_no (by omega)))⟩, by rw [f.1]; exact h7, h8, by rw [f.1]; exact h9⟩
/-- .. a number was drawn -/
theorem ST_g {u : Int → Int} (h : ST m X P g v w μ n) (hm : m.1 ≤ 1000000) (ha : isA m' g 1 u) (f : fr1 m m' g) : ST m' X P g v w μ n := by
  obtain ⟨h1, h2, h3, h4, h5, h6, h7, h8, h9⟩ := h
  exact ⟨CR_f1 h1 f (by omega), h2, LH_fr h3 (by rw [f.1]; exact Nat.le_refl _) fun j hj => f.2.2 _ (h8 j hj), LHn_f1 h4 f, h5, ⟨u, ha⟩, by rw [f.1]; exact h7, h8, by rw [f.1]; exact h9⟩
theorem ST_draw (h : ST m X P g v w μ n) (hm : m.1 ≤ 1000000) {k : Int} (k0 : 0 < k) (k1 : k < 1000) : ∃ z m', jm_env (d + 1) 3 [.ref g, .int (i3 k)] m = some (.inl (some (.int (i3 z))), m') ∧ 0 ≤ z ∧ z < k ∧ ST m' X P g v w μ n ∧ fr1 m m' g := by
  obtain ⟨u, hu⟩ := h.2.2.2.2.2.1
  obtain ⟨z, m', u', e, z0, z1, a, f⟩ := sL_draw (d := d) hu k0 k1
  exact ⟨z, m', e, z0, z1, ST_g h hm a f, f⟩
theorem ST_side (h : ST m X P g v w μ n) (hm : m.1 ≤ 1000000) : ∃ z m', jm_env (d + 2) 11 [.ref g] m = some (.inl (some (.int (i3 z))), m') ∧ 1 ≤ z ∧ z ≤ 240 ∧ ST m' X P g v w μ n ∧ fr1 m m' g := by
  obtain ⟨u, hu⟩ := h.2.2.2.2.2.1
  obtain ⟨z, m', u', e, z0, z1, a, f⟩ := sL_side (d := d) hu
  exact ⟨z, m', e, z0, z1, ST_g h hm a f, f⟩
theorem fS_i0 : fS [.ref 0] := fS_R (Or.inl (by omega)) fS_0
theorem fS_i1 {a : Int} : fS [.ref 0, .int (i3 a)] := fS_R (Or.inl (by omega)) (fS_I fS_0)
theorem fS_i2 {a b : Int} : fS [.ref 0, .int (i3 a), .int (i3 b)] := fS_R (Or.inl (by omega)) (fS_I (fS_I fS_0))
theorem fS_i3 {a b c : Int} : fS [.ref 0, .int (i3 a), .int (i3 b), .int (i3 c)] := fS_R (Or.inl (by omega)) (fS_I (fS_I (fS_I fS_0)))
theorem fS_i4 {a b c d : Int} : fS [.ref 0, .int (i3 a), .int (i3 b), .int (i3 c), .int (i3 d)] := fS_R (Or.inl (by omega)) (fS_I (fS_I (fS_I (fS_I fS_0))))
theorem fS_i6 {a b c d e f : Int} : fS [.ref 0, .int (i3 a), .int (i3 b), .int (i3 c), .int (i3 d), .int (i3 e), .int (i3 f)] := fS_R (Or.inl (by omega)) (fS_I (fS_I (fS_I (fS_I (fS_I (fS_I fS_0))))))
theorem ST_R {k : Nat} {as : List Value} {E1 E2 : String} {cd ans : Int} (h : ST m X P g v w μ n) (hm : m.1 ≤ 1000000) (ha : fS as) (e : cR (jm_env d k as (qM X v w 0 0 0)) X v 0 0 0 E1 E2 cd ans) (h0 : cd = 0) : ∃ m' w', jm_env d k as m = some (.inl (some (.int (i3 ans))), m') ∧ ST m' X P g v w' μ n ∧ frC m m' := by
  obtain ⟨m', w', e1, c, f⟩ := cr_R h.1 ha e h0
  exact ⟨m', w', e1, ST_C h hm c f, f⟩
theorem ST_g_ok (h : ST m X P g v w μ n) : gM μ ∧ LO v 14 μ ∧ (1 ≤ μ 412 2 ∧ μ 412 2 ≤ 500) ∧ 1 ≤ μ 412 0 ∧ μ 412 0 ≤ 5 := ⟨h.2.1.2.1.1, h.2.1.lo, h.2.1.2.1.2.1, h.2.2.2.2.1, h.2.1.2.1.1.2.1⟩
theorem cd1_t {p : Prop} [Decidable p] (h : p) : cd1 p = 0 := if_pos h
theorem cd2_t {p q : Prop} [Decidable p] [Decidable q] (h : p) (h2 : q) : cd2 p q = 0 := by
  unfold cd2
  rw [if_pos h, if_pos h2]
/-- sides, stacks and supplies of a series are the same -/
theorem sL_isSeries (h : ST m X P g v w μ n) (hm : m.1 ≤ 1000000) {k : Nat} (hk : (k : Int) < μ 412 0) : ∃ m' w', jm_env (d + 13) 15 [.ref 0, .ref (P 0), .int (i3 k)] m = some (.inl (some (.int (i3 1))), m') ∧ ST m' X P g v w' μ n ∧ frC m m' := by
  have hkk : k < (μ 412 0).toNat := by omega
  obtain ⟨hg, -, -, -, h5⟩ := ST_g_ok h
  have sz : ∀ {q : Int} {m : jm_Mem} {w : Nat → Int → Int} (t : Nat), t < 10 → (0 ≤ q ∧ q ≤ 9) → ST m X P g v w μ n → m.1 ≤ 1000000 → ∃ m' w', jm_env (d + 12) 103 [.ref 0, .int (i3 k), .int (i3 t), .int (i3 q)] m = some (.inl (some (.int (i3 (sizA μ k t q)))), m') ∧ ST m' X P g v w' μ n ∧ frC m m' := by
    intro q m w t ht hq h hm
    obtain ⟨-, lo, r, -, -⟩ := ST_g_ok h
    exact ST_R h hm fS_i3 (cX11_size (d := d + 7) (i := (k : Int)) (n := (t : Int)) (q := q) lo r ⟨by omega, by omega⟩ ⟨by omega, by omega⟩ ⟨by omega, by omega⟩) (cd2_t ⟨⟨by omega, hk⟩, by omega, by omega⟩ hq)
  have loop : ∀ t : Nat, t ≤ 10 → ∃ m' w', jm_R (jm_env (d + 12)) jmM_L_isSeries 17 [some (.ref 0), some (.ref (P 0)), some (.int (i3 k)), some (.ref (P (4 + 4 * k))), some (.int (i3 0))] [] m = jm_R (jm_env (d + 12)) jmM_L_isSeries 17 [some (.ref 0), some (.ref (P 0)), some (.int (i3 k)), some (.ref (P (4 + 4 * k))), some (.int (i3 t))] [] m' ∧ ST m' X P g v w' μ n ∧ frC m m' := by
    intro t
    induction t with
    | zero => intro _; exact ⟨m, w, rfl, h, rfl, rfl, fun _ _ => rfl⟩
    | succ t ih =>
      intro ht
      obtain ⟨m1, w1, e1, h1, f1⟩ := ih (by omega)
      obtain ⟨m2, w2, e2, h2, f2⟩ := sz (q := 0) t (by omega) (by omega) h1 (by rw [f1.1]; exact hm)
      obtain ⟨m3, w3, e3, h3, f3⟩ := sz (q := 1) t (by omega) (by omega) h2 (by rw [f2.1, f1.1]; exact hm)
      obtain ⟨m4, w4, e4, h4, f4⟩ := sz (q := 3) t (by omega) (by omega) h3 (by rw [f3.1, f2.1, f1.1]; exact hm)
      obtain ⟨m5, w5, e5, h5, f5⟩ := sz (q := 8) t (by omega) (by omega) h4 (by rw [f4.1, f3.1, f2.1, f1.1]; exact hm)
      have s2 := h2.2.2.1.2.2.2 k hkk
      have s3 := h3.2.2.1.2.2.2 k hkk
      have s4 := h4.2.2.1.2.2.2 k hkk
      have s5 := h5.2.2.1.2.2.2 k hkk
      have ok := (LM_o hg (ST_g_ok h).2.2.1).2.2.2.2.2 k hkk
      have hp := sX12_supply s5 ok (n := t) (d := d + 10 - t) (by omega)
      rw [show d + 10 - t + t + 2 = d + 12 by omega, sup_I] at hp
      have z0 : sizA μ k t 0 = wM μ k t := rfl
      have z1 : sizA μ k t 1 = hM μ k t := rfl
      have z3 : sizA μ k t 3 = kkM μ k t := rfl
      have z8 : sizA μ k t 8 = supM μ k (t + 1) := rfl
      rw [z0] at e2
      rw [z1] at e3
      rw [z3] at e4
      rw [z8] at e5
      refine ⟨m5, w5, ?_, h5, frC_t f1 (frC_t f2 (frC_t f3 (frC_t f4 f5)))⟩
      rw [e1, bL_isSeries_17, ie_le (by omega) (by omega) (by omega) (by omega), if_neg (by omega), bL_isSeries_24, e2, ob_s, bI_v, q_gR s2.1 (k := 0) rfl, ob_s, q_aI s2.2.1 (z := (t : Int)) (by omega) (by omega) (by omega), ob_s, if_pos rfl]
      rw [bL_isSeries_42, e3, ob_s, bI_v, q_gR s3.1 (k := 1) rfl, ob_s, q_aI s3.2.2.1 (z := (t : Int)) (by omega) (by omega) (by omega), ob_s, if_pos rfl]
      rw [bL_isSeries_60, e4, ob_s, bI_v, q_gR s4.1 (k := 2) rfl, ob_s, q_aI s4.2.2.2 (z := (t : Int)) (by omega) (by omega) (by omega), ob_s, if_pos rfl]
      rw [bL_isSeries_78, e5, ob_s, bI_v, hp, ob_s, bI_v, if_pos rfl, bL_isSeries_98, i3_add]
      rfl
  obtain ⟨m1, w1, e1, h1, f1⟩ := loop 10 (by omega)
  obtain ⟨g1, g2⟩ := LH_get (d := d + 10) h.2.2.1 hkk
  refine ⟨m1, w1, ?_, h1, f1⟩
  rw [eL_isSeries, bL_isSeries_0, q_gR h.2.2.1.1 (k := 0) rfl, ob_s, g1, ob_s, bR_w, if_pos g2, e1, bL_isSeries_17, ie_le (by omega) (by omega) (by omega) (by omega), if_pos (by omega), bL_isSeries_104]
end LWL
