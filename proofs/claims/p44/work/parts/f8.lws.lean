-- uses 24.zar 25.obj 26.ops 30.rd 31.re 34.gen 38.mod 41.bit 42.mo4 43.mo5 58.clf 65.cll 07.rel c0.foa c1.fob c2.foc c5.fof c8.foi d8.frm d9.frn e0.lwa e1.lwb e2.lwc e3.lwd e4.lwe e8.lwi e9.lwj f0.lwk f1.lwl f3.lwn f4.lwo f7.lwr
/-! Pages of a folded sheet. -/
def shC (s : pl_S) : Bool := match s with
  | .inl (t, _, _) => decide (t ≠ 6)
  | .inr (c, _) => decide (c ≠ 17)
theorem shC_411 : ((List.range 411).all fun n => shC (pl_sh n)) = true := by decide +kernel
section LWS
variable {m m' : jm_Mem} {X : Nat × (Nat → Int32)} {P : Nat → Nat} {g d : Nat} {v w μ : Nat → Int → Int} {n : Int}
theorem fP_17 {a : Nat} {fs : List Value} (h : CR m X v w) (o : isO m a 17 fs) (ha : a < 1000000) : ¬ fP a := by
  have hs : 1000000 ≤ jm_str := by decide
  intro q
  have h1 : a < 411 := by unfold fP at q; omega
  have h2 : m.2.1 a = pl_e (pl_sh a) (pl_q v w a) := (h a q).trans (if_pos (show a < 411 + 0 from h1))
  have h3 := List.all_eq_true.mp shC_411 a (List.mem_range.mpr h1)
  rw [show m.2.1 a = _ from o] at h2
  rcases e : pl_sh a with ⟨t, k, rs⟩ | ⟨c, fl⟩
  · rw [e] at h2
    unfold pl_e at h2
    dsimp only at h2
    split at h2
    · cases h2
    · split at h2
      · cases h2
      · split at h2 <;> cases h2
  · rw [e] at h2 h3
    have h2 : (Sum.inr (17, fs) : jm_Ent) = .inr (c, pl_fl 0 fl (pl_q v w a)) := h2
    have h4 : c = 17 := by cases h2; rfl
    rw [h4] at h3
    exact (of_decide_eq_true (show decide ((17 : Nat) ≠ 17) = true from h3)) rfl
theorem fP_6 {a cap : Nat} {F : Nat → Option Nat} (h : CR m X v w) (o : m.2.1 a = jm_rw cap F) (ha : a < 1000000) : ¬ fP a := by
  have hs : 1000000 ≤ jm_str := by decide
  intro q
  have h1 : a < 411 := by unfold fP at q; omega
  have h2 : m.2.1 a = pl_e (pl_sh a) (pl_q v w a) := (h a q).trans (if_pos (show a < 411 + 0 from h1))
  have h3 := List.all_eq_true.mp shC_411 a (List.mem_range.mpr h1)
  rw [o] at h2
  rcases e : pl_sh a with ⟨t, k, rs⟩ | ⟨c, fl⟩
  · rw [e] at h2 h3
    have h3 : t ≠ 6 := of_decide_eq_true h3
    obtain ⟨y, e1, -⟩ := e_arr (t := t) (n := k) (rs := rs) (f := pl_q v w a)
    rw [e1] at h2
    have h2 : (Sum.inl (6, cap, .inr (.inr (.inr (.inr F)))) : jm_Ent) = .inl (t, y) := h2
    cases h2
    exact h3 rfl
  · rw [e] at h2
    cases h2
theorem isP_C {a e k : Nat} {q : Nat → Int} (h : isP m a e k q) (hk : 1 ≤ k) (hc : CR m X v w) (hm : m.1 ≤ 1000000) (f : frC m m') : isP m' a e k q := by
  obtain ⟨fs, o⟩ := isP_o h
  have h1 := isP_a h
  have h2 := isP_n h hk
  have h3 : ¬ fP e := by
    obtain ⟨cap, -, l2, -, -, l⟩ := h
    rcases l with ⟨c1, -, -⟩ | ⟨-, -, -, F, c4, -⟩
    · omega
    · exact fP_6 hc c4 (by omega)
  exact isP_fr h (by rw [f.1]; exact Nat.le_refl _) (f.2.2 _ (fP_17 hc o (by omega))) (f.2.2 _ h3)
/-- new ones made -/
theorem ST_K {k : Nat} (h : ST m X P g v w μ n) (hm : m.1 ≤ 1000000) (f : frK m m' (fun _ => False) k) : ST m' X P g v w μ n := by
  obtain ⟨h1, h2, h3, h4, h5, ⟨u, h6⟩, h7, h8, h9, h10⟩ := h
  have g1 := f.1
  refine ⟨CR_fr h1 f h9 (fun _ q => q.elim), h2, LH_fr h3 f.1 (fun j hj => f.2.2.2.2 _ (Or.inl (h4.1 j hj (Or.inr (by omega))).2) id), LHn_fr h4 f, h5, ⟨u, isA_fr h6 (f.2.2.2.2 g (Or.inl h7.2) id)⟩, by omega, h8, by omega, h10⟩
theorem ST_dcp (h : ST m X P g v w μ n) : m.2.1 jm_dcp = jm_dcE := by
  rw [h.1 jm_dcp (Or.inr (by decide))]
  show (if jm_dcp < 411 + 0 then pl_e (pl_sh jm_dcp) (pl_q v w jm_dcp) else pl_sp X jm_dcp) = _
  rw [if_neg (by decide)]
  unfold pl_sp
  rw [if_neg (by decide), if_neg (by decide), if_pos rfl]
/-- one leaf: both its pages -/
theorem sL_pg {A eA k x f : Nat} {t : Int} (h : ST m X P g v w μ n) (hm : m.1 ≤ 1000000) (hk : (k : Int) < μ 412 0) (t0 : 0 ≤ t) (t1 : t < 10) (hf : (f : Int) ≤ fdM μ k t) (hx : x < 2 ^ f) (hp : ptn μ k t x f) {r c z : Int} (hr : 0 ≤ r ∧ r < rwX x f) (hc : 0 ≤ c ∧ c < clX x f) (hz : z = 0 ∨ z = 1) : ∃ m' w', jm_env (d + 12) 108 [.ref 0, .int (i3 k), .int (i3 t), .int (i3 f), .int (i3 r), .int (i3 c), .int (i3 z)] m = some (.inl (some (.int (i3 (pgX x f r c z)))), m') ∧ ST m' X P g v w' μ n ∧ frC m m' := by
  obtain ⟨hg, lo, hrr, -, h5⟩ := ST_g_ok h
  obtain ⟨f6, f10⟩ := fdM_le hf
  obtain ⟨-, b2, b3, b4, b5, -⟩ := fo_1 f f6 x hx
  have hA : ((0 : Int) ≤ k ∧ (k : Int) < μ 412 0) ∧ 0 ≤ t ∧ t < 10 := ⟨⟨by omega, hk⟩, t0, t1⟩
  have hB : 0 ≤ (f : Int) ∧ (f : Int) ≤ fdM μ k t := ⟨by omega, hf⟩
  have hC : (0 ≤ r ∧ r < rwX x (f : Int).toNat) ∧ 0 ≤ c ∧ c < clX x (f : Int).toNat := ⟨hr, hc⟩
  exact ST_R h hm fS_i6 (cX11_page (d := d + 6) (i := (k : Int)) (n := t) (f := (f : Int)) (r := r) (cc := c) (z := z) (x := x) lo ⟨by omega, by omega⟩ ⟨by omega, by omega⟩ ⟨by omega, by omega⟩ ⟨by omega, by omega⟩ ⟨by omega, by omega⟩ hz (fun _ _ => ⟨hx, hp⟩)) (by
    unfold cdP
    rw [if_pos hA, if_pos hB, if_pos hC])
theorem sL_isFolded {k f : Nat} {t : Int} (h : ST m X P g v w μ n) (hm : m.1 < 400000) (hk : (k : Int) < μ 412 0) (t0 : 0 ≤ t) (t1 : t < 10) (hf : (f : Int) ≤ fdM μ k t) : ∃ m' w', jm_env (d + 13) 14 [.ref 0, .ref (P (4 + 4 * k)), .int (i3 k), .int (i3 t), .int (i3 f)] m = some (.inl (some (.int (i3 1))), m') ∧ ST m' X P g v w' μ n ∧ bd m m' 450 := by
  have hkk : k < (μ 412 0).toNat := by omega
  obtain ⟨hg, lo, hrr, -, h5⟩ := ST_g_ok h
  obtain ⟨f6, f10⟩ := fdM_le hf
  have hA : ((0 : Int) ≤ k ∧ (k : Int) < μ 412 0) ∧ 0 ≤ t ∧ t < 10 := ⟨⟨by omega, hk⟩, t0, t1⟩
  have hB : 0 ≤ (f : Int) ∧ (f : Int) ≤ fdM μ k t := ⟨by omega, hf⟩
  obtain ⟨x, hxx⟩ := ptn_x μ k t f
  obtain ⟨hx, hp⟩ := hxx hA hB
  have hx : x < 2 ^ f := hx
  have hp : ptn μ k t x f := hp
  obtain ⟨b1, b2, b3, b4, b5, b6, b7⟩ := fo_1 f f6 x hx
  obtain ⟨c1, c2, c3⟩ := fo_h f f6
  obtain ⟨m1, w1, e1, h1, f1⟩ := ST_R h (by omega) fS_i4 (cX11_grid (d := d + 6) (i := (k : Int)) (n := t) (f := (f : Int)) (z := 0) (x := x) lo ⟨by omega, by omega⟩ ⟨by omega, by omega⟩ ⟨by omega, by omega⟩ (Or.inl rfl) (fun _ _ => ⟨hx, hp⟩)) (cd2_t hA hB)
  obtain ⟨m2, w2, e2, h2, f2⟩ := ST_R h1 (by rw [f1.1]; omega) fS_i4 (cX11_grid (d := d + 6) (i := (k : Int)) (n := t) (f := (f : Int)) (z := 1) (x := x) (ST_g_ok h1).2.1 ⟨by omega, by omega⟩ ⟨by omega, by omega⟩ ⟨by omega, by omega⟩ (Or.inr rfl) (fun _ _ => ⟨hx, hp⟩)) (cd2_t hA hB)
  have z1 : (if (0 : Int) = 0 then rwX x (f : Int).toNat else clX x (f : Int).toNat) = rwX x f := rfl
  have z2 : (if (1 : Int) = 0 then rwX x (f : Int).toNat else clX x (f : Int).toNat) = clX x f := rfl
  rw [z1] at e1
  rw [z2] at e2
  have s2 := h2.2.2.1.2.2.2 k hkk
  have hok := (LM_o hg hrr).2.2.2.2.2 k hkk
  have hn2 := h2.2.2.2.1
  have hm2 : m2.1 = m.1 := f2.1.trans f1.1
  obtain ⟨m3, A, eA, e3, l3, f3⟩ := sL_leaves (d := d + 6) (nn := t) f6 hx s2 ⟨(hn2.1 _ (by omega) (Or.inl (by omega))).2, (hn2.1 _ (by omega) (Or.inl (by omega))).2, (hn2.1 _ (by omega) (Or.inl (by omega))).2, (hn2.1 _ (by omega) (Or.inl (by omega))).2⟩ (okS_W hok) t0 (by omega) (fun j hj => hp j hj) (by omega) (ST_dcp h2)
  have h3 := ST_K h2 (by omega) f3
  have hm3 := f3.2.1
  have h2f : 1 ≤ 2 ^ f := Nat.one_le_two_pow
  have loop : ∀ l : Nat, l ≤ 2 ^ f → ∃ m' w' y9 y10, jm_R (jm_env (d + 12)) jmM_L_isFolded 38 [some (.ref 0), some (.ref (P (4 + 4 * k))), some (.int (i3 k)), some (.int (i3 t)), some (.int (i3 f)), some (.int (i3 (rwX x f))), some (.int (i3 (clX x f))), some (.ref A), some (.int (i3 0)), none, none] [] m3 = jm_R (jm_env (d + 12)) jmM_L_isFolded 38 [some (.ref 0), some (.ref (P (4 + 4 * k))), some (.int (i3 k)), some (.int (i3 t)), some (.int (i3 f)), some (.int (i3 (rwX x f))), some (.int (i3 (clX x f))), some (.ref A), some (.int (i3 l)), y9, y10] [] m' ∧ ST m' X P g v w' μ n ∧ isP m' A eA (2 ^ f) (fun t => qX x f f 0 0 t) ∧ frC m3 m' := by
    intro l
    induction l with
    | zero => intro _; exact ⟨m3, w2, none, none, rfl, h3, l3, rfl, rfl, fun _ _ => rfl⟩
    | succ l ih =>
      intro hl
      obtain ⟨m4, w4, y9, y10, e4, h4, l4, f4⟩ := ih (by omega)
      have hm4 : m4.1 = m3.1 := f4.1
      obtain ⟨z5a, z5b, z5c, z5d⟩ := fo_5 f f6 x hx l (by omega)
      have hq := fo_4i (r := 0) (c := 0) (t := (l : Int)) f6 hx (show f < f + 1 by omega) (by omega) (by omega) (by omega) (by omega) (by omega) (by omega)
      obtain ⟨z4a', z4b'⟩ := fo_4 f f6 x hx f (by omega) 0 (by omega) 0 (by omega) l (by omega)
      have z4b' : qX x f f 0 0 l < 2 * htX f := z4b'
      obtain ⟨cap, ll⟩ := l4
      have hget := sAL_get (d := d + 10) ll (z := (l : Int)) (by omega) (by omega)
      rw [Int.toNat_natCast] at hget
      dsimp only at hget
      have hsz := sAL_size (d := d + 11) ll
      generalize hzz : qX x f f 0 0 l = z at *
      have hcell : 0 ≤ z / 2 ∧ z / 2 < rwX x f * clX x f := by rw [b1]; omega
      have hr : 0 ≤ z / 2 / clX x f ∧ z / 2 / clX x f < rwX x f := ⟨Int.ediv_nonneg hcell.1 (by omega), Int.ediv_lt_of_lt_mul (by omega) hcell.2⟩
      have hc : 0 ≤ z / 2 % clX x f ∧ z / 2 % clX x f < clX x f := ⟨Int.emod_nonneg _ (by omega), Int.emod_lt_of_pos _ (by omega)⟩
      have hbk : z % 2 = 0 ∨ z % 2 = 1 := by omega
      have ex1 : (xr z) / 2 = z / 2 := by unfold xr; split <;> omega
      have ex2 : (xr z) % 2 = 1 - z % 2 := by unfold xr; split <;> omega
      unfold pgI at z5a z5b
      rw [ex1, ex2] at z5b
      obtain ⟨m5, w5, e5, h5', f5⟩ := sL_pg (A := A) (eA := eA) (d := d) h4 (by omega) hk t0 t1 hf hx hp hr hc hbk
      obtain ⟨m6, w6, e6, h6, f6'⟩ := sL_pg (A := A) (eA := eA) (d := d) (z := 1 - z % 2) h5' (by rw [f5.1]; omega) hk t0 t1 hf hx hp hr hc (by omega)
      rw [z5a] at e5
      rw [z5b] at e6
      have l5 := isP_C (m' := m5) ⟨cap, ll⟩ h2f h4.1 (by omega) f5
      have l6 := isP_C l5 h2f h5'.1 (by rw [f5.1]; omega) f6'
      have hcl0 : ¬ (i3 (clX x f) = (0 : Int32)) := by rw [i3_eq0 (by omega) (by omega)]; omega
      have hmod : z / 2 - z / 2 / clX x f * clX x f = z / 2 % clX x f := by
        have := Int.emod_add_mul_ediv (z / 2) (clX x f)
        rw [Int.mul_comm] at this
        omega
      refine ⟨m6, w6, some (.int (i3 (z / 2))), some (.int (i3 (z % 2))), ?_, h6, l6, frC_t f4 (frC_t f5 f6')⟩
      rw [e4, bL_isFolded_38, hsz, ob_s, bI_v, ie_le (by omega) (by omega) (by omega) (by omega), if_neg (by omega), bL_isFolded_50, hget, ob_s, bR_w, if_pos (iN_c (by omega) (by omega)), if_pos (iN_b (by omega) (by omega)), hget, ob_s, bR_w, if_pos (iN_c (by omega) (by omega)), if_pos (iN_b (by omega) (by omega)), iN_v (by omega) (by omega), i3_div (by omega) (by omega) (by omega) (by omega), i3_mul, i3_sub, ie_eq (by omega) (by omega) (by omega) (by omega)]
      have e95 : (if z - z / 2 * 2 = 1 then jm_R (jm_env (d + 12)) jmM_L_isFolded 90 [some (.ref 0), some (.ref (P (4 + 4 * k))), some (.int (i3 k)), some (.int (i3 t)), some (.int (i3 f)), some (.int (i3 (rwX x f))), some (.int (i3 (clX x f))), some (.ref A), some (.int (i3 l)), some (.int (i3 (z / 2))), y10] [] m4 else jm_R (jm_env (d + 12)) jmM_L_isFolded 94 [some (.ref 0), some (.ref (P (4 + 4 * k))), some (.int (i3 k)), some (.int (i3 t)), some (.int (i3 f)), some (.int (i3 (rwX x f))), some (.int (i3 (clX x f))), some (.ref A), some (.int (i3 l)), some (.int (i3 (z / 2))), y10] [] m4) = jm_R (jm_env (d + 12)) jmM_L_isFolded 95 [some (.ref 0), some (.ref (P (4 + 4 * k))), some (.int (i3 k)), some (.int (i3 t)), some (.int (i3 f)), some (.int (i3 (rwX x f))), some (.int (i3 (clX x f))), some (.ref A), some (.int (i3 l)), some (.int (i3 (z / 2))), y10] [.int (i3 (z % 2))] m4 := by
        rcases hbk with b | b
        · rw [if_neg (by omega), bL_isFolded_94, b]
        · rw [if_pos (by omega), bL_isFolded_90, b]
      rw [e95, bL_isFolded_95, if_neg hcl0, if_neg hcl0, i3_div (by omega) (by omega) (by omega) (by omega), i3_mul, i3_sub, hmod, e5, ob_s, bI_v, i3_mul, i3_add, if_pos rfl, bL_isFolded_126, if_neg hcl0, if_neg hcl0, i3_div (by omega) (by omega) (by omega) (by omega), i3_mul, i3_sub, hmod, ie_eq (by omega) (by omega) (by omega) (by omega)]
      have e151 : ∀ s0 s1 s2 s3 s4 s5 s6, (if z % 2 = 0 then jm_R (jm_env (d + 12)) jmM_L_isFolded 146 [some (.ref 0), some (.ref (P (4 + 4 * k))), some (.int (i3 k)), some (.int (i3 t)), some (.int (i3 f)), some (.int (i3 (rwX x f))), some (.int (i3 (clX x f))), some (.ref A), some (.int (i3 l)), some (.int (i3 (z / 2))), some (.int (i3 s6))] [.int (i3 s5), .int (i3 s4), .int (i3 s3), .int (i3 s2), .int (i3 s1), .ref s0] m5 else jm_R (jm_env (d + 12)) jmM_L_isFolded 150 [some (.ref 0), some (.ref (P (4 + 4 * k))), some (.int (i3 k)), some (.int (i3 t)), some (.int (i3 f)), some (.int (i3 (rwX x f))), some (.int (i3 (clX x f))), some (.ref A), some (.int (i3 l)), some (.int (i3 (z / 2))), some (.int (i3 s6))] [.int (i3 s5), .int (i3 s4), .int (i3 s3), .int (i3 s2), .int (i3 s1), .ref s0] m5) = jm_R (jm_env (d + 12)) jmM_L_isFolded 151 [some (.ref 0), some (.ref (P (4 + 4 * k))), some (.int (i3 k)), some (.int (i3 t)), some (.int (i3 f)), some (.int (i3 (rwX x f))), some (.int (i3 (clX x f))), some (.ref A), some (.int (i3 l)), some (.int (i3 (z / 2))), some (.int (i3 s6))] [.int (i3 (1 - z % 2)), .int (i3 s5), .int (i3 s4), .int (i3 s3), .int (i3 s2), .int (i3 s1), .ref s0] m5 := by
        intro s0 s1 s2 s3 s4 s5 s6
        rcases hbk with b | b
        · rw [if_pos b, bL_isFolded_146, b]; rfl
        · rw [if_neg (by omega), bL_isFolded_150, b]; rfl
      rw [e151, bL_isFolded_151, e6, ob_s, bI_v, i3_mul, i3_add, if_pos rfl, bL_isFolded_165, i3_add]
      rfl
  obtain ⟨m7, w7, y9, y10, e7, h7, l7, f7⟩ := loop (2 ^ f) (Nat.le_refl _)
  obtain ⟨cap, ll⟩ := l7
  have hsz := sAL_size (d := d + 11) ll
  have hm7 : m7.1 = m3.1 := f7.1
  obtain ⟨m8, w8, e8, h8, f8⟩ := ST_R h7 (by omega) fS_i3 (cX11_pageGap (d := d + 6) (i := (k : Int)) (n := t) (f := (f : Int)) (ST_g_ok h7).2.1 ⟨by omega, by omega⟩ ⟨by omega, by omega⟩ ⟨by omega, by omega⟩) (cd2_t hA hB)
  refine ⟨m8, w8, ?_, h8, bd_t (k := 0) (j := 450) (bd_t (k := 0) (j := 0) (bd_C f1) (bd_C f2)) (bd_t (k := 450) (j := 0) (bd_K f3) (bd_t (k := 0) (j := 0) (bd_C f7) (bd_C f8)))⟩
  rw [eL_isFolded, bL_isFolded_0, e1, ob_s, bI_v, e2, ob_s, bI_v, e3, ob_s, bR_w, e7, bL_isFolded_38, hsz, ob_s, bI_v, ie_le (by omega) (by omega) (by omega) (by omega), if_pos (by omega), bL_isFolded_171, e8, ob_s, bI_v, if_pos rfl, bL_isFolded_182, bL_isFolded_187]
  rfl
end LWS
