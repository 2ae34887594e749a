-- uses 24.zar 25.obj 26.ops 30.rd 31.re 34.gen 35.byt 41.bit 43.mo5 47.mo9 55.clc 58.clf 66.clm 73.clr d8.frm d9.frn e0.lwa e1.lwb e4.lwe f0.lwk f1.lwl g0.lwu g3.lwx g6.lxa
/-! The law feeds its text. -/
def frX (m m' : jm_Mem) (S : Nat → Prop) (k : Nat) : Prop := bd m m' k ∧ ∀ j, j < m.1 → ¬ fP j → ¬ S j → m'.2.1 j = m.2.1 j
section LXB
variable {m m' : jm_Mem} {X : Nat × (Nat → Int32)} {v w : Nat → Int → Int} {d n s e : Nat} {T : Nat → Int}
theorem frX_C {S : Nat → Prop} (f : frC m m') : frX m m' S 0 := ⟨bd_C f, fun j _ h _ => f.2.2 j h⟩
theorem frX_K {S : Nat → Prop} {k : Nat} (f : frK m m' S k) : frX m m' S k := ⟨bd_K f, fun j h _ h2 => f.2.2.2.2 j (Or.inl h) h2⟩
theorem frX_1 {S : Nat → Prop} {a : Nat} (f : fr1 m m' a) (h : S a) : frX m m' S 0 := ⟨bd_1 f, fun j _ _ h2 => f.2.2 j fun q => h2 (q ▸ h)⟩
theorem frX_t {m1 : jm_Mem} {S S' : Nat → Prop} {k j : Nat} (h : frX m m1 S k) (h2 : frX m1 m' S' j) (hs : ∀ i, i < m.1 → S' i → S i) : frX m m' S (k + j) := ⟨bd_t h.1 h2.1, fun i i1 i2 i3 => (h2.2 i (by have := h.1.1; omega) i2 fun q => i3 (hs i i1 q)).trans (h.2 i i1 i2 i3)⟩
theorem frX_m {S S' : Nat → Prop} {k j : Nat} (h : frX m m' S k) (hs : ∀ i, i < m.1 → S i → S' i) (hk : k ≤ j) : frX m m' S' j := ⟨bd_m h.1 hk, fun i i1 i2 i3 => h.2 i i1 i2 fun q => i3 (hs i i1 q)⟩
theorem frX_0 {S : Nat → Prop} : frX m m S 0 := ⟨bd_0, fun _ _ _ _ => rfl⟩
/-- the text, with blanks behind it -/
def tP (T : Nat → Int) (n : Nat) : Nat → Int := fun k => if k < n then T k else 32
theorem sL_feed_i {i : Nat} {base : Int} {a : Nat} (ht : isT m s e n T) (hn : n ≤ 480) (hT : ∀ k, k < n → 0 ≤ T k ∧ T k < 128) (hA : isA m a 5 (fun _ => 0)) (hse : s ≠ a ∧ e ≠ a) (ha : a < m.1) (hi : i ≤ 480) : ∀ j : Nat, j ≤ 20 → ∃ m', jm_R (jm_env (d + 4)) jmM_L_feeds 24 [some (.ref 0), some (.ref s), some (.int (i3 base)), some (.int (i3 i)), some (.ref a), some (.int (i3 0))] [] m = jm_R (jm_env (d + 4)) jmM_L_feeds 24 [some (.ref 0), some (.ref s), some (.int (i3 base)), some (.int (i3 i)), some (.ref a), some (.int (i3 j))] [] m' ∧ isA m' a 5 (pk (fun j => tP T n (i + j)) j) ∧ isT m' s e n T ∧ frK m m' (fun j => j = a) 0 := by
  intro j
  induction j with
  | zero => intro _; exact ⟨m, rfl, hA, ht, frK_0⟩
  | succ j ih =>
    intro hj
    obtain ⟨m1, e1, A1, t1, f1⟩ := ih (by omega)
    have hl := sT_len (d := d + 2) t1
    have hdv : i3 (j : Int) / i3 4 = i3 ((j / 4 : Nat) : Int) := by
      rw [i3_div (by omega) (by omega) (by omega) (by omega)]
      congr 1
    have hr := q_aI A1 (z := ((j / 4 : Nat) : Int)) (by omega) (by omega) (by omega)
    have hc : 0 ≤ tP T n (i + j) ∧ tP T n (i + j) < 256 := by
      unfold tP
      split
      · next g => have := hT _ g; omega
      · omega
    obtain ⟨m2, e2, A2, f2⟩ := q_wI (z := ((j / 4 : Nat) : Int)) (y := pk (fun j => tP T n (i + j)) j ((j / 4 : Nat) : Int) * 256 + tP T n (i + j)) A1 (by omega) (by omega) (by omega)
    refine ⟨m2, ?_, A2, isT_fr t1 (by rw [f2.1]; exact Nat.le_refl _) (f2.2.2 _ hse.1) (f2.2.2 _ hse.2), frK_t (k := 0) (j := 0) f1 (fr1_1 f2 rfl)⟩
    have e71 : jm_R (jm_env (d + 4)) jmM_L_feeds 24 [some (.ref 0), some (.ref s), some (.int (i3 base)), some (.int (i3 i)), some (.ref a), some (.int (i3 j))] [] m1 = jm_R (jm_env (d + 4)) jmM_L_feeds 71 [some (.ref 0), some (.ref s), some (.int (i3 base)), some (.int (i3 i)), some (.ref a), some (.int (i3 j))] [.int (i3 (tP T n (i + j))), .int (i3 (pk (fun j => tP T n (i + j)) j ((j / 4 : Nat) : Int) * 256)), .int (i3 ((j / 4 : Nat) : Int)), .ref a] m1 := by
      rw [bL_feeds_24, ie_le (by omega) (by omega) (by omega) (by omega), if_neg (by omega), bL_feeds_31, hdv, hr, ob_s, hl, ob_s, bI_v, i3_add, ie_le (by omega) (by omega) (by omega) (by omega), i3_l8]
      by_cases g : i + j < n
      · rw [if_neg (by omega), bL_feeds_58, i3_add, sT_at (d := d + 2) t1 (z := (i : Int) + j) (j := i + j) (by omega) g, ob_s, bI_v]
        unfold tP
        rw [if_pos g]
      · rw [if_pos (by omega), bL_feeds_69]
        unfold tP
        rw [if_neg g]
    rw [e1, e71, bL_feeds_71, i3_or8 _ hc.1 hc.2, e2, ob_s, i3_add]
    rfl
theorem sL_feeds_l {base : Int} (h : CR m X v w) (htx : TX v 0 (fun k => tP T n k.toNat)) (ht : isT m s e n T) (hn : n ≤ 480) (hT : ∀ k, k < n → 0 ≤ T k ∧ T k < 128) (hs : 411 ≤ s ∧ 411 ≤ e) (hm : m.1 < 900000) : ∀ i : Nat, (∀ j, j < i → 20 * j < n) → ∃ m' v' w' x4 x5, jm_R (jm_env (d + 4)) jmM_L_feeds 8 [some (.ref 0), some (.ref s), some (.int (i3 base)), some (.int (i3 0)), none, none] [] m = jm_R (jm_env (d + 4)) jmM_L_feeds 8 [some (.ref 0), some (.ref s), some (.int (i3 base)), some (.int (i3 ((20 * i : Nat) : Int))), x4, x5] [] m' ∧ CR m' X v' w' ∧ TX v' ((20 * i : Nat) : Int) (fun k => tP T n k.toNat) ∧ isT m' s e n T ∧ (∀ k : Nat, k ≠ 1 → k ≠ 2 → v' k = v k) ∧ frX m m' (fun _ => False) i := by
  intro i
  induction i with
  | zero => intro _; exact ⟨m, v, w, none, none, rfl, h, htx, ht, fun _ _ _ => rfl, frX_0⟩
  | succ i ih =>
    intro hi
    obtain ⟨m1, v1, w1, x4, x5, e1, c1, t1, s1, k1, f1⟩ := ih fun j hj => hi j (by omega)
    have hin := hi i (by omega)
    have hm1 := f1.1.2.1
    have hm1' := f1.1.1
    have hsm := ht.2.2.2
    have hl := sT_len (d := d + 2) s1
    have FN : frK m1 (jm_new m1 (.inl (0, 5, .inl fun _ => 0)) 5) (fun _ => False) 1 := nw_fr (by omega) (by omega)
    have AN : isA (jm_new m1 (.inl (0, 5, .inl fun _ => 0)) 5) m1.1 5 (fun _ => 0) := ⟨_, nw_at, fun _ _ => rfl⟩
    generalize hm2 : jm_new m1 (.inl (0, 5, .inl fun _ => 0)) 5 = m2 at FN AN
    have n2 : m2.1 = m1.1 + 1 := by rw [← hm2]; rfl
    have s2 : isT m2 s e n T := isT_fr s1 (by omega) (FN.2.2.2.2 _ (Or.inl (by omega)) id) (FN.2.2.2.2 _ (Or.inl (by omega)) id)
    obtain ⟨m3, e3, A3, s3, f3⟩ := sL_feed_i (d := d) (i := 20 * i) (base := base) s2 hn hT AN ⟨by omega, by omega⟩ (by omega) (by omega) 20 (Nat.le_refl _)
    have c3 : CR m3 X v1 w1 := CR_fr (CR_fr c1 FN (by omega) (fun _ q => q.elim)) f3 (by omega) (fun j q => by omega)
    have n3 : m3.1 = m2.1 := by have := f3.1; have := f3.2.1; omega
    have hpk : ∀ j, j < 20 → 0 ≤ tP T n (20 * i + j) ∧ tP T n (20 * i + j) < 256 := fun j hj => by
      unfold tP
      split
      · next g => have := hT _ g; omega
      · omega
    obtain ⟨m4, v4, w4, e4, c4, t4, k4, f4⟩ := cl_app (d := d) c3 t1 (by omega) (by omega) (a := pk (fun j => tP T n (20 * i + j)) 20 0) (b := pk (fun j => tP T n (20 * i + j)) 20 1) (e := pk (fun j => tP T n (20 * i + j)) 20 2) (f := pk (fun j => tP T n (20 * i + j)) 20 3) (g := pk (fun j => tP T n (20 * i + j)) 20 4)
    have n4 : m4.1 = m3.1 := f4.1
    refine ⟨m4, v4, w4, some (.ref m1.1), some (.int (i3 ((20 : Nat) : Int))), ?_, c4, ?_, isT_fr s3 (by omega) (f4.2.2 _ (fP_no (by omega))) (f4.2.2 _ (fP_no (by omega))), fun k q1 q2 => (k4 k q1 q2).trans (k1 k q1 q2), ?_⟩
    · rw [e1, bL_feeds_8, hl, ob_s, bI_v, ie_le (by omega) (by omega) (by omega) (by omega), if_neg (by omega), bL_feeds_16, q_mk (by omega), hm2, e3, bL_feeds_24, ie_le (by omega) (by omega) (by omega) (by omega), if_pos (by omega), bL_feeds_79, q_aI A3 (z := 0) (by omega) (by omega) (by omega), ob_s, q_aI A3 (z := 1) (by omega) (by omega) (by omega), ob_s, q_aI A3 (z := 2) (by omega) (by omega) (by omega), ob_s, q_aI A3 (z := 3) (by omega) (by omega) (by omega), ob_s, q_aI A3 (z := 4) (by omega) (by omega) (by omega), ob_s, e4, ob_s, bI_v, i3_add, if_pos rfl, bL_feeds_112, i3_add, show ((20 * i : Nat) : Int) + 20 = ((20 * (i + 1) : Nat) : Int) by omega]
    · obtain ⟨u1, u2, u3⟩ := t4
      refine ⟨u1, by omega, fun k q0 q1 => ?_⟩
      rw [u3 k q0 (by omega)]
      dsimp only
      by_cases g : ((20 * i : Nat) : Int) ≤ k
      · rw [if_pos g, pk_b hpk _ (by omega)]
        congr 1
        omega
      · rw [if_neg g]
    · have g1 : frX m m2 (fun _ => False) (i + 1) := frX_t f1 (frX_K FN) (fun _ _ q => q)
      have g2 : frX m m3 (fun _ => False) (i + 1 + 0) := frX_t g1 (frX_K f3) (fun j hj q => by omega)
      exact frX_t (k := i + 1) (j := 0) g2 (frX_C f4) (fun _ _ q => q)
theorem sL_feeds {n0 : Int} {T0 : Int → Int} (h : CR m X v w) (htx : TX v n0 T0) (h00 : 0 ≤ n0) (h01 : n0 ≤ 600) (ht : isT m s e n T) (hn : n ≤ 480) (hT : ∀ k, k < n → 0 ≤ T k ∧ T k < 128) (hs : 411 ≤ s ∧ 411 ≤ e) (hm : m.1 < 900000) : ∃ m' v' w', jm_env (d + 5) 2 [.ref 0, .ref s] m = some (.inl (some (.int (i3 1))), m') ∧ CR m' X v' w' ∧ TX v' n (fun k => T k.toNat) ∧ (∀ k : Nat, k ≠ 1 → k ≠ 2 → v' k = v k) ∧ frX m m' (fun _ => False) 30 := by
  obtain ⟨m1, v1, w1, e1, c1, t1, k1, f1⟩ := cl_trunc (d := d + 1) (k := 0) h htx (by omega) h00 h01
  have n1 : m1.1 = m.1 := f1.1
  have hsm := ht.2.2.2
  have s1 : isT m1 s e n T := isT_fr ht (by omega) (f1.2.2 _ (fP_no (by omega))) (f1.2.2 _ (fP_no (by omega)))
  have t1' : TX v1 0 (fun k => tP T n k.toNat) := ⟨t1.1, t1.2.1, fun k q0 q1 => by omega⟩
  obtain ⟨m2, v2, w2, x4, x5, e2, c2, t2, s2, k2, f2⟩ := sL_feeds_l (d := d) (base := 0) c1 t1' s1 hn hT hs (by omega) ((n + 19) / 20) (fun j hj => by omega)
  have hle : n ≤ 20 * ((n + 19) / 20) := by omega
  have hm2 := f2.1.2.1
  have hm2' := f2.1.1
  have hl2 := sT_len (d := d + 2) s2
  obtain ⟨m3, v3, w3, e3, c3, t3, k3, f3⟩ := cl_trunc (d := d + 1) (k := (n : Int)) c2 t2 (by omega) (by omega) (by omega)
  have s3 : isT m3 s e n T := isT_fr s2 (by rw [f3.1]; exact Nat.le_refl _) (f3.2.2 _ (fP_no (by omega))) (f3.2.2 _ (fP_no (by omega)))
  have hl3 := sT_len (d := d + 2) s3
  refine ⟨m3, v3, w3, ?_, c3, ⟨t3.1, t3.2.1, fun k q0 q1 => ?_⟩, fun k q1 q2 => ?_, ?_⟩
  · rw [eL_feeds, bL_feeds_0, e1, ob_s, bI_v, e2, bL_feeds_8, hl2, ob_s, bI_v, ie_le (by omega) (by omega) (by omega) (by omega), if_pos (by omega), bL_feeds_118, if_pos rfl, bL_feeds_122, hl2, ob_s, bI_v, e3, ob_s, bI_v, hl3, ob_s, bI_v, if_pos rfl, bL_feeds_137, bL_feeds_142]
    rfl
  · rw [t3.2.2 k q0 q1]
    exact if_pos (by omega)
  · rw [k3 k q1, k2 k q1 q2, k1 k q1]
  · exact frX_m (frX_t (frX_t (frX_C f1) f2 (fun _ _ q => q)) (frX_C f3) (fun _ _ q => q)) (fun _ _ q => q) (by omega)
end LXB
