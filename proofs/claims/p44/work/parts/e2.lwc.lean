-- uses 24.zar 25.obj 26.ops 31.re 34.gen 41.bit 07.rel e0.lwa e1.lwb
/-! Lists. -/
def jm_rw (n : Nat) (F : Nat → Option Nat) : jm_Ent := .inl (6, n, .inr (.inr (.inr (.inr F))))
def isLs (m : jm_Mem) (a e cap n : Nat) (f : Nat → Nat) : Prop := (∃ mc : Int, isO m a 17 [.int (i3 mc), .ref e, .int (i3 n)]) ∧ n ≤ cap ∧ cap ≤ 100 ∧ a < m.1 ∧ ((cap = 0 ∧ e = jm_dcp ∧ m.2.1 e = jm_dcE) ∨ (1 ≤ cap ∧ e < m.1 ∧ e ≠ a ∧ ∃ F, m.2.1 e = jm_rw cap F ∧ (∀ k, k < n → F k = some (f k)) ∧ ∀ k, n ≤ k → F k = none))
section LWC
variable {m m' : jm_Mem} {d a e cap n x kd : Nat} {f : Nat → Nat}
theorem isLs_fr (h : isLs m a e cap n f) (h1 : m.1 ≤ m'.1) (ha : m'.2.1 a = m.2.1 a) (he : m'.2.1 e = m.2.1 e) : isLs m' a e cap n f := by
  obtain ⟨⟨mc, q1⟩, q2, q3, q4, q5⟩ := h
  refine ⟨⟨mc, ha.trans q1⟩, q2, q3, by omega, ?_⟩
  rcases q5 with ⟨c1, c2, c3⟩ | ⟨c1, c2, c3, F, c4, c5⟩
  · exact Or.inl ⟨c1, c2, he.trans c3⟩
  · exact Or.inr ⟨c1, by omega, c3, F, he.trans c4, c5⟩
theorem isLs_cg {g : Nat → Nat} (h : isLs m a e cap n f) (hg : ∀ k, k < n → f k = g k) : isLs m a e cap n g := by
  obtain ⟨q1, q2, q3, q4, q5⟩ := h
  refine ⟨q1, q2, q3, q4, ?_⟩
  rcases q5 with c | ⟨c1, c2, c3, F, c4, c5, c6⟩
  · exact Or.inl c
  · exact Or.inr ⟨c1, c2, c3, F, c4, fun k hk => by rw [c5 k hk, hg k hk], c6⟩
theorem elt_o {ci : Nat} {fs : List Value} (h : isO m x ci fs) (hx : x < 1000000) (hc : ci = 12 ∨ ci = 17) : jm_elt m x = some ci := by
  unfold jm_elt
  rw [if_neg (by unfold jm_int; omega), show m.2.1 x = _ from h]
  rcases hc with rfl | rfl <;> rfl
theorem elt_i {z : Nat} (hz : z < 256) : jm_elt m (jm_int + z) = some 16 := if_pos (by omega)
theorem caO_o {fs : List Value} {ci : Nat} (h : isO m x ci fs) (hc : ci = 12 ∨ ci = 17) : jm_caO m x ci = true := by
  unfold jm_caO
  rw [show m.2.1 x = _ from h]
  rcases hc with rfl | rfl <;> rfl
theorem sAL_size (h : isLs m a e cap n f) : jm_env (d + 1) 171 [.ref a] m = some (.inl (some (.int (i3 n))), m) := by
  obtain ⟨⟨mc, q1⟩, _⟩ := h
  rw [eJx4a65c_size_8abf5 _ _ _ (q_C q1), bJx4a65c_size_8abf5_0, q_gI q1 (k := 2) rfl]
  rfl
theorem q_aQ {F : Nat → Option Nat} {z : Int} {cap r y : Nat} (h : m.2.1 r = jm_rw cap F) (h0 : 0 ≤ z) (h1 : z < cap) (hn : cap < 2147483648) (hy : F z.toNat = some y) : jm_aQ m r (i3 z) = some y := by
  unfold jm_aQ
  have e1 : jm_aR m r (i3 z) = none := by
    unfold jm_aR
    rw [h]
    exact if_neg (by omega)
  rw [e1]
  unfold jm_aO
  rw [h]
  show (if 6 = 6 then (jm_ix (i3 z) cap).bind F else none) = _
  rw [if_pos rfl, ix_z h0 h1 hn]
  exact hy
theorem q_wQ {F : Nat → Option Nat} {z : Int} {cap r y : Nat} (h : m.2.1 r = jm_rw cap F) (h0 : 0 ≤ z) (h1 : z < cap) (hn : cap < 2147483648) (hy : (jm_elt m y).isSome = true) : jm_wQ m r (i3 z) y = some (jm_up m r (jm_rw cap (va_up F z.toNat (some y)))) := by
  unfold jm_wQ
  have e1 : jm_wR m r (i3 z) y = none := by
    unfold jm_wR
    rw [h]
    exact if_neg (by omega)
  rw [e1]
  unfold jm_wO
  rw [h]
  show (if 6 = 6 ∧ (jm_elt m y).isSome = true then (jm_ix (i3 z) cap).map _ else none) = _
  rw [if_pos ⟨rfl, hy⟩, ix_z h0 h1 hn]
  rfl
theorem sAL_get (h : isLs m a e cap n f) {z : Int} (h0 : 0 ≤ z) (h1 : z < n) : jm_env (d + 2) 173 [.ref a, .int (i3 z)] m = some (.inl (some (.ref (f z.toNat))), m) := by
  obtain ⟨⟨mc, q1⟩, q2, q3, q4, q5⟩ := h
  rcases q5 with ⟨c1, -, -⟩ | ⟨c1, c2, c3, F, c4, c5, c6⟩
  · omega
  · rw [eJx4a65c_get_915e3 _ _ _ _ (q_C q1), bJx4a65c_get_915e3_0, q_gI q1 (k := 2) rfl, ob_s]
    rw [if_pos (by rw [i3_le (by omega) (by omega) (by omega) (by omega), i3_lt (by omega) (by omega) (by omega) (by omega)]; exact ⟨h0, h1⟩)]
    rw [eJx4a65c_elementData_915e3 _ _ _ _ (q_C q1), bJx4a65c_elementData_915e3_0, q_gR q1 (k := 1) rfl, ob_s, q_aQ c4 h0 (by omega) (by omega) (c5 _ (by omega))]
    rfl
theorem sAL_init (h : isO m a 17 [.int 0, .null, .int 0]) (ha : a < m.1) (h2 : m.1 ≤ 1000000) (hd : m.2.1 jm_dcp = jm_dcE) : ∃ m', jm_env (d + 3) 168 [.ref a] m = some (.inl none, m') ∧ isLs m' a jm_dcp 0 0 f ∧ fr1 m m' a := by
  obtain ⟨m1, e1, o1, k1⟩ := q_put (x := .int (i3 0)) h (k := 0) (by show 0 < 3; omega)
  obtain ⟨m2, e2, o2, k2⟩ := q_put (x := .ref jm_dcp) o1 (k := 1) (by show 1 < 3; omega)
  rw [eJx4a65c_init_da8c8 _ _ _ (q_C h), bJx4a65c_init_da8c8_0, eJxc12de_init_da8c8 _ _ _ (q_C h), bJxc12de_init_da8c8_0, eJxa1e45_init_da8c8 _ _ _ (q_C h), bJxa1e45_init_da8c8_0]
  simp only [ob_s, bV_v, e1]
  rw [show (35184372088832 : Nat) = jm_dcp from rfl, e2]
  have hne : jm_dcp ≠ a := by unfold jm_dcp; omega
  refine ⟨m2, rfl, ⟨⟨0, o2⟩, Nat.le_refl _, by omega, by rw [k2.1, k1.1]; exact ha, Or.inl ⟨rfl, rfl, ?_⟩⟩, k2.1.trans k1.1, k2.2.1.trans k1.2.1, fun n hn => (k2.2.2 n hn).trans (k1.2.2 n hn)⟩
  rw [k2.2.2 _ hne, k1.2.2 _ hne]
  exact hd
theorem elc_t {F : Nat → Option Nat} {c : Nat} (h : ∀ k, k < n → ∀ y, F k = some y → jm_elt m y = some c) : jm_elc m n F c = true := by
  unfold jm_elc
  refine List.all_eq_true.mpr fun k hk => ?_
  have hk := List.mem_range.mp hk
  rcases hF : F k with _ | y
  · rfl
  · exact decide_eq_true (h k hk y hF)
theorem els_t {F : Nat → Option Nat} (hk : kd = 16 ∨ kd = 17 ∨ kd = 12) (h : ∀ k, k < n → ∀ y, F k = some y → jm_elt m y = some kd) : jm_els m n F = true := by
  unfold jm_els
  rcases hk with rfl | rfl | rfl
  · rw [elc_t h]; rfl
  · rw [elc_t h, Bool.true_or, Bool.or_true]
  · rw [elc_t h, Bool.or_true, Bool.or_true]
theorem sAL_newLength {a b c : Int} (a0 : 0 ≤ a) (a1 : a < 1000) (b0 : 0 ≤ b) (b1 : b < 1000) (c0 : 0 ≤ c) (c1 : c < 1000) (h : 0 < a + max b c) : jm_env (d + 1) 180 [.int (i3 a), .int (i3 b), .int (i3 c)] m = some (.inl (some (.int (i3 (a + max b c)))), m) := by
  rw [eJ8_newLength_cabcc, bJ8_newLength_cabcc_0]
  rw [ie_lt (by omega) (by omega) (by omega) (by omega), i3_ite, if_mx, i3_add, ie_le (by omega) (by omega) (by omega) (by omega), if_neg (by omega), bJ8_newLength_cabcc_13, ie_lt (by omega) (by omega) (by omega) (by omega), if_neg (by omega), bJ8_newLength_cabcc_19]
theorem i3_neg0 {z : Int} (h0 : 0 ≤ z) (h1 : z < 2147483648) : ¬ (i3 z < 0) := by
  have h : (i3 z < (0 : Int32)) = (z < 0) := i3_lt (b := 0) (by omega) (by omega) (by omega) (by omega)
  rw [h]; omega
theorem i3_sh1 {z : Nat} (h : z < 1000) : i3 (z : Int) >>> (i3 1 &&& 31) = i3 ((z / 2 : Nat) : Int) := by
  rw [show i3 1 = i3 ((1 : Nat) : Int) from rfl, i3_sar (by omega) (by omega) (by omega)]
  congr 1
/-- a full row, made longer -/
theorem sAL_grow (h : isLs m a e n n f) (hn : n < 60) (hk : kd = 16 ∨ kd = 17 ∨ kd = 12) (hf : ∀ k, k < n → jm_elt m (f k) = some kd) (hm : m.1 < 1000000) : ∃ m' cap', jm_env (d + 3) 170 [.ref a] m = some (.inl (some (.ref m.1)), m') ∧ isLs m' a m.1 cap' n f ∧ n < cap' ∧ frK m m' (fun j => j = a) 1 := by
  obtain ⟨⟨mc, q1⟩, q2, q3, q4, q5⟩ := h
  rw [eJx4a65c_grow_d5877 _ _ _ (q_C q1), bJx4a65c_grow_d5877_0, q_gI q1 (k := 2) rfl, ob_s, i3_add, eJx4a65c_grow_92f84 _ _ _ _ (q_C q1), bJx4a65c_grow_92f84_0, q_gR q1 (k := 1) rfl, ob_s]
  rcases q5 with ⟨c1, c2, c3⟩ | ⟨c1, c2, c3, F, c4, c5, c6⟩
  · subst c1
    rw [q_len (t := 12) (r := e) (by rw [c3]; rfl) (by decide) (by decide), ob_s, i3_ofNat, ie_lt (by omega) (by omega) (by omega) (by omega), if_neg (by omega), bJx4a65c_grow_92f84_10, q_gR q1 (k := 1) rfl, ob_s, if_pos (show e = 35184372088832 from c2)]
    dsimp only
    rw [bJx4a65c_grow_92f84_45]
    rw [ie_lt (by omega) (by omega) (by omega) (by omega), i3_ite, if_neg (by omega : ¬ (10 : Int) < ((0 : Nat) : Int) + 1), i3_nat (by omega) (by omega), if_neg (by rintro (g | g); exact i3_neg0 (by omega) (by omega) g; omega), q_mk hm]
    have o1 : isO (jm_new m (jm_rw 10 fun _ => none) 10) a 17 [.int (i3 mc), .ref e, .int (i3 ((0 : Nat) : Int))] := (if_neg (by omega)).trans q1
    obtain ⟨m2, e2, o2, k2⟩ := q_put (x := .ref m.1) o1 (k := 1) (by show 1 < 3; omega)
    have e2' : jm_put (jm_new m (.inl (6, (10 : Int).toNat, .inr (.inr (.inr (.inr fun _ => none))))) (10 : Int).toNat) a 17 1 (.ref m.1) = some m2 := e2
    rw [e2']
    refine ⟨m2, 10, rfl, ⟨⟨mc, o2⟩, by omega, by omega, ?_, Or.inr ⟨by omega, ?_, by omega, fun _ => none, ?_, fun k hk => by omega, fun _ _ => rfl⟩⟩, by omega, ?_⟩
    · rw [k2.1]; exact Nat.lt_succ_of_lt q4
    · rw [k2.1]; exact Nat.lt_succ_self _
    · rw [k2.2.2 _ (by omega)]; exact nw_at
    · exact frK_t (k := 1) (j := 0) (frK_m (nw_fr hm (by omega)) (fun _ _ q => q.elim) (Nat.le_refl _)) (fr1_1 k2 rfl)
  · rw [q_len (t := 6) (r := e) (by rw [c4]; rfl) (by decide) (by decide), ob_s, i3_ofNat, ie_lt (by omega) (by omega) (by omega) (by omega)]
    dsimp only
    rw [if_pos (by omega), bJx4a65c_grow_92f84_20, i3_sub, i3_sh1 (by omega), sAL_newLength (by omega) (by omega) (by omega) (by omega) (by omega) (by omega) (by omega), ob_s, bI_v, q_gR q1 (k := 1) rfl, ob_s]
    generalize hcap : (n : Int) + max ((n : Int) + 1 - (n : Int)) ((n / 2 : Nat) : Int) = cp
    have hc1 : n < cp.toNat ∧ cp.toNat ≤ 100 ∧ 0 ≤ cp := by omega
    have hels : jm_els m n F = true := els_t hk fun k hk y hy => by
      have q := hf k hk
      rw [c5 k hk] at hy
      cases hy
      exact q
    have hco : ∀ g, jm_cO m e (i3 cp) g = g (jm_new m (jm_rw cp.toNat (va_cpy F (fun _ => none) 0 0 n)) cp.toNat) := by
      intro g
      unfold jm_cO
      rw [c4]
      show (if 6 = 6 ∧ ¬ i3 cp < 0 ∧ n ≤ (i3 cp).toNatClampNeg ∧ (i3 cp).toNatClampNeg ≤ 10000000 ∧ jm_els m n F = true then jm_mk m (.inl (6, (i3 cp).toNatClampNeg, _)) (i3 cp).toNatClampNeg g else none) = _
      rw [i3_nat (by omega) (by omega), if_pos ⟨rfl, i3_neg0 (by omega) (by omega), by omega, by omega, hels⟩, q_mk hm]
      rfl
    have o1 : isO (jm_new m (jm_rw cp.toNat (va_cpy F (fun _ => none) 0 0 n)) cp.toNat) a 17 [.int (i3 mc), .ref e, .int (i3 (n : Int))] := (if_neg (by omega)).trans q1
    obtain ⟨m2, e2, o2, k2⟩ := q_put (x := .ref m.1) o1 (k := 1) (by show 1 < 3; omega)
    rw [hco, e2]
    refine ⟨m2, cp.toNat, rfl, ⟨⟨mc, o2⟩, by omega, by omega, ?_, Or.inr ⟨by omega, ?_, by omega, va_cpy F (fun _ => none) 0 0 n, ?_, fun k hk => ?_, fun k hk => ?_⟩⟩, by omega, ?_⟩
    · rw [k2.1]; exact Nat.lt_succ_of_lt q4
    · rw [k2.1]; exact Nat.lt_succ_self _
    · rw [k2.2.2 _ (by omega)]; exact nw_at
    · unfold va_cpy
      rw [if_pos (by omega), ← c5 k hk]
      congr 1
      omega
    · unfold va_cpy
      rw [if_neg (by omega)]
    · exact frK_t (k := 1) (j := 0) (frK_m (nw_fr hm (by omega)) (fun _ _ q => q.elim) (Nat.le_refl _)) (fr1_1 k2 rfl)
theorem bR_w {x : Nat} {m : jm_Mem} {f : Nat → jm_Mem → Option jm_Res} {g : String → jm_Mem → Option jm_Res} : jm_bR f g (.inl (some (.ref x)), m) = f x m := rfl
theorem elt_st {y : Nat} {S : Nat → Prop} {k : Nat} (h : jm_elt m y = some kd) (hf : frK m m' S k) (h1 : y < m.1 ∨ 1000000 ≤ y) (h2 : ¬ S y) : jm_elt m' y = some kd := by
  unfold jm_elt at h ⊢
  rw [hf.2.2.2.2 y h1 h2]
  exact h
theorem sAL_tl {call : jm_Call} (h : isLs m a e cap n f) (hn : n < cap) (hx : jm_elt m x = some kd) : ∃ m', jm_R call jmM_Jx4a65c_add_72be8 11 [some (.ref a), some (.ref x), some (.ref e), some (.int (i3 n))] [] m = some (.inl none, m') ∧ isLs m' a e cap (n + 1) (fun k => if k = n then x else f k) ∧ frK m m' (fun j => j = a ∨ j = e) 0 := by
  obtain ⟨⟨mc, q1⟩, q2, q3, q4, q5⟩ := h
  rcases q5 with ⟨c1, -, -⟩ | ⟨c1, c2, c3, F, c4, c5, c6⟩
  · omega
  · rw [bJx4a65c_add_72be8_11, q_wQ c4 (z := (n : Int)) (by omega) (by omega) (by omega) (by rw [hx]; rfl), ob_s, i3_add]
    have o1 : isO (jm_up m e (jm_rw cap (va_up F (n : Int).toNat (some x)))) a 17 [.int (i3 mc), .ref e, .int (i3 n)] := (if_neg (by omega)).trans q1
    obtain ⟨m2, e2, o2, k2⟩ := q_put (x := .int (i3 ((n : Int) + 1))) o1 (k := 2) (by show 2 < 3; omega)
    rw [e2]
    refine ⟨m2, rfl, ⟨⟨mc, o2⟩, by omega, q3, by rw [k2.1]; exact q4, Or.inr ⟨c1, by rw [k2.1]; exact c2, c3, va_up F (n : Int).toNat (some x), ?_, fun k hk => ?_, fun k hk => ?_⟩⟩, ?_⟩
    · rw [k2.2.2 _ c3]
      exact if_pos rfl
    · unfold va_up
      dsimp only
      by_cases g : k = n
      · rw [if_pos (by omega), if_pos g]
      · rw [if_neg (by omega), if_neg g]; exact c5 k (by omega)
    · unfold va_up
      rw [if_neg (by omega)]; exact c6 k (by omega)
    · refine fr1_S (a := e) (m1 := jm_up m e (jm_rw cap (va_up F (n : Int).toNat (some x)))) ⟨rfl, rfl, fun j hj => if_neg hj⟩ (fr1_1 k2 (Or.inl rfl)) (Or.inr rfl)
/-- put at the end of a list -/
theorem sAL_add (h : isLs m a e cap n f) (hn : n < 60) (hk : kd = 16 ∨ kd = 17 ∨ kd = 12) (hf : ∀ k, k < n → jm_elt m (f k) = some kd ∧ f k ≠ a ∧ (f k < m.1 ∨ 1000000 ≤ f k)) (hx : jm_elt m x = some kd ∧ x ≠ a ∧ (x < m.1 ∨ 1000000 ≤ x)) (hm : m.1 < 1000000) : ∃ m' e' cap', jm_env (d + 5) 175 [.ref a, .ref x] m = some (.inl (some (.int (i3 1))), m') ∧ isLs m' a e' cap' (n + 1) (fun k => if k = n then x else f k) ∧ (e' = e ∨ m.1 ≤ e') ∧ frK m m' (fun j => j = a ∨ (j = e ∧ e < m.1)) 1 := by
  have h' := h
  obtain ⟨⟨mc, q1⟩, q2, q3, q4, q5⟩ := h
  obtain ⟨m1, e1, o1, k1⟩ := q_put (x := .int (i3 (mc + 1))) q1 (k := 0) (by show 0 < 3; omega)
  have f1 : frK m m1 (fun j => j = a) 0 := fr1_1 k1 rfl
  have ne : e ≠ a := by
    rcases q5 with ⟨-, c2, -⟩ | ⟨-, -, c3, -⟩
    · rw [c2]; unfold jm_dcp; omega
    · exact c3
  have h1 : isLs m1 a e cap n f := by
    refine ⟨⟨mc + 1, o1⟩, q2, q3, by rw [k1.1]; exact q4, ?_⟩
    rw [k1.2.2 _ ne, k1.1]
    exact q5
  have hlen : jm_len m1 e = some cap := by
    rcases q5 with ⟨c1, c2, c3⟩ | ⟨c1, c2, c3, F, c4, c5, c6⟩
    · rw [c1, q_len (t := 12) (r := e) (by rw [k1.2.2 _ ne, c3]; rfl) (by decide) (by decide)]
    · rw [q_len (t := 6) (r := e) (by rw [k1.2.2 _ ne, c4]; rfl) (by decide) (by decide)]
  rw [eJx4a65c_add_9ea2d _ _ _ _ (q_C q1), bJx4a65c_add_9ea2d_0, q_gI q1 (k := 0) rfl, ob_s, i3_add, e1, ob_s, q_gR o1 (k := 1) rfl, ob_s, q_gI o1 (k := 2) rfl, ob_s, eJx4a65c_add_72be8 _ _ _ _ _ _ (q_C o1), bJx4a65c_add_72be8_0, hlen, ob_s, i3_ofNat, ie_eq (by omega) (by omega) (by omega) (by omega)]
  by_cases g : (n : Int) = cap
  · have g : n = cap := by omega
    subst g
    obtain ⟨m2, cap2, e2, h2, hc, f2⟩ := sAL_grow (d := d) h1 hn hk (fun k hk => elt_st (hf k hk).1 f1 (hf k hk).2.2 (hf k hk).2.1) (by rw [k1.1]; exact hm)
    obtain ⟨m3, e3, h3, f3⟩ := sAL_tl (call := jm_env (d + 3)) h2 hc (elt_st (elt_st hx.1 f1 hx.2.2 hx.2.1) f2 (by rw [k1.1]; exact hx.2.2) hx.2.1)
    rw [if_pos rfl, bJx4a65c_add_72be8_6, e2, ob_s, bR_w, e3]
    refine ⟨m3, m1.1, cap2, rfl, h3, Or.inr (by rw [k1.1]; exact Nat.le_refl _), ?_⟩
    exact frK_u (frK_u (k := 0) (j := 1) (frK_m f1 (fun _ _ q => Or.inl q) (Nat.le_refl _)) f2 (fun _ _ q => Or.inl q)) f3 (fun j hj q => by
      rcases q with q | q
      · exact Or.inl q
      · rw [k1.1] at q; omega)
  · obtain ⟨m3, e3, h3, f3⟩ := sAL_tl (call := jm_env (d + 3)) h1 (by omega) (elt_st hx.1 f1 hx.2.2 hx.2.1)
    rw [if_neg g, e3]
    have he : e < m.1 := by
      rcases q5 with ⟨c1, -, -⟩ | ⟨-, c2, -⟩
      · omega
      · exact c2
    exact ⟨m3, e, cap, rfl, h3, Or.inl rfl, frK_m (frK_u (k := 0) (j := 0) (frK_m f1 (fun _ _ q => Or.inl q) (Nat.le_refl _)) f3 (fun _ _ q => q.imp id fun q => ⟨q, he⟩)) (fun _ _ q => q) (by omega)⟩
end LWC
