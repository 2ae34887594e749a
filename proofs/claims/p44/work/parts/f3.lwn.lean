-- uses 24.zar 25.obj 26.ops 30.rd 31.re 34.gen 41.bit 07.rel c0.foa c1.fob e0.lwa e1.lwb e2.lwc
/-! Lists of Integers, built anew. -/
def iN (z : Int) : Nat := jm_int + (z + 128).toNat
section LWN
variable {m m0 m' : jm_Mem} {d a e cap n : Nat} {q : Nat → Int}
theorem by_t {z : Int} (h0 : -128 ≤ z) (h1 : z < 128) : jm_by (i3 z) = true := by
  unfold jm_by
  have e1 : (-128 : Int32) = i3 (-128) := rfl
  have e2 : (128 : Int32) = i3 128 := rfl
  rw [e1, e2, decide_eq_true (by rw [i3_le (by omega) (by omega) (by omega) (by omega)]; exact h0), decide_eq_true (by rw [i3_lt (by omega) (by omega) (by omega) (by omega)]; exact h1)]
  rfl
theorem iN_e {z : Int} (h0 : -128 ≤ z) (h1 : z < 128) : jm_int + (Int32.toInt (i3 z) + 128).toNat = iN z := by
  unfold iN
  rw [i3_toInt (by omega) (by omega)]
theorem iN_v {z : Int} (h0 : -128 ≤ z) (h1 : z < 128) : i3 ((iN z : Nat) - jm_int - 128) = i3 z := by
  unfold iN
  congr 1
  omega
theorem iN_b {z : Int} (h0 : -128 ≤ z) (h1 : z < 128) : jm_int ≤ iN z ∧ iN z < jm_int + 256 := by
  unfold iN
  omega
theorem iN_c {z : Int} (h0 : -128 ≤ z) (h1 : z < 128) : jm_caO m (iN z) 16 = true := by
  obtain ⟨a, b⟩ := iN_b h0 h1
  unfold jm_caO
  show (decide (jm_int ≤ iN z) && decide (iN z < jm_int + 256)) = true
  rw [decide_eq_true a, decide_eq_true b]
  rfl
theorem iN_t {z : Int} (h0 : -128 ≤ z) (h1 : z < 128) : jm_elt m (iN z) = some 16 := if_pos (iN_b h0 h1)
theorem iN_big {z : Int} : 1000000 ≤ iN z := by
  have : 1000000 ≤ jm_int := by decide
  unfold iN
  omega
/-- a list of Integers -/
def isP (m : jm_Mem) (a e n : Nat) (q : Nat → Int) : Prop := ∃ cap, isLs m a e cap n (fun k => iN (q k))
/-- .. that was built since m0 -/
def isB (m0 m : jm_Mem) (a e n : Nat) (q : Nat → Int) : Prop := isP m a e n q ∧ m0.1 ≤ a ∧ (m0.1 ≤ e) ∧ frK m0 m (fun _ => False) (n + 1)
theorem isP_fr (h : isP m a e n q) (h1 : m.1 ≤ m'.1) (ha : m'.2.1 a = m.2.1 a) (he : m'.2.1 e = m.2.1 e) : isP m' a e n q := by
  obtain ⟨cap, h⟩ := h
  exact ⟨cap, isLs_fr h h1 ha he⟩
theorem isP_cg {q' : Nat → Int} (h : isP m a e n q) (hq : ∀ k, k < n → q k = q' k) : isP m a e n q' := by
  obtain ⟨cap, h⟩ := h
  exact ⟨cap, isLs_cg h fun k hk => by rw [hq k hk]⟩
theorem isP_a (h : isP m a e n q) : a < m.1 := by
  obtain ⟨cap, h⟩ := h
  exact h.2.2.2.1
/-- where its row lies -/
theorem isP_e (h : isP m a e n q) : e = jm_dcp ∨ e < m.1 := by
  obtain ⟨cap, -, -, -, -, h⟩ := h
  exact h.imp (fun h => h.2.1) fun h => h.2.1
theorem isP_n (h : isP m a e n q) (hn : 1 ≤ n) : e < m.1 := by
  obtain ⟨cap, -, h2, -, -, h⟩ := h
  rcases h with ⟨h, -, -⟩ | ⟨-, h, -⟩
  · omega
  · exact h
theorem sP_new (hm : m.1 < 1000000) (hd : m.2.1 jm_dcp = jm_dcE) {G : jm_Mem → Option jm_Res} {g : String → jm_Mem → Option jm_Res} : ∃ m', (jm_mk m (.inr (17, [.int 0, .null, .int 0])) 3 fun m1 => (jm_env (d + 3) 168 [.ref m.1] m1).bind (jm_bV G g)) = G m' ∧ isB m m' m.1 jm_dcp 0 (fun _ => 0) := by
  have ho : isO (jm_new m (.inr (17, [.int 0, .null, .int 0])) 3) m.1 17 [.int 0, .null, .int 0] := nw_at
  have hd' : (jm_new m (.inr (17, [.int 0, .null, .int 0])) 3).2.1 jm_dcp = jm_dcE := (if_neg (by unfold jm_dcp; omega)).trans hd
  obtain ⟨m1, e1, h1, f1⟩ := sAL_init (d := d) (f := fun _ => iN 0) ho (Nat.lt_succ_self _) (by show m.1 + 1 ≤ 1000000; omega) hd'
  refine ⟨m1, ?_, ⟨0, h1⟩, Nat.le_refl _, by unfold jm_dcp; omega, ?_⟩
  · rw [q_mk hm, e1, ob_s, bV_v]
  · exact frK_u (k := 1) (j := 0) (nw_fr hm (by omega)) (fr1_1 f1 (S := fun j => j = m.1) rfl) (fun j hj q => by unfold jm_Mem at *; omega)
/-- one more -/
theorem sP_add (h : isB m0 m a e n q) (hn : n < 60) {z : Int} (z0 : 0 ≤ z) (z1 : z < 128) (hq : ∀ k, k < n → 0 ≤ q k ∧ q k < 128) (hm : m.1 < 1000000) : ∃ m' e', jm_env (d + 5) 175 [.ref a, .ref (iN z)] m = some (.inl (some (.int (i3 1))), m') ∧ isB m0 m' a e' (n + 1) (fun k => if k = n then z else q k) ∧ m'.1 ≤ m.1 + 1 := by
  obtain ⟨⟨cap, h1⟩, h2, h3, h4⟩ := h
  have hb := @iN_big
  have ha : a < m.1 := h1.2.2.2.1
  obtain ⟨m', e', cap', e1, l1, l2, l3⟩ := sAL_add (d := d) (kd := 16) (x := iN z) h1 hn (Or.inl rfl) (fun k hk => ⟨iN_t (by have := hq k hk; omega) (hq k hk).2, by have := @iN_big (q k); omega, Or.inr iN_big⟩) ⟨iN_t (by omega) z1, by have := @iN_big z; omega, Or.inr iN_big⟩ hm
  refine ⟨m', e', e1, ⟨⟨cap', isLs_cg l1 fun k hk => by dsimp only; split <;> rfl⟩, h2, ?_, ?_⟩, l3.2.1⟩
  · have := h4.1
    rcases l2 with l2 | l2 <;> omega
  · refine frK_m (frK_u h4 l3 (fun j hj q => ?_)) (fun _ _ q => q) (by omega)
    rcases q with q | ⟨q, q2⟩ <;> omega
/-- the locals of a fold -/
abbrev l15 (s p nx : Nat) (n f R C dn ac k b tr tc r c : Int) (t : jm_Loc) : jm_Loc := some (.ref s) :: some (.int (i3 n)) :: some (.int (i3 f)) :: some (.int (i3 R)) :: some (.int (i3 C)) :: some (.ref p) :: some (.int (i3 dn)) :: some (.int (i3 ac)) :: some (.int (i3 k)) :: some (.int (i3 b)) :: some (.ref nx) :: some (.int (i3 tr)) :: some (.int (i3 tc)) :: some (.int (i3 r)) :: some (.int (i3 c)) :: t
theorem xr_b {z : Int} (h0 : 0 ≤ z) (h1 : z < 64) : 0 ≤ xr z ∧ xr z < 64 := by unfold xr; split <;> omega
/-- the upper pile, turned -/
theorem sP_rev {s p nx ov eo ht : Nat} {n f R C dn ac k b tr tc r c : Int} {x19 : Option Value} {q : Nat → Int} (ho : isP m0 ov eo ht q) (h32 : ht ≤ 32) (h1 : 1 ≤ ht) (hq : ∀ k, k < ht → 0 ≤ q k ∧ q k < 64) (hm0 : m0.1 < 900000) (h : isB m0 m a e 0 (fun _ => 0)) : ∀ j : Nat, j ≤ ht → ∃ m' e', jm_R (jm_env (d + 5)) jmM_L_leaves 246 (l15 s p nx n f R C dn ac k b tr tc r c [some (.ref ov), some (.ref a), some (.int (i3 1)), some (.int (i3 ((ht : Int) - 1))), x19]) [] m = jm_R (jm_env (d + 5)) jmM_L_leaves 246 (l15 s p nx n f R C dn ac k b tr tc r c [some (.ref ov), some (.ref a), some (.int (i3 1)), some (.int (i3 ((ht : Int) - 1 - j))), x19]) [] m' ∧ isB m0 m' a e' j (fun t => xr (q (ht - 1 - t))) := by
  intro j
  induction j with
  | zero =>
    intro _
    refine ⟨m, e, ?_, isP_cg h.1 (fun k hk => by omega), h.2⟩
    rw [show (ht : Int) - 1 - ((0 : Nat) : Int) = (ht : Int) - 1 by omega]
  | succ j ih =>
    intro hj
    obtain ⟨m1, e1, r1, b1⟩ := ih (by omega)
    have hov : isP m1 ov eo ht q := isP_fr ho b1.2.2.2.1 (b1.2.2.2.2.2.2.2 ov (Or.inl (isP_a ho)) id) (b1.2.2.2.2.2.2.2 eo (Or.inl (isP_n ho h1)) id)
    have hm1 : m1.1 < 1000000 := by have := b1.2.2.2.2.1; omega
    have hqz := hq (ht - 1 - j) (by omega)
    have hx := xr_b hqz.1 hqz.2
    obtain ⟨cap, hl⟩ := hov
    have hget := sAL_get (d := d + 3) hl (z := (ht : Int) - 1 - j) (by omega) (by omega)
    rw [show ((ht : Int) - 1 - j).toNat = ht - 1 - j by omega] at hget
    obtain ⟨m2, e2, r2, b2, -⟩ := sP_add (d := d) (z := xr (q (ht - 1 - j))) b1 (by omega) (by omega) (by omega) (fun k hk => by have := hq (ht - 1 - k) (by omega); have := xr_b this.1 this.2; omega) hm1
    refine ⟨m2, e2, ?_, ⟨isP_cg b2.1 (fun k hk => ?_), b2.2⟩⟩
    · rw [r1, bL_leaves_246, ie_lt (by omega) (by omega) (by omega) (by omega), if_neg (by omega), bL_leaves_251, hget, ob_s, bR_w, if_pos (iN_c (by omega) (by omega)), if_pos (iN_b (by omega) (by omega)), iN_v (by omega) (by omega), i3_xr hqz.1 hqz.2, if_pos (by_t (by omega) (by omega)), iN_e (by omega) (by omega), r2, ob_s, bI_v, i3_add, show (ht : Int) - 1 - (j : Int) + -1 = (ht : Int) - 1 - ((j + 1 : Nat) : Int) by omega]
    · by_cases g : k = j
      · rw [if_pos g, g]
      · rw [if_neg g]
/-- the lower pile under it -/
theorem sP_fwd {s p nx un eu ht : Nat} {n f R C dn ac k b tr tc r c : Int} {x15 : Nat} {q u : Nat → Int} (ho : isP m0 un eu ht q) (h32 : ht ≤ 32) (h1 : 1 ≤ ht) (hq : ∀ k, k < ht → 0 ≤ q k ∧ q k < 64) (hu : ∀ k, k < ht → 0 ≤ u k ∧ u k < 64) (h16 : 2 * ht ≤ 32) (hm0 : m0.1 < 900000) (h : isB m0 m a e ht u) : ∀ j : Nat, j ≤ ht → ∃ m' e', jm_R (jm_env (d + 5)) jmM_L_leaves 309 (l15 s p nx n f R C dn ac k b tr tc r c [some (.ref x15), some (.ref a), some (.int (i3 1)), some (.ref un), some (.int (i3 0))]) [] m = jm_R (jm_env (d + 5)) jmM_L_leaves 309 (l15 s p nx n f R C dn ac k b tr tc r c [some (.ref x15), some (.ref a), some (.int (i3 1)), some (.ref un), some (.int (i3 j))]) [] m' ∧ isB m0 m' a e' (ht + j) (fun t => if t < ht then u t else q (t - ht)) := by
  intro j
  induction j with
  | zero =>
    intro _
    exact ⟨m, e, rfl, isP_cg h.1 (fun k hk => (if_pos hk).symm), h.2⟩
  | succ j ih =>
    intro hj
    obtain ⟨m1, e1, r1, b1⟩ := ih (by omega)
    have hov : isP m1 un eu ht q := isP_fr ho b1.2.2.2.1 (b1.2.2.2.2.2.2.2 un (Or.inl (isP_a ho)) id) (b1.2.2.2.2.2.2.2 eu (Or.inl (isP_n ho h1)) id)
    have hm1 : m1.1 < 1000000 := by have := b1.2.2.2.2.1; omega
    have hqz := hq j (by omega)
    obtain ⟨cap, hl⟩ := hov
    have hget := sAL_get (d := d + 3) hl (z := (j : Int)) (by omega) (by omega)
    rw [Int.toNat_natCast] at hget
    have hsz := sAL_size (d := d + 4) hl
    obtain ⟨m2, e2, r2, b2, -⟩ := sP_add (d := d) (z := q j) b1 (by omega) (by omega) (by omega) (fun k hk => by
      split
      · have := hu k (by omega); omega
      · have := hq (k - ht) (by omega); omega) hm1
    refine ⟨m2, e2, ?_, ⟨isP_cg b2.1 (fun k hk => ?_), b2.2⟩⟩
    · rw [r1, bL_leaves_309, hsz, ob_s, bI_v, ie_le (by omega) (by omega) (by omega) (by omega), if_neg (by omega), bL_leaves_321, hget, ob_s, bR_w, if_pos (iN_c (by omega) (by omega)), r2, ob_s, bI_v, i3_add]
      rfl
    · by_cases g : k = ht + j
      · rw [if_pos g, g, if_neg (by omega)]
        congr 1
        omega
      · rw [if_neg g]
end LWN
