-- uses 24.zar 25.obj 26.ops 30.rd 31.re 34.gen 41.bit 07.rel c0.foa c1.fob e0.lwa e1.lwb e2.lwc f3.lwn
/-! One place of a fold. -/
/-- a list of piles of ht leaves -/
def PL (m : jm_Mem) (p e n ht : Nat) (a eP : Nat → Nat) (Q : Nat → Nat → Int) : Prop := (∃ cap, isLs m p e cap n a) ∧ ∀ j, j < n → isP m (a j) (eP j) ht (Q j) ∧ a j ≠ p ∧ a j ≠ e ∧ eP j ≠ p ∧ eP j ≠ e
section LWO
variable {m m' : jm_Mem} {d p e n ht : Nat} {a eP : Nat → Nat} {Q : Nat → Nat → Int}
theorem isLs_e {cap : Nat} (h : isLs m p e cap n a) : e = jm_dcp ∨ e < m.1 := by
  obtain ⟨-, -, -, -, h⟩ := h
  exact h.imp (fun h => h.2.1) fun h => h.2.1
theorem old_dcp {j : Nat} (h : j = jm_dcp ∨ j < m.1) : j < m.1 ∨ 1000000 ≤ j := by
  rcases h with h | h
  · right; rw [h]; decide
  · exact Or.inl h
theorem PL_K {k : Nat} {S : Nat → Prop} (h : PL m p e n ht a eP Q) (f : frK m m' S k) (hp : ¬ S p) (he : ¬ S e) (ha : ∀ j, j < n → ¬ S (a j) ∧ ¬ S (eP j)) : PL m' p e n ht a eP Q := by
  obtain ⟨⟨cap, h1⟩, h2⟩ := h
  refine ⟨⟨cap, isLs_fr h1 f.1 (f.2.2.2.2 p (Or.inl h1.2.2.2.1) hp) (f.2.2.2.2 e (old_dcp (isLs_e h1)) he)⟩, fun j hj => ?_⟩
  obtain ⟨q1, q2⟩ := h2 j hj
  exact ⟨isP_fr q1 f.1 (f.2.2.2.2 _ (Or.inl (isP_a q1)) (ha j hj).1) (f.2.2.2.2 _ (old_dcp (isP_e q1)) (ha j hj).2), q2⟩
theorem PL_0 {k : Nat} (h : PL m p e n ht a eP Q) (f : frK m m' (fun _ => False) k) : PL m' p e n ht a eP Q := PL_K h f id id fun _ _ => ⟨id, id⟩
theorem isP_elt (h : isP m p e ht (Q 0)) (hm : m.1 ≤ 1000000) : jm_elt m p = some 17 := by
  obtain ⟨cap, ⟨mc, h1⟩, h2, h3, h4, -⟩ := h
  exact elt_o h1 (by omega) (Or.inr rfl)
theorem isP_o {q : Nat → Int} (h : isP m p e ht q) : ∃ fs, isO m p 17 fs := by
  obtain ⟨cap, ⟨mc, h1⟩, -⟩ := h
  exact ⟨_, h1⟩
/-- a pile is put to the list -/
theorem PL_add {x ex : Nat} {qx : Nat → Int} (h : PL m p e n ht a eP Q) (hn : n < 60) (hx : isP m x ex ht qx) (hh : 1 ≤ ht) (x1 : x ≠ p) (x2 : x ≠ e) (x3 : ex ≠ p) (x4 : ex ≠ e) (hm : m.1 < 1000000) (h1 : 1 ≤ ht) : ∃ m' e', jm_env (d + 5) 175 [.ref p, .ref x] m = some (.inl (some (.int (i3 1))), m') ∧ PL m' p e' (n + 1) ht (fun j => if j = n then x else a j) (fun j => if j = n then ex else eP j) (fun j => if j = n then qx else Q j) ∧ (e' = e ∨ m.1 ≤ e') ∧ frK m m' (fun j => j = p ∨ (j = e ∧ e < m.1)) 1 := by
  obtain ⟨⟨cap, l1⟩, l2⟩ := h
  obtain ⟨fx, ox⟩ := isP_o hx
  have hxm := isP_a hx
  obtain ⟨m', e', cap', r, l, le, f⟩ := sAL_add (d := d) (kd := 17) (x := x) l1 hn (Or.inr (Or.inl rfl)) (fun k hk => by
    obtain ⟨q1, q2, -⟩ := l2 k hk
    obtain ⟨fs, o⟩ := isP_o q1
    have := isP_a q1
    exact ⟨elt_o o (by omega) (Or.inr rfl), q2, Or.inl this⟩) ⟨elt_o ox (by omega) (Or.inr rfl), x1, Or.inl hxm⟩ hm
  refine ⟨m', e', r, ⟨⟨cap', l⟩, fun j hj => ?_⟩, le, f⟩
  dsimp only
  by_cases g : j = n
  · rw [if_pos g, if_pos g, if_pos g]
    have e1 := f.2.2.2.2 x (Or.inl hxm) (by rintro (u | ⟨u, -⟩); exact x1 u; exact x2 u)
    have hex := isP_n hx h1
    have e2 := f.2.2.2.2 ex (Or.inl hex) (by rintro (u | ⟨u, -⟩); exact x3 u; exact x4 u)
    refine ⟨isP_fr hx f.1 e1 e2, x1, ?_, x3, ?_⟩
    · rcases le with u | u
      · rw [u]; exact x2
      · omega
    · rcases le with u | u
      · rw [u]; exact x4
      · omega
  · rw [if_neg g, if_neg g, if_neg g]
    obtain ⟨q1, q2, q3, q4, q5⟩ := l2 j (by omega)
    have hqm := isP_a q1
    have hqe := isP_n q1 h1
    refine ⟨isP_fr q1 f.1 (f.2.2.2.2 _ (Or.inl hqm) (by rintro (u | ⟨u, -⟩); exact q2 u; exact q3 u)) (f.2.2.2.2 _ (Or.inl hqe) (by rintro (u | ⟨u, -⟩); exact q4 u; exact q5 u)), q2, ?_, q4, ?_⟩
    · rcases le with u | u
      · rw [u]; exact q3
      · omega
    · rcases le with u | u
      · rw [u]; exact q5
      · omega
/-- what lies at a place behind a fold -/
def foQ (ht : Nat) (qo qu : Nat → Int) : Nat → Int := fun s => if s < ht then xr (qo (ht - 1 - s)) else qu (s - ht)
theorem sP_place {s nx en t N io iu : Nat} {nn f R C dn ac k b tr tc r c : Int} {x15 x16 x17 x18 x19 : Option Value} {bN bE : Nat → Nat} {QB : Nat → Nat → Int} (h : PL m p e N ht a eP Q) (hB : PL m nx en t (2 * ht) bN bE QB) (ht1 : 1 ≤ ht) (ht2 : 2 * ht ≤ 32) (ht3 : t < 60)
    (hQ : ∀ j, j < N → ∀ k, k < ht → 0 ≤ Q j k ∧ Q j k < 64) (hio : io < N) (hiu : iu < N) (h1 : (b = 1 ∧ (io : Int) = (dn - 1 - r) * ac + c) ∨ (b = 0 ∧ (io : Int) = r * ac + ac - 1 - c)) (h2 : (iu : Int) = r * ac + c) (hN : N ≤ 1000)
    (hm : m.1 < 800000) (hd : m.2.1 jm_dcp = jm_dcE) (p1 : p ≠ nx) (p2 : p ≠ en ∨ m.1 ≤ en) (p3 : e ≠ nx) (p4 : e ≠ en ∨ m.1 ≤ en) (p5 : ∀ j, j < N → a j ≠ nx ∧ (a j ≠ en ∨ m.1 ≤ en) ∧ eP j ≠ nx ∧ (eP j ≠ en ∨ m.1 ≤ en)) :
    ∃ m' en' A eA y15 y16 y17 y18 y19, jm_R (jm_env (d + 5)) jmM_L_leaves 177 (l15 s p nx nn f R C dn ac k b tr tc r c [x15, x16, x17, x18, x19]) [] m = jm_R (jm_env (d + 5)) jmM_L_leaves 170 (l15 s p nx nn f R C dn ac k b tr tc r (c + 1) [y15, y16, y17, y18, y19]) [] m' ∧
      PL m' p e N ht a eP Q ∧ PL m' nx en' (t + 1) (2 * ht) (fun j => if j = t then A else bN j) (fun j => if j = t then eA else bE j) (fun j => if j = t then foQ ht (Q io) (Q iu) else QB j) ∧ (en' = en ∨ m.1 ≤ en') ∧ frK m m' (fun j => j = nx ∨ (j = en ∧ en < m.1)) (2 * ht + 2) := by
  obtain ⟨⟨cap, l1⟩, l2⟩ := h
  obtain ⟨o1, o2⟩ := l2 io hio
  obtain ⟨u1, u2⟩ := l2 iu hiu
  have hget := sAL_get (d := d + 3) l1 (z := (io : Int)) (by omega) (by omega)
  rw [Int.toNat_natCast] at hget
  obtain ⟨fo1, oo1⟩ := isP_o o1
  obtain ⟨fu1, ou1⟩ := isP_o u1
  have e213 : jm_R (jm_env (d + 5)) jmM_L_leaves 177 (l15 s p nx nn f R C dn ac k b tr tc r c [x15, x16, x17, x18, x19]) [] m = jm_R (jm_env (d + 5)) jmM_L_leaves 213 (l15 s p nx nn f R C dn ac k b tr tc r c [x15, x16, x17, x18, x19]) [.int (i3 io), .ref p] m := by
    rw [bL_leaves_177]
    rcases h1 with ⟨g1, g2⟩ | ⟨g1, g2⟩
    · rw [g1, ie_eq (by omega) (by omega) (by omega) (by omega), if_neg (by omega), bL_leaves_184, i3_sub, i3_sub, i3_mul, i3_add, g2]
    · rw [g1, if_pos rfl, bL_leaves_200, i3_mul, i3_add, i3_sub, i3_sub, g2]
  obtain ⟨m1, e1, b1⟩ := sP_new (d := d + 2) (m := m) (by omega) hd (G := fun m4 => (jm_env (d + 5) 171 [.ref (a io)] m4).bind (jm_bI (fun v5 m6 => jm_R (jm_env (d + 5)) jmM_L_leaves 246 (l15 s p nx nn f R C dn ac k b tr tc r c [some (.ref (a io)), some (.ref m.1), some (.int (i3 1)), some (.int (v5 - (i3 1))), x19]) [] m6) jm_y)) (g := jm_y)
  have o1' : isP m1 (a io) (eP io) ht (Q io) := isP_fr o1 b1.2.2.2.1 (b1.2.2.2.2.2.2.2 _ (Or.inl (isP_a o1)) id) (b1.2.2.2.2.2.2.2 _ (Or.inl (isP_n o1 ht1)) id)
  obtain ⟨cap1, lo1⟩ := o1'
  have hsz := sAL_size (d := d + 4) lo1
  obtain ⟨m2, e2, r2, b2⟩ := sP_rev (d := d) (m0 := m) (s := s) (p := p) (nx := nx) (n := nn) (f := f) (R := R) (C := C) (dn := dn) (ac := ac) (k := k) (b := b) (tr := tr) (tc := tc) (r := r) (c := c) (x19 := x19) o1 (by omega) ht1 (hQ io hio) (by omega) b1 ht (Nat.le_refl _)
  have l1' : isLs m2 p e cap N a := isLs_fr l1 b2.2.2.2.1 (b2.2.2.2.2.2.2.2 p (Or.inl l1.2.2.2.1) id) (b2.2.2.2.2.2.2.2 e (old_dcp (isLs_e l1)) id)
  have hget2 := sAL_get (d := d + 3) l1' (z := (iu : Int)) (by omega) (by omega)
  rw [Int.toNat_natCast] at hget2
  have ou2 : isO m2 (a iu) 17 fu1 := isO_fr ou1 (b2.2.2.2.2.2.2.2 _ (Or.inl (isP_a u1)) id)
  obtain ⟨m3, e3, r3, b3⟩ := sP_fwd (d := d) (m0 := m) (s := s) (p := p) (nx := nx) (n := nn) (f := f) (R := R) (C := C) (dn := dn) (ac := ac) (k := k) (b := b) (tr := tr) (tc := tc) (r := r) (c := c) (x15 := a io) u1 (by omega) ht1 (hQ iu hiu) (fun k hk => by have := hQ io hio (ht - 1 - k) (by omega); exact xr_b this.1 this.2) ht2 (by omega) b2 ht (Nat.le_refl _)
  have u3 : isP m3 (a iu) (eP iu) ht (Q iu) := isP_fr u1 b3.2.2.2.1 (b3.2.2.2.2.2.2.2 _ (Or.inl (isP_a u1)) id) (b3.2.2.2.2.2.2.2 _ (Or.inl (isP_n u1 ht1)) id)
  obtain ⟨cap3, lu3⟩ := u3
  have hsz3 := sAL_size (d := d + 4) lu3
  have b3' : isP m3 m.1 e3 (2 * ht) (foQ ht (Q io) (Q iu)) := by
    have := b3.1
    rw [show ht + ht = 2 * ht by omega] at this
    exact this
  have fr3 : frK m m3 (fun _ => False) (2 * ht + 1) := frK_m b3.2.2.2 (fun _ _ q => q) (by omega)
  have hB3 := PL_0 hB fr3
  obtain ⟨⟨capB, lB⟩, -⟩ := hB
  have hnx := lB.2.2.2.1
  have hen := isLs_e lB
  have he3 : m.1 ≤ e3 := b3.2.2.1
  have he3' := isP_n b3' (by omega)
  have hdc : 1000000 ≤ jm_dcp := by decide
  obtain ⟨m4, en4, r4, h4, le4, f4⟩ := PL_add (d := d) (x := m.1) (ex := e3) hB3 (by omega) b3' (by omega) (by omega) (by omega) (by omega) (by have := fr3.2.1; omega) (by have := fr3.2.1; omega) (by omega)
  have m34 := fr3.1
  have m34' := fr3.2.1
  refine ⟨m4, en4, m.1, e3, some (.ref (a io)), some (.ref m.1), some (.int (i3 1)), some (.ref (a iu)), some (.int (i3 ht)), ?_, ?_, h4, ?_, ?_⟩
  · rw [e213, bL_leaves_213, hget, ob_s, bR_w, if_pos (caO_o oo1 (Or.inr rfl))]
    refine e1.trans ?_
    rw [hsz, ob_s, bI_v, i3_sub]
    refine r2.trans ?_
    rw [bL_leaves_246, ie_lt (by omega) (by omega) (by omega) (by omega), if_pos (by omega), bL_leaves_286, i3_mul, i3_add, ← h2, hget2, ob_s, bR_w, if_pos (caO_o ou2 (Or.inr rfl))]
    refine r3.trans ?_
    rw [bL_leaves_309, hsz3, ob_s, bI_v, ie_le (by omega) (by omega) (by omega) (by omega), if_pos (by omega), bL_leaves_348, r4, ob_s, bI_v, i3_add]
  · have hP3 : PL m3 p e N ht a eP Q := PL_0 ⟨⟨cap, l1⟩, l2⟩ fr3
    refine PL_K hP3 f4 ?_ ?_ fun j hj => ⟨?_, ?_⟩
    · rintro (g | ⟨g, g2⟩)
      · exact p1 g
      · have := l1.2.2.2.1; rcases p2 with q | q; exact q g; omega
    · rintro (g | ⟨g, g2⟩)
      · exact p3 g
      · have := isLs_e l1; rcases p4 with q | q; exact q g; rcases hen with y | y <;> omega
    · obtain ⟨a1, a2, a3, a4⟩ := p5 j hj
      have := isP_a (l2 j hj).1
      rintro (g | ⟨g, g2⟩)
      · exact a1 g
      · rcases a2 with q | q; exact q g; omega
    · obtain ⟨a1, a2, a3, a4⟩ := p5 j hj
      have := isP_n (l2 j hj).1 ht1
      rintro (g | ⟨g, g2⟩)
      · exact a3 g
      · rcases a4 with q | q; exact q g; omega
  · rcases le4 with q | q
    · exact Or.inl q
    · exact Or.inr (by omega)
  · refine frK_m (frK_u (frK_m fr3 (fun _ _ q => q.elim) (Nat.le_refl _)) f4 (fun j hj q => ?_)) (fun _ _ q => q) (by omega)
    rcases q with q | ⟨q, q2⟩
    · exact Or.inl q
    · exact Or.inr ⟨q, by rcases hen with y | y <;> omega⟩
end LWO
