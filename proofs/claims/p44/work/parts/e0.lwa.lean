-- uses 24.zar 25.obj 26.ops 34.gen d8.frm d9.frn
/-! What lies at a name: reading, writing, making, in any memory. -/
section LWA
variable {m m' : jm_Mem} {a b c r ci k n t x : Nat} {fs : List Value} {f g : Int → Int} {z y : Int}
def isA (m : jm_Mem) (a n : Nat) (f : Int → Int) : Prop := ∃ g : Nat → Int32, m.2.1 a = .inl (0, n, .inl g) ∧ ∀ k : Nat, k < n → g k = i3 (f k)
def isL (m : jm_Mem) (a n : Nat) (f : Int → Int) : Prop := ∃ g : Nat → Int64, m.2.1 a = .inl (2, n, .inr (.inl g)) ∧ ∀ k : Nat, k < n → g k = i6 (f k)
def isO (m : jm_Mem) (a ci : Nat) (fs : List Value) : Prop := m.2.1 a = .inr (ci, fs)
/-- nothing but what lies at a is other -/
def fr1 (m m' : jm_Mem) (a : Nat) : Prop := m'.1 = m.1 ∧ m'.2.2 = m.2.2 ∧ ∀ n, n ≠ a → m'.2.1 n = m.2.1 n
/-- nothing old is other but what S names; at most k new ones -/
def frK (m m' : jm_Mem) (S : Nat → Prop) (k : Nat) : Prop := m.1 ≤ m'.1 ∧ m'.1 ≤ m.1 + k ∧ m'.2.2.1 ≤ m.2.2.1 + k ∧ m'.2.2.2 ≤ m.2.2.2 + 200 * k ∧ ∀ n, (n < m.1 ∨ 1000000 ≤ n) → ¬ S n → m'.2.1 n = m.2.1 n
theorem q_gR (h : isO m r ci fs) (hk : fs[k]? = some (.ref x)) : jm_gR m r ci k = some x := by
  unfold jm_gR
  rw [show m.2.1 r = _ from h]
  show (if ci = ci then (match fs[k]? with | some (.ref n) => some n | _ => none) else none) = _
  rw [if_pos rfl, hk]
theorem q_gI {x : Int32} (h : isO m r ci fs) (hk : fs[k]? = some (.int x)) : jm_gI m r ci k = some x := by
  unfold jm_gI
  rw [show m.2.1 r = _ from h]
  show (if ci = ci then (match fs[k]? with | some (.int n) => some n | _ => none) else none) = _
  rw [if_pos rfl, hk]
theorem q_C (h : isO m r ci fs) : jm_isC m r ci = true := by
  unfold jm_isC
  rw [show m.2.1 r = _ from h]
  exact decide_eq_true rfl
theorem q_put {x : Value} (h : isO m r ci fs) (hk : k < fs.length) : ∃ m', jm_put m r ci k x = some m' ∧ isO m' r ci (fs.set k x) ∧ fr1 m m' r := by
  refine ⟨jm_up m r (.inr (ci, fs.set k x)), ?_, if_pos rfl, rfl, rfl, fun n hn => if_neg hn⟩
  unfold jm_put
  rw [show m.2.1 r = _ from h]
  show (if ci = ci then (if k < fs.length then _ else _) else _) = _
  rw [if_pos rfl, if_pos hk]
theorem q_aI (h : isA m r n f) (h0 : 0 ≤ z) (h1 : z < n) (hn : n < 2147483648) : jm_aI m r (i3 z) = some (i3 (f z)) := by
  obtain ⟨g, e, hg⟩ := h
  unfold jm_aI
  rw [e]
  show (jm_ix (i3 z) n).map g = _
  rw [ix_z h0 h1 hn]
  show some (g z.toNat) = _
  rw [hg _ (by omega), Int.toNat_of_nonneg h0]
theorem q_aL (h : isL m r n f) (h0 : 0 ≤ z) (h1 : z < n) (hn : n < 2147483648) : jm_aL m r (i3 z) = some (i6 (f z)) := by
  obtain ⟨g, e, hg⟩ := h
  unfold jm_aL
  rw [e]
  show (jm_ix (i3 z) n).map g = _
  rw [ix_z h0 h1 hn]
  show some (g z.toNat) = _
  rw [hg _ (by omega), Int.toNat_of_nonneg h0]
theorem q_wI (h : isA m r n f) (h0 : 0 ≤ z) (h1 : z < n) (hn : n < 2147483648) : ∃ m', jm_wI m r (i3 z) (i3 y) = some m' ∧ isA m' r n (st1 f z y) ∧ fr1 m m' r := by
  obtain ⟨g, e, hg⟩ := h
  refine ⟨jm_up m r (.inl (0, n, .inl (upd g z.toNat (i3 y)))), ?_, ⟨_, if_pos rfl, fun k hk => ?_⟩, rfl, rfl, fun n hn => if_neg hn⟩
  · unfold jm_wI
    rw [e]
    show (jm_ix (i3 z) n).map _ = _
    rw [ix_z h0 h1 hn]
    rfl
  · unfold upd st1
    by_cases q : k = z.toNat
    · rw [if_pos q, if_pos (by omega)]
    · rw [if_neg q, if_neg (by omega), hg k hk]
theorem q_wL (h : isL m r n f) (h0 : 0 ≤ z) (h1 : z < n) (hn : n < 2147483648) : ∃ m', jm_wL m r (i3 z) (i6 y) = some m' ∧ isL m' r n (st1 f z y) ∧ fr1 m m' r := by
  obtain ⟨g, e, hg⟩ := h
  refine ⟨jm_up m r (.inl (2, n, .inr (.inl (vp_updL g z.toNat (i6 y))))), ?_, ⟨_, if_pos rfl, fun k hk => ?_⟩, rfl, rfl, fun n hn => if_neg hn⟩
  · unfold jm_wL
    rw [e]
    show (jm_ix (i3 z) n).map _ = _
    rw [ix_z h0 h1 hn]
    rfl
  · unfold vp_updL st1
    by_cases q : k = z.toNat
    · rw [if_pos q, if_pos (by omega)]
    · rw [if_neg q, if_neg (by omega), hg k hk]
theorem q_len {t : Nat} {y : vp_A} (h : m.2.1 r = .inl (t, y)) (h7 : t ≠ 7) (h8 : t ≠ 10) : jm_len m r = some y.1 := by
  unfold jm_len
  rw [h]
  show (if t = 7 ∨ t = 10 then none else some y.1) = _
  rw [if_neg (by omega)]
/-- a new one -/
theorem q_mk {e : jm_Ent} {s : Nat} {F : jm_Mem → Option jm_Res} (h : m.1 < 1000000) : jm_mk m e s F = F (jm_new m e s) := if_pos h
theorem nw_at {e : jm_Ent} {s : Nat} : (jm_new m e s).2.1 m.1 = e := if_pos rfl
theorem nw_fr {e : jm_Ent} {s : Nat} (h : m.1 < 1000000) (hs : s ≤ 200) : frK m (jm_new m e s) (fun _ => False) 1 := by
  refine ⟨Nat.le_succ _, Nat.le_refl _, Nat.le_refl _, ?_, fun n hn _ => if_neg (by omega)⟩
  show m.2.2.2 + s ≤ m.2.2.2 + 200 * 1
  omega
theorem isA_fr (h : isA m a n f) (e : m'.2.1 a = m.2.1 a) : isA m' a n f := by
  obtain ⟨g, q, hg⟩ := h
  exact ⟨g, e.trans q, hg⟩
theorem isL_fr (h : isL m a n f) (e : m'.2.1 a = m.2.1 a) : isL m' a n f := by
  obtain ⟨g, q, hg⟩ := h
  exact ⟨g, e.trans q, hg⟩
theorem isO_fr (h : isO m a ci fs) (e : m'.2.1 a = m.2.1 a) : isO m' a ci fs := e.trans h
theorem isA_cg (h : isA m a n f) (e : ∀ k : Int, 0 ≤ k → k < n → f k = g k) : isA m a n g := by
  obtain ⟨u, q, hg⟩ := h
  exact ⟨u, q, fun k hk => by rw [hg k hk, e k (by omega) (by omega)]⟩
theorem isL_cg (h : isL m a n f) (e : ∀ k : Int, 0 ≤ k → k < n → f k = g k) : isL m a n g := by
  obtain ⟨u, q, hg⟩ := h
  exact ⟨u, q, fun k hk => by rw [hg k hk, e k (by omega) (by omega)]⟩
theorem fr1_S {m1 : jm_Mem} {S : Nat → Prop} {k : Nat} (h : fr1 m m1 a) (h2 : frK m1 m' S k) (ha : S a) : frK m m' S k := by
  obtain ⟨e1, e2, e3⟩ := h
  obtain ⟨b1, b2, b3, b4, b5⟩ := h2
  rw [e1] at b1 b2
  rw [e2] at b3 b4
  exact ⟨b1, b2, b3, b4, fun n hn hs => (b5 n (by rw [e1]; exact hn) hs).trans (e3 n (fun q => hs (q ▸ ha)))⟩
theorem frK_0 {S : Nat → Prop} {k : Nat} : frK m m S k := ⟨Nat.le_refl _, Nat.le_add_right _ _, Nat.le_add_right _ _, Nat.le_add_right _ _, fun _ _ _ => rfl⟩
theorem fr1_1 {S : Nat → Prop} {k : Nat} (h : fr1 m m' a) (ha : S a) : frK m m' S k := fr1_S h frK_0 ha
theorem frK_t {m1 : jm_Mem} {S : Nat → Prop} {k j : Nat} (h : frK m m1 S k) (h2 : frK m1 m' S j) : frK m m' S (k + j) := by
  obtain ⟨a1, a2, a3, a4, a5⟩ := h
  obtain ⟨b1, b2, b3, b4, b5⟩ := h2
  exact ⟨by omega, by omega, by omega, by omega, fun n hn hs => (b5 n (by omega) hs).trans (a5 n hn hs)⟩
theorem frK_m {S S' : Nat → Prop} {k j : Nat} (h : frK m m' S k) (hs : ∀ n, (n < m.1 ∨ 1000000 ≤ n) → S n → S' n) (hk : k ≤ j) : frK m m' S' j := by
  obtain ⟨a1, a2, a3, a4, a5⟩ := h
  exact ⟨by omega, by omega, by omega, by omega, fun n hn q => a5 n hn fun q2 => q (hs n hn q2)⟩
theorem frK_u {m1 : jm_Mem} {S S' : Nat → Prop} {k j : Nat} (h : frK m m1 S k) (h2 : frK m1 m' S' j) (hs : ∀ n, (n < m.1 ∨ 1000000 ≤ n) → S' n → S n) : frK m m' S (k + j) := by
  obtain ⟨a1, a2, a3, a4, a5⟩ := h
  obtain ⟨b1, b2, b3, b4, b5⟩ := h2
  exact ⟨by omega, by omega, by omega, by omega, fun n hn q => (b5 n (by omega) fun q2 => q (hs n hn q2)).trans (a5 n hn q)⟩
end LWA
