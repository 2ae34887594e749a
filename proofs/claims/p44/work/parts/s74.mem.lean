/-! Arrays: read, written, made, copied; objects made. -/
section ST
variable {p : Program} {l : Launch} {e : Env} {R : Room} {s : State} {m : MethodId} {args : Array Value} {below : List Frame} {meth : Method} {c : Code} {D : va_G} {tys : List (ClassId × FieldType)} {A : Nat → Prop} {S : jm_Sp} {c0 s0 : Nat} {ρ0 : Nat → Nat} {N0 : Nat} {M : jm_Meth} {Q : State → Prop} {pc : Nat} {lc : jm_Loc} {st : List Value} {m1 : jm_Mem}
theorem jm_ix_spec {i : Int32} {n k : Nat} (h : jm_ix i n = some k) : vp_in i n ∧ k = i.toNatClampNeg := by
  unfold jm_ix at h
  split at h
  · cases h
  · rename_i q
    cases h
    exact ⟨q, rfl⟩
theorem aI_spec {r : Nat} {i v : Int32} (h : jm_aI m1 r i = some v) : ∃ t n f, m1.2.1 r = .inl (t, n, .inl f) ∧ (t = 0 ∨ t = 8) ∧ vp_in i n ∧ v = f i.toNatClampNeg := by
  unfold jm_aI at h
  split at h
  · rename_i t n f he
    split at h
    · rename_i ht
      obtain ⟨k, hk, rfl⟩ := Option.map_eq_some_iff.mp h
      obtain ⟨h1, rfl⟩ := jm_ix_spec hk
      exact ⟨t, n, f, he, ht, h1, rfl⟩
    · cases h
  · cases h
theorem aZ_spec {r : Nat} {i v : Int32} (h : jm_aZ m1 r i = some v) : ∃ n f, m1.2.1 r = .inl (1, n, .inl f) ∧ vp_in i n ∧ v = f i.toNatClampNeg := by
  unfold jm_aZ at h
  split at h
  · rename_i t n f he
    split at h
    · rename_i ht
      obtain ⟨k, hk, rfl⟩ := Option.map_eq_some_iff.mp h
      obtain ⟨h1, rfl⟩ := jm_ix_spec hk
      subst ht
      exact ⟨n, f, he, h1, rfl⟩
    · cases h
  · cases h
theorem aL_spec {r : Nat} {i : Int32} {v : Int64} (h : jm_aL m1 r i = some v) : ∃ n f, m1.2.1 r = .inl (2, n, .inr (.inl f)) ∧ vp_in i n ∧ v = f i.toNatClampNeg := by
  unfold jm_aL at h
  split at h
  · rename_i t n f he
    split at h
    · rename_i ht
      obtain ⟨k, hk, rfl⟩ := Option.map_eq_some_iff.mp h
      obtain ⟨h1, rfl⟩ := jm_ix_spec hk
      subst ht
      exact ⟨n, f, he, h1, rfl⟩
    · cases h
  · cases h
theorem aD_spec {r : Nat} {i : Int32} {v : UInt64} (h : jm_aD m1 r i = some v) : ∃ n f, m1.2.1 r = .inl (3, n, .inr (.inr (.inr (.inl f)))) ∧ vp_in i n ∧ v = f i.toNatClampNeg := by
  unfold jm_aD at h
  split at h
  · rename_i t n f he
    split at h
    · rename_i ht
      obtain ⟨k, hk, rfl⟩ := Option.map_eq_some_iff.mp h
      obtain ⟨h1, rfl⟩ := jm_ix_spec hk
      subst ht
      exact ⟨n, f, he, h1, rfl⟩
    · cases h
  · cases h
theorem aR_spec {r : Nat} {i : Int32} {v : Nat} (h : jm_aR m1 r i = some v) : ∃ t n f, m1.2.1 r = .inl (t, n, .inr (.inr (.inr (.inr f)))) ∧ (t = 4 ∨ t = 5) ∧ vp_in i n ∧ f i.toNatClampNeg = some v := by
  unfold jm_aR at h
  split at h
  · rename_i t n f he
    split at h
    · rename_i ht
      obtain ⟨k, hk, hf⟩ := Option.bind_eq_some_iff.mp h
      obtain ⟨h1, rfl⟩ := jm_ix_spec hk
      exact ⟨t, n, f, he, ht, h1, hf⟩
    · cases h
  · cases h
theorem wI_spec {r : Nat} {i x : Int32} {m2 : jm_Mem} (h : jm_wI m1 r i x = some m2) : ∃ n f, m1.2.1 r = .inl (0, n, .inl f) ∧ vp_in i n ∧ m2 = jm_up m1 r (.inl (0, n, .inl (upd f i.toNatClampNeg x))) := by
  unfold jm_wI at h
  split at h
  · rename_i t n f he
    split at h
    · rename_i ht
      obtain ⟨k, hk, rfl⟩ := Option.map_eq_some_iff.mp h
      obtain ⟨h1, rfl⟩ := jm_ix_spec hk
      subst ht
      exact ⟨n, f, he, h1, rfl⟩
    · cases h
  · cases h
theorem wZ_spec {r : Nat} {i x : Int32} {m2 : jm_Mem} (h : jm_wZ m1 r i x = some m2) : ∃ n f, m1.2.1 r = .inl (1, n, .inl f) ∧ vp_in i n ∧ m2 = jm_up m1 r (.inl (1, n, .inl (upd f i.toNatClampNeg (x &&& 1)))) := by
  unfold jm_wZ at h
  split at h
  · rename_i t n f he
    split at h
    · rename_i ht
      obtain ⟨k, hk, rfl⟩ := Option.map_eq_some_iff.mp h
      obtain ⟨h1, rfl⟩ := jm_ix_spec hk
      subst ht
      exact ⟨n, f, he, h1, rfl⟩
    · cases h
  · cases h
theorem wL_spec {r : Nat} {i : Int32} {x : Int64} {m2 : jm_Mem} (h : jm_wL m1 r i x = some m2) : ∃ n f, m1.2.1 r = .inl (2, n, .inr (.inl f)) ∧ vp_in i n ∧ m2 = jm_up m1 r (.inl (2, n, .inr (.inl (vp_updL f i.toNatClampNeg x)))) := by
  unfold jm_wL at h
  split at h
  · rename_i t n f he
    split at h
    · rename_i ht
      obtain ⟨k, hk, rfl⟩ := Option.map_eq_some_iff.mp h
      obtain ⟨h1, rfl⟩ := jm_ix_spec hk
      subst ht
      exact ⟨n, f, he, h1, rfl⟩
    · cases h
  · cases h
theorem wD_spec {r : Nat} {i : Int32} {x : UInt64} {m2 : jm_Mem} (h : jm_wD m1 r i x = some m2) : ∃ n f, m1.2.1 r = .inl (3, n, .inr (.inr (.inr (.inl f)))) ∧ vp_in i n ∧ m2 = jm_up m1 r (.inl (3, n, .inr (.inr (.inr (.inl (vf_upd f i.toNatClampNeg x)))))) := by
  unfold jm_wD at h
  split at h
  · rename_i t n f he
    split at h
    · rename_i ht
      obtain ⟨k, hk, rfl⟩ := Option.map_eq_some_iff.mp h
      obtain ⟨h1, rfl⟩ := jm_ix_spec hk
      subst ht
      exact ⟨n, f, he, h1, rfl⟩
    · cases h
  · cases h
theorem wR_spec {r x : Nat} {i : Int32} {m2 : jm_Mem} (h : jm_wR m1 r i x = some m2) : ∃ t n f fs, m1.2.1 r = .inl (t, n, .inr (.inr (.inr (.inr f)))) ∧ (t = 4 ∨ t = 5) ∧ m1.2.1 x = .inr (jm_tc t, fs) ∧ vp_in i n ∧ m2 = jm_up m1 r (.inl (t, n, .inr (.inr (.inr (.inr (va_up f i.toNatClampNeg (some x))))))) := by
  unfold jm_wR at h
  split at h
  · rename_i t n f he
    split at h
    · rename_i ht
      split at h
      · rename_i c2 fs hx
        split at h
        · rename_i hc
          obtain ⟨k, hk, rfl⟩ := Option.map_eq_some_iff.mp h
          obtain ⟨h1, rfl⟩ := jm_ix_spec hk
          subst hc
          exact ⟨t, n, f, fs, he, ht, hx, h1, rfl⟩
        · cases h
      · cases h
    · cases h
  · cases h
theorem aB_spec {r : Nat} {i v : Int32} (h : jm_aB m1 r i = some v) : ∃ t n f, m1.2.1 r = .inl (t, n, .inl f) ∧ (t = 9 ∨ t = 10) ∧ vp_in i n ∧ v = f i.toNatClampNeg := by
  unfold jm_aB at h
  split at h
  · rename_i t n f he
    split at h
    · rename_i ht
      obtain ⟨k, hk, rfl⟩ := Option.map_eq_some_iff.mp h
      obtain ⟨h1, rfl⟩ := jm_ix_spec hk
      exact ⟨t, n, f, he, ht, h1, rfl⟩
    · cases h
  · cases h
theorem wB_spec {r : Nat} {i x : Int32} {m2 : jm_Mem} (h : jm_wB m1 r i x = some m2) : ∃ n f, m1.2.1 r = .inl (9, n, .inl f) ∧ jm_by x = true ∧ vp_in i n ∧ m2 = jm_up m1 r (.inl (9, n, .inl (upd f i.toNatClampNeg x))) := by
  unfold jm_wB at h
  split at h
  · rename_i t n f he
    split at h
    · rename_i ht
      obtain ⟨rfl, hb⟩ := ht
      obtain ⟨k, hk, rfl⟩ := Option.map_eq_some_iff.mp h
      obtain ⟨h1, rfl⟩ := jm_ix_spec hk
      exact ⟨n, f, he, hb, h1, rfl⟩
    · cases h
  · cases h
theorem aO_spec {r : Nat} {i : Int32} {v : Nat} (h : jm_aO m1 r i = some v) : ∃ n f, m1.2.1 r = .inl (6, n, .inr (.inr (.inr (.inr f)))) ∧ vp_in i n ∧ f i.toNatClampNeg = some v := by
  unfold jm_aO at h
  split at h
  · rename_i t n f he
    split at h
    · rename_i ht
      subst ht
      obtain ⟨k, hk, hf⟩ := Option.bind_eq_some_iff.mp h
      obtain ⟨h1, rfl⟩ := jm_ix_spec hk
      exact ⟨n, f, he, h1, hf⟩
    · cases h
  · cases h
theorem elt_spec {x ci : Nat} (h : jm_elt m1 x = some ci) : (ci = 16 ∧ jm_int ≤ x ∧ x < jm_int + 256) ∨ ((ci = 17 ∨ ci = 12) ∧ ∃ fs, m1.2.1 x = .inr (ci, fs)) := by
  unfold jm_elt at h
  split at h
  · rename_i q
    cases h
    exact Or.inl ⟨rfl, q⟩
  · split at h
    · rename_i fs he
      cases h
      exact Or.inr ⟨Or.inl rfl, fs, he⟩
    · rename_i fs he
      cases h
      exact Or.inr ⟨Or.inr rfl, fs, he⟩
    · cases h
theorem wO_spec {r x : Nat} {i : Int32} {m2 : jm_Mem} (h : jm_wO m1 r i x = some m2) : ∃ n f ci, m1.2.1 r = .inl (6, n, .inr (.inr (.inr (.inr f)))) ∧ jm_elt m1 x = some ci ∧ vp_in i n ∧ m2 = jm_up m1 r (.inl (6, n, .inr (.inr (.inr (.inr (va_up f i.toNatClampNeg (some x))))))) := by
  unfold jm_wO at h
  split at h
  · rename_i t n f he
    split at h
    · rename_i ht
      obtain ⟨rfl, hb⟩ := ht
      obtain ⟨ci, hci⟩ := Option.isSome_iff_exists.mp hb
      obtain ⟨k, hk, rfl⟩ := Option.map_eq_some_iff.mp h
      obtain ⟨h1, rfl⟩ := jm_ix_spec hk
      exact ⟨n, f, ci, he, hci, h1, rfl⟩
    · cases h
  · cases h
theorem jm_Fx.kl (X : jm_Fx p s m args meth c D tys A S M) : jm_Kl S A s s.heap := X.kn.2.2.2.2.2.2.2.2.2.2
theorem jm_Fx.nw (X : jm_Fx p s m args meth c D tys A S M) {w : Cond} (h : w ∈ jm_NW) : va_Nw w s := X.kn.2.2.2.2.2.2.2.1 w h
theorem jm_rep.sr {H0 H : Heap} {ρ : Nat → Nat} {locs : List Loc} {cells slots : Nat} (h : jm_rep D tys A S H0 c0 s0 ρ m1 H locs cells slots) : jm_spR S ρ := h.2.2.2.2.2.2.1
theorem jm_rep.scr {H0 H : Heap} {ρ : Nat → Nat} {locs : List Loc} {cells slots : Nat} (h : jm_rep D tys A S H0 c0 s0 ρ m1 H locs cells slots) {r : Nat} {a : vp_A} (he : m1.2.1 r = .inl (8, a)) : a = (S.2.1, .inl S.2.2.1) ∧ ρ r = S.1 := by
  rcases h.tag he with ⟨q, q2⟩ | ⟨q0, q, q2⟩ | ⟨k, -, -, q, -⟩ | ⟨-, q, -⟩ | ⟨-, q, -⟩ | ⟨-, q, -⟩
  · omega
  · exact ⟨q2, by rw [q0]; exact h.sr.1⟩
  all_goals omega
/-- the rows of digits -/
theorem jm_rep.dig {H0 H : Heap} {ρ : Nat → Nat} {locs : List Loc} {cells slots : Nat} (h : jm_rep D tys A S H0 c0 s0 ρ m1 H locs cells slots) {r n : Nat} {f : Nat → Int32} (he : m1.2.1 r = .inl (10, n, .inl f)) {U : State} (hl : jm_Kl S A U H0) : va_T .byte (ρ r) n (fun j => .int (f j)) A U H0 := by
  rcases h.tag he with ⟨q, q2⟩ | ⟨q0, q, q2⟩ | ⟨k, -, -, q, -⟩ | ⟨-, q, -⟩ | ⟨q0, -, q⟩ | ⟨q0, -, q⟩
  · omega
  · omega
  · omega
  · omega
  · have q := Prod.mk.inj q
    obtain ⟨rfl, q⟩ := q
    cases q
    rw [q0, h.sr.2.2.2.2.1]
    exact hl.2.2.2.1.2
  · have q := Prod.mk.inj q
    obtain ⟨rfl, q⟩ := q
    cases q
    rw [q0, h.sr.2.2.2.2.2]
    exact hl.2.2.2.2.1.2
/-- what may lie in a row of objects is an object -/
theorem jm_rep.elt {H : Heap} {ρ : Nat → Nat} {locs : List Loc} {cells slots : Nat} (X : jm_Fx p s m args meth c D tys A S M) (h : jm_rep D tys A S s.heap c0 s0 ρ m1 H locs cells slots) {x ci : Nat} (he : jm_elt m1 x = some ci) : (∃ cell : Cell, H[ρ x]? = some cell ∧ cell.vm.isStatics = false ∧ s.vm.findClass (jm_cn ci) = some cell.cls) ∧ (ci = 16 ∨ ci = 17 ∨ ci = 12) ∧ (x < m1.1 ∨ jm_sp x) := by
  rcases elt_spec he with ⟨rfl, q1, q2⟩ | ⟨hci, fs, hx⟩
  · have e : ρ x = S.2.2.2 (1000 + (x - jm_int)) := by
      have := h.sr.2.2.1 (x - jm_int) (by omega)
      rw [show jm_int + (x - jm_int) = x by omega] at this
      exact this
    obtain ⟨cell, h1, h2, h3, -⟩ := (X.kl.1.1 (x - jm_int) (by omega)).kept h.2.2.1.2.1
    exact ⟨⟨cell, by rw [e]; exact h1, h2, h3⟩, Or.inl rfl, Or.inr (Or.inr (Or.inr (Or.inl ⟨q1, q2⟩)))⟩
  · obtain ⟨o1, o2, o3⟩ := h.obj hx (by omega)
    obtain ⟨q, hq, -⟩ := h.1 x _ o2
    have hq : vwCl[ci]? = some q := hq
    obtain ⟨hn, -⟩ := jm_clOk hq
    refine ⟨?_, by omega, Or.inl o1⟩
    rw [hn]
    exact va_recv X.kn.1 h.1 hq o2
theorem jm_casO {ci : Nat} (h : ci = 16 ∨ ci = 17 ∨ ci = 12) : Cond.castable (jm_cn ci) "java/lang/Object" ∈ jm_NW := by
  rcases h with rfl | rfl | rfl
  · exact jc_IO
  · exact jc_AO
  · exact jc_SO
theorem st_iald {rr : Nat} {i v : Int32} (X : jm_Fx p s m args meth c D tys A S M) (h : jm_aI m1 rr i = some v) (hdg : decode (jm_mC M) pc = .ok (.iaload, 1)) (kk : jm_At p l e R s m args below meth c D tys A S c0 s0 ρ0 N0 M Q (pc + 1) lc (.int v :: st) m1) : jm_At p l e R s m args below meth c D tys A S c0 s0 ρ0 N0 M Q pc lc (.int i :: .ref rr :: st) m1 := by
  intro H locs cells slots ls ρ hr hL hw ha hN
  obtain ⟨t, n, f, he, ht, hin, rfl⟩ := aI_spec h
  have k2 := kk H locs cells slots ls ρ hr hL ((hw.tl.tl).cons trivial) ha hN
  rcases ht with rfl | rfl
  · obtain ⟨h1, h2, -⟩ := hr.arr he (by decide)
    exact va_iald X.1 X.2.1 X.kn.1 hr.1 rr 0 h2 (jm_tyAt X.ty rfl) hin hdg k2
  · obtain ⟨q2, q3⟩ := hr.scr he
    have q2 := Prod.mk.inj q2
    obtain ⟨rfl, q2⟩ := q2
    cases q2
    have k3 := va_sld (ls := ls) (rest := st.map (jm_cv ρ)) X.1 X.2.1 X.kn.2.1.1 X.kn.2.1.2.1 X.kn.2.1.2.2 hr.2.2.1 hin hdg k2
    rw [← q3] at k3
    exact k3
theorem st_bald {rr : Nat} {i v : Int32} (X : jm_Fx p s m args meth c D tys A S M) (h : jm_aY m1 rr i = some v) (hdg : decode (jm_mC M) pc = .ok (.baload, 1)) (kk : jm_At p l e R s m args below meth c D tys A S c0 s0 ρ0 N0 M Q (pc + 1) lc (.int v :: st) m1) : jm_At p l e R s m args below meth c D tys A S c0 s0 ρ0 N0 M Q pc lc (.int i :: .ref rr :: st) m1 := by
  intro H locs cells slots ls ρ hr hL hw ha hN
  have k2 := kk H locs cells slots ls ρ hr hL ((hw.tl.tl).cons trivial) ha hN
  rcases or_some h with h | h
  · obtain ⟨n, f, he, hin, rfl⟩ := aZ_spec h
    obtain ⟨h1, h2, -⟩ := hr.arr he (by decide)
    exact va_zald X.1 X.2.1 X.kn.1 hr.1 rr 1 h2 (jm_tyAt X.ty rfl) hin hdg k2
  · obtain ⟨t, n, f, he, ht, hin, rfl⟩ := aB_spec h
    rcases ht with rfl | rfl
    · obtain ⟨h1, h2, -⟩ := hr.arr he (by decide)
      exact va_bald X.1 X.2.1 X.kn.1 hr.1 rr 9 h2 (jm_tyAt X.ty rfl) hin hdg k2
    · exact va_tb X.1 X.2.1 (hr.dig he X.kl) hr.2.2.1 hin rfl hdg k2
theorem st_lald {rr : Nat} {i : Int32} {v : Int64} (X : jm_Fx p s m args meth c D tys A S M) (h : jm_aL m1 rr i = some v) (hdg : decode (jm_mC M) pc = .ok (.laload, 1)) (kk : jm_At p l e R s m args below meth c D tys A S c0 s0 ρ0 N0 M Q (pc + 1) lc (.long v :: st) m1) : jm_At p l e R s m args below meth c D tys A S c0 s0 ρ0 N0 M Q pc lc (.int i :: .ref rr :: st) m1 := by
  intro H locs cells slots ls ρ hr hL hw ha hN
  obtain ⟨n, f, he, hin, rfl⟩ := aL_spec h
  have k2 := kk H locs cells slots ls ρ hr hL ((hw.tl.tl).cons trivial) ha hN
  obtain ⟨h1, h2, -⟩ := hr.arr he (by decide)
  exact va_lald X.1 X.2.1 X.kn.1 hr.1 rr 2 h2 (jm_tyAt X.ty rfl) hin hdg k2
theorem st_aald {rr : Nat} {i : Int32} {v : Nat} (X : jm_Fx p s m args meth c D tys A S M) (h : jm_aQ m1 rr i = some v) (hdg : decode (jm_mC M) pc = .ok (.aaload, 1)) (kk : jm_At p l e R s m args below meth c D tys A S c0 s0 ρ0 N0 M Q (pc + 1) lc (.ref v :: st) m1) : jm_At p l e R s m args below meth c D tys A S c0 s0 ρ0 N0 M Q pc lc (.int i :: .ref rr :: st) m1 := by
  intro H locs cells slots ls ρ hr hL hw ha hN
  have key : ∃ t n f, m1.2.1 rr = .inl (t, n, .inr (.inr (.inr (.inr f)))) ∧ (t = 4 ∨ t = 5 ∨ t = 6) ∧ vp_in i n ∧ f i.toNatClampNeg = some v := by
    rcases or_some h with h | h
    · obtain ⟨t, n, f, he, ht, hin, hf⟩ := aR_spec h
      exact ⟨t, n, f, he, by omega, hin, hf⟩
    · obtain ⟨n, f, he, hin, hf⟩ := aO_spec h
      exact ⟨6, n, f, he, by omega, hin, hf⟩
  obtain ⟨t, n, f, he, ht, hin, hf⟩ := key
  obtain ⟨h1, h2, h3⟩ := hr.arr he (by omega)
  have k2 := kk H locs cells slots ls ρ hr hL ((hw.tl.tl).cons (h3.2 _ _ hf)) ha hN
  have e : va_rf ((fun k => (f k).map ρ) i.toNatClampNeg) = jm_cv ρ (.ref v) := by
    show va_rf ((f i.toNatClampNeg).map ρ) = _
    rw [hf]; rfl
  rcases ht with rfl | rfl | rfl
  · exact va_aldq X.1 X.2.1 X.kn.1 hr.1 rr 4 h2 (jm_tyAt X.ty rfl) hin hdg (by rw [e]; exact k2)
  · exact va_aldq X.1 X.2.1 X.kn.1 hr.1 rr 5 h2 (jm_tyAt X.ty rfl) hin hdg (by rw [e]; exact k2)
  · exact va_aldq X.1 X.2.1 X.kn.1 hr.1 rr 6 h2 (jm_tyAt X.ty rfl) hin hdg (by rw [e]; exact k2)
theorem st_iast {rr : Nat} {i x : Int32} {m2 : jm_Mem} (X : jm_Fx p s m args meth c D tys A S M) (h : jm_wI m1 rr i x = some m2) (hdg : decode (jm_mC M) pc = .ok (.iastore, 1)) (kk : jm_At p l e R s m args below meth c D tys A S c0 s0 ρ0 N0 M Q (pc + 1) lc st m2) : jm_At p l e R s m args below meth c D tys A S c0 s0 ρ0 N0 M Q pc lc (.int x :: .int i :: .ref rr :: st) m1 := by
  intro H locs cells slots ls ρ hr hL hw ha hN
  obtain ⟨n, f, he, hin, rfl⟩ := wI_spec h
  obtain ⟨h1, h2, h3⟩ := hr.arr he (by decide)
  exact va_iast X.1 X.2.1 X.kn.1 hr.1 hr.2.1 hr.2.2.1 rr 0 h2 (jm_tyAt X.ty rfl) hin hdg fun H1 l1 g1 g2 g3 => kk _ _ _ _ _ _ (hr.wr (e := .inl (0, n, .inl (upd f i.toNatClampNeg x))) h1 (by show (0 : Nat) < 6 ∨ (0 : Nat) = 9; decide) g1 g2 g3) hL hw.tl.tl.tl ha hN
theorem nar_bool (x : Int32) : vp_nar .boolean x = x &&& 1 := by first | rfl | simp [vp_nar, narrow]
theorem nar_byte {x : Int32} (h : jm_by x = true) : vp_nar .byte x = x := by rw [vp_nar_byte, by_n h]
theorem st_bast {rr : Nat} {i x : Int32} {m2 : jm_Mem} (X : jm_Fx p s m args meth c D tys A S M) (h : jm_wY m1 rr i x = some m2) (hdg : decode (jm_mC M) pc = .ok (.bastore, 1)) (kk : jm_At p l e R s m args below meth c D tys A S c0 s0 ρ0 N0 M Q (pc + 1) lc st m2) : jm_At p l e R s m args below meth c D tys A S c0 s0 ρ0 N0 M Q pc lc (.int x :: .int i :: .ref rr :: st) m1 := by
  intro H locs cells slots ls ρ hr hL hw ha hN
  rcases or_some h with h | h
  · obtain ⟨n, f, he, hin, rfl⟩ := wZ_spec h
    obtain ⟨h1, h2, h3⟩ := hr.arr he (by decide)
    refine va_zast X.1 X.2.1 X.kn.1 hr.1 hr.2.1 hr.2.2.1 rr 1 h2 (jm_tyAt X.ty rfl) hin hdg fun H1 l1 g1 g2 g3 => ?_
    rw [nar_bool] at g1 g2
    exact kk _ _ _ _ _ _ (hr.wr (e := .inl (1, n, .inl (upd f i.toNatClampNeg (x &&& 1)))) h1 (by show (1 : Nat) < 6 ∨ (1 : Nat) = 9; decide) g1 g2 g3) hL hw.tl.tl.tl ha hN
  · obtain ⟨n, f, he, hb, hin, rfl⟩ := wB_spec h
    obtain ⟨h1, h2, h3⟩ := hr.arr he (by decide)
    refine va_bast X.1 X.2.1 X.kn.1 hr.1 hr.2.1 hr.2.2.1 rr 9 h2 (jm_tyAt X.ty rfl) hin hdg fun H1 l1 g1 g2 g3 => ?_
    rw [nar_byte hb] at g1 g2
    exact kk _ _ _ _ _ _ (hr.wr (e := .inl (9, n, .inl (upd f i.toNatClampNeg x))) h1 (by show (9 : Nat) < 6 ∨ (9 : Nat) = 9; decide) g1 g2 g3) hL hw.tl.tl.tl ha hN
theorem st_last {rr : Nat} {i : Int32} {x : Int64} {m2 : jm_Mem} (X : jm_Fx p s m args meth c D tys A S M) (h : jm_wL m1 rr i x = some m2) (hdg : decode (jm_mC M) pc = .ok (.lastore, 1)) (kk : jm_At p l e R s m args below meth c D tys A S c0 s0 ρ0 N0 M Q (pc + 1) lc st m2) : jm_At p l e R s m args below meth c D tys A S c0 s0 ρ0 N0 M Q pc lc (.long x :: .int i :: .ref rr :: st) m1 := by
  intro H locs cells slots ls ρ hr hL hw ha hN
  obtain ⟨n, f, he, hin, rfl⟩ := wL_spec h
  obtain ⟨h1, h2, h3⟩ := hr.arr he (by decide)
  exact va_last X.1 X.2.1 X.kn.1 hr.1 hr.2.1 hr.2.2.1 rr 2 h2 (jm_tyAt X.ty rfl) hin hdg fun H1 l1 g1 g2 g3 => kk _ _ _ _ _ _ (hr.wr (e := .inl (2, n, .inr (.inl (vp_updL f i.toNatClampNeg x)))) h1 (by show (2 : Nat) < 6 ∨ (2 : Nat) = 9; decide) g1 g2 g3) hL hw.tl.tl.tl ha hN
theorem up_map {f : Nat → Option Nat} {ρ : Nat → Nat} {i x : Nat} : (fun k => (va_up f i (some x) k).map ρ) = va_up (fun k => (f k).map ρ) i (some (ρ x)) := by
  funext k
  unfold va_up
  by_cases h : k = i
  · rw [if_pos h, if_pos h]; rfl
  · rw [if_neg h, if_neg h]
theorem st_aast {rr : Nat} {i : Int32} {x : Nat} {m2 : jm_Mem} (X : jm_Fx p s m args meth c D tys A S M) (h : jm_wQ m1 rr i x = some m2) (hdg : decode (jm_mC M) pc = .ok (.aastore, 1)) (kk : jm_At p l e R s m args below meth c D tys A S c0 s0 ρ0 N0 M Q (pc + 1) lc st m2) : jm_At p l e R s m args below meth c D tys A S c0 s0 ρ0 N0 M Q pc lc (.ref x :: .int i :: .ref rr :: st) m1 := by
  intro H locs cells slots ls ρ hr hL hw ha hN
  have fin : ∀ (t n : Nat) (f : Nat → Option Nat) (H1 : Heap) (l1 : List Loc), m1.2.1 rr = .inl (t, n, .inr (.inr (.inr (.inr f)))) → (t < 7 ∨ t = 9) → (x < m1.1 ∨ jm_sp x) → m2 = jm_up m1 rr (.inl (t, n, .inr (.inr (.inr (.inr (va_up f i.toNatClampNeg (some x))))))) → va_P D vwCl ((jm_ws ρ tys m1).set rr (ρ rr, .inl (jm_ct tys t, n, .inr (.inr (.inr (.inr (va_up (fun k => (f k).map ρ) i.toNatClampNeg (some (ρ x))))))))) H1 → va_D A ((jm_ws ρ tys m1).set rr (ρ rr, .inl (jm_ct tys t, n, .inr (.inr (.inr (.inr (va_up (fun k => (f k).map ρ) i.toNatClampNeg (some (ρ x))))))))) → va_S A s.heap H1 l1 → W p l e R s m args below meth c H1 l1 cells slots Q (F0 m (pc + 1) ls (st.map (jm_cv ρ))) := by
    intro t n f H1 l1 he ht hx hm2 g1 g2 g3
    obtain ⟨h1, h2, h3⟩ := hr.arr he ht
    have hE : jm_wE m1.1 (.inl (t, n, .inr (.inr (.inr (.inr (va_up f i.toNatClampNeg (some x))))))) := by
      refine ⟨h3.1, fun k q hq => ?_⟩
      unfold va_up at hq
      split at hq
      · cases hq; exact hx
      · exact h3.2 k q hq
    rw [← up_map] at g1 g2
    subst hm2
    exact kk _ _ _ _ _ _ (hr.wr h1 hE g1 g2 g3) hL hw.tl.tl.tl ha hN
  rcases or_some h with h | h
  · obtain ⟨t, n, f, fs, he, ht, hx, hin, hm2⟩ := wR_spec h
    obtain ⟨h1, h2, h3⟩ := hr.arr he (by omega)
    obtain ⟨o1, o2, o3⟩ := hr.obj hx (by unfold jm_tc; split <;> omega)
    rcases ht with rfl | rfl
    · exact va_astq X.1 X.2.1 X.kn.1 hr.1 hr.2.1 hr.2.2.1 rr 4 x 9 h2 (r := (RX9, TX9, 5)) (jm_tyAt X.ty rfl) o2 rfl hin hdg fun H1 l1 => fin 4 n f H1 l1 he (by decide) (Or.inl o1) hm2
    · exact va_astq X.1 X.2.1 X.kn.1 hr.1 hr.2.1 hr.2.2.1 rr 5 x 4 h2 (r := (RX4, TX4, 6)) (jm_tyAt X.ty rfl) o2 rfl hin hdg fun H1 l1 => fin 5 n f H1 l1 he (by decide) (Or.inl o1) hm2
  · obtain ⟨n, f, ci, he, hx, hin, hm2⟩ := wO_spec h
    obtain ⟨h1, h2, h3⟩ := hr.arr he (by decide)
    obtain ⟨g0, hci, hxs⟩ := hr.elt X hx
    exact vb_astq X.1 X.2.1 X.kn.1 hr.1 hr.2.1 hr.2.2.1 rr 6 h2 (jm_tyAt X.ty rfl) g0 (vb_asgC (X.nw (jm_casO hci))) hin hdg fun H1 l1 => fin 6 n f H1 l1 he (by decide) hxs hm2
theorem len_spec {r n : Nat} (h : jm_len m1 r = some n) : ∃ t a, m1.2.1 r = .inl (t, a) ∧ t ≠ 7 ∧ t ≠ 10 ∧ n = a.1 := by
  unfold jm_len at h
  split at h
  · rename_i t a he
    split at h
    · cases h
    · rename_i ht
      cases h
      exact ⟨t, a, he, fun q => ht (Or.inl q), fun q => ht (Or.inr q), rfl⟩
  · cases h
theorem cE_len {ρ : Nat → Nat} {t : Nat} {a : vp_A} : ∃ x : vp_A, jm_cE ρ tys (.inl (t, a)) = .inl (jm_ct tys t, x) ∧ x.1 = a.1 := by
  obtain ⟨n, f | f | f | f | f⟩ := a <;> exact ⟨_, rfl, rfl⟩
theorem tyL_at {t : Nat} (h : t < 7 ∨ t = 9) : ∃ ty, jm_tyL[t]? = some ty := ⟨_, List.getElem?_eq_getElem (h := (by show t < 10; omega))⟩
theorem st_alen {rr n : Nat} (X : jm_Fx p s m args meth c D tys A S M) (h : jm_len m1 rr = some n) (hdg : decode (jm_mC M) pc = .ok (.arraylength, 1)) (kk : jm_At p l e R s m args below meth c D tys A S c0 s0 ρ0 N0 M Q (pc + 1) lc (.int (Int32.ofNat n) :: st) m1) : jm_At p l e R s m args below meth c D tys A S c0 s0 ρ0 N0 M Q pc lc (.ref rr :: st) m1 := by
  intro H locs cells slots ls ρ hr hL hw ha hN
  obtain ⟨t, a, he, ht, ht2, rfl⟩ := len_spec h
  have k2 := kk H locs cells slots ls ρ hr hL (hw.tl.cons trivial) ha hN
  rcases hr.tag he with ⟨-, q⟩ | ⟨q0, q, q2⟩ | ⟨k, -, -, q, -⟩ | ⟨q0, q, q2⟩ | ⟨-, q, -⟩ | ⟨-, q, -⟩
  · obtain ⟨h1, h2, -⟩ := hr.arr he q
    obtain ⟨x, e1, e2⟩ := cE_len (tys := tys) (ρ := ρ) (t := t) (a := a)
    rw [e1] at h2
    obtain ⟨ty, hty⟩ := tyL_at q
    exact va_alen X.1 X.2.1 X.kn.1 hr.1 rr t h2 (jm_tyAt X.ty hty) (by rw [e2]) hdg k2
  · subst q
    obtain ⟨q2, q3⟩ := hr.scr he
    subst q2
    have k3 := va_slen (ls := ls) (rest := st.map (jm_cv ρ)) X.1 X.2.1 X.kn.2.1.1 X.kn.2.1.2.1 X.kn.2.1.2.2 hr.2.2.1 hdg k2
    rw [← q3] at k3
    exact k3
  · exact absurd q ht
  · subst q2
    have e := hr.sr.2.2.2.1
    have k3 := va_tlen (ls := ls) (rest := st.map (jm_cv ρ)) X.1 X.2.1 X.kl.2.2.1.2 hr.2.2.1 rfl hdg k2
    rw [← e, ← q0] at k3
    exact k3
  · exact absurd q ht2
  · exact absurd q ht2
/-- making -/
theorem jm_Fx.all (X : jm_Fx p s m args meth c D tys A S M) : ∀ q, s.heap.size ≤ q → A q := X.kn.2.2.2.2.2.2.2.2.1
theorem st_new {x ci : Nat} {fs : List Value} (X : jm_Fx p s m args meth c D tys A S M) (hf : jm_nok (jm_mO M) (x, ci, fs)) (hn : m1.1 < 1000000) (hdg : decode (jm_mC M) pc = .ok (.new x, 3)) (hRc : m1.2.2.1 + 1 ≤ c0 + R.cells) (hRs : m1.2.2.2 + fs.length ≤ s0 + R.slots)
    (kk : jm_At p l e R s m args below meth c D tys A S c0 s0 ρ0 N0 M Q (pc + 3) lc (.ref m1.1 :: st) (jm_new m1 (.inr (ci, fs)) fs.length)) : jm_At p l e R s m args below meth c D tys A S c0 s0 ρ0 N0 M Q pc lc st m1 := by
  intro H locs cells slots ls ρ hr hL hw ha hN
  obtain ⟨C, T, N, ty, hcl, hty, hdf, hlen, hwt, hid, hci, hlink⟩ := hf
  obtain ⟨hcn2, hin, -, hnm, hinst, hini⟩ := jm_clOk hcl
  have hlen : fs.length = N := hlen
  have hcl : vwCl[ci]? = some (C, T, N) := hcl
  have e1 := hr.2.2.2.2.2.2.2.1
  have e2 := hr.2.2.2.2.2.2.2.2
  refine va_new (T := T) (N := N) X.1 X.2.1 X.ts hin ty hty X.own (X.ts _ hlink) (X.ts _ hinst) (X.ts _ hini) X.kn.1 hr.1 hr.2.1 hr.2.2.1 X.all hcl hdf (by omega) (by omega) hdg fun q H1 g1 g2 g3 => ?_
  have hE : jm_wE m1.1 (.inr (ci, fs)) := hwt.up (Nat.zero_le _)
  have e3 : jm_cE ρ tys (.inr (ci, fs)) = .inr (ci, fs) := by
    show Sum.inr (ci, fs.map (jm_cv ρ)) = _
    rw [hid ρ]
  obtain ⟨n1, n2⟩ := hr.nw (k := fs.length) (q := q) hn hE (by rw [e3]; exact g1) (by rw [e3]; exact g2) g3
  rw [← hlen]
  have hst : st.map (jm_cv (va_up ρ m1.1 q)) = st.map (jm_cv ρ) := jm_cv_ags n2 hw
  have hv : jm_cv (va_up ρ m1.1 q) (.ref m1.1) = .ref q := by
    show Value.ref (va_up ρ m1.1 q m1.1) = _
    rw [show va_up ρ m1.1 q m1.1 = q from if_pos rfl]
  have k2 := kk H1 locs (cells + 1) (slots + fs.length) ls _ n1 (hL.ag n2 (Nat.le_succ _)) ((hw.up (Nat.le_succ _)).cons (Or.inl (Nat.lt_succ_self _))) (ha.tr n2 hN) (Nat.le_succ_of_le hN)
  rw [List.map_cons, hst, hv] at k2
  exact k2
theorem jm_cA (X : jm_Fx p s m args meth c D tys A S M) {t : Nat} {ty : FieldType} (ht : jm_tyL[t]? = some ty) {cA : ClassId} (hK : va_K D vwCl (tys ++ [(cA, ty)]) s) : cA = jm_ct tys t := by
  have h1 := (X.kn.1.2 t _ (jm_tyAt X.ty ht)).2
  have h2 := (hK.2 tys.length (cA, ty) (by simp)).2
  unfold va_RA at h1 h2
  cases ty with
  | object C =>
    obtain ⟨kA, comp, a1, a2, a3, a4⟩ := h1
    obtain ⟨kB, comp2, b1, b2, b3, b4⟩ := h2
    exact Option.some.inj (b4.symm.trans a4)
  | _ => exact Option.some.inj (h2.symm.trans h1)
theorem st_newarr {t : Nat} {a : ArrayType} {k : Int32} {z : vp_A} (X : jm_Fx p s m args meth c D tys A S M) (hoi : jm_okI (.newarray a) = true) (hk : ¬ (k < 0 ∨ 10000000 < k.toNatClampNeg)) (ht : jm_at a = t) (hz : jm_zero t k.toNatClampNeg = some z) (hn : m1.1 < 1000000) (hdg : decode (jm_mC M) pc = .ok (.newarray a, 2)) (hRc : m1.2.2.1 + 1 ≤ c0 + R.cells) (hRs : m1.2.2.2 + k.toNatClampNeg ≤ s0 + R.slots)
    (kk : jm_At p l e R s m args below meth c D tys A S c0 s0 ρ0 N0 M Q (pc + 2) lc (.ref m1.1 :: st) (jm_new m1 (.inl (t, z)) k.toNatClampNeg)) : jm_At p l e R s m args below meth c D tys A S c0 s0 ρ0 N0 M Q pc lc (.int k :: st) m1 := by
  intro H locs cells slots ls ρ hr hL hw ha hN
  have e1 := hr.2.2.2.2.2.2.2.1
  have e2 := hr.2.2.2.2.2.2.2.2
  have main : ∀ (ty : FieldType), jm_tyL[t]? = some ty → newarray.typeOf a = ty → componentBytes ty ≤ 8 → jm_wE m1.1 (.inl (t, z)) → jm_cE ρ tys (.inl (t, z)) = .inl (jm_ct tys t, z) → (∀ cA : ClassId, vp_cell cA z = arrV cA k.toNatClampNeg (fun _ => defaultValue ty)) → Cond.arrayClass ty ∈ jm_WW → W p l e R s m args below meth c H locs cells slots Q (F0 m pc ls (.int k :: st.map (jm_cv ρ))) := by
    intro ty hty hat hcb hE hcE hcell hword
    have h8 : k.toNatClampNeg * componentBytes ty ≤ 10000000 * 8 := Nat.mul_le_mul (by omega) hcb
    refine va_newa (atype := a) X.1 X.2.1 (by rw [hat]; exact X.ts _ hword) hat X.kn.1 hr.1 hr.2.1 hr.2.2.1 X.all hcell (fun q => hk (Or.inl q)) rfl (by omega) (by omega) (by omega) hdg fun q cA H1 gK g1 g2 g3 => ?_
    rw [jm_cA X hty gK, ← hcE] at g1 g2
    obtain ⟨n1, n2⟩ := hr.nw (k := k.toNatClampNeg) (q := q) hn hE g1 g2 g3
    have hst : st.map (jm_cv (va_up ρ m1.1 q)) = st.map (jm_cv ρ) := jm_cv_ags n2 hw.tl
    have hv : jm_cv (va_up ρ m1.1 q) (.ref m1.1) = .ref q := by
      show Value.ref (va_up ρ m1.1 q m1.1) = _
      rw [show va_up ρ m1.1 q m1.1 = q from if_pos rfl]
    have k2 := kk H1 locs (cells + 1) (slots + k.toNatClampNeg) ls _ n1 (hL.ag n2 (Nat.le_succ _)) ((hw.tl.up (Nat.le_succ _)).cons (Or.inl (Nat.lt_succ_self _))) (ha.tr n2 hN) (Nat.le_succ_of_le hN)
    rw [List.map_cons, hst, hv] at k2
    exact k2
  subst ht
  cases a
  case int => cases hz; exact main .int rfl rfl (by decide) (by show (0 : Nat) < 6 ∨ (0 : Nat) = 9; decide) rfl (fun cA => rfl) ja_I
  case boolean => cases hz; exact main .boolean rfl rfl (by decide) (by show (1 : Nat) < 6 ∨ (1 : Nat) = 9; decide) rfl (fun cA => rfl) ja_Z
  case long => cases hz; exact main .long rfl rfl (by decide) (by show (2 : Nat) < 6 ∨ (2 : Nat) = 9; decide) rfl (fun cA => rfl) ja_J
  case byte => cases hz; exact main .byte rfl rfl (by decide) (by show (9 : Nat) < 6 ∨ (9 : Nat) = 9; decide) rfl (fun cA => rfl) ja_B
  all_goals exact absurd hoi (by decide)
theorem st_anew {x t : Nat} {k : Int32} (X : jm_Fx p s m args meth c D tys A S M) (hk : ¬ (k < 0 ∨ 10000000 < k.toNatClampNeg)) (hf : jm_aok (jm_mO M) (x, t)) (hn : m1.1 < 1000000) (hdg : decode (jm_mC M) pc = .ok (.anewarray x, 3)) (hRc : m1.2.2.1 + 1 ≤ c0 + R.cells) (hRs : m1.2.2.2 + k.toNatClampNeg ≤ s0 + R.slots)
    (kk : jm_At p l e R s m args below meth c D tys A S c0 s0 ρ0 N0 M Q (pc + 3) lc (.ref m1.1 :: st) (jm_new m1 (.inl (t, k.toNatClampNeg, .inr (.inr (.inr (.inr (fun _ => none)))))) k.toNatClampNeg)) : jm_At p l e R s m args below meth c D tys A S c0 s0 ρ0 N0 M Q pc lc (.int k :: st) m1 := by
  intro H locs cells slots ls ρ hr hL hw ha hN
  have e1 := hr.2.2.2.2.2.2.2.1
  have e2 := hr.2.2.2.2.2.2.2.2
  have main : ∀ (C : String), jm_tyL[t]? = some (.object C) → t < 7 → va_AO C s → Cond.classLink (jm_cn (jm_mO M)) x C ∈ jm_WW → W p l e R s m args below meth c H locs cells slots Q (F0 m pc ls (.int k :: st.map (jm_cv ρ))) := by
    intro C hty h6 hao hlink
    have hE : jm_wE m1.1 (.inl (t, k.toNatClampNeg, .inr (.inr (.inr (.inr (fun _ => none)))))) := ⟨h6, fun _ _ h => by cases h⟩
    refine va_newq X.1 X.2.1 X.own (X.ts _ hlink) hao X.kn.1 hr.1 hr.2.1 hr.2.2.1 X.all (fun q => hk (Or.inl q)) rfl (by omega) (by omega) (by omega) hdg fun q cA H1 gK g1 g2 g3 => ?_
    rw [jm_cA X hty gK] at g1 g2
    obtain ⟨n1, n2⟩ := hr.nw (k := k.toNatClampNeg) (q := q) hn hE g1 g2 g3
    have hst : st.map (jm_cv (va_up ρ m1.1 q)) = st.map (jm_cv ρ) := jm_cv_ags n2 hw.tl
    have hv : jm_cv (va_up ρ m1.1 q) (.ref m1.1) = .ref q := by
      show Value.ref (va_up ρ m1.1 q m1.1) = _
      rw [show va_up ρ m1.1 q m1.1 = q from if_pos rfl]
    have k2 := kk H1 locs (cells + 1) (slots + k.toNatClampNeg) ls _ n1 (hL.ag n2 (Nat.le_succ _)) ((hw.tl.up (Nat.le_succ _)).cons (Or.inl (Nat.lt_succ_self _))) (ha.tr n2 hN) (Nat.le_succ_of_le hN)
    rw [List.map_cons, hst, hv] at k2
    exact k2
  rcases hf with ⟨h1, h2⟩ | ⟨h1, h2⟩ | ⟨h1, h2⟩
  · have h1 : t = 4 := h1
    subst h1
    exact main _ rfl (by decide) (X.nw jo_S) h2
  · have h1 : t = 5 := h1
    subst h1
    exact main _ rfl (by decide) (X.nw jo_L) h2
  · have h1 : t = 6 := h1
    subst h1
    exact main _ rfl (by decide) (X.nw jo_O) h2
/-- casts -/
theorem st_cast {x k rr : Nat} (X : jm_Fx p s m args meth c D tys A S M) (hf : jm_qok (jm_mO M) (x, k)) (h : jm_caO m1 rr k = true) (hdg : decode (jm_mC M) pc = .ok (.checkcast x, 3)) (kk : jm_At p l e R s m args below meth c D tys A S c0 s0 ρ0 N0 M Q (pc + 3) lc (.ref rr :: st) m1) : jm_At p l e R s m args below meth c D tys A S c0 s0 ρ0 N0 M Q pc lc (.ref rr :: st) m1 := by
  intro H locs cells slots ls ρ hr hL hw ha hN
  have k2 := kk H locs cells slots ls ρ hr hL hw ha hN
  rcases hf with ⟨h1, h2⟩ | ⟨h1, h2⟩ | ⟨h1, h2⟩ | ⟨h1, h2⟩
  · have h1 : k = 12 := h1
    subst h1
    have he : ∃ fs, m1.2.1 rr = .inr (12, fs) := by
      simp only [jm_caO] at h
      split at h
      · rename_i c2 fs he
        simp only [Bool.and_eq_true, beq_iff_eq] at h
        exact ⟨fs, by rw [he, h.1]⟩
      · cases h
    obtain ⟨fs, he⟩ := he
    obtain ⟨o1, o2, o3⟩ := hr.obj he (by decide)
    exact va_castE X.1 X.2.1 X.own (X.ts _ h2) (va_recv X.kn.1 hr.1 (q := (RX12, TX12, 3)) rfl o2) hdg k2
  · have h1 : k = 17 := h1
    subst h1
    have he : ∃ fs, m1.2.1 rr = .inr (17, fs) := by
      simp only [jm_caO] at h
      split at h
      · rename_i c2 fs he
        simp only [Bool.and_eq_true, beq_iff_eq] at h
        exact ⟨fs, by rw [he, h.1]⟩
      · cases h
    obtain ⟨fs, he⟩ := he
    obtain ⟨o1, o2, o3⟩ := hr.obj he (by decide)
    exact va_castY X.1 X.2.1 X.own (X.ts _ h2) (X.nw jc_AL) (va_recv X.kn.1 hr.1 (q := (RJx4a65c, TJx4a65c, 3)) rfl o2) hdg k2
  · have h1 : k = 16 := h1
    subst h1
    have he : jm_int ≤ rr ∧ rr < jm_int + 256 := by
      simp only [jm_caO, Bool.and_eq_true, decide_eq_true_eq] at h
      exact h
    obtain ⟨g0, -, -⟩ := hr.elt X (x := rr) (ci := 16) (if_pos he)
    exact va_castE X.1 X.2.1 X.own (X.ts _ h2) g0 hdg k2
  · have h1 : k = 9 := h1
    subst h1
    have he : ∃ n f, m1.2.1 rr = .inl (9, n, .inl f) := by
      simp only [jm_caO] at h
      split at h
      · rename_i n f he
        exact ⟨n, f, he⟩
      · cases h
    obtain ⟨n, f, he⟩ := he
    obtain ⟨o1, o2, -⟩ := hr.arr he (by decide)
    exact va_castA X.1 X.2.1 X.own (X.ts _ h2) hr.1 rr o2 (va_nm_byte (X.kn.1.2 9 _ (jm_tyAt X.ty rfl)).2) hdg k2
/-- statics -/
theorem st_gets {x : Nat} {v : Value} (X : jm_Fx p s m args meth c D tys A S M) (hf : jm_gok (jm_mO M) (x, v)) (hdg : decode (jm_mC M) pc = .ok (.getstatic x, 3)) (kk : jm_At p l e R s m args below meth c D tys A S c0 s0 ρ0 N0 M Q (pc + 3) lc (v :: st) m1) : jm_At p l e R s m args below meth c D tys A S c0 s0 ρ0 N0 M Q pc lc st m1 := by
  intro H locs cells slots ls ρ hr hL hw ha hN
  obtain ⟨-, -, -, hs1, hs2, hs3⟩ := hr.sr
  rcases hf with ⟨h1, h2⟩ | ⟨h1, h2⟩ | ⟨h1, h2⟩ | ⟨h1, h2⟩
  · have h1 : v = .int 1 := h1
    subst h1
    exact va_gets X.1 X.2.1 X.kn.2.2.2.2.2.2.1 hr.2.2.1 X.own (X.ts _ h2) (fun x h => h) hdg (kk H locs cells slots ls ρ hr hL (hw.cons trivial) ha hN)
  · have h1 : v = .ref jm_dcp := h1
    subst h1
    have k2 := kk H locs cells slots ls ρ hr hL (hw.cons (Or.inr (Or.inr (Or.inr (Or.inr (Or.inl rfl)))))) ha hN
    refine va_gets X.1 X.2.1 X.kl.2.2.1.1 hr.2.2.1 X.own (X.ts _ h2) (fun x h => h) hdg ?_
    rw [← hs1]
    exact k2
  · have h1 : v = .ref jm_dgt := h1
    subst h1
    have k2 := kk H locs cells slots ls ρ hr hL (hw.cons (Or.inr (Or.inr (Or.inr (Or.inr (Or.inr (Or.inl rfl))))))) ha hN
    refine va_gets X.1 X.2.1 X.kl.2.2.2.1.1 hr.2.2.1 X.own (X.ts _ h2) (fun x h => h) hdg ?_
    rw [← hs2]
    exact k2
  · have h1 : v = .ref jm_dgo := h1
    subst h1
    have k2 := kk H locs cells slots ls ρ hr hL (hw.cons (Or.inr (Or.inr (Or.inr (Or.inr (Or.inr (Or.inr rfl))))))) ha hN
    refine va_gets X.1 X.2.1 X.kl.2.2.2.2.1.1 hr.2.2.1 X.own (X.ts _ h2) (fun x h => h) hdg ?_
    rw [← hs3]
    exact k2
end ST
