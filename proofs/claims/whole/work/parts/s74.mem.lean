/-! Arrays: read, written, made, copied; objects made. -/
section ST
variable {p : Program} {l : Launch} {e : Env} {R : Room} {s : State} {m : MethodId} {args : Array Value} {below : List Frame} {meth : Method} {c : Code} {D : va_G} {tys : List (ClassId × FieldType)} {A : Nat → Prop} {S : jm_Sp} {c0 s0 : Nat} {ρ0 : Nat → Nat} {N0 : Nat} {M : jm_Meth} {Q : State → Prop} {pc : Nat} {lc : jm_Loc} {st : List Value} {m1 : jm_Mem}
theorem jm_ix_spec {i : Int32} {n k : Nat} (h : jm_ix i n = some k) : vp_in i n ∧ k = i.toNatClampNeg := by
  unfold jm_ix at h
  split at h
  · cases h
  · rename_i q
    cases h
    exact ⟨q, rfl⟩
theorem aI_spec {r : Nat} {i v : Int32} (h : jm_aI m1 r i = some v) : ∃ t n f, m1.2.1 r = .inl (t, n, .inl f) ∧ (t = 0 ∨ t = 8) ∧ vp_in i n ∧ v = f i.toNatClampNeg := by
  unfold jm_aI at h
  split at h
  · rename_i t n f he
    split at h
    · rename_i ht
      obtain ⟨k, hk, rfl⟩ := Option.map_eq_some_iff.mp h
      obtain ⟨h1, rfl⟩ := jm_ix_spec hk
      exact ⟨t, n, f, he, ht, h1, rfl⟩
    · cases h
  · cases h
theorem aZ_spec {r : Nat} {i v : Int32} (h : jm_aZ m1 r i = some v) : ∃ n f, m1.2.1 r = .inl (1, n, .inl f) ∧ vp_in i n ∧ v = f i.toNatClampNeg := by
  unfold jm_aZ at h
  split at h
  · rename_i t n f he
    split at h
    · rename_i ht
      obtain ⟨k, hk, rfl⟩ := Option.map_eq_some_iff.mp h
      obtain ⟨h1, rfl⟩ := jm_ix_spec hk
      subst ht
      exact ⟨n, f, he, h1, rfl⟩
    · cases h
  · cases h
theorem aL_spec {r : Nat} {i : Int32} {v : Int64} (h : jm_aL m1 r i = some v) : ∃ n f, m1.2.1 r = .inl (2, n, .inr (.inl f)) ∧ vp_in i n ∧ v = f i.toNatClampNeg := by
  unfold jm_aL at h
  split at h
  · rename_i t n f he
    split at h
    · rename_i ht
      obtain ⟨k, hk, rfl⟩ := Option.map_eq_some_iff.mp h
      obtain ⟨h1, rfl⟩ := jm_ix_spec hk
      subst ht
      exact ⟨n, f, he, h1, rfl⟩
    · cases h
  · cases h
theorem aD_spec {r : Nat} {i : Int32} {v : UInt64} (h : jm_aD m1 r i = some v) : ∃ n f, m1.2.1 r = .inl (3, n, .inr (.inr (.inr (.inl f)))) ∧ vp_in i n ∧ v = f i.toNatClampNeg := by
  unfold jm_aD at h
  split at h
  · rename_i t n f he
    split at h
    · rename_i ht
      obtain ⟨k, hk, rfl⟩ := Option.map_eq_some_iff.mp h
      obtain ⟨h1, rfl⟩ := jm_ix_spec hk
      subst ht
      exact ⟨n, f, he, h1, rfl⟩
    · cases h
  · cases h
theorem aR_spec {r : Nat} {i : Int32} {v : Nat} (h : jm_aR m1 r i = some v) : ∃ t n f, m1.2.1 r = .inl (t, n, .inr (.inr (.inr (.inr f)))) ∧ (t = 4 ∨ t = 5) ∧ vp_in i n ∧ f i.toNatClampNeg = some v := by
  unfold jm_aR at h
  split at h
  · rename_i t n f he
    split at h
    · rename_i ht
      obtain ⟨k, hk, hf⟩ := Option.bind_eq_some_iff.mp h
      obtain ⟨h1, rfl⟩ := jm_ix_spec hk
      exact ⟨t, n, f, he, ht, h1, hf⟩
    · cases h
  · cases h
theorem wI_spec {r : Nat} {i x : Int32} {m2 : jm_Mem} (h : jm_wI m1 r i x = some m2) : ∃ n f, m1.2.1 r = .inl (0, n, .inl f) ∧ vp_in i n ∧ m2 = jm_up m1 r (.inl (0, n, .inl (upd f i.toNatClampNeg x))) := by
  unfold jm_wI at h
  split at h
  · rename_i t n f he
    split at h
    · rename_i ht
      obtain ⟨k, hk, rfl⟩ := Option.map_eq_some_iff.mp h
      obtain ⟨h1, rfl⟩ := jm_ix_spec hk
      subst ht
      exact ⟨n, f, he, h1, rfl⟩
    · cases h
  · cases h
theorem wZ_spec {r : Nat} {i x : Int32} {m2 : jm_Mem} (h : jm_wZ m1 r i x = some m2) : ∃ n f, m1.2.1 r = .inl (1, n, .inl f) ∧ vp_in i n ∧ m2 = jm_up m1 r (.inl (1, n, .inl (upd f i.toNatClampNeg (x &&& 1)))) := by
  unfold jm_wZ at h
  split at h
  · rename_i t n f he
    split at h
    · rename_i ht
      obtain ⟨k, hk, rfl⟩ := Option.map_eq_some_iff.mp h
      obtain ⟨h1, rfl⟩ := jm_ix_spec hk
      subst ht
      exact ⟨n, f, he, h1, rfl⟩
    · cases h
  · cases h
theorem wL_spec {r : Nat} {i : Int32} {x : Int64} {m2 : jm_Mem} (h : jm_wL m1 r i x = some m2) : ∃ n f, m1.2.1 r = .inl (2, n, .inr (.inl f)) ∧ vp_in i n ∧ m2 = jm_up m1 r (.inl (2, n, .inr (.inl (vp_updL f i.toNatClampNeg x)))) := by
  unfold jm_wL at h
  split at h
  · rename_i t n f he
    split at h
    · rename_i ht
      obtain ⟨k, hk, rfl⟩ := Option.map_eq_some_iff.mp h
      obtain ⟨h1, rfl⟩ := jm_ix_spec hk
      subst ht
      exact ⟨n, f, he, h1, rfl⟩
    · cases h
  · cases h
theorem wD_spec {r : Nat} {i : Int32} {x : UInt64} {m2 : jm_Mem} (h : jm_wD m1 r i x = some m2) : ∃ n f, m1.2.1 r = .inl (3, n, .inr (.inr (.inr (.inl f)))) ∧ vp_in i n ∧ m2 = jm_up m1 r (.inl (3, n, .inr (.inr (.inr (.inl (vf_upd f i.toNatClampNeg x)))))) := by
  unfold jm_wD at h
  split at h
  · rename_i t n f he
    split at h
    · rename_i ht
      obtain ⟨k, hk, rfl⟩ := Option.map_eq_some_iff.mp h
      obtain ⟨h1, rfl⟩ := jm_ix_spec hk
      subst ht
      exact ⟨n, f, he, h1, rfl⟩
    · cases h
  · cases h
theorem wR_spec {r x : Nat} {i : Int32} {m2 : jm_Mem} (h : jm_wR m1 r i x = some m2) : ∃ t n f fs, m1.2.1 r = .inl (t, n, .inr (.inr (.inr (.inr f)))) ∧ (t = 4 ∨ t = 5) ∧ m1.2.1 x = .inr (jm_tc t, fs) ∧ vp_in i n ∧ m2 = jm_up m1 r (.inl (t, n, .inr (.inr (.inr (.inr (va_up f i.toNatClampNeg (some x))))))) := by
  unfold jm_wR at h
  split at h
  · rename_i t n f he
    split at h
    · rename_i ht
      split at h
      · rename_i c2 fs hx
        split at h
        · rename_i hc
          obtain ⟨k, hk, rfl⟩ := Option.map_eq_some_iff.mp h
          obtain ⟨h1, rfl⟩ := jm_ix_spec hk
          subst hc
          exact ⟨t, n, f, fs, he, ht, hx, h1, rfl⟩
        · cases h
      · cases h
    · cases h
  · cases h
theorem jm_rep.scr {H0 H : Heap} {ρ : Nat → Nat} {locs : List Loc} {cells slots : Nat} (h : jm_rep D tys A S H0 c0 s0 ρ m1 H locs cells slots) {r : Nat} {a : vp_A} (he : m1.2.1 r = .inl (8, a)) : r = jm_scr ∧ a = (S.2.1, .inl S.2.2.1) ∧ ρ r = S.1 := by
  obtain ⟨-, -, -, hw, hb, -, hsp, -⟩ := h
  by_cases hr : r < m1.1
  · have := hw r hr
    rw [he] at this
    obtain ⟨n, f | f | f | f | f⟩ := a
    · exact absurd (show (8 : Nat) < 6 from this) (by decide)
    · exact absurd (show (8 : Nat) < 6 from this) (by decide)
    · exact absurd (show (8 : Nat) < 6 from this) (by decide)
    · exact absurd (show (8 : Nat) < 6 from this) (by decide)
    · exact absurd (show (8 : Nat) < 6 from this.1) (by decide)
  · rcases hb r (Nat.not_lt.mp hr) with q | ⟨q1, q2⟩ | ⟨k, -, -, q⟩
    · rw [he] at q; cases q
    · rw [he] at q2
      have e := congrArg Prod.snd (Sum.inl.inj q2)
      exact ⟨q1, e, by rw [q1]; exact hsp.1⟩
    · rw [he] at q
      have e : 8 = 7 := congrArg Prod.fst (Sum.inl.inj q)
      cases e
theorem st_iald {rr : Nat} {i v : Int32} (X : jm_Fx p s m args meth c D tys A S M) (h : jm_aI m1 rr i = some v) (hdg : decode (jm_mC M) pc = .ok (.iaload, 1)) (kk : jm_At p l e R s m args below meth c D tys A S c0 s0 ρ0 N0 M Q (pc + 1) lc (.int v :: st) m1) : jm_At p l e R s m args below meth c D tys A S c0 s0 ρ0 N0 M Q pc lc (.int i :: .ref rr :: st) m1 := by
  intro H locs cells slots ls ρ hr hL hw ha hN
  obtain ⟨t, n, f, he, ht, hin, rfl⟩ := aI_spec h
  have k2 := kk H locs cells slots ls ρ hr hL ((hw.tl.tl).cons trivial) ha hN
  rcases ht with rfl | rfl
  · obtain ⟨h1, h2, -⟩ := hr.arr he (by decide)
    exact va_iald X.1 X.2.1 X.kn.1 hr.1 rr 0 h2 (jm_tyAt X.ty rfl) hin hdg k2
  · obtain ⟨q1, q2, q3⟩ := hr.scr he
    have q2 := Prod.mk.inj q2
    obtain ⟨rfl, q2⟩ := q2
    cases q2
    have k3 := va_sld (ls := ls) (rest := st.map (jm_cv ρ)) X.1 X.2.1 X.kn.2.1.1 X.kn.2.1.2.1 X.kn.2.1.2.2 hr.2.2.1 hin hdg k2
    rw [← q3] at k3
    exact k3
theorem st_bald {rr : Nat} {i v : Int32} (X : jm_Fx p s m args meth c D tys A S M) (h : jm_aZ m1 rr i = some v) (hdg : decode (jm_mC M) pc = .ok (.baload, 1)) (kk : jm_At p l e R s m args below meth c D tys A S c0 s0 ρ0 N0 M Q (pc + 1) lc (.int v :: st) m1) : jm_At p l e R s m args below meth c D tys A S c0 s0 ρ0 N0 M Q pc lc (.int i :: .ref rr :: st) m1 := by
  intro H locs cells slots ls ρ hr hL hw ha hN
  obtain ⟨n, f, he, hin, rfl⟩ := aZ_spec h
  have k2 := kk H locs cells slots ls ρ hr hL ((hw.tl.tl).cons trivial) ha hN
  obtain ⟨h1, h2, -⟩ := hr.arr he (by decide)
  exact va_zald X.1 X.2.1 X.kn.1 hr.1 rr 1 h2 (jm_tyAt X.ty rfl) hin hdg k2
theorem st_lald {rr : Nat} {i : Int32} {v : Int64} (X : jm_Fx p s m args meth c D tys A S M) (h : jm_aL m1 rr i = some v) (hdg : decode (jm_mC M) pc = .ok (.laload, 1)) (kk : jm_At p l e R s m args below meth c D tys A S c0 s0 ρ0 N0 M Q (pc + 1) lc (.long v :: st) m1) : jm_At p l e R s m args below meth c D tys A S c0 s0 ρ0 N0 M Q pc lc (.int i :: .ref rr :: st) m1 := by
  intro H locs cells slots ls ρ hr hL hw ha hN
  obtain ⟨n, f, he, hin, rfl⟩ := aL_spec h
  have k2 := kk H locs cells slots ls ρ hr hL ((hw.tl.tl).cons trivial) ha hN
  obtain ⟨h1, h2, -⟩ := hr.arr he (by decide)
  exact va_lald X.1 X.2.1 X.kn.1 hr.1 rr 2 h2 (jm_tyAt X.ty rfl) hin hdg k2
theorem st_dald {rr : Nat} {i : Int32} {v : UInt64} (X : jm_Fx p s m args meth c D tys A S M) (h : jm_aD m1 rr i = some v) (hdg : decode (jm_mC M) pc = .ok (.daload, 1)) (kk : jm_At p l e R s m args below meth c D tys A S c0 s0 ρ0 N0 M Q (pc + 1) lc (.double v :: st) m1) : jm_At p l e R s m args below meth c D tys A S c0 s0 ρ0 N0 M Q pc lc (.int i :: .ref rr :: st) m1 := by
  intro H locs cells slots ls ρ hr hL hw ha hN
  obtain ⟨n, f, he, hin, rfl⟩ := aD_spec h
  have k2 := kk H locs cells slots ls ρ hr hL ((hw.tl.tl).cons trivial) ha hN
  obtain ⟨h1, h2, -⟩ := hr.arr he (by decide)
  exact va_dald X.1 X.2.1 X.kn.1 hr.1 rr 3 h2 (jm_tyAt X.ty rfl) hin hdg k2
theorem st_aald {rr : Nat} {i : Int32} {v : Nat} (X : jm_Fx p s m args meth c D tys A S M) (h : jm_aR m1 rr i = some v) (hdg : decode (jm_mC M) pc = .ok (.aaload, 1)) (kk : jm_At p l e R s m args below meth c D tys A S c0 s0 ρ0 N0 M Q (pc + 1) lc (.ref v :: st) m1) : jm_At p l e R s m args below meth c D tys A S c0 s0 ρ0 N0 M Q pc lc (.int i :: .ref rr :: st) m1 := by
  intro H locs cells slots ls ρ hr hL hw ha hN
  obtain ⟨t, n, f, he, ht, hin, hf⟩ := aR_spec h
  obtain ⟨h1, h2, h3⟩ := hr.arr he (by omega)
  have k2 := kk H locs cells slots ls ρ hr hL ((hw.tl.tl).cons (Or.inl (h3.2 _ _ hf))) ha hN
  have e : va_rf ((fun k => (f k).map ρ) i.toNatClampNeg) = jm_cv ρ (.ref v) := by
    show va_rf ((f i.toNatClampNeg).map ρ) = _
    rw [hf]; rfl
  rcases ht with rfl | rfl
  · exact va_aldq X.1 X.2.1 X.kn.1 hr.1 rr 4 h2 (jm_tyAt X.ty rfl) hin hdg (by rw [e]; exact k2)
  · exact va_aldq X.1 X.2.1 X.kn.1 hr.1 rr 5 h2 (jm_tyAt X.ty rfl) hin hdg (by rw [e]; exact k2)
theorem st_iast {rr : Nat} {i x : Int32} {m2 : jm_Mem} (X : jm_Fx p s m args meth c D tys A S M) (h : jm_wI m1 rr i x = some m2) (hdg : decode (jm_mC M) pc = .ok (.iastore, 1)) (kk : jm_At p l e R s m args below meth c D tys A S c0 s0 ρ0 N0 M Q (pc + 1) lc st m2) : jm_At p l e R s m args below meth c D tys A S c0 s0 ρ0 N0 M Q pc lc (.int x :: .int i :: .ref rr :: st) m1 := by
  intro H locs cells slots ls ρ hr hL hw ha hN
  obtain ⟨n, f, he, hin, rfl⟩ := wI_spec h
  obtain ⟨h1, h2, h3⟩ := hr.arr he (by decide)
  exact va_iast X.1 X.2.1 X.kn.1 hr.1 hr.2.1 hr.2.2.1 rr 0 h2 (jm_tyAt X.ty rfl) hin hdg fun H1 l1 g1 g2 g3 => kk _ _ _ _ _ _ (hr.wr (e := .inl (0, n, .inl (upd f i.toNatClampNeg x))) h1 (by show (0 : Nat) < 6; decide) g1 g2 g3) hL hw.tl.tl.tl ha hN
theorem nar_bool (x : Int32) : vp_nar .boolean x = x &&& 1 := by first | rfl | simp [vp_nar, narrow]
theorem st_bast {rr : Nat} {i x : Int32} {m2 : jm_Mem} (X : jm_Fx p s m args meth c D tys A S M) (h : jm_wZ m1 rr i x = some m2) (hdg : decode (jm_mC M) pc = .ok (.bastore, 1)) (kk : jm_At p l e R s m args below meth c D tys A S c0 s0 ρ0 N0 M Q (pc + 1) lc st m2) : jm_At p l e R s m args below meth c D tys A S c0 s0 ρ0 N0 M Q pc lc (.int x :: .int i :: .ref rr :: st) m1 := by
  intro H locs cells slots ls ρ hr hL hw ha hN
  obtain ⟨n, f, he, hin, rfl⟩ := wZ_spec h
  obtain ⟨h1, h2, h3⟩ := hr.arr he (by decide)
  refine va_zast X.1 X.2.1 X.kn.1 hr.1 hr.2.1 hr.2.2.1 rr 1 h2 (jm_tyAt X.ty rfl) hin hdg fun H1 l1 g1 g2 g3 => ?_
  rw [nar_bool] at g1 g2
  exact kk _ _ _ _ _ _ (hr.wr (e := .inl (1, n, .inl (upd f i.toNatClampNeg (x &&& 1)))) h1 (by show (1 : Nat) < 6; decide) g1 g2 g3) hL hw.tl.tl.tl ha hN
theorem st_last {rr : Nat} {i : Int32} {x : Int64} {m2 : jm_Mem} (X : jm_Fx p s m args meth c D tys A S M) (h : jm_wL m1 rr i x = some m2) (hdg : decode (jm_mC M) pc = .ok (.lastore, 1)) (kk : jm_At p l e R s m args below meth c D tys A S c0 s0 ρ0 N0 M Q (pc + 1) lc st m2) : jm_At p l e R s m args below meth c D tys A S c0 s0 ρ0 N0 M Q pc lc (.long x :: .int i :: .ref rr :: st) m1 := by
  intro H locs cells slots ls ρ hr hL hw ha hN
  obtain ⟨n, f, he, hin, rfl⟩ := wL_spec h
  obtain ⟨h1, h2, h3⟩ := hr.arr he (by decide)
  exact va_last X.1 X.2.1 X.kn.1 hr.1 hr.2.1 hr.2.2.1 rr 2 h2 (jm_tyAt X.ty rfl) hin hdg fun H1 l1 g1 g2 g3 => kk _ _ _ _ _ _ (hr.wr (e := .inl (2, n, .inr (.inl (vp_updL f i.toNatClampNeg x)))) h1 (by show (2 : Nat) < 6; decide) g1 g2 g3) hL hw.tl.tl.tl ha hN
theorem st_dast {rr : Nat} {i : Int32} {x : UInt64} {m2 : jm_Mem} (X : jm_Fx p s m args meth c D tys A S M) (h : jm_wD m1 rr i x = some m2) (hdg : decode (jm_mC M) pc = .ok (.dastore, 1)) (kk : jm_At p l e R s m args below meth c D tys A S c0 s0 ρ0 N0 M Q (pc + 1) lc st m2) : jm_At p l e R s m args below meth c D tys A S c0 s0 ρ0 N0 M Q pc lc (.double x :: .int i :: .ref rr :: st) m1 := by
  intro H locs cells slots ls ρ hr hL hw ha hN
  obtain ⟨n, f, he, hin, rfl⟩ := wD_spec h
  obtain ⟨h1, h2, h3⟩ := hr.arr he (by decide)
  exact va_dast X.1 X.2.1 X.kn.1 hr.1 hr.2.1 hr.2.2.1 rr 3 h2 (jm_tyAt X.ty rfl) hin hdg fun H1 l1 g1 g2 g3 => kk _ _ _ _ _ _ (hr.wr (e := .inl (3, n, .inr (.inr (.inr (.inl (vf_upd f i.toNatClampNeg x)))))) h1 (by show (3 : Nat) < 6; decide) g1 g2 g3) hL hw.tl.tl.tl ha hN
theorem up_map {f : Nat → Option Nat} {ρ : Nat → Nat} {i x : Nat} : (fun k => (va_up f i (some x) k).map ρ) = va_up (fun k => (f k).map ρ) i (some (ρ x)) := by
  funext k
  unfold va_up
  by_cases h : k = i
  · rw [if_pos h, if_pos h]; rfl
  · rw [if_neg h, if_neg h]
theorem st_aast {rr : Nat} {i : Int32} {x : Nat} {m2 : jm_Mem} (X : jm_Fx p s m args meth c D tys A S M) (h : jm_wR m1 rr i x = some m2) (hdg : decode (jm_mC M) pc = .ok (.aastore, 1)) (kk : jm_At p l e R s m args below meth c D tys A S c0 s0 ρ0 N0 M Q (pc + 1) lc st m2) : jm_At p l e R s m args below meth c D tys A S c0 s0 ρ0 N0 M Q pc lc (.ref x :: .int i :: .ref rr :: st) m1 := by
  intro H locs cells slots ls ρ hr hL hw ha hN
  obtain ⟨t, n, f, fs, he, ht, hx, hin, rfl⟩ := wR_spec h
  obtain ⟨h1, h2, h3⟩ := hr.arr he (by omega)
  obtain ⟨o1, o2, o3⟩ := hr.obj hx (by unfold jm_tc; split <;> omega)
  have hE : jm_wE m1.1 (.inl (t, n, .inr (.inr (.inr (.inr (va_up f i.toNatClampNeg (some x))))))) := by
    refine ⟨h3.1, fun k q hq => ?_⟩
    unfold va_up at hq
    split at hq
    · cases hq; exact o1
    · exact h3.2 k q hq
  have fin : ∀ (H1 : Heap) (l1 : List Loc), va_P D vwCl ((jm_ws ρ tys m1).set rr (ρ rr, .inl (jm_ct tys t, n, .inr (.inr (.inr (.inr (va_up (fun k => (f k).map ρ) i.toNatClampNeg (some (ρ x))))))))) H1 → va_D A ((jm_ws ρ tys m1).set rr (ρ rr, .inl (jm_ct tys t, n, .inr (.inr (.inr (.inr (va_up (fun k => (f k).map ρ) i.toNatClampNeg (some (ρ x))))))))) → va_S A s.heap H1 l1 → W p l e R s m args below meth c H1 l1 cells slots Q (F0 m (pc + 1) ls (st.map (jm_cv ρ))) := by
    intro H1 l1 g1 g2 g3
    rw [← up_map] at g1 g2
    exact kk _ _ _ _ _ _ (hr.wr h1 hE g1 g2 g3) hL hw.tl.tl.tl ha hN
  rcases ht with rfl | rfl
  · exact va_astq X.1 X.2.1 X.kn.1 hr.1 hr.2.1 hr.2.2.1 rr 4 x 9 h2 (r := (RX9, TX9, 5)) (jm_tyAt X.ty rfl) o2 rfl hin hdg fin
  · exact va_astq X.1 X.2.1 X.kn.1 hr.1 hr.2.1 hr.2.2.1 rr 5 x 4 h2 (r := (RX4, TX4, 6)) (jm_tyAt X.ty rfl) o2 rfl hin hdg fin
theorem len_spec {r n : Nat} (h : jm_len m1 r = some n) : ∃ t a, m1.2.1 r = .inl (t, a) ∧ t ≠ 7 ∧ n = a.1 := by
  unfold jm_len at h
  split at h
  · rename_i t a he
    split at h
    · cases h
    · rename_i ht
      cases h
      exact ⟨t, a, he, ht, rfl⟩
  · cases h
theorem jm_rep.tag {H0 H : Heap} {ρ : Nat → Nat} {locs : List Loc} {cells slots : Nat} (h : jm_rep D tys A S H0 c0 s0 ρ m1 H locs cells slots) {r t : Nat} {a : vp_A} (he : m1.2.1 r = .inl (t, a)) : t < 6 ∨ t = 7 ∨ t = 8 := by
  obtain ⟨-, -, -, hw, hb, -, hsp, -⟩ := h
  by_cases hr : r < m1.1
  · have := hw r hr
    rw [he] at this
    obtain ⟨n, f | f | f | f | f⟩ := a
    · exact Or.inl this
    · exact Or.inl this
    · exact Or.inl this
    · exact Or.inl this
    · exact Or.inl this.1
  · rcases hb r (Nat.not_lt.mp hr) with q | ⟨q1, q2⟩ | ⟨k, -, -, q⟩
    · rw [he] at q; cases q
    · rw [he] at q2
      exact Or.inr (Or.inr (congrArg Prod.fst (Sum.inl.inj q2)))
    · rw [he] at q
      exact Or.inr (Or.inl (congrArg Prod.fst (Sum.inl.inj q)))
theorem cE_len {ρ : Nat → Nat} {t : Nat} {a : vp_A} : ∃ x : vp_A, jm_cE ρ tys (.inl (t, a)) = .inl (jm_ct tys t, x) ∧ x.1 = a.1 := by
  obtain ⟨n, f | f | f | f | f⟩ := a <;> exact ⟨_, rfl, rfl⟩
theorem tyL_at {t : Nat} (h : t < 6) : ∃ ty, jm_tyL[t]? = some ty := ⟨_, List.getElem?_eq_getElem (h := h)⟩
theorem st_alen {rr n : Nat} (X : jm_Fx p s m args meth c D tys A S M) (h : jm_len m1 rr = some n) (hdg : decode (jm_mC M) pc = .ok (.arraylength, 1)) (kk : jm_At p l e R s m args below meth c D tys A S c0 s0 ρ0 N0 M Q (pc + 1) lc (.int (Int32.ofNat n) :: st) m1) : jm_At p l e R s m args below meth c D tys A S c0 s0 ρ0 N0 M Q pc lc (.ref rr :: st) m1 := by
  intro H locs cells slots ls ρ hr hL hw ha hN
  obtain ⟨t, a, he, ht, rfl⟩ := len_spec h
  have k2 := kk H locs cells slots ls ρ hr hL (hw.tl.cons trivial) ha hN
  rcases hr.tag he with q | q | q
  · obtain ⟨h1, h2, -⟩ := hr.arr he q
    obtain ⟨x, e1, e2⟩ := cE_len (tys := tys) (ρ := ρ) (t := t) (a := a)
    rw [e1] at h2
    obtain ⟨ty, hty⟩ := tyL_at q
    exact va_alen X.1 X.2.1 X.kn.1 hr.1 rr t h2 (jm_tyAt X.ty hty) (by rw [e2]) hdg k2
  · exact absurd q ht
  · subst q
    obtain ⟨q1, q2, q3⟩ := hr.scr he
    subst q2
    have k3 := va_slen (ls := ls) (rest := st.map (jm_cv ρ)) X.1 X.2.1 X.kn.2.1.1 X.kn.2.1.2.1 X.kn.2.1.2.2 hr.2.2.1 hdg k2
    rw [← q3] at k3
    exact k3
/-- making -/
theorem jm_Fx.all (X : jm_Fx p s m args meth c D tys A S M) : ∀ q, s.heap.size ≤ q → A q := X.kn.2.2.2.2.2.2.2.2.2.2.1
theorem st_new {x ci : Nat} {fs : List Value} (X : jm_Fx p s m args meth c D tys A S M) (hf : jm_nok (jm_mO M) (x, ci, fs)) (hn : m1.1 < 1000000) (hdg : decode (jm_mC M) pc = .ok (.new x, 3)) (hRc : m1.2.2.1 + 1 ≤ c0 + R.cells) (hRs : m1.2.2.2 + fs.length ≤ s0 + R.slots)
    (kk : jm_At p l e R s m args below meth c D tys A S c0 s0 ρ0 N0 M Q (pc + 3) lc (.ref m1.1 :: st) (jm_new m1 (.inr (ci, fs)) fs.length)) : jm_At p l e R s m args below meth c D tys A S c0 s0 ρ0 N0 M Q pc lc st m1 := by
  intro H locs cells slots ls ρ hr hL hw ha hN
  obtain ⟨C, T, N, ty, hcl, hty, hdf, hlen, hwt, hid, hci, hlink⟩ := hf
  obtain ⟨hcn2, hin, -, hnm, hinst, hini⟩ := jm_clOk hcl
  have hlen : fs.length = N := hlen
  have hcl : vwCl[ci]? = some (C, T, N) := hcl
  have e1 := hr.2.2.2.2.2.2.2.1
  have e2 := hr.2.2.2.2.2.2.2.2
  refine va_new (T := T) (N := N) X.1 X.2.1 X.ts hin ty hty X.own (X.ts _ hlink) (X.ts _ hinst) (X.ts _ hini) X.kn.1 hr.1 hr.2.1 hr.2.2.1 X.all hcl hdf (by omega) (by omega) hdg fun q H1 g1 g2 g3 => ?_
  have hE : jm_wE m1.1 (.inr (ci, fs)) := hwt.up (Nat.zero_le _)
  have e3 : jm_cE ρ tys (.inr (ci, fs)) = .inr (ci, fs) := by
    show Sum.inr (ci, fs.map (jm_cv ρ)) = _
    rw [hid ρ]
  obtain ⟨n1, n2⟩ := hr.nw (k := fs.length) (q := q) hn hE (by rw [e3]; exact g1) (by rw [e3]; exact g2) g3
  rw [← hlen]
  have hst : st.map (jm_cv (va_up ρ m1.1 q)) = st.map (jm_cv ρ) := jm_cv_ags n2 hw
  have hv : jm_cv (va_up ρ m1.1 q) (.ref m1.1) = .ref q := by
    show Value.ref (va_up ρ m1.1 q m1.1) = _
    rw [show va_up ρ m1.1 q m1.1 = q from if_pos rfl]
  have k2 := kk H1 locs (cells + 1) (slots + fs.length) ls _ n1 (hL.ag n2 (Nat.le_succ _)) ((hw.up (Nat.le_succ _)).cons (Or.inl (Nat.lt_succ_self _))) (ha.tr n2 hN) (Nat.le_succ_of_le hN)
  rw [List.map_cons, hst, hv] at k2
  exact k2
theorem jm_cA (X : jm_Fx p s m args meth c D tys A S M) {t : Nat} {ty : FieldType} (ht : jm_tyL[t]? = some ty) {cA : ClassId} (hK : va_K D vwCl (tys ++ [(cA, ty)]) s) : cA = jm_ct tys t := by
  have h1 := (X.kn.1.2 t _ (jm_tyAt X.ty ht)).2
  have h2 := (hK.2 tys.length (cA, ty) (by simp)).2
  unfold va_RA at h1 h2
  cases ty with
  | object C =>
    obtain ⟨kA, comp, a1, a2, a3, a4⟩ := h1
    obtain ⟨kB, comp2, b1, b2, b3, b4⟩ := h2
    exact Option.some.inj (b4.symm.trans a4)
  | _ => exact Option.some.inj (h2.symm.trans h1)
theorem st_newarr {t : Nat} {a : ArrayType} {k : Int32} {z : vp_A} (X : jm_Fx p s m args meth c D tys A S M) (hk : ¬ (k < 0 ∨ 10000000 < k.toNatClampNeg)) (ht : jm_at a = t) (hz : jm_zero t k.toNatClampNeg = some z) (hn : m1.1 < 1000000) (hdg : decode (jm_mC M) pc = .ok (.newarray a, 2)) (hRc : m1.2.2.1 + 1 ≤ c0 + R.cells) (hRs : m1.2.2.2 + k.toNatClampNeg ≤ s0 + R.slots)
    (hac : ∀ i, i < 4 → ∃ ty, jm_tyL[i]? = some ty ∧ Cond.arrayClass ty ∈ jm_WW)
    (kk : jm_At p l e R s m args below meth c D tys A S c0 s0 ρ0 N0 M Q (pc + 2) lc (.ref m1.1 :: st) (jm_new m1 (.inl (t, z)) k.toNatClampNeg)) : jm_At p l e R s m args below meth c D tys A S c0 s0 ρ0 N0 M Q pc lc (.int k :: st) m1 := by
  intro H locs cells slots ls ρ hr hL hw ha hN
  have e1 := hr.2.2.2.2.2.2.2.1
  have e2 := hr.2.2.2.2.2.2.2.2
  have main : ∀ (ty : FieldType), jm_tyL[t]? = some ty → newarray.typeOf a = ty → t < 6 → componentBytes ty ≤ 8 → jm_wE m1.1 (.inl (t, z)) → jm_cE ρ tys (.inl (t, z)) = .inl (jm_ct tys t, z) → (∀ cA : ClassId, vp_cell cA z = arrV cA k.toNatClampNeg (fun _ => defaultValue ty)) → Cond.arrayClass ty ∈ jm_WW → W p l e R s m args below meth c H locs cells slots Q (F0 m pc ls (.int k :: st.map (jm_cv ρ))) := by
    intro ty hty hat h6 hcb hE hcE hcell hword
    have h8 : k.toNatClampNeg * componentBytes ty ≤ 10000000 * 8 := Nat.mul_le_mul (by omega) hcb
    refine va_newa (atype := a) X.1 X.2.1 (by rw [hat]; exact X.ts _ hword) hat X.kn.1 hr.1 hr.2.1 hr.2.2.1 X.all hcell (fun q => hk (Or.inl q)) rfl (by omega) (by omega) (by omega) hdg fun q cA H1 gK g1 g2 g3 => ?_
    rw [jm_cA X hty gK, ← hcE] at g1 g2
    obtain ⟨n1, n2⟩ := hr.nw (k := k.toNatClampNeg) (q := q) hn hE g1 g2 g3
    have hst : st.map (jm_cv (va_up ρ m1.1 q)) = st.map (jm_cv ρ) := jm_cv_ags n2 hw.tl
    have hv : jm_cv (va_up ρ m1.1 q) (.ref m1.1) = .ref q := by
      show Value.ref (va_up ρ m1.1 q m1.1) = _
      rw [show va_up ρ m1.1 q m1.1 = q from if_pos rfl]
    have k2 := kk H1 locs (cells + 1) (slots + k.toNatClampNeg) ls _ n1 (hL.ag n2 (Nat.le_succ _)) ((hw.tl.up (Nat.le_succ _)).cons (Or.inl (Nat.lt_succ_self _))) (ha.tr n2 hN) (Nat.le_succ_of_le hN)
    rw [List.map_cons, hst, hv] at k2
    exact k2
  subst ht
  have hw4 : ∀ i ty, i < 4 → jm_tyL[i]? = some ty → Cond.arrayClass ty ∈ jm_WW := fun i ty hi h => by
    obtain ⟨ty2, h1, h2⟩ := hac i hi
    cases h1.symm.trans h; exact h2
  cases a
  case int => cases hz; exact main .int rfl rfl (by decide) (by decide) (by show (0 : Nat) < 6; decide) rfl (fun cA => rfl) (hw4 0 _ (by decide) rfl)
  case boolean => cases hz; exact main .boolean rfl rfl (by decide) (by decide) (by show (1 : Nat) < 6; decide) rfl (fun cA => rfl) (hw4 1 _ (by decide) rfl)
  case long => cases hz; exact main .long rfl rfl (by decide) (by decide) (by show (2 : Nat) < 6; decide) rfl (fun cA => rfl) (hw4 2 _ (by decide) rfl)
  case double => cases hz; exact main .double rfl rfl (by decide) (by decide) (by show (3 : Nat) < 6; decide) rfl (fun cA => rfl) (hw4 3 _ (by decide) rfl)
  all_goals cases hz
theorem st_anew {x t : Nat} {k : Int32} (X : jm_Fx p s m args meth c D tys A S M) (hk : ¬ (k < 0 ∨ 10000000 < k.toNatClampNeg)) (hf : jm_aok (jm_mO M) (x, t)) (hn : m1.1 < 1000000) (hdg : decode (jm_mC M) pc = .ok (.anewarray x, 3)) (hRc : m1.2.2.1 + 1 ≤ c0 + R.cells) (hRs : m1.2.2.2 + k.toNatClampNeg ≤ s0 + R.slots)
    (ho1 : va_AO "PaperLand$Series" s) (ho2 : va_AO "PaperLand$Land" s)
    (kk : jm_At p l e R s m args below meth c D tys A S c0 s0 ρ0 N0 M Q (pc + 3) lc (.ref m1.1 :: st) (jm_new m1 (.inl (t, k.toNatClampNeg, .inr (.inr (.inr (.inr (fun _ => none)))))) k.toNatClampNeg)) : jm_At p l e R s m args below meth c D tys A S c0 s0 ρ0 N0 M Q pc lc (.int k :: st) m1 := by
  intro H locs cells slots ls ρ hr hL hw ha hN
  have e1 := hr.2.2.2.2.2.2.2.1
  have e2 := hr.2.2.2.2.2.2.2.2
  have main : ∀ (C : String), jm_tyL[t]? = some (.object C) → t < 6 → va_AO C s → Cond.classLink (jm_cn (jm_mO M)) x C ∈ jm_WW → W p l e R s m args below meth c H locs cells slots Q (F0 m pc ls (.int k :: st.map (jm_cv ρ))) := by
    intro C hty h6 hao hlink
    have hE : jm_wE m1.1 (.inl (t, k.toNatClampNeg, .inr (.inr (.inr (.inr (fun _ => none)))))) := ⟨h6, fun _ _ h => by cases h⟩
    refine va_newq X.1 X.2.1 X.own (X.ts _ hlink) hao X.kn.1 hr.1 hr.2.1 hr.2.2.1 X.all (fun q => hk (Or.inl q)) rfl (by omega) (by omega) (by omega) hdg fun q cA H1 gK g1 g2 g3 => ?_
    rw [jm_cA X hty gK] at g1 g2
    obtain ⟨n1, n2⟩ := hr.nw (k := k.toNatClampNeg) (q := q) hn hE g1 g2 g3
    have hst : st.map (jm_cv (va_up ρ m1.1 q)) = st.map (jm_cv ρ) := jm_cv_ags n2 hw.tl
    have hv : jm_cv (va_up ρ m1.1 q) (.ref m1.1) = .ref q := by
      show Value.ref (va_up ρ m1.1 q m1.1) = _
      rw [show va_up ρ m1.1 q m1.1 = q from if_pos rfl]
    have k2 := kk H1 locs (cells + 1) (slots + k.toNatClampNeg) ls _ n1 (hL.ag n2 (Nat.le_succ _)) ((hw.tl.up (Nat.le_succ _)).cons (Or.inl (Nat.lt_succ_self _))) (ha.tr n2 hN) (Nat.le_succ_of_le hN)
    rw [List.map_cons, hst, hv] at k2
    exact k2
  rcases hf with ⟨h1, h2⟩ | ⟨h1, h2⟩
  · have h1 : t = 4 := h1
    subst h1
    exact main _ rfl (by decide) ho1 h2
  · have h1 : t = 5 := h1
    subst h1
    exact main _ rfl (by decide) ho2 h2
end ST
