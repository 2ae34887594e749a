/-! The whole step. -/
section STP
variable {p : Program} {l : Launch} {e : Env} {R : Room} {s : State} {m : MethodId} {args : Array Value} {below : List Frame} {meth : Method} {c : Code} {D : va_G} {tys : List (ClassId × FieldType)} {A : Nat → Prop} {S : jm_Sp} {c0 s0 : Nat} {ρ0 : Nat → Nat} {N0 : Nat} {M : jm_Meth} {Q : State → Prop} {pc : Nat} {lc : jm_Loc} {st : List Value} {m1 : jm_Mem} {d : Nat} {r : jm_Res} {K : jm_K} {call : jm_Call}
/-- what an int may be that a method answers -/
def jm_irt (M : jm_Meth) (x : Int32) : Prop := jm_mR M = some .int ∨ (jm_mR M = some .boolean ∧ (x = 0 ∨ x = 1)) ∨ (jm_mR M = some .byte ∧ jm_by x = true) ∨ (jm_mR M = some .char ∧ 0 ≤ x ∧ x < 65536)
/-- what holds where a method ends -/
def jm_En (p : Program) (l : Launch) (e : Env) (R : Room) (s : State) (m : MethodId) (args : Array Value) (below : List Frame) (meth : Method) (c : Code) (D : va_G) (tys : List (ClassId × FieldType)) (A : Nat → Prop) (S : jm_Sp) (c0 s0 : Nat) (ρ0 : Nat → Nat) (N0 : Nat) (M : jm_Meth) (Q : State → Prop) (r : jm_Res) : Prop :=
  (∀ pc lc x m2, r = (.inl (some (.int x)), m2) → jm_irt M x → decode (jm_mC M) pc = .ok (.ireturn, 1) → jm_At p l e R s m args below meth c D tys A S c0 s0 ρ0 N0 M Q pc lc [.int x] m2) ∧
  (∀ pc lc x m2, r = (.inl (some (.long x)), m2) → jm_mR M = some .long → decode (jm_mC M) pc = .ok (.lreturn, 1) → jm_At p l e R s m args below meth c D tys A S c0 s0 ρ0 N0 M Q pc lc [.long x] m2) ∧
  (∀ pc lc x m2, r = (.inl (some (.ref x)), m2) → ((∃ C, jm_mR M = some (.object C)) ∨ ∃ t, jm_mR M = some (.array t)) → decode (jm_mC M) pc = .ok (.areturn, 1) → jm_At p l e R s m args below meth c D tys A S c0 s0 ρ0 N0 M Q pc lc [.ref x] m2) ∧
  (∀ pc lc m2, r = (.inl none, m2) → jm_mR M = none → decode (jm_mC M) pc = .ok (.return_, 1) → jm_At p l e R s m args below meth c D tys A S c0 s0 ρ0 N0 M Q pc lc [] m2) ∧
  (∀ pc lc st E m2, (pc, E) ∈ jm_mT M → (st.map fun v => v.category).sum ≤ 8 → r = (.inr E, jm_exc m2) → jm_At p l e R s m args below meth c D tys A S c0 s0 ρ0 N0 M Q pc lc st m2) ∧
  (∀ E pc lc m2, r = (.inr E, m2) → jm_Th p l e R s m args below meth c D tys A S c0 s0 ρ0 N0 M Q E pc lc m2)
theorem i2c_of {x : Int32} (h : 0 ≤ x ∧ x < 65536) : (x.toUInt32 % 65536).toInt32 = x := by
  obtain ⟨h0, h1⟩ := h
  have a0 := Int32.le_iff_toInt_le.mp h0
  have a1 := Int32.lt_iff_toInt_lt.mp h1
  rw [show (0 : Int32).toInt = 0 by decide] at a0
  rw [show (65536 : Int32).toInt = 65536 by decide] at a1
  have a2 : x.toInt = x.toBitVec.toInt := rfl
  have a3 := BitVec.toInt_eq_toNat_cond x.toBitVec
  have a4 : x.toUInt32.toNat = x.toBitVec.toNat := rfl
  have a5 : x.toUInt32.toNat < 65536 := by
    rw [a4]
    have a6 := x.toBitVec.isLt
    split at a3 <;> omega
  have a7 : x.toUInt32 % 65536 = x.toUInt32 := by
    apply UInt32.toNat_inj.mp
    rw [UInt32.toNat_mod]
    exact Nat.mod_eq_of_lt a5
  rw [a7]
  rfl
theorem i8_of {v : Int} (h : -128 ≤ v ∧ v < 128) : (Int8.ofInt v).toInt32 = Int32.ofInt v := by
  apply Int32.toInt_inj.mp
  rw [Int8.toInt_toInt32, Int8.toInt_ofInt_of_le (by omega) (by omega), Int32.toInt_ofInt_of_le (by omega) (by omega)]
theorem i16_of {v : Int} (h : -32768 ≤ v ∧ v < 32768) : (Int16.ofInt v).toInt32 = Int32.ofInt v := by
  apply Int32.toInt_inj.mp
  rw [Int16.toInt_toInt32, Int16.toInt_ofInt_of_le (by omega) (by omega), Int32.toInt_ofInt_of_le (by omega) (by omega)]
theorem cond_spec {co : Jvm.ClassFile.Cond} {x y : Int32} {a b : Option jm_Res} (h : jm_cond co x y a b = some r) : (match co with | .eq => (x = y → a = some r) ∧ (¬ x = y → b = some r) | .ne => (¬ x = y → a = some r) ∧ (x = y → b = some r) | .lt => (x < y → a = some r) ∧ (¬ x < y → b = some r) | .ge => (y ≤ x → a = some r) ∧ (¬ y ≤ x → b = some r) | .gt => (y < x → a = some r) ∧ (¬ y < x → b = some r) | .le => (x ≤ y → a = some r) ∧ (¬ x ≤ y → b = some r)) := by
  cases co <;> (simp only [jm_cond] at h; constructor <;> intro q <;> simpa [q] using h)
theorem st_ldc {x : Nat} {v : Value} (X : jm_Fx p s m args meth c D tys A S M) (hc : jm_cst (jm_mO M) x = some v) (hnl : ∀ v2, v = .long v2 → False) (hdg : decode (jm_mC M) pc = .ok (.ldc x, 2)) (kk : jm_At p l e R s m args below meth c D tys A S c0 s0 ρ0 N0 M Q (pc + 2) lc (v :: st) m1) : jm_At p l e R s m args below meth c D tys A S c0 s0 ρ0 N0 M Q pc lc st m1 := by
  intro H locs cells slots ls ρ hr hL hw ha hN
  have hk := jm_cstOk hc
  unfold jm_kok at hk
  cases v with
  | int v => exact lv_ldc X.1 X.2.1 X.own (X.ts _ hk) hdg (kk H locs cells slots ls ρ hr hL hw.i ha hN)
  | ref n =>
    obtain ⟨i, hi, rfl, e1, e2⟩ := hk
    have h1 := X.kn.2.2.2.1 i (Nat.lt_trans hi (by decide))
    rw [e1, e2] at h1
    have k2 := kk H locs cells slots ls ρ hr hL (hw.cons (Or.inr (Or.inr (Or.inl ⟨Nat.le_add_right _ _, Nat.add_lt_add_left hi _⟩)))) ha hN
    refine va_ldcS X.1 X.2.1 X.own h1 hdg ?_
    have e3 : jm_cv ρ (.ref (jm_str + i)) = .ref (S.2.2.2 i) := by
      show Value.ref (ρ (jm_str + i)) = _
      rw [hr.sr.2.1 i hi]
    rw [List.map_cons, e3] at k2
    exact k2
  | long v => exact (hnl v rfl).elim
  | _ => exact hk.elim
set_option maxHeartbeats 4000000 in
theorem sim_stp (X : jm_Fx p s m args meth c D tys A S M) (hR : jm_Rk d R) (hcl : jm_mH M = []) (hcs : jm_Cs l D tys A S d call) (hcm : jm_cM call) (hK : ∀ pc lc st m2, K pc lc st m2 = some r → jm_At p l e R s m args below meth c D tys A S c0 s0 ρ0 N0 M Q pc lc st m2) (hKm : ∀ pc lc st m2 r', K pc lc st m2 = some r' → jm_le m2 r'.2)
    (hE : jm_En p l e R s m args below meth c D tys A S c0 s0 ρ0 N0 M Q r) (hrm : r.2.2.2.1 ≤ c0 + R.cells ∧ r.2.2.2.2 ≤ s0 + R.slots) (h : jm_stp call M pc lc st m1 K = some r) : jm_At p l e R s m args below meth c D tys A S c0 s0 ρ0 N0 M Q pc lc st m1 := by
  obtain ⟨E1, E2, E3, E4, E5, E6⟩ := hE
  unfold jm_stp at h
  cases hi : jm_ins M pc with
  | none => rw [hi] at h; cases h
  | some iv =>
    obtain ⟨i, n⟩ := iv
    rw [hi] at h
    dsimp only at h
    have hdg := X.dc hi
    have hoi := X.oi hi
    cases i
    case iconst v =>
      obtain ⟨hq0, h'⟩ := iv_n h
      clear h; subst hq0; have h := h'; clear h'
      intro H locs cells slots ls ρ hr hL hw ha hN
      exact lv_iconst X.1 X.2.1 hdg rfl (hK _ _ _ _ h H locs cells slots ls ρ hr hL hw.i ha hN)
    case bipush v =>
      obtain ⟨hq0, h'⟩ := iv_n h
      clear h; subst hq0; have h := h'; clear h'
      obtain ⟨hv, h⟩ := iv_ite h
      intro H locs cells slots ls ρ hr hL hw ha hN
      exact lv_bipush X.1 X.2.1 hdg (i8_of hv) (hK _ _ _ _ h H locs cells slots ls ρ hr hL hw.i ha hN)
    case sipush v =>
      obtain ⟨hq0, h'⟩ := iv_n h
      clear h; subst hq0; have h := h'; clear h'
      obtain ⟨hv, h⟩ := iv_ite h
      intro H locs cells slots ls ρ hr hL hw ha hN
      exact lv_sipush X.1 X.2.1 hdg (i16_of hv) (hK _ _ _ _ h H locs cells slots ls ρ hr hL hw.i ha hN)
    case lconst v =>
      obtain ⟨hq0, h'⟩ := iv_n h
      clear h; subst hq0; have h := h'; clear h'
      intro H locs cells slots ls ρ hr hL hw ha hN
      exact lv_lconst X.1 X.2.1 hdg rfl (hK _ _ _ _ h H locs cells slots ls ρ hr hL hw.l ha hN)
    case ldc x =>
      obtain ⟨hq0, h'⟩ := iv_n h
      clear h; subst hq0; have h := h'; clear h'
      split at h
      · cases h
      · rename_i v hno hc
        exact st_ldc X hc (fun v2 e => hno v2 e) hdg (hK _ _ _ _ h)
      · cases h
    case ldc_w x =>
      obtain ⟨hq0, h'⟩ := iv_n h
      clear h; subst hq0; have h := h'; clear h'
      split at h
      · rename_i v hc
        exact (jm_cstOk hc).elim
      · cases h
    case ldc2_w x =>
      obtain ⟨hq0, h'⟩ := iv_n h
      clear h; subst hq0; have h := h'; clear h'
      split at h
      · rename_i v hc
        intro H locs cells slots ls ρ hr hL hw ha hN
        exact lv_ldc2 X.1 X.2.1 X.own (X.ts _ (jm_cstOk hc)) hdg (hK _ _ _ _ h H locs cells slots ls ρ hr hL hw.l ha hN)
      · cases h
    case iload_n k =>
      obtain ⟨hq0, h'⟩ := iv_n h
      clear h; subst hq0; have h := h'; clear h'
      obtain ⟨x, hx, h⟩ := iv_lI h
      intro H locs cells slots ls ρ hr hL hw ha hN
      obtain ⟨g1, g2⟩ := hL.2.2.2 _ _ hx
      exact lv_iload_n X.1 X.2.1 hdg rfl g1 (hK _ _ _ _ h H locs cells slots ls ρ hr hL (hw.cons g2) ha hN)
    case iload k =>
      obtain ⟨hq0, h'⟩ := iv_n h
      clear h; subst hq0; have h := h'; clear h'
      obtain ⟨x, hx, h⟩ := iv_lI h
      intro H locs cells slots ls ρ hr hL hw ha hN
      obtain ⟨g1, g2⟩ := hL.2.2.2 _ _ hx
      exact lv_iload X.1 X.2.1 hdg g1 (hK _ _ _ _ h H locs cells slots ls ρ hr hL (hw.cons g2) ha hN)
    case lload_n k =>
      obtain ⟨hq0, h'⟩ := iv_n h
      clear h; subst hq0; have h := h'; clear h'
      obtain ⟨x, hx, h⟩ := iv_lL h
      intro H locs cells slots ls ρ hr hL hw ha hN
      obtain ⟨g1, g2⟩ := hL.2.2.2 _ _ hx
      exact lv_lload_n X.1 X.2.1 hdg rfl g1 (hK _ _ _ _ h H locs cells slots ls ρ hr hL (hw.cons g2) ha hN)
    case lload k =>
      obtain ⟨hq0, h'⟩ := iv_n h
      clear h; subst hq0; have h := h'; clear h'
      obtain ⟨x, hx, h⟩ := iv_lL h
      intro H locs cells slots ls ρ hr hL hw ha hN
      obtain ⟨g1, g2⟩ := hL.2.2.2 _ _ hx
      exact lv_lload X.1 X.2.1 hdg g1 (hK _ _ _ _ h H locs cells slots ls ρ hr hL (hw.cons g2) ha hN)
    case aload_n k =>
      obtain ⟨hq0, h'⟩ := iv_n h
      clear h; subst hq0; have h := h'; clear h'
      obtain ⟨x, hx, h⟩ := iv_lR h
      intro H locs cells slots ls ρ hr hL hw ha hN
      obtain ⟨g1, g2⟩ := hL.2.2.2 _ _ hx
      exact lv_aload_n X.1 X.2.1 hdg rfl g1 (hK _ _ _ _ h H locs cells slots ls ρ hr hL (hw.cons g2) ha hN)
    case aload k =>
      obtain ⟨hq0, h'⟩ := iv_n h
      clear h; subst hq0; have h := h'; clear h'
      obtain ⟨x, hx, h⟩ := iv_lR h
      intro H locs cells slots ls ρ hr hL hw ha hN
      obtain ⟨g1, g2⟩ := hL.2.2.2 _ _ hx
      exact lv_aload X.1 X.2.1 hdg g1 (hK _ _ _ _ h H locs cells slots ls ρ hr hL (hw.cons g2) ha hN)
    case istore_n k =>
      obtain ⟨hq0, h'⟩ := iv_n h
      clear h; subst hq0; have h := h'; clear h'
      obtain ⟨hk, h⟩ := iv_in h
      obtain ⟨x, st2, hq0, h'⟩ := iv_pI h
      clear h; subst hq0; have h := h'; clear h'
      intro H locs cells slots ls ρ hr hL hw ha hN
      refine lv_istore_n (lv := jm_prs ρ lc) X.1 X.2.1 hdg rfl hL.has (by rw [← hL.1]; exact hk) rfl (fun ls' h' => ?_)
      exact hK _ _ _ _ h H locs cells slots ls' ρ hr (hL.st1 (v := .int x) hw.hd h') hw.tl ha hN
    case istore k =>
      obtain ⟨hq0, h'⟩ := iv_n h
      clear h; subst hq0; have h := h'; clear h'
      obtain ⟨hk, h⟩ := iv_in h
      obtain ⟨x, st2, hq0, h'⟩ := iv_pI h
      clear h; subst hq0; have h := h'; clear h'
      intro H locs cells slots ls ρ hr hL hw ha hN
      refine lv_istore (lv := jm_prs ρ lc) X.1 X.2.1 hdg hL.has (by rw [← hL.1]; exact hk) rfl (fun ls' h' => ?_)
      exact hK _ _ _ _ h H locs cells slots ls' ρ hr (hL.st1 (v := .int x) hw.hd h') hw.tl ha hN
    case astore_n k =>
      obtain ⟨hq0, h'⟩ := iv_n h
      clear h; subst hq0; have h := h'; clear h'
      obtain ⟨hk, h⟩ := iv_in h
      obtain ⟨x, st2, hq0, h'⟩ := iv_pR h
      clear h; subst hq0; have h := h'; clear h'
      intro H locs cells slots ls ρ hr hL hw ha hN
      refine lv_astore_n (lv := jm_prs ρ lc) X.1 X.2.1 hdg rfl hL.has (by rw [← hL.1]; exact hk) rfl (fun ls' h' => ?_)
      exact hK _ _ _ _ h H locs cells slots ls' ρ hr (hL.st1 (v := .ref x) hw.hd h') hw.tl ha hN
    case astore k =>
      obtain ⟨hq0, h'⟩ := iv_n h
      clear h; subst hq0; have h := h'; clear h'
      obtain ⟨hk, h⟩ := iv_in h
      obtain ⟨x, st2, hq0, h'⟩ := iv_pR h
      clear h; subst hq0; have h := h'; clear h'
      intro H locs cells slots ls ρ hr hL hw ha hN
      refine lv_astore (lv := jm_prs ρ lc) X.1 X.2.1 hdg hL.has (by rw [← hL.1]; exact hk) rfl (fun ls' h' => ?_)
      exact hK _ _ _ _ h H locs cells slots ls' ρ hr (hL.st1 (v := .ref x) hw.hd h') hw.tl ha hN
    case lstore_n k =>
      obtain ⟨hq0, h'⟩ := iv_n h
      clear h; subst hq0; have h := h'; clear h'
      obtain ⟨hk, h⟩ := iv_in h
      obtain ⟨x, st2, hq0, h'⟩ := iv_pL h
      clear h; subst hq0; have h := h'; clear h'
      intro H locs cells slots ls ρ hr hL hw ha hN
      refine lv_lstore_n (lv := jm_prs ρ lc) X.1 X.2.1 hdg rfl hL.has (by rw [← hL.1]; exact hk) rfl (fun ls' h' => ?_)
      exact hK _ _ _ _ h H locs cells slots ls' ρ hr (hL.st2 (v := .long x) hw.hd h') hw.tl ha hN
    case lstore k =>
      obtain ⟨hq0, h'⟩ := iv_n h
      clear h; subst hq0; have h := h'; clear h'
      obtain ⟨hk, h⟩ := iv_in h
      obtain ⟨x, st2, hq0, h'⟩ := iv_pL h
      clear h; subst hq0; have h := h'; clear h'
      intro H locs cells slots ls ρ hr hL hw ha hN
      refine lv_lstore (lv := jm_prs ρ lc) X.1 X.2.1 hdg hL.has (by rw [← hL.1]; exact hk) rfl (fun ls' h' => ?_)
      exact hK _ _ _ _ h H locs cells slots ls' ρ hr (hL.st2 (v := .long x) hw.hd h') hw.tl ha hN
    case iinc k v =>
      obtain ⟨hq0, h'⟩ := iv_n h
      clear h; subst hq0; have h := h'; clear h'
      obtain ⟨hk, h⟩ := iv_in h
      obtain ⟨x, hx, h⟩ := iv_lI h
      intro H locs cells slots ls ρ hr hL hw ha hN
      obtain ⟨q, hq⟩ := List.getElem?_of_mem (jm_prs_mem (ρ := ρ) (q := (k, .int x)).mpr ⟨_, hx, rfl⟩)
      refine lv_iinc (lv := jm_prs ρ lc) X.1 X.2.1 hdg hL.has hq rfl (by rw [← hL.1]; exact hk) rfl (fun ls' h' => ?_)
      exact hK _ _ _ _ h H locs cells slots ls' ρ hr (hL.st1 (v := .int (x + Int32.ofInt v)) trivial h') hw ha hN
    case iadd =>
      obtain ⟨hq0, h'⟩ := iv_n h
      clear h; subst hq0; have h := h'; clear h'
      obtain ⟨y, st2, hq0, h'⟩ := iv_pI h
      clear h; subst hq0; have h := h'; clear h'
      obtain ⟨x, st3, hq0, h'⟩ := iv_pI h
      clear h; subst hq0; have h := h'; clear h'
      intro H locs cells slots ls ρ hr hL hw ha hN
      exact lv_iadd X.1 X.2.1 hdg (hK _ _ _ _ h H locs cells slots ls ρ hr hL hw.tl.tl.i ha hN)
    case isub =>
      obtain ⟨hq0, h'⟩ := iv_n h
      clear h; subst hq0; have h := h'; clear h'
      obtain ⟨y, st2, hq0, h'⟩ := iv_pI h
      clear h; subst hq0; have h := h'; clear h'
      obtain ⟨x, st3, hq0, h'⟩ := iv_pI h
      clear h; subst hq0; have h := h'; clear h'
      intro H locs cells slots ls ρ hr hL hw ha hN
      exact lv_isub X.1 X.2.1 hdg (hK _ _ _ _ h H locs cells slots ls ρ hr hL hw.tl.tl.i ha hN)
    case imul =>
      obtain ⟨hq0, h'⟩ := iv_n h
      clear h; subst hq0; have h := h'; clear h'
      obtain ⟨y, st2, hq0, h'⟩ := iv_pI h
      clear h; subst hq0; have h := h'; clear h'
      obtain ⟨x, st3, hq0, h'⟩ := iv_pI h
      clear h; subst hq0; have h := h'; clear h'
      intro H locs cells slots ls ρ hr hL hw ha hN
      exact lv_imul X.1 X.2.1 hdg (hK _ _ _ _ h H locs cells slots ls ρ hr hL hw.tl.tl.i ha hN)
    case iand =>
      obtain ⟨hq0, h'⟩ := iv_n h
      clear h; subst hq0; have h := h'; clear h'
      obtain ⟨y, st2, hq0, h'⟩ := iv_pI h
      clear h; subst hq0; have h := h'; clear h'
      obtain ⟨x, st3, hq0, h'⟩ := iv_pI h
      clear h; subst hq0; have h := h'; clear h'
      intro H locs cells slots ls ρ hr hL hw ha hN
      exact lv_iand X.1 X.2.1 hdg (hK _ _ _ _ h H locs cells slots ls ρ hr hL hw.tl.tl.i ha hN)
    case ixor =>
      obtain ⟨hq0, h'⟩ := iv_n h
      clear h; subst hq0; have h := h'; clear h'
      obtain ⟨y, st2, hq0, h'⟩ := iv_pI h
      clear h; subst hq0; have h := h'; clear h'
      obtain ⟨x, st3, hq0, h'⟩ := iv_pI h
      clear h; subst hq0; have h := h'; clear h'
      intro H locs cells slots ls ρ hr hL hw ha hN
      exact lv_ixor X.1 X.2.1 hdg (hK _ _ _ _ h H locs cells slots ls ρ hr hL hw.tl.tl.i ha hN)
    case ishl =>
      obtain ⟨hq0, h'⟩ := iv_n h
      clear h; subst hq0; have h := h'; clear h'
      obtain ⟨y, st2, hq0, h'⟩ := iv_pI h
      clear h; subst hq0; have h := h'; clear h'
      obtain ⟨x, st3, hq0, h'⟩ := iv_pI h
      clear h; subst hq0; have h := h'; clear h'
      intro H locs cells slots ls ρ hr hL hw ha hN
      exact lv_ishl X.1 X.2.1 hdg (hK _ _ _ _ h H locs cells slots ls ρ hr hL hw.tl.tl.i ha hN)
    case ishr =>
      obtain ⟨hq0, h'⟩ := iv_n h
      clear h; subst hq0; have h := h'; clear h'
      obtain ⟨y, st2, hq0, h'⟩ := iv_pI h
      clear h; subst hq0; have h := h'; clear h'
      obtain ⟨x, st3, hq0, h'⟩ := iv_pI h
      clear h; subst hq0; have h := h'; clear h'
      intro H locs cells slots ls ρ hr hL hw ha hN
      exact lv_ishr X.1 X.2.1 hdg (hK _ _ _ _ h H locs cells slots ls ρ hr hL hw.tl.tl.i ha hN)
    case iushr =>
      obtain ⟨hq0, h'⟩ := iv_n h
      clear h; subst hq0; have h := h'; clear h'
      obtain ⟨y, st2, hq0, h'⟩ := iv_pI h
      clear h; subst hq0; have h := h'; clear h'
      obtain ⟨x, st3, hq0, h'⟩ := iv_pI h
      clear h; subst hq0; have h := h'; clear h'
      intro H locs cells slots ls ρ hr hL hw ha hN
      exact lv_iushr X.1 X.2.1 hdg rfl (hK _ _ _ _ h H locs cells slots ls ρ hr hL hw.tl.tl.i ha hN)
    case idiv =>
      obtain ⟨hq0, h'⟩ := iv_n h
      clear h; subst hq0; have h := h'; clear h'
      obtain ⟨y, st2, hq0, h'⟩ := iv_pI h
      clear h; subst hq0; have h := h'; clear h'
      obtain ⟨x, st3, hq0, h'⟩ := iv_pI h
      clear h; subst hq0; have h := h'; clear h'
      obtain ⟨h0, h⟩ := iv_ite2 h
      intro H locs cells slots ls ρ hr hL hw ha hN
      exact lv_idiv X.1 X.2.1 hdg h0 (hK _ _ _ _ h H locs cells slots ls ρ hr hL hw.tl.tl.i ha hN)
    case irem =>
      obtain ⟨hq0, h'⟩ := iv_n h
      clear h; subst hq0; have h := h'; clear h'
      obtain ⟨y, st2, hq0, h'⟩ := iv_pI h
      clear h; subst hq0; have h := h'; clear h'
      obtain ⟨x, st3, hq0, h'⟩ := iv_pI h
      clear h; subst hq0; have h := h'; clear h'
      obtain ⟨h0, h⟩ := iv_ite2 h
      intro H locs cells slots ls ρ hr hL hw ha hN
      exact lv_irem X.1 X.2.1 hdg h0 (hK _ _ _ _ h H locs cells slots ls ρ hr hL hw.tl.tl.i ha hN)
    case ladd =>
      obtain ⟨hq0, h'⟩ := iv_n h
      clear h; subst hq0; have h := h'; clear h'
      obtain ⟨y, st2, hq0, h'⟩ := iv_pL h
      clear h; subst hq0; have h := h'; clear h'
      obtain ⟨x, st3, hq0, h'⟩ := iv_pL h
      clear h; subst hq0; have h := h'; clear h'
      intro H locs cells slots ls ρ hr hL hw ha hN
      exact lv_ladd X.1 X.2.1 hdg (hK _ _ _ _ h H locs cells slots ls ρ hr hL hw.tl.tl.l ha hN)
    case lsub =>
      obtain ⟨hq0, h'⟩ := iv_n h
      clear h; subst hq0; have h := h'; clear h'
      obtain ⟨y, st2, hq0, h'⟩ := iv_pL h
      clear h; subst hq0; have h := h'; clear h'
      obtain ⟨x, st3, hq0, h'⟩ := iv_pL h
      clear h; subst hq0; have h := h'; clear h'
      intro H locs cells slots ls ρ hr hL hw ha hN
      exact lv_lsub X.1 X.2.1 hdg (hK _ _ _ _ h H locs cells slots ls ρ hr hL hw.tl.tl.l ha hN)
    case lmul =>
      obtain ⟨hq0, h'⟩ := iv_n h
      clear h; subst hq0; have h := h'; clear h'
      obtain ⟨y, st2, hq0, h'⟩ := iv_pL h
      clear h; subst hq0; have h := h'; clear h'
      obtain ⟨x, st3, hq0, h'⟩ := iv_pL h
      clear h; subst hq0; have h := h'; clear h'
      intro H locs cells slots ls ρ hr hL hw ha hN
      exact lv_lmul X.1 X.2.1 hdg (hK _ _ _ _ h H locs cells slots ls ρ hr hL hw.tl.tl.l ha hN)
    case lcmp =>
      obtain ⟨hq0, h'⟩ := iv_n h
      clear h; subst hq0; have h := h'; clear h'
      obtain ⟨y, st2, hq0, h'⟩ := iv_pL h
      clear h; subst hq0; have h := h'; clear h'
      obtain ⟨x, st3, hq0, h'⟩ := iv_pL h
      clear h; subst hq0; have h := h'; clear h'
      intro H locs cells slots ls ρ hr hL hw ha hN
      exact W.lcmp X.1 X.2.1 hdg (hK _ _ _ _ h H locs cells slots ls ρ hr hL hw.tl.tl.i ha hN)
    case ineg =>
      obtain ⟨hq0, h'⟩ := iv_n h
      clear h; subst hq0; have h := h'; clear h'
      obtain ⟨x, st2, hq0, h'⟩ := iv_pI h
      clear h; subst hq0; have h := h'; clear h'
      intro H locs cells slots ls ρ hr hL hw ha hN
      exact lv_ineg X.1 X.2.1 hdg (hK _ _ _ _ h H locs cells slots ls ρ hr hL hw.tl.i ha hN)
    case i2l =>
      obtain ⟨hq0, h'⟩ := iv_n h
      clear h; subst hq0; have h := h'; clear h'
      obtain ⟨x, st2, hq0, h'⟩ := iv_pI h
      clear h; subst hq0; have h := h'; clear h'
      intro H locs cells slots ls ρ hr hL hw ha hN
      exact lv_i2l X.1 X.2.1 hdg rfl (hK _ _ _ _ h H locs cells slots ls ρ hr hL hw.tl.l ha hN)
    case l2i =>
      obtain ⟨hq0, h'⟩ := iv_n h
      clear h; subst hq0; have h := h'; clear h'
      obtain ⟨x, st2, hq0, h'⟩ := iv_pL h
      clear h; subst hq0; have h := h'; clear h'
      intro H locs cells slots ls ρ hr hL hw ha hN
      exact lv_l2i X.1 X.2.1 hdg rfl (hK _ _ _ _ h H locs cells slots ls ρ hr hL hw.tl.i ha hN)
    case dup =>
      obtain ⟨hq0, h'⟩ := iv_n h
      clear h; subst hq0; have h := h'; clear h'
      intro H locs cells slots ls ρ hr hL hw ha hN
      split at h
      · exact lv_dup X.1 X.2.1 hdg rfl (hK _ _ _ _ h H locs cells slots ls ρ hr hL (hw.cons hw.hd) ha hN)
      · exact lv_dup X.1 X.2.1 hdg rfl (hK _ _ _ _ h H locs cells slots ls ρ hr hL (hw.cons hw.hd) ha hN)
      · cases h
    case dup2 =>
      obtain ⟨hq0, h'⟩ := iv_n h
      clear h; subst hq0; have h := h'; clear h'
      intro H locs cells slots ls ρ hr hL hw ha hN
      split at h
      · exact lv_dup2_11 X.1 X.2.1 hdg rfl rfl (hK _ _ _ _ h H locs cells slots ls ρ hr hL ((hw.cons hw.tl.hd).cons hw.hd) ha hN)
      · exact lv_dup2_2 X.1 X.2.1 hdg rfl (hK _ _ _ _ h H locs cells slots ls ρ hr hL (hw.cons hw.hd) ha hN)
      · cases h
    case pop =>
      obtain ⟨hq0, h'⟩ := iv_n h
      clear h; subst hq0; have h := h'; clear h'
      intro H locs cells slots ls ρ hr hL hw ha hN
      split at h
      · exact lv_pop X.1 X.2.1 hdg rfl (hK _ _ _ _ h H locs cells slots ls ρ hr hL hw.tl ha hN)
      · exact lv_pop X.1 X.2.1 hdg rfl (hK _ _ _ _ h H locs cells slots ls ρ hr hL hw.tl ha hN)
      · cases h
    case ifCond co off =>
      obtain ⟨hq0, h'⟩ := iv_n h
      clear h; subst hq0; have h := h'; clear h'
      obtain ⟨x, st2, hq0, h'⟩ := iv_pI h
      clear h; subst hq0; have h := h'; clear h'
      obtain ⟨t, ht, h⟩ := iv_tg h
      intro H locs cells slots ls ρ hr hL hw ha hN
      have hc := cond_spec h
      cases co
      case eq => exact lv_if_eq X.1 X.2.1 hdg ht (fun q => hK _ _ _ _ (hc.1 q) H locs cells slots ls ρ hr hL hw.tl ha hN) (fun q => hK _ _ _ _ (hc.2 q) H locs cells slots ls ρ hr hL hw.tl ha hN)
      case ne => exact lv_if_ne X.1 X.2.1 hdg ht (fun q => hK _ _ _ _ (hc.1 q) H locs cells slots ls ρ hr hL hw.tl ha hN) (fun q => hK _ _ _ _ (hc.2 q) H locs cells slots ls ρ hr hL hw.tl ha hN)
      case lt => exact lv_if_lt X.1 X.2.1 hdg ht (fun q => hK _ _ _ _ (hc.1 q) H locs cells slots ls ρ hr hL hw.tl ha hN) (fun q => hK _ _ _ _ (hc.2 q) H locs cells slots ls ρ hr hL hw.tl ha hN)
      case ge => exact lv_if_ge X.1 X.2.1 hdg ht (fun q => hK _ _ _ _ (hc.1 q) H locs cells slots ls ρ hr hL hw.tl ha hN) (fun q => hK _ _ _ _ (hc.2 q) H locs cells slots ls ρ hr hL hw.tl ha hN)
      case gt => exact lv_if_gt X.1 X.2.1 hdg ht (fun q => hK _ _ _ _ (hc.1 q) H locs cells slots ls ρ hr hL hw.tl ha hN) (fun q => hK _ _ _ _ (hc.2 q) H locs cells slots ls ρ hr hL hw.tl ha hN)
      case le => exact lv_if_le X.1 X.2.1 hdg ht (fun q => hK _ _ _ _ (hc.1 q) H locs cells slots ls ρ hr hL hw.tl ha hN) (fun q => hK _ _ _ _ (hc.2 q) H locs cells slots ls ρ hr hL hw.tl ha hN)
    case if_icmp co off =>
      obtain ⟨hq0, h'⟩ := iv_n h
      clear h; subst hq0; have h := h'; clear h'
      obtain ⟨y, st2, hq0, h'⟩ := iv_pI h
      clear h; subst hq0; have h := h'; clear h'
      obtain ⟨x, st3, hq0, h'⟩ := iv_pI h
      clear h; subst hq0; have h := h'; clear h'
      obtain ⟨t, ht, h⟩ := iv_tg h
      intro H locs cells slots ls ρ hr hL hw ha hN
      have hc := cond_spec h
      cases co
      case eq => exact lv_icmp_eq X.1 X.2.1 hdg ht (fun q => hK _ _ _ _ (hc.1 q) H locs cells slots ls ρ hr hL hw.tl.tl ha hN) (fun q => hK _ _ _ _ (hc.2 q) H locs cells slots ls ρ hr hL hw.tl.tl ha hN)
      case ne => exact lv_icmp_ne X.1 X.2.1 hdg ht (fun q => hK _ _ _ _ (hc.1 q) H locs cells slots ls ρ hr hL hw.tl.tl ha hN) (fun q => hK _ _ _ _ (hc.2 q) H locs cells slots ls ρ hr hL hw.tl.tl ha hN)
      case lt => exact lv_icmp_lt X.1 X.2.1 hdg ht (fun q => hK _ _ _ _ (hc.1 q) H locs cells slots ls ρ hr hL hw.tl.tl ha hN) (fun q => hK _ _ _ _ (hc.2 q) H locs cells slots ls ρ hr hL hw.tl.tl ha hN)
      case ge => exact lv_icmp_ge X.1 X.2.1 hdg ht (fun q => hK _ _ _ _ (hc.1 q) H locs cells slots ls ρ hr hL hw.tl.tl ha hN) (fun q => hK _ _ _ _ (hc.2 q) H locs cells slots ls ρ hr hL hw.tl.tl ha hN)
      case gt => exact lv_icmp_gt X.1 X.2.1 hdg ht (fun q => hK _ _ _ _ (hc.1 q) H locs cells slots ls ρ hr hL hw.tl.tl ha hN) (fun q => hK _ _ _ _ (hc.2 q) H locs cells slots ls ρ hr hL hw.tl.tl ha hN)
      case le => exact lv_icmp_le X.1 X.2.1 hdg ht (fun q => hK _ _ _ _ (hc.1 q) H locs cells slots ls ρ hr hL hw.tl.tl ha hN) (fun q => hK _ _ _ _ (hc.2 q) H locs cells slots ls ρ hr hL hw.tl.tl ha hN)
    case goto off =>
      obtain ⟨hq0, h'⟩ := iv_n h
      clear h; subst hq0; have h := h'; clear h'
      obtain ⟨t, ht, h⟩ := iv_tg h
      intro H locs cells slots ls ρ hr hL hw ha hN
      exact lv_goto X.1 X.2.1 hdg ht (hK _ _ _ _ h H locs cells slots ls ρ hr hL hw ha hN)
    case tableswitch dd lo hib offs =>
      obtain ⟨x, st2, hq0, h'⟩ := iv_pI h
      clear h; subst hq0; have h := h'; clear h'
      intro H locs cells slots ls ρ hr hL hw ha hN
      by_cases hx : x.toInt < lo ∨ hib < x.toInt
      · rw [if_pos hx] at h
        obtain ⟨t, ht, h⟩ := iv_tg h
        exact lv_tableOut X.1 X.2.1 hdg hx ht (hK _ _ _ _ h H locs cells slots ls ρ hr hL hw.tl ha hN)
      · rw [if_neg hx] at h
        split at h
        · rename_i off ho
          obtain ⟨t, ht, h⟩ := iv_tg h
          exact lv_tableIn X.1 X.2.1 hdg (fun z => hx (Or.inl z)) (fun z => hx (Or.inr z)) ho ht (hK _ _ _ _ h H locs cells slots ls ρ hr hL hw.tl ha hN)
        · cases h
    case getfield x =>
      obtain ⟨hq0, h'⟩ := iv_n h
      clear h; subst hq0; have h := h'; clear h'
      obtain ⟨rr, st2, hq0, h'⟩ := iv_pR h
      clear h; subst hq0; have h := h'; clear h'
      split at h
      · rename_i ci k fin hf
        obtain ⟨v, hv, h⟩ := iv_bind h
        obtain ⟨fs, g1, g2⟩ := gI_spec hv
        exact st_get X (jm_fldOk hf) g1 g2 hdg (hK _ _ _ _ h)
      · rename_i ci k fin hf
        obtain ⟨v, hv, h⟩ := iv_bind h
        obtain ⟨fs, g1, g2⟩ := gI_spec hv
        exact st_get X (jm_fldOk hf) g1 g2 hdg (hK _ _ _ _ h)
      · rename_i ci k fin hf
        obtain ⟨v, hv, h⟩ := iv_bind h
        obtain ⟨fs, g1, g2⟩ := gL_spec hv
        exact st_get X (jm_fldOk hf) g1 g2 hdg (hK _ _ _ _ h)
      · rename_i ci k fin hf
        obtain ⟨v, hv, h⟩ := iv_bind h
        obtain ⟨fs, g1, g2⟩ := gR_spec hv
        exact st_get X (jm_fldOk hf) g1 g2 hdg (hK _ _ _ _ h)
      · rename_i ci k fin hf
        obtain ⟨v, hv, h⟩ := iv_bind h
        obtain ⟨fs, g1, g2⟩ := gI_spec hv
        exact st_get X (jm_fldOk hf) g1 g2 hdg (hK _ _ _ _ h)
      · cases h
    case putfield x =>
      obtain ⟨hq0, h'⟩ := iv_n h
      clear h; subst hq0; have h := h'; clear h'
      split at h
      · rename_i ci k kd fin hf
        obtain ⟨hfn, h⟩ := iv_ite2 h
        have hfo := jm_fldOk hf
        split at h
        · obtain ⟨v, st2, hq0, h'⟩ := iv_pI h
          clear h; subst hq0; have h := h'; clear h'
          obtain ⟨rr, st3, hq0, h'⟩ := iv_pR h
          clear h; subst hq0; have h := h'; clear h'
          obtain ⟨m2, hp, h⟩ := iv_bind h
          exact st_put X hfo hfn hp (Or.inl ⟨rfl, _, rfl⟩) hdg (hK _ _ _ _ h)
        · obtain ⟨v, st2, hq0, h'⟩ := iv_pI h
          clear h; subst hq0; have h := h'; clear h'
          obtain ⟨rr, st3, hq0, h'⟩ := iv_pR h
          clear h; subst hq0; have h := h'; clear h'
          obtain ⟨h01, h⟩ := iv_B h
          obtain ⟨m2, hp, h⟩ := iv_bind h
          exact st_put X hfo hfn hp (Or.inr (Or.inl ⟨rfl, h01.elim (fun q => Or.inl (by rw [q])) (fun q => Or.inr (by rw [q]))⟩)) hdg (hK _ _ _ _ h)
        · obtain ⟨v, st2, hq0, h'⟩ := iv_pL h
          clear h; subst hq0; have h := h'; clear h'
          obtain ⟨rr, st3, hq0, h'⟩ := iv_pR h
          clear h; subst hq0; have h := h'; clear h'
          obtain ⟨m2, hp, h⟩ := iv_bind h
          exact st_put X hfo hfn hp (Or.inr (Or.inr (Or.inl ⟨rfl, _, rfl⟩))) hdg (hK _ _ _ _ h)
        · obtain ⟨v, st2, hq0, h'⟩ := iv_pR h
          clear h; subst hq0; have h := h'; clear h'
          obtain ⟨rr, st3, hq0, h'⟩ := iv_pR h
          clear h; subst hq0; have h := h'; clear h'
          obtain ⟨m2, hp, h⟩ := iv_bind h
          exact st_put X hfo hfn hp (Or.inr (Or.inr (Or.inr (Or.inl ⟨rfl, _, rfl⟩)))) hdg (hK _ _ _ _ h)
        · obtain ⟨v, st2, hq0, h'⟩ := iv_pI h
          clear h; subst hq0; have h := h'; clear h'
          obtain ⟨rr, st3, hq0, h'⟩ := iv_pR h
          clear h; subst hq0; have h := h'; clear h'
          obtain ⟨hby, h⟩ := iv_ite h
          obtain ⟨m2, hp, h⟩ := iv_bind h
          exact st_put X hfo hfn hp (Or.inr (Or.inr (Or.inr (Or.inr ⟨rfl, _, rfl, hby⟩)))) hdg (hK _ _ _ _ h)
        · cases h
      · cases h
    case arraylength =>
      obtain ⟨hq0, h'⟩ := iv_n h
      clear h; subst hq0; have h := h'; clear h'
      obtain ⟨rr, st2, hq0, h'⟩ := iv_pR h
      clear h; subst hq0; have h := h'; clear h'
      obtain ⟨k, hk, h⟩ := iv_bind h
      exact st_alen X hk hdg (hK _ _ _ _ h)
    case iaload =>
      obtain ⟨hq0, h'⟩ := iv_n h
      clear h; subst hq0; have h := h'; clear h'
      obtain ⟨i, st2, hq0, h'⟩ := iv_pI h
      clear h; subst hq0; have h := h'; clear h'
      obtain ⟨rr, st3, hq0, h'⟩ := iv_pR h
      clear h; subst hq0; have h := h'; clear h'
      obtain ⟨v, hv, h⟩ := iv_bind h
      exact st_iald X hv hdg (hK _ _ _ _ h)
    case baload =>
      obtain ⟨hq0, h'⟩ := iv_n h
      clear h; subst hq0; have h := h'; clear h'
      obtain ⟨i, st2, hq0, h'⟩ := iv_pI h
      clear h; subst hq0; have h := h'; clear h'
      obtain ⟨rr, st3, hq0, h'⟩ := iv_pR h
      clear h; subst hq0; have h := h'; clear h'
      obtain ⟨v, hv, h⟩ := iv_bind h
      exact st_bald X hv hdg (hK _ _ _ _ h)
    case laload =>
      obtain ⟨hq0, h'⟩ := iv_n h
      clear h; subst hq0; have h := h'; clear h'
      obtain ⟨i, st2, hq0, h'⟩ := iv_pI h
      clear h; subst hq0; have h := h'; clear h'
      obtain ⟨rr, st3, hq0, h'⟩ := iv_pR h
      clear h; subst hq0; have h := h'; clear h'
      obtain ⟨v, hv, h⟩ := iv_bind h
      exact st_lald X hv hdg (hK _ _ _ _ h)
    case aaload =>
      obtain ⟨hq0, h'⟩ := iv_n h
      clear h; subst hq0; have h := h'; clear h'
      obtain ⟨i, st2, hq0, h'⟩ := iv_pI h
      clear h; subst hq0; have h := h'; clear h'
      obtain ⟨rr, st3, hq0, h'⟩ := iv_pR h
      clear h; subst hq0; have h := h'; clear h'
      obtain ⟨v, hv, h⟩ := iv_bind h
      exact st_aald X hv hdg (hK _ _ _ _ h)
    case iastore =>
      obtain ⟨hq0, h'⟩ := iv_n h
      clear h; subst hq0; have h := h'; clear h'
      obtain ⟨v, st2, hq0, h'⟩ := iv_pI h
      clear h; subst hq0; have h := h'; clear h'
      obtain ⟨i, st3, hq0, h'⟩ := iv_pI h
      clear h; subst hq0; have h := h'; clear h'
      obtain ⟨rr, st4, hq0, h'⟩ := iv_pR h
      clear h; subst hq0; have h := h'; clear h'
      obtain ⟨m2, hv, h⟩ := iv_bind h
      exact st_iast X hv hdg (hK _ _ _ _ h)
    case bastore =>
      obtain ⟨hq0, h'⟩ := iv_n h
      clear h; subst hq0; have h := h'; clear h'
      obtain ⟨v, st2, hq0, h'⟩ := iv_pI h
      clear h; subst hq0; have h := h'; clear h'
      obtain ⟨i, st3, hq0, h'⟩ := iv_pI h
      clear h; subst hq0; have h := h'; clear h'
      obtain ⟨rr, st4, hq0, h'⟩ := iv_pR h
      clear h; subst hq0; have h := h'; clear h'
      obtain ⟨m2, hv, h⟩ := iv_bind h
      exact st_bast X hv hdg (hK _ _ _ _ h)
    case lastore =>
      obtain ⟨hq0, h'⟩ := iv_n h
      clear h; subst hq0; have h := h'; clear h'
      obtain ⟨v, st2, hq0, h'⟩ := iv_pL h
      clear h; subst hq0; have h := h'; clear h'
      obtain ⟨i, st3, hq0, h'⟩ := iv_pI h
      clear h; subst hq0; have h := h'; clear h'
      obtain ⟨rr, st4, hq0, h'⟩ := iv_pR h
      clear h; subst hq0; have h := h'; clear h'
      obtain ⟨m2, hv, h⟩ := iv_bind h
      exact st_last X hv hdg (hK _ _ _ _ h)
    case aastore =>
      obtain ⟨hq0, h'⟩ := iv_n h
      clear h; subst hq0; have h := h'; clear h'
      obtain ⟨v, st2, hq0, h'⟩ := iv_pR h
      clear h; subst hq0; have h := h'; clear h'
      obtain ⟨i, st3, hq0, h'⟩ := iv_pI h
      clear h; subst hq0; have h := h'; clear h'
      obtain ⟨rr, st4, hq0, h'⟩ := iv_pR h
      clear h; subst hq0; have h := h'; clear h'
      obtain ⟨m2, hv, h⟩ := iv_bind h
      exact st_aast X hv hdg (hK _ _ _ _ h)
    case new x =>
      obtain ⟨hq0, h'⟩ := iv_n h
      clear h; subst hq0; have h := h'; clear h'
      split at h
      · rename_i ent he
        have hm := List.mem_of_find?_eq_some he
        have hp := List.find?_some he
        have hp : ent.1 = pc := by simpa using hp
        obtain ⟨hsm, h'⟩ := iv_sm h
        exact E5 pc lc st ent.2 m1 (by rw [← hp]; exact hm) hsm (Option.some.inj h').symm
      · split at h
        · rename_i ci fs hf
          obtain ⟨hn, h⟩ := iv_mk h
          have hle := hKm _ _ _ _ _ h
          exact st_new X (jm_clsOk hf) hn hdg (Nat.le_trans hle.2.1 hrm.1) (Nat.le_trans hle.2.2 hrm.2) (hK _ _ _ _ h)
        · cases h
    case newarray a =>
      obtain ⟨hq0, h'⟩ := iv_n h
      clear h; subst hq0; have h := h'; clear h'
      obtain ⟨k, st2, hq0, h'⟩ := iv_pI h
      clear h; subst hq0; have h := h'; clear h'
      obtain ⟨hk, h⟩ := iv_ite2 h
      obtain ⟨z, hz, h⟩ := iv_bind h
      obtain ⟨hn, h⟩ := iv_mk h
      have hle := hKm _ _ _ _ _ h
      exact st_newarr X hoi hk rfl hz hn hdg (Nat.le_trans hle.2.1 hrm.1) (Nat.le_trans hle.2.2 hrm.2) (hK _ _ _ _ h)
    case anewarray x =>
      obtain ⟨hq0, h'⟩ := iv_n h
      clear h; subst hq0; have h := h'; clear h'
      obtain ⟨k, st2, hq0, h'⟩ := iv_pI h
      clear h; subst hq0; have h := h'; clear h'
      obtain ⟨hk, h⟩ := iv_ite2 h
      split at h
      · rename_i t hf
        obtain ⟨hn, h⟩ := iv_mk h
        have hle := hKm _ _ _ _ _ h
        exact st_anew X hk (jm_aclOk hf) hn hdg (Nat.le_trans hle.2.1 hrm.1) (Nat.le_trans hle.2.2 hrm.2) (hK _ _ _ _ h)
      · cases h
    case invokevirtual x =>
      obtain ⟨hq0, h'⟩ := iv_n h
      clear h; subst hq0; have h := h'; clear h'
      split at h <;> first
        | (rename_i hf; exact sim_inv X hR hcl hcs hcm hK hKm E6 hrm (jm_mthOk hf) (jm_mthK hf) ⟨fun _ => hdg, by intro q; exfalso; dsimp only at q; omega, by intro q; exfalso; dsimp only at q; omega, by dsimp only; omega⟩ h)
        | cases h
    case invokestatic x =>
      obtain ⟨hq0, h'⟩ := iv_n h
      clear h; subst hq0; have h := h'; clear h'
      split at h <;> first
        | (rename_i hf; exact sim_inv X hR hcl hcs hcm hK hKm E6 hrm (jm_mthOk hf) (jm_mthK hf) ⟨by intro q; exfalso; dsimp only at q; omega, by intro q; exfalso; dsimp only at q; omega, fun _ => hdg, by dsimp only; omega⟩ h)
        | cases h
    case invokespecial x =>
      obtain ⟨hq0, h'⟩ := iv_n h
      clear h; subst hq0; have h := h'; clear h'
      split at h <;> first
        | (rename_i hf; exact sim_inv X hR hcl hcs hcm hK hKm E6 hrm (jm_mthOk hf) (jm_mthK hf) ⟨by intro q; exfalso; dsimp only at q; omega, fun _ => hdg, by intro q; exfalso; dsimp only at q; omega, by dsimp only; omega⟩ h)
        | cases h
    case ireturn =>
      obtain ⟨hq0, h'⟩ := iv_n h
      clear h; subst hq0; have h := h'; clear h'
      split at h
      · unfold jm_iret at h
        split at h
        · rename_i hm
          exact E1 _ _ _ _ (Option.some.inj h).symm (Or.inl hm) hdg
        · rename_i hm
          obtain ⟨h01, h⟩ := iv_B h
          exact E1 _ _ _ _ (Option.some.inj h).symm (Or.inr (Or.inl ⟨hm, h01⟩)) hdg
        · rename_i hm
          obtain ⟨h01, h⟩ := iv_ite h
          exact E1 _ _ _ _ (Option.some.inj h).symm (Or.inr (Or.inr (Or.inl ⟨hm, h01⟩))) hdg
        · rename_i hm
          obtain ⟨h01, h⟩ := iv_ite h
          exact E1 _ _ _ _ (Option.some.inj h).symm (Or.inr (Or.inr (Or.inr ⟨hm, h01⟩))) hdg
        · cases h
      · cases h
    case lreturn =>
      obtain ⟨hq0, h'⟩ := iv_n h
      clear h; subst hq0; have h := h'; clear h'
      split at h
      · obtain ⟨hm, h⟩ := iv_ite h
        exact E2 _ _ _ _ (Option.some.inj h).symm hm hdg
      · cases h
    case return_ =>
      obtain ⟨hq0, h'⟩ := iv_n h
      clear h; subst hq0; have h := h'; clear h'
      split at h
      · rename_i hm
        exact E4 _ _ _ (Option.some.inj h).symm hm hdg
      · cases h
    case ior =>
      obtain ⟨hq0, h'⟩ := iv_n h
      clear h; subst hq0; have h := h'; clear h'
      obtain ⟨y, st2, hq0, h'⟩ := iv_pI h
      clear h; subst hq0; have h := h'; clear h'
      obtain ⟨x, st3, hq0, h'⟩ := iv_pI h
      clear h; subst hq0; have h := h'; clear h'
      intro H locs cells slots ls ρ hr hL hw ha hN
      exact lv_ior X.1 X.2.1 hdg (hK _ _ _ _ h H locs cells slots ls ρ hr hL hw.tl.tl.i ha hN)
    case i2b =>
      obtain ⟨hq0, h'⟩ := iv_n h
      clear h; subst hq0; have h := h'; clear h'
      obtain ⟨x, st2, hq0, h'⟩ := iv_pI h
      clear h; subst hq0; have h := h'; clear h'
      intro H locs cells slots ls ρ hr hL hw ha hN
      exact lv_i2b X.1 X.2.1 hdg rfl (hK _ _ _ _ h H locs cells slots ls ρ hr hL hw.tl.i ha hN)
    case i2c =>
      obtain ⟨hq0, h'⟩ := iv_n h
      clear h; subst hq0; have h := h'; clear h'
      obtain ⟨x, st2, hq0, h'⟩ := iv_pI h
      clear h; subst hq0; have h := h'; clear h'
      obtain ⟨hx, h⟩ := iv_ite h
      intro H locs cells slots ls ρ hr hL hw ha hN
      exact lv_i2c X.1 X.2.1 hdg (i2c_of hx) (hK _ _ _ _ h H locs cells slots ls ρ hr hL hw.tl.i ha hN)
    case aconst_null =>
      obtain ⟨hq0, h'⟩ := iv_n h
      clear h; subst hq0; have h := h'; clear h'
      intro H locs cells slots ls ρ hr hL hw ha hN
      exact lv_null X.1 X.2.1 hdg (hK _ _ _ _ h H locs cells slots ls ρ hr hL (hw.cons trivial) ha hN)
    case dup_x1 =>
      obtain ⟨hq0, h'⟩ := iv_n h
      clear h; subst hq0; have h := h'; clear h'
      intro H locs cells slots ls ρ hr hL hw ha hN
      split at h
      · exact lv_dup_x1 X.1 X.2.1 hdg rfl rfl (hK _ _ _ _ h H locs cells slots ls ρ hr hL ((hw.tl.tl.cons hw.hd).cons hw.tl.hd |>.cons hw.hd) ha hN)
      · exact lv_dup_x1 X.1 X.2.1 hdg rfl rfl (hK _ _ _ _ h H locs cells slots ls ρ hr hL ((hw.tl.tl.cons hw.hd).cons hw.tl.hd |>.cons hw.hd) ha hN)
      · cases h
    case if_acmp co off =>
      obtain ⟨hq0, h'⟩ := iv_n h
      clear h; subst hq0; have h := h'; clear h'
      obtain ⟨y, st2, hq0, h'⟩ := iv_pR h
      clear h; subst hq0; have h := h'; clear h'
      obtain ⟨x, st3, hq0, h'⟩ := iv_pR h
      clear h; subst hq0; have h := h'; clear h'
      obtain ⟨hxy, h2⟩ := iv_ite h
      clear h
      subst hxy
      cases co
      case ne => exact absurd hoi Bool.false_ne_true
      case eq =>
        obtain ⟨t, ht, h⟩ := iv_tg h2
        intro H locs cells slots ls ρ hr hL hw ha hN
        exact lv_acmp_eq (rx := some (ρ x)) (ry := some (ρ x)) X.1 X.2.1 hdg ht (fun _ => hK _ _ _ _ h H locs cells slots ls ρ hr hL hw.tl.tl ha hN) (fun z => absurd rfl z)
    case ifnonnull off =>
      obtain ⟨hq0, h'⟩ := iv_n h
      clear h; subst hq0; have h := h'; clear h'
      obtain ⟨x, st2, hq0, h'⟩ := iv_pR h
      clear h; subst hq0; have h := h'; clear h'
      obtain ⟨t, ht, h⟩ := iv_tg h
      intro H locs cells slots ls ρ hr hL hw ha hN
      exact lv_ifnonnull X.1 X.2.1 hdg ht (hK _ _ _ _ h H locs cells slots ls ρ hr hL hw.tl ha hN)
    case getstatic x =>
      obtain ⟨hq0, h'⟩ := iv_n h
      clear h; subst hq0; have h := h'; clear h'
      split at h
      · rename_i v hf
        exact st_gets X (jm_gstOk hf) hdg (hK _ _ _ _ h)
      · cases h
    case checkcast x =>
      obtain ⟨hq0, h'⟩ := iv_n h
      clear h; subst hq0; have h := h'; clear h'
      obtain ⟨rr, st2, hq0, h'⟩ := iv_pR h
      clear h; subst hq0; have h := h'; clear h'
      split at h
      · rename_i k hf
        obtain ⟨hc, h⟩ := iv_ite h
        exact st_cast X (jm_casOk hf) hc hdg (hK _ _ _ _ h)
      · cases h
    case areturn =>
      obtain ⟨hq0, h'⟩ := iv_n h
      clear h; subst hq0; have h := h'; clear h'
      split at h
      · unfold jm_aret at h
        split at h
        · rename_i C hm
          exact E3 _ _ _ _ (Option.some.inj h).symm (Or.inl ⟨C, hm⟩) hdg
        · rename_i C hm
          exact E3 _ _ _ _ (Option.some.inj h).symm (Or.inr ⟨C, hm⟩) hdg
        · cases h
      · cases h
    case invokeinterface x k =>
      obtain ⟨hq0, h'⟩ := iv_n h
      clear h; subst hq0; have h := h'; clear h'
      split at h
      · rename_i hf
        obtain ⟨hk, h⟩ := iv_ite h
        exact sim_inv3 X hR hcs hcm hK hKm hrm (jm_mthOk hf) hdg h
      · cases h
    all_goals first | exact absurd hoi Bool.false_ne_true | cases h
end STP
