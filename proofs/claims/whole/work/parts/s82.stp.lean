/-! The whole step. -/
section STP
variable {p : Program} {l : Launch} {e : Env} {R : Room} {s : State} {m : MethodId} {args : Array Value} {below : List Frame} {meth : Method} {c : Code} {D : va_G} {tys : List (ClassId × FieldType)} {A : Nat → Prop} {S : jm_Sp} {c0 s0 : Nat} {ρ0 : Nat → Nat} {N0 : Nat} {M : jm_Meth} {Q : State → Prop} {pc : Nat} {lc : jm_Loc} {st : List Value} {m1 : jm_Mem} {d : Nat} {r : jm_Res} {K : jm_K} {call : jm_Call}
/-- what holds where a method ends -/
def jm_En (p : Program) (l : Launch) (e : Env) (R : Room) (s : State) (m : MethodId) (args : Array Value) (below : List Frame) (meth : Method) (c : Code) (D : va_G) (tys : List (ClassId × FieldType)) (A : Nat → Prop) (S : jm_Sp) (c0 s0 : Nat) (ρ0 : Nat → Nat) (N0 : Nat) (M : jm_Meth) (Q : State → Prop) (r : jm_Res) : Prop :=
  (∀ pc lc x m2, r = (.inl (some (.int x)), m2) → (jm_mR M = some .int ∨ (jm_mR M = some .boolean ∧ (x = 0 ∨ x = 1))) → decode (jm_mC M) pc = .ok (.ireturn, 1) → jm_At p l e R s m args below meth c D tys A S c0 s0 ρ0 N0 M Q pc lc [.int x] m2) ∧
  (∀ pc lc x m2, r = (.inl (some (.long x)), m2) → jm_mR M = some .long → decode (jm_mC M) pc = .ok (.lreturn, 1) → jm_At p l e R s m args below meth c D tys A S c0 s0 ρ0 N0 M Q pc lc [.long x] m2) ∧
  (∀ pc lc x m2, r = (.inl (some (.double x)), m2) → jm_mR M = some .double → decode (jm_mC M) pc = .ok (.dreturn, 1) → jm_At p l e R s m args below meth c D tys A S c0 s0 ρ0 N0 M Q pc lc [.double x] m2) ∧
  (∀ pc lc m2, r = (.inl none, m2) → jm_mR M = none → decode (jm_mC M) pc = .ok (.return_, 1) → jm_At p l e R s m args below meth c D tys A S c0 s0 ρ0 N0 M Q pc lc [] m2) ∧
  (∀ pc lc st E m2, (pc, E) ∈ jm_mT M → (st.map fun v => v.category).sum ≤ 8 → r = (.inr E, jm_exc m2) → jm_At p l e R s m args below meth c D tys A S c0 s0 ρ0 N0 M Q pc lc st m2) ∧
  (∀ E pc lc m2, jm_mH M = [] → r = (.inr E, m2) → jm_Th p l e R s m args below meth c D tys A S c0 s0 ρ0 N0 M Q E pc lc m2)
theorem i8_of {v : Int} (h : -128 ≤ v ∧ v < 128) : (Int8.ofInt v).toInt32 = Int32.ofInt v := by
  apply Int32.toInt_inj.mp
  rw [Int8.toInt_toInt32, Int8.toInt_ofInt_of_le (by omega) (by omega), Int32.toInt_ofInt_of_le (by omega) (by omega)]
theorem i16_of {v : Int} (h : -32768 ≤ v ∧ v < 32768) : (Int16.ofInt v).toInt32 = Int32.ofInt v := by
  apply Int32.toInt_inj.mp
  rw [Int16.toInt_toInt32, Int16.toInt_ofInt_of_le (by omega) (by omega), Int32.toInt_ofInt_of_le (by omega) (by omega)]
theorem tyL4 : ∀ i, i < 4 → ∃ ty, jm_tyL[i]? = some ty ∧ Cond.arrayClass ty ∈ jm_WW := by
  intro i hi
  match i, hi with
  | 0, _ => exact ⟨_, rfl, ja_I⟩
  | 1, _ => exact ⟨_, rfl, ja_Z⟩
  | 2, _ => exact ⟨_, rfl, ja_J⟩
  | 3, _ => exact ⟨_, rfl, ja_D⟩
  | _ + 4, h => omega
theorem cond_spec {co : Jvm.ClassFile.Cond} {x y : Int32} {a b : Option jm_Res} (h : jm_cond co x y a b = some r) : (match co with | .eq => (x = y → a = some r) ∧ (¬ x = y → b = some r) | .ne => (¬ x = y → a = some r) ∧ (x = y → b = some r) | .lt => (x < y → a = some r) ∧ (¬ x < y → b = some r) | .ge => (y ≤ x → a = some r) ∧ (¬ y ≤ x → b = some r) | .gt => (y < x → a = some r) ∧ (¬ y < x → b = some r) | .le => (x ≤ y → a = some r) ∧ (¬ x ≤ y → b = some r)) := by
  cases co <;> (simp only [jm_cond] at h; constructor <;> intro q <;> simpa [q] using h)
theorem st_ldc {x : Nat} {v : Value} (X : jm_Fx p s m args meth c D tys A S M) (hc : jm_cst (jm_mO M) x = some v) (hnl : ∀ v2, v = .long v2 → False) (hdg : decode (jm_mC M) pc = .ok (.ldc x, 2)) (kk : jm_At p l e R s m args below meth c D tys A S c0 s0 ρ0 N0 M Q (pc + 2) lc (v :: st) m1) : jm_At p l e R s m args below meth c D tys A S c0 s0 ρ0 N0 M Q pc lc st m1 := by
  intro H locs cells slots ls ρ hr hL hw ha hN
  have hk := jm_cstOk hc
  unfold jm_kok at hk
  cases v with
  | int v => exact lv_ldc X.1 X.2.1 X.own (X.ts _ hk) hdg (kk H locs cells slots ls ρ hr hL hw.i ha hN)
  | float v => exact lv_ldcf X.1 X.2.1 X.own (X.ts _ hk) hdg (kk H locs cells slots ls ρ hr hL hw.f ha hN)
  | ref n =>
    obtain ⟨i, hi, rfl, e1, e2⟩ := hk
    have h1 := X.kn.2.2.2.1 i (Nat.lt_trans hi (by decide))
    rw [e1, e2] at h1
    have k2 := kk H locs cells slots ls ρ hr hL (hw.cons (Or.inr (Or.inr ⟨Nat.le_add_right _ _, Nat.add_lt_add_left hi _⟩))) ha hN
    refine va_ldcS X.1 X.2.1 X.own h1 hdg ?_
    have e3 : jm_cv ρ (.ref (jm_str + i)) = .ref (S.2.2.2 i) := by
      show Value.ref (ρ (jm_str + i)) = _
      rw [hr.2.2.2.2.2.2.1.2 i hi]
    rw [List.map_cons, e3] at k2
    exact k2
  | long v => exact (hnl v rfl).elim
  | _ => exact hk.elim
theorem lv_ldcwf (hexec : p.tables.exec = Jvm.exec) {cc : ByteArray} (hb : c.code = cc) {own : String} {index : Nat} {v : UInt32} {H : Heap} {locs : List Loc} {cells slots : Nat} {ls : Array Slot} {rest : List Value} (hown : s.vm.findClass own = some m.cls) (hconst : (Jvm.Cond.constantFloat own index v).before args s = true) (hdg : decode cc pc = .ok (.ldc_w index, 3)) (k : W p l e R s m args below meth c H locs cells slots Q (F0 m (pc + 3) ls (.float v :: rest))) : W p l e R s m args below meth c H locs cells slots Q (F0 m pc ls rest) := by
  intro T hT X
  obtain ⟨t, a, b⟩ := k T hT X
  refine ⟨t, ?_, b⟩
  obtain ⟨k, cf, hk, hcf, hc⟩ := Cond.constantFloat_spec hown hconst
  obtain ⟨k', hk', he⟩ := X.warmed.alike.2.2 _ _ hk
  have hdg' : decode c.code (F0 m pc ls rest).pc = .ok (.ldc_w index, 3) := by rw [hb]; exact hdg
  jvm_step X.here [hexec, hdg', ldc_w.wp_float (s := T) (f := F0 m pc ls rest) X.here.top hk' (by rw [he]; exact hcf) hc]
  exact a
set_option maxHeartbeats 4000000 in
theorem sim_stp (X : jm_Fx p s m args meth c D tys A S M) (hR : jm_Rk d R) (hcl : jm_hcl (jm_mH M)) (hcs : jm_Cs l D tys A S d call) (hcm : jm_cM call) (hK : ∀ pc lc st m2, K pc lc st m2 = some r → jm_At p l e R s m args below meth c D tys A S c0 s0 ρ0 N0 M Q pc lc st m2) (hKm : ∀ pc lc st m2 r', K pc lc st m2 = some r' → jm_le m2 r'.2)
    (hE : jm_En p l e R s m args below meth c D tys A S c0 s0 ρ0 N0 M Q r) (hrm : r.2.2.2.1 ≤ c0 + R.cells ∧ r.2.2.2.2 ≤ s0 + R.slots) (h : jm_stp call M pc lc st m1 K = some r) : jm_At p l e R s m args below meth c D tys A S c0 s0 ρ0 N0 M Q pc lc st m1 := by
  obtain ⟨E1, E2, E3, E4, E5, E6⟩ := hE
  have hao1 : va_AO "PaperLand$Series" s := X.kn.2.2.2.2.2.2.2.2.2.1 _ jo_S
  have hao2 : va_AO "PaperLand$Land" s := X.kn.2.2.2.2.2.2.2.2.2.1 _ jo_L
  unfold jm_stp at h
  cases hi : jm_ins M pc with
  | none => rw [hi] at h; cases h
  | some iv =>
    obtain ⟨i, n⟩ := iv
    rw [hi] at h
    dsimp only at h
    have hdg := X.dc hi
    cases i
    case iconst v =>
      obtain ⟨hq0, h'⟩ := iv_n h
      clear h; subst hq0; have h := h'; clear h'
      intro H locs cells slots ls ρ hr hL hw ha hN
      exact lv_iconst X.1 X.2.1 hdg rfl (hK _ _ _ _ h H locs cells slots ls ρ hr hL hw.i ha hN)
    case bipush v =>
      obtain ⟨hq0, h'⟩ := iv_n h
      clear h; subst hq0; have h := h'; clear h'
      obtain ⟨hv, h⟩ := iv_ite h
      intro H locs cells slots ls ρ hr hL hw ha hN
      exact lv_bipush X.1 X.2.1 hdg (i8_of hv) (hK _ _ _ _ h H locs cells slots ls ρ hr hL hw.i ha hN)
    case sipush v =>
      obtain ⟨hq0, h'⟩ := iv_n h
      clear h; subst hq0; have h := h'; clear h'
      obtain ⟨hv, h⟩ := iv_ite h
      intro H locs cells slots ls ρ hr hL hw ha hN
      exact lv_sipush X.1 X.2.1 hdg (i16_of hv) (hK _ _ _ _ h H locs cells slots ls ρ hr hL hw.i ha hN)
    case lconst v =>
      obtain ⟨hq0, h'⟩ := iv_n h
      clear h; subst hq0; have h := h'; clear h'
      intro H locs cells slots ls ρ hr hL hw ha hN
      exact lv_lconst X.1 X.2.1 hdg rfl (hK _ _ _ _ h H locs cells slots ls ρ hr hL hw.l ha hN)
    case fconst v =>
      obtain ⟨hq0, h'⟩ := iv_n h
      clear h; subst hq0; have h := h'; clear h'
      intro H locs cells slots ls ρ hr hL hw ha hN
      match v, h, hdg with
      | 0, h, hdg => exact lv_fconst0 X.1 X.2.1 hdg (hK _ _ _ _ h H locs cells slots ls ρ hr hL hw.f ha hN)
      | 1, h, hdg => exact lv_fconst1 X.1 X.2.1 hdg (hK _ _ _ _ h H locs cells slots ls ρ hr hL hw.f ha hN)
      | 2, h, hdg => exact lv_fconst2 X.1 X.2.1 hdg (hK _ _ _ _ h H locs cells slots ls ρ hr hL hw.f ha hN)
    case dconst v =>
      obtain ⟨hq0, h'⟩ := iv_n h
      clear h; subst hq0; have h := h'; clear h'
      intro H locs cells slots ls ρ hr hL hw ha hN
      match v, h, hdg with
      | 0, h, hdg => exact lv_dconst0 X.1 X.2.1 hdg (hK _ _ _ _ h H locs cells slots ls ρ hr hL hw.d ha hN)
      | 1, h, hdg => cases h
    case ldc x =>
      obtain ⟨hq0, h'⟩ := iv_n h
      clear h; subst hq0; have h := h'; clear h'
      split at h
      · cases h
      · rename_i v hno hc
        exact st_ldc X hc (fun v2 e => hno v2 e) hdg (hK _ _ _ _ h)
      · cases h
    case ldc_w x =>
      obtain ⟨hq0, h'⟩ := iv_n h
      clear h; subst hq0; have h := h'; clear h'
      split at h
      · rename_i v hc
        intro H locs cells slots ls ρ hr hL hw ha hN
        exact lv_ldcwf X.1 X.2.1 X.own (X.ts _ (jm_cstOk hc)) hdg (hK _ _ _ _ h H locs cells slots ls ρ hr hL hw.f ha hN)
      · cases h
    case ldc2_w x =>
      obtain ⟨hq0, h'⟩ := iv_n h
      clear h; subst hq0; have h := h'; clear h'
      split at h
      · rename_i v hc
        intro H locs cells slots ls ρ hr hL hw ha hN
        exact lv_ldc2 X.1 X.2.1 X.own (X.ts _ (jm_cstOk hc)) hdg (hK _ _ _ _ h H locs cells slots ls ρ hr hL hw.l ha hN)
      · cases h
    case iload_n k =>
      obtain ⟨hq0, h'⟩ := iv_n h
      clear h; subst hq0; have h := h'; clear h'
      obtain ⟨x, hx, h⟩ := iv_lI h
      intro H locs cells slots ls ρ hr hL hw ha hN
      obtain ⟨g1, g2⟩ := hL.2.2.2 _ _ hx
      exact lv_iload_n X.1 X.2.1 hdg rfl g1 (hK _ _ _ _ h H locs cells slots ls ρ hr hL (hw.cons g2) ha hN)
    case iload k =>
      obtain ⟨hq0, h'⟩ := iv_n h
      clear h; subst hq0; have h := h'; clear h'
      obtain ⟨x, hx, h⟩ := iv_lI h
      intro H locs cells slots ls ρ hr hL hw ha hN
      obtain ⟨g1, g2⟩ := hL.2.2.2 _ _ hx
      exact lv_iload X.1 X.2.1 hdg g1 (hK _ _ _ _ h H locs cells slots ls ρ hr hL (hw.cons g2) ha hN)
    case lload_n k =>
      obtain ⟨hq0, h'⟩ := iv_n h
      clear h; subst hq0; have h := h'; clear h'
      obtain ⟨x, hx, h⟩ := iv_lL h
      intro H locs cells slots ls ρ hr hL hw ha hN
      obtain ⟨g1, g2⟩ := hL.2.2.2 _ _ hx
      exact lv_lload_n X.1 X.2.1 hdg rfl g1 (hK _ _ _ _ h H locs cells slots ls ρ hr hL (hw.cons g2) ha hN)
    case lload k =>
      obtain ⟨hq0, h'⟩ := iv_n h
      clear h; subst hq0; have h := h'; clear h'
      obtain ⟨x, hx, h⟩ := iv_lL h
      intro H locs cells slots ls ρ hr hL hw ha hN
      obtain ⟨g1, g2⟩ := hL.2.2.2 _ _ hx
      exact lv_lload X.1 X.2.1 hdg g1 (hK _ _ _ _ h H locs cells slots ls ρ hr hL (hw.cons g2) ha hN)
    case fload_n k =>
      obtain ⟨hq0, h'⟩ := iv_n h
      clear h; subst hq0; have h := h'; clear h'
      obtain ⟨x, hx, h⟩ := iv_lF h
      intro H locs cells slots ls ρ hr hL hw ha hN
      obtain ⟨g1, g2⟩ := hL.2.2.2 _ _ hx
      exact lv_fload_n X.1 X.2.1 hdg rfl g1 (hK _ _ _ _ h H locs cells slots ls ρ hr hL (hw.cons g2) ha hN)
    case dload k =>
      obtain ⟨hq0, h'⟩ := iv_n h
      clear h; subst hq0; have h := h'; clear h'
      obtain ⟨x, hx, h⟩ := iv_lD h
      intro H locs cells slots ls ρ hr hL hw ha hN
      obtain ⟨g1, g2⟩ := hL.2.2.2 _ _ hx
      exact lv_dload X.1 X.2.1 hdg g1 (hK _ _ _ _ h H locs cells slots ls ρ hr hL (hw.cons g2) ha hN)
    case aload_n k =>
      obtain ⟨hq0, h'⟩ := iv_n h
      clear h; subst hq0; have h := h'; clear h'
      obtain ⟨x, hx, h⟩ := iv_lR h
      intro H locs cells slots ls ρ hr hL hw ha hN
      obtain ⟨g1, g2⟩ := hL.2.2.2 _ _ hx
      exact lv_aload_n X.1 X.2.1 hdg rfl g1 (hK _ _ _ _ h H locs cells slots ls ρ hr hL (hw.cons g2) ha hN)
    case aload k =>
      obtain ⟨hq0, h'⟩ := iv_n h
      clear h; subst hq0; have h := h'; clear h'
      obtain ⟨x, hx, h⟩ := iv_lR h
      intro H locs cells slots ls ρ hr hL hw ha hN
      obtain ⟨g1, g2⟩ := hL.2.2.2 _ _ hx
      exact lv_aload X.1 X.2.1 hdg g1 (hK _ _ _ _ h H locs cells slots ls ρ hr hL (hw.cons g2) ha hN)
    case istore_n k =>
      obtain ⟨hq0, h'⟩ := iv_n h
      clear h; subst hq0; have h := h'; clear h'
      obtain ⟨hk, h⟩ := iv_in h
      obtain ⟨x, st2, hq0, h'⟩ := iv_pI h
      clear h; subst hq0; have h := h'; clear h'
      intro H locs cells slots ls ρ hr hL hw ha hN
      refine lv_istore_n (lv := jm_prs ρ lc) X.1 X.2.1 hdg rfl hL.has (by rw [← hL.1]; exact hk) rfl (fun ls' h' => ?_)
      exact hK _ _ _ _ h H locs cells slots ls' ρ hr (hL.st1 (v := .int x) hw.hd h') hw.tl ha hN
    case istore k =>
      obtain ⟨hq0, h'⟩ := iv_n h
      clear h; subst hq0; have h := h'; clear h'
      obtain ⟨hk, h⟩ := iv_in h
      obtain ⟨x, st2, hq0, h'⟩ := iv_pI h
      clear h; subst hq0; have h := h'; clear h'
      intro H locs cells slots ls ρ hr hL hw ha hN
      refine lv_istore (lv := jm_prs ρ lc) X.1 X.2.1 hdg hL.has (by rw [← hL.1]; exact hk) rfl (fun ls' h' => ?_)
      exact hK _ _ _ _ h H locs cells slots ls' ρ hr (hL.st1 (v := .int x) hw.hd h') hw.tl ha hN
    case fstore_n k =>
      obtain ⟨hq0, h'⟩ := iv_n h
      clear h; subst hq0; have h := h'; clear h'
      obtain ⟨hk, h⟩ := iv_in h
      obtain ⟨x, st2, hq0, h'⟩ := iv_pF h
      clear h; subst hq0; have h := h'; clear h'
      intro H locs cells slots ls ρ hr hL hw ha hN
      refine lv_fstore_n (lv := jm_prs ρ lc) X.1 X.2.1 hdg rfl hL.has (by rw [← hL.1]; exact hk) rfl (fun ls' h' => ?_)
      exact hK _ _ _ _ h H locs cells slots ls' ρ hr (hL.st1 (v := .float x) hw.hd h') hw.tl ha hN
    case astore_n k =>
      obtain ⟨hq0, h'⟩ := iv_n h
      clear h; subst hq0; have h := h'; clear h'
      obtain ⟨hk, h⟩ := iv_in h
      obtain ⟨x, st2, hq0, h'⟩ := iv_pR h
      clear h; subst hq0; have h := h'; clear h'
      intro H locs cells slots ls ρ hr hL hw ha hN
      refine lv_astore_n (lv := jm_prs ρ lc) X.1 X.2.1 hdg rfl hL.has (by rw [← hL.1]; exact hk) rfl (fun ls' h' => ?_)
      exact hK _ _ _ _ h H locs cells slots ls' ρ hr (hL.st1 (v := .ref x) hw.hd h') hw.tl ha hN
    case astore k =>
      obtain ⟨hq0, h'⟩ := iv_n h
      clear h; subst hq0; have h := h'; clear h'
      obtain ⟨hk, h⟩ := iv_in h
      obtain ⟨x, st2, hq0, h'⟩ := iv_pR h
      clear h; subst hq0; have h := h'; clear h'
      intro H locs cells slots ls ρ hr hL hw ha hN
      refine lv_astore (lv := jm_prs ρ lc) X.1 X.2.1 hdg hL.has (by rw [← hL.1]; exact hk) rfl (fun ls' h' => ?_)
      exact hK _ _ _ _ h H locs cells slots ls' ρ hr (hL.st1 (v := .ref x) hw.hd h') hw.tl ha hN
    case lstore_n k =>
      obtain ⟨hq0, h'⟩ := iv_n h
      clear h; subst hq0; have h := h'; clear h'
      obtain ⟨hk, h⟩ := iv_in h
      obtain ⟨x, st2, hq0, h'⟩ := iv_pL h
      clear h; subst hq0; have h := h'; clear h'
      intro H locs cells slots ls ρ hr hL hw ha hN
      refine lv_lstore_n (lv := jm_prs ρ lc) X.1 X.2.1 hdg rfl hL.has (by rw [← hL.1]; exact hk) rfl (fun ls' h' => ?_)
      exact hK _ _ _ _ h H locs cells slots ls' ρ hr (hL.st2 (v := .long x) hw.hd h') hw.tl ha hN
    case lstore k =>
      obtain ⟨hq0, h'⟩ := iv_n h
      clear h; subst hq0; have h := h'; clear h'
      obtain ⟨hk, h⟩ := iv_in h
      obtain ⟨x, st2, hq0, h'⟩ := iv_pL h
      clear h; subst hq0; have h := h'; clear h'
      intro H locs cells slots ls ρ hr hL hw ha hN
      refine lv_lstore (lv := jm_prs ρ lc) X.1 X.2.1 hdg hL.has (by rw [← hL.1]; exact hk) rfl (fun ls' h' => ?_)
      exact hK _ _ _ _ h H locs cells slots ls' ρ hr (hL.st2 (v := .long x) hw.hd h') hw.tl ha hN
    case dstore k =>
      obtain ⟨hq0, h'⟩ := iv_n h
      clear h; subst hq0; have h := h'; clear h'
      obtain ⟨hk, h⟩ := iv_in h
      obtain ⟨x, st2, hq0, h'⟩ := iv_pD h
      clear h; subst hq0; have h := h'; clear h'
      intro H locs cells slots ls ρ hr hL hw ha hN
      refine lv_dstore (lv := jm_prs ρ lc) X.1 X.2.1 hdg hL.has (by rw [← hL.1]; exact hk) rfl (fun ls' h' => ?_)
      exact hK _ _ _ _ h H locs cells slots ls' ρ hr (hL.st2 (v := .double x) hw.hd h') hw.tl ha hN
    case iinc k v =>
      obtain ⟨hq0, h'⟩ := iv_n h
      clear h; subst hq0; have h := h'; clear h'
      obtain ⟨hk, h⟩ := iv_in h
      obtain ⟨x, hx, h⟩ := iv_lI h
      intro H locs cells slots ls ρ hr hL hw ha hN
      obtain ⟨q, hq⟩ := List.getElem?_of_mem (jm_prs_mem (ρ := ρ) (q := (k, .int x)).mpr ⟨_, hx, rfl⟩)
      refine lv_iinc (lv := jm_prs ρ lc) X.1 X.2.1 hdg hL.has hq rfl (by rw [← hL.1]; exact hk) rfl (fun ls' h' => ?_)
      exact hK _ _ _ _ h H locs cells slots ls' ρ hr (hL.st1 (v := .int (x + Int32.ofInt v)) trivial h') hw ha hN
    case iadd =>
      obtain ⟨hq0, h'⟩ := iv_n h
      clear h; subst hq0; have h := h'; clear h'
      obtain ⟨y, st2, hq0, h'⟩ := iv_pI h
      clear h; subst hq0; have h := h'; clear h'
      obtain ⟨x, st3, hq0, h'⟩ := iv_pI h
      clear h; subst hq0; have h := h'; clear h'
      intro H locs cells slots ls ρ hr hL hw ha hN
      exact lv_iadd X.1 X.2.1 hdg (hK _ _ _ _ h H locs cells slots ls ρ hr hL hw.tl.tl.i ha hN)
    case isub =>
      obtain ⟨hq0, h'⟩ := iv_n h
      clear h; subst hq0; have h := h'; clear h'
      obtain ⟨y, st2, hq0, h'⟩ := iv_pI h
      clear h; subst hq0; have h := h'; clear h'
      obtain ⟨x, st3, hq0, h'⟩ := iv_pI h
      clear h; subst hq0; have h := h'; clear h'
      intro H locs cells slots ls ρ hr hL hw ha hN
      exact lv_isub X.1 X.2.1 hdg (hK _ _ _ _ h H locs cells slots ls ρ hr hL hw.tl.tl.i ha hN)
    case imul =>
      obtain ⟨hq0, h'⟩ := iv_n h
      clear h; subst hq0; have h := h'; clear h'
      obtain ⟨y, st2, hq0, h'⟩ := iv_pI h
      clear h; subst hq0; have h := h'; clear h'
      obtain ⟨x, st3, hq0, h'⟩ := iv_pI h
      clear h; subst hq0; have h := h'; clear h'
      intro H locs cells slots ls ρ hr hL hw ha hN
      exact lv_imul X.1 X.2.1 hdg (hK _ _ _ _ h H locs cells slots ls ρ hr hL hw.tl.tl.i ha hN)
    case iand =>
      obtain ⟨hq0, h'⟩ := iv_n h
      clear h; subst hq0; have h := h'; clear h'
      obtain ⟨y, st2, hq0, h'⟩ := iv_pI h
      clear h; subst hq0; have h := h'; clear h'
      obtain ⟨x, st3, hq0, h'⟩ := iv_pI h
      clear h; subst hq0; have h := h'; clear h'
      intro H locs cells slots ls ρ hr hL hw ha hN
      exact lv_iand X.1 X.2.1 hdg (hK _ _ _ _ h H locs cells slots ls ρ hr hL hw.tl.tl.i ha hN)
    case ixor =>
      obtain ⟨hq0, h'⟩ := iv_n h
      clear h; subst hq0; have h := h'; clear h'
      obtain ⟨y, st2, hq0, h'⟩ := iv_pI h
      clear h; subst hq0; have h := h'; clear h'
      obtain ⟨x, st3, hq0, h'⟩ := iv_pI h
      clear h; subst hq0; have h := h'; clear h'
      intro H locs cells slots ls ρ hr hL hw ha hN
      exact lv_ixor X.1 X.2.1 hdg (hK _ _ _ _ h H locs cells slots ls ρ hr hL hw.tl.tl.i ha hN)
    case ishl =>
      obtain ⟨hq0, h'⟩ := iv_n h
      clear h; subst hq0; have h := h'; clear h'
      obtain ⟨y, st2, hq0, h'⟩ := iv_pI h
      clear h; subst hq0; have h := h'; clear h'
      obtain ⟨x, st3, hq0, h'⟩ := iv_pI h
      clear h; subst hq0; have h := h'; clear h'
      intro H locs cells slots ls ρ hr hL hw ha hN
      exact lv_ishl X.1 X.2.1 hdg (hK _ _ _ _ h H locs cells slots ls ρ hr hL hw.tl.tl.i ha hN)
    case ishr =>
      obtain ⟨hq0, h'⟩ := iv_n h
      clear h; subst hq0; have h := h'; clear h'
      obtain ⟨y, st2, hq0, h'⟩ := iv_pI h
      clear h; subst hq0; have h := h'; clear h'
      obtain ⟨x, st3, hq0, h'⟩ := iv_pI h
      clear h; subst hq0; have h := h'; clear h'
      intro H locs cells slots ls ρ hr hL hw ha hN
      exact lv_ishr X.1 X.2.1 hdg (hK _ _ _ _ h H locs cells slots ls ρ hr hL hw.tl.tl.i ha hN)
    case iushr =>
      obtain ⟨hq0, h'⟩ := iv_n h
      clear h; subst hq0; have h := h'; clear h'
      obtain ⟨y, st2, hq0, h'⟩ := iv_pI h
      clear h; subst hq0; have h := h'; clear h'
      obtain ⟨x, st3, hq0, h'⟩ := iv_pI h
      clear h; subst hq0; have h := h'; clear h'
      intro H locs cells slots ls ρ hr hL hw ha hN
      exact lv_iushr X.1 X.2.1 hdg rfl (hK _ _ _ _ h H locs cells slots ls ρ hr hL hw.tl.tl.i ha hN)
    case idiv =>
      obtain ⟨hq0, h'⟩ := iv_n h
      clear h; subst hq0; have h := h'; clear h'
      obtain ⟨y, st2, hq0, h'⟩ := iv_pI h
      clear h; subst hq0; have h := h'; clear h'
      obtain ⟨x, st3, hq0, h'⟩ := iv_pI h
      clear h; subst hq0; have h := h'; clear h'
      obtain ⟨h0, h⟩ := iv_ite2 h
      intro H locs cells slots ls ρ hr hL hw ha hN
      exact lv_idiv X.1 X.2.1 hdg h0 (hK _ _ _ _ h H locs cells slots ls ρ hr hL hw.tl.tl.i ha hN)
    case irem =>
      obtain ⟨hq0, h'⟩ := iv_n h
      clear h; subst hq0; have h := h'; clear h'
      obtain ⟨y, st2, hq0, h'⟩ := iv_pI h
      clear h; subst hq0; have h := h'; clear h'
      obtain ⟨x, st3, hq0, h'⟩ := iv_pI h
      clear h; subst hq0; have h := h'; clear h'
      obtain ⟨h0, h⟩ := iv_ite2 h
      intro H locs cells slots ls ρ hr hL hw ha hN
      exact lv_irem X.1 X.2.1 hdg h0 (hK _ _ _ _ h H locs cells slots ls ρ hr hL hw.tl.tl.i ha hN)
    case ladd =>
      obtain ⟨hq0, h'⟩ := iv_n h
      clear h; subst hq0; have h := h'; clear h'
      obtain ⟨y, st2, hq0, h'⟩ := iv_pL h
      clear h; subst hq0; have h := h'; clear h'
      obtain ⟨x, st3, hq0, h'⟩ := iv_pL h
      clear h; subst hq0; have h := h'; clear h'
      intro H locs cells slots ls ρ hr hL hw ha hN
      exact lv_ladd X.1 X.2.1 hdg (hK _ _ _ _ h H locs cells slots ls ρ hr hL hw.tl.tl.l ha hN)
    case lsub =>
      obtain ⟨hq0, h'⟩ := iv_n h
      clear h; subst hq0; have h := h'; clear h'
      obtain ⟨y, st2, hq0, h'⟩ := iv_pL h
      clear h; subst hq0; have h := h'; clear h'
      obtain ⟨x, st3, hq0, h'⟩ := iv_pL h
      clear h; subst hq0; have h := h'; clear h'
      intro H locs cells slots ls ρ hr hL hw ha hN
      exact lv_lsub X.1 X.2.1 hdg (hK _ _ _ _ h H locs cells slots ls ρ hr hL hw.tl.tl.l ha hN)
    case lmul =>
      obtain ⟨hq0, h'⟩ := iv_n h
      clear h; subst hq0; have h := h'; clear h'
      obtain ⟨y, st2, hq0, h'⟩ := iv_pL h
      clear h; subst hq0; have h := h'; clear h'
      obtain ⟨x, st3, hq0, h'⟩ := iv_pL h
      clear h; subst hq0; have h := h'; clear h'
      intro H locs cells slots ls ρ hr hL hw ha hN
      exact lv_lmul X.1 X.2.1 hdg (hK _ _ _ _ h H locs cells slots ls ρ hr hL hw.tl.tl.l ha hN)
    case ldiv =>
      obtain ⟨hq0, h'⟩ := iv_n h
      clear h; subst hq0; have h := h'; clear h'
      obtain ⟨y, st2, hq0, h'⟩ := iv_pL h
      clear h; subst hq0; have h := h'; clear h'
      obtain ⟨x, st3, hq0, h'⟩ := iv_pL h
      clear h; subst hq0; have h := h'; clear h'
      obtain ⟨h0, h⟩ := iv_ite2 h
      intro H locs cells slots ls ρ hr hL hw ha hN
      exact lv_ldiv X.1 X.2.1 hdg h0 (hK _ _ _ _ h H locs cells slots ls ρ hr hL hw.tl.tl.l ha hN)
    case lcmp =>
      obtain ⟨hq0, h'⟩ := iv_n h
      clear h; subst hq0; have h := h'; clear h'
      obtain ⟨y, st2, hq0, h'⟩ := iv_pL h
      clear h; subst hq0; have h := h'; clear h'
      obtain ⟨x, st3, hq0, h'⟩ := iv_pL h
      clear h; subst hq0; have h := h'; clear h'
      intro H locs cells slots ls ρ hr hL hw ha hN
      exact W.lcmp X.1 X.2.1 hdg (hK _ _ _ _ h H locs cells slots ls ρ hr hL hw.tl.tl.i ha hN)
    case fsub =>
      obtain ⟨hq0, h'⟩ := iv_n h
      clear h; subst hq0; have h := h'; clear h'
      obtain ⟨y, st2, hq0, h'⟩ := iv_pF h
      clear h; subst hq0; have h := h'; clear h'
      obtain ⟨x, st3, hq0, h'⟩ := iv_pF h
      clear h; subst hq0; have h := h'; clear h'
      obtain ⟨h0, h⟩ := iv_n32 h
      intro H locs cells slots ls ρ hr hL hw ha hN
      exact lv_fsub X.1 X.2.1 hdg h0 (hK _ _ _ _ h H locs cells slots ls ρ hr hL hw.tl.tl.f ha hN)
    case fmul =>
      obtain ⟨hq0, h'⟩ := iv_n h
      clear h; subst hq0; have h := h'; clear h'
      obtain ⟨y, st2, hq0, h'⟩ := iv_pF h
      clear h; subst hq0; have h := h'; clear h'
      obtain ⟨x, st3, hq0, h'⟩ := iv_pF h
      clear h; subst hq0; have h := h'; clear h'
      obtain ⟨h0, h⟩ := iv_n32 h
      intro H locs cells slots ls ρ hr hL hw ha hN
      exact lv_fmul X.1 X.2.1 hdg h0 (hK _ _ _ _ h H locs cells slots ls ρ hr hL hw.tl.tl.f ha hN)
    case fdiv =>
      obtain ⟨hq0, h'⟩ := iv_n h
      clear h; subst hq0; have h := h'; clear h'
      obtain ⟨y, st2, hq0, h'⟩ := iv_pF h
      clear h; subst hq0; have h := h'; clear h'
      obtain ⟨x, st3, hq0, h'⟩ := iv_pF h
      clear h; subst hq0; have h := h'; clear h'
      obtain ⟨h0, h⟩ := iv_n32 h
      intro H locs cells slots ls ρ hr hL hw ha hN
      exact lv_fdiv X.1 X.2.1 hdg h0 (hK _ _ _ _ h H locs cells slots ls ρ hr hL hw.tl.tl.f ha hN)
    case ddiv =>
      obtain ⟨hq0, h'⟩ := iv_n h
      clear h; subst hq0; have h := h'; clear h'
      obtain ⟨y, st2, hq0, h'⟩ := iv_pD h
      clear h; subst hq0; have h := h'; clear h'
      obtain ⟨x, st3, hq0, h'⟩ := iv_pD h
      clear h; subst hq0; have h := h'; clear h'
      obtain ⟨h0, h⟩ := iv_n64 h
      intro H locs cells slots ls ρ hr hL hw ha hN
      exact lv_ddiv X.1 X.2.1 hdg h0 (hK _ _ _ _ h H locs cells slots ls ρ hr hL hw.tl.tl.d ha hN)
    case fcmp op =>
      obtain ⟨hq0, h'⟩ := iv_n h
      clear h; subst hq0; have h := h'; clear h'
      obtain ⟨y, st2, hq0, h'⟩ := iv_pF h
      clear h; subst hq0; have h := h'; clear h'
      obtain ⟨x, st3, hq0, h'⟩ := iv_pF h
      clear h; subst hq0; have h := h'; clear h'
      intro H locs cells slots ls ρ hr hL hw ha hN
      exact lv_fcmp X.1 X.2.1 hdg (hK _ _ _ _ h H locs cells slots ls ρ hr hL hw.tl.tl.i ha hN)
    case dcmp op =>
      obtain ⟨hq0, h'⟩ := iv_n h
      clear h; subst hq0; have h := h'; clear h'
      obtain ⟨y, st2, hq0, h'⟩ := iv_pD h
      clear h; subst hq0; have h := h'; clear h'
      obtain ⟨x, st3, hq0, h'⟩ := iv_pD h
      clear h; subst hq0; have h := h'; clear h'
      intro H locs cells slots ls ρ hr hL hw ha hN
      exact lv_dcmp X.1 X.2.1 hdg (hK _ _ _ _ h H locs cells slots ls ρ hr hL hw.tl.tl.i ha hN)
    case ineg =>
      obtain ⟨hq0, h'⟩ := iv_n h
      clear h; subst hq0; have h := h'; clear h'
      obtain ⟨x, st2, hq0, h'⟩ := iv_pI h
      clear h; subst hq0; have h := h'; clear h'
      intro H locs cells slots ls ρ hr hL hw ha hN
      exact lv_ineg X.1 X.2.1 hdg (hK _ _ _ _ h H locs cells slots ls ρ hr hL hw.tl.i ha hN)
    case lneg =>
      obtain ⟨hq0, h'⟩ := iv_n h
      clear h; subst hq0; have h := h'; clear h'
      obtain ⟨x, st2, hq0, h'⟩ := iv_pL h
      clear h; subst hq0; have h := h'; clear h'
      intro H locs cells slots ls ρ hr hL hw ha hN
      exact lv_lneg X.1 X.2.1 hdg (hK _ _ _ _ h H locs cells slots ls ρ hr hL hw.tl.l ha hN)
    case i2l =>
      obtain ⟨hq0, h'⟩ := iv_n h
      clear h; subst hq0; have h := h'; clear h'
      obtain ⟨x, st2, hq0, h'⟩ := iv_pI h
      clear h; subst hq0; have h := h'; clear h'
      intro H locs cells slots ls ρ hr hL hw ha hN
      exact lv_i2l X.1 X.2.1 hdg rfl (hK _ _ _ _ h H locs cells slots ls ρ hr hL hw.tl.l ha hN)
    case l2i =>
      obtain ⟨hq0, h'⟩ := iv_n h
      clear h; subst hq0; have h := h'; clear h'
      obtain ⟨x, st2, hq0, h'⟩ := iv_pL h
      clear h; subst hq0; have h := h'; clear h'
      intro H locs cells slots ls ρ hr hL hw ha hN
      exact lv_l2i X.1 X.2.1 hdg rfl (hK _ _ _ _ h H locs cells slots ls ρ hr hL hw.tl.i ha hN)
    case l2f =>
      obtain ⟨hq0, h'⟩ := iv_n h
      clear h; subst hq0; have h := h'; clear h'
      obtain ⟨x, st2, hq0, h'⟩ := iv_pL h
      clear h; subst hq0; have h := h'; clear h'
      intro H locs cells slots ls ρ hr hL hw ha hN
      exact lv_l2f X.1 X.2.1 hdg (hK _ _ _ _ h H locs cells slots ls ρ hr hL hw.tl.f ha hN)
    case i2d =>
      obtain ⟨hq0, h'⟩ := iv_n h
      clear h; subst hq0; have h := h'; clear h'
      obtain ⟨x, st2, hq0, h'⟩ := iv_pI h
      clear h; subst hq0; have h := h'; clear h'
      intro H locs cells slots ls ρ hr hL hw ha hN
      exact lv_i2d X.1 X.2.1 hdg (hK _ _ _ _ h H locs cells slots ls ρ hr hL hw.tl.d ha hN)
    case l2d =>
      obtain ⟨hq0, h'⟩ := iv_n h
      clear h; subst hq0; have h := h'; clear h'
      obtain ⟨x, st2, hq0, h'⟩ := iv_pL h
      clear h; subst hq0; have h := h'; clear h'
      intro H locs cells slots ls ρ hr hL hw ha hN
      exact lv_l2d X.1 X.2.1 hdg (hK _ _ _ _ h H locs cells slots ls ρ hr hL hw.tl.d ha hN)
    case f2i =>
      obtain ⟨hq0, h'⟩ := iv_n h
      clear h; subst hq0; have h := h'; clear h'
      obtain ⟨x, st2, hq0, h'⟩ := iv_pF h
      clear h; subst hq0; have h := h'; clear h'
      intro H locs cells slots ls ρ hr hL hw ha hN
      exact lv_f2i X.1 X.2.1 hdg (hK _ _ _ _ h H locs cells slots ls ρ hr hL hw.tl.i ha hN)
    case dup =>
      obtain ⟨hq0, h'⟩ := iv_n h
      clear h; subst hq0; have h := h'; clear h'
      intro H locs cells slots ls ρ hr hL hw ha hN
      split at h
      · exact lv_dup X.1 X.2.1 hdg rfl (hK _ _ _ _ h H locs cells slots ls ρ hr hL (hw.cons hw.hd) ha hN)
      · exact lv_dup X.1 X.2.1 hdg rfl (hK _ _ _ _ h H locs cells slots ls ρ hr hL (hw.cons hw.hd) ha hN)
      · cases h
    case dup2 =>
      obtain ⟨hq0, h'⟩ := iv_n h
      clear h; subst hq0; have h := h'; clear h'
      intro H locs cells slots ls ρ hr hL hw ha hN
      split at h
      · exact lv_dup2_11 X.1 X.2.1 hdg rfl rfl (hK _ _ _ _ h H locs cells slots ls ρ hr hL ((hw.cons hw.tl.hd).cons hw.hd) ha hN)
      · exact lv_dup2_2 X.1 X.2.1 hdg rfl (hK _ _ _ _ h H locs cells slots ls ρ hr hL (hw.cons hw.hd) ha hN)
      · cases h
    case pop =>
      obtain ⟨hq0, h'⟩ := iv_n h
      clear h; subst hq0; have h := h'; clear h'
      intro H locs cells slots ls ρ hr hL hw ha hN
      split at h
      · exact lv_pop X.1 X.2.1 hdg rfl (hK _ _ _ _ h H locs cells slots ls ρ hr hL hw.tl ha hN)
      · exact lv_pop X.1 X.2.1 hdg rfl (hK _ _ _ _ h H locs cells slots ls ρ hr hL hw.tl ha hN)
      · cases h
    case ifCond co off =>
      obtain ⟨hq0, h'⟩ := iv_n h
      clear h; subst hq0; have h := h'; clear h'
      obtain ⟨x, st2, hq0, h'⟩ := iv_pI h
      clear h; subst hq0; have h := h'; clear h'
      obtain ⟨t, ht, h⟩ := iv_tg h
      intro H locs cells slots ls ρ hr hL hw ha hN
      have hc := cond_spec h
      cases co
      case eq => exact lv_if_eq X.1 X.2.1 hdg ht (fun q => hK _ _ _ _ (hc.1 q) H locs cells slots ls ρ hr hL hw.tl ha hN) (fun q => hK _ _ _ _ (hc.2 q) H locs cells slots ls ρ hr hL hw.tl ha hN)
      case ne => exact lv_if_ne X.1 X.2.1 hdg ht (fun q => hK _ _ _ _ (hc.1 q) H locs cells slots ls ρ hr hL hw.tl ha hN) (fun q => hK _ _ _ _ (hc.2 q) H locs cells slots ls ρ hr hL hw.tl ha hN)
      case lt => exact lv_if_lt X.1 X.2.1 hdg ht (fun q => hK _ _ _ _ (hc.1 q) H locs cells slots ls ρ hr hL hw.tl ha hN) (fun q => hK _ _ _ _ (hc.2 q) H locs cells slots ls ρ hr hL hw.tl ha hN)
      case ge => exact lv_if_ge X.1 X.2.1 hdg ht (fun q => hK _ _ _ _ (hc.1 q) H locs cells slots ls ρ hr hL hw.tl ha hN) (fun q => hK _ _ _ _ (hc.2 q) H locs cells slots ls ρ hr hL hw.tl ha hN)
      case gt => exact lv_if_gt X.1 X.2.1 hdg ht (fun q => hK _ _ _ _ (hc.1 q) H locs cells slots ls ρ hr hL hw.tl ha hN) (fun q => hK _ _ _ _ (hc.2 q) H locs cells slots ls ρ hr hL hw.tl ha hN)
      case le => exact lv_if_le X.1 X.2.1 hdg ht (fun q => hK _ _ _ _ (hc.1 q) H locs cells slots ls ρ hr hL hw.tl ha hN) (fun q => hK _ _ _ _ (hc.2 q) H locs cells slots ls ρ hr hL hw.tl ha hN)
    case if_icmp co off =>
      obtain ⟨hq0, h'⟩ := iv_n h
      clear h; subst hq0; have h := h'; clear h'
      obtain ⟨y, st2, hq0, h'⟩ := iv_pI h
      clear h; subst hq0; have h := h'; clear h'
      obtain ⟨x, st3, hq0, h'⟩ := iv_pI h
      clear h; subst hq0; have h := h'; clear h'
      obtain ⟨t, ht, h⟩ := iv_tg h
      intro H locs cells slots ls ρ hr hL hw ha hN
      have hc := cond_spec h
      cases co
      case eq => exact lv_icmp_eq X.1 X.2.1 hdg ht (fun q => hK _ _ _ _ (hc.1 q) H locs cells slots ls ρ hr hL hw.tl.tl ha hN) (fun q => hK _ _ _ _ (hc.2 q) H locs cells slots ls ρ hr hL hw.tl.tl ha hN)
      case ne => exact lv_icmp_ne X.1 X.2.1 hdg ht (fun q => hK _ _ _ _ (hc.1 q) H locs cells slots ls ρ hr hL hw.tl.tl ha hN) (fun q => hK _ _ _ _ (hc.2 q) H locs cells slots ls ρ hr hL hw.tl.tl ha hN)
      case lt => exact lv_icmp_lt X.1 X.2.1 hdg ht (fun q => hK _ _ _ _ (hc.1 q) H locs cells slots ls ρ hr hL hw.tl.tl ha hN) (fun q => hK _ _ _ _ (hc.2 q) H locs cells slots ls ρ hr hL hw.tl.tl ha hN)
      case ge => exact lv_icmp_ge X.1 X.2.1 hdg ht (fun q => hK _ _ _ _ (hc.1 q) H locs cells slots ls ρ hr hL hw.tl.tl ha hN) (fun q => hK _ _ _ _ (hc.2 q) H locs cells slots ls ρ hr hL hw.tl.tl ha hN)
      case gt => exact lv_icmp_gt X.1 X.2.1 hdg ht (fun q => hK _ _ _ _ (hc.1 q) H locs cells slots ls ρ hr hL hw.tl.tl ha hN) (fun q => hK _ _ _ _ (hc.2 q) H locs cells slots ls ρ hr hL hw.tl.tl ha hN)
      case le => exact lv_icmp_le X.1 X.2.1 hdg ht (fun q => hK _ _ _ _ (hc.1 q) H locs cells slots ls ρ hr hL hw.tl.tl ha hN) (fun q => hK _ _ _ _ (hc.2 q) H locs cells slots ls ρ hr hL hw.tl.tl ha hN)
    case goto off =>
      obtain ⟨hq0, h'⟩ := iv_n h
      clear h; subst hq0; have h := h'; clear h'
      obtain ⟨t, ht, h⟩ := iv_tg h
      intro H locs cells slots ls ρ hr hL hw ha hN
      exact lv_goto X.1 X.2.1 hdg ht (hK _ _ _ _ h H locs cells slots ls ρ hr hL hw ha hN)
    case tableswitch dd lo hib offs =>
      obtain ⟨x, st2, hq0, h'⟩ := iv_pI h
      clear h; subst hq0; have h := h'; clear h'
      intro H locs cells slots ls ρ hr hL hw ha hN
      by_cases hx : x.toInt < lo ∨ hib < x.toInt
      · rw [if_pos hx] at h
        obtain ⟨t, ht, h⟩ := iv_tg h
        exact lv_tableOut X.1 X.2.1 hdg hx ht (hK _ _ _ _ h H locs cells slots ls ρ hr hL hw.tl ha hN)
      · rw [if_neg hx] at h
        split at h
        · rename_i off ho
          obtain ⟨t, ht, h⟩ := iv_tg h
          exact lv_tableIn X.1 X.2.1 hdg (fun z => hx (Or.inl z)) (fun z => hx (Or.inr z)) ho ht (hK _ _ _ _ h H locs cells slots ls ρ hr hL hw.tl ha hN)
        · cases h
    case getfield x =>
      obtain ⟨hq0, h'⟩ := iv_n h
      clear h; subst hq0; have h := h'; clear h'
      obtain ⟨rr, st2, hq0, h'⟩ := iv_pR h
      clear h; subst hq0; have h := h'; clear h'
      split at h
      · rename_i ci k fin hf
        obtain ⟨v, hv, h⟩ := iv_bind h
        obtain ⟨fs, g1, g2⟩ := gI_spec hv
        exact st_get X (jm_fldOk hf) g1 g2 hdg (hK _ _ _ _ h)
      · rename_i ci k fin hf
        obtain ⟨v, hv, h⟩ := iv_bind h
        obtain ⟨fs, g1, g2⟩ := gI_spec hv
        exact st_get X (jm_fldOk hf) g1 g2 hdg (hK _ _ _ _ h)
      · rename_i ci k fin hf
        obtain ⟨v, hv, h⟩ := iv_bind h
        obtain ⟨fs, g1, g2⟩ := gL_spec hv
        exact st_get X (jm_fldOk hf) g1 g2 hdg (hK _ _ _ _ h)
      · rename_i ci k fin hf
        obtain ⟨v, hv, h⟩ := iv_bind h
        obtain ⟨fs, g1, g2⟩ := gR_spec hv
        exact st_get X (jm_fldOk hf) g1 g2 hdg (hK _ _ _ _ h)
      · cases h
    case putfield x =>
      obtain ⟨hq0, h'⟩ := iv_n h
      clear h; subst hq0; have h := h'; clear h'
      split at h
      · rename_i ci k kd fin hf
        obtain ⟨hfn, h⟩ := iv_ite2 h
        have hfo := jm_fldOk hf
        split at h
        · obtain ⟨v, st2, hq0, h'⟩ := iv_pI h
          clear h; subst hq0; have h := h'; clear h'
          obtain ⟨rr, st3, hq0, h'⟩ := iv_pR h
          clear h; subst hq0; have h := h'; clear h'
          obtain ⟨m2, hp, h⟩ := iv_bind h
          exact st_put X hfo hfn hp (Or.inl ⟨rfl, _, rfl⟩) hdg (hK _ _ _ _ h)
        · obtain ⟨v, st2, hq0, h'⟩ := iv_pI h
          clear h; subst hq0; have h := h'; clear h'
          obtain ⟨rr, st3, hq0, h'⟩ := iv_pR h
          clear h; subst hq0; have h := h'; clear h'
          obtain ⟨h01, h⟩ := iv_B h
          obtain ⟨m2, hp, h⟩ := iv_bind h
          exact st_put X hfo hfn hp (Or.inr (Or.inl ⟨rfl, h01.elim (fun q => Or.inl (by rw [q])) (fun q => Or.inr (by rw [q]))⟩)) hdg (hK _ _ _ _ h)
        · obtain ⟨v, st2, hq0, h'⟩ := iv_pL h
          clear h; subst hq0; have h := h'; clear h'
          obtain ⟨rr, st3, hq0, h'⟩ := iv_pR h
          clear h; subst hq0; have h := h'; clear h'
          obtain ⟨m2, hp, h⟩ := iv_bind h
          exact st_put X hfo hfn hp (Or.inr (Or.inr (Or.inl ⟨rfl, _, rfl⟩))) hdg (hK _ _ _ _ h)
        · obtain ⟨v, st2, hq0, h'⟩ := iv_pR h
          clear h; subst hq0; have h := h'; clear h'
          obtain ⟨rr, st3, hq0, h'⟩ := iv_pR h
          clear h; subst hq0; have h := h'; clear h'
          obtain ⟨m2, hp, h⟩ := iv_bind h
          exact st_put X hfo hfn hp (Or.inr (Or.inr (Or.inr ⟨rfl, _, rfl⟩))) hdg (hK _ _ _ _ h)
        · cases h
      · cases h
    case arraylength =>
      obtain ⟨hq0, h'⟩ := iv_n h
      clear h; subst hq0; have h := h'; clear h'
      obtain ⟨rr, st2, hq0, h'⟩ := iv_pR h
      clear h; subst hq0; have h := h'; clear h'
      obtain ⟨k, hk, h⟩ := iv_bind h
      exact st_alen X hk hdg (hK _ _ _ _ h)
    case iaload =>
      obtain ⟨hq0, h'⟩ := iv_n h
      clear h; subst hq0; have h := h'; clear h'
      obtain ⟨i, st2, hq0, h'⟩ := iv_pI h
      clear h; subst hq0; have h := h'; clear h'
      obtain ⟨rr, st3, hq0, h'⟩ := iv_pR h
      clear h; subst hq0; have h := h'; clear h'
      obtain ⟨v, hv, h⟩ := iv_bind h
      exact st_iald X hv hdg (hK _ _ _ _ h)
    case baload =>
      obtain ⟨hq0, h'⟩ := iv_n h
      clear h; subst hq0; have h := h'; clear h'
      obtain ⟨i, st2, hq0, h'⟩ := iv_pI h
      clear h; subst hq0; have h := h'; clear h'
      obtain ⟨rr, st3, hq0, h'⟩ := iv_pR h
      clear h; subst hq0; have h := h'; clear h'
      obtain ⟨v, hv, h⟩ := iv_bind h
      exact st_bald X hv hdg (hK _ _ _ _ h)
    case laload =>
      obtain ⟨hq0, h'⟩ := iv_n h
      clear h; subst hq0; have h := h'; clear h'
      obtain ⟨i, st2, hq0, h'⟩ := iv_pI h
      clear h; subst hq0; have h := h'; clear h'
      obtain ⟨rr, st3, hq0, h'⟩ := iv_pR h
      clear h; subst hq0; have h := h'; clear h'
      obtain ⟨v, hv, h⟩ := iv_bind h
      exact st_lald X hv hdg (hK _ _ _ _ h)
    case daload =>
      obtain ⟨hq0, h'⟩ := iv_n h
      clear h; subst hq0; have h := h'; clear h'
      obtain ⟨i, st2, hq0, h'⟩ := iv_pI h
      clear h; subst hq0; have h := h'; clear h'
      obtain ⟨rr, st3, hq0, h'⟩ := iv_pR h
      clear h; subst hq0; have h := h'; clear h'
      obtain ⟨v, hv, h⟩ := iv_bind h
      exact st_dald X hv hdg (hK _ _ _ _ h)
    case aaload =>
      obtain ⟨hq0, h'⟩ := iv_n h
      clear h; subst hq0; have h := h'; clear h'
      obtain ⟨i, st2, hq0, h'⟩ := iv_pI h
      clear h; subst hq0; have h := h'; clear h'
      obtain ⟨rr, st3, hq0, h'⟩ := iv_pR h
      clear h; subst hq0; have h := h'; clear h'
      obtain ⟨v, hv, h⟩ := iv_bind h
      exact st_aald X hv hdg (hK _ _ _ _ h)
    case iastore =>
      obtain ⟨hq0, h'⟩ := iv_n h
      clear h; subst hq0; have h := h'; clear h'
      obtain ⟨v, st2, hq0, h'⟩ := iv_pI h
      clear h; subst hq0; have h := h'; clear h'
      obtain ⟨i, st3, hq0, h'⟩ := iv_pI h
      clear h; subst hq0; have h := h'; clear h'
      obtain ⟨rr, st4, hq0, h'⟩ := iv_pR h
      clear h; subst hq0; have h := h'; clear h'
      obtain ⟨m2, hv, h⟩ := iv_bind h
      exact st_iast X hv hdg (hK _ _ _ _ h)
    case bastore =>
      obtain ⟨hq0, h'⟩ := iv_n h
      clear h; subst hq0; have h := h'; clear h'
      obtain ⟨v, st2, hq0, h'⟩ := iv_pI h
      clear h; subst hq0; have h := h'; clear h'
      obtain ⟨i, st3, hq0, h'⟩ := iv_pI h
      clear h; subst hq0; have h := h'; clear h'
      obtain ⟨rr, st4, hq0, h'⟩ := iv_pR h
      clear h; subst hq0; have h := h'; clear h'
      obtain ⟨m2, hv, h⟩ := iv_bind h
      exact st_bast X hv hdg (hK _ _ _ _ h)
    case lastore =>
      obtain ⟨hq0, h'⟩ := iv_n h
      clear h; subst hq0; have h := h'; clear h'
      obtain ⟨v, st2, hq0, h'⟩ := iv_pL h
      clear h; subst hq0; have h := h'; clear h'
      obtain ⟨i, st3, hq0, h'⟩ := iv_pI h
      clear h; subst hq0; have h := h'; clear h'
      obtain ⟨rr, st4, hq0, h'⟩ := iv_pR h
      clear h; subst hq0; have h := h'; clear h'
      obtain ⟨m2, hv, h⟩ := iv_bind h
      exact st_last X hv hdg (hK _ _ _ _ h)
    case dastore =>
      obtain ⟨hq0, h'⟩ := iv_n h
      clear h; subst hq0; have h := h'; clear h'
      obtain ⟨v, st2, hq0, h'⟩ := iv_pD h
      clear h; subst hq0; have h := h'; clear h'
      obtain ⟨i, st3, hq0, h'⟩ := iv_pI h
      clear h; subst hq0; have h := h'; clear h'
      obtain ⟨rr, st4, hq0, h'⟩ := iv_pR h
      clear h; subst hq0; have h := h'; clear h'
      obtain ⟨m2, hv, h⟩ := iv_bind h
      exact st_dast X hv hdg (hK _ _ _ _ h)
    case aastore =>
      obtain ⟨hq0, h'⟩ := iv_n h
      clear h; subst hq0; have h := h'; clear h'
      obtain ⟨v, st2, hq0, h'⟩ := iv_pR h
      clear h; subst hq0; have h := h'; clear h'
      obtain ⟨i, st3, hq0, h'⟩ := iv_pI h
      clear h; subst hq0; have h := h'; clear h'
      obtain ⟨rr, st4, hq0, h'⟩ := iv_pR h
      clear h; subst hq0; have h := h'; clear h'
      obtain ⟨m2, hv, h⟩ := iv_bind h
      exact st_aast X hv hdg (hK _ _ _ _ h)
    case new x =>
      obtain ⟨hq0, h'⟩ := iv_n h
      clear h; subst hq0; have h := h'; clear h'
      split at h
      · rename_i ent he
        have hm := List.mem_of_find?_eq_some he
        have hp := List.find?_some he
        have hp : ent.1 = pc := by simpa using hp
        obtain ⟨hsm, h'⟩ := iv_sm h
        exact E5 pc lc st ent.2 m1 (by rw [← hp]; exact hm) hsm (Option.some.inj h').symm
      · split at h
        · rename_i ci fs hf
          obtain ⟨hn, h⟩ := iv_mk h
          have hle := hKm _ _ _ _ _ h
          exact st_new X (jm_clsOk hf) hn hdg (Nat.le_trans hle.2.1 hrm.1) (Nat.le_trans hle.2.2 hrm.2) (hK _ _ _ _ h)
        · cases h
    case newarray a =>
      obtain ⟨hq0, h'⟩ := iv_n h
      clear h; subst hq0; have h := h'; clear h'
      obtain ⟨k, st2, hq0, h'⟩ := iv_pI h
      clear h; subst hq0; have h := h'; clear h'
      obtain ⟨hk, h⟩ := iv_ite2 h
      obtain ⟨z, hz, h⟩ := iv_bind h
      obtain ⟨hn, h⟩ := iv_mk h
      have hle := hKm _ _ _ _ _ h
      exact st_newarr X hk rfl hz hn hdg (Nat.le_trans hle.2.1 hrm.1) (Nat.le_trans hle.2.2 hrm.2) tyL4 (hK _ _ _ _ h)
    case anewarray x =>
      obtain ⟨hq0, h'⟩ := iv_n h
      clear h; subst hq0; have h := h'; clear h'
      obtain ⟨k, st2, hq0, h'⟩ := iv_pI h
      clear h; subst hq0; have h := h'; clear h'
      obtain ⟨hk, h⟩ := iv_ite2 h
      split at h
      · rename_i t hf
        obtain ⟨hn, h⟩ := iv_mk h
        have hle := hKm _ _ _ _ _ h
        exact st_anew X hk (jm_aclOk hf) hn hdg (Nat.le_trans hle.2.1 hrm.1) (Nat.le_trans hle.2.2 hrm.2) hao1 hao2 (hK _ _ _ _ h)
      · cases h
    case invokevirtual x =>
      obtain ⟨hq0, h'⟩ := iv_n h
      clear h; subst hq0; have h := h'; clear h'
      split at h <;> first
        | (rename_i hf; exact sim_inv X hR hcl hcs hcm hK hKm E6 hrm (jm_mthOk hf) ⟨fun _ => hdg, by intro q; exfalso; dsimp only at q; omega, by intro q; exfalso; dsimp only at q; omega⟩ h)
        | cases h
    case invokestatic x =>
      obtain ⟨hq0, h'⟩ := iv_n h
      clear h; subst hq0; have h := h'; clear h'
      split at h <;> first
        | (rename_i hf; exact sim_inv X hR hcl hcs hcm hK hKm E6 hrm (jm_mthOk hf) ⟨by intro q; exfalso; dsimp only at q; omega, by intro q; exfalso; dsimp only at q; omega, fun _ => hdg⟩ h)
        | cases h
    case invokespecial x =>
      obtain ⟨hq0, h'⟩ := iv_n h
      clear h; subst hq0; have h := h'; clear h'
      split at h <;> first
        | (rename_i hf; exact sim_inv X hR hcl hcs hcm hK hKm E6 hrm (jm_mthOk hf) ⟨by intro q; exfalso; dsimp only at q; omega, fun _ => hdg, by intro q; exfalso; dsimp only at q; omega⟩ h)
        | cases h
    case ireturn =>
      obtain ⟨hq0, h'⟩ := iv_n h
      clear h; subst hq0; have h := h'; clear h'
      split at h
      · unfold jm_iret at h
        split at h
        · rename_i hm
          exact E1 _ _ _ _ (Option.some.inj h).symm (Or.inl hm) hdg
        · rename_i hm
          obtain ⟨h01, h⟩ := iv_B h
          exact E1 _ _ _ _ (Option.some.inj h).symm (Or.inr ⟨hm, h01⟩) hdg
        · cases h
      · cases h
    case lreturn =>
      obtain ⟨hq0, h'⟩ := iv_n h
      clear h; subst hq0; have h := h'; clear h'
      split at h
      · obtain ⟨hm, h⟩ := iv_ite h
        exact E2 _ _ _ _ (Option.some.inj h).symm hm hdg
      · cases h
    case dreturn =>
      obtain ⟨hq0, h'⟩ := iv_n h
      clear h; subst hq0; have h := h'; clear h'
      split at h
      · obtain ⟨hm, h⟩ := iv_ite h
        exact E3 _ _ _ _ (Option.some.inj h).symm hm hdg
      · cases h
    case return_ =>
      obtain ⟨hq0, h'⟩ := iv_n h
      clear h; subst hq0; have h := h'; clear h'
      split at h
      · rename_i hm
        exact E4 _ _ _ (Option.some.inj h).symm hm hdg
      · cases h
    all_goals cases h
end STP
