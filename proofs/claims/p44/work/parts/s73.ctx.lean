/-! What is known at a method's start; a frame of the small machine in the real one. -/
def jm_IAE : String := "java/lang/IllegalArgumentException"
def jm_ISE : String := "java/lang/IllegalStateException"
def jm_IOB : String := "java/lang/IndexOutOfBoundsException"
def jy_Lsize : MethodName := ⟨"java/util/List", "size", "()I"⟩
def jy_Ladd : MethodName := ⟨"java/util/List", "add", "(Ljava/lang/Object;)Z"⟩
def jy_Lget : MethodName := ⟨"java/util/List", "get", "(I)Ljava/lang/Object;"⟩
def jy_Asize : MethodName := ⟨"java/util/ArrayList", "size", "()I"⟩
def jy_Aadd : MethodName := ⟨"java/util/ArrayList", "add", "(Ljava/lang/Object;)Z"⟩
def jy_Aget : MethodName := ⟨"java/util/ArrayList", "get", "(I)Ljava/lang/Object;"⟩
/-- what is known of the JDK's own objects and tables -/
def jm_Kl (S : jm_Sp) (A : Nat → Prop) (U : State) (H : Heap) : Prop :=
  vb_C (fun k => S.2.2.2 (1000 + k)) A U H ∧
  (va_Z "java/lang/Integer$IntegerCache" "high" "I" (.int 127) A U H ∧ ∃ t : Nat, va_Z "java/lang/Integer$IntegerCache" "cache" "[Ljava/lang/Integer;" (.ref t) A U H ∧ va_T (.object "java/lang/Integer") t 256 (fun j => .ref (S.2.2.2 (1000 + j))) A U H) ∧
  (va_Z "java/util/ArrayList" "DEFAULTCAPACITY_EMPTY_ELEMENTDATA" "[Ljava/lang/Object;" (.ref (S.2.2.2 2000)) A U H ∧ va_T (.object "java/lang/Object") (S.2.2.2 2000) 0 (fun _ => .null) A U H) ∧
  (va_Z "java/lang/Integer" "DigitTens" "[B" (.ref (S.2.2.2 2001)) A U H ∧ va_T .byte (S.2.2.2 2001) 100 (fun j => .int (Int32.ofNat (48 + j / 10))) A U H) ∧
  (va_Z "java/lang/Integer" "DigitOnes" "[B" (.ref (S.2.2.2 2002)) A U H ∧ va_T .byte (S.2.2.2 2002) 100 (fun j => .int (Int32.ofNat (48 + j % 10))) A U H) ∧
  (va_Fw "java/util/ArrayList" jy_Lsize jy_Asize U ∧ va_Fw "java/util/ArrayList" jy_Ladd jy_Aadd U ∧ va_Fw "java/util/ArrayList" jy_Lget jy_Aget U) ∧ ∃ mi : Nat, va_Mi "[Ljava/lang/Object;" mi U
theorem jm_Kl.mv {S : jm_Sp} {A : Nat → Prop} {u U : State} {H H1 : Heap} (h : jm_Kl S A u H) (ha : u.vm.Alike U.vm) (hq : ∀ a : Nat, a < H.size → ¬ A a → H1[a]? = H[a]?) : jm_Kl S A U H1 := by
  obtain ⟨h1, ⟨h2, t, h3, h4⟩, ⟨h5, h6⟩, ⟨h7, h8⟩, ⟨h9, h10⟩, ⟨h11, h12, h13⟩, mi, h14⟩ := h
  exact ⟨vb_C.moved ha (h1.kept hq), ⟨va_Z.moved ha (h2.kept hq), t, va_Z.moved ha (h3.kept hq), va_T.moved ha (h4.kept hq)⟩, ⟨va_Z.moved ha (h5.kept hq), va_T.moved ha (h6.kept hq)⟩, ⟨va_Z.moved ha (h7.kept hq), va_T.moved ha (h8.kept hq)⟩, ⟨va_Z.moved ha (h9.kept hq), va_T.moved ha (h10.kept hq)⟩, ⟨va_Fw.moved (by decide) ha h11, va_Fw.moved (by decide) ha h12, va_Fw.moved (by decide) ha h13⟩, mi, va_Mi.moved ha h14⟩
def jm_Kn (D : va_G) (tys : List (ClassId × FieldType)) (A : Nat → Prop) (S : jm_Sp) (U : State) (H : Heap) : Prop :=
  va_K D vwCl tys U ∧ (va_X S.1 S.2.1 S.2.2.1 U H ∧ S.1 < H.size ∧ ¬ A S.1) ∧ (∃ adV : Nat → Nat, vk_S 12 jm_sL jm_sB S.2.2.2 adV A U H) ∧ (∀ i, i < 12 → vk_R (jm_sO i).1 (jm_sO i).2.1 (jm_sO i).2.2 (S.2.2.2 i) U) ∧
  vx_Zq Bundle.tN "UNASSIGNED_STACK" Bundle.steD A U H ∧ vx_Zq Bundle.tN "SUPPRESSED_SENTINEL" Bundle.listD A U H ∧ va_Z "java/lang/String" "COMPACT_STRINGS" "Z" (.int 1) A U H ∧
  (∀ w ∈ jm_NW, va_Nw w U) ∧ (∀ q, H.size ≤ q → A q) ∧ va_Zq "jdk/internal/util/Preconditions" "SIOOBE_FORMATTER" "Ljava/util/function/BiFunction;" A U H ∧ jm_Kl S A U H
theorem jm_aoMv {ty : FieldType} {u U : State} (ha : u.vm.Alike U.vm) (hn : jm_isN (.arrayOver ty) = true) (g : va_Nw (.arrayOver ty) u) : va_Nw (.arrayOver ty) U := by
  cases ty with
  | object C => exact va_AO.moved ha g
  | _ => cases hn
theorem jm_Kn.mv {D : va_G} {tys : List (ClassId × FieldType)} {A : Nat → Prop} {S : jm_Sp} {u U : State} {H H1 : Heap} (h : jm_Kn D tys A S u H) (hW : u.WarmedH U.vm) (hs : H.size ≤ H1.size) (hq : ∀ a : Nat, a < H.size → ¬ A a → H1[a]? = H[a]?) : jm_Kn D tys A S U H1 := by
  obtain ⟨h1, ⟨h2, h3, h4⟩, ⟨adV, h5⟩, h6, h7, h8, h9, h12, h13, h14, h15⟩ := h
  have ha := hW.alike
  refine ⟨va_K.moved ha h1, ⟨va_X.moved ha (h2.kept (hq _ h3 h4)), Nat.lt_of_lt_of_le h3 hs, h4⟩, ⟨adV, vk_S.moved ha (h5.kept hq)⟩, fun i hi => vk_R.warm hW (h6 i hi), vx_Zq.moved ha (h7.kept hq), vx_Zq.moved ha (h8.kept hq), va_Z.moved ha (h9.kept hq), fun w hw => ?_, fun q z => h13 q (Nat.le_trans hs z), va_Zq.moved ha (h14.kept hq), h15.mv ha hq⟩
  have g := h12 w hw
  have hn : jm_isN w = true := (List.mem_filter.mp hw).2
  cases w <;> first | exact va_Nw.warmF hW g | exact va_Nw.warmM hW g | exact va_Nw.warmC hW g | exact va_Nw.warmD hW g | exact jm_aoMv ha hn g | (exact absurd hn (by decide)) | (simp [jm_isN] at hn)
/-- the array classes, in their order -/
def jm_tyL : List FieldType := [.int, .boolean, .long, .int, .object "PaperLand$Series", .object "PaperLand$Land", .object "java/lang/Object", .int, .int, .byte]
def jm_tyOk (tys : List (ClassId × FieldType)) : Prop := tys.map (fun q => q.2) = jm_tyL
theorem jm_tyAt {tys : List (ClassId × FieldType)} (h : jm_tyOk tys) {t : Nat} {ty : FieldType} (ht : jm_tyL[t]? = some ty) : tys[t]? = some (jm_ct tys t, ty) := by
  have h1 : (tys.map (fun q => q.2))[t]? = some ty := by rw [h]; exact ht
  rw [List.getElem?_map] at h1
  obtain ⟨q, hq, e⟩ := Option.map_eq_some_iff.mp h1
  rw [hq]
  have e2 : jm_ct tys t = q.1 := by simp [jm_ct, List.getD, hq]
  rw [e2, ← e]
/-- the fixed things of a frame of M -/
def jm_Fx (p : Program) (s : State) (m : MethodId) (args : Array Value) (meth : Method) (c : Code) (D : va_G) (tys : List (ClassId × FieldType)) (A : Nat → Prop) (S : jm_Sp) (M : jm_Meth) : Prop :=
  p.tables.exec = Jvm.exec ∧ c.code = jm_mC M ∧ meth.sig.returnType = jm_mR M ∧ c.maxLocals = jm_mL M ∧ s.vm.findClass (jm_cn (jm_mO M)) = some m.cls ∧ (∀ w ∈ jm_WW, w.before args s = true) ∧ meth.locks = false ∧ meth.name = (jm_mY M).name ∧
  c.exceptionTable.toList = [] ∧ jm_Kn D tys A S s s.heap ∧ jm_tyOk tys ∧ jm_dcs (jm_mC M) 0 (jm_mI M) ∧ jm_mL M ≤ 30
/-- the real machine at a point of the small one -/
def jm_At (p : Program) (l : Launch) (e : Env) (R : Room) (s : State) (m : MethodId) (args : Array Value) (below : List Frame) (meth : Method) (c : Code) (D : va_G) (tys : List (ClassId × FieldType)) (A : Nat → Prop) (S : jm_Sp) (c0 s0 : Nat) (ρ0 : Nat → Nat) (N0 : Nat) (M : jm_Meth) (Q : State → Prop) (pc : Nat) (lc : jm_Loc) (st : List Value) (m1 : jm_Mem) : Prop :=
  ∀ (H : Heap) (locs : List Loc) (cells slots : Nat) (ls : Array Slot) (ρ : Nat → Nat), jm_rep D tys A S s.heap c0 s0 ρ m1 H locs cells slots → jm_LV (jm_mL M) ρ m1.1 lc ls → jm_wt m1.1 st → jm_ag N0 ρ0 ρ → N0 ≤ m1.1 → W p l e R s m args below meth c H locs cells slots Q (F0 m pc ls (st.map (jm_cv ρ)))
section ST
variable {p : Program} {l : Launch} {e : Env} {R : Room} {s : State} {m : MethodId} {args : Array Value} {below : List Frame} {meth : Method} {c : Code} {D : va_G} {tys : List (ClassId × FieldType)} {A : Nat → Prop} {S : jm_Sp} {c0 s0 : Nat} {ρ0 : Nat → Nat} {N0 : Nat} {M : jm_Meth} {Q : State → Prop} {pc : Nat} {lc : jm_Loc} {st : List Value} {m1 : jm_Mem}
/-- fields -/
theorem gI_spec {r ci k : Nat} {v : Int32} (h : jm_gI m1 r ci k = some v) : ∃ fs, m1.2.1 r = .inr (ci, fs) ∧ fs[k]? = some (.int v) := by
  unfold jm_gI at h
  split at h
  · rename_i c2 fs he
    split at h
    · rename_i hc
      split at h
      · rename_i x hx
        cases h
        exact ⟨fs, by rw [he, hc], hx⟩
      · cases h
    · cases h
  · cases h
theorem gL_spec {r ci k : Nat} {v : Int64} (h : jm_gL m1 r ci k = some v) : ∃ fs, m1.2.1 r = .inr (ci, fs) ∧ fs[k]? = some (.long v) := by
  unfold jm_gL at h
  split at h
  · rename_i c2 fs he
    split at h
    · rename_i hc
      split at h
      · rename_i x hx
        cases h
        exact ⟨fs, by rw [he, hc], hx⟩
      · cases h
    · cases h
  · cases h
theorem gR_spec {r ci k : Nat} {v : Nat} (h : jm_gR m1 r ci k = some v) : ∃ fs, m1.2.1 r = .inr (ci, fs) ∧ fs[k]? = some (.ref v) := by
  unfold jm_gR at h
  split at h
  · rename_i c2 fs he
    split at h
    · rename_i hc
      split at h
      · rename_i x hx
        cases h
        exact ⟨fs, by rw [he, hc], hx⟩
      · cases h
    · cases h
  · cases h
theorem put_spec {r ci k : Nat} {v : Value} {m2 : jm_Mem} (h : jm_put m1 r ci k v = some m2) : ∃ fs, m1.2.1 r = .inr (ci, fs) ∧ k < fs.length ∧ m2 = jm_up m1 r (.inr (ci, fs.set k v)) := by
  unfold jm_put at h
  split at h
  · rename_i c2 fs he
    split at h
    · rename_i hc
      split at h
      · rename_i hk
        cases h
        subst hc
        exact ⟨fs, he, hk, rfl⟩
      · cases h
    · cases h
  · cases h
theorem vw_lt {ci : Nat} {q : vw_C} (h : vwCl[ci]? = some q) : ci < 18 := (List.getElem?_eq_some_iff.mp h).1
theorem jm_Fx.ts (X : jm_Fx p s m args meth c D tys A S M) : ∀ w ∈ jm_WW, w.before args s = true := X.2.2.2.2.2.1
theorem jm_Fx.own (X : jm_Fx p s m args meth c D tys A S M) : s.vm.findClass (jm_cn (jm_mO M)) = some m.cls := X.2.2.2.2.1
theorem jm_Fx.kn (X : jm_Fx p s m args meth c D tys A S M) : jm_Kn D tys A S s s.heap := X.2.2.2.2.2.2.2.2.2.1
theorem jm_Fx.ty (X : jm_Fx p s m args meth c D tys A S M) : jm_tyOk tys := X.2.2.2.2.2.2.2.2.2.2.1
theorem jm_Fx.dc (X : jm_Fx p s m args meth c D tys A S M) {i : Instr} {n : Nat} (h : jm_ins M pc = some (i, n)) : decode (jm_mC M) pc = .ok (i, n) := (jm_dec X.2.2.2.2.2.2.2.2.2.2.2.1 h).1
theorem jm_Fx.oi (X : jm_Fx p s m args meth c D tys A S M) {i : Instr} {n : Nat} (h : jm_ins M pc = some (i, n)) : jm_okI i = true := (jm_dec X.2.2.2.2.2.2.2.2.2.2.2.1 h).2
theorem jm_Fx.ml (X : jm_Fx p s m args meth c D tys A S M) : c.maxLocals = jm_mL M := X.2.2.2.1
theorem jm_nwB (X : jm_Fx p s m args meth c D tys A S M) {w : Cond} (h : w ∈ jm_NW) (hw : w.onTables = true) : w.before args s = true := va_Nw.use hw (X.kn.2.2.2.2.2.2.2.1 w h)
theorem st_get {x ci k kd : Nat} {fin : Bool} {rr : Nat} {fs : List Value} {v : Value} (X : jm_Fx p s m args meth c D tys A S M) (hf : jm_fok (jm_mO M) (x, ci, k, kd, fin)) (he : m1.2.1 rr = .inr (ci, fs)) (hv : fs[k]? = some v) (hdg : decode (jm_mC M) pc = .ok (.getfield x, 3))
    (kk : jm_At p l e R s m args below meth c D tys A S c0 s0 ρ0 N0 M Q (pc + 3) lc (v :: st) m1) : jm_At p l e R s m args below meth c D tys A S c0 s0 ρ0 N0 M Q pc lc (.ref rr :: st) m1 := by
  intro H locs cells slots ls ρ hr hL hw ha hN
  obtain ⟨C, T, N, ty, rf, hcl, hkN, hcn, hfin, hpd, hkt, hrf, hfc, hlink⟩ := hf
  have hlt := vw_lt hcl
  obtain ⟨h1, h2, h3⟩ := hr.obj he (by have : ci < 18 := hlt; omega)
  obtain ⟨hcn2, hin, ⟨ty0, hty⟩, hnm, hinst, hini⟩ := jm_clOk hcl
  have hv2 : (fs.map (jm_cv ρ))[k]? = some (jm_cv ρ v) := by rw [List.getElem?_map, hv]; rfl
  have hsame : ∀ x, s.fieldFound? (T k).1 (T k).2.1 (T k).2.2.1 = some x → s.fieldFound? rf (T k).2.1 (T k).2.2.1 = some x := fun x h => by
    rcases hrf with e | e
    · have e : rf = (T k).1 := e
      rw [e]; exact h
    · exact u_same (X.ts _ e) x h
  have kk2 := kk H locs cells slots ls ρ hr hL ((hw.tl).cons (h3 v (List.mem_of_getElem? hv))) ha hN
  rcases hlink with hlink | ⟨⟨hs, hlink⟩, -⟩
  · exact va_get (T := T) (N := N) (ci := ci) X.1 X.2.1 X.ts hin X.own X.kn.1 hr.1 rr h2 hcl k hkN (X.ts _ hlink) hsame hv2 hdg kk2
  · exact va_getN (T := T) (N := N) (ci := ci) X.1 X.2.1 X.ts hin X.own X.kn.1 hr.1 rr h2 hcl k hkN (jm_nwB X hlink rfl) hsame hv2 hdg kk2
theorem by_b {x : Int32} (h : jm_by x = true) : -128 ≤ x.toInt ∧ x.toInt < 128 := by
  unfold jm_by at h
  simp only [Bool.and_eq_true, decide_eq_true_eq, Int32.le_iff_toInt_le, Int32.lt_iff_toInt_lt] at h
  have h1 : (-128 : Int32).toInt = -128 := by decide
  have h2 : (128 : Int32).toInt = 128 := by decide
  rw [h1, h2] at h
  exact h
theorem by_n {x : Int32} (h : jm_by x = true) : x.toInt8.toInt32 = x := by
  obtain ⟨h1, h2⟩ := by_b h
  apply Int32.toInt_inj.mp
  rw [Int8.toInt_toInt32, Int32.toInt_toInt8, Int.bmod_eq_of_le (by omega) (by omega)]
def jm_kv (kd : Nat) (v : Value) : Prop := (kd = 0 ∧ ∃ x, v = .int x) ∨ (kd = 1 ∧ (v = .int 0 ∨ v = .int 1)) ∨ (kd = 2 ∧ ∃ x, v = .long x) ∨ (kd = 3 ∧ ∃ x, v = .ref x) ∨ (kd = 4 ∧ ∃ x, v = .int x ∧ jm_by x = true)
theorem jm_kt_nf {kd : Nat} {ty : FieldType} {v : Value} (h : jm_kt kd ty) (hv : jm_kv kd v) : narrow ty v = v ∧ fits ty v = true := by
  rcases hv with ⟨rfl, x, rfl⟩ | ⟨rfl, rfl | rfl⟩ | ⟨rfl, x, rfl⟩ | ⟨rfl, x, rfl⟩ | ⟨rfl, x, rfl, hx⟩
  · have e : ty = .int := h
    subst e; exact ⟨rfl, rfl⟩
  · have e : ty = .boolean := h
    subst e; exact ⟨rfl, rfl⟩
  · have e : ty = .boolean := h
    subst e; exact ⟨rfl, rfl⟩
  · have e : ty = .long := h
    subst e; exact ⟨rfl, rfl⟩
  · exact ⟨h.1 x, h.2 x⟩
  · have e : ty = .byte := h
    subst e
    have e2 : narrow .byte (.int x) = .int x := by
      show Value.int x.toInt8.toInt32 = _
      rw [by_n hx]
    refine ⟨e2, ?_⟩
    obtain ⟨b1, b2⟩ := by_b hx
    have b3 : -128 ≤ x ∧ x ≤ 127 := ⟨Int32.le_iff_toInt_le.mpr (by rw [show (-128 : Int32).toInt = -128 by decide]; exact b1), Int32.le_iff_toInt_le.mpr (by rw [show (127 : Int32).toInt = 127 by decide]; omega)⟩
    simpa [fits] using b3
theorem jm_cv_id {ρ : Nat → Nat} {v : Value} (h : ∀ x, v ≠ .ref x) : jm_cv ρ v = v := by
  cases v <;> first | rfl | exact absurd rfl (h _)
theorem jm_kv_cv {kd : Nat} {v : Value} {ρ : Nat → Nat} (h : jm_kv kd v) : jm_kv kd (jm_cv ρ v) := by
  rcases h with ⟨rfl, x, rfl⟩ | ⟨rfl, rfl | rfl⟩ | ⟨rfl, x, rfl⟩ | ⟨rfl, x, rfl⟩ | ⟨rfl, x, rfl, hx⟩
  · exact Or.inl ⟨rfl, x, rfl⟩
  · exact Or.inr (Or.inl ⟨rfl, Or.inl rfl⟩)
  · exact Or.inr (Or.inl ⟨rfl, Or.inr rfl⟩)
  · exact Or.inr (Or.inr (Or.inl ⟨rfl, x, rfl⟩))
  · exact Or.inr (Or.inr (Or.inr (Or.inl ⟨rfl, _, rfl⟩)))
  · exact Or.inr (Or.inr (Or.inr (Or.inr ⟨rfl, _, rfl, hx⟩)))
theorem st_put {x ci k kd : Nat} {fin : Bool} {rr : Nat} {v : Value} {m2 : jm_Mem} (X : jm_Fx p s m args meth c D tys A S M) (hf : jm_fok (jm_mO M) (x, ci, k, kd, fin)) (hfn : ¬ (fin = true ∧ ¬ ((jm_mY M).name = "<init>" ∧ ci = jm_mO M))) (he : jm_put m1 rr ci k v = some m2)
    (hv : jm_kv kd v) (hdg : decode (jm_mC M) pc = .ok (.putfield x, 3))
    (kk : jm_At p l e R s m args below meth c D tys A S c0 s0 ρ0 N0 M Q (pc + 3) lc st m2) : jm_At p l e R s m args below meth c D tys A S c0 s0 ρ0 N0 M Q pc lc (v :: .ref rr :: st) m1 := by
  intro H locs cells slots ls ρ hr hL hw ha hN
  obtain ⟨fs, he2, hkl, rfl⟩ := put_spec he
  obtain ⟨C, T, N, ty, rf, hcl, hkN, hcn, hfin, hpd, hkt, hrf, hfc, hlink⟩ := hf
  have hlt := vw_lt hcl
  obtain ⟨h1, h2, h3⟩ := hr.obj he2 (by have : ci < 18 := hlt; omega)
  obtain ⟨hcn2, hin, ⟨ty0, hty⟩, hnm, hinst, hini⟩ := jm_clOk hcl
  obtain ⟨hnar, hfit⟩ := jm_kt_nf hkt (jm_kv_cv (ρ := ρ) hv)
  have hsame : ∀ x, s.fieldFound? (T k).1 (T k).2.1 (T k).2.2.1 = some x → s.fieldFound? rf (T k).2.1 (T k).2.2.1 = some x := fun x h => by
    rcases hrf with e | e
    · have e : rf = (T k).1 := e
      rw [e]; exact h
    · exact u_same (X.ts _ e) x h
  have hwv := hw.hd
  have hcE : ∀ (Hn : Heap) (ln : List Loc), va_P D vwCl ((jm_ws ρ tys m1).set rr (ρ rr, .inr (ci, (fs.map (jm_cv ρ)).set k (jm_cv ρ v)))) Hn → va_D A ((jm_ws ρ tys m1).set rr (ρ rr, .inr (ci, (fs.map (jm_cv ρ)).set k (jm_cv ρ v)))) → va_S A s.heap Hn ln → W p l e R s m args below meth c Hn ln cells slots Q (F0 m (pc + 3) ls (st.map (jm_cv ρ))) := by
    intro Hn ln g1 g2 g3
    have e9 : jm_cE ρ tys (.inr (ci, fs.set k v)) = .inr (ci, (fs.map (jm_cv ρ)).set k (jm_cv ρ v)) := by
      show Sum.inr (ci, (fs.set k v).map (jm_cv ρ)) = _
      rw [List.map_set]
    have hw9 : jm_wE m1.1 (.inr (ci, fs.set k v)) := by
      show jm_wt m1.1 (fs.set k v)
      intro w hw8
      rcases List.mem_or_eq_of_mem_set hw8 with z | z
      · exact h3 w z
      · rw [z]; exact hwv
    refine kk Hn ln cells slots ls ρ (hr.wr h1 hw9 (by rw [e9]; exact g1) (by rw [e9]; exact g2) g3) hL ?_ ha hN
    exact hw.tl.tl
  by_cases hfb : fin = true
  · have hq : (jm_mY M).name = "<init>" ∧ ci = jm_mO M := by
      refine Classical.byContradiction fun q => hfn ⟨hfb, q⟩
    have hC1 : (T k).1 = C := hfc hfb
    rcases hlink with hlink | ⟨-, hlink⟩
    · exact va_putF (T := T) (N := N) (ci := ci) X.1 X.2.1 X.ts hin ty0 hty hnm X.own X.kn.1 hr.1 hr.2.1 hr.2.2.1 rr h2 hcl k hkN (X.ts _ hlink) hsame (by rw [hfin]; exact hfb) (by rw [X.2.2.2.2.2.2.2.1]; exact hq.1) (by rw [← hq.2]; exact hC1.trans hcn.symm) hpd hnar hfit (by rw [List.length_map]; exact hkl) hdg hcE
    · exact absurd hq.2 hlink
  · have hfb : fin = false := by cases fin <;> first | rfl | exact absurd rfl hfb
    rcases hlink with hlink | ⟨⟨hs, hlink⟩, -⟩
    · exact va_put (T := T) (N := N) (ci := ci) X.1 X.2.1 X.ts hin ty0 hty hnm X.own X.kn.1 hr.1 hr.2.1 hr.2.2.1 rr h2 hcl k hkN (X.ts _ hlink) hsame (by rw [hfin]; exact hfb) hpd hnar hfit (by rw [List.length_map]; exact hkl) hdg hcE
    · exact va_putN (T := T) (N := N) (ci := ci) X.1 X.2.1 X.ts hin ty0 hty hnm X.own X.kn.1 hr.1 hr.2.1 hr.2.2.1 rr h2 hcl k hkN (jm_nwB X hlink rfl) hsame (by rw [hfin]; exact hfb) hpd hnar hfit (by rw [List.length_map]; exact hkl) hdg hcE
end ST
