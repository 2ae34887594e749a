/-! What the machine's own members do: Object's constructor, Math, arraycopy, String's length and charAt, Float's bits. -/
section JF
variable {l : Launch} {D : va_G} {tys : List (ClassId × FieldType)} {A : Nat → Prop} {S : jm_Sp}
theorem jd_nan_0 : decode prog_16_method_6_code 0 = .ok (.fload_n 0, 1) := by decide +kernel
theorem jd_nan_1 : decode prog_16_method_6_code 1 = .ok (.fload_n 0, 1) := by decide +kernel
theorem jd_nan_2 : decode prog_16_method_6_code 2 = .ok (.fcmp .l, 1) := by decide +kernel
theorem jd_nan_3 : decode prog_16_method_6_code 3 = .ok (.ifCond .eq 7, 3) := by decide +kernel
theorem jd_nan_10 : decode prog_16_method_6_code 10 = .ok (.iconst 0, 1) := by decide +kernel
theorem jd_nan_11 : decode prog_16_method_6_code 11 = .ok (.ireturn, 1) := by decide +kernel
theorem jk_nan {x : UInt32} (h : Op.cmpValue (FP.fcmp x x) .l = 0) : Met l jy_isNaN (Cond.code jy_isNaN prog_16_method_6_code 1 (some .boolean) :: jm_WW) (jk_rm 1 50) (jk_Pc D tys A S [.float x]) (jk_Qi 0) 0 0 (fun _ => False) := by
  refine va_MetF (cc := prog_16_method_6_code) (maxL := 1) (ret := some .boolean) (by decide +kernel) rfl ?_
  intro p e s m args below meth c s₁ B hml hv
  obtain ⟨rfl, hk⟩ := hv
  have hx := B.exec
  have hb := B.bytes
  have hr := B.returns
  have hlocks := B.notSynchronized
  have hS : va_S (fun _ => False) s.heap s.heap [] := va_S.rf
  have hl := lv_entry ([.float x]) (n := 1) (Nat.le_of_ble_eq_true rfl)
  rw [lg_entry_eq]
  generalize (lg_sl ([.float x]) ++ List.replicate (1 - (lg_sl ([.float x])).length) Slot.unset).toArray = ls at hl ⊢
  have hl : lv_has ls 1 [(0, .float x)] := hl
  refine lv_fload_n hx hb jd_nan_0 rfl (lv_at hl 0 rfl) ?_
  refine lv_fload_n hx hb jd_nan_1 rfl (lv_at hl 0 rfl) ?_
  refine lv_fcmp hx hb jd_nan_2 ?_
  refine lv_if_eq (tgt := 10) hx hb jd_nan_3 (by decide) (fun _ => ?_) (fun z => absurd h z)
  refine lv_iconst (v := 0) hx hb jd_nan_10 (by decide) ?_
  exact W.zret hx hb hr rfl (fun t ht hW => ⟨⟨0, (), rfl, rfl, trivial⟩, hS.F ht⟩) hS.2.2 jd_nan_11
theorem jd_fib_0 : decode prog_16_method_24_code 0 = .ok (.fload_n 0, 1) := by decide +kernel
theorem jd_fib_1 : decode prog_16_method_24_code 1 = .ok (.invokestatic 59, 3) := by decide +kernel
theorem jd_fib_4 : decode prog_16_method_24_code 4 = .ok (.ifCond .ne 8, 3) := by decide +kernel
theorem jd_fib_7 : decode prog_16_method_24_code 7 = .ok (.fload_n 0, 1) := by decide +kernel
theorem jd_fib_8 : decode prog_16_method_24_code 8 = .ok (.invokestatic 74, 3) := by decide +kernel
theorem jd_fib_11 : decode prog_16_method_24_code 11 = .ok (.ireturn, 1) := by decide +kernel
theorem jk_fib {x : UInt32} (h : Op.cmpValue (FP.fcmp x x) .l = 0) : Met l jy_f2ib (Cond.code jy_f2ib prog_16_method_24_code 1 (some .int) :: jm_WW) (jk_rm 3 100) (jk_Pc D tys A S [.float x]) (jk_Qi x.toInt32) 0 0 (fun _ => False) := by
  refine va_MetF (cc := prog_16_method_24_code) (maxL := 1) (ret := some .int) (by decide +kernel) rfl ?_
  intro p e s m args below meth c s₁ B hml hv
  obtain ⟨rfl, hk⟩ := hv
  have hx := B.exec
  have hb := B.bytes
  have hr := B.returns
  have hts0 := atoms_spec (ws := Cond.code jy_f2ib prog_16_method_24_code 1 (some .int) :: jm_WW) B.pre
  have hts : ∀ w ∈ jm_WW, w.before _ s = true := fun w hw => hts0 w (List.mem_cons_of_mem _ hw)
  have hown : s.vm.findClass "java/lang/Float" = some m.cls := findClass_of_methodNamed B.named
  have hlocks := B.notSynchronized
  have hS : va_S (fun _ => False) s.heap s.heap [] := va_S.rf
  have hl := lv_entry ([.float x]) (n := 1) (Nat.le_of_ble_eq_true rfl)
  rw [lg_entry_eq]
  generalize (lg_sl ([.float x]) ++ List.replicate (1 - (lg_sl ([.float x])).length) Slot.unset).toArray = ls at hl ⊢
  have hl : lv_has ls 1 [(0, .float x)] := hl
  refine lv_fload_n hx hb jd_fib_0 rfl (lv_at hl 0 rfl) ?_
  refine va_calli (va_runS (As := [.float x]) (rest := []) ⟨hx, hb, hml, hown, hts⟩ (jk_nan (l := l) h) (jm_cS 1 hts jl_isNaN jt_isNaN jb_flo jw_isNaN rfl rfl (by decide +kernel) ⟨Nat.le_of_ble_eq_true rfl, Nat.le_of_ble_eq_true rfl⟩) ⟨jk_blind, fun U hU hW => jk_pre hk hS hU hW⟩ rfl rfl hl.1 rfl (lv_room (Nat.le_of_ble_eq_true rfl)) jd_fib_1 ⟨Nat.le_of_ble_eq_true rfl, Nat.le_of_ble_eq_true rfl⟩) hS (fun q _ h => h) (fun q h => h) (fun r u t H1 locs ht hvm hw hB hz1 hk1 hS => ?_)
  subst hw
  refine lv_if_ne (tgt := 12) hx hb jd_fib_4 (by decide) (fun z => absurd rfl z) (fun _ => ?_)
  refine lv_fload_n hx hb jd_fib_7 rfl (lv_at hl 0 rfl) ?_
  refine vn_f2i hx hb (by rw [hml]; exact hl.1.symm) hown (hts _ jl_raw) (hts _ jn_raw) (hts _ jt_raw) (hts _ jb_flo) (Nat.le_of_ble_eq_true rfl) (Nat.le_of_ble_eq_true rfl) jd_fib_8 ?_
  exact W.iret hx hb hr (fun t ht hW => ⟨⟨_, (), rfl, rfl, trivial⟩, hS.F ht⟩) hS.2.2 jd_fib_11
theorem jd_fmod_0 : decode prog_20_method_50_code 0 = .ok (.iload_n 0, 1) := by decide +kernel
theorem jd_fmod_1 : decode prog_20_method_50_code 1 = .ok (.iload_n 1, 1) := by decide +kernel
theorem jd_fmod_2 : decode prog_20_method_50_code 2 = .ok (.irem, 1) := by decide +kernel
theorem jd_fmod_3 : decode prog_20_method_50_code 3 = .ok (.istore_n 2, 1) := by decide +kernel
theorem jd_fmod_4 : decode prog_20_method_50_code 4 = .ok (.iload_n 0, 1) := by decide +kernel
theorem jd_fmod_5 : decode prog_20_method_50_code 5 = .ok (.iload_n 1, 1) := by decide +kernel
theorem jd_fmod_6 : decode prog_20_method_50_code 6 = .ok (.ixor, 1) := by decide +kernel
theorem jd_fmod_7 : decode prog_20_method_50_code 7 = .ok (.ifCond .ge 11, 3) := by decide +kernel
theorem jd_fmod_10 : decode prog_20_method_50_code 10 = .ok (.iload_n 2, 1) := by decide +kernel
theorem jd_fmod_11 : decode prog_20_method_50_code 11 = .ok (.ifCond .eq 7, 3) := by decide +kernel
theorem jd_fmod_14 : decode prog_20_method_50_code 14 = .ok (.iload_n 2, 1) := by decide +kernel
theorem jd_fmod_15 : decode prog_20_method_50_code 15 = .ok (.iload_n 1, 1) := by decide +kernel
theorem jd_fmod_16 : decode prog_20_method_50_code 16 = .ok (.iadd, 1) := by decide +kernel
theorem jd_fmod_17 : decode prog_20_method_50_code 17 = .ok (.ireturn, 1) := by decide +kernel
theorem jd_fmod_18 : decode prog_20_method_50_code 18 = .ok (.iload_n 2, 1) := by decide +kernel
theorem jd_fmod_19 : decode prog_20_method_50_code 19 = .ok (.ireturn, 1) := by decide +kernel
theorem jk_fmod {x y : Int32} (h : ¬ y = 0) : Met l jy_fmod (Cond.code jy_fmod prog_20_method_50_code 3 (some .int) :: jm_WW) (jk_rm 1 50) (jk_Pc D tys A S [.int x, .int y]) (jk_Qi (jm_fm x y)) 0 0 (fun _ => False) := by
  refine va_MetF (cc := prog_20_method_50_code) (maxL := 3) (ret := some .int) (by decide +kernel) rfl ?_
  intro p e s m args below meth c s₁ B hml hv
  obtain ⟨rfl, hk⟩ := hv
  have hx := B.exec
  have hb := B.bytes
  have hr := B.returns
  have hlocks := B.notSynchronized
  have hS : va_S (fun _ => False) s.heap s.heap [] := va_S.rf
  have hl := lv_entry ([.int x, .int y]) (n := 3) (Nat.le_of_ble_eq_true rfl)
  rw [lg_entry_eq]
  generalize (lg_sl ([.int x, .int y]) ++ List.replicate (3 - (lg_sl ([.int x, .int y])).length) Slot.unset).toArray = ls at hl ⊢
  have hl : lv_has ls 3 [(0, .int x), (1, .int y)] := hl
  refine lv_iload_n hx hb jd_fmod_0 rfl (lv_at hl 0 rfl) ?_
  refine lv_iload_n hx hb jd_fmod_1 rfl (lv_at hl 1 rfl) ?_
  refine lv_irem hx hb jd_fmod_2 h ?_
  refine lv_istore_n hx hb jd_fmod_3 rfl hl (Nat.le_of_ble_eq_true rfl) rfl (fun ls2 hl2 => ?_)
  have hl2 : lv_has ls2 3 [(2, .int (x - x / y * y)), (0, .int x), (1, .int y)] := hl2
  refine lv_iload_n hx hb jd_fmod_4 rfl (lv_at hl2 1 rfl) ?_
  refine lv_iload_n hx hb jd_fmod_5 rfl (lv_at hl2 2 rfl) ?_
  refine lv_ixor hx hb jd_fmod_6 ?_
  refine lv_if_ge (tgt := 18) hx hb jd_fmod_7 (by decide) (fun h1 => ?_) (fun h1 => ?_)
  · refine lv_iload_n hx hb jd_fmod_18 rfl (lv_at hl2 0 rfl) ?_
    have e1 : jm_fm x y = x - x / y * y := if_pos h1
    rw [e1]
    exact W.iret hx hb hr (fun t ht hW => ⟨⟨_, (), rfl, rfl, trivial⟩, hS.F ht⟩) hS.2.2 jd_fmod_19
  · refine lv_iload_n hx hb jd_fmod_10 rfl (lv_at hl2 0 rfl) ?_
    refine lv_if_eq (tgt := 18) hx hb jd_fmod_11 (by decide) (fun h2 => ?_) (fun h2 => ?_)
    · refine lv_iload_n hx hb jd_fmod_18 rfl (lv_at hl2 0 rfl) ?_
      have e1 : jm_fm x y = x - x / y * y := (if_neg h1).trans (if_pos h2)
      rw [e1]
      exact W.iret hx hb hr (fun t ht hW => ⟨⟨_, (), rfl, rfl, trivial⟩, hS.F ht⟩) hS.2.2 jd_fmod_19
    · refine lv_iload_n hx hb jd_fmod_14 rfl (lv_at hl2 0 rfl) ?_
      refine lv_iload_n hx hb jd_fmod_15 rfl (lv_at hl2 2 rfl) ?_
      refine lv_iadd hx hb jd_fmod_16 ?_
      have e1 : jm_fm x y = x - x / y * y + y := (if_neg h1).trans (if_neg h2)
      rw [e1]
      exact W.iret hx hb hr (fun t ht hW => ⟨⟨_, (), rfl, rfl, trivial⟩, hS.F ht⟩) hS.2.2 jd_fmod_17
end JF
section BLT
variable {p : Program} {l : Launch} {e : Env} {R : Room} {s : State} {m : MethodId} {args : Array Value} {below : List Frame} {meth : Method} {c : Code} {D : va_G} {tys : List (ClassId × FieldType)} {A : Nat → Prop} {S : jm_Sp} {c0 s0 : Nat} {ρ0 : Nat → Nat} {N0 : Nat} {M : jm_Meth} {Q : State → Prop} {pc : Nat} {lc : jm_Loc} {st : List Value} {m1 : jm_Mem} {d x : Nat}
theorem st_obj {rr : Nat} (X : jm_Fx p s m args meth c D tys A S M) (hR : jm_Rk d R) (hlink : Cond.methodLink (jm_cn (jm_mO M)) x Lib.objectInit ∈ jm_WW) (hsm : (st.map fun v => v.category).sum ≤ 8) (hdg : decode (jm_mC M) pc = .ok (.invokespecial x, 3)) (kk : jm_At p l e R s m args below meth c D tys A S c0 s0 ρ0 N0 M Q (pc + 3) lc st m1) : jm_At p l e R s m args below meth c D tys A S c0 s0 ρ0 N0 M Q pc lc (.ref rr :: st) m1 := by
  intro H locs cells slots ls ρ hr hL hw ha hN
  have h1 := st_catS (ρ := ρ) hsm
  obtain ⟨r1, r2⟩ := hR
  refine W.objInit X.1 X.2.1 X.own (X.ts _ hlink) (X.ts _ ji_obj) (X.ts _ jw_obj) (g := F0 m pc ls ((.ref rr :: st).map (jm_cv ρ))) rfl (by rw [X.ml]; exact hL.2.1) (a := ρ rr) (rest := st.map (jm_cv ρ)) rfl hdg (by omega) ?_ (kk H locs cells slots ls ρ hr hL hw.tl ha hN)
  show 2 * 0 + _ + 12 ≤ _
  omega
theorem st_mmax {a b : Int32} (X : jm_Fx p s m args meth c D tys A S M) (hR : jm_Rk d R) (hlink : Cond.methodLink (jm_cn (jm_mO M)) x Lib.Math.max.name ∈ jm_WW) (hsm : (st.map fun v => v.category).sum ≤ 8) (hrm : m1.2.2.1 ≤ c0 + R.cells ∧ m1.2.2.2 ≤ s0 + R.slots) (hdg : decode (jm_mC M) pc = .ok (.invokestatic x, 3)) (kk : jm_At p l e R s m args below meth c D tys A S c0 s0 ρ0 N0 M Q (pc + 3) lc (.int (if a < b then b else a) :: st) m1) : jm_At p l e R s m args below meth c D tys A S c0 s0 ρ0 N0 M Q pc lc (.int b :: .int a :: st) m1 := by
  intro H locs cells slots ls ρ hr hL hw ha hN
  have h1 := st_catS (ρ := ρ) hsm
  obtain ⟨r1, r2⟩ := hR
  have e1 := hr.2.2.2.2.2.2.2.1
  have e2 := hr.2.2.2.2.2.2.2.2
  exact va_mmax X.1 X.2.1 (by rw [X.ml]; exact hL.2.1.symm) X.own (X.ts _ hlink) (X.ts _ jt_max) (X.ts _ jb_math) (X.ts _ jw_max) (by omega) (by omega) (by omega) (by omega) hdg (kk H locs cells slots ls ρ hr hL hw.tl.tl.i ha hN)
theorem st_mmin {a b : Int32} (X : jm_Fx p s m args meth c D tys A S M) (hR : jm_Rk d R) (hlink : Cond.methodLink (jm_cn (jm_mO M)) x Lib.Math.min.name ∈ jm_WW) (hsm : (st.map fun v => v.category).sum ≤ 8) (hrm : m1.2.2.1 ≤ c0 + R.cells ∧ m1.2.2.2 ≤ s0 + R.slots) (hdg : decode (jm_mC M) pc = .ok (.invokestatic x, 3)) (kk : jm_At p l e R s m args below meth c D tys A S c0 s0 ρ0 N0 M Q (pc + 3) lc (.int (if b < a then b else a) :: st) m1) : jm_At p l e R s m args below meth c D tys A S c0 s0 ρ0 N0 M Q pc lc (.int b :: .int a :: st) m1 := by
  intro H locs cells slots ls ρ hr hL hw ha hN
  have h1 := st_catS (ρ := ρ) hsm
  obtain ⟨r1, r2⟩ := hR
  have e1 := hr.2.2.2.2.2.2.2.1
  have e2 := hr.2.2.2.2.2.2.2.2
  exact va_mmin X.1 X.2.1 (by rw [X.ml]; exact hL.2.1.symm) X.own (X.ts _ hlink) (X.ts _ jt_min) (X.ts _ jb_math) (X.ts _ jw_min) (by omega) (by omega) (by omega) (by omega) hdg (kk H locs cells slots ls ρ hr hL hw.tl.tl.i ha hN)
theorem st_mabs {a : Int64} (X : jm_Fx p s m args meth c D tys A S M) (hR : jm_Rk d R) (hlink : Cond.methodLink (jm_cn (jm_mO M)) x Lib.MathLoose.abs_long.x ∈ jm_WW) (hsm : (st.map fun v => v.category).sum ≤ 8) (hrm : m1.2.2.1 ≤ c0 + R.cells ∧ m1.2.2.2 ≤ s0 + R.slots) (hdg : decode (jm_mC M) pc = .ok (.invokestatic x, 3)) (kk : jm_At p l e R s m args below meth c D tys A S c0 s0 ρ0 N0 M Q (pc + 3) lc (.long (if 0 < a then a else -a) :: st) m1) : jm_At p l e R s m args below meth c D tys A S c0 s0 ρ0 N0 M Q pc lc (.long a :: st) m1 := by
  intro H locs cells slots ls ρ hr hL hw ha hN
  have h1 := st_catS (ρ := ρ) hsm
  obtain ⟨r1, r2⟩ := hR
  have e1 := hr.2.2.2.2.2.2.2.1
  have e2 := hr.2.2.2.2.2.2.2.2
  exact va_mabs_long X.1 X.2.1 (by rw [X.ml]; exact hL.2.1.symm) X.own (X.ts _ hlink) (X.ts _ jt_abs) (X.ts _ jb_math) (X.ts _ jw_abs) (by omega) (by omega) (by omega) (by omega) hdg (kk H locs cells slots ls ρ hr hL hw.tl.l ha hN)
theorem st_mminL {a b : Int64} (X : jm_Fx p s m args meth c D tys A S M) (hR : jm_Rk d R) (hlink : Cond.methodLink (jm_cn (jm_mO M)) x Lib.MathLoose.min_long.x ∈ jm_WW) (hsm : (st.map fun v => v.category).sum ≤ 8) (hrm : m1.2.2.1 ≤ c0 + R.cells ∧ m1.2.2.2 ≤ s0 + R.slots) (hdg : decode (jm_mC M) pc = .ok (.invokestatic x, 3)) (kk : jm_At p l e R s m args below meth c D tys A S c0 s0 ρ0 N0 M Q (pc + 3) lc (.long (if b < a then b else a) :: st) m1) : jm_At p l e R s m args below meth c D tys A S c0 s0 ρ0 N0 M Q pc lc (.long b :: .long a :: st) m1 := by
  intro H locs cells slots ls ρ hr hL hw ha hN
  have h1 := st_catS (ρ := ρ) hsm
  obtain ⟨r1, r2⟩ := hR
  have e1 := hr.2.2.2.2.2.2.2.1
  have e2 := hr.2.2.2.2.2.2.2.2
  exact va_mmin_long X.1 X.2.1 (by rw [X.ml]; exact hL.2.1.symm) X.own (X.ts _ hlink) (X.ts _ jt_minL) (X.ts _ jb_math) (X.ts _ jw_minL) (by omega) (by omega) (by omega) (by omega) hdg (kk H locs cells slots ls ρ hr hL hw.tl.tl.l ha hN)
theorem cpy_spec {r0 r1 : Nat} {i0 i1 n : Int32} {m2 : jm_Mem} (h : jm_cpy m1 r0 i0 r1 i1 n = some m2) : r0 ≠ r1 ∧ ¬ i0 < 0 ∧ ¬ i1 < 0 ∧ ¬ n < 0 ∧
    ((∃ n0 n1 f g, m1.2.1 r0 = .inl (0, n0, .inl f) ∧ m1.2.1 r1 = .inl (0, n1, .inl g) ∧ i0.toNatClampNeg + n.toNatClampNeg ≤ n0 ∧ i1.toNatClampNeg + n.toNatClampNeg ≤ n1 ∧ m2 = jm_up m1 r1 (.inl (0, n1, .inl (va_cpy f g i0.toNatClampNeg i1.toNatClampNeg n.toNatClampNeg)))) ∨
     (∃ n0 n1 f g, m1.2.1 r0 = .inl (2, n0, .inr (.inl f)) ∧ m1.2.1 r1 = .inl (2, n1, .inr (.inl g)) ∧ i0.toNatClampNeg + n.toNatClampNeg ≤ n0 ∧ i1.toNatClampNeg + n.toNatClampNeg ≤ n1 ∧ m2 = jm_up m1 r1 (.inl (2, n1, .inr (.inl (va_cpy f g i0.toNatClampNeg i1.toNatClampNeg n.toNatClampNeg)))))) := by
  unfold jm_cpy at h
  split at h
  · rename_i t0 n0 f t1 n1 g h0 h1
    split at h
    · rename_i hc
      obtain ⟨a1, rfl, rfl, a4, a5, a6, a7, a8⟩ := hc
      cases h
      exact ⟨a1, a4, a5, a6, Or.inl ⟨n0, n1, f, g, h0, h1, a7, a8, rfl⟩⟩
    · cases h
  · rename_i t0 n0 f t1 n1 g h0 h1
    split at h
    · rename_i hc
      obtain ⟨a1, rfl, rfl, a4, a5, a6, a7, a8⟩ := hc
      cases h
      exact ⟨a1, a4, a5, a6, Or.inr ⟨n0, n1, f, g, h0, h1, a7, a8, rfl⟩⟩
    · cases h
  · cases h
theorem nfw : nativeFrameWords "java/lang/System" "arraycopy" 5 + 11 ≤ 200 := by decide +kernel
theorem st_copy {r0 r1 : Nat} {i0 i1 n : Int32} {m2 : jm_Mem} (X : jm_Fx p s m args meth c D tys A S M) (hR : jm_Rk d R) (hlink : Cond.methodLink (jm_cn (jm_mO M)) x arraycopyName ∈ jm_WW) (hsm : (st.map fun v => v.category).sum ≤ 8) (h : jm_cpy m1 r0 i0 r1 i1 n = some m2) (hdg : decode (jm_mC M) pc = .ok (.invokestatic x, 3)) (kk : jm_At p l e R s m args below meth c D tys A S c0 s0 ρ0 N0 M Q (pc + 3) lc st m2) : jm_At p l e R s m args below meth c D tys A S c0 s0 ρ0 N0 M Q pc lc (.int n :: .int i1 :: .ref r1 :: .int i0 :: .ref r0 :: st) m1 := by
  intro H locs cells slots ls ρ hr hL hw ha hN
  have h9 := st_catS (ρ := ρ) hsm
  obtain ⟨z1, z2⟩ := hR
  have z3 := nfw
  obtain ⟨h1, h2, h3, h4, ⟨n0, n1, f, g, a1, a2, a3, a4, rfl⟩ | ⟨n0, n1, f, g, a1, a2, a3, a4, rfl⟩⟩ := cpy_spec h
  · obtain ⟨b1, b2, -⟩ := hr.arr a1 (by decide)
    obtain ⟨b3, b4, -⟩ := hr.arr a2 (by decide)
    refine va_copyi X.1 X.2.1 (by rw [X.ml]; exact hL.2.1.symm) X.own (X.ts _ hlink) (X.ts _ jn_copy) (X.ts _ jt_copy) (X.ts _ jb_sys) X.kn.1 hr.1 hr.2.1 hr.2.2.1 r0 r1 0 0 b2 b4 (jm_tyAt X.ty rfl) (jm_tyAt X.ty rfl) rfl h2 h3 h4 a3 a4 (fun _ _ => rfl) (by omega) (by omega) hdg fun H1 l1 g1 g2 g3 => ?_
    exact kk _ _ _ _ _ _ (hr.wr (e := .inl (0, n1, .inl (va_cpy f g i0.toNatClampNeg i1.toNatClampNeg n.toNatClampNeg))) b3 (by show (0 : Nat) < 6; decide) g1 g2 g3) hL hw.tl.tl.tl.tl.tl ha hN
  · obtain ⟨b1, b2, -⟩ := hr.arr a1 (by decide)
    obtain ⟨b3, b4, -⟩ := hr.arr a2 (by decide)
    refine va_copyl X.1 X.2.1 (by rw [X.ml]; exact hL.2.1.symm) X.own (X.ts _ hlink) (X.ts _ jn_copy) (X.ts _ jt_copy) (X.ts _ jb_sys) X.kn.1 hr.1 hr.2.1 hr.2.2.1 r0 r1 2 2 b2 b4 (jm_tyAt X.ty rfl) (jm_tyAt X.ty rfl) rfl h2 h3 h4 a3 a4 (fun _ _ => rfl) (by omega) (by omega) hdg fun H1 l1 g1 g2 g3 => ?_
    exact kk _ _ _ _ _ _ (hr.wr (e := .inl (2, n1, .inr (.inl (va_cpy f g i0.toNatClampNeg i1.toNatClampNeg n.toNatClampNeg)))) b3 (by show (2 : Nat) < 6; decide) g1 g2 g3) hL hw.tl.tl.tl.tl.tl ha hN
theorem gS_spec {r n : Nat} {f : Nat → Int32} (h : jm_gS m1 r = some (n, f)) : m1.2.1 r = .inl (7, n, .inl f) := by
  unfold jm_gS at h
  split at h
  · rename_i t n2 f2 he
    split at h
    · rename_i ht
      cases h
      rw [he, ht]
    · cases h
  · cases h
theorem jm_strs : ∀ k, k < 10 → (jm_sL.getD k 0 = (jm_strT.getD k []).length ∧ jm_sB.getD k [] = jm_strT.getD k [] ∧ jm_sL.getD k 0 < 2 ^ 31) := by decide +kernel
theorem jm_rep.str {H0 H : Heap} {ρ : Nat → Nat} {locs : List Loc} {cells slots : Nat} (h : jm_rep D tys A S H0 c0 s0 ρ m1 H locs cells slots) {r n : Nat} {f : Nat → Int32} (he : m1.2.1 r = .inl (7, n, .inl f)) : ∃ k, k < 10 ∧ ρ r = S.2.2.2 k ∧ n = jm_sL.getD k 0 ∧ f = fun i => (jm_sB.getD k []).getD i 0 := by
  obtain ⟨-, -, -, hw, hb, -, hsp, -⟩ := h
  by_cases hr : r < m1.1
  · have := hw r hr
    rw [he] at this
    exact absurd (show (7 : Nat) < 6 from this) (by decide)
  · rcases hb r (Nat.not_lt.mp hr) with q | ⟨q1, q2⟩ | ⟨k, hk, q1, q2⟩
    · rw [he] at q; cases q
    · rw [he] at q2
      have e : 7 = 8 := congrArg Prod.fst (Sum.inl.inj q2)
      cases e
    · rw [he] at q2
      obtain ⟨s1, s2, s3⟩ := jm_strs k hk
      have e := congrArg Prod.snd (Sum.inl.inj q2)
      have e1 : n = (jm_strT.getD k []).length := congrArg Prod.fst e
      have e2 : f = fun i => (jm_strT.getD k []).getD i 0 := Sum.inl.inj (congrArg Prod.snd e)
      exact ⟨k, hk, by rw [q1]; exact hsp.2 k hk, by rw [e1, s1], by rw [e2, s2]⟩
/-- behind a member that changes nothing -/
theorem st_jki {av : List Value} {v : Int32} {H : Heap} {locs : List Loc} {cells slots : Nat} {ls : Array Slot} {ρ : Nat → Nat} {st0 : List Value} (hr : jm_rep D tys A S s.heap c0 s0 ρ m1 H locs cells slots) (hL : jm_LV (jm_mL M) ρ m1.1 lc ls) (hw : jm_wt m1.1 st) (ha : jm_ag N0 ρ0 ρ) (hN : N0 ≤ m1.1)
    (hrun : va_Run p l e R s m args below meth c H locs cells slots 0 0 (F0 m pc ls st0) (st.map (jm_cv ρ)) (jk_Qi v av.toArray) (fun _ => False)) (kk : jm_At p l e R s m args below meth c D tys A S c0 s0 ρ0 N0 M Q (pc + 3) lc (.int v :: st) m1) : W p l e R s m args below meth c H locs cells slots Q (F0 m pc ls st0) := by
  refine va_calli (a := av.toArray) hrun hr.2.2.1 (fun _ _ h => h.elim) (fun _ h => h.elim) (fun r u t H1 locs1 ht hvm hw1 hB hz1 hk1 hS => ?_)
  subst hw1
  obtain ⟨h1, h2, h3, h4⟩ := hr
  have hP : va_P D vwCl (jm_ws ρ tys m1) H1 := h1.kept (fun k q hk => hk1 q.1 ((h1 k q hk).lt) (fun z => z))
  exact kk H1 locs1 cells slots ls ρ ⟨hP, h2, hS, h4⟩ hL hw.i ha hN
theorem jm_kn_at (X : jm_Fx p s m args meth c D tys A S M) {H : Heap} {locs : List Loc} {cells slots : Nat} {ρ : Nat → Nat} (hr : jm_rep D tys A S s.heap c0 s0 ρ m1 H locs cells slots) {av : List Value} : ∀ U : State, U.heap = H → s.WarmedH U.vm → jk_Pc D tys A S av av.toArray U := by
  intro U hU hW
  refine ⟨rfl, ?_⟩
  show jm_Kn D tys A S U U.heap
  rw [hU]
  exact X.kn.mv hW hr.2.2.1.1 hr.2.2.1.2.1
theorem st_slen {rr n : Nat} {f : Nat → Int32} (X : jm_Fx p s m args meth c D tys A S M) (hR : jm_Rk d R) (hlink : Cond.methodLink (jm_cn (jm_mO M)) x jy_length ∈ jm_WW) (hsm : (st.map fun v => v.category).sum ≤ 8) (hrm : m1.2.2.1 ≤ c0 + R.cells ∧ m1.2.2.2 ≤ s0 + R.slots) (h : jm_gS m1 rr = some (n, f)) (hdg : decode (jm_mC M) pc = .ok (.invokevirtual x, 3)) (kk : jm_At p l e R s m args below meth c D tys A S c0 s0 ρ0 N0 M Q (pc + 3) lc (.int (Int32.ofNat n) :: st) m1) : jm_At p l e R s m args below meth c D tys A S c0 s0 ρ0 N0 M Q pc lc (.ref rr :: st) m1 := by
  intro H locs cells slots ls ρ hr hL hw ha hN
  obtain ⟨k, hk, e1, e2, e3⟩ := hr.str (gS_spec h)
  obtain ⟨z1, z2⟩ := hR
  have q1 := hr.2.2.2.2.2.2.2.1
  have q2 := hr.2.2.2.2.2.2.2.2
  obtain ⟨adV, h5⟩ := X.kn.2.2.1
  have hrun := va_runV (e := e) (below := below) (meth := meth) (locs := locs) (cells := cells) (slots := slots) (As := []) (rest := st.map (jm_cv ρ)) (b := ρ rr) (g := F0 m pc ls ((.ref rr :: st).map (jm_cv ρ))) ⟨X.1, X.2.1, X.ml, X.own, X.ts⟩ (jk_length (l := l) (D := D) (tys := tys) (A := A) (S := S) (i := k) (by omega)) (jm_cV 0 X.ts hlink ji_length js_length jb_str jw_length rfl rfl (by decide +kernel) ⟨by show 3 ≤ R.frames; omega, by show 8 + (1 + 11) + 100 ≤ R.locals; omega⟩) ⟨jk_blind, by rw [e1]; exact vk_recv h5 (by omega) hr.2.2.1, by rw [e1]; exact jm_kn_at X hr⟩ rfl rfl hL.2.1 rfl (lv_room (st_catS hsm)) hdg ⟨by omega, by omega⟩
  refine st_jki (av := [.ref (ρ rr)]) hr hL hw.tl ha hN hrun ?_
  rw [e2] at kk
  exact kk
theorem st_char {rr n k : Nat} {f : Nat → Int32} {i : Int32} (X : jm_Fx p s m args meth c D tys A S M) (hR : jm_Rk d R) (hlink : Cond.methodLink (jm_cn (jm_mO M)) x jy_charAt ∈ jm_WW) (hsm : (st.map fun v => v.category).sum ≤ 8) (hrm : m1.2.2.1 ≤ c0 + R.cells ∧ m1.2.2.2 ≤ s0 + R.slots) (h : jm_gS m1 rr = some (n, f)) (hi : jm_ix i n = some k) (hdg : decode (jm_mC M) pc = .ok (.invokevirtual x, 3)) (kk : jm_At p l e R s m args below meth c D tys A S c0 s0 ρ0 N0 M Q (pc + 3) lc (.int (f k) :: st) m1) : jm_At p l e R s m args below meth c D tys A S c0 s0 ρ0 N0 M Q pc lc (.int i :: .ref rr :: st) m1 := by
  intro H locs cells slots ls ρ hr hL hw ha hN
  obtain ⟨k2, hk, e1, e2, e3⟩ := hr.str (gS_spec h)
  obtain ⟨z1, z2⟩ := hR
  have q1 := hr.2.2.2.2.2.2.2.1
  have q2 := hr.2.2.2.2.2.2.2.2
  obtain ⟨adV, h5⟩ := X.kn.2.2.1
  obtain ⟨hin, rfl⟩ := jm_ix_spec hi
  have hlt := (jm_strs k2 hk).2.2
  obtain ⟨j, hj, rfl⟩ := vp_in_of hin (by omega)
  have hj2 : j < jm_sL.getD k2 0 := by omega
  have hrun := va_runV (e := e) (below := below) (meth := meth) (locs := locs) (cells := cells) (slots := slots) (As := [.int (nI j)]) (rest := st.map (jm_cv ρ)) (b := ρ rr) (g := F0 m pc ls ((.int (nI j) :: .ref rr :: st).map (jm_cv ρ))) ⟨X.1, X.2.1, X.ml, X.own, X.ts⟩ (jk_charAt (l := l) (D := D) (tys := tys) (A := A) (S := S) (i := k2) (k := j) (by omega) hj2) (jm_cV 1 X.ts hlink ji_charAt js_charAt jb_str jw_charAt rfl rfl (by decide +kernel) ⟨by show 5 ≤ R.frames; omega, by show 8 + (2 + 11) + 200 ≤ R.locals; omega⟩) ⟨jk_blind, by rw [e1]; exact vk_recv h5 (by omega) hr.2.2.1, by rw [e1]; exact jm_kn_at X hr⟩ rfl rfl hL.2.1 rfl (lv_room (st_catS hsm)) hdg ⟨by omega, by omega⟩
  refine st_jki (av := [.ref (ρ rr), .int (nI j)]) hr hL hw.tl.tl ha hN hrun ?_
  rw [e3, nI_clamp (by omega)] at kk
  exact kk
theorem st_fib {v : UInt32} (X : jm_Fx p s m args meth c D tys A S M) (hR : jm_Rk d R) (hlink : Cond.methodLink (jm_cn (jm_mO M)) x jy_f2ib ∈ jm_WW) (hsm : (st.map fun v => v.category).sum ≤ 8) (hrm : m1.2.2.1 ≤ c0 + R.cells ∧ m1.2.2.2 ≤ s0 + R.slots) (h : Op.cmpValue (FP.fcmp v v) .l = 0) (hdg : decode (jm_mC M) pc = .ok (.invokestatic x, 3)) (kk : jm_At p l e R s m args below meth c D tys A S c0 s0 ρ0 N0 M Q (pc + 3) lc (.int v.toInt32 :: st) m1) : jm_At p l e R s m args below meth c D tys A S c0 s0 ρ0 N0 M Q pc lc (.float v :: st) m1 := by
  intro H locs cells slots ls ρ hr hL hw ha hN
  obtain ⟨z1, z2⟩ := hR
  have q1 := hr.2.2.2.2.2.2.2.1
  have q2 := hr.2.2.2.2.2.2.2.2
  have hrun := va_runS (e := e) (below := below) (meth := meth) (locs := locs) (cells := cells) (slots := slots) (As := [.float v]) (rest := st.map (jm_cv ρ)) (g := F0 m pc ls ((.float v :: st).map (jm_cv ρ))) ⟨X.1, X.2.1, X.ml, X.own, X.ts⟩ (jk_fib (l := l) (D := D) (tys := tys) (A := A) (S := S) h) (jm_cS 1 X.ts hlink jt_f2ib jb_flo jw_f2ib rfl rfl (by decide +kernel) ⟨by show 4 ≤ R.frames; omega, by show 8 + (1 + 11) + 100 ≤ R.locals; omega⟩) ⟨jk_blind, jm_kn_at X hr⟩ rfl rfl hL.2.1 rfl (lv_room (st_catS hsm)) hdg ⟨by omega, by omega⟩
  exact st_jki (av := [.float v]) hr hL hw.tl ha hN hrun kk
theorem st_fmod {v w : Int32} (X : jm_Fx p s m args meth c D tys A S M) (hR : jm_Rk d R) (hlink : Cond.methodLink (jm_cn (jm_mO M)) x jy_fmod ∈ jm_WW) (hsm : (st.map fun v => v.category).sum ≤ 8) (hrm : m1.2.2.1 ≤ c0 + R.cells ∧ m1.2.2.2 ≤ s0 + R.slots) (h : ¬ w = 0) (hdg : decode (jm_mC M) pc = .ok (.invokestatic x, 3)) (kk : jm_At p l e R s m args below meth c D tys A S c0 s0 ρ0 N0 M Q (pc + 3) lc (.int (jm_fm v w) :: st) m1) : jm_At p l e R s m args below meth c D tys A S c0 s0 ρ0 N0 M Q pc lc (.int w :: .int v :: st) m1 := by
  intro H locs cells slots ls ρ hr hL hw ha hN
  obtain ⟨z1, z2⟩ := hR
  have q1 := hr.2.2.2.2.2.2.2.1
  have q2 := hr.2.2.2.2.2.2.2.2
  have hrun := va_runS (e := e) (below := below) (meth := meth) (locs := locs) (cells := cells) (slots := slots) (As := [.int v, .int w]) (rest := st.map (jm_cv ρ)) (g := F0 m pc ls ((.int w :: .int v :: st).map (jm_cv ρ))) ⟨X.1, X.2.1, X.ml, X.own, X.ts⟩ (jk_fmod (l := l) (D := D) (tys := tys) (A := A) (S := S) h) (jm_cS 2 X.ts hlink jt_fmod jb_math jw_fmod rfl rfl (by decide +kernel) ⟨by show 2 ≤ R.frames; omega, by show 8 + (3 + 11) + 50 ≤ R.locals; omega⟩) ⟨jk_blind, jm_kn_at X hr⟩ rfl rfl hL.2.1 rfl (lv_room (st_catS hsm)) hdg ⟨by omega, by omega⟩
  exact st_jki (av := [.int v, .int w]) hr hL hw.tl.tl ha hN hrun kk
end BLT
