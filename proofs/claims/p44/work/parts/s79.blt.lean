/-! What the machine's own members do: Object's constructor, Math, arraycopy, clone, strings, Integer, Objects. -/
section JF
variable {l : Launch} {D : va_G} {tys : List (ClassId × FieldType)} {A : Nat → Prop} {S : jm_Sp}
theorem jd_fmod_0 : decode jb_c_fmod 0 = .ok (.iload_n 0, 1) := by decide +kernel
theorem jd_fmod_1 : decode jb_c_fmod 1 = .ok (.iload_n 1, 1) := by decide +kernel
theorem jd_fmod_2 : decode jb_c_fmod 2 = .ok (.irem, 1) := by decide +kernel
theorem jd_fmod_3 : decode jb_c_fmod 3 = .ok (.istore_n 2, 1) := by decide +kernel
theorem jd_fmod_4 : decode jb_c_fmod 4 = .ok (.iload_n 0, 1) := by decide +kernel
theorem jd_fmod_5 : decode jb_c_fmod 5 = .ok (.iload_n 1, 1) := by decide +kernel
theorem jd_fmod_6 : decode jb_c_fmod 6 = .ok (.ixor, 1) := by decide +kernel
theorem jd_fmod_7 : decode jb_c_fmod 7 = .ok (.ifCond .ge 11, 3) := by decide +kernel
theorem jd_fmod_10 : decode jb_c_fmod 10 = .ok (.iload_n 2, 1) := by decide +kernel
theorem jd_fmod_11 : decode jb_c_fmod 11 = .ok (.ifCond .eq 7, 3) := by decide +kernel
theorem jd_fmod_14 : decode jb_c_fmod 14 = .ok (.iload_n 2, 1) := by decide +kernel
theorem jd_fmod_15 : decode jb_c_fmod 15 = .ok (.iload_n 1, 1) := by decide +kernel
theorem jd_fmod_16 : decode jb_c_fmod 16 = .ok (.iadd, 1) := by decide +kernel
theorem jd_fmod_17 : decode jb_c_fmod 17 = .ok (.ireturn, 1) := by decide +kernel
theorem jd_fmod_18 : decode jb_c_fmod 18 = .ok (.iload_n 2, 1) := by decide +kernel
theorem jd_fmod_19 : decode jb_c_fmod 19 = .ok (.ireturn, 1) := by decide +kernel
theorem jk_fmod {x y : Int32} (h : ¬ y = 0) : Met l jy_fmod (Cond.code jy_fmod jb_c_fmod 3 (some .int) :: jm_WW) (jk_rm 1 50) (jk_Pc D tys A S [.int x, .int y]) (jk_Qi (jm_fm x y)) 0 0 (fun _ => False) := by
  refine va_MetF (cc := jb_c_fmod) (maxL := 3) (ret := some .int) (by decide +kernel) rfl ?_
  intro p e s m args below meth c s₁ B hml hv
  obtain ⟨rfl, hk⟩ := hv
  have hx := B.exec
  have hb := B.bytes
  have hr := B.returns
  have hlocks := B.notSynchronized
  have hS : va_S (fun _ => False) s.heap s.heap [] := va_S.rf
  have hl := lv_entry ([.int x, .int y]) (n := 3) (Nat.le_of_ble_eq_true rfl)
  rw [lg_entry_eq]
  generalize (lg_sl ([.int x, .int y]) ++ List.replicate (3 - (lg_sl ([.int x, .int y])).length) Slot.unset).toArray = ls at hl ⊢
  have hl : lv_has ls 3 [(0, .int x), (1, .int y)] := hl
  refine lv_iload_n hx hb jd_fmod_0 rfl (lv_at hl 0 rfl) ?_
  refine lv_iload_n hx hb jd_fmod_1 rfl (lv_at hl 1 rfl) ?_
  refine lv_irem hx hb jd_fmod_2 h ?_
  refine lv_istore_n hx hb jd_fmod_3 rfl hl (Nat.le_of_ble_eq_true rfl) rfl (fun ls2 hl2 => ?_)
  have hl2 : lv_has ls2 3 [(2, .int (x - x / y * y)), (0, .int x), (1, .int y)] := hl2
  refine lv_iload_n hx hb jd_fmod_4 rfl (lv_at hl2 1 rfl) ?_
  refine lv_iload_n hx hb jd_fmod_5 rfl (lv_at hl2 2 rfl) ?_
  refine lv_ixor hx hb jd_fmod_6 ?_
  refine lv_if_ge (tgt := 18) hx hb jd_fmod_7 (by decide) (fun h1 => ?_) (fun h1 => ?_)
  · refine lv_iload_n hx hb jd_fmod_18 rfl (lv_at hl2 0 rfl) ?_
    have e1 : jm_fm x y = x - x / y * y := if_pos h1
    rw [e1]
    exact W.iret hx hb hr (fun t ht hW => ⟨⟨_, (), rfl, rfl, trivial⟩, hS.F ht⟩) hS.2.2 jd_fmod_19
  · refine lv_iload_n hx hb jd_fmod_10 rfl (lv_at hl2 0 rfl) ?_
    refine lv_if_eq (tgt := 18) hx hb jd_fmod_11 (by decide) (fun h2 => ?_) (fun h2 => ?_)
    · refine lv_iload_n hx hb jd_fmod_18 rfl (lv_at hl2 0 rfl) ?_
      have e1 : jm_fm x y = x - x / y * y := (if_neg h1).trans (if_pos h2)
      rw [e1]
      exact W.iret hx hb hr (fun t ht hW => ⟨⟨_, (), rfl, rfl, trivial⟩, hS.F ht⟩) hS.2.2 jd_fmod_19
    · refine lv_iload_n hx hb jd_fmod_14 rfl (lv_at hl2 0 rfl) ?_
      refine lv_iload_n hx hb jd_fmod_15 rfl (lv_at hl2 2 rfl) ?_
      refine lv_iadd hx hb jd_fmod_16 ?_
      have e1 : jm_fm x y = x - x / y * y + y := (if_neg h1).trans (if_neg h2)
      rw [e1]
      exact W.iret hx hb hr (fun t ht hW => ⟨⟨_, (), rfl, rfl, trivial⟩, hS.F ht⟩) hS.2.2 jd_fmod_17
theorem jd_iv_0 : decode jb_c_intValue 0 = .ok (.aload_n 0, 1) := by decide +kernel
theorem jd_iv_1 : decode jb_c_intValue 1 = .ok (.getfield 205, 3) := by decide +kernel
theorem jd_iv_4 : decode jb_c_intValue 4 = .ok (.ireturn, 1) := by decide +kernel
theorem jk_Kl {s : State} {H : Heap} (h : jm_Kn D tys A S s H) : jm_Kl S A s H := h.2.2.2.2.2.2.2.2.2.2
theorem jk_intv {k : Nat} (hk : k < 256) : Met l jy_intValue (Cond.code jy_intValue jb_c_intValue 1 (some .int) :: jm_WW) (jk_rm 1 50) (jk_Pc D tys A S [.ref (S.2.2.2 (1000 + k))]) (jk_Qi (vb_c k)) 0 0 (fun _ => False) := by
  refine va_MetF (cc := jb_c_intValue) (maxL := 1) (ret := some .int) (by decide +kernel) rfl ?_
  intro p e s m args below meth c s₁ B hml hv
  obtain ⟨rfl, hkn⟩ := hv
  have hx := B.exec
  have hb := B.bytes
  have hr := B.returns
  have hts0 := atoms_spec (ws := Cond.code jy_intValue jb_c_intValue 1 (some .int) :: jm_WW) B.pre
  have hts : ∀ w ∈ jm_WW, w.before _ s = true := fun w hw => hts0 w (List.mem_cons_of_mem _ hw)
  have hown : s.vm.findClass "java/lang/Integer" = some m.cls := findClass_of_methodNamed B.named
  have hlocks := B.notSynchronized
  have hS : va_S (fun _ => False) s.heap s.heap [] := va_S.rf
  have hl := lv_entry ([.ref (S.2.2.2 (1000 + k))]) (n := 1) (Nat.le_of_ble_eq_true rfl)
  rw [lg_entry_eq]
  generalize (lg_sl ([.ref (S.2.2.2 (1000 + k))]) ++ List.replicate (1 - (lg_sl ([.ref (S.2.2.2 (1000 + k))])).length) Slot.unset).toArray = ls at hl ⊢
  have hl : lv_has ls 1 [(0, .ref (S.2.2.2 (1000 + k)))] := hl
  refine lv_aload_n hx hb jd_iv_0 rfl (lv_at hl 0 rfl) ?_
  have hE := ((jk_Kl hkn).1.narrow (B := fun _ => False) (fun _ z => z.elim)).2
  refine va_getX (i := k) (ad := fun k => S.2.2.2 (1000 + k)) hx hb hE hk hS hown (hts _ jf_ivalue) (fun x h => h) jd_iv_1 ?_
  exact W.iret hx hb hr (fun t ht hW => ⟨⟨_, (), rfl, rfl, trivial⟩, hS.F ht⟩) hS.2.2 jd_iv_4
theorem jd_vo_0 : decode jb_c_valueOf 0 = .ok (.iload_n 0, 1) := by decide +kernel
theorem jd_vo_1 : decode jb_c_valueOf 1 = .ok (.bipush (-128), 2) := by decide +kernel
theorem jd_vo_3 : decode jb_c_valueOf 3 = .ok (.if_icmp .lt 20, 3) := by decide +kernel
theorem jd_vo_6 : decode jb_c_valueOf 6 = .ok (.iload_n 0, 1) := by decide +kernel
theorem jd_vo_7 : decode jb_c_valueOf 7 = .ok (.getstatic 191, 3) := by decide +kernel
theorem jd_vo_10 : decode jb_c_valueOf 10 = .ok (.if_icmp .gt 13, 3) := by decide +kernel
theorem jd_vo_13 : decode jb_c_valueOf 13 = .ok (.getstatic 195, 3) := by decide +kernel
theorem jd_vo_16 : decode jb_c_valueOf 16 = .ok (.iload_n 0, 1) := by decide +kernel
theorem jd_vo_17 : decode jb_c_valueOf 17 = .ok (.sipush 128, 3) := by decide +kernel
theorem jd_vo_20 : decode jb_c_valueOf 20 = .ok (.iadd, 1) := by decide +kernel
theorem jd_vo_21 : decode jb_c_valueOf 21 = .ok (.aaload, 1) := by decide +kernel
theorem jd_vo_22 : decode jb_c_valueOf 22 = .ok (.areturn, 1) := by decide +kernel
def jk_Qr (q : Nat) : Array Value → State → Outcome → State → Prop := va_Qr (fun (_ : Unit) => True) (fun _ ra _ => ra = q) (fun _ => False)
theorem jk_vof {i : Int32} (hi : jm_by i = true) : Met l jy_valueOf (Cond.code jy_valueOf jb_c_valueOf 1 (some (.object "java/lang/Integer")) :: jm_WW) (jk_rm 1 50) (jk_Pc D tys A S [.int i]) (jk_Qr (S.2.2.2 (1000 + (i.toInt + 128).toNat))) 0 0 (fun _ => False) := by
  refine va_MetF (cc := jb_c_valueOf) (maxL := 1) (ret := some (.object "java/lang/Integer")) (by decide +kernel) rfl ?_
  intro p e s m args below meth c s₁ B hml hv
  obtain ⟨rfl, hkn⟩ := hv
  have hx := B.exec
  have hb := B.bytes
  have hr := B.returns
  have hts0 := atoms_spec (ws := Cond.code jy_valueOf jb_c_valueOf 1 (some (.object "java/lang/Integer")) :: jm_WW) B.pre
  have hts : ∀ w ∈ jm_WW, w.before _ s = true := fun w hw => hts0 w (List.mem_cons_of_mem _ hw)
  have hown : s.vm.findClass "java/lang/Integer" = some m.cls := findClass_of_methodNamed B.named
  have hlocks := B.notSynchronized
  have hS : va_S (fun _ => False) s.heap s.heap [] := va_S.rf
  have hl := lv_entry ([.int i]) (n := 1) (Nat.le_of_ble_eq_true rfl)
  rw [lg_entry_eq]
  generalize (lg_sl ([.int i]) ++ List.replicate (1 - (lg_sl ([.int i])).length) Slot.unset).toArray = ls at hl ⊢
  have hl : lv_has ls 1 [(0, .int i)] := hl
  obtain ⟨b1, b2⟩ := by_b hi
  obtain ⟨-, ⟨g1, t0, g2, g3⟩, -⟩ := jk_Kl hkn
  refine lv_iload_n hx hb jd_vo_0 rfl (lv_at hl 0 rfl) ?_
  refine lv_bipush (v := -128) hx hb jd_vo_1 (by decide) ?_
  refine lv_icmp_lt (tgt := 23) hx hb jd_vo_3 (by decide) (fun z => absurd z (by rw [Int32.lt_iff_toInt_lt, show (-128 : Int32).toInt = -128 by decide]; omega)) (fun _ => ?_)
  refine lv_iload_n hx hb jd_vo_6 rfl (lv_at hl 0 rfl) ?_
  refine va_gets hx hb (g1.narrow (B := fun _ => False) (fun _ z => z.elim)) hS hown (hts _ jf_high) (fun x h => h) jd_vo_7 ?_
  refine lv_icmp_gt (tgt := 23) hx hb jd_vo_10 (by decide) (fun z => absurd z (by rw [Int32.lt_iff_toInt_lt, show (127 : Int32).toInt = 127 by decide]; omega)) (fun _ => ?_)
  refine va_gets hx hb (g2.narrow (B := fun _ => False) (fun _ z => z.elim)) hS hown (hts _ jf_cache) (fun x h => h) jd_vo_13 ?_
  refine lv_iload_n hx hb jd_vo_16 rfl (lv_at hl 0 rfl) ?_
  refine lv_sipush (v := 128) hx hb jd_vo_17 (by decide) ?_
  refine lv_iadd hx hb jd_vo_20 ?_
  have e128 : (i + 128).toInt = i.toInt + 128 := by
    rw [Int32.toInt_add, show (128 : Int32).toInt = 128 by decide, Int.bmod_eq_of_le (by omega) (by omega)]
  have ecl : (i + 128).toNatClampNeg = (i.toInt + 128).toNat := by
    show (i + 128).toInt.toNat = _
    rw [e128]
  refine vb_tq (v := .ref (S.2.2.2 (1000 + (i.toInt + 128).toNat))) hx hb (g3.narrow (B := fun _ => False) (fun _ z => z.elim)) hS (i := i + 128) ?_ (by rw [ecl]) jd_vo_21 ?_
  · rintro (z | z)
    · rw [Int32.lt_iff_toInt_lt, e128, show (0 : Int32).toInt = 0 by decide] at z
      omega
    · rw [ecl] at z
      omega
  · exact W.aret hx hb hr (Or.inl ⟨_, rfl⟩) (Or.inr ⟨_, rfl⟩) (fun t ht hW => ⟨⟨(), _, rfl, trivial, rfl⟩, hS.F ht⟩) hS.2.2 jd_vo_22
theorem jd_oc_0 : decode jb_c_ochk 0 = .ok (.iload_n 0, 1) := by decide +kernel
theorem jd_oc_1 : decode jb_c_ochk 1 = .ok (.iload_n 1, 1) := by decide +kernel
theorem jd_oc_2 : decode jb_c_ochk 2 = .ok (.aconst_null, 1) := by decide +kernel
theorem jd_oc_3 : decode jb_c_ochk 3 = .ok (.invokestatic 105, 3) := by decide +kernel
theorem jd_oc_6 : decode jb_c_ochk 6 = .ok (.ireturn, 1) := by decide +kernel
theorem jk_ochk {x n : Int32} (h0 : ¬ x < 0) (hn : x < n) : Met l jy_ochk (Cond.code jy_ochk jb_c_ochk 2 (some .int) :: jm_WW) (jk_rm 2 100) (jk_Pc D tys A S [.int x, .int n]) (jk_Qi x) 0 0 (fun _ => False) := by
  refine va_MetF (cc := jb_c_ochk) (maxL := 2) (ret := some .int) (by decide +kernel) rfl ?_
  intro p e s m args below meth c s₁ B hml hv
  obtain ⟨rfl, hk⟩ := hv
  have hx := B.exec
  have hb := B.bytes
  have hr := B.returns
  have hts0 := atoms_spec (ws := Cond.code jy_ochk jb_c_ochk 2 (some .int) :: jm_WW) B.pre
  have hts : ∀ w ∈ jm_WW, w.before _ s = true := fun w hw => hts0 w (List.mem_cons_of_mem _ hw)
  have hown : s.vm.findClass "java/util/Objects" = some m.cls := findClass_of_methodNamed B.named
  have hlocks := B.notSynchronized
  have hS : va_S (fun _ => False) s.heap s.heap [] := va_S.rf
  have hl := lv_entry ([.int x, .int n]) (n := 2) (Nat.le_of_ble_eq_true rfl)
  rw [lg_entry_eq]
  generalize (lg_sl ([.int x, .int n]) ++ List.replicate (2 - (lg_sl ([.int x, .int n])).length) Slot.unset).toArray = ls at hl ⊢
  have hl : lv_has ls 2 [(0, .int x), (1, .int n)] := hl
  refine lv_iload_n hx hb jd_oc_0 rfl (lv_at hl 0 rfl) ?_
  refine lv_iload_n hx hb jd_oc_1 rfl (lv_at hl 1 rfl) ?_
  refine lv_null hx hb jd_oc_2 ?_
  refine va_calli (va_runS (As := [.int x, .int n, .null]) (rest := []) ⟨hx, hb, hml, hown, hts⟩ (jk_pck (l := l) (v := .null) rfl h0 hn) (jm_cS 3 hts jl_opchk jt_pchk jb_pre jw_pchk rfl rfl (by decide +kernel) ⟨Nat.le_of_ble_eq_true rfl, Nat.le_of_ble_eq_true rfl⟩) ⟨jk_blind, fun U hU hW => jk_pre hk hS hU hW⟩ rfl rfl hl.1 rfl (lv_room (Nat.le_of_ble_eq_true rfl)) jd_oc_3 ⟨Nat.le_of_ble_eq_true rfl, Nat.le_of_ble_eq_true rfl⟩) hS (fun q _ h => h) (fun q h => h) (fun r u t H1 locs ht hvm hw hB hz1 hk1 hS => ?_)
  subst hw
  exact W.iret hx hb hr (fun t ht hW => ⟨⟨_, (), rfl, rfl, trivial⟩, hS.F ht⟩) hS.2.2 jd_oc_6
end JF
section BLT
variable {p : Program} {l : Launch} {e : Env} {R : Room} {s : State} {m : MethodId} {args : Array Value} {below : List Frame} {meth : Method} {c : Code} {D : va_G} {tys : List (ClassId × FieldType)} {A : Nat → Prop} {S : jm_Sp} {c0 s0 : Nat} {ρ0 : Nat → Nat} {N0 : Nat} {M : jm_Meth} {Q : State → Prop} {pc : Nat} {lc : jm_Loc} {st : List Value} {m1 : jm_Mem} {d x : Nat}
theorem st_obj {rr : Nat} (X : jm_Fx p s m args meth c D tys A S M) (hR : jm_Rk d R) (hlink : Cond.methodLink (jm_cn (jm_mO M)) x Lib.objectInit ∈ jm_WW) (hsm : (st.map fun v => v.category).sum ≤ 8) (hdg : decode (jm_mC M) pc = .ok (.invokespecial x, 3)) (kk : jm_At p l e R s m args below meth c D tys A S c0 s0 ρ0 N0 M Q (pc + 3) lc st m1) : jm_At p l e R s m args below meth c D tys A S c0 s0 ρ0 N0 M Q pc lc (.ref rr :: st) m1 := by
  intro H locs cells slots ls ρ hr hL hw ha hN
  have h1 := st_catS (ρ := ρ) hsm
  obtain ⟨r1, r2⟩ := hR
  refine W.objInit X.1 X.2.1 X.own (X.ts _ hlink) (X.ts _ ji_obj) (X.ts _ jw_obj) (g := F0 m pc ls ((.ref rr :: st).map (jm_cv ρ))) rfl (by rw [X.ml]; exact hL.2.1) (a := ρ rr) (rest := st.map (jm_cv ρ)) rfl hdg (by omega) ?_ (kk H locs cells slots ls ρ hr hL hw.tl ha hN)
  show 2 * 0 + _ + 12 ≤ _
  omega
theorem st_mmax {a b : Int32} (X : jm_Fx p s m args meth c D tys A S M) (hR : jm_Rk d R) (hlink : Cond.methodLink (jm_cn (jm_mO M)) x Lib.Math.max.name ∈ jm_WW) (hsm : (st.map fun v => v.category).sum ≤ 8) (hrm : m1.2.2.1 ≤ c0 + R.cells ∧ m1.2.2.2 ≤ s0 + R.slots) (hdg : decode (jm_mC M) pc = .ok (.invokestatic x, 3)) (kk : jm_At p l e R s m args below meth c D tys A S c0 s0 ρ0 N0 M Q (pc + 3) lc (.int (if a < b then b else a) :: st) m1) : jm_At p l e R s m args below meth c D tys A S c0 s0 ρ0 N0 M Q pc lc (.int b :: .int a :: st) m1 := by
  intro H locs cells slots ls ρ hr hL hw ha hN
  have h1 := st_catS (ρ := ρ) hsm
  obtain ⟨r1, r2⟩ := hR
  have e1 := hr.2.2.2.2.2.2.2.1
  have e2 := hr.2.2.2.2.2.2.2.2
  exact va_mmax X.1 X.2.1 (by rw [X.ml]; exact hL.2.1.symm) X.own (X.ts _ hlink) (X.ts _ jt_max) (X.ts _ jb_math) (X.ts _ jw_max) (by omega) (by omega) (by omega) (by omega) hdg (kk H locs cells slots ls ρ hr hL hw.tl.tl.i ha hN)
theorem st_mmin {a b : Int32} (X : jm_Fx p s m args meth c D tys A S M) (hR : jm_Rk d R) (hlink : Cond.methodLink (jm_cn (jm_mO M)) x Lib.Math.min.name ∈ jm_WW) (hsm : (st.map fun v => v.category).sum ≤ 8) (hrm : m1.2.2.1 ≤ c0 + R.cells ∧ m1.2.2.2 ≤ s0 + R.slots) (hdg : decode (jm_mC M) pc = .ok (.invokestatic x, 3)) (kk : jm_At p l e R s m args below meth c D tys A S c0 s0 ρ0 N0 M Q (pc + 3) lc (.int (if b < a then b else a) :: st) m1) : jm_At p l e R s m args below meth c D tys A S c0 s0 ρ0 N0 M Q pc lc (.int b :: .int a :: st) m1 := by
  intro H locs cells slots ls ρ hr hL hw ha hN
  have h1 := st_catS (ρ := ρ) hsm
  obtain ⟨r1, r2⟩ := hR
  have e1 := hr.2.2.2.2.2.2.2.1
  have e2 := hr.2.2.2.2.2.2.2.2
  exact va_mmin X.1 X.2.1 (by rw [X.ml]; exact hL.2.1.symm) X.own (X.ts _ hlink) (X.ts _ jt_min) (X.ts _ jb_math) (X.ts _ jw_min) (by omega) (by omega) (by omega) (by omega) hdg (kk H locs cells slots ls ρ hr hL hw.tl.tl.i ha hN)
theorem st_mabs {a : Int64} (X : jm_Fx p s m args meth c D tys A S M) (hR : jm_Rk d R) (hlink : Cond.methodLink (jm_cn (jm_mO M)) x Lib.MathLoose.abs_long.x ∈ jm_WW) (hsm : (st.map fun v => v.category).sum ≤ 8) (hrm : m1.2.2.1 ≤ c0 + R.cells ∧ m1.2.2.2 ≤ s0 + R.slots) (hdg : decode (jm_mC M) pc = .ok (.invokestatic x, 3)) (kk : jm_At p l e R s m args below meth c D tys A S c0 s0 ρ0 N0 M Q (pc + 3) lc (.long (if 0 < a then a else -a) :: st) m1) : jm_At p l e R s m args below meth c D tys A S c0 s0 ρ0 N0 M Q pc lc (.long a :: st) m1 := by
  intro H locs cells slots ls ρ hr hL hw ha hN
  have h1 := st_catS (ρ := ρ) hsm
  obtain ⟨r1, r2⟩ := hR
  have e1 := hr.2.2.2.2.2.2.2.1
  have e2 := hr.2.2.2.2.2.2.2.2
  exact va_mabs_long X.1 X.2.1 (by rw [X.ml]; exact hL.2.1.symm) X.own (X.ts _ hlink) (X.ts _ jt_abs) (X.ts _ jb_math) (X.ts _ jw_abs) (by omega) (by omega) (by omega) (by omega) hdg (kk H locs cells slots ls ρ hr hL hw.tl.l ha hN)
theorem st_mminL {a b : Int64} (X : jm_Fx p s m args meth c D tys A S M) (hR : jm_Rk d R) (hlink : Cond.methodLink (jm_cn (jm_mO M)) x Lib.MathLoose.min_long.x ∈ jm_WW) (hsm : (st.map fun v => v.category).sum ≤ 8) (hrm : m1.2.2.1 ≤ c0 + R.cells ∧ m1.2.2.2 ≤ s0 + R.slots) (hdg : decode (jm_mC M) pc = .ok (.invokestatic x, 3)) (kk : jm_At p l e R s m args below meth c D tys A S c0 s0 ρ0 N0 M Q (pc + 3) lc (.long (if b < a then b else a) :: st) m1) : jm_At p l e R s m args below meth c D tys A S c0 s0 ρ0 N0 M Q pc lc (.long b :: .long a :: st) m1 := by
  intro H locs cells slots ls ρ hr hL hw ha hN
  have h1 := st_catS (ρ := ρ) hsm
  obtain ⟨r1, r2⟩ := hR
  have e1 := hr.2.2.2.2.2.2.2.1
  have e2 := hr.2.2.2.2.2.2.2.2
  exact va_mmin_long X.1 X.2.1 (by rw [X.ml]; exact hL.2.1.symm) X.own (X.ts _ hlink) (X.ts _ jt_minL) (X.ts _ jb_math) (X.ts _ jw_minL) (by omega) (by omega) (by omega) (by omega) hdg (kk H locs cells slots ls ρ hr hL hw.tl.tl.l ha hN)
theorem cpy_spec {r0 r1 : Nat} {i0 i1 n : Int32} {m2 : jm_Mem} (h : jm_cpy m1 r0 i0 r1 i1 n = some m2) : r0 ≠ r1 ∧ ¬ i0 < 0 ∧ ¬ i1 < 0 ∧ ¬ n < 0 ∧
    ((∃ n0 n1 f g, m1.2.1 r0 = .inl (0, n0, .inl f) ∧ m1.2.1 r1 = .inl (0, n1, .inl g) ∧ i0.toNatClampNeg + n.toNatClampNeg ≤ n0 ∧ i1.toNatClampNeg + n.toNatClampNeg ≤ n1 ∧ m2 = jm_up m1 r1 (.inl (0, n1, .inl (va_cpy f g i0.toNatClampNeg i1.toNatClampNeg n.toNatClampNeg)))) ∨
     (∃ n0 n1 f g, m1.2.1 r0 = .inl (2, n0, .inr (.inl f)) ∧ m1.2.1 r1 = .inl (2, n1, .inr (.inl g)) ∧ i0.toNatClampNeg + n.toNatClampNeg ≤ n0 ∧ i1.toNatClampNeg + n.toNatClampNeg ≤ n1 ∧ m2 = jm_up m1 r1 (.inl (2, n1, .inr (.inl (va_cpy f g i0.toNatClampNeg i1.toNatClampNeg n.toNatClampNeg)))))) := by
  unfold jm_cpy at h
  split at h
  · rename_i t0 n0 f t1 n1 g h0 h1
    split at h
    · rename_i hc
      obtain ⟨a1, rfl, rfl, a4, a5, a6, a7, a8⟩ := hc
      cases h
      exact ⟨a1, a4, a5, a6, Or.inl ⟨n0, n1, f, g, h0, h1, a7, a8, rfl⟩⟩
    · cases h
  · rename_i t0 n0 f t1 n1 g h0 h1
    split at h
    · rename_i hc
      obtain ⟨a1, rfl, rfl, a4, a5, a6, a7, a8⟩ := hc
      cases h
      exact ⟨a1, a4, a5, a6, Or.inr ⟨n0, n1, f, g, h0, h1, a7, a8, rfl⟩⟩
    · cases h
  · cases h
theorem nfw : nativeFrameWords "java/lang/System" "arraycopy" 5 + 11 ≤ 200 := by decide +kernel
theorem cpB_spec {r0 r1 : Nat} {i0 i1 n : Int32} {m2 : jm_Mem} (h : jm_cpB m1 r0 i0 r1 i1 n = some m2) : r0 ≠ r1 ∧ ¬ i0 < 0 ∧ ¬ i1 < 0 ∧ ¬ n < 0 ∧
    ∃ n0 n1 f g, m1.2.1 r0 = .inl (9, n0, .inl f) ∧ m1.2.1 r1 = .inl (9, n1, .inl g) ∧ i0.toNatClampNeg + n.toNatClampNeg ≤ n0 ∧ i1.toNatClampNeg + n.toNatClampNeg ≤ n1 ∧ (∀ k, k < n.toNatClampNeg → jm_by (f (i0.toNatClampNeg + k)) = true) ∧ m2 = jm_up m1 r1 (.inl (9, n1, .inl (va_cpy f g i0.toNatClampNeg i1.toNatClampNeg n.toNatClampNeg))) := by
  unfold jm_cpB at h
  split at h
  · rename_i t0 n0 f t1 n1 g h0 h1
    split at h
    · rename_i hc
      obtain ⟨a1, rfl, rfl, a4, a5, a6, a7, a8, a9⟩ := hc
      cases h
      exact ⟨a1, a4, a5, a6, n0, n1, f, g, h0, h1, a7, a8, a9, rfl⟩
    · cases h
  · cases h
theorem by_fit {x : Int32} (h : jm_by x = true) : fits .byte (.int x) = true := (jm_kt_nf (kd := 4) (ty := .byte) (v := .int x) rfl (Or.inr (Or.inr (Or.inr (Or.inr ⟨rfl, x, rfl, h⟩))))).2
theorem st_copy {r0 r1 : Nat} {i0 i1 n : Int32} {m2 : jm_Mem} (X : jm_Fx p s m args meth c D tys A S M) (hR : jm_Rk d R) (hlink : Cond.methodLink (jm_cn (jm_mO M)) x arraycopyName ∈ jm_WW) (hsm : (st.map fun v => v.category).sum ≤ 8) (h : jm_cpY m1 r0 i0 r1 i1 n = some m2) (hdg : decode (jm_mC M) pc = .ok (.invokestatic x, 3)) (kk : jm_At p l e R s m args below meth c D tys A S c0 s0 ρ0 N0 M Q (pc + 3) lc st m2) : jm_At p l e R s m args below meth c D tys A S c0 s0 ρ0 N0 M Q pc lc (.int n :: .int i1 :: .ref r1 :: .int i0 :: .ref r0 :: st) m1 := by
  intro H locs cells slots ls ρ hr hL hw ha hN
  have h9 := st_catS (ρ := ρ) hsm
  obtain ⟨z1, z2⟩ := hR
  have z3 := nfw
  rcases or_some h with h | h
  · obtain ⟨h1, h2, h3, h4, ⟨n0, n1, f, g, a1, a2, a3, a4, rfl⟩ | ⟨n0, n1, f, g, a1, a2, a3, a4, rfl⟩⟩ := cpy_spec h
    · obtain ⟨b1, b2, -⟩ := hr.arr a1 (by decide)
      obtain ⟨b3, b4, -⟩ := hr.arr a2 (by decide)
      refine va_copyi X.1 X.2.1 (by rw [X.ml]; exact hL.2.1.symm) X.own (X.ts _ hlink) (X.ts _ jn_copy) (X.ts _ jt_copy) (X.ts _ jb_sys) X.kn.1 hr.1 hr.2.1 hr.2.2.1 r0 r1 0 0 b2 b4 (jm_tyAt X.ty rfl) (jm_tyAt X.ty rfl) rfl h2 h3 h4 a3 a4 (fun _ _ => rfl) (by omega) (by omega) hdg fun H1 l1 g1 g2 g3 => ?_
      exact kk _ _ _ _ _ _ (hr.wr (e := .inl (0, n1, .inl (va_cpy f g i0.toNatClampNeg i1.toNatClampNeg n.toNatClampNeg))) b3 (by show (0 : Nat) < 6 ∨ (0 : Nat) = 9; decide) g1 g2 g3) hL hw.tl.tl.tl.tl.tl ha hN
    · obtain ⟨b1, b2, -⟩ := hr.arr a1 (by decide)
      obtain ⟨b3, b4, -⟩ := hr.arr a2 (by decide)
      refine va_copyl X.1 X.2.1 (by rw [X.ml]; exact hL.2.1.symm) X.own (X.ts _ hlink) (X.ts _ jn_copy) (X.ts _ jt_copy) (X.ts _ jb_sys) X.kn.1 hr.1 hr.2.1 hr.2.2.1 r0 r1 2 2 b2 b4 (jm_tyAt X.ty rfl) (jm_tyAt X.ty rfl) rfl h2 h3 h4 a3 a4 (fun _ _ => rfl) (by omega) (by omega) hdg fun H1 l1 g1 g2 g3 => ?_
      exact kk _ _ _ _ _ _ (hr.wr (e := .inl (2, n1, .inr (.inl (va_cpy f g i0.toNatClampNeg i1.toNatClampNeg n.toNatClampNeg)))) b3 (by show (2 : Nat) < 6 ∨ (2 : Nat) = 9; decide) g1 g2 g3) hL hw.tl.tl.tl.tl.tl ha hN
  · obtain ⟨h1, h2, h3, h4, n0, n1, f, g, a1, a2, a3, a4, a5, rfl⟩ := cpB_spec h
    obtain ⟨b1, b2, -⟩ := hr.arr a1 (by decide)
    obtain ⟨b3, b4, -⟩ := hr.arr a2 (by decide)
    refine va_copyi X.1 X.2.1 (by rw [X.ml]; exact hL.2.1.symm) X.own (X.ts _ hlink) (X.ts _ jn_copy) (X.ts _ jt_copy) (X.ts _ jb_sys) X.kn.1 hr.1 hr.2.1 hr.2.2.1 r0 r1 9 9 b2 b4 (jm_tyAt X.ty rfl) (jm_tyAt X.ty rfl) rfl h2 h3 h4 a3 a4 (fun k hk => by_fit (a5 k hk)) (by omega) (by omega) hdg fun H1 l1 g1 g2 g3 => ?_
    exact kk _ _ _ _ _ _ (hr.wr (e := .inl (9, n1, .inl (va_cpy f g i0.toNatClampNeg i1.toNatClampNeg n.toNatClampNeg))) b3 (by show (9 : Nat) < 6 ∨ (9 : Nat) = 9; decide) g1 g2 g3) hL hw.tl.tl.tl.tl.tl ha hN
/-- a copy of a row of bytes -/
theorem cl_spec {r : Nat} {g : jm_Mem → Option jm_Res} {r2 : jm_Res} (h : jm_cl m1 r g = some r2) : ∃ n f, m1.2.1 r = .inl (9, n, .inl f) ∧ (∀ k, k < n → jm_by (f k) = true) ∧ m1.1 < 1000000 ∧ g (jm_new m1 (.inl (9, n, .inl f)) n) = some r2 := by
  unfold jm_cl at h
  split at h
  · rename_i t n f he
    split at h
    · rename_i hc
      obtain ⟨rfl, hb⟩ := hc
      obtain ⟨h1, h2⟩ := iv_mk h
      exact ⟨n, f, he, hb, h1, h2⟩
    · cases h
  · cases h
theorem st_clone {rr n : Nat} {f : Nat → Int32} (X : jm_Fx p s m args meth c D tys A S M) (hR : jm_Rk d R) (hlink : Cond.methodLink (jm_cn (jm_mO M)) x jy_cloneB ∈ jm_WW) (hsm : (st.map fun v => v.category).sum ≤ 8) (he : m1.2.1 rr = .inl (9, n, .inl f)) (hby : ∀ k, k < n → jm_by (f k) = true) (hn : m1.1 < 1000000) (hRc : m1.2.2.1 + 1 ≤ c0 + R.cells) (hRs : m1.2.2.2 + n ≤ s0 + R.slots)
    (hdg : decode (jm_mC M) pc = .ok (.invokevirtual x, 3)) (kk : jm_At p l e R s m args below meth c D tys A S c0 s0 ρ0 N0 M Q (pc + 3) lc (.ref m1.1 :: st) (jm_new m1 (.inl (9, n, .inl f)) n)) : jm_At p l e R s m args below meth c D tys A S c0 s0 ρ0 N0 M Q pc lc (.ref rr :: st) m1 := by
  intro H locs cells slots ls ρ hr hL hw ha hN
  have e1 := hr.2.2.2.2.2.2.2.1
  have e2 := hr.2.2.2.2.2.2.2.2
  have h9 := st_catS (ρ := ρ) hsm
  obtain ⟨z1, z2⟩ := hR
  obtain ⟨b1, b2, b3⟩ := hr.arr he (by decide)
  refine va_clone (ad := "[B") X.1 X.2.1 (by rw [X.ml]; exact hL.2.1.symm) X.own (X.ts _ hlink) (X.ts _ jx_clone) (X.ts _ jn_clone) (X.ts _ ji_clone) (X.ts _ js_clone) (X.nw jc_BC) X.kn.1 hr.1 hr.2.1 hr.2.2.1 X.all rr 9 b2 (jm_tyAt X.ty rfl) (va_nm_byte (X.kn.1.2 9 _ (jm_tyAt X.ty rfl)).2) (fun i v hv => ?_) (by omega) (by omega) (by omega) (by show slots + n ≤ R.slots; omega) hdg fun q H1 gK g1 g2 g3 => ?_
  · have hv : (arrV (jm_ct tys 9) n (fun j => .int (f j))).slots[i]? = some v := hv
    by_cases hi : i < n
    · have hv : (Array.ofFn (n := n) fun j => Value.int (f j.val))[i]? = some v := hv
      rw [Array.getElem?_ofFn, dif_pos hi] at hv
      cases hv
      exact by_fit (hby i hi)
    · have hv : (Array.ofFn (n := n) fun j => Value.int (f j.val))[i]? = some v := hv
      rw [Array.getElem?_ofFn, dif_neg hi] at hv
      cases hv
  · obtain ⟨n1, n2⟩ := hr.nw (k := n) (q := q) hn (e := .inl (9, n, .inl f)) b3 g1 g2 g3
    have hst : st.map (jm_cv (va_up ρ m1.1 q)) = st.map (jm_cv ρ) := jm_cv_ags n2 hw.tl
    have hv : jm_cv (va_up ρ m1.1 q) (.ref m1.1) = .ref q := by
      show Value.ref (va_up ρ m1.1 q m1.1) = _
      rw [show va_up ρ m1.1 q m1.1 = q from if_pos rfl]
    have k2 := kk H1 locs (cells + 1) (slots + n) ls _ n1 (hL.ag n2 (Nat.le_succ _)) ((hw.tl.up (Nat.le_succ _)).cons (Or.inl (Nat.lt_succ_self _))) (ha.tr n2 hN) (Nat.le_succ_of_le hN)
    rw [List.map_cons, hst, hv] at k2
    exact k2
theorem gS_spec {r n : Nat} {f : Nat → Int32} (h : jm_gS m1 r = some (n, f)) : m1.2.1 r = .inl (7, n, .inl f) := by
  unfold jm_gS at h
  split at h
  · rename_i t n2 f2 he
    split at h
    · rename_i ht
      cases h
      rw [he, ht]
    · cases h
  · cases h
theorem jm_strs : ∀ k, k < 7 → (jm_sL.getD k 0 = (jm_strT.getD k []).length ∧ jm_sB.getD k [] = jm_strT.getD k [] ∧ jm_sL.getD k 0 < 2 ^ 31) := by decide +kernel
theorem jm_rep.str {H0 H : Heap} {ρ : Nat → Nat} {locs : List Loc} {cells slots : Nat} (h : jm_rep D tys A S H0 c0 s0 ρ m1 H locs cells slots) {r n : Nat} {f : Nat → Int32} (he : m1.2.1 r = .inl (7, n, .inl f)) : ∃ k, k < 7 ∧ ρ r = S.2.2.2 k ∧ n = jm_sL.getD k 0 ∧ f = fun i => (jm_sB.getD k []).getD i 0 := by
  rcases h.tag he with ⟨q, q2⟩ | ⟨-, q, -⟩ | ⟨k, hk, q1, -, q2⟩ | ⟨-, q, -⟩ | ⟨-, q, -⟩ | ⟨-, q, -⟩
  · omega
  · omega
  · obtain ⟨s1, s2, s3⟩ := jm_strs k hk
    have q2 := Prod.mk.inj q2
    obtain ⟨e1, e2⟩ := q2
    have e2 : f = fun i => (jm_strT.getD k []).getD i 0 := Sum.inl.inj e2
    exact ⟨k, hk, by rw [q1]; exact h.sr.2.1 k hk, by rw [e1, s1], by rw [e2, s2]⟩
  all_goals omega
/-- behind a member that changes nothing -/
theorem st_jki {av : List Value} {v : Int32} {H : Heap} {locs : List Loc} {cells slots : Nat} {ls : Array Slot} {ρ : Nat → Nat} {st0 : List Value} (hr : jm_rep D tys A S s.heap c0 s0 ρ m1 H locs cells slots) (hL : jm_LV (jm_mL M) ρ m1.1 lc ls) (hw : jm_wt m1.1 st) (ha : jm_ag N0 ρ0 ρ) (hN : N0 ≤ m1.1)
    (hrun : va_Run p l e R s m args below meth c H locs cells slots 0 0 (F0 m pc ls st0) (st.map (jm_cv ρ)) (jk_Qi v av.toArray) (fun _ => False)) (kk : jm_At p l e R s m args below meth c D tys A S c0 s0 ρ0 N0 M Q (pc + 3) lc (.int v :: st) m1) : W p l e R s m args below meth c H locs cells slots Q (F0 m pc ls st0) := by
  refine va_calli (a := av.toArray) hrun hr.2.2.1 (fun _ _ h => h.elim) (fun _ h => h.elim) (fun r u t H1 locs1 ht hvm hw1 hB hz1 hk1 hS => ?_)
  subst hw1
  obtain ⟨h1, h2, h3, h4⟩ := hr
  have hP : va_P D vwCl (jm_ws ρ tys m1) H1 := h1.kept (fun k q hk => hk1 q.1 ((h1 k q hk).lt) (fun z => z))
  exact kk H1 locs1 cells slots ls ρ ⟨hP, h2, hS, h4⟩ hL hw.i ha hN
theorem jm_kn_at (X : jm_Fx p s m args meth c D tys A S M) {H : Heap} {locs : List Loc} {cells slots : Nat} {ρ : Nat → Nat} (hr : jm_rep D tys A S s.heap c0 s0 ρ m1 H locs cells slots) {av : List Value} : ∀ U : State, U.heap = H → s.WarmedH U.vm → jk_Pc D tys A S av av.toArray U := by
  intro U hU hW
  refine ⟨rfl, ?_⟩
  show jm_Kn D tys A S U U.heap
  rw [hU]
  exact X.kn.mv hW hr.2.2.1.1 hr.2.2.1.2.1
theorem st_slen {rr n : Nat} {f : Nat → Int32} (X : jm_Fx p s m args meth c D tys A S M) (hR : jm_Rk d R) (hlink : Cond.methodLink (jm_cn (jm_mO M)) x jy_length ∈ jm_WW) (hsm : (st.map fun v => v.category).sum ≤ 8) (hrm : m1.2.2.1 ≤ c0 + R.cells ∧ m1.2.2.2 ≤ s0 + R.slots) (h : jm_gS m1 rr = some (n, f)) (hdg : decode (jm_mC M) pc = .ok (.invokevirtual x, 3)) (kk : jm_At p l e R s m args below meth c D tys A S c0 s0 ρ0 N0 M Q (pc + 3) lc (.int (Int32.ofNat n) :: st) m1) : jm_At p l e R s m args below meth c D tys A S c0 s0 ρ0 N0 M Q pc lc (.ref rr :: st) m1 := by
  intro H locs cells slots ls ρ hr hL hw ha hN
  obtain ⟨k, hk, e1, e2, e3⟩ := hr.str (gS_spec h)
  obtain ⟨z1, z2⟩ := hR
  have q1 := hr.2.2.2.2.2.2.2.1
  have q2 := hr.2.2.2.2.2.2.2.2
  obtain ⟨adV, h5⟩ := X.kn.2.2.1
  have hrun := va_runV (e := e) (below := below) (meth := meth) (locs := locs) (cells := cells) (slots := slots) (As := []) (rest := st.map (jm_cv ρ)) (b := ρ rr) (g := F0 m pc ls ((.ref rr :: st).map (jm_cv ρ))) ⟨X.1, X.2.1, X.ml, X.own, X.ts⟩ (jk_length (l := l) (D := D) (tys := tys) (A := A) (S := S) (i := k) (by omega)) (jm_cV 0 X.ts hlink ji_length js_length jb_str jw_length rfl rfl (by decide +kernel) ⟨by show 3 ≤ R.frames; omega, by show 8 + (1 + 11) + 100 ≤ R.locals; omega⟩) ⟨jk_blind, by rw [e1]; exact vk_recv h5 (by omega) hr.2.2.1, by rw [e1]; exact jm_kn_at X hr⟩ rfl rfl hL.2.1 rfl (lv_room (st_catS hsm)) hdg ⟨by omega, by omega⟩
  refine st_jki (av := [.ref (ρ rr)]) hr hL hw.tl ha hN hrun ?_
  rw [e2] at kk
  exact kk
theorem st_char {rr n k : Nat} {f : Nat → Int32} {i : Int32} (X : jm_Fx p s m args meth c D tys A S M) (hR : jm_Rk d R) (hlink : Cond.methodLink (jm_cn (jm_mO M)) x jy_charAt ∈ jm_WW) (hsm : (st.map fun v => v.category).sum ≤ 8) (hrm : m1.2.2.1 ≤ c0 + R.cells ∧ m1.2.2.2 ≤ s0 + R.slots) (h : jm_gS m1 rr = some (n, f)) (hi : jm_ix i n = some k) (hdg : decode (jm_mC M) pc = .ok (.invokevirtual x, 3)) (kk : jm_At p l e R s m args below meth c D tys A S c0 s0 ρ0 N0 M Q (pc + 3) lc (.int (f k) :: st) m1) : jm_At p l e R s m args below meth c D tys A S c0 s0 ρ0 N0 M Q pc lc (.int i :: .ref rr :: st) m1 := by
  intro H locs cells slots ls ρ hr hL hw ha hN
  obtain ⟨k2, hk, e1, e2, e3⟩ := hr.str (gS_spec h)
  obtain ⟨z1, z2⟩ := hR
  have q1 := hr.2.2.2.2.2.2.2.1
  have q2 := hr.2.2.2.2.2.2.2.2
  obtain ⟨adV, h5⟩ := X.kn.2.2.1
  obtain ⟨hin, rfl⟩ := jm_ix_spec hi
  have hlt := (jm_strs k2 hk).2.2
  obtain ⟨j, hj, rfl⟩ := vp_in_of hin (by omega)
  have hj2 : j < jm_sL.getD k2 0 := by omega
  have hrun := va_runV (e := e) (below := below) (meth := meth) (locs := locs) (cells := cells) (slots := slots) (As := [.int (nI j)]) (rest := st.map (jm_cv ρ)) (b := ρ rr) (g := F0 m pc ls ((.int (nI j) :: .ref rr :: st).map (jm_cv ρ))) ⟨X.1, X.2.1, X.ml, X.own, X.ts⟩ (jk_charAt (l := l) (D := D) (tys := tys) (A := A) (S := S) (i := k2) (k := j) (by omega) hj2) (jm_cV 1 X.ts hlink ji_charAt js_charAt jb_str jw_charAt rfl rfl (by decide +kernel) ⟨by show 5 ≤ R.frames; omega, by show 8 + (2 + 11) + 200 ≤ R.locals; omega⟩) ⟨jk_blind, by rw [e1]; exact vk_recv h5 (by omega) hr.2.2.1, by rw [e1]; exact jm_kn_at X hr⟩ rfl rfl hL.2.1 rfl (lv_room (st_catS hsm)) hdg ⟨by omega, by omega⟩
  refine st_jki (av := [.ref (ρ rr), .int (nI j)]) hr hL hw.tl.tl ha hN hrun ?_
  rw [e3, nI_clamp (by omega)] at kk
  exact kk
theorem st_fmod {v w : Int32} (X : jm_Fx p s m args meth c D tys A S M) (hR : jm_Rk d R) (hlink : Cond.methodLink (jm_cn (jm_mO M)) x jy_fmod ∈ jm_WW) (hsm : (st.map fun v => v.category).sum ≤ 8) (hrm : m1.2.2.1 ≤ c0 + R.cells ∧ m1.2.2.2 ≤ s0 + R.slots) (h : ¬ w = 0) (hdg : decode (jm_mC M) pc = .ok (.invokestatic x, 3)) (kk : jm_At p l e R s m args below meth c D tys A S c0 s0 ρ0 N0 M Q (pc + 3) lc (.int (jm_fm v w) :: st) m1) : jm_At p l e R s m args below meth c D tys A S c0 s0 ρ0 N0 M Q pc lc (.int w :: .int v :: st) m1 := by
  intro H locs cells slots ls ρ hr hL hw ha hN
  obtain ⟨z1, z2⟩ := hR
  have q1 := hr.2.2.2.2.2.2.2.1
  have q2 := hr.2.2.2.2.2.2.2.2
  have hrun := va_runS (e := e) (below := below) (meth := meth) (locs := locs) (cells := cells) (slots := slots) (As := [.int v, .int w]) (rest := st.map (jm_cv ρ)) (g := F0 m pc ls ((.int w :: .int v :: st).map (jm_cv ρ))) ⟨X.1, X.2.1, X.ml, X.own, X.ts⟩ (jk_fmod (l := l) (D := D) (tys := tys) (A := A) (S := S) h) (jm_cS 2 X.ts hlink jt_fmod jb_math jw_fmod rfl rfl (by decide +kernel) ⟨by show 2 ≤ R.frames; omega, by show 8 + (3 + 11) + 50 ≤ R.locals; omega⟩) ⟨jk_blind, jm_kn_at X hr⟩ rfl rfl hL.2.1 rfl (lv_room (st_catS hsm)) hdg ⟨by omega, by omega⟩
  exact st_jki (av := [.int v, .int w]) hr hL hw.tl.tl ha hN hrun kk
/-- .. that answers nothing, or an object -/
theorem st_jkv {av : List Value} {H : Heap} {locs : List Loc} {cells slots : Nat} {ls : Array Slot} {ρ : Nat → Nat} {st0 : List Value} (hr : jm_rep D tys A S s.heap c0 s0 ρ m1 H locs cells slots) (hL : jm_LV (jm_mL M) ρ m1.1 lc ls) (hw : jm_wt m1.1 st) (ha : jm_ag N0 ρ0 ρ) (hN : N0 ≤ m1.1)
    (hrun : va_Run p l e R s m args below meth c H locs cells slots 0 0 (F0 m pc ls st0) (st.map (jm_cv ρ)) (jk_Qv av.toArray) (fun _ => False)) (kk : jm_At p l e R s m args below meth c D tys A S c0 s0 ρ0 N0 M Q (pc + 3) lc st m1) : W p l e R s m args below meth c H locs cells slots Q (F0 m pc ls st0) := by
  refine va_callv (a := av.toArray) hrun hr.2.2.1 (fun _ _ h => h.elim) (fun _ h => h.elim) (fun u t H1 locs1 ht hvm hw1 hB hz1 hk1 hS => ?_)
  obtain ⟨h1, h2, h3, h4⟩ := hr
  have hP : va_P D vwCl (jm_ws ρ tys m1) H1 := h1.kept (fun k q hk => hk1 q.1 ((h1 k q hk).lt) (fun z => z))
  exact kk H1 locs1 cells slots ls ρ ⟨hP, h2, hS, h4⟩ hL hw ha hN
theorem st_jkr {av : List Value} {y : Nat} {H : Heap} {locs : List Loc} {cells slots : Nat} {ls : Array Slot} {ρ : Nat → Nat} {st0 : List Value} (hr : jm_rep D tys A S s.heap c0 s0 ρ m1 H locs cells slots) (hL : jm_LV (jm_mL M) ρ m1.1 lc ls) (hw : jm_wt m1.1 st) (ha : jm_ag N0 ρ0 ρ) (hN : N0 ≤ m1.1) (hy : jm_wv m1.1 (.ref y))
    (hrun : va_Run p l e R s m args below meth c H locs cells slots 0 0 (F0 m pc ls st0) (st.map (jm_cv ρ)) (jk_Qr (ρ y) av.toArray) (fun _ => False)) (kk : jm_At p l e R s m args below meth c D tys A S c0 s0 ρ0 N0 M Q (pc + 3) lc (.ref y :: st) m1) : W p l e R s m args below meth c H locs cells slots Q (F0 m pc ls st0) := by
  refine va_callr (a := av.toArray) hrun hr.2.2.1 (fun _ _ h => h.elim) (fun _ h => h.elim) (fun u ra t H1 locs1 ht hvm hw1 hB hz1 hk1 hS => ?_)
  have hB : ra = ρ y := hB
  subst hB
  obtain ⟨h1, h2, h3, h4⟩ := hr
  have hP : va_P D vwCl (jm_ws ρ tys m1) H1 := h1.kept (fun k q hk => hk1 q.1 ((h1 k q hk).lt) (fun z => z))
  exact kk H1 locs1 cells slots ls ρ ⟨hP, h2, hS, h4⟩ hL (hw.cons hy) ha hN
theorem st_coder {rr n : Nat} {f : Nat → Int32} (X : jm_Fx p s m args meth c D tys A S M) (hR : jm_Rk d R) (hlink : Cond.methodLink (jm_cn (jm_mO M)) x jy_coder ∈ jm_WW) (hsm : (st.map fun v => v.category).sum ≤ 8) (hrm : m1.2.2.1 ≤ c0 + R.cells ∧ m1.2.2.2 ≤ s0 + R.slots) (h : jm_gS m1 rr = some (n, f)) (hdg : decode (jm_mC M) pc = .ok (.invokevirtual x, 3)) (kk : jm_At p l e R s m args below meth c D tys A S c0 s0 ρ0 N0 M Q (pc + 3) lc (.int 0 :: st) m1) : jm_At p l e R s m args below meth c D tys A S c0 s0 ρ0 N0 M Q pc lc (.ref rr :: st) m1 := by
  intro H locs cells slots ls ρ hr hL hw ha hN
  obtain ⟨k, hk, e1, e2, e3⟩ := hr.str (gS_spec h)
  obtain ⟨z1, z2⟩ := hR
  have q1 := hr.2.2.2.2.2.2.2.1
  have q2 := hr.2.2.2.2.2.2.2.2
  obtain ⟨adV, h5⟩ := X.kn.2.2.1
  have hrun := va_runV (e := e) (below := below) (meth := meth) (locs := locs) (cells := cells) (slots := slots) (As := []) (rest := st.map (jm_cv ρ)) (b := ρ rr) (g := F0 m pc ls ((.ref rr :: st).map (jm_cv ρ))) ⟨X.1, X.2.1, X.ml, X.own, X.ts⟩ (jk_coder (l := l) (D := D) (tys := tys) (A := A) (S := S) (i := k) (by omega)) (jm_cV 0 X.ts hlink ji_coder js_coder jb_str jw_coder rfl rfl (by decide +kernel) ⟨by show 2 ≤ R.frames; omega, by show 8 + (1 + 11) + 50 ≤ R.locals; omega⟩) ⟨jk_blind, by rw [e1]; exact vk_recv h5 (by omega) hr.2.2.1, by rw [e1]; exact jm_kn_at X hr⟩ rfl rfl hL.2.1 rfl (lv_room (st_catS hsm)) hdg ⟨by omega, by omega⟩
  exact st_jki (av := [.ref (ρ rr)]) hr hL hw.tl ha hN hrun kk
theorem intv_eq : ∀ k : Nat, k < 256 → Int32.ofInt ((k : Int) - 128) = vb_c k := by decide +kernel
theorem st_intv {rr : Nat} (X : jm_Fx p s m args meth c D tys A S M) (hR : jm_Rk d R) (hlink : Cond.methodLink (jm_cn (jm_mO M)) x jy_intValue ∈ jm_WW) (hsm : (st.map fun v => v.category).sum ≤ 8) (hrm : m1.2.2.1 ≤ c0 + R.cells ∧ m1.2.2.2 ≤ s0 + R.slots) (h : jm_int ≤ rr ∧ rr < jm_int + 256) (hdg : decode (jm_mC M) pc = .ok (.invokevirtual x, 3)) (kk : jm_At p l e R s m args below meth c D tys A S c0 s0 ρ0 N0 M Q (pc + 3) lc (.int (Int32.ofInt ((rr : Int) - jm_int - 128)) :: st) m1) : jm_At p l e R s m args below meth c D tys A S c0 s0 ρ0 N0 M Q pc lc (.ref rr :: st) m1 := by
  intro H locs cells slots ls ρ hr hL hw ha hN
  obtain ⟨z1, z2⟩ := hR
  have q1 := hr.2.2.2.2.2.2.2.1
  have q2 := hr.2.2.2.2.2.2.2.2
  have hk : rr - jm_int < 256 := by omega
  have e1 : ρ rr = S.2.2.2 (1000 + (rr - jm_int)) := by
    have := hr.sr.2.2.1 (rr - jm_int) hk
    rw [show jm_int + (rr - jm_int) = rr by omega] at this
    exact this
  have e2 : Int32.ofInt ((rr : Int) - jm_int - 128) = vb_c (rr - jm_int) := by
    have e3 : (rr : Int) - (jm_int : Nat) = ((rr - jm_int : Nat) : Int) := (Int.ofNat_sub h.1).symm
    rw [e3]
    exact intv_eq _ hk
  obtain ⟨g0, -, -⟩ := hr.elt X (x := rr) (ci := 16) (if_pos h)
  have hrun := va_runV (e := e) (below := below) (meth := meth) (locs := locs) (cells := cells) (slots := slots) (As := []) (rest := st.map (jm_cv ρ)) (b := ρ rr) (g := F0 m pc ls ((.ref rr :: st).map (jm_cv ρ))) ⟨X.1, X.2.1, X.ml, X.own, X.ts⟩ (jk_intv (l := l) (D := D) (tys := tys) (A := A) (S := S) hk) (jm_cV 0 X.ts hlink ji_intValue js_intValue jb_int jw_intValue rfl rfl (by decide +kernel) ⟨by show 2 ≤ R.frames; omega, by show 8 + (1 + 11) + 50 ≤ R.locals; omega⟩) ⟨jk_blind, g0, by rw [e1]; exact jm_kn_at X hr⟩ rfl rfl hL.2.1 rfl (lv_room (st_catS hsm)) hdg ⟨by omega, by omega⟩
  rw [e2] at kk
  exact st_jki (av := [.ref (ρ rr)]) hr hL hw.tl ha hN hrun kk
theorem st_vof {i : Int32} (X : jm_Fx p s m args meth c D tys A S M) (hR : jm_Rk d R) (hlink : Cond.methodLink (jm_cn (jm_mO M)) x jy_valueOf ∈ jm_WW) (hsm : (st.map fun v => v.category).sum ≤ 8) (hrm : m1.2.2.1 ≤ c0 + R.cells ∧ m1.2.2.2 ≤ s0 + R.slots) (h : jm_by i = true) (hdg : decode (jm_mC M) pc = .ok (.invokestatic x, 3)) (kk : jm_At p l e R s m args below meth c D tys A S c0 s0 ρ0 N0 M Q (pc + 3) lc (.ref (jm_int + (i.toInt + 128).toNat) :: st) m1) : jm_At p l e R s m args below meth c D tys A S c0 s0 ρ0 N0 M Q pc lc (.int i :: st) m1 := by
  intro H locs cells slots ls ρ hr hL hw ha hN
  obtain ⟨z1, z2⟩ := hR
  have q1 := hr.2.2.2.2.2.2.2.1
  have q2 := hr.2.2.2.2.2.2.2.2
  obtain ⟨b1, b2⟩ := by_b h
  have hk : (i.toInt + 128).toNat < 256 := by omega
  have e1 := hr.sr.2.2.1 _ hk
  have hrun := va_runS (e := e) (below := below) (meth := meth) (locs := locs) (cells := cells) (slots := slots) (As := [.int i]) (rest := st.map (jm_cv ρ)) (g := F0 m pc ls ((.int i :: st).map (jm_cv ρ))) ⟨X.1, X.2.1, X.ml, X.own, X.ts⟩ (jk_vof (l := l) (D := D) (tys := tys) (A := A) (S := S) h) (jm_cS 1 X.ts hlink jt_valueOf jb_int jw_valueOf rfl rfl (by decide +kernel) ⟨by show 2 ≤ R.frames; omega, by show 8 + (1 + 11) + 50 ≤ R.locals; omega⟩) ⟨jk_blind, jm_kn_at X hr⟩ rfl rfl hL.2.1 rfl (lv_room (st_catS hsm)) hdg ⟨by omega, by omega⟩
  rw [← e1] at hrun
  exact st_jkr (av := [.int i]) hr hL hw.tl ha hN (Or.inr (Or.inr (Or.inr (Or.inl ⟨Nat.le_add_right _ _, Nat.add_lt_add_left hk _⟩)))) hrun kk
theorem st_ochk {i n : Int32} (X : jm_Fx p s m args meth c D tys A S M) (hR : jm_Rk d R) (hlink : Cond.methodLink (jm_cn (jm_mO M)) x jy_ochk ∈ jm_WW) (hsm : (st.map fun v => v.category).sum ≤ 8) (hrm : m1.2.2.1 ≤ c0 + R.cells ∧ m1.2.2.2 ≤ s0 + R.slots) (h : 0 ≤ i ∧ i < n) (hdg : decode (jm_mC M) pc = .ok (.invokestatic x, 3)) (kk : jm_At p l e R s m args below meth c D tys A S c0 s0 ρ0 N0 M Q (pc + 3) lc (.int i :: st) m1) : jm_At p l e R s m args below meth c D tys A S c0 s0 ρ0 N0 M Q pc lc (.int n :: .int i :: st) m1 := by
  intro H locs cells slots ls ρ hr hL hw ha hN
  obtain ⟨z1, z2⟩ := hR
  have q1 := hr.2.2.2.2.2.2.2.1
  have q2 := hr.2.2.2.2.2.2.2.2
  have hrun := va_runS (e := e) (below := below) (meth := meth) (locs := locs) (cells := cells) (slots := slots) (As := [.int i, .int n]) (rest := st.map (jm_cv ρ)) (g := F0 m pc ls ((.int n :: .int i :: st).map (jm_cv ρ))) ⟨X.1, X.2.1, X.ml, X.own, X.ts⟩ (jk_ochk (l := l) (D := D) (tys := tys) (A := A) (S := S) (Int32.not_lt.mpr h.1) h.2) (jm_cS 2 X.ts hlink jt_ochk jb_objs jw_ochk rfl rfl (by decide +kernel) ⟨by show 3 ≤ R.frames; omega, by show 8 + (2 + 11) + 100 ≤ R.locals; omega⟩) ⟨jk_blind, jm_kn_at X hr⟩ rfl rfl hL.2.1 rfl (lv_room (st_catS hsm)) hdg ⟨by omega, by omega⟩
  exact st_jki (av := [.int i, .int n]) hr hL hw.tl.tl ha hN hrun kk
theorem st_chk {i n : Int32} (X : jm_Fx p s m args meth c D tys A S M) (hR : jm_Rk d R) (hlink : Cond.methodLink (jm_cn (jm_mO M)) x jy_chk ∈ jm_WW) (hsm : (st.map fun v => v.category).sum ≤ 8) (hrm : m1.2.2.1 ≤ c0 + R.cells ∧ m1.2.2.2 ≤ s0 + R.slots) (h : 0 ≤ i ∧ i < n) (hdg : decode (jm_mC M) pc = .ok (.invokestatic x, 3)) (kk : jm_At p l e R s m args below meth c D tys A S c0 s0 ρ0 N0 M Q (pc + 3) lc st m1) : jm_At p l e R s m args below meth c D tys A S c0 s0 ρ0 N0 M Q pc lc (.int n :: .int i :: st) m1 := by
  intro H locs cells slots ls ρ hr hL hw ha hN
  obtain ⟨z1, z2⟩ := hR
  have q1 := hr.2.2.2.2.2.2.2.1
  have q2 := hr.2.2.2.2.2.2.2.2
  have hrun := va_runS (e := e) (below := below) (meth := meth) (locs := locs) (cells := cells) (slots := slots) (As := [.int i, .int n]) (rest := st.map (jm_cv ρ)) (g := F0 m pc ls ((.int n :: .int i :: st).map (jm_cv ρ))) ⟨X.1, X.2.1, X.ml, X.own, X.ts⟩ (jk_chk (l := l) (D := D) (tys := tys) (A := A) (S := S) (Int32.not_lt.mpr h.1) h.2) (jm_cS 2 X.ts hlink jt_chk jb_str jw_chk rfl rfl (by decide +kernel) ⟨by show 3 ≤ R.frames; omega, by show 8 + (2 + 11) + 100 ≤ R.locals; omega⟩) ⟨jk_blind, jm_kn_at X hr⟩ rfl rfl hL.2.1 rfl (lv_room (st_catS hsm)) hdg ⟨by omega, by omega⟩
  exact st_jkv (av := [.int i, .int n]) hr hL hw.tl.tl ha hN hrun kk
end BLT
