/-! Members of the JDK: their contracts. -/
theorem jm_gi {L : List Cond} (h : ∀ w ∈ L, w ∈ jm_WW) : GoodIn jm_WW L := fun w hw => ⟨h w hw, good_of_word (List.mem_filter.mp (h w hw)).2⟩
theorem jm_cS {R : Room} {s : State} {args : Array Value} {own : String} {index : Nat} {y : MethodName} {bytes : ByteArray} {maxL mc ms : Nat} {ret : Option FieldType} {rm : Room} (n : Nat) (ht : ∀ w ∈ jm_WW, w.before args s = true) (h1 : Cond.methodLink own index y ∈ jm_WW) (h2 : Cond.static y ∈ jm_WW) (h3 : Cond.initialized y.cls ∈ jm_WW) (h4 : Cond.code y bytes maxL ret ∈ jm_WW) (hrc : rm.cells = mc) (hrs : rm.slots = ms)
    (hd : y.cls ≠ "java/lang/invoke/MethodHandle" ∧ y.cls ≠ "java/lang/invoke/VarHandle" ∧ (parseMethodDescriptor y.desc).map (fun d => d.parameters.length) = some n) (hR : rm.frames + 1 ≤ R.frames ∧ 8 + (maxL + 11) + rm.locals ≤ R.locals) :
    CallB R s args own index y bytes maxL ret (Cond.code y bytes maxL ret :: jm_WW) rm mc ms n ∧ (Cond.static y).before args s = true := by
  refine va_cwS n ht (jm_gi ?_) rfl hrc hrs hd hR
  intro w hw
  unfold va_wsS at hw
  rcases List.mem_append.mp hw with h | h
  · rcases List.mem_cons.mp h with rfl | h
    · exact h1
    · rcases List.mem_cons.mp h with rfl | h
      · exact h2
      · rcases List.mem_cons.mp h with rfl | h
        · exact h3
        · cases h
  · rcases List.mem_cons.mp h with rfl | h
    · exact h4
    · exact h
theorem jm_cV {R : Room} {s : State} {args : Array Value} {own C : String} {index : Nat} {y : MethodName} {bytes : ByteArray} {maxL mc ms : Nat} {ret : Option FieldType} {rm : Room} (n : Nat) (ht : ∀ w ∈ jm_WW, w.before args s = true) (h1 : Cond.methodLink own index y ∈ jm_WW) (h2 : Cond.instanceMethod y ∈ jm_WW) (h5 : Cond.selects C y y ∈ jm_WW) (h3 : Cond.initialized C ∈ jm_WW) (h4 : Cond.code y bytes maxL ret ∈ jm_WW) (hrc : rm.cells = mc) (hrs : rm.slots = ms)
    (hd : y.cls = C ∧ y.cls ≠ "java/lang/invoke/MethodHandle" ∧ y.cls ≠ "java/lang/invoke/VarHandle" ∧ (parseMethodDescriptor y.desc).map (fun d => d.parameters.length) = some n) (hR : rm.frames + 1 ≤ R.frames ∧ 8 + (maxL + 11) + rm.locals ≤ R.locals) :
    CallW R s args own C index y bytes maxL ret (Cond.code y bytes maxL ret :: jm_WW) rm mc ms n := by
  refine cwV n ht (jm_gi ?_) rfl hrc hrs hd hR
  intro w hw
  unfold wsV at hw
  rcases List.mem_append.mp hw with h | h
  · rcases List.mem_cons.mp h with rfl | h
    · exact h1
    · rcases List.mem_cons.mp h with rfl | h
      · exact h2
      · rcases List.mem_cons.mp h with rfl | h
        · exact h5
        · rcases List.mem_cons.mp h with rfl | h
          · exact h3
          · cases h
  · rcases List.mem_cons.mp h with rfl | h
    · exact h4
    · exact h
section JK
variable {l : Launch} {D : va_G} {tys : List (ClassId × FieldType)} {A : Nat → Prop} {S : jm_Sp}
def jk_Pc (D : va_G) (tys : List (ClassId × FieldType)) (A : Nat → Prop) (S : jm_Sp) (av : List Value) : Array Value → State → Prop := va_Pc av (fun U => jm_Kn D tys A S U U.heap)
def jk_Qi (v : Int32) : Array Value → State → Outcome → State → Prop := va_Qi (fun r (_ : Unit) => r = v) (fun _ _ => True) (fun _ => False)
theorem jk_blind {av : List Value} : FrameBlind (jk_Pc D tys A S av) := fun a U g mk h => ⟨h.1, h.2.mv (State.WarmedH.refl U) (Nat.le_refl _) (fun _ _ _ => rfl)⟩
theorem jk_pre {s U : State} {H : Heap} {av : List Value} (h : jm_Kn D tys A S s s.heap) (hs : va_S (fun _ => False) s.heap H []) (hU : U.heap = H) (hW : s.WarmedH U.vm) : jk_Pc D tys A S av av.toArray U :=
  ⟨rfl, by
    show jm_Kn D tys A S U U.heap
    rw [hU]
    exact h.mv hW hs.1 (fun a h1 _ => hs.2.1 a h1 (fun z => z))⟩
theorem jk_nil {s : State} {H : Heap} {locs : List Loc} (h : va_S (fun _ => False) s.heap H locs) : locs = [] := by
  cases locs with
  | nil => rfl
  | cons a t => exact (h.2.2 a List.mem_cons_self).elim
theorem jd_coder_0 : decode jb_c_coder 0 = .ok (.getstatic 38, 3) := by decide +kernel
theorem jd_coder_3 : decode jb_c_coder 3 = .ok (.ifCond .eq 10, 3) := by decide +kernel
theorem jd_coder_6 : decode jb_c_coder 6 = .ok (.aload_n 0, 1) := by decide +kernel
theorem jd_coder_7 : decode jb_c_coder 7 = .ok (.getfield 15, 3) := by decide +kernel
theorem jd_coder_10 : decode jb_c_coder 10 = .ok (.goto 4, 3) := by decide +kernel
theorem jd_coder_14 : decode jb_c_coder 14 = .ok (.ireturn, 1) := by decide +kernel
abbrev jk_rm (f n : Nat) : Room := { frames := f, cells := 0, slots := 0, locals := n }
theorem jk_coder {i : Nat} (hi : i < 12) : Met l jy_coder (Cond.code jy_coder jb_c_coder 1 (some .byte) :: jm_WW) (jk_rm 1 50) (jk_Pc D tys A S [.ref (S.2.2.2 i)]) (jk_Qi 0) 0 0 (fun _ => False) := by
  refine Met.ofW (cc := jb_c_coder) (maxL := 1) (ret := some .byte) (by decide +kernel) rfl ?_
  intro p e s m args below meth c s₁ B hml hv
  obtain ⟨rfl, hk⟩ := hv
  have hx := B.exec
  have hb := B.bytes
  have hr := B.returns
  have hts0 := atoms_spec (ws := Cond.code jy_coder jb_c_coder 1 (some .byte) :: jm_WW) B.pre
  have hts : ∀ w ∈ jm_WW, w.before _ s = true := fun w hw => hts0 w (List.mem_cons_of_mem _ hw)
  have hown : s.vm.findClass "java/lang/String" = some m.cls := findClass_of_methodNamed B.named
  have hlocks := B.notSynchronized
  have hS : va_S (fun _ => False) s.heap s.heap [] := va_S.rf
  have hl := lv_entry ([.ref (S.2.2.2 i)]) (n := 1) (Nat.le_of_ble_eq_true rfl)
  rw [lg_entry_eq]
  generalize (lg_sl ([.ref (S.2.2.2 i)]) ++ List.replicate (1 - (lg_sl ([.ref (S.2.2.2 i)])).length) Slot.unset).toArray = ls at hl ⊢
  have hl : lv_has ls 1 [(0, .ref (S.2.2.2 i))] := hl
  obtain ⟨h1, h2, ⟨adV, h5⟩, h6, h7, h8, h9, -⟩ := hk
  refine va_gets hx hb (h9.narrow (B := fun _ => False) (fun _ z => z.elim)) hS hown (hts _ jf_compact) (fun x h => h) jd_coder_0 ?_
  refine lv_if_eq (tgt := 13) hx hb jd_coder_3 (by decide) (fun z => absurd z (by decide)) (fun _ => ?_)
  refine lv_aload_n hx hb jd_coder_6 rfl (lv_at hl 0 rfl) ?_
  refine vk_getf hx hb ((h5.1 i hi).2.1.narrow (B := fun _ => False) (fun _ z => z.elim)) hS hown (hts _ jf_coderF) (fun x h => h) jd_coder_7 ?_
  refine lv_goto (tgt := 14) hx hb jd_coder_10 (by decide) ?_
  exact W.zret hx hb hr rfl (fun t ht hW => ⟨⟨0, (), rfl, rfl, trivial⟩, hS.F ht⟩) hS.2.2 jd_coder_14
theorem jd_len_0 : decode jb_c_length 0 = .ok (.aload_n 0, 1) := by decide +kernel
theorem jd_len_1 : decode jb_c_length 1 = .ok (.getfield 9, 3) := by decide +kernel
theorem jd_len_4 : decode jb_c_length 4 = .ok (.arraylength, 1) := by decide +kernel
theorem jd_len_5 : decode jb_c_length 5 = .ok (.aload_n 0, 1) := by decide +kernel
theorem jd_len_6 : decode jb_c_length 6 = .ok (.invokevirtual 335, 3) := by decide +kernel
theorem jd_len_9 : decode jb_c_length 9 = .ok (.ishr, 1) := by decide +kernel
theorem jd_len_10 : decode jb_c_length 10 = .ok (.ireturn, 1) := by decide +kernel
theorem jk_shr0 (x : Int32) : x >>> ((0 : Int32) &&& 31) = x := by
  apply Int32.toBitVec_inj.mp
  rw [Int32.toBitVec_shiftRight]
  have e : (((0 : Int32) &&& 31).toBitVec.smod 32) = 0#32 := by decide
  rw [e]
  simp
theorem jk_length {i : Nat} (hi : i < 12) : Met l jy_length (Cond.code jy_length jb_c_length 1 (some .int) :: jm_WW) (jk_rm 2 100) (jk_Pc D tys A S [.ref (S.2.2.2 i)]) (jk_Qi (Int32.ofNat (jm_sL.getD i 0))) 0 0 (fun _ => False) := by
  refine Met.ofW (cc := jb_c_length) (maxL := 1) (ret := some .int) (by decide +kernel) rfl ?_
  intro p e s m args below meth c s₁ B hml hv
  obtain ⟨rfl, hk⟩ := hv
  have hx := B.exec
  have hb := B.bytes
  have hr := B.returns
  have hts0 := atoms_spec (ws := Cond.code jy_length jb_c_length 1 (some .int) :: jm_WW) B.pre
  have hts : ∀ w ∈ jm_WW, w.before _ s = true := fun w hw => hts0 w (List.mem_cons_of_mem _ hw)
  have hown : s.vm.findClass "java/lang/String" = some m.cls := findClass_of_methodNamed B.named
  have hlocks := B.notSynchronized
  have hS : va_S (fun _ => False) s.heap s.heap [] := va_S.rf
  have hl := lv_entry ([.ref (S.2.2.2 i)]) (n := 1) (Nat.le_of_ble_eq_true rfl)
  rw [lg_entry_eq]
  generalize (lg_sl ([.ref (S.2.2.2 i)]) ++ List.replicate (1 - (lg_sl ([.ref (S.2.2.2 i)])).length) Slot.unset).toArray = ls at hl ⊢
  have hl : lv_has ls 1 [(0, .ref (S.2.2.2 i))] := hl
  have hk0 := hk
  obtain ⟨h1, h2, ⟨adV, h5⟩, h6, h7, h8, h9, -⟩ := hk
  refine lv_aload_n hx hb jd_len_0 rfl (lv_at hl 0 rfl) ?_
  refine vk_getf hx hb ((h5.1 i hi).2.2.1.narrow (B := fun _ => False) (fun _ z => z.elim)) hS hown (hts _ jf_value) (fun x h => h) jd_len_1 ?_
  refine va_tlen hx hb ((h5.1 i hi).2.2.2.narrow (B := fun _ => False) (fun _ z => z.elim)) hS rfl jd_len_4 ?_
  refine lv_aload_n hx hb jd_len_5 rfl (lv_at hl 0 rfl) ?_
  refine va_calli (va_runV (As := []) (rest := [.int (Int32.ofNat (jm_sL.getD i 0))]) ⟨hx, hb, hml, hown, hts⟩ (jk_coder (l := l) hi) (jm_cV 0 hts jl_coder ji_coder js_coder jb_str jw_coder rfl rfl (by decide +kernel) ⟨Nat.le_of_ble_eq_true rfl, Nat.le_of_ble_eq_true rfl⟩) ⟨jk_blind, vk_recv h5 hi va_S.rf, fun U hU hW => jk_pre hk0 hS hU hW⟩ rfl rfl hl.1 rfl (lv_room (Nat.le_of_ble_eq_true rfl)) jd_len_6 ⟨Nat.le_of_ble_eq_true rfl, Nat.le_of_ble_eq_true rfl⟩) hS (fun q _ h => h) (fun q h => h) (fun r u t H1 locs ht hvm hw hB hz1 hk1 hS => ?_)
  subst hw
  refine lv_ishr hx hb jd_len_9 ?_
  rw [jk_shr0]
  exact W.iret hx hb hr (fun t ht hW => ⟨⟨_, (), rfl, rfl, trivial⟩, hS.F ht⟩) hS.2.2 jd_len_10
theorem jd_lat_0 : decode jb_c_isLatin1 0 = .ok (.getstatic 38, 3) := by decide +kernel
theorem jd_lat_3 : decode jb_c_isLatin1 3 = .ok (.ifCond .eq 14, 3) := by decide +kernel
theorem jd_lat_6 : decode jb_c_isLatin1 6 = .ok (.aload_n 0, 1) := by decide +kernel
theorem jd_lat_7 : decode jb_c_isLatin1 7 = .ok (.getfield 15, 3) := by decide +kernel
theorem jd_lat_10 : decode jb_c_isLatin1 10 = .ok (.ifCond .ne 7, 3) := by decide +kernel
theorem jd_lat_13 : decode jb_c_isLatin1 13 = .ok (.iconst 1, 1) := by decide +kernel
theorem jd_lat_14 : decode jb_c_isLatin1 14 = .ok (.goto 4, 3) := by decide +kernel
theorem jd_lat_18 : decode jb_c_isLatin1 18 = .ok (.ireturn, 1) := by decide +kernel
theorem jk_lat {i : Nat} (hi : i < 12) : Met l jy_isLatin1 (Cond.code jy_isLatin1 jb_c_isLatin1 1 (some .boolean) :: jm_WW) (jk_rm 1 50) (jk_Pc D tys A S [.ref (S.2.2.2 i)]) (jk_Qi 1) 0 0 (fun _ => False) := by
  refine Met.ofW (cc := jb_c_isLatin1) (maxL := 1) (ret := some .boolean) (by decide +kernel) rfl ?_
  intro p e s m args below meth c s₁ B hml hv
  obtain ⟨rfl, hk⟩ := hv
  have hx := B.exec
  have hb := B.bytes
  have hr := B.returns
  have hts0 := atoms_spec (ws := Cond.code jy_isLatin1 jb_c_isLatin1 1 (some .boolean) :: jm_WW) B.pre
  have hts : ∀ w ∈ jm_WW, w.before _ s = true := fun w hw => hts0 w (List.mem_cons_of_mem _ hw)
  have hown : s.vm.findClass "java/lang/String" = some m.cls := findClass_of_methodNamed B.named
  have hlocks := B.notSynchronized
  have hS : va_S (fun _ => False) s.heap s.heap [] := va_S.rf
  have hl := lv_entry ([.ref (S.2.2.2 i)]) (n := 1) (Nat.le_of_ble_eq_true rfl)
  rw [lg_entry_eq]
  generalize (lg_sl ([.ref (S.2.2.2 i)]) ++ List.replicate (1 - (lg_sl ([.ref (S.2.2.2 i)])).length) Slot.unset).toArray = ls at hl ⊢
  have hl : lv_has ls 1 [(0, .ref (S.2.2.2 i))] := hl
  obtain ⟨h1, h2, ⟨adV, h5⟩, h6, h7, h8, h9, -⟩ := hk
  refine va_gets hx hb (h9.narrow (B := fun _ => False) (fun _ z => z.elim)) hS hown (hts _ jf_compact) (fun x h => h) jd_lat_0 ?_
  refine lv_if_eq (tgt := 17) hx hb jd_lat_3 (by decide) (fun z => absurd z (by decide)) (fun _ => ?_)
  refine lv_aload_n hx hb jd_lat_6 rfl (lv_at hl 0 rfl) ?_
  refine vk_getf hx hb ((h5.1 i hi).2.1.narrow (B := fun _ => False) (fun _ z => z.elim)) hS hown (hts _ jf_coderF) (fun x h => h) jd_lat_7 ?_
  refine lv_if_ne (tgt := 17) hx hb jd_lat_10 (by decide) (fun z => absurd rfl z) (fun _ => ?_)
  refine lv_iconst (v := 1) hx hb jd_lat_13 (by decide) ?_
  refine lv_goto (tgt := 18) hx hb jd_lat_14 (by decide) ?_
  exact W.zret hx hb hr rfl (fun t ht hW => ⟨⟨1, (), rfl, rfl, trivial⟩, hS.F ht⟩) hS.2.2 jd_lat_18
theorem jd_pck_0 : decode jb_c_pchk 0 = .ok (.iload_n 0, 1) := by decide +kernel
theorem jd_pck_1 : decode jb_c_pchk 1 = .ok (.ifCond .lt 8, 3) := by decide +kernel
theorem jd_pck_4 : decode jb_c_pchk 4 = .ok (.iload_n 0, 1) := by decide +kernel
theorem jd_pck_5 : decode jb_c_pchk 5 = .ok (.iload_n 1, 1) := by decide +kernel
theorem jd_pck_6 : decode jb_c_pchk 6 = .ok (.if_icmp .lt 10, 3) := by decide +kernel
theorem jd_pck_16 : decode jb_c_pchk 16 = .ok (.iload_n 0, 1) := by decide +kernel
theorem jd_pck_17 : decode jb_c_pchk 17 = .ok (.ireturn, 1) := by decide +kernel
theorem jk_pck {x n : Int32} {v : Value} (hv1 : v.category = 1) (h0 : ¬ x < 0) (hn : x < n) : Met l jy_pchk (Cond.code jy_pchk jb_c_pchk 3 (some .int) :: jm_WW) (jk_rm 1 50) (jk_Pc D tys A S [.int x, .int n, v]) (jk_Qi x) 0 0 (fun _ => False) := by
  refine Met.ofW (cc := jb_c_pchk) (maxL := 3) (ret := some .int) (by decide +kernel) rfl ?_
  intro p e s m args below meth c s₁ B hml hv
  obtain ⟨rfl, hk⟩ := hv
  have hx := B.exec
  have hb := B.bytes
  have hr := B.returns
  have hlocks := B.notSynchronized
  have hS : va_S (fun _ => False) s.heap s.heap [] := va_S.rf
  have hsl : lg_sl [.int x, .int n, v] = [.val (.int x), .val (.int n), .val v] := by
    show [Slot.val (.int x)] ++ ([Slot.val (.int n)] ++ ((if v.category = 2 then [Slot.val v, Slot.second] else [Slot.val v]) ++ [])) = _
    rw [if_neg (by omega)]
    rfl
  have hl := lv_entry ([.int x, .int n, v]) (n := 3) (by rw [hsl]; exact Nat.le_of_ble_eq_true rfl)
  rw [lg_entry_eq]
  generalize (lg_sl ([.int x, .int n, v]) ++ List.replicate (3 - (lg_sl ([.int x, .int n, v])).length) Slot.unset).toArray = ls at hl ⊢
  have hl : lv_has ls 3 [(0, .int x), (1, .int n), (2, v)] := hl
  refine lv_iload_n hx hb jd_pck_0 rfl (lv_at hl 0 rfl) ?_
  refine lv_if_lt (tgt := 9) hx hb jd_pck_1 (by decide) (fun z => absurd z h0) (fun _ => ?_)
  refine lv_iload_n hx hb jd_pck_4 rfl (lv_at hl 0 rfl) ?_
  refine lv_iload_n hx hb jd_pck_5 rfl (lv_at hl 1 rfl) ?_
  refine lv_icmp_lt (tgt := 16) hx hb jd_pck_6 (by decide) (fun _ => ?_) (fun z => absurd hn z)
  refine lv_iload_n hx hb jd_pck_16 rfl (lv_at hl 0 rfl) ?_
  exact W.iret hx hb hr (fun t ht hW => ⟨⟨_, (), rfl, rfl, trivial⟩, hS.F ht⟩) hS.2.2 jd_pck_17
theorem jd_chk_0 : decode jb_c_chk 0 = .ok (.iload_n 0, 1) := by decide +kernel
theorem jd_chk_1 : decode jb_c_chk 1 = .ok (.iload_n 1, 1) := by decide +kernel
theorem jd_chk_2 : decode jb_c_chk 2 = .ok (.getstatic 1053, 3) := by decide +kernel
theorem jd_chk_5 : decode jb_c_chk 5 = .ok (.invokestatic 1059, 3) := by decide +kernel
theorem jd_chk_8 : decode jb_c_chk 8 = .ok (.pop, 1) := by decide +kernel
theorem jd_chk_9 : decode jb_c_chk 9 = .ok (.return_, 1) := by decide +kernel
def jk_Qv : Array Value → State → Outcome → State → Prop := va_Qv (fun (_ : Unit) => True) (fun _ _ => True) (fun _ => False)
theorem jk_chk {x n : Int32} (h0 : ¬ x < 0) (hn : x < n) : Met l jy_chk (Cond.code jy_chk jb_c_chk 2 none :: jm_WW) (jk_rm 2 100) (jk_Pc D tys A S [.int x, .int n]) jk_Qv 0 0 (fun _ => False) := by
  refine Met.ofW (cc := jb_c_chk) (maxL := 2) (ret := none) (by decide +kernel) rfl ?_
  intro p e s m args below meth c s₁ B hml hv
  obtain ⟨rfl, hk⟩ := hv
  have hx := B.exec
  have hb := B.bytes
  have hr := B.returns
  have hts0 := atoms_spec (ws := Cond.code jy_chk jb_c_chk 2 none :: jm_WW) B.pre
  have hts : ∀ w ∈ jm_WW, w.before _ s = true := fun w hw => hts0 w (List.mem_cons_of_mem _ hw)
  have hown : s.vm.findClass "java/lang/String" = some m.cls := findClass_of_methodNamed B.named
  have hlocks := B.notSynchronized
  have hS : va_S (fun _ => False) s.heap s.heap [] := va_S.rf
  have hl := lv_entry ([.int x, .int n]) (n := 2) (Nat.le_of_ble_eq_true rfl)
  rw [lg_entry_eq]
  generalize (lg_sl ([.int x, .int n]) ++ List.replicate (2 - (lg_sl ([.int x, .int n])).length) Slot.unset).toArray = ls at hl ⊢
  have hl : lv_has ls 2 [(0, .int x), (1, .int n)] := hl
  have hk0 := hk
  obtain ⟨-, -, -, -, -, -, -, -, -, hz, -⟩ := hk
  refine lv_iload_n hx hb jd_chk_0 rfl (lv_at hl 0 rfl) ?_
  refine lv_iload_n hx hb jd_chk_1 rfl (lv_at hl 1 rfl) ?_
  have go : ∀ v : Value, v.category = 1 → W p l e (headSpec (Cond.code jy_chk jb_c_chk 2 none :: jm_WW) (jk_rm 2 100)).room s m ([.int x, .int n] : List Value).toArray below meth c s.heap [] 0 0 (MQ below jk_Qv ([.int x, .int n] : List Value).toArray s 0 0 (fun _ => False)) (F0 m (2 + 3) ls [v, .int n, .int x]) := by
    intro v hv1
    refine va_calli (va_runS (As := [.int x, .int n, v]) (rest := []) ⟨hx, hb, hml, hown, hts⟩ (jk_pck (l := l) hv1 h0 hn) (jm_cS 3 hts jl_pchk jt_pchk jb_pre jw_pchk rfl rfl (by decide +kernel) ⟨Nat.le_of_ble_eq_true rfl, Nat.le_of_ble_eq_true rfl⟩) ⟨jk_blind, fun U hU hW => jk_pre hk0 hS hU hW⟩ rfl rfl hl.1 rfl (lv_room (Nat.le_of_ble_eq_true rfl)) jd_chk_5 ⟨Nat.le_of_ble_eq_true rfl, Nat.le_of_ble_eq_true rfl⟩) hS (fun q _ h => h) (fun q h => h) (fun r u t H1 locs ht hvm hw hB hz1 hk1 hS => ?_)
    refine lv_pop hx hb jd_chk_8 rfl ?_
    exact W.vret hx hb hr (fun t ht hW => ⟨⟨(), rfl, trivial, trivial⟩, hS.F ht⟩) hS.2.2 jd_chk_9
  rcases (hz.narrow (B := fun _ => False) (fun _ z => z.elim)) with h | ⟨t, h⟩
  · exact va_gets hx hb h hS hown (hts _ jf_sioobe) (fun x h => h) jd_chk_2 (go _ rfl)
  · exact va_gets hx hb h hS hown (hts _ jf_sioobe) (fun x h => h) jd_chk_2 (go _ rfl)
theorem jd_l1c_0 : decode jb_c_l1charAt 0 = .ok (.iload_n 1, 1) := by decide +kernel
theorem jd_l1c_1 : decode jb_c_l1charAt 1 = .ok (.aload_n 0, 1) := by decide +kernel
theorem jd_l1c_2 : decode jb_c_l1charAt 2 = .ok (.arraylength, 1) := by decide +kernel
theorem jd_l1c_3 : decode jb_c_l1charAt 3 = .ok (.invokestatic 9, 3) := by decide +kernel
theorem jd_l1c_6 : decode jb_c_l1charAt 6 = .ok (.aload_n 0, 1) := by decide +kernel
theorem jd_l1c_7 : decode jb_c_l1charAt 7 = .ok (.iload_n 1, 1) := by decide +kernel
theorem jd_l1c_8 : decode jb_c_l1charAt 8 = .ok (.baload, 1) := by decide +kernel
theorem jd_l1c_9 : decode jb_c_l1charAt 9 = .ok (.sipush 255, 3) := by decide +kernel
theorem jd_l1c_12 : decode jb_c_l1charAt 12 = .ok (.iand, 1) := by decide +kernel
theorem jd_l1c_13 : decode jb_c_l1charAt 13 = .ok (.i2c, 1) := by decide +kernel
theorem jd_l1c_14 : decode jb_c_l1charAt 14 = .ok (.ireturn, 1) := by decide +kernel
/-- every literal: its length is its list's, every char is a char -/
theorem jk_all : ∀ i, i < 12 → (jm_sL.getD i 0 = (jm_sB.getD i []).length ∧ jm_sL.getD i 0 < 2 ^ 31 ∧ ∀ b ∈ jm_sB.getD i [], ((b &&& 255).toUInt32 % 65536).toInt32 = b ∧ narrow .char (.int b) = .int b) := by decide +kernel
theorem jk_chr {i k : Nat} (hi : i < 12) (hk : k < jm_sL.getD i 0) : ((((jm_sB.getD i []).getD k 0) &&& 255).toUInt32 % 65536).toInt32 = (jm_sB.getD i []).getD k 0 ∧ narrow .char (.int ((jm_sB.getD i []).getD k 0)) = .int ((jm_sB.getD i []).getD k 0) := by
  obtain ⟨h1, h2, h3⟩ := jk_all i hi
  refine h3 _ ?_
  rw [h1] at hk
  generalize jm_sB.getD i [] = L at hk ⊢
  have e : L.getD k 0 = L[k] := by simp [List.getD, hk]
  rw [e]
  exact List.getElem_mem hk
theorem jk_l1c {i k : Nat} {adV : Nat → Nat} (hi : i < 12) (hk : k < jm_sL.getD i 0) : Met l jy_l1charAt (Cond.code jy_l1charAt jb_c_l1charAt 2 (some .char) :: jm_WW) (jk_rm 3 150) (va_Pc [.ref (adV i), .int (nI k)] (fun U => jm_Kn D tys A S U U.heap ∧ vk_S 12 jm_sL jm_sB S.2.2.2 adV A U U.heap)) (jk_Qi ((jm_sB.getD i []).getD k 0)) 0 0 (fun _ => False) := by
  refine Met.ofW (cc := jb_c_l1charAt) (maxL := 2) (ret := some .char) (by decide +kernel) rfl ?_
  intro p e s m args below meth c s₁ B hml hv
  obtain ⟨rfl, hkn, h5⟩ := hv
  have hx := B.exec
  have hb := B.bytes
  have hr := B.returns
  have hts0 := atoms_spec (ws := Cond.code jy_l1charAt jb_c_l1charAt 2 (some .char) :: jm_WW) B.pre
  have hts : ∀ w ∈ jm_WW, w.before _ s = true := fun w hw => hts0 w (List.mem_cons_of_mem _ hw)
  have hown : s.vm.findClass "java/lang/StringLatin1" = some m.cls := findClass_of_methodNamed B.named
  have hlocks := B.notSynchronized
  have hS : va_S (fun _ => False) s.heap s.heap [] := va_S.rf
  have hl := lv_entry ([.ref (adV i), .int (nI k)]) (n := 2) (Nat.le_of_ble_eq_true rfl)
  rw [lg_entry_eq]
  generalize (lg_sl ([.ref (adV i), .int (nI k)]) ++ List.replicate (2 - (lg_sl ([.ref (adV i), .int (nI k)])).length) Slot.unset).toArray = ls at hl ⊢
  have hl : lv_has ls 2 [(0, .ref (adV i)), (1, .int (nI k))] := hl
  have hL := (jk_all i hi).2.1
  have hT := (h5.1 i hi).2.2.2.narrow (B := fun _ => False) (fun _ z => z.elim)
  refine lv_iload_n hx hb jd_l1c_0 rfl (lv_at hl 1 rfl) ?_
  refine lv_aload_n hx hb jd_l1c_1 rfl (lv_at hl 0 rfl) ?_
  refine va_tlen hx hb hT hS rfl jd_l1c_2 ?_
  refine va_callv (va_runS (As := [.int (nI k), .int (nI (jm_sL.getD i 0))]) (rest := []) ⟨hx, hb, hml, hown, hts⟩ (jk_chk (l := l) (nI_pos (by omega)) (nI_lt hk hL)) (jm_cS 2 hts jl_chk jt_chk jb_str jw_chk rfl rfl (by decide +kernel) ⟨Nat.le_of_ble_eq_true rfl, Nat.le_of_ble_eq_true rfl⟩) ⟨jk_blind, fun U hU hW => jk_pre hkn hS hU hW⟩ rfl rfl hl.1 rfl (lv_room (Nat.le_of_ble_eq_true rfl)) jd_l1c_3 ⟨Nat.le_of_ble_eq_true rfl, Nat.le_of_ble_eq_true rfl⟩) hS (fun q _ h => h) (fun q h => h) (fun u t H1 locs ht hvm hw hB hz1 hk1 hS => ?_)
  refine lv_aload_n hx hb jd_l1c_6 rfl (lv_at hl 0 rfl) ?_
  refine lv_iload_n hx hb jd_l1c_7 rfl (lv_at hl 1 rfl) ?_
  refine va_tb hx hb hT hS (vp_in_nI hk hL) (v := .int ((jm_sB.getD i []).getD k 0)) (by rw [nI_clamp (by omega)]) jd_l1c_8 ?_
  refine lv_sipush (v := 255) hx hb jd_l1c_9 (by decide) ?_
  refine lv_iand hx hb jd_l1c_12 ?_
  refine lv_i2c hx hb jd_l1c_13 (jk_chr hi hk).1 ?_
  exact W.zret hx hb hr (jk_chr hi hk).2 (fun t ht hW => ⟨⟨_, (), rfl, rfl, trivial⟩, hS.F ht⟩) hS.2.2 jd_l1c_14
theorem jd_cat_0 : decode jb_c_charAt 0 = .ok (.aload_n 0, 1) := by decide +kernel
theorem jd_cat_1 : decode jb_c_charAt 1 = .ok (.invokevirtual 492, 3) := by decide +kernel
theorem jd_cat_4 : decode jb_c_charAt 4 = .ok (.ifCond .eq 12, 3) := by decide +kernel
theorem jd_cat_7 : decode jb_c_charAt 7 = .ok (.aload_n 0, 1) := by decide +kernel
theorem jd_cat_8 : decode jb_c_charAt 8 = .ok (.getfield 9, 3) := by decide +kernel
theorem jd_cat_11 : decode jb_c_charAt 11 = .ok (.iload_n 1, 1) := by decide +kernel
theorem jd_cat_12 : decode jb_c_charAt 12 = .ok (.invokestatic 495, 3) := by decide +kernel
theorem jd_cat_15 : decode jb_c_charAt 15 = .ok (.ireturn, 1) := by decide +kernel
theorem jk_charAt {i k : Nat} (hi : i < 12) (hk : k < jm_sL.getD i 0) : Met l jy_charAt (Cond.code jy_charAt jb_c_charAt 2 (some .char) :: jm_WW) (jk_rm 4 200) (jk_Pc D tys A S [.ref (S.2.2.2 i), .int (nI k)]) (jk_Qi ((jm_sB.getD i []).getD k 0)) 0 0 (fun _ => False) := by
  refine Met.ofW (cc := jb_c_charAt) (maxL := 2) (ret := some .char) (by decide +kernel) rfl ?_
  intro p e s m args below meth c s₁ B hml hv
  obtain ⟨rfl, hkn⟩ := hv
  have hx := B.exec
  have hb := B.bytes
  have hr := B.returns
  have hts0 := atoms_spec (ws := Cond.code jy_charAt jb_c_charAt 2 (some .char) :: jm_WW) B.pre
  have hts : ∀ w ∈ jm_WW, w.before _ s = true := fun w hw => hts0 w (List.mem_cons_of_mem _ hw)
  have hown : s.vm.findClass "java/lang/String" = some m.cls := findClass_of_methodNamed B.named
  have hlocks := B.notSynchronized
  have hS : va_S (fun _ => False) s.heap s.heap [] := va_S.rf
  have hl := lv_entry ([.ref (S.2.2.2 i), .int (nI k)]) (n := 2) (Nat.le_of_ble_eq_true rfl)
  rw [lg_entry_eq]
  generalize (lg_sl ([.ref (S.2.2.2 i), .int (nI k)]) ++ List.replicate (2 - (lg_sl ([.ref (S.2.2.2 i), .int (nI k)])).length) Slot.unset).toArray = ls at hl ⊢
  have hl : lv_has ls 2 [(0, .ref (S.2.2.2 i)), (1, .int (nI k))] := hl
  obtain ⟨-, -, ⟨adV, h5⟩, -⟩ := id hkn
  refine lv_aload_n hx hb jd_cat_0 rfl (lv_at hl 0 rfl) ?_
  refine va_calli (va_runV (As := []) (rest := []) ⟨hx, hb, hml, hown, hts⟩ (jk_lat (l := l) hi) (jm_cV 0 hts jl_isLatin1 ji_isLatin1 js_isLatin1 jb_str jw_isLatin1 rfl rfl (by decide +kernel) ⟨Nat.le_of_ble_eq_true rfl, Nat.le_of_ble_eq_true rfl⟩) ⟨jk_blind, vk_recv h5 hi va_S.rf, fun U hU hW => jk_pre hkn hS hU hW⟩ rfl rfl hl.1 rfl (lv_room (Nat.le_of_ble_eq_true rfl)) jd_cat_1 ⟨Nat.le_of_ble_eq_true rfl, Nat.le_of_ble_eq_true rfl⟩) hS (fun q _ h => h) (fun q h => h) (fun r u t H1 locs ht hvm hw hB hz1 hk1 hS => ?_)
  subst hw
  refine lv_if_eq (tgt := 16) hx hb jd_cat_4 (by decide) (fun z => absurd z (by decide)) (fun _ => ?_)
  refine lv_aload_n hx hb jd_cat_7 rfl (lv_at hl 0 rfl) ?_
  refine vk_getf hx hb ((h5.1 i hi).2.2.1.narrow (B := fun _ => False) (fun _ z => z.elim)) hS hown (hts _ jf_value) (fun x h => h) jd_cat_8 ?_
  refine lv_iload_n hx hb jd_cat_11 rfl (lv_at hl 1 rfl) ?_
  have hn := jk_nil hS
  subst hn
  refine va_calli (va_runS (As := [.ref (adV i), .int (nI k)]) (rest := []) ⟨hx, hb, hml, hown, hts⟩ (jk_l1c (l := l) (D := D) (tys := tys) (A := A) (S := S) (adV := adV) hi hk) (jm_cS 2 hts jl_l1charAt jt_l1charAt jb_l1 jw_l1charAt rfl rfl (by decide +kernel) ⟨Nat.le_of_ble_eq_true rfl, Nat.le_of_ble_eq_true rfl⟩) ⟨fun a U g mk h => ⟨h.1, h.2.1.mv (State.WarmedH.refl U) (Nat.le_refl _) (fun _ _ _ => rfl), vk_S.moved (Vm.Alike.refl U.vm) h.2.2⟩, fun U hU hW => ⟨rfl, by rw [hU]; exact hkn.mv hW hS.1 (fun a h1 _ => hS.2.1 a h1 (fun z => z)), by rw [hU]; exact vk_S.moved hW.alike (h5.kept (fun a h1 _ => hS.2.1 a h1 (fun z => z)))⟩⟩ rfl rfl hl.1 rfl (lv_room (Nat.le_of_ble_eq_true rfl)) jd_cat_12 ⟨Nat.le_of_ble_eq_true rfl, Nat.le_of_ble_eq_true rfl⟩) hS (fun q _ h => h) (fun q h => h) (fun r u t H1 locs ht hvm hw hB hz1 hk1 hS => ?_)
  subst hw
  exact W.zret hx hb hr (jk_chr hi hk).2 (fun t ht hW => ⟨⟨_, (), rfl, rfl, trivial⟩, hS.F ht⟩) hS.2.2 jd_cat_15
end JK
