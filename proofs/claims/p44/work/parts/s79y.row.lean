/-! Members that write or make rows: String.getBytes into a row, Arrays.copyOf of a row of objects. -/
section JR
variable {l : Launch} {D : va_G} {tys : List (ClassId × FieldType)} {A : Nat → Prop} {S : jm_Sp} {ρ : Nat → Nat} {m1 : jm_Mem}
/-- the world at such a member's start, its arguments as they are -/
def jr_Pc (D : va_G) (tys : List (ClassId × FieldType)) (A : Nat → Prop) (S : jm_Sp) (ρ : Nat → Nat) (m1 : jm_Mem) (av : List Value) (F : State → Prop) : Array Value → State → Prop := va_Pc av (fun U => va_P D vwCl (jm_ws ρ tys m1) U.heap ∧ va_D A (jm_ws ρ tys m1) ∧ jm_Kn D tys A S U U.heap ∧ F U)
theorem jr_blind {av : List Value} {F : State → Prop} (hF : ∀ (u U : State), u.vm.Alike U.vm → F u → F U) : FrameBlind (jr_Pc D tys A S ρ m1 av F) := fun _ U _ _ h => ⟨h.1, h.2.1, h.2.2.1, h.2.2.2.1.mv (State.WarmedH.refl U) (Nat.le_refl _) (fun _ _ _ => rfl), hF U _ (Vm.Alike.refl U.vm) h.2.2.2.2⟩
theorem jr_byt : ∀ i, i < 12 → (jm_sL.getD i 0 = (jm_sB.getD i []).length ∧ jm_sL.getD i 0 < 2 ^ 31 ∧ ∀ b ∈ jm_sB.getD i [], fits .byte (.int b) = true) := by decide +kernel
theorem jr_fit {i k : Nat} (hi : i < 12) (hk : k < jm_sL.getD i 0) : fits .byte (.int ((jm_sB.getD i []).getD k 0)) = true := by
  obtain ⟨h1, h2, h3⟩ := jr_byt i hi
  refine h3 _ ?_
  rw [h1] at hk
  generalize jm_sB.getD i [] = L at hk ⊢
  have e : L.getD k 0 = L[k] := by simp [List.getD, hk]
  rw [e]
  exact List.getElem_mem hk
theorem jd_gb_0 : decode jb_c_getBytes 0 = .ok (.aload_n 0, 1) := by decide +kernel
theorem jd_gb_1 : decode jb_c_getBytes 1 = .ok (.invokevirtual 335, 3) := by decide +kernel
theorem jd_gb_4 : decode jb_c_getBytes 4 = .ok (.iload_n 3, 1) := by decide +kernel
theorem jd_gb_5 : decode jb_c_getBytes 5 = .ok (.if_icmp .ne 23, 3) := by decide +kernel
theorem jd_gb_8 : decode jb_c_getBytes 8 = .ok (.aload_n 0, 1) := by decide +kernel
theorem jd_gb_9 : decode jb_c_getBytes 9 = .ok (.getfield 9, 3) := by decide +kernel
theorem jd_gb_12 : decode jb_c_getBytes 12 = .ok (.iconst 0, 1) := by decide +kernel
theorem jd_gb_13 : decode jb_c_getBytes 13 = .ok (.aload_n 1, 1) := by decide +kernel
theorem jd_gb_14 : decode jb_c_getBytes 14 = .ok (.iload_n 2, 1) := by decide +kernel
theorem jd_gb_15 : decode jb_c_getBytes 15 = .ok (.iload_n 3, 1) := by decide +kernel
theorem jd_gb_16 : decode jb_c_getBytes 16 = .ok (.ishl, 1) := by decide +kernel
theorem jd_gb_17 : decode jb_c_getBytes 17 = .ok (.aload_n 0, 1) := by decide +kernel
theorem jd_gb_18 : decode jb_c_getBytes 18 = .ok (.getfield 9, 3) := by decide +kernel
theorem jd_gb_21 : decode jb_c_getBytes 21 = .ok (.arraylength, 1) := by decide +kernel
theorem jd_gb_22 : decode jb_c_getBytes 22 = .ok (.invokestatic 212, 3) := by decide +kernel
theorem jd_gb_25 : decode jb_c_getBytes 25 = .ok (.goto 18, 3) := by decide +kernel
theorem jd_gb_43 : decode jb_c_getBytes 43 = .ok (.return_, 1) := by decide +kernel
theorem jk_shl0 (x : Int32) : x <<< ((0 : Int32) &&& 31) = x := by
  apply Int32.toBitVec_inj.mp
  rw [Int32.toBitVec_shiftLeft]
  have e : (((0 : Int32) &&& 31).toBitVec.smod 32) = 0#32 := by decide
  rw [e]
  simp
/-- the row after getBytes -/
def jr_gbW (ρ : Nat → Nat) (tys : List (ClassId × FieldType)) (m1 : jm_Mem) (dst n1 i : Nat) (g : Nat → Int32) (b : Int32) : va_W := (jm_ws ρ tys m1).set dst (ρ dst, .inl (jm_ct tys 9, n1, .inl (va_cpy (fun j => (jm_sB.getD i []).getD j 0) g 0 b.toNatClampNeg (jm_sL.getD i 0))))
def jr_Qgb (D : va_G) (A : Nat → Prop) (ws : va_W) : Array Value → State → Outcome → State → Prop := va_Qv (fun (_ : Unit) => True) (fun _ t => va_P D vwCl ws t.heap ∧ va_D A ws) A
theorem jk_gtb {i dst n1 : Nat} {g : Nat → Int32} {b : Int32} (hi : i < 12) (hty : jm_tyOk tys) (hd : (jm_ws ρ tys m1)[dst]? = some (ρ dst, .inl (jm_ct tys 9, n1, .inl g))) (hb0 : ¬ b < 0) (hbn : b.toNatClampNeg + jm_sL.getD i 0 ≤ n1) :
    Met l jy_getBytes (Cond.code jy_getBytes jb_c_getBytes 4 none :: jm_WW) (jk_rm 2 250) (jr_Pc D tys A S ρ m1 [.ref (S.2.2.2 i), .ref (ρ dst), .int b, .int 0] (fun _ => True)) (jr_Qgb D A (jr_gbW ρ tys m1 dst n1 i g b)) 0 0 A := by
  refine va_MetF (cc := jb_c_getBytes) (maxL := 4) (ret := none) (by decide +kernel) rfl ?_
  intro p e s m args below meth c s₁ B hml hv
  obtain ⟨rfl, hP, hD, hkn, -⟩ := hv
  have hx := B.exec
  have hb := B.bytes
  have hr := B.returns
  have hts0 := atoms_spec (ws := Cond.code jy_getBytes jb_c_getBytes 4 none :: jm_WW) B.pre
  have hts : ∀ w ∈ jm_WW, w.before _ s = true := fun w hw => hts0 w (List.mem_cons_of_mem _ hw)
  have hown : s.vm.findClass "java/lang/String" = some m.cls := findClass_of_methodNamed B.named
  have hlocks := B.notSynchronized
  have hS : va_S A s.heap s.heap [] := va_S.rf
  have z3 := nfw
  have hl := lv_entry ([.ref (S.2.2.2 i), .ref (ρ dst), .int b, .int 0]) (n := 4) (Nat.le_of_ble_eq_true rfl)
  rw [lg_entry_eq]
  generalize (lg_sl ([.ref (S.2.2.2 i), .ref (ρ dst), .int b, .int 0]) ++ List.replicate (4 - (lg_sl ([.ref (S.2.2.2 i), .ref (ρ dst), .int b, .int 0])).length) Slot.unset).toArray = ls at hl ⊢
  have hl : lv_has ls 4 [(0, .ref (S.2.2.2 i)), (1, .ref (ρ dst)), (2, .int b), (3, .int 0)] := hl
  obtain ⟨h1, -, ⟨adV, h5⟩, -⟩ := id hkn
  obtain ⟨hq1, hq2, -⟩ := jr_byt i hi
  refine lv_aload_n hx hb jd_gb_0 rfl (lv_at hl 0 rfl) ?_
  refine va_calli (va_runV (As := []) (rest := []) ⟨hx, hb, hml, hown, hts⟩ (jk_coder (l := l) hi) (jm_cV 0 hts jl_coder ji_coder js_coder jb_str jw_coder rfl rfl (by decide +kernel) ⟨Nat.le_of_ble_eq_true rfl, Nat.le_of_ble_eq_true rfl⟩) ⟨jk_blind, vk_recv h5 hi va_S.rf, fun U hU hW => jk_pre hkn va_S.rf hU hW⟩ rfl rfl hl.1 rfl (lv_room (Nat.le_of_ble_eq_true rfl)) jd_gb_1 ⟨Nat.le_of_ble_eq_true rfl, Nat.le_of_ble_eq_true rfl⟩) hS (fun q _ h => h.elim) (fun q h => h.elim) (fun r u t H1 locs ht hvm hw hB hz1 hk1 hS => ?_)
  subst hw
  have hP1 : va_P D vwCl (jm_ws ρ tys m1) H1 := hP.kept (fun k q hk => hk1 q.1 ((hP k q hk).lt) (fun z => z))
  refine lv_iload_n hx hb jd_gb_4 rfl (lv_at hl 3 rfl) ?_
  refine lv_icmp_ne (tgt := 28) hx hb jd_gb_5 (by decide) (fun z => absurd rfl z) (fun _ => ?_)
  refine lv_aload_n hx hb jd_gb_8 rfl (lv_at hl 0 rfl) ?_
  refine vk_getf hx hb (h5.1 i hi).2.2.1 hS hown (hts _ jf_value) (fun x h => h) jd_gb_9 ?_
  refine lv_iconst (v := 0) hx hb jd_gb_12 (by decide) ?_
  refine lv_aload_n hx hb jd_gb_13 rfl (lv_at hl 1 rfl) ?_
  refine lv_iload_n hx hb jd_gb_14 rfl (lv_at hl 2 rfl) ?_
  refine lv_iload_n hx hb jd_gb_15 rfl (lv_at hl 3 rfl) ?_
  refine lv_ishl hx hb jd_gb_16 ?_
  rw [jk_shl0]
  refine lv_aload_n hx hb jd_gb_17 rfl (lv_at hl 0 rfl) ?_
  refine vk_getf hx hb (h5.1 i hi).2.2.1 hS hown (hts _ jf_value) (fun x h => h) jd_gb_18 ?_
  refine va_tlen hx hb (h5.1 i hi).2.2.2 hS rfl jd_gb_21 ?_
  have ecl : (Int32.ofNat (jm_sL.getD i 0)).toNatClampNeg = jm_sL.getD i 0 := Int32.toNatClampNeg_ofNat_of_lt hq2
  refine vk_copyt hx hb (by rw [hml]; exact hl.1.symm) hown (hts _ jl_copyS) (hts _ jn_copy) (hts _ jt_copy) (hts _ jb_sys) h1 hP1 hD hS (h5.1 i hi).2.2.2 dst 9 hd (jm_tyAt hty rfl) (by decide) hb0 (nI_pos hq2) (by rw [ecl]; show 0 + _ ≤ _; omega) (by rw [ecl]; exact hbn) (fun k hk => jr_fit hi (by rw [ecl] at hk; show 0 + k < _; omega)) (Nat.le_of_ble_eq_true rfl) (by show 0 + _ ≤ 250; omega) jd_gb_22 (fun H2 l2 g1 g2 g3 => ?_)
  rw [ecl] at g1 g2
  refine lv_goto (tgt := 43) hx hb jd_gb_25 (by decide) ?_
  exact W.vret hx hb hr (fun t ht hW => ⟨⟨(), rfl, trivial, by subst ht; exact ⟨g1, g2⟩⟩, g3.F ht⟩) g3.2.2 jd_gb_43
theorem jd_co_0 : decode jb_c_copyO 0 = .ok (.aload_n 0, 1) := by decide +kernel
theorem jd_co_1 : decode jb_c_copyO 1 = .ok (.iload_n 1, 1) := by decide +kernel
theorem jd_co_2 : decode jb_c_copyO 2 = .ok (.aload_n 0, 1) := by decide +kernel
theorem jd_co_3 : decode jb_c_copyO 3 = .ok (.invokevirtual 86, 3) := by decide +kernel
theorem jd_co_6 : decode jb_c_copyO 6 = .ok (.invokestatic 300, 3) := by decide +kernel
theorem jd_co_9 : decode jb_c_copyO 9 = .ok (.areturn, 1) := by decide +kernel
theorem jd_cc_0 : decode jb_c_copyC 0 = .ok (.aload_n 2, 1) := by decide +kernel
theorem jd_cc_1 : decode jb_c_copyC 1 = .ok (.ldc 110, 2) := by decide +kernel
theorem jd_cc_3 : decode jb_c_copyC 3 = .ok (.if_acmp .ne 10, 3) := by decide +kernel
theorem jd_cc_6 : decode jb_c_copyC 6 = .ok (.iload_n 1, 1) := by decide +kernel
theorem jd_cc_7 : decode jb_c_copyC 7 = .ok (.anewarray 2, 3) := by decide +kernel
theorem jd_cc_10 : decode jb_c_copyC 10 = .ok (.goto 14, 3) := by decide +kernel
theorem jd_cc_24 : decode jb_c_copyC 24 = .ok (.astore_n 3, 1) := by decide +kernel
theorem jd_cc_25 : decode jb_c_copyC 25 = .ok (.aload_n 0, 1) := by decide +kernel
theorem jd_cc_26 : decode jb_c_copyC 26 = .ok (.iconst 0, 1) := by decide +kernel
theorem jd_cc_27 : decode jb_c_copyC 27 = .ok (.aload_n 3, 1) := by decide +kernel
theorem jd_cc_28 : decode jb_c_copyC 28 = .ok (.iconst 0, 1) := by decide +kernel
theorem jd_cc_29 : decode jb_c_copyC 29 = .ok (.aload_n 0, 1) := by decide +kernel
theorem jd_cc_30 : decode jb_c_copyC 30 = .ok (.arraylength, 1) := by decide +kernel
theorem jd_cc_31 : decode jb_c_copyC 31 = .ok (.iload_n 1, 1) := by decide +kernel
theorem jd_cc_32 : decode jb_c_copyC 32 = .ok (.invokestatic 304, 3) := by decide +kernel
theorem jd_cc_35 : decode jb_c_copyC 35 = .ok (.invokestatic 150, 3) := by decide +kernel
theorem jd_cc_38 : decode jb_c_copyC 38 = .ok (.aload_n 3, 1) := by decide +kernel
theorem jd_cc_39 : decode jb_c_copyC 39 = .ok (.areturn, 1) := by decide +kernel
theorem jr_cA {s : State} {t : Nat} {ty : FieldType} (hty : jm_tyOk tys) (hK0 : va_K D vwCl tys s) (ht : jm_tyL[t]? = some ty) {cA : ClassId} (hK : va_K D vwCl (tys ++ [(cA, ty)]) s) : cA = jm_ct tys t := by
  have h1 := (hK0.2 t _ (jm_tyAt hty ht)).2
  have h2 := (hK.2 tys.length (cA, ty) (by simp)).2
  unfold va_RA at h1 h2
  cases ty with
  | object C =>
    obtain ⟨kA, comp, a1, a2, a3, a4⟩ := h1
    obtain ⟨kB, comp2, b1, b2, b3, b4⟩ := h2
    exact Option.some.inj (b4.symm.trans a4)
  | _ => exact Option.some.inj (h2.symm.trans h1)
/-- the objects of a row are all of that class -/
def jr_el (S : jm_Sp) (ρ : Nat → Nat) (m1 : jm_Mem) (n : Nat) (f : Nat → Option Nat) (ci : Nat) : Prop := ∀ j, j < n → ∀ x, f j = some x → (ci < 18 ∧ x < m1.1 ∧ ∃ fs, m1.2.1 x = .inr (ci, fs)) ∨ (ci = 16 ∧ ∃ k, k < 256 ∧ ρ x = S.2.2.2 (1000 + k))
theorem jr_cell {s : State} {H : Heap} {locs : List Loc} {ws : va_W} {n ci : Nat} {f : Nat → Option Nat} (hkn : jm_Kn D tys A S s s.heap) (hS : va_S A s.heap H locs) (hP : va_P D vwCl ws H) (hws : ∀ (k : Nat) (q : Nat × va_E), (jm_ws ρ tys m1)[k]? = some q → ws[k]? = some q) (hel : jr_el S ρ m1 n f ci) {j y : Nat} (hj : j < n) (hy : (f j).map ρ = some y) : ∃ cell : Cell, H[y]? = some cell ∧ cell.vm.isStatics = false ∧ s.vm.findClass (jm_cn ci) = some cell.cls := by
  obtain ⟨x, hx, rfl⟩ := Option.map_eq_some_iff.mp hy
  rcases hel j hj x hx with ⟨h18, h1, fs, h2⟩ | ⟨rfl, k, hk, h2⟩
  · have h3 : (jm_ws ρ tys m1)[x]? = some (ρ x, .inr (ci, fs.map (jm_cv ρ))) := by
      rw [jm_ws_get h1, h2]; rfl
    obtain ⟨q, hq, -⟩ := hP x _ (hws _ _ h3)
    have hq : vwCl[ci]? = some q := hq
    obtain ⟨hn, -⟩ := jm_clOk hq
    rw [hn]
    exact va_recv hkn.1 hP hq (hws _ _ h3)
  · obtain ⟨cell, g1, g2, g3, -⟩ := ((jk_Kl hkn).1.1 k hk).kept hS.2.1
    rw [h2]
    exact ⟨cell, g1, g2, g3⟩
/-- the new row -/
def jr_cp (ρ : Nat → Nat) (f : Nat → Option Nat) (n : Nat) : Nat → Option Nat := va_cpy (fun j => (f j).map ρ) (fun _ => none) 0 0 n
def jr_Qco (D : va_G) (A : Nat → Prop) (ws : Nat → va_W) : Array Value → State → Outcome → State → Prop := va_Qr (fun (_ : Nat) => True) (fun q ra t => ra = q ∧ va_P D vwCl (ws q) t.heap ∧ va_D A (ws q)) A
theorem jk_cpc {r n mi ci : Nat} {f : Nat → Option Nat} {k : Int32} (hty : jm_tyOk tys) (hd : (jm_ws ρ tys m1)[r]? = some (ρ r, .inl (jm_ct tys 6, n, .inr (.inr (.inr (.inr (fun j => (f j).map ρ))))))) (hk0 : ¬ k < 0) (hkn0 : n ≤ k.toNatClampNeg) (hkm : k.toNatClampNeg ≤ 10000000) (hci : ci = 16 ∨ ci = 17 ∨ ci = 12) (hel : jr_el S ρ m1 n f ci) :
    Met l jy_copyC (Cond.code jy_copyC jb_c_copyC 4 (some (.array (.object "java/lang/Object"))) :: jm_WW) { frames := 2, cells := 1, slots := k.toNatClampNeg, locals := 230 } (jr_Pc D tys A S ρ m1 [.ref (ρ r), .int k, .ref mi] (fun U => va_Mi "[Ljava/lang/Object;" mi U)) (jr_Qco D A (fun q => jm_ws ρ tys m1 ++ [(q, .inl (jm_ct tys 6, k.toNatClampNeg, .inr (.inr (.inr (.inr (jr_cp ρ f n))))))])) 1 k.toNatClampNeg A := by
  refine va_MetF (cc := jb_c_copyC) (maxL := 4) (ret := some (.array (.object "java/lang/Object"))) (by decide +kernel) rfl ?_
  intro p e s m args below meth c s₁ B hml hv
  obtain ⟨rfl, hP, hD, hkn, hmi⟩ := hv
  have hx := B.exec
  have hb := B.bytes
  have hr := B.returns
  have hts0 := atoms_spec (ws := Cond.code jy_copyC jb_c_copyC 4 (some (.array (.object "java/lang/Object"))) :: jm_WW) B.pre
  have hts : ∀ w ∈ jm_WW, w.before _ s = true := fun w hw => hts0 w (List.mem_cons_of_mem _ hw)
  have hown : s.vm.findClass "java/util/Arrays" = some m.cls := findClass_of_methodNamed B.named
  have hlocks := B.notSynchronized
  have hS : va_S A s.heap s.heap [] := va_S.rf
  have z3 := nfw
  have hrlt : r < (jm_ws ρ tys m1).length := (List.getElem?_eq_some_iff.mp hd).1
  have hl := lv_entry ([.ref (ρ r), .int k, .ref mi]) (n := 4) (Nat.le_of_ble_eq_true rfl)
  rw [lg_entry_eq]
  generalize (lg_sl ([.ref (ρ r), .int k, .ref mi]) ++ List.replicate (4 - (lg_sl ([.ref (ρ r), .int k, .ref mi])).length) Slot.unset).toArray = ls at hl ⊢
  have hl : lv_has ls 4 [(0, .ref (ρ r)), (1, .int k), (2, .ref mi)] := hl
  refine lv_aload_n hx hb jd_cc_0 rfl (lv_at hl 2 rfl) ?_
  refine va_ldcM hx hb hown (hts _ jk_oarr) hmi jd_cc_1 ?_
  refine lv_acmp_ne (rx := some mi) (ry := some mi) (tgt := 13) hx hb jd_cc_3 (by decide) (fun z => absurd rfl z) (fun _ => ?_)
  refine lv_iload_n hx hb jd_cc_6 rfl (lv_at hl 1 rfl) ?_
  refine va_newq hx hb hown (hts _ jk_obj) (hkn.2.2.2.2.2.2.2.1 _ jo_O) hkn.1 hP hD hS hkn.2.2.2.2.2.2.2.2.1 hk0 rfl (by omega) (by show 0 + 1 ≤ 1; omega) (by show 0 + k.toNatClampNeg ≤ k.toNatClampNeg; omega) jd_cc_7 fun q cA H1 gK g1 g2 g3 => ?_
  rw [jr_cA hty hkn.1 (t := 6) rfl gK] at g1 g2
  refine lv_goto (tgt := 24) hx hb jd_cc_10 (by decide) ?_
  refine lv_astore_n hx hb jd_cc_24 rfl hl (Nat.le_of_ble_eq_true rfl) rfl (fun ls2 hl2 => ?_)
  have hl2 : lv_has ls2 4 [(3, .ref q), (0, .ref (ρ r)), (1, .int k), (2, .ref mi)] := hl2
  refine lv_aload_n hx hb jd_cc_25 rfl (lv_at hl2 1 rfl) ?_
  refine lv_iconst (v := 0) hx hb jd_cc_26 (by decide) ?_
  refine lv_aload_n hx hb jd_cc_27 rfl (lv_at hl2 0 rfl) ?_
  refine lv_iconst (v := 0) hx hb jd_cc_28 (by decide) ?_
  refine lv_aload_n hx hb jd_cc_29 rfl (lv_at hl2 1 rfl) ?_
  have hd1 : (jm_ws ρ tys m1 ++ [(q, (Sum.inl (jm_ct tys 6, k.toNatClampNeg, .inr (.inr (.inr (.inr (fun _ => none))))) : va_E))])[r]? = some (ρ r, .inl (jm_ct tys 6, n, .inr (.inr (.inr (.inr (fun j => (f j).map ρ)))))) := by
    rw [List.getElem?_append_left hrlt]; exact hd
  have hd2 : (jm_ws ρ tys m1 ++ [(q, (Sum.inl (jm_ct tys 6, k.toNatClampNeg, .inr (.inr (.inr (.inr (fun _ => none))))) : va_E))])[(jm_ws ρ tys m1).length]? = some (q, .inl (jm_ct tys 6, k.toNatClampNeg, .inr (.inr (.inr (.inr (fun _ => none)))))) := by
    rw [List.getElem?_append_right (Nat.le_refl _), Nat.sub_self]; rfl
  refine va_alen hx hb hkn.1 g1 r 6 hd1 (jm_tyAt hty rfl) rfl jd_cc_30 ?_
  refine lv_iload_n hx hb jd_cc_31 rfl (lv_at hl2 2 rfl) ?_
  have hn31 : n < 2 ^ 31 := by omega
  have ecl : (Int32.ofNat n).toNatClampNeg = n := Int32.toNatClampNeg_ofNat_of_lt hn31
  have hmin : ¬ k < Int32.ofNat n := by
    intro z
    have z1 := Int32.lt_iff_toInt_lt.mp z
    have z2 : (Int32.ofNat n).toInt = n := Int32.toInt_ofNat_of_lt hn31
    have z4 : k.toInt.toNat = k.toNatClampNeg := rfl
    have z5 : ¬ k.toInt < 0 := fun z => hk0 (Int32.lt_iff_toInt_lt.mpr (by rw [show (0 : Int32).toInt = 0 by decide]; exact z))
    omega
  refine va_mmin (x := Int32.ofNat n) (y := k) hx hb (by rw [hml]; exact hl2.1.symm) hown (hts _ jl_minA) (hts _ jt_min) (hts _ jb_math) (hts _ jw_min) (Nat.le_of_ble_eq_true rfl) (Nat.le_of_ble_eq_true rfl) (by show 0 + 1 ≤ 1; omega) (by show 0 + k.toNatClampNeg ≤ k.toNatClampNeg; omega) jd_cc_32 ?_
  rw [if_neg hmin]
  refine va_copyq (C := jm_cn ci) hx hb (by rw [hml]; exact hl2.1.symm) hown (hts _ jl_copyA) (hts _ jn_copy) (hts _ jt_copy) (hts _ jb_sys) hkn.1 g1 g2 g3 r _ 6 6 hd1 hd2 (jm_tyAt hty rfl) (jm_tyAt hty rfl) (by decide) (by decide) (nI_pos hn31) (by rw [ecl]; show 0 + n ≤ n; omega) (by rw [ecl]; show 0 + n ≤ _; omega) (fun j hj y hy => ?_) (vb_asgC (hkn.2.2.2.2.2.2.2.1 _ (jm_casO hci))) (Nat.le_of_ble_eq_true rfl) (by show _ + _ ≤ 230; simp only [List.map_nil, List.sum_nil]; omega) jd_cc_35 (fun H2 l2 w1 w2 w3 => ?_)
  · rw [ecl] at hj
    have hy : (f (0 + j)).map ρ = some y := hy
    rw [Nat.zero_add] at hy
    exact jr_cell hkn g3 g1 (fun k9 q9 h9 => by rw [List.getElem?_append_left (List.getElem?_eq_some_iff.mp h9).1]; exact h9) hel hj hy
  · rw [ecl] at w1 w2
    rw [List.set_append_right _ _ (Nat.le_refl _), Nat.sub_self, List.set_cons_zero] at w1 w2
    refine lv_aload_n hx hb jd_cc_38 rfl (lv_at hl2 0 rfl) ?_
    rw [Nat.zero_add k.toNatClampNeg]
    exact W.aret hx hb hr (Or.inr ⟨_, rfl⟩) (Or.inr ⟨_, rfl⟩) (fun t ht hW => ⟨⟨q, _, rfl, trivial, rfl, by subst ht; exact ⟨w1, w2⟩⟩, w3.F ht⟩) w3.2.2 jd_cc_39
theorem jk_cpo {r n ci : Nat} {f : Nat → Option Nat} {k : Int32} (hty : jm_tyOk tys) (hd : (jm_ws ρ tys m1)[r]? = some (ρ r, .inl (jm_ct tys 6, n, .inr (.inr (.inr (.inr (fun j => (f j).map ρ))))))) (hk0 : ¬ k < 0) (hkn0 : n ≤ k.toNatClampNeg) (hkm : k.toNatClampNeg ≤ 10000000) (hci : ci = 16 ∨ ci = 17 ∨ ci = 12) (hel : jr_el S ρ m1 n f ci) :
    Met l jy_copyO (Cond.code jy_copyO jb_c_copyO 2 (some (.array (.object "java/lang/Object"))) :: jm_WW) { frames := 3, cells := 1, slots := k.toNatClampNeg, locals := 260 } (jr_Pc D tys A S ρ m1 [.ref (ρ r), .int k] (fun _ => True)) (jr_Qco D A (fun q => jm_ws ρ tys m1 ++ [(q, .inl (jm_ct tys 6, k.toNatClampNeg, .inr (.inr (.inr (.inr (jr_cp ρ f n))))))])) 1 k.toNatClampNeg A := by
  refine va_MetF (cc := jb_c_copyO) (maxL := 2) (ret := some (.array (.object "java/lang/Object"))) (by decide +kernel) rfl ?_
  intro p e s m args below meth c s₁ B hml hv
  obtain ⟨rfl, hP, hD, hkn, -⟩ := hv
  have hx := B.exec
  have hb := B.bytes
  have hr := B.returns
  have hts0 := atoms_spec (ws := Cond.code jy_copyO jb_c_copyO 2 (some (.array (.object "java/lang/Object"))) :: jm_WW) B.pre
  have hts : ∀ w ∈ jm_WW, w.before _ s = true := fun w hw => hts0 w (List.mem_cons_of_mem _ hw)
  have hown : s.vm.findClass "java/util/Arrays" = some m.cls := findClass_of_methodNamed B.named
  have hlocks := B.notSynchronized
  have hS : va_S A s.heap s.heap [] := va_S.rf
  have hl := lv_entry ([.ref (ρ r), .int k]) (n := 2) (Nat.le_of_ble_eq_true rfl)
  rw [lg_entry_eq]
  generalize (lg_sl ([.ref (ρ r), .int k]) ++ List.replicate (2 - (lg_sl ([.ref (ρ r), .int k])).length) Slot.unset).toArray = ls at hl ⊢
  have hl : lv_has ls 2 [(0, .ref (ρ r)), (1, .int k)] := hl
  obtain ⟨-, -, -, -, -, -, mi, hmi⟩ := jk_Kl hkn
  have hcell : ∃ cell : Cell, s.heap[ρ r]? = some cell ∧ cell.vm.isStatics = false ∧ s.vm.findClass "[Ljava/lang/Object;" = some cell.cls := by
    have h1 : s.heap[ρ r]? = some (vp_cell (jm_ct tys 6) (n, .inr (.inr (.inr (.inr (fun j => (f j).map ρ)))))) := hP r _ hd
    exact ⟨_, h1, rfl, va_nmO (hkn.1.2 6 _ (jm_tyAt hty rfl)).2 (by decide)⟩
  refine lv_aload_n hx hb jd_co_0 rfl (lv_at hl 0 rfl) ?_
  refine lv_iload_n hx hb jd_co_1 rfl (lv_at hl 1 rfl) ?_
  refine lv_aload_n hx hb jd_co_2 rfl (lv_at hl 0 rfl) ?_
  refine va_getC hx hb (by rw [hml]; exact hl.1.symm) hown (hts _ jl_getClass) (va_Nw.use rfl (hkn.2.2.2.2.2.2.2.1 _ jd_getClass)) (hts _ js_getClass) (hts _ ji_getClass) (hts _ jn_getClass) hmi hcell (Nat.le_of_ble_eq_true rfl) (Nat.le_of_ble_eq_true rfl) jd_co_3 ?_
  have hpre : ∀ U : State, U.heap = s.heap → s.WarmedH U.vm → jr_Pc D tys A S ρ m1 [.ref (ρ r), .int k, .ref mi] (fun U => va_Mi "[Ljava/lang/Object;" mi U) ([.ref (ρ r), .int k, .ref mi] : List Value).toArray U := by
    intro U hU hW
    refine ⟨rfl, ?_⟩
    show va_P D vwCl (jm_ws ρ tys m1) U.heap ∧ va_D A (jm_ws ρ tys m1) ∧ jm_Kn D tys A S U U.heap ∧ va_Mi "[Ljava/lang/Object;" mi U
    rw [hU]
    exact ⟨hP, hD, hkn.mv hW (Nat.le_refl _) (fun _ _ _ => rfl), va_Mi.moved hW.alike hmi⟩
  refine va_callr (va_runS (As := [.ref (ρ r), .int k, .ref mi]) (rest := []) ⟨hx, hb, hml, hown, hts⟩ (jk_cpc (l := l) (mi := mi) hty hd hk0 hkn0 hkm hci hel) (jm_cS 3 hts jl_copyC jt_copyC jb_arr jw_copyC rfl rfl (by decide +kernel) ⟨Nat.le_of_ble_eq_true rfl, Nat.le_of_ble_eq_true rfl⟩) ⟨jr_blind (fun _ _ h => va_Mi.moved h), hpre⟩ rfl rfl hl.1 rfl (lv_room (Nat.le_of_ble_eq_true rfl)) jd_co_6 ⟨Nat.le_refl _, by show 0 + k.toNatClampNeg ≤ k.toNatClampNeg; omega⟩) hS (fun q _ h => h) (fun q h => h) (fun q ra t H1 locs ht hvm hw hB hz1 hk1 hS => ?_)
  obtain ⟨rfl, w1, w2⟩ := hB
  rw [ht] at w1
  rw [Nat.zero_add k.toNatClampNeg]
  exact W.aret hx hb hr (Or.inr ⟨_, rfl⟩) (Or.inr ⟨_, rfl⟩) (fun t ht hW => ⟨⟨ra, _, rfl, trivial, rfl, by subst ht; exact ⟨w1, w2⟩⟩, hS.F ht⟩) hS.2.2 jd_co_9
end JR
section ROW
variable {p : Program} {l : Launch} {e : Env} {R : Room} {s : State} {m : MethodId} {args : Array Value} {below : List Frame} {meth : Method} {c : Code} {D : va_G} {tys : List (ClassId × FieldType)} {A : Nat → Prop} {S : jm_Sp} {c0 s0 : Nat} {ρ0 : Nat → Nat} {N0 : Nat} {M : jm_Meth} {Q : State → Prop} {pc : Nat} {lc : jm_Loc} {st : List Value} {m1 : jm_Mem} {d x : Nat}
theorem gtb_spec {r dst : Nat} {b c : Int32} {m2 : jm_Mem} (h : jm_gtb m1 r dst b c = some m2) : ∃ n0 f n1 g, m1.2.1 r = .inl (7, n0, .inl f) ∧ m1.2.1 dst = .inl (9, n1, .inl g) ∧ c = 0 ∧ ¬ b < 0 ∧ b.toNatClampNeg + n0 ≤ n1 ∧ m2 = jm_up m1 dst (.inl (9, n1, .inl (va_cpy f g 0 b.toNatClampNeg n0))) := by
  unfold jm_gtb at h
  split at h
  · rename_i t0 n0 f t1 n1 g h0 h1
    split at h
    · rename_i hc
      obtain ⟨rfl, rfl, a3, a4, a5⟩ := hc
      cases h
      exact ⟨n0, f, n1, g, h0, h1, a3, a4, a5, rfl⟩
    · cases h
  · cases h
theorem jr_pre (X : jm_Fx p s m args meth c D tys A S M) {H : Heap} {locs : List Loc} {cells slots : Nat} {ρ : Nat → Nat} (hr : jm_rep D tys A S s.heap c0 s0 ρ m1 H locs cells slots) {av : List Value} : ∀ U : State, U.heap = H → s.WarmedH U.vm → jr_Pc D tys A S ρ m1 av (fun _ => True) av.toArray U := by
  intro U hU hW
  refine ⟨rfl, ?_⟩
  show va_P D vwCl (jm_ws ρ tys m1) U.heap ∧ va_D A (jm_ws ρ tys m1) ∧ jm_Kn D tys A S U U.heap ∧ True
  rw [hU]
  exact ⟨hr.1, hr.2.1, X.kn.mv hW hr.2.2.1.1 hr.2.2.1.2.1, trivial⟩
theorem st_gtb {r dst : Nat} {b c2 : Int32} {m2 : jm_Mem} (X : jm_Fx p s m args meth c D tys A S M) (hR : jm_Rk d R) (hlink : Cond.methodLink (jm_cn (jm_mO M)) x jy_getBytes ∈ jm_WW) (hsm : (st.map fun v => v.category).sum ≤ 8) (hrm : m1.2.2.1 ≤ c0 + R.cells ∧ m1.2.2.2 ≤ s0 + R.slots) (h : jm_gtb m1 r dst b c2 = some m2) (hdg : decode (jm_mC M) pc = .ok (.invokevirtual x, 3)) (kk : jm_At p l e R s m args below meth c D tys A S c0 s0 ρ0 N0 M Q (pc + 3) lc st m2) : jm_At p l e R s m args below meth c D tys A S c0 s0 ρ0 N0 M Q pc lc (.int c2 :: .int b :: .ref dst :: .ref r :: st) m1 := by
  intro H locs cells slots ls ρ hr hL hw ha hN
  obtain ⟨n0, f, n1, g, a1, a2, rfl, a4, a5, rfl⟩ := gtb_spec h
  obtain ⟨k, hk, e1, e2, e3⟩ := hr.str a1
  obtain ⟨z1, z2⟩ := hR
  have q1 := hr.2.2.2.2.2.2.2.1
  have q2 := hr.2.2.2.2.2.2.2.2
  obtain ⟨b3, b4, -⟩ := hr.arr a2 (by decide)
  obtain ⟨adV, h5⟩ := X.kn.2.2.1
  have hrun := va_runV (e := e) (below := below) (meth := meth) (locs := locs) (cells := cells) (slots := slots) (As := [.ref (ρ dst), .int b, .int 0]) (rest := st.map (jm_cv ρ)) (b := ρ r) (g := F0 m pc ls ((.int 0 :: .int b :: .ref dst :: .ref r :: st).map (jm_cv ρ))) ⟨X.1, X.2.1, X.ml, X.own, X.ts⟩ (jk_gtb (l := l) (D := D) (tys := tys) (A := A) (S := S) (ρ := ρ) (m1 := m1) (i := k) (g := g) (b := b) (by omega) X.ty b4 a4 (by rw [← e2]; exact a5)) (jm_cV 3 X.ts hlink ji_getBytes js_getBytes jb_str jw_getBytes rfl rfl (by decide +kernel) ⟨by show 3 ≤ R.frames; omega, by show 8 + (4 + 11) + 250 ≤ R.locals; omega⟩) ⟨jr_blind (fun _ _ _ h => h), by rw [e1]; exact vk_recv h5 (by omega) hr.2.2.1, by rw [e1]; exact jr_pre X hr⟩ rfl rfl hL.2.1 rfl (lv_room (st_catS hsm)) hdg ⟨by omega, by omega⟩
  refine va_callv hrun hr.2.2.1 (fun _ _ h => h) (fun _ h => h) (fun u t H1 locs1 ht hvm hw1 hB hz1 hk1 hS => ?_)
  obtain ⟨w1, w2⟩ := hB
  rw [ht] at w1
  unfold jr_gbW at w1 w2
  rw [← e2, ← e3] at w1 w2
  exact kk _ _ _ _ _ _ (hr.wr (e := .inl (9, n1, .inl (va_cpy f g 0 b.toNatClampNeg n0))) b3 (by show (9 : Nat) < 6 ∨ (9 : Nat) = 9; decide) w1 w2 hS) hL hw.tl.tl.tl.tl ha hN
/-- a longer row of the same objects -/
theorem elc_spec {n ci : Nat} {f : Nat → Option Nat} (h : jm_elc m1 n f ci = true) : ∀ j, j < n → ∀ x, f j = some x → jm_elt m1 x = some ci := by
  intro j hj x hx
  unfold jm_elc at h
  have h1 := List.all_eq_true.mp h j (List.mem_range.mpr hj)
  rw [hx] at h1
  exact of_decide_eq_true h1
theorem els_spec {n : Nat} {f : Nat → Option Nat} (h : jm_els m1 n f = true) : ∃ ci, (ci = 16 ∨ ci = 17 ∨ ci = 12) ∧ jm_elc m1 n f ci = true := by
  unfold jm_els at h
  rw [Bool.or_eq_true, Bool.or_eq_true] at h
  rcases h with h | h | h
  · exact ⟨16, Or.inl rfl, h⟩
  · exact ⟨17, Or.inr (Or.inl rfl), h⟩
  · exact ⟨12, Or.inr (Or.inr rfl), h⟩
theorem cO_spec {r : Nat} {k : Int32} {g : jm_Mem → Option jm_Res} {r2 : jm_Res} (h : jm_cO m1 r k g = some r2) : ∃ n f, m1.2.1 r = .inl (6, n, .inr (.inr (.inr (.inr f)))) ∧ ¬ k < 0 ∧ n ≤ k.toNatClampNeg ∧ k.toNatClampNeg ≤ 10000000 ∧ jm_els m1 n f = true ∧ m1.1 < 1000000 ∧ g (jm_new m1 (.inl (6, k.toNatClampNeg, .inr (.inr (.inr (.inr (va_cpy f (fun _ => none) 0 0 n)))))) k.toNatClampNeg) = some r2 := by
  unfold jm_cO at h
  split at h
  · rename_i t n f he
    split at h
    · rename_i hc
      obtain ⟨rfl, h1, h2, h3, h4⟩ := hc
      obtain ⟨g1, g2⟩ := iv_mk h
      exact ⟨n, f, he, h1, h2, h3, h4, g1, g2⟩
    · cases h
  · cases h
theorem st_cpo {rr n : Nat} {f : Nat → Option Nat} {k : Int32} (X : jm_Fx p s m args meth c D tys A S M) (hR : jm_Rk d R) (hlink : Cond.methodLink (jm_cn (jm_mO M)) x jy_copyO ∈ jm_WW) (hsm : (st.map fun v => v.category).sum ≤ 8) (he : m1.2.1 rr = .inl (6, n, .inr (.inr (.inr (.inr f))))) (hk0 : ¬ k < 0) (hnk : n ≤ k.toNatClampNeg) (hkm : k.toNatClampNeg ≤ 10000000) (hels : jm_els m1 n f = true) (hn : m1.1 < 1000000) (hRc : m1.2.2.1 + 1 ≤ c0 + R.cells) (hRs : m1.2.2.2 + k.toNatClampNeg ≤ s0 + R.slots)
    (hdg : decode (jm_mC M) pc = .ok (.invokestatic x, 3)) (kk : jm_At p l e R s m args below meth c D tys A S c0 s0 ρ0 N0 M Q (pc + 3) lc (.ref m1.1 :: st) (jm_new m1 (.inl (6, k.toNatClampNeg, .inr (.inr (.inr (.inr (va_cpy f (fun _ => none) 0 0 n)))))) k.toNatClampNeg)) : jm_At p l e R s m args below meth c D tys A S c0 s0 ρ0 N0 M Q pc lc (.int k :: .ref rr :: st) m1 := by
  intro H locs cells slots ls ρ hr hL hw ha hN
  obtain ⟨z1, z2⟩ := hR
  have q1 := hr.2.2.2.2.2.2.2.1
  have q2 := hr.2.2.2.2.2.2.2.2
  obtain ⟨b1, b2, b3⟩ := hr.arr he (by decide)
  obtain ⟨ci, hci, helc⟩ := els_spec hels
  have hel : jr_el S ρ m1 n f ci := by
    intro j hj x hx
    have h1 := elc_spec helc j hj x hx
    rcases elt_spec h1 with ⟨rfl, y1, y2⟩ | ⟨hc2, fs, hx2⟩
    · refine Or.inr ⟨rfl, x - jm_int, by omega, ?_⟩
      have := hr.sr.2.2.1 (x - jm_int) (by omega)
      rw [show jm_int + (x - jm_int) = x by omega] at this
      exact this
    · refine Or.inl ⟨by omega, (hr.obj hx2 (by omega)).1, fs, hx2⟩
  have hrun := va_runS (e := e) (below := below) (meth := meth) (locs := locs) (cells := cells) (slots := slots) (As := [.ref (ρ rr), .int k]) (rest := st.map (jm_cv ρ)) (g := F0 m pc ls ((.int k :: .ref rr :: st).map (jm_cv ρ))) ⟨X.1, X.2.1, X.ml, X.own, X.ts⟩ (jk_cpo (l := l) (D := D) (tys := tys) (A := A) (S := S) (ρ := ρ) (m1 := m1) (r := rr) (f := f) X.ty b2 hk0 hnk hkm hci hel) (jm_cS 2 X.ts hlink jt_copyO jb_arr jw_copyO rfl rfl (by decide +kernel) ⟨by show 4 ≤ R.frames; omega, by show 8 + (2 + 11) + 260 ≤ R.locals; omega⟩) ⟨jr_blind (fun _ _ _ h => h), jr_pre X hr⟩ rfl rfl hL.2.1 rfl (lv_room (st_catS hsm)) hdg ⟨by omega, by omega⟩
  refine va_callr hrun hr.2.2.1 (fun _ _ h => h) (fun _ h => h) (fun q ra t H1 locs1 ht hvm hw1 hB hz1 hk1 hS => ?_)
  obtain ⟨rfl, w1, w2⟩ := hB
  rw [ht] at w1
  have hE : jm_wE m1.1 (.inl (6, k.toNatClampNeg, .inr (.inr (.inr (.inr (va_cpy f (fun _ => none) 0 0 n)))))) := by
    refine ⟨by decide, fun j y hy => ?_⟩
    have hy : (if 0 ≤ j ∧ j < 0 + n then f (0 + (j - 0)) else none) = some y := hy
    split at hy
    · exact b3.2 _ _ hy
    · cases hy
  have ecp : jm_cE ρ tys (.inl (6, k.toNatClampNeg, .inr (.inr (.inr (.inr (va_cpy f (fun _ => none) 0 0 n)))))) = .inl (jm_ct tys 6, k.toNatClampNeg, .inr (.inr (.inr (.inr (jr_cp ρ f n))))) := by
    show (Sum.inl (jm_ct tys 6, k.toNatClampNeg, .inr (.inr (.inr (.inr (fun j => (va_cpy f (fun _ => none) 0 0 n j).map ρ))))) : va_E) = _
    have e9 : (fun j => (va_cpy f (fun _ => none) 0 0 n j).map ρ) = jr_cp ρ f n := by
      funext j
      show (if 0 ≤ j ∧ j < 0 + n then f (0 + (j - 0)) else none).map ρ = if 0 ≤ j ∧ j < 0 + n then (f (0 + (j - 0))).map ρ else none
      split <;> rfl
    rw [e9]
  rw [← ecp] at w1 w2
  obtain ⟨n1, n2⟩ := hr.nw (k := k.toNatClampNeg) (q := ra) hn hE w1 w2 hS
  have hst : st.map (jm_cv (va_up ρ m1.1 ra)) = st.map (jm_cv ρ) := jm_cv_ags n2 hw.tl.tl
  have hv : jm_cv (va_up ρ m1.1 ra) (.ref m1.1) = .ref ra := by
    show Value.ref (va_up ρ m1.1 ra m1.1) = _
    rw [show va_up ρ m1.1 ra m1.1 = ra from if_pos rfl]
  have k2 := kk H1 locs1 (cells + 1) (slots + k.toNatClampNeg) ls _ n1 (hL.ag n2 (Nat.le_succ _)) ((hw.tl.tl.up (Nat.le_succ _)).cons (Or.inl (Nat.lt_succ_self _))) (ha.tr n2 hN) (Nat.le_succ_of_le hN)
  rw [List.map_cons, hst, hv] at k2
  exact k2
end ROW
