/-! The tables hold what the words of the Statement say (by program: wip/p44/gen_tab.py). -/
def jm_cns : List String := [RX0, RX1, RX2, RX3, RX4, RX5, RX6, RX7, RX8, RX9, RX10, RX11, RX12, RL, RJ0, RJ4, RJ6, RJx4a65c, RJ5, RJ1, RJ7, RJ8, RJ15, RJ3, RJxc12de, RJxa1e45]
def jm_cn (c : Nat) : String := jm_cns.getD c ""
def jm_asb : String := "java/lang/StringBuilder"
/-- private methods of the builder's superclass: that they are the ones selected follows from the tables (jm_sel_priv) -/
def jm_xp : List MethodName := [⟨"java/lang/AbstractStringBuilder", "ensureCapacityInternal", "(I)V"⟩, ⟨"java/lang/AbstractStringBuilder", "newCapacity", "(I)I"⟩, ⟨"java/lang/AbstractStringBuilder", "putStringAt", "(ILjava/lang/String;)V"⟩, ⟨"java/lang/AbstractStringBuilder", "inflateIfNeededFor", "(Ljava/lang/String;)V"⟩]
def jm_tb : List Cond := jm_xp.map (fun y => Cond.selects jm_asb y y) ++ lw_tbl
theorem jm_sel_priv {C : String} {x y : MethodName} {s : State} {args : Array Value} (hxy : x.cls = y.cls) (hy : y.cls ≠ "java/lang/invoke/MethodHandle" ∧ y.cls ≠ "java/lang/invoke/VarHandle")
    (h0 : (Cond.selects C x x).before args s = true) (hpriv : (Cond.privateMethod y).before args s = true) (hinst : (Cond.instanceMethod y).before args s = true) :
    (Cond.selects C y y).before args s = true := by
  obtain ⟨c, r, m, hc, -, hm, -, k, hk, hni⟩ := Cond.selects_spec h0
  obtain ⟨mk, methM, hnamed, hmethM, -, -⟩ := Cond.instanceMethod_spec hinst
  have hfound : s.methodFound? y.cls y.name y.desc = some mk := State.methodFound?_of_named hnamed hy
  have hcls : mk.cls = m.cls := Option.some.inj ((findClass_of_methodNamed hnamed).symm.trans (hxy ▸ findClass_of_methodNamed hm))
  have hsel : selectMethod {} s.vm c mk = .method mk := selectMethod_private hmethM (Cond.privateMethod_at hpriv mk methM hnamed hmethM)
  simp only [Cond.before, Cond.holds, Cond.value, hc, hfound, hnamed, hsel, hcls, hk]
  simp; exact hni
def jm_xok (y : MethodName) : Prop := y.cls = "java/lang/AbstractStringBuilder" ∧ Cond.privateMethod y ∈ lw_tbl ∧ Cond.instanceMethod y ∈ lw_tbl
def jm_WW : List Cond := jm_tb.filter goodWord
theorem jm_t1 {w : Cond} {i : Nat} (h : tables_1_1[i]? = some w) : w ∈ lw_tbl := by
  refine List.mem_append_right _ ?_
  show w ∈ tables_1_1 ++ (tables_1_2 ++ (tables_1_3 ++ (tables_1_4 ++ (tables_1_5 ++ (tables_1_6 ++ (tables_1_7))))))
  exact List.mem_append_left _ (List.mem_of_getElem? h)
theorem jm_t2 {w : Cond} {i : Nat} (h : tables_1_2[i]? = some w) : w ∈ lw_tbl := by
  refine List.mem_append_right _ ?_
  show w ∈ tables_1_1 ++ (tables_1_2 ++ (tables_1_3 ++ (tables_1_4 ++ (tables_1_5 ++ (tables_1_6 ++ (tables_1_7))))))
  exact List.mem_append_right _ (List.mem_append_left _ (List.mem_of_getElem? h))
theorem jm_t3 {w : Cond} {i : Nat} (h : tables_1_3[i]? = some w) : w ∈ lw_tbl := by
  refine List.mem_append_right _ ?_
  show w ∈ tables_1_1 ++ (tables_1_2 ++ (tables_1_3 ++ (tables_1_4 ++ (tables_1_5 ++ (tables_1_6 ++ (tables_1_7))))))
  exact List.mem_append_right _ (List.mem_append_right _ (List.mem_append_left _ (List.mem_of_getElem? h)))
theorem jm_t4 {w : Cond} {i : Nat} (h : tables_1_4[i]? = some w) : w ∈ lw_tbl := by
  refine List.mem_append_right _ ?_
  show w ∈ tables_1_1 ++ (tables_1_2 ++ (tables_1_3 ++ (tables_1_4 ++ (tables_1_5 ++ (tables_1_6 ++ (tables_1_7))))))
  exact List.mem_append_right _ (List.mem_append_right _ (List.mem_append_right _ (List.mem_append_left _ (List.mem_of_getElem? h))))
theorem jm_t5 {w : Cond} {i : Nat} (h : tables_1_5[i]? = some w) : w ∈ lw_tbl := by
  refine List.mem_append_right _ ?_
  show w ∈ tables_1_1 ++ (tables_1_2 ++ (tables_1_3 ++ (tables_1_4 ++ (tables_1_5 ++ (tables_1_6 ++ (tables_1_7))))))
  exact List.mem_append_right _ (List.mem_append_right _ (List.mem_append_right _ (List.mem_append_right _ (List.mem_append_left _ (List.mem_of_getElem? h)))))
theorem jm_t6 {w : Cond} {i : Nat} (h : tables_1_6[i]? = some w) : w ∈ lw_tbl := by
  refine List.mem_append_right _ ?_
  show w ∈ tables_1_1 ++ (tables_1_2 ++ (tables_1_3 ++ (tables_1_4 ++ (tables_1_5 ++ (tables_1_6 ++ (tables_1_7))))))
  exact List.mem_append_right _ (List.mem_append_right _ (List.mem_append_right _ (List.mem_append_right _ (List.mem_append_right _ (List.mem_append_left _ (List.mem_of_getElem? h))))))
theorem jm_t7 {w : Cond} {i : Nat} (h : tables_1_7[i]? = some w) : w ∈ lw_tbl := by
  refine List.mem_append_right _ ?_
  show w ∈ tables_1_1 ++ (tables_1_2 ++ (tables_1_3 ++ (tables_1_4 ++ (tables_1_5 ++ (tables_1_6 ++ (tables_1_7))))))
  exact List.mem_append_right _ (List.mem_append_right _ (List.mem_append_right _ (List.mem_append_right _ (List.mem_append_right _ (List.mem_append_right _ (List.mem_of_getElem? h))))))
theorem jm_wk {w : Cond} (h : w ∈ lw_tbl) (g : goodWord w = true) : w ∈ jm_WW := List.mem_filter.mpr ⟨List.mem_append_right _ h, g⟩
theorem jm_ww {w : Cond} {i : Nat} (h : lw_tbl[i]? = some w) (g : goodWord w = true) : w ∈ jm_WW := jm_wk (List.mem_of_getElem? h) g
theorem jm_wx {y : MethodName} (i : Nat) (h : jm_xp[i]? = some y) : Cond.selects jm_asb y y ∈ jm_WW := List.mem_filter.mpr ⟨List.mem_append_left _ (List.mem_map.mpr ⟨y, List.mem_of_getElem? h, rfl⟩), rfl⟩
theorem jm_x0 : jm_xok ⟨"java/lang/AbstractStringBuilder", "ensureCapacityInternal", "(I)V"⟩ := ⟨rfl, (jm_t3 (i := 211) (by decide +kernel)), (jm_t3 (i := 212) (by decide +kernel))⟩
theorem jm_x1 : jm_xok ⟨"java/lang/AbstractStringBuilder", "newCapacity", "(I)I"⟩ := ⟨rfl, (jm_t3 (i := 215) (by decide +kernel)), (jm_t3 (i := 216) (by decide +kernel))⟩
theorem jm_x2 : jm_xok ⟨"java/lang/AbstractStringBuilder", "putStringAt", "(ILjava/lang/String;)V"⟩ := ⟨rfl, (jm_t4 (i := 20) (by decide +kernel)), (jm_t4 (i := 21) (by decide +kernel))⟩
theorem jm_x3 : jm_xok ⟨"java/lang/AbstractStringBuilder", "inflateIfNeededFor", "(Ljava/lang/String;)V"⟩ := ⟨rfl, (jm_t4 (i := 24) (by decide +kernel)), (jm_t4 (i := 25) (by decide +kernel))⟩
theorem jm_hts {args : Array Value} {s : State} (hts : ∀ w ∈ lw_tbl, w.before args s = true) : ∀ w ∈ jm_tb, w.before args s = true := by
  intro w hw
  rcases List.mem_append.mp hw with h | h
  · obtain ⟨y, hy, rfl⟩ := List.mem_map.mp h
    have hq : jm_xok y := List.forall_mem_cons.mpr ⟨jm_x0, List.forall_mem_cons.mpr ⟨jm_x1, List.forall_mem_cons.mpr ⟨jm_x2, List.forall_mem_cons.mpr ⟨jm_x3, fun _ h => absurd h List.not_mem_nil⟩⟩⟩⟩ y hy
    exact jm_sel_priv (x := ⟨"java/lang/AbstractStringBuilder", "isLatin1", "()Z"⟩) hq.1.symm (by rw [hq.1]; decide) (hts _ (jm_t4 (i := 1) (by decide +kernel))) (hts _ hq.2.1) (hts _ hq.2.2)
  · exact hts w h
def jm_isN : Cond → Bool
  | .fieldLinkNest .. => true
  | .methodLinkNest .. => true
  | .castable .. => true
  | .declares .. => true
  | .arrayOver (.object _) => true
  | _ => false
def jm_NW : List Cond := lw_tbl.filter jm_isN
theorem jm_nk {w : Cond} (h : w ∈ lw_tbl) (g : jm_isN w = true) : w ∈ jm_NW := List.mem_filter.mpr ⟨h, g⟩
def jm_al {α : Type} (P : α → Prop) : List α → Prop
  | [] => True
  | a :: l => P a ∧ jm_al P l
theorem jm_al_mem {α : Type} {P : α → Prop} : ∀ {l : List α}, jm_al P l → ∀ a ∈ l, P a := by
  intro l
  induction l with
  | nil => intro _ a h; cases h
  | cons b l ih => intro h a ha; rcases List.mem_cons.mp ha with e | e
                   · exact e ▸ h.1
                   · exact ih h.2 a e
theorem jm_as_mem {α : Type} {t : List (List (Nat × α))} {c i : Nat} {v : α} (h : jm_as t c i = some v) : (i, v) ∈ t.getD c [] := by
  unfold jm_as at h
  obtain ⟨e, he, hv⟩ := Option.map_eq_some_iff.mp h
  have h1 := List.mem_of_find?_eq_some he
  have h2 := List.find?_some he
  have h3 : e.1 = i := by simpa using h2
  have h4 : e = (i, v) := by rw [← h3, ← hv]
  exact h4 ▸ h1
def jm_kt (kd : Nat) (ty : FieldType) : Prop := match kd with
  | 0 => ty = .int
  | 1 => ty = .boolean
  | 2 => ty = .long
  | 3 => (∀ x, narrow ty (.ref x) = .ref x) ∧ ∀ x, fits ty (.ref x) = true
  | 4 => ty = .byte
  | _ => False
def jm_fok (c : Nat) (e : Nat × Nat × Nat × Nat × Bool) : Prop := ∃ (C : String) (T : u_T) (N : Nat) (ty : FieldType) (rf : String), vwCl[e.2.1]? = some (C, T, N) ∧ e.2.2.1 < N ∧ jm_cn e.2.1 = C ∧ (T e.2.2.1).2.2.2 = e.2.2.2.2 ∧ parseFieldDescriptor (T e.2.2.1).2.2.1 = some ty ∧ jm_kt e.2.2.2.1 ty ∧ (rf = (T e.2.2.1).1 ∨ Cond.sameField rf (T e.2.2.1).1 (T e.2.2.1).2.1 (T e.2.2.1).2.2.1 ∈ jm_WW) ∧ (e.2.2.2.2 = true → (T e.2.2.1).1 = C) ∧ (Cond.fieldLink (jm_cn c) e.1 rf (T e.2.2.1).2.1 (T e.2.2.1).2.2.1 ∈ jm_WW ∨ (∃ hs : String, Cond.fieldLinkNest (jm_cn c) e.1 rf (T e.2.2.1).2.1 (T e.2.2.1).2.2.1 hs ∈ jm_NW) ∧ e.2.1 ≠ c)
theorem fk_0_15 : jm_fok 0 (15, 0, 0, 3, true) := ⟨RX0, TX0, 2, .array (.int), "PaperLand$Bytes", rfl, by decide, rfl, rfl, by decide +kernel, ⟨fun _ => rfl, fun _ => rfl⟩, Or.inl rfl, (fun _ => rfl), Or.inl (jm_wk (jm_t1 (i := 54) (by decide +kernel)) (by decide +kernel))⟩
theorem fk_0_21 : jm_fok 0 (21, 0, 1, 0, false) := ⟨RX0, TX0, 2, .int, "PaperLand$Bytes", rfl, by decide, rfl, rfl, by decide +kernel, rfl, Or.inl rfl, (fun h => by cases h), Or.inl (jm_wk (jm_t1 (i := 55) (by decide +kernel)) (by decide +kernel))⟩
theorem fk_1_9 : jm_fok 1 (9, 1, 0, 3, true) := ⟨RX1, TX1, 3, .array (.int), "PaperLand$Cuts", rfl, by decide, rfl, rfl, by decide +kernel, ⟨fun _ => rfl, fun _ => rfl⟩, Or.inl rfl, (fun _ => rfl), Or.inl (jm_wk (jm_t2 (i := 11) (by decide +kernel)) (by decide +kernel))⟩
theorem fk_1_15 : jm_fok 1 (15, 1, 1, 0, false) := ⟨RX1, TX1, 3, .int, "PaperLand$Cuts", rfl, by decide, rfl, rfl, by decide +kernel, rfl, Or.inl rfl, (fun h => by cases h), Or.inl (jm_wk (jm_t2 (i := 12) (by decide +kernel)) (by decide +kernel))⟩
theorem fk_1_19 : jm_fok 1 (19, 1, 2, 2, false) := ⟨RX1, TX1, 3, .long, "PaperLand$Cuts", rfl, by decide, rfl, rfl, by decide +kernel, rfl, Or.inl rfl, (fun h => by cases h), Or.inl (jm_wk (jm_t2 (i := 14) (by decide +kernel)) (by decide +kernel))⟩
theorem fk_2_9 : jm_fok 2 (9, 2, 3, 3, true) := ⟨RX2, TX2, 7, .array (.boolean), "PaperLand$Folding", rfl, by decide, rfl, rfl, by decide +kernel, ⟨fun _ => rfl, fun _ => rfl⟩, Or.inl rfl, (fun _ => rfl), Or.inl (jm_wk (jm_t2 (i := 74) (by decide +kernel)) (by decide +kernel))⟩
theorem fk_2_15 : jm_fok 2 (15, 2, 4, 3, true) := ⟨RX2, TX2, 7, .array (.int), "PaperLand$Folding", rfl, by decide, rfl, rfl, by decide +kernel, ⟨fun _ => rfl, fun _ => rfl⟩, Or.inl rfl, (fun _ => rfl), Or.inl (jm_wk (jm_t2 (i := 75) (by decide +kernel)) (by decide +kernel))⟩
theorem fk_2_19 : jm_fok 2 (19, 2, 5, 3, true) := ⟨RX2, TX2, 7, .array (.int), "PaperLand$Folding", rfl, by decide, rfl, rfl, by decide +kernel, ⟨fun _ => rfl, fun _ => rfl⟩, Or.inl rfl, (fun _ => rfl), Or.inl (jm_wk (jm_t2 (i := 76) (by decide +kernel)) (by decide +kernel))⟩
theorem fk_2_22 : jm_fok 2 (22, 2, 6, 3, true) := ⟨RX2, TX2, 7, .array (.int), "PaperLand$Folding", rfl, by decide, rfl, rfl, by decide +kernel, ⟨fun _ => rfl, fun _ => rfl⟩, Or.inl rfl, (fun _ => rfl), Or.inl (jm_wk (jm_t2 (i := 77) (by decide +kernel)) (by decide +kernel))⟩
theorem fk_2_34 : jm_fok 2 (34, 2, 2, 0, false) := ⟨RX2, TX2, 7, .int, "PaperLand$Folding", rfl, by decide, rfl, rfl, by decide +kernel, rfl, Or.inl rfl, (fun h => by cases h), Or.inl (jm_wk (jm_t2 (i := 73) (by decide +kernel)) (by decide +kernel))⟩
theorem fk_2_38 : jm_fok 2 (38, 2, 0, 0, false) := ⟨RX2, TX2, 7, .int, "PaperLand$Folding", rfl, by decide, rfl, rfl, by decide +kernel, rfl, Or.inl rfl, (fun h => by cases h), Or.inl (jm_wk (jm_t2 (i := 69) (by decide +kernel)) (by decide +kernel))⟩
theorem fk_2_41 : jm_fok 2 (41, 2, 1, 0, false) := ⟨RX2, TX2, 7, .int, "PaperLand$Folding", rfl, by decide, rfl, rfl, by decide +kernel, rfl, Or.inl rfl, (fun h => by cases h), Or.inl (jm_wk (jm_t2 (i := 71) (by decide +kernel)) (by decide +kernel))⟩
theorem fk_3_11 : jm_fok 3 (11, 3, 0, 3, true) := ⟨RX3, TX3, 3, .array (.object "PaperLand$Land"), "PaperLand$History", rfl, by decide, rfl, rfl, by decide +kernel, ⟨fun _ => rfl, fun _ => rfl⟩, Or.inl rfl, (fun _ => rfl), Or.inl (jm_wk (jm_t1 (i := 228) (by decide +kernel)) (by decide +kernel))⟩
theorem fk_3_18 : jm_fok 3 (18, 3, 1, 0, false) := ⟨RX3, TX3, 3, .int, "PaperLand$History", rfl, by decide, rfl, rfl, by decide +kernel, rfl, Or.inl rfl, (fun h => by cases h), Or.inl (jm_wk (jm_t1 (i := 229) (by decide +kernel)) (by decide +kernel))⟩
theorem fk_3_32 : jm_fok 3 (32, 3, 2, 0, false) := ⟨RX3, TX3, 3, .int, "PaperLand$History", rfl, by decide, rfl, rfl, by decide +kernel, rfl, Or.inl rfl, (fun h => by cases h), Or.inl (jm_wk (jm_t1 (i := 230) (by decide +kernel)) (by decide +kernel))⟩
theorem fk_4_11 : jm_fok 4 (11, 4, 3, 3, true) := ⟨RX4, TX4, 6, .array (.object "PaperLand$Series"), "PaperLand$Land", rfl, by decide, rfl, rfl, by decide +kernel, ⟨fun _ => rfl, fun _ => rfl⟩, Or.inl rfl, (fun _ => rfl), Or.inl (jm_wk (jm_t1 (i := 197) (by decide +kernel)) (by decide +kernel))⟩
theorem fk_4_20 : jm_fok 4 (20, 4, 4, 3, true) := ⟨RX4, TX4, 6, .object "PaperLand$Prints", "PaperLand$Land", rfl, by decide, rfl, rfl, by decide +kernel, ⟨fun _ => rfl, fun _ => rfl⟩, Or.inl rfl, (fun _ => rfl), Or.inl (jm_wk (jm_t1 (i := 201) (by decide +kernel)) (by decide +kernel))⟩
theorem fk_4_24 : jm_fok 4 (24, 4, 5, 3, true) := ⟨RX4, TX4, 6, .array (.long), "PaperLand$Land", rfl, by decide, rfl, rfl, by decide +kernel, ⟨fun _ => rfl, fun _ => rfl⟩, Or.inl rfl, (fun _ => rfl), Or.inl (jm_wk (jm_t1 (i := 203) (by decide +kernel)) (by decide +kernel))⟩
theorem fk_4_29 : jm_fok 4 (29, 4, 0, 0, false) := ⟨RX4, TX4, 6, .int, "PaperLand$Land", rfl, by decide, rfl, rfl, by decide +kernel, rfl, Or.inl rfl, (fun h => by cases h), Or.inl (jm_wk (jm_t1 (i := 186) (by decide +kernel)) (by decide +kernel))⟩
theorem fk_4_33 : jm_fok 4 (33, 4, 1, 0, false) := ⟨RX4, TX4, 6, .int, "PaperLand$Land", rfl, by decide, rfl, rfl, by decide +kernel, rfl, Or.inl rfl, (fun h => by cases h), Or.inl (jm_wk (jm_t1 (i := 190) (by decide +kernel)) (by decide +kernel))⟩
theorem fk_4_36 : jm_fok 4 (36, 4, 2, 0, false) := ⟨RX4, TX4, 6, .int, "PaperLand$Land", rfl, by decide, rfl, rfl, by decide +kernel, rfl, Or.inl rfl, (fun h => by cases h), Or.inl (jm_wk (jm_t1 (i := 193) (by decide +kernel)) (by decide +kernel))⟩
theorem fk_4_94 : jm_fok 4 (94, 5, 5, 0, false) := ⟨RX5, TX5, 10, .int, "PaperLand$Plan", rfl, by decide, rfl, rfl, by decide +kernel, rfl, Or.inl rfl, (fun h => by cases h), Or.inr ⟨⟨"PaperLand", (jm_nk (jm_t2 (i := 34) (by decide +kernel)) rfl)⟩, by decide⟩⟩
theorem fk_4_98 : jm_fok 4 (98, 5, 0, 3, true) := ⟨RX5, TX5, 10, .object "PaperLand$Cuts", "PaperLand$Plan", rfl, by decide, rfl, rfl, by decide +kernel, ⟨fun _ => rfl, fun _ => rfl⟩, Or.inl rfl, (fun _ => rfl), Or.inr ⟨⟨"PaperLand", (jm_nk (jm_t2 (i := 24) (by decide +kernel)) rfl)⟩, by decide⟩⟩
theorem fk_4_107 : jm_fok 4 (107, 5, 6, 0, false) := ⟨RX5, TX5, 10, .int, "PaperLand$Plan", rfl, by decide, rfl, rfl, by decide +kernel, rfl, Or.inl rfl, (fun h => by cases h), Or.inr ⟨⟨"PaperLand", (jm_nk (jm_t2 (i := 36) (by decide +kernel)) rfl)⟩, by decide⟩⟩
theorem fk_4_110 : jm_fok 4 (110, 5, 3, 0, false) := ⟨RX5, TX5, 10, .int, "PaperLand$Plan", rfl, by decide, rfl, rfl, by decide +kernel, rfl, Or.inl rfl, (fun h => by cases h), Or.inr ⟨⟨"PaperLand", (jm_nk (jm_t2 (i := 30) (by decide +kernel)) rfl)⟩, by decide⟩⟩
theorem fk_4_113 : jm_fok 4 (113, 5, 1, 0, false) := ⟨RX5, TX5, 10, .int, "PaperLand$Plan", rfl, by decide, rfl, rfl, by decide +kernel, rfl, Or.inl rfl, (fun h => by cases h), Or.inr ⟨⟨"PaperLand", (jm_nk (jm_t2 (i := 26) (by decide +kernel)) rfl)⟩, by decide⟩⟩
theorem fk_4_116 : jm_fok 4 (116, 5, 2, 0, false) := ⟨RX5, TX5, 10, .int, "PaperLand$Plan", rfl, by decide, rfl, rfl, by decide +kernel, rfl, Or.inl rfl, (fun h => by cases h), Or.inr ⟨⟨"PaperLand", (jm_nk (jm_t2 (i := 28) (by decide +kernel)) rfl)⟩, by decide⟩⟩
theorem fk_4_119 : jm_fok 4 (119, 5, 7, 0, false) := ⟨RX5, TX5, 10, .int, "PaperLand$Plan", rfl, by decide, rfl, rfl, by decide +kernel, rfl, Or.inl rfl, (fun h => by cases h), Or.inr ⟨⟨"PaperLand", (jm_nk (jm_t2 (i := 38) (by decide +kernel)) rfl)⟩, by decide⟩⟩
theorem fk_4_122 : jm_fok 4 (122, 1, 2, 2, false) := ⟨RX1, TX1, 3, .long, "PaperLand$Cuts", rfl, by decide, rfl, rfl, by decide +kernel, rfl, Or.inl rfl, (fun h => by cases h), Or.inr ⟨⟨"PaperLand", (jm_nk (jm_t2 (i := 15) (by decide +kernel)) rfl)⟩, by decide⟩⟩
theorem fk_4_126 : jm_fok 4 (126, 1, 1, 0, false) := ⟨RX1, TX1, 3, .int, "PaperLand$Cuts", rfl, by decide, rfl, rfl, by decide +kernel, rfl, Or.inl rfl, (fun h => by cases h), Or.inr ⟨⟨"PaperLand", (jm_nk (jm_t2 (i := 13) (by decide +kernel)) rfl)⟩, by decide⟩⟩
theorem fk_5_12 : jm_fok 5 (12, 5, 0, 3, true) := ⟨RX5, TX5, 10, .object "PaperLand$Cuts", "PaperLand$Plan", rfl, by decide, rfl, rfl, by decide +kernel, ⟨fun _ => rfl, fun _ => rfl⟩, Or.inl rfl, (fun _ => rfl), Or.inl (jm_wk (jm_t2 (i := 23) (by decide +kernel)) (by decide +kernel))⟩
theorem fk_5_18 : jm_fok 5 (18, 5, 1, 0, false) := ⟨RX5, TX5, 10, .int, "PaperLand$Plan", rfl, by decide, rfl, rfl, by decide +kernel, rfl, Or.inl rfl, (fun h => by cases h), Or.inl (jm_wk (jm_t2 (i := 25) (by decide +kernel)) (by decide +kernel))⟩
theorem fk_5_22 : jm_fok 5 (22, 5, 2, 0, false) := ⟨RX5, TX5, 10, .int, "PaperLand$Plan", rfl, by decide, rfl, rfl, by decide +kernel, rfl, Or.inl rfl, (fun h => by cases h), Or.inl (jm_wk (jm_t2 (i := 27) (by decide +kernel)) (by decide +kernel))⟩
theorem fk_5_25 : jm_fok 5 (25, 5, 3, 0, false) := ⟨RX5, TX5, 10, .int, "PaperLand$Plan", rfl, by decide, rfl, rfl, by decide +kernel, rfl, Or.inl rfl, (fun h => by cases h), Or.inl (jm_wk (jm_t2 (i := 29) (by decide +kernel)) (by decide +kernel))⟩
theorem fk_5_28 : jm_fok 5 (28, 5, 5, 0, false) := ⟨RX5, TX5, 10, .int, "PaperLand$Plan", rfl, by decide, rfl, rfl, by decide +kernel, rfl, Or.inl rfl, (fun h => by cases h), Or.inl (jm_wk (jm_t2 (i := 33) (by decide +kernel)) (by decide +kernel))⟩
theorem fk_5_31 : jm_fok 5 (31, 5, 6, 0, false) := ⟨RX5, TX5, 10, .int, "PaperLand$Plan", rfl, by decide, rfl, rfl, by decide +kernel, rfl, Or.inl rfl, (fun h => by cases h), Or.inl (jm_wk (jm_t2 (i := 35) (by decide +kernel)) (by decide +kernel))⟩
theorem fk_5_34 : jm_fok 5 (34, 5, 7, 0, false) := ⟨RX5, TX5, 10, .int, "PaperLand$Plan", rfl, by decide, rfl, rfl, by decide +kernel, rfl, Or.inl rfl, (fun h => by cases h), Or.inl (jm_wk (jm_t2 (i := 37) (by decide +kernel)) (by decide +kernel))⟩
theorem fk_5_37 : jm_fok 5 (37, 5, 8, 0, false) := ⟨RX5, TX5, 10, .int, "PaperLand$Plan", rfl, by decide, rfl, rfl, by decide +kernel, rfl, Or.inl rfl, (fun h => by cases h), Or.inl (jm_wk (jm_t2 (i := 39) (by decide +kernel)) (by decide +kernel))⟩
theorem fk_5_40 : jm_fok 5 (40, 5, 9, 0, false) := ⟨RX5, TX5, 10, .int, "PaperLand$Plan", rfl, by decide, rfl, rfl, by decide +kernel, rfl, Or.inl rfl, (fun h => by cases h), Or.inl (jm_wk (jm_t2 (i := 41) (by decide +kernel)) (by decide +kernel))⟩
theorem fk_5_43 : jm_fok 5 (43, 4, 2, 0, false) := ⟨RX4, TX4, 6, .int, "PaperLand$Land", rfl, by decide, rfl, rfl, by decide +kernel, rfl, Or.inl rfl, (fun h => by cases h), Or.inr ⟨⟨"PaperLand", (jm_nk (jm_t1 (i := 194) (by decide +kernel)) rfl)⟩, by decide⟩⟩
theorem fk_5_48 : jm_fok 5 (48, 4, 3, 3, true) := ⟨RX4, TX4, 6, .array (.object "PaperLand$Series"), "PaperLand$Land", rfl, by decide, rfl, rfl, by decide +kernel, ⟨fun _ => rfl, fun _ => rfl⟩, Or.inl rfl, (fun _ => rfl), Or.inr ⟨⟨"PaperLand", (jm_nk (jm_t1 (i := 198) (by decide +kernel)) rfl)⟩, by decide⟩⟩
theorem fk_5_51 : jm_fok 5 (51, 4, 0, 0, false) := ⟨RX4, TX4, 6, .int, "PaperLand$Land", rfl, by decide, rfl, rfl, by decide +kernel, rfl, Or.inl rfl, (fun h => by cases h), Or.inr ⟨⟨"PaperLand", (jm_nk (jm_t1 (i := 187) (by decide +kernel)) rfl)⟩, by decide⟩⟩
theorem fk_5_62 : jm_fok 5 (62, 5, 4, 0, false) := ⟨RX5, TX5, 10, .int, "PaperLand$Plan", rfl, by decide, rfl, rfl, by decide +kernel, rfl, Or.inl rfl, (fun h => by cases h), Or.inl (jm_wk (jm_t2 (i := 31) (by decide +kernel)) (by decide +kernel))⟩
theorem fk_6_9 : jm_fok 6 (9, 6, 0, 3, true) := ⟨RX6, TX6, 4, .array (.int), "PaperLand$Prints", rfl, by decide, rfl, rfl, by decide +kernel, ⟨fun _ => rfl, fun _ => rfl⟩, Or.inl rfl, (fun _ => rfl), Or.inl (jm_wk (jm_t1 (i := 150) (by decide +kernel)) (by decide +kernel))⟩
theorem fk_6_15 : jm_fok 6 (15, 6, 1, 3, true) := ⟨RX6, TX6, 4, .array (.int), "PaperLand$Prints", rfl, by decide, rfl, rfl, by decide +kernel, ⟨fun _ => rfl, fun _ => rfl⟩, Or.inl rfl, (fun _ => rfl), Or.inl (jm_wk (jm_t1 (i := 151) (by decide +kernel)) (by decide +kernel))⟩
theorem fk_6_18 : jm_fok 6 (18, 6, 2, 3, true) := ⟨RX6, TX6, 4, .array (.int), "PaperLand$Prints", rfl, by decide, rfl, rfl, by decide +kernel, ⟨fun _ => rfl, fun _ => rfl⟩, Or.inl rfl, (fun _ => rfl), Or.inl (jm_wk (jm_t1 (i := 152) (by decide +kernel)) (by decide +kernel))⟩
theorem fk_6_21 : jm_fok 6 (21, 6, 3, 0, false) := ⟨RX6, TX6, 4, .int, "PaperLand$Prints", rfl, by decide, rfl, rfl, by decide +kernel, rfl, Or.inl rfl, (fun h => by cases h), Or.inl (jm_wk (jm_t1 (i := 153) (by decide +kernel)) (by decide +kernel))⟩
theorem fk_7_9 : jm_fok 7 (9, 7, 6, 0, false) := ⟨RX7, TX7, 7, .int, "PaperLand$Reader", rfl, by decide, rfl, rfl, by decide +kernel, rfl, Or.inl rfl, (fun h => by cases h), Or.inl (jm_wk (jm_t1 (i := 82) (by decide +kernel)) (by decide +kernel))⟩
theorem fk_7_15 : jm_fok 7 (15, 7, 0, 3, true) := ⟨RX7, TX7, 7, .object "PaperLand$Bytes", "PaperLand$Reader", rfl, by decide, rfl, rfl, by decide +kernel, ⟨fun _ => rfl, fun _ => rfl⟩, Or.inl rfl, (fun _ => rfl), Or.inl (jm_wk (jm_t1 (i := 70) (by decide +kernel)) (by decide +kernel))⟩
theorem fk_7_19 : jm_fok 7 (19, 7, 5, 0, false) := ⟨RX7, TX7, 7, .int, "PaperLand$Reader", rfl, by decide, rfl, rfl, by decide +kernel, rfl, Or.inl rfl, (fun h => by cases h), Or.inl (jm_wk (jm_t1 (i := 80) (by decide +kernel)) (by decide +kernel))⟩
theorem fk_7_22 : jm_fok 7 (22, 7, 3, 0, false) := ⟨RX7, TX7, 7, .int, "PaperLand$Reader", rfl, by decide, rfl, rfl, by decide +kernel, rfl, Or.inl rfl, (fun h => by cases h), Or.inl (jm_wk (jm_t1 (i := 76) (by decide +kernel)) (by decide +kernel))⟩
theorem fk_7_28 : jm_fok 7 (28, 0, 1, 0, false) := ⟨RX0, TX0, 2, .int, "PaperLand$Bytes", rfl, by decide, rfl, rfl, by decide +kernel, rfl, Or.inl rfl, (fun h => by cases h), Or.inr ⟨⟨"PaperLand", (jm_nk (jm_t1 (i := 57) (by decide +kernel)) rfl)⟩, by decide⟩⟩
theorem fk_7_41 : jm_fok 7 (41, 7, 2, 0, false) := ⟨RX7, TX7, 7, .int, "PaperLand$Reader", rfl, by decide, rfl, rfl, by decide +kernel, rfl, Or.inl rfl, (fun h => by cases h), Or.inl (jm_wk (jm_t1 (i := 74) (by decide +kernel)) (by decide +kernel))⟩
theorem fk_7_44 : jm_fok 7 (44, 7, 4, 0, false) := ⟨RX7, TX7, 7, .int, "PaperLand$Reader", rfl, by decide, rfl, rfl, by decide +kernel, rfl, Or.inl rfl, (fun h => by cases h), Or.inl (jm_wk (jm_t1 (i := 79) (by decide +kernel)) (by decide +kernel))⟩
theorem fk_7_47 : jm_fok 7 (47, 7, 1, 0, false) := ⟨RX7, TX7, 7, .int, "PaperLand$Reader", rfl, by decide, rfl, rfl, by decide +kernel, rfl, Or.inl rfl, (fun h => by cases h), Or.inl (jm_wk (jm_t1 (i := 73) (by decide +kernel)) (by decide +kernel))⟩
theorem fk_8_9 : jm_fok 8 (9, 8, 0, 3, true) := ⟨RX8, TX8, 6, .array (.int), "PaperLand$Script", rfl, by decide, rfl, rfl, by decide +kernel, ⟨fun _ => rfl, fun _ => rfl⟩, Or.inl rfl, (fun _ => rfl), Or.inl (jm_wk (jm_t1 (i := 118) (by decide +kernel)) (by decide +kernel))⟩
theorem fk_8_15 : jm_fok 8 (15, 8, 1, 3, true) := ⟨RX8, TX8, 6, .array (.int), "PaperLand$Script", rfl, by decide, rfl, rfl, by decide +kernel, ⟨fun _ => rfl, fun _ => rfl⟩, Or.inl rfl, (fun _ => rfl), Or.inl (jm_wk (jm_t1 (i := 119) (by decide +kernel)) (by decide +kernel))⟩
theorem fk_8_18 : jm_fok 8 (18, 8, 2, 3, true) := ⟨RX8, TX8, 6, .array (.int), "PaperLand$Script", rfl, by decide, rfl, rfl, by decide +kernel, ⟨fun _ => rfl, fun _ => rfl⟩, Or.inl rfl, (fun _ => rfl), Or.inl (jm_wk (jm_t1 (i := 120) (by decide +kernel)) (by decide +kernel))⟩
theorem fk_8_21 : jm_fok 8 (21, 8, 3, 3, true) := ⟨RX8, TX8, 6, .array (.int), "PaperLand$Script", rfl, by decide, rfl, rfl, by decide +kernel, ⟨fun _ => rfl, fun _ => rfl⟩, Or.inl rfl, (fun _ => rfl), Or.inl (jm_wk (jm_t1 (i := 121) (by decide +kernel)) (by decide +kernel))⟩
theorem fk_8_24 : jm_fok 8 (24, 8, 4, 3, true) := ⟨RX8, TX8, 6, .array (.int), "PaperLand$Script", rfl, by decide, rfl, rfl, by decide +kernel, ⟨fun _ => rfl, fun _ => rfl⟩, Or.inl rfl, (fun _ => rfl), Or.inl (jm_wk (jm_t1 (i := 122) (by decide +kernel)) (by decide +kernel))⟩
theorem fk_9_9 : jm_fok 9 (9, 9, 0, 3, true) := ⟨RX9, TX9, 5, .array (.int), "PaperLand$Series", rfl, by decide, rfl, rfl, by decide +kernel, ⟨fun _ => rfl, fun _ => rfl⟩, Or.inl rfl, (fun _ => rfl), Or.inl (jm_wk (jm_t1 (i := 169) (by decide +kernel)) (by decide +kernel))⟩
theorem fk_9_15 : jm_fok 9 (15, 9, 2, 3, true) := ⟨RX9, TX9, 5, .array (.int), "PaperLand$Series", rfl, by decide, rfl, rfl, by decide +kernel, ⟨fun _ => rfl, fun _ => rfl⟩, Or.inl rfl, (fun _ => rfl), Or.inl (jm_wk (jm_t1 (i := 171) (by decide +kernel)) (by decide +kernel))⟩
theorem fk_9_18 : jm_fok 9 (18, 9, 3, 3, true) := ⟨RX9, TX9, 5, .array (.int), "PaperLand$Series", rfl, by decide, rfl, rfl, by decide +kernel, ⟨fun _ => rfl, fun _ => rfl⟩, Or.inl rfl, (fun _ => rfl), Or.inl (jm_wk (jm_t1 (i := 172) (by decide +kernel)) (by decide +kernel))⟩
theorem fk_9_21 : jm_fok 9 (21, 9, 4, 3, true) := ⟨RX9, TX9, 5, .array (.int), "PaperLand$Series", rfl, by decide, rfl, rfl, by decide +kernel, ⟨fun _ => rfl, fun _ => rfl⟩, Or.inl rfl, (fun _ => rfl), Or.inl (jm_wk (jm_t1 (i := 173) (by decide +kernel)) (by decide +kernel))⟩
theorem fk_9_24 : jm_fok 9 (24, 9, 1, 0, false) := ⟨RX9, TX9, 5, .int, "PaperLand$Series", rfl, by decide, rfl, rfl, by decide +kernel, rfl, Or.inl rfl, (fun h => by cases h), Or.inl (jm_wk (jm_t1 (i := 170) (by decide +kernel)) (by decide +kernel))⟩
theorem fk_10_9 : jm_fok 10 (9, 10, 1, 3, true) := ⟨RX10, TX10, 2, .array (.boolean), "PaperLand$SetupReader", rfl, by decide, rfl, rfl, by decide +kernel, ⟨fun _ => rfl, fun _ => rfl⟩, Or.inl rfl, (fun _ => rfl), Or.inl (jm_wk (jm_t1 (i := 105) (by decide +kernel)) (by decide +kernel))⟩
theorem fk_10_15 : jm_fok 10 (15, 10, 0, 3, true) := ⟨RX10, TX10, 2, .object "PaperLand$Reader", "PaperLand$SetupReader", rfl, by decide, rfl, rfl, by decide +kernel, ⟨fun _ => rfl, fun _ => rfl⟩, Or.inl rfl, (fun _ => rfl), Or.inl (jm_wk (jm_t1 (i := 104) (by decide +kernel)) (by decide +kernel))⟩
theorem fk_10_31 : jm_fok 10 (31, 7, 1, 0, false) := ⟨RX7, TX7, 7, .int, "PaperLand$Reader", rfl, by decide, rfl, rfl, by decide +kernel, rfl, Or.inl rfl, (fun h => by cases h), Or.inr ⟨⟨"PaperLand", (jm_nk (jm_t1 (i := 72) (by decide +kernel)) rfl)⟩, by decide⟩⟩
theorem fk_10_42 : jm_fok 10 (42, 4, 5, 3, true) := ⟨RX4, TX4, 6, .array (.long), "PaperLand$Land", rfl, by decide, rfl, rfl, by decide +kernel, ⟨fun _ => rfl, fun _ => rfl⟩, Or.inl rfl, (fun _ => rfl), Or.inr ⟨⟨"PaperLand", (jm_nk (jm_t1 (i := 204) (by decide +kernel)) rfl)⟩, by decide⟩⟩
theorem fk_10_67 : jm_fok 10 (67, 7, 4, 0, false) := ⟨RX7, TX7, 7, .int, "PaperLand$Reader", rfl, by decide, rfl, rfl, by decide +kernel, rfl, Or.inl rfl, (fun h => by cases h), Or.inr ⟨⟨"PaperLand", (jm_nk (jm_t1 (i := 78) (by decide +kernel)) rfl)⟩, by decide⟩⟩
theorem fk_10_70 : jm_fok 10 (70, 4, 0, 0, false) := ⟨RX4, TX4, 6, .int, "PaperLand$Land", rfl, by decide, rfl, rfl, by decide +kernel, rfl, Or.inl rfl, (fun h => by cases h), Or.inr ⟨⟨"PaperLand", (jm_nk (jm_t1 (i := 188) (by decide +kernel)) rfl)⟩, by decide⟩⟩
theorem fk_10_73 : jm_fok 10 (73, 4, 1, 0, false) := ⟨RX4, TX4, 6, .int, "PaperLand$Land", rfl, by decide, rfl, rfl, by decide +kernel, rfl, Or.inl rfl, (fun h => by cases h), Or.inr ⟨⟨"PaperLand", (jm_nk (jm_t1 (i := 191) (by decide +kernel)) rfl)⟩, by decide⟩⟩
theorem fk_10_78 : jm_fok 10 (78, 4, 2, 0, false) := ⟨RX4, TX4, 6, .int, "PaperLand$Land", rfl, by decide, rfl, rfl, by decide +kernel, rfl, Or.inl rfl, (fun h => by cases h), Or.inr ⟨⟨"PaperLand", (jm_nk (jm_t1 (i := 196) (by decide +kernel)) rfl)⟩, by decide⟩⟩
theorem fk_10_81 : jm_fok 10 (81, 4, 3, 3, true) := ⟨RX4, TX4, 6, .array (.object "PaperLand$Series"), "PaperLand$Land", rfl, by decide, rfl, rfl, by decide +kernel, ⟨fun _ => rfl, fun _ => rfl⟩, Or.inl rfl, (fun _ => rfl), Or.inr ⟨⟨"PaperLand", (jm_nk (jm_t1 (i := 199) (by decide +kernel)) rfl)⟩, by decide⟩⟩
theorem fk_10_88 : jm_fok 10 (88, 7, 2, 0, false) := ⟨RX7, TX7, 7, .int, "PaperLand$Reader", rfl, by decide, rfl, rfl, by decide +kernel, rfl, Or.inl rfl, (fun h => by cases h), Or.inr ⟨⟨"PaperLand", (jm_nk (jm_t1 (i := 75) (by decide +kernel)) rfl)⟩, by decide⟩⟩
theorem fk_10_91 : jm_fok 10 (91, 7, 3, 0, false) := ⟨RX7, TX7, 7, .int, "PaperLand$Reader", rfl, by decide, rfl, rfl, by decide +kernel, rfl, Or.inl rfl, (fun h => by cases h), Or.inr ⟨⟨"PaperLand", (jm_nk (jm_t1 (i := 77) (by decide +kernel)) rfl)⟩, by decide⟩⟩
theorem fk_10_94 : jm_fok 10 (94, 7, 0, 3, true) := ⟨RX7, TX7, 7, .object "PaperLand$Bytes", "PaperLand$Reader", rfl, by decide, rfl, rfl, by decide +kernel, ⟨fun _ => rfl, fun _ => rfl⟩, Or.inl rfl, (fun _ => rfl), Or.inr ⟨⟨"PaperLand", (jm_nk (jm_t1 (i := 71) (by decide +kernel)) rfl)⟩, by decide⟩⟩
theorem fk_11_14 : jm_fok 11 (14, 11, 0, 3, true) := ⟨RX11, TX11, 14, .object "PaperLand$Bytes", "PaperLand", rfl, by decide, rfl, rfl, by decide +kernel, ⟨fun _ => rfl, fun _ => rfl⟩, Or.inl rfl, (fun _ => rfl), Or.inl (jm_wk (jm_t3 (i := 76) (by decide +kernel)) (by decide +kernel))⟩
theorem fk_11_18 : jm_fok 11 (18, 11, 1, 3, true) := ⟨RX11, TX11, 14, .object "PaperLand$Bytes", "PaperLand", rfl, by decide, rfl, rfl, by decide +kernel, ⟨fun _ => rfl, fun _ => rfl⟩, Or.inl rfl, (fun _ => rfl), Or.inl (jm_wk (jm_t3 (i := 77) (by decide +kernel)) (by decide +kernel))⟩
theorem fk_11_26 : jm_fok 11 (26, 11, 2, 3, true) := ⟨RX11, TX11, 14, .object "PaperLand$Reader", "PaperLand", rfl, by decide, rfl, rfl, by decide +kernel, ⟨fun _ => rfl, fun _ => rfl⟩, Or.inl rfl, (fun _ => rfl), Or.inl (jm_wk (jm_t3 (i := 78) (by decide +kernel)) (by decide +kernel))⟩
theorem fk_11_35 : jm_fok 11 (35, 11, 3, 3, true) := ⟨RX11, TX11, 14, .object "PaperLand$SetupReader", "PaperLand", rfl, by decide, rfl, rfl, by decide +kernel, ⟨fun _ => rfl, fun _ => rfl⟩, Or.inl rfl, (fun _ => rfl), Or.inl (jm_wk (jm_t3 (i := 79) (by decide +kernel)) (by decide +kernel))⟩
theorem fk_11_42 : jm_fok 11 (42, 11, 4, 3, true) := ⟨RX11, TX11, 14, .object "PaperLand$Script", "PaperLand", rfl, by decide, rfl, rfl, by decide +kernel, ⟨fun _ => rfl, fun _ => rfl⟩, Or.inl rfl, (fun _ => rfl), Or.inl (jm_wk (jm_t3 (i := 80) (by decide +kernel)) (by decide +kernel))⟩
theorem fk_11_49 : jm_fok 11 (49, 11, 5, 3, true) := ⟨RX11, TX11, 14, .object "PaperLand$Land", "PaperLand", rfl, by decide, rfl, rfl, by decide +kernel, ⟨fun _ => rfl, fun _ => rfl⟩, Or.inl rfl, (fun _ => rfl), Or.inl (jm_wk (jm_t3 (i := 81) (by decide +kernel)) (by decide +kernel))⟩
theorem fk_11_53 : jm_fok 11 (53, 11, 6, 3, true) := ⟨RX11, TX11, 14, .object "PaperLand$Land", "PaperLand", rfl, by decide, rfl, rfl, by decide +kernel, ⟨fun _ => rfl, fun _ => rfl⟩, Or.inl rfl, (fun _ => rfl), Or.inl (jm_wk (jm_t3 (i := 82) (by decide +kernel)) (by decide +kernel))⟩
theorem fk_11_59 : jm_fok 11 (59, 11, 7, 3, true) := ⟨RX11, TX11, 14, .object "PaperLand$History", "PaperLand", rfl, by decide, rfl, rfl, by decide +kernel, ⟨fun _ => rfl, fun _ => rfl⟩, Or.inl rfl, (fun _ => rfl), Or.inl (jm_wk (jm_t3 (i := 83) (by decide +kernel)) (by decide +kernel))⟩
theorem fk_11_63 : jm_fok 11 (63, 11, 8, 3, true) := ⟨RX11, TX11, 14, .array (.object "PaperLand$Land"), "PaperLand", rfl, by decide, rfl, rfl, by decide +kernel, ⟨fun _ => rfl, fun _ => rfl⟩, Or.inl rfl, (fun _ => rfl), Or.inl (jm_wk (jm_t3 (i := 84) (by decide +kernel)) (by decide +kernel))⟩
theorem fk_11_67 : jm_fok 11 (67, 11, 9, 3, true) := ⟨RX11, TX11, 14, .array (.boolean), "PaperLand", rfl, by decide, rfl, rfl, by decide +kernel, ⟨fun _ => rfl, fun _ => rfl⟩, Or.inl rfl, (fun _ => rfl), Or.inl (jm_wk (jm_t3 (i := 85) (by decide +kernel)) (by decide +kernel))⟩
theorem fk_11_71 : jm_fok 11 (71, 11, 10, 3, true) := ⟨RX11, TX11, 14, .array (.int), "PaperLand", rfl, by decide, rfl, rfl, by decide +kernel, ⟨fun _ => rfl, fun _ => rfl⟩, Or.inl rfl, (fun _ => rfl), Or.inl (jm_wk (jm_t3 (i := 86) (by decide +kernel)) (by decide +kernel))⟩
theorem fk_11_78 : jm_fok 11 (78, 11, 11, 3, true) := ⟨RX11, TX11, 14, .object "PaperLand$Plan", "PaperLand", rfl, by decide, rfl, rfl, by decide +kernel, ⟨fun _ => rfl, fun _ => rfl⟩, Or.inl rfl, (fun _ => rfl), Or.inl (jm_wk (jm_t3 (i := 87) (by decide +kernel)) (by decide +kernel))⟩
theorem fk_11_85 : jm_fok 11 (85, 11, 12, 3, true) := ⟨RX11, TX11, 14, .object "PaperLand$Folding", "PaperLand", rfl, by decide, rfl, rfl, by decide +kernel, ⟨fun _ => rfl, fun _ => rfl⟩, Or.inl rfl, (fun _ => rfl), Or.inl (jm_wk (jm_t3 (i := 88) (by decide +kernel)) (by decide +kernel))⟩
theorem fk_11_122 : jm_fok 11 (122, 0, 1, 0, false) := ⟨RX0, TX0, 2, .int, "PaperLand$Bytes", rfl, by decide, rfl, rfl, by decide +kernel, rfl, Or.inl rfl, (fun h => by cases h), Or.inr ⟨⟨"PaperLand", (jm_nk (jm_t1 (i := 56) (by decide +kernel)) rfl)⟩, by decide⟩⟩
theorem fk_11_132 : jm_fok 11 (132, 4, 2, 0, false) := ⟨RX4, TX4, 6, .int, "PaperLand$Land", rfl, by decide, rfl, rfl, by decide +kernel, rfl, Or.inl rfl, (fun h => by cases h), Or.inr ⟨⟨"PaperLand", (jm_nk (jm_t1 (i := 195) (by decide +kernel)) rfl)⟩, by decide⟩⟩
theorem fk_11_153 : jm_fok 11 (153, 7, 5, 0, false) := ⟨RX7, TX7, 7, .int, "PaperLand$Reader", rfl, by decide, rfl, rfl, by decide +kernel, rfl, Or.inl rfl, (fun h => by cases h), Or.inr ⟨⟨"PaperLand", (jm_nk (jm_t1 (i := 81) (by decide +kernel)) rfl)⟩, by decide⟩⟩
theorem fk_11_233 : jm_fok 11 (233, 4, 0, 0, false) := ⟨RX4, TX4, 6, .int, "PaperLand$Land", rfl, by decide, rfl, rfl, by decide +kernel, rfl, Or.inl rfl, (fun h => by cases h), Or.inr ⟨⟨"PaperLand", (jm_nk (jm_t1 (i := 189) (by decide +kernel)) rfl)⟩, by decide⟩⟩
theorem fk_11_236 : jm_fok 11 (236, 4, 1, 0, false) := ⟨RX4, TX4, 6, .int, "PaperLand$Land", rfl, by decide, rfl, rfl, by decide +kernel, rfl, Or.inl rfl, (fun h => by cases h), Or.inr ⟨⟨"PaperLand", (jm_nk (jm_t1 (i := 192) (by decide +kernel)) rfl)⟩, by decide⟩⟩
theorem fk_11_239 : jm_fok 11 (239, 4, 4, 3, true) := ⟨RX4, TX4, 6, .object "PaperLand$Prints", "PaperLand$Land", rfl, by decide, rfl, rfl, by decide +kernel, ⟨fun _ => rfl, fun _ => rfl⟩, Or.inl rfl, (fun _ => rfl), Or.inr ⟨⟨"PaperLand", (jm_nk (jm_t1 (i := 202) (by decide +kernel)) rfl)⟩, by decide⟩⟩
theorem fk_11_243 : jm_fok 11 (243, 6, 3, 0, false) := ⟨RX6, TX6, 4, .int, "PaperLand$Prints", rfl, by decide, rfl, rfl, by decide +kernel, rfl, Or.inl rfl, (fun h => by cases h), Or.inr ⟨⟨"PaperLand", (jm_nk (jm_t1 (i := 154) (by decide +kernel)) rfl)⟩, by decide⟩⟩
theorem fk_11_248 : jm_fok 11 (248, 3, 2, 0, false) := ⟨RX3, TX3, 3, .int, "PaperLand$History", rfl, by decide, rfl, rfl, by decide +kernel, rfl, Or.inl rfl, (fun h => by cases h), Or.inr ⟨⟨"PaperLand", (jm_nk (jm_t1 (i := 231) (by decide +kernel)) rfl)⟩, by decide⟩⟩
theorem fk_11_259 : jm_fok 11 (259, 4, 3, 3, true) := ⟨RX4, TX4, 6, .array (.object "PaperLand$Series"), "PaperLand$Land", rfl, by decide, rfl, rfl, by decide +kernel, ⟨fun _ => rfl, fun _ => rfl⟩, Or.inl rfl, (fun _ => rfl), Or.inr ⟨⟨"PaperLand", (jm_nk (jm_t1 (i := 200) (by decide +kernel)) rfl)⟩, by decide⟩⟩
theorem fk_11_311 : jm_fok 11 (311, 4, 5, 3, true) := ⟨RX4, TX4, 6, .array (.long), "PaperLand$Land", rfl, by decide, rfl, rfl, by decide +kernel, ⟨fun _ => rfl, fun _ => rfl⟩, Or.inl rfl, (fun _ => rfl), Or.inr ⟨⟨"PaperLand", (jm_nk (jm_t1 (i := 205) (by decide +kernel)) rfl)⟩, by decide⟩⟩
theorem fk_11_339 : jm_fok 11 (339, 2, 1, 0, false) := ⟨RX2, TX2, 7, .int, "PaperLand$Folding", rfl, by decide, rfl, rfl, by decide +kernel, rfl, Or.inl rfl, (fun h => by cases h), Or.inr ⟨⟨"PaperLand", (jm_nk (jm_t2 (i := 72) (by decide +kernel)) rfl)⟩, by decide⟩⟩
theorem fk_11_342 : jm_fok 11 (342, 2, 0, 0, false) := ⟨RX2, TX2, 7, .int, "PaperLand$Folding", rfl, by decide, rfl, rfl, by decide +kernel, rfl, Or.inl rfl, (fun h => by cases h), Or.inr ⟨⟨"PaperLand", (jm_nk (jm_t2 (i := 70) (by decide +kernel)) rfl)⟩, by decide⟩⟩
theorem fk_11_373 : jm_fok 11 (373, 5, 8, 0, false) := ⟨RX5, TX5, 10, .int, "PaperLand$Plan", rfl, by decide, rfl, rfl, by decide +kernel, rfl, Or.inl rfl, (fun h => by cases h), Or.inr ⟨⟨"PaperLand", (jm_nk (jm_t2 (i := 40) (by decide +kernel)) rfl)⟩, by decide⟩⟩
theorem fk_11_379 : jm_fok 11 (379, 5, 4, 0, false) := ⟨RX5, TX5, 10, .int, "PaperLand$Plan", rfl, by decide, rfl, rfl, by decide +kernel, rfl, Or.inl rfl, (fun h => by cases h), Or.inr ⟨⟨"PaperLand", (jm_nk (jm_t2 (i := 32) (by decide +kernel)) rfl)⟩, by decide⟩⟩
theorem fk_12_7 : jm_fok 12 (7, 12, 0, 3, true) := ⟨RX12, TX12, 3, .array (.int), "PaperLandLaw$Series", rfl, by decide, rfl, rfl, by decide +kernel, ⟨fun _ => rfl, fun _ => rfl⟩, Or.inl rfl, (fun _ => rfl), Or.inl (jm_wk (jm_t4 (i := 112) (by decide +kernel)) (by decide +kernel))⟩
theorem fk_12_13 : jm_fok 12 (13, 12, 1, 3, true) := ⟨RX12, TX12, 3, .array (.int), "PaperLandLaw$Series", rfl, by decide, rfl, rfl, by decide +kernel, ⟨fun _ => rfl, fun _ => rfl⟩, Or.inl rfl, (fun _ => rfl), Or.inl (jm_wk (jm_t4 (i := 114) (by decide +kernel)) (by decide +kernel))⟩
theorem fk_12_16 : jm_fok 12 (16, 12, 2, 3, true) := ⟨RX12, TX12, 3, .array (.int), "PaperLandLaw$Series", rfl, by decide, rfl, rfl, by decide +kernel, ⟨fun _ => rfl, fun _ => rfl⟩, Or.inl rfl, (fun _ => rfl), Or.inl (jm_wk (jm_t4 (i := 116) (by decide +kernel)) (by decide +kernel))⟩
theorem fk_13_10 : jm_fok 13 (10, 13, 0, 3, true) := ⟨RL, TL, 4, .object "java/util/List", "PaperLandLaw", rfl, by decide, rfl, rfl, by decide +kernel, ⟨fun _ => rfl, fun _ => rfl⟩, Or.inl rfl, (fun _ => rfl), Or.inl (jm_wk (jm_t3 (i := 154) (by decide +kernel)) (by decide +kernel))⟩
theorem fk_13_16 : jm_fok 13 (16, 13, 1, 3, true) := ⟨RL, TL, 4, .array (.long), "PaperLandLaw", rfl, by decide, rfl, rfl, by decide +kernel, ⟨fun _ => rfl, fun _ => rfl⟩, Or.inl rfl, (fun _ => rfl), Or.inl (jm_wk (jm_t3 (i := 155) (by decide +kernel)) (by decide +kernel))⟩
theorem fk_13_53 : jm_fok 13 (53, 12, 2, 3, true) := ⟨RX12, TX12, 3, .array (.int), "PaperLandLaw$Series", rfl, by decide, rfl, rfl, by decide +kernel, ⟨fun _ => rfl, fun _ => rfl⟩, Or.inl rfl, (fun _ => rfl), Or.inr ⟨⟨"PaperLandLaw", (jm_nk (jm_t4 (i := 117) (by decide +kernel)) rfl)⟩, by decide⟩⟩
theorem fk_13_65 : jm_fok 13 (65, 13, 2, 0, false) := ⟨RL, TL, 4, .int, "PaperLandLaw", rfl, by decide, rfl, rfl, by decide +kernel, rfl, Or.inl rfl, (fun h => by cases h), Or.inl (jm_wk (jm_t3 (i := 156) (by decide +kernel)) (by decide +kernel))⟩
theorem fk_13_90 : jm_fok 13 (90, 13, 3, 0, false) := ⟨RL, TL, 4, .int, "PaperLandLaw", rfl, by decide, rfl, rfl, by decide +kernel, rfl, Or.inl rfl, (fun h => by cases h), Or.inl (jm_wk (jm_t3 (i := 157) (by decide +kernel)) (by decide +kernel))⟩
theorem fk_13_139 : jm_fok 13 (139, 12, 0, 3, true) := ⟨RX12, TX12, 3, .array (.int), "PaperLandLaw$Series", rfl, by decide, rfl, rfl, by decide +kernel, ⟨fun _ => rfl, fun _ => rfl⟩, Or.inl rfl, (fun _ => rfl), Or.inr ⟨⟨"PaperLandLaw", (jm_nk (jm_t4 (i := 113) (by decide +kernel)) rfl)⟩, by decide⟩⟩
theorem fk_13_142 : jm_fok 13 (142, 12, 1, 3, true) := ⟨RX12, TX12, 3, .array (.int), "PaperLandLaw$Series", rfl, by decide, rfl, rfl, by decide +kernel, ⟨fun _ => rfl, fun _ => rfl⟩, Or.inl rfl, (fun _ => rfl), Or.inr ⟨⟨"PaperLandLaw", (jm_nk (jm_t4 (i := 115) (by decide +kernel)) rfl)⟩, by decide⟩⟩
theorem fk_14_9 : jm_fok 14 (9, 14, 0, 3, true) := ⟨RJ0, TJ0, 4, .array (.byte), "java/lang/String", rfl, by decide, rfl, rfl, by decide +kernel, ⟨fun _ => rfl, fun _ => rfl⟩, Or.inl rfl, (fun _ => rfl), Or.inl (jm_wk (jm_t5 (i := 27) (by decide +kernel)) (by decide +kernel))⟩
theorem fk_14_15 : jm_fok 14 (15, 14, 1, 4, true) := ⟨RJ0, TJ0, 4, .byte, "java/lang/String", rfl, by decide, rfl, rfl, by decide +kernel, rfl, Or.inl rfl, (fun _ => rfl), Or.inl (jm_wk (jm_t5 (i := 28) (by decide +kernel)) (by decide +kernel))⟩
theorem fk_14_1048 : jm_fok 14 (1048, 15, 2, 1, false) := ⟨RJ4, TJ4, 4, .boolean, "java/lang/AbstractStringBuilder", rfl, by decide, rfl, rfl, by decide +kernel, rfl, Or.inl rfl, (fun h => by cases h), Or.inl (jm_wk (jm_t4 (i := 54) (by decide +kernel)) (by decide +kernel))⟩
theorem fk_16_205 : jm_fok 16 (205, 16, 0, 0, true) := ⟨RJ6, TJ6, 1, .int, "java/lang/Integer", rfl, by decide, rfl, rfl, by decide +kernel, rfl, Or.inl rfl, (fun _ => rfl), Or.inl (jm_wk (jm_t6 (i := 134) (by decide +kernel)) (by decide +kernel))⟩
theorem fk_17_9 : jm_fok 17 (9, 17, 1, 3, false) := ⟨RJx4a65c, TJx4a65c, 3, .array (.object "java/lang/Object"), "java/util/ArrayList", rfl, by decide, rfl, rfl, by decide +kernel, ⟨fun _ => rfl, fun _ => rfl⟩, Or.inl rfl, (fun h => by cases h), Or.inl (jm_wk (jm_t3 (i := 142) (by decide +kernel)) (by decide +kernel))⟩
theorem fk_17_48 : jm_fok 17 (48, 17, 2, 0, false) := ⟨RJx4a65c, TJx4a65c, 3, .int, "java/util/ArrayList", rfl, by decide, rfl, rfl, by decide +kernel, rfl, Or.inl rfl, (fun h => by cases h), Or.inl (jm_wk (jm_t3 (i := 143) (by decide +kernel)) (by decide +kernel))⟩
theorem fk_17_63 : jm_fok 17 (63, 17, 0, 0, false) := ⟨RJx4a65c, TJx4a65c, 3, .int, "java/util/ArrayList", rfl, by decide, rfl, rfl, by decide +kernel, rfl, Or.inr (jm_wk (jm_t3 (i := 146) (by decide +kernel)) (by decide +kernel)), (fun h => by cases h), Or.inl (jm_wk (jm_t3 (i := 145) (by decide +kernel)) (by decide +kernel))⟩
theorem fk_18_15 : jm_fok 18 (15, 15, 0, 3, false) := ⟨RJ4, TJ4, 4, .array (.byte), "java/lang/AbstractStringBuilder", rfl, by decide, rfl, rfl, by decide +kernel, ⟨fun _ => rfl, fun _ => rfl⟩, Or.inl rfl, (fun h => by cases h), Or.inl (jm_wk (jm_t4 (i := 52) (by decide +kernel)) (by decide +kernel))⟩
theorem fk_18_22 : jm_fok 18 (22, 15, 1, 4, false) := ⟨RJ4, TJ4, 4, .byte, "java/lang/AbstractStringBuilder", rfl, by decide, rfl, rfl, by decide +kernel, rfl, Or.inl rfl, (fun h => by cases h), Or.inl (jm_wk (jm_t4 (i := 53) (by decide +kernel)) (by decide +kernel))⟩
theorem fk_18_79 : jm_fok 18 (79, 15, 3, 0, false) := ⟨RJ4, TJ4, 4, .int, "java/lang/AbstractStringBuilder", rfl, by decide, rfl, rfl, by decide +kernel, rfl, Or.inl rfl, (fun h => by cases h), Or.inl (jm_wk (jm_t4 (i := 55) (by decide +kernel)) (by decide +kernel))⟩
theorem fk_24_7 : jm_fok 24 (7, 17, 0, 0, false) := ⟨RJx4a65c, TJx4a65c, 3, .int, "java/util/AbstractList", rfl, by decide, rfl, rfl, by decide +kernel, rfl, Or.inl rfl, (fun h => by cases h), Or.inl (jm_wk (jm_t3 (i := 144) (by decide +kernel)) (by decide +kernel))⟩
theorem jm_fkl_c0 : jm_al (jm_fok 0) (jm_fldT.getD 0 []) := And.intro fk_0_15 (And.intro fk_0_21 (trivial))
theorem jm_fkl_c1 : jm_al (jm_fok 1) (jm_fldT.getD 1 []) := And.intro fk_1_9 (And.intro fk_1_15 (And.intro fk_1_19 (trivial)))
theorem jm_fkl_c2 : jm_al (jm_fok 2) (jm_fldT.getD 2 []) := And.intro fk_2_9 (And.intro fk_2_15 (And.intro fk_2_19 (And.intro fk_2_22 (And.intro fk_2_34 (And.intro fk_2_38 (And.intro fk_2_41 (trivial)))))))
theorem jm_fkl_c3 : jm_al (jm_fok 3) (jm_fldT.getD 3 []) := And.intro fk_3_11 (And.intro fk_3_18 (And.intro fk_3_32 (trivial)))
theorem jm_fkl_c4 : jm_al (jm_fok 4) (jm_fldT.getD 4 []) := And.intro fk_4_11 (And.intro fk_4_20 (And.intro fk_4_24 (And.intro fk_4_29 (And.intro fk_4_33 (And.intro fk_4_36 (And.intro fk_4_94 (And.intro fk_4_98 (And.intro fk_4_107 (And.intro fk_4_110 (And.intro fk_4_113 (And.intro fk_4_116 (And.intro fk_4_119 (And.intro fk_4_122 (And.intro fk_4_126 (trivial)))))))))))))))
theorem jm_fkl_c5 : jm_al (jm_fok 5) (jm_fldT.getD 5 []) := And.intro fk_5_12 (And.intro fk_5_18 (And.intro fk_5_22 (And.intro fk_5_25 (And.intro fk_5_28 (And.intro fk_5_31 (And.intro fk_5_34 (And.intro fk_5_37 (And.intro fk_5_40 (And.intro fk_5_43 (And.intro fk_5_48 (And.intro fk_5_51 (And.intro fk_5_62 (trivial)))))))))))))
theorem jm_fkl_c6 : jm_al (jm_fok 6) (jm_fldT.getD 6 []) := And.intro fk_6_9 (And.intro fk_6_15 (And.intro fk_6_18 (And.intro fk_6_21 (trivial))))
theorem jm_fkl_c7 : jm_al (jm_fok 7) (jm_fldT.getD 7 []) := And.intro fk_7_9 (And.intro fk_7_15 (And.intro fk_7_19 (And.intro fk_7_22 (And.intro fk_7_28 (And.intro fk_7_41 (And.intro fk_7_44 (And.intro fk_7_47 (trivial))))))))
theorem jm_fkl_c8 : jm_al (jm_fok 8) (jm_fldT.getD 8 []) := And.intro fk_8_9 (And.intro fk_8_15 (And.intro fk_8_18 (And.intro fk_8_21 (And.intro fk_8_24 (trivial)))))
theorem jm_fkl_c9 : jm_al (jm_fok 9) (jm_fldT.getD 9 []) := And.intro fk_9_9 (And.intro fk_9_15 (And.intro fk_9_18 (And.intro fk_9_21 (And.intro fk_9_24 (trivial)))))
theorem jm_fkl_c10 : jm_al (jm_fok 10) (jm_fldT.getD 10 []) := And.intro fk_10_9 (And.intro fk_10_15 (And.intro fk_10_31 (And.intro fk_10_42 (And.intro fk_10_67 (And.intro fk_10_70 (And.intro fk_10_73 (And.intro fk_10_78 (And.intro fk_10_81 (And.intro fk_10_88 (And.intro fk_10_91 (And.intro fk_10_94 (trivial))))))))))))
theorem jm_fkl_c11 : jm_al (jm_fok 11) (jm_fldT.getD 11 []) := And.intro fk_11_14 (And.intro fk_11_18 (And.intro fk_11_26 (And.intro fk_11_35 (And.intro fk_11_42 (And.intro fk_11_49 (And.intro fk_11_53 (And.intro fk_11_59 (And.intro fk_11_63 (And.intro fk_11_67 (And.intro fk_11_71 (And.intro fk_11_78 (And.intro fk_11_85 (And.intro fk_11_122 (And.intro fk_11_132 (And.intro fk_11_153 (And.intro fk_11_233 (And.intro fk_11_236 (And.intro fk_11_239 (And.intro fk_11_243 (And.intro fk_11_248 (And.intro fk_11_259 (And.intro fk_11_311 (And.intro fk_11_339 (And.intro fk_11_342 (And.intro fk_11_373 (And.intro fk_11_379 (trivial)))))))))))))))))))))))))))
theorem jm_fkl_c12 : jm_al (jm_fok 12) (jm_fldT.getD 12 []) := And.intro fk_12_7 (And.intro fk_12_13 (And.intro fk_12_16 (trivial)))
theorem jm_fkl_c13 : jm_al (jm_fok 13) (jm_fldT.getD 13 []) := And.intro fk_13_10 (And.intro fk_13_16 (And.intro fk_13_53 (And.intro fk_13_65 (And.intro fk_13_90 (And.intro fk_13_139 (And.intro fk_13_142 (trivial)))))))
theorem jm_fkl_c14 : jm_al (jm_fok 14) (jm_fldT.getD 14 []) := And.intro fk_14_9 (And.intro fk_14_15 (And.intro fk_14_1048 (trivial)))
theorem jm_fkl_c15 : jm_al (jm_fok 15) (jm_fldT.getD 15 []) := trivial
theorem jm_fkl_c16 : jm_al (jm_fok 16) (jm_fldT.getD 16 []) := And.intro fk_16_205 (trivial)
theorem jm_fkl_c17 : jm_al (jm_fok 17) (jm_fldT.getD 17 []) := And.intro fk_17_9 (And.intro fk_17_48 (And.intro fk_17_63 (trivial)))
theorem jm_fkl_c18 : jm_al (jm_fok 18) (jm_fldT.getD 18 []) := And.intro fk_18_15 (And.intro fk_18_22 (And.intro fk_18_79 (trivial)))
theorem jm_fkl_c19 : jm_al (jm_fok 19) (jm_fldT.getD 19 []) := trivial
theorem jm_fkl_c20 : jm_al (jm_fok 20) (jm_fldT.getD 20 []) := trivial
theorem jm_fkl_c21 : jm_al (jm_fok 21) (jm_fldT.getD 21 []) := trivial
theorem jm_fkl_c22 : jm_al (jm_fok 22) (jm_fldT.getD 22 []) := trivial
theorem jm_fkl_c23 : jm_al (jm_fok 23) (jm_fldT.getD 23 []) := trivial
theorem jm_fkl_c24 : jm_al (jm_fok 24) (jm_fldT.getD 24 []) := And.intro fk_24_7 (trivial)
theorem jm_fkl_c25 : jm_al (jm_fok 25) (jm_fldT.getD 25 []) := trivial
theorem jm_fkl : ∀ c, ∀ e ∈ jm_fldT.getD c [], jm_fok c e := fun c => match c with
  | 0 => jm_al_mem jm_fkl_c0
  | 1 => jm_al_mem jm_fkl_c1
  | 2 => jm_al_mem jm_fkl_c2
  | 3 => jm_al_mem jm_fkl_c3
  | 4 => jm_al_mem jm_fkl_c4
  | 5 => jm_al_mem jm_fkl_c5
  | 6 => jm_al_mem jm_fkl_c6
  | 7 => jm_al_mem jm_fkl_c7
  | 8 => jm_al_mem jm_fkl_c8
  | 9 => jm_al_mem jm_fkl_c9
  | 10 => jm_al_mem jm_fkl_c10
  | 11 => jm_al_mem jm_fkl_c11
  | 12 => jm_al_mem jm_fkl_c12
  | 13 => jm_al_mem jm_fkl_c13
  | 14 => jm_al_mem jm_fkl_c14
  | 15 => jm_al_mem jm_fkl_c15
  | 16 => jm_al_mem jm_fkl_c16
  | 17 => jm_al_mem jm_fkl_c17
  | 18 => jm_al_mem jm_fkl_c18
  | 19 => jm_al_mem jm_fkl_c19
  | 20 => jm_al_mem jm_fkl_c20
  | 21 => jm_al_mem jm_fkl_c21
  | 22 => jm_al_mem jm_fkl_c22
  | 23 => jm_al_mem jm_fkl_c23
  | 24 => jm_al_mem jm_fkl_c24
  | 25 => jm_al_mem jm_fkl_c25
  | _ + 26 => fun e h => by cases h
theorem jm_fldOk {c x : Nat} {v : Nat × Nat × Nat × Bool} (h : jm_fld c x = some v) : jm_fok c (x, v) := jm_fkl c _ (jm_as_mem h)
def jm_cok (ci : Nat) (q : vw_C) : Prop := jm_cn ci = q.1 ∧ (∀ w ∈ u_ws q.1 q.2.1 q.2.2, w ∈ jm_WW) ∧ (∃ ty0 : Nat → FieldType, ∀ k, k < q.2.2 → parseFieldDescriptor (q.2.1 k).2.2.1 = some (ty0 k)) ∧ (∀ a, a < q.2.2 → ∀ b, b < q.2.2 → a ≠ b → (q.2.1 a).2.1 ≠ (q.2.1 b).2.1) ∧ Cond.instantiable q.1 q.2.2 ∈ jm_WW ∧ Cond.initialized q.1 ∈ jm_WW
set_option maxRecDepth 100000 in
theorem jm_uws_0 : ∀ w ∈ u_ws RX0 TX0 2, w ∈ lw_tbl := by decide +kernel
theorem jm_cok_0 : jm_cok 0 (RX0, TX0, 2) := ⟨rfl, fun w h => jm_wk (jm_uws_0 w h) (List.all_eq_true.mp (by decide +kernel : (u_ws RX0 TX0 2).all goodWord = true) w h), ⟨tyX0, tyX0_ok⟩, nmX0, (jm_wk (jm_t1 (i := 46) (by decide +kernel)) (by decide +kernel)), (jm_wk (jm_t1 (i := 2) (by decide +kernel)) (by decide +kernel))⟩
set_option maxRecDepth 100000 in
theorem jm_uws_1 : ∀ w ∈ u_ws RX1 TX1 3, w ∈ lw_tbl := by decide +kernel
theorem jm_cok_1 : jm_cok 1 (RX1, TX1, 3) := ⟨rfl, fun w h => jm_wk (jm_uws_1 w h) (List.all_eq_true.mp (by decide +kernel : (u_ws RX1 TX1 3).all goodWord = true) w h), ⟨tyX1, tyX1_ok⟩, nmX1, (jm_wk (jm_t2 (i := 6) (by decide +kernel)) (by decide +kernel)), (jm_wk (jm_t1 (i := 12) (by decide +kernel)) (by decide +kernel))⟩
set_option maxRecDepth 100000 in
theorem jm_uws_2 : ∀ w ∈ u_ws RX2 TX2 7, w ∈ lw_tbl := by decide +kernel
theorem jm_cok_2 : jm_cok 2 (RX2, TX2, 7) := ⟨rfl, fun w h => jm_wk (jm_uws_2 w h) (List.all_eq_true.mp (by decide +kernel : (u_ws RX2 TX2 7).all goodWord = true) w h), ⟨tyX2, tyX2_ok⟩, nmX2, (jm_wk (jm_t2 (i := 64) (by decide +kernel)) (by decide +kernel)), (jm_wk (jm_t1 (i := 13) (by decide +kernel)) (by decide +kernel))⟩
set_option maxRecDepth 100000 in
theorem jm_uws_3 : ∀ w ∈ u_ws RX3 TX3 3, w ∈ lw_tbl := by decide +kernel
theorem jm_cok_3 : jm_cok 3 (RX3, TX3, 3) := ⟨rfl, fun w h => jm_wk (jm_uws_3 w h) (List.all_eq_true.mp (by decide +kernel : (u_ws RX3 TX3 3).all goodWord = true) w h), ⟨tyX3, tyX3_ok⟩, nmX3, (jm_wk (jm_t1 (i := 220) (by decide +kernel)) (by decide +kernel)), (jm_wk (jm_t1 (i := 10) (by decide +kernel)) (by decide +kernel))⟩
set_option maxRecDepth 100000 in
theorem jm_uws_4 : ∀ w ∈ u_ws RX4 TX4 6, w ∈ lw_tbl := by decide +kernel
theorem jm_cok_4 : jm_cok 4 (RX4, TX4, 6) := ⟨rfl, fun w h => jm_wk (jm_uws_4 w h) (List.all_eq_true.mp (by decide +kernel : (u_ws RX4 TX4 6).all goodWord = true) w h), ⟨tyX4, tyX4_ok⟩, nmX4, (jm_wk (jm_t1 (i := 137) (by decide +kernel)) (by decide +kernel)), (jm_wk (jm_t1 (i := 7) (by decide +kernel)) (by decide +kernel))⟩
set_option maxRecDepth 100000 in
theorem jm_uws_5 : ∀ w ∈ u_ws RX5 TX5 10, w ∈ lw_tbl := by decide +kernel
theorem jm_cok_5 : jm_cok 5 (RX5, TX5, 10) := ⟨rfl, fun w h => jm_wk (jm_uws_5 w h) (List.all_eq_true.mp (by decide +kernel : (u_ws RX5 TX5 10).all goodWord = true) w h), ⟨tyX5, tyX5_ok⟩, nmX5, (jm_wk (jm_t2 (i := 0) (by decide +kernel)) (by decide +kernel)), (jm_wk (jm_t1 (i := 11) (by decide +kernel)) (by decide +kernel))⟩
set_option maxRecDepth 100000 in
theorem jm_uws_6 : ∀ w ∈ u_ws RX6 TX6 4, w ∈ lw_tbl := by decide +kernel
theorem jm_cok_6 : jm_cok 6 (RX6, TX6, 4) := ⟨rfl, fun w h => jm_wk (jm_uws_6 w h) (List.all_eq_true.mp (by decide +kernel : (u_ws RX6 TX6 4).all goodWord = true) w h), ⟨tyX6, tyX6_ok⟩, nmX6, (jm_wk (jm_t1 (i := 145) (by decide +kernel)) (by decide +kernel)), (jm_wk (jm_t1 (i := 8) (by decide +kernel)) (by decide +kernel))⟩
set_option maxRecDepth 100000 in
theorem jm_uws_7 : ∀ w ∈ u_ws RX7 TX7 7, w ∈ lw_tbl := by decide +kernel
theorem jm_cok_7 : jm_cok 7 (RX7, TX7, 7) := ⟨rfl, fun w h => jm_wk (jm_uws_7 w h) (List.all_eq_true.mp (by decide +kernel : (u_ws RX7 TX7 7).all goodWord = true) w h), ⟨tyX7, tyX7_ok⟩, nmX7, (jm_wk (jm_t1 (i := 65) (by decide +kernel)) (by decide +kernel)), (jm_wk (jm_t1 (i := 4) (by decide +kernel)) (by decide +kernel))⟩
set_option maxRecDepth 100000 in
theorem jm_uws_8 : ∀ w ∈ u_ws RX8 TX8 6, w ∈ lw_tbl := by decide +kernel
theorem jm_cok_8 : jm_cok 8 (RX8, TX8, 6) := ⟨rfl, fun w h => jm_wk (jm_uws_8 w h) (List.all_eq_true.mp (by decide +kernel : (u_ws RX8 TX8 6).all goodWord = true) w h), ⟨tyX8, tyX8_ok⟩, nmX8, (jm_wk (jm_t1 (i := 113) (by decide +kernel)) (by decide +kernel)), (jm_wk (jm_t1 (i := 6) (by decide +kernel)) (by decide +kernel))⟩
set_option maxRecDepth 100000 in
theorem jm_uws_9 : ∀ w ∈ u_ws RX9 TX9 5, w ∈ lw_tbl := by decide +kernel
theorem jm_cok_9 : jm_cok 9 (RX9, TX9, 5) := ⟨rfl, fun w h => jm_wk (jm_uws_9 w h) (List.all_eq_true.mp (by decide +kernel : (u_ws RX9 TX9 5).all goodWord = true) w h), ⟨tyX9, tyX9_ok⟩, nmX9, (jm_wk (jm_t1 (i := 164) (by decide +kernel)) (by decide +kernel)), (jm_wk (jm_t1 (i := 9) (by decide +kernel)) (by decide +kernel))⟩
set_option maxRecDepth 100000 in
theorem jm_uws_10 : ∀ w ∈ u_ws RX10 TX10 2, w ∈ lw_tbl := by decide +kernel
theorem jm_cok_10 : jm_cok 10 (RX10, TX10, 2) := ⟨rfl, fun w h => jm_wk (jm_uws_10 w h) (List.all_eq_true.mp (by decide +kernel : (u_ws RX10 TX10 2).all goodWord = true) w h), ⟨tyX10, tyX10_ok⟩, nmX10, (jm_wk (jm_t1 (i := 99) (by decide +kernel)) (by decide +kernel)), (jm_wk (jm_t1 (i := 5) (by decide +kernel)) (by decide +kernel))⟩
set_option maxRecDepth 100000 in
theorem jm_uws_11 : ∀ w ∈ u_ws RX11 TX11 14, w ∈ lw_tbl := by decide +kernel
theorem jm_cok_11 : jm_cok 11 (RX11, TX11, 14) := ⟨rfl, fun w h => jm_wk (jm_uws_11 w h) (List.all_eq_true.mp (by decide +kernel : (u_ws RX11 TX11 14).all goodWord = true) w h), ⟨tyX11, tyX11_ok⟩, nmX11, (jm_wk (jm_t1 (i := 38) (by decide +kernel)) (by decide +kernel)), (jm_wk (jm_t1 (i := 1) (by decide +kernel)) (by decide +kernel))⟩
set_option maxRecDepth 100000 in
theorem jm_uws_12 : ∀ w ∈ u_ws RX12 TX12 3, w ∈ lw_tbl := by decide +kernel
theorem jm_cok_12 : jm_cok 12 (RX12, TX12, 3) := ⟨rfl, fun w h => jm_wk (jm_uws_12 w h) (List.all_eq_true.mp (by decide +kernel : (u_ws RX12 TX12 3).all goodWord = true) w h), ⟨tyX12, tyX12_ok⟩, nmX12, (jm_wk (jm_t4 (i := 103) (by decide +kernel)) (by decide +kernel)), (jm_wk (jm_t1 (i := 28) (by decide +kernel)) (by decide +kernel))⟩
set_option maxRecDepth 100000 in
theorem jm_uws_13 : ∀ w ∈ u_ws RL TL 4, w ∈ lw_tbl := by decide +kernel
theorem jm_cok_13 : jm_cok 13 (RL, TL, 4) := ⟨rfl, fun w h => jm_wk (jm_uws_13 w h) (List.all_eq_true.mp (by decide +kernel : (u_ws RL TL 4).all goodWord = true) w h), ⟨tyL, tyL_ok⟩, nmL, (jm_wk (jm_t3 (i := 123) (by decide +kernel)) (by decide +kernel)), (jm_wk (jm_t1 (i := 0) (by decide +kernel)) (by decide +kernel))⟩
set_option maxRecDepth 100000 in
theorem jm_uws_14 : ∀ w ∈ u_ws RJ0 TJ0 4, w ∈ lw_tbl := by decide +kernel
theorem jm_cok_14 : jm_cok 14 (RJ0, TJ0, 4) := ⟨rfl, fun w h => jm_wk (jm_uws_14 w h) (List.all_eq_true.mp (by decide +kernel : (u_ws RJ0 TJ0 4).all goodWord = true) w h), ⟨tyJ0, tyJ0_ok⟩, nmJ0, (jm_wk (jm_t4 (i := 226) (by decide +kernel)) (by decide +kernel)), (jm_wk (jm_t1 (i := 14) (by decide +kernel)) (by decide +kernel))⟩
set_option maxRecDepth 100000 in
theorem jm_uws_15 : ∀ w ∈ u_ws RJ4 TJ4 4, w ∈ lw_tbl := by decide +kernel
theorem jm_cok_15 : jm_cok 15 (RJ4, TJ4, 4) := ⟨rfl, fun w h => jm_wk (jm_uws_15 w h) (List.all_eq_true.mp (by decide +kernel : (u_ws RJ4 TJ4 4).all goodWord = true) w h), ⟨tyJ4, tyJ4_ok⟩, nmJ4, (jm_wk (jm_t3 (i := 173) (by decide +kernel)) (by decide +kernel)), (jm_wk (jm_t1 (i := 23) (by decide +kernel)) (by decide +kernel))⟩
set_option maxRecDepth 100000 in
theorem jm_uws_16 : ∀ w ∈ u_ws RJ6 TJ6 1, w ∈ lw_tbl := by decide +kernel
theorem jm_cok_16 : jm_cok 16 (RJ6, TJ6, 1) := ⟨rfl, fun w h => jm_wk (jm_uws_16 w h) (List.all_eq_true.mp (by decide +kernel : (u_ws RJ6 TJ6 1).all goodWord = true) w h), ⟨tyJ6, tyJ6_ok⟩, nmJ6, (jm_wk (jm_t6 (i := 126) (by decide +kernel)) (by decide +kernel)), (jm_wk (jm_t1 (i := 27) (by decide +kernel)) (by decide +kernel))⟩
set_option maxRecDepth 100000 in
theorem jm_uws_17 : ∀ w ∈ u_ws RJx4a65c TJx4a65c 3, w ∈ lw_tbl := by decide +kernel
theorem jm_cok_17 : jm_cok 17 (RJx4a65c, TJx4a65c, 3) := ⟨rfl, fun w h => jm_wk (jm_uws_17 w h) (List.all_eq_true.mp (by decide +kernel : (u_ws RJx4a65c TJx4a65c 3).all goodWord = true) w h), ⟨tyJx4a65c, tyJx4a65c_ok⟩, nmJx4a65c, (jm_wk (jm_t3 (i := 129) (by decide +kernel)) (by decide +kernel)), (jm_wk (jm_t1 (i := 21) (by decide +kernel)) (by decide +kernel))⟩
theorem jm_clOk : ∀ {ci : Nat} {q : vw_C}, vwCl[ci]? = some q → jm_cok ci q := fun {ci q} h => match ci, h with
  | 0, h => Option.some.inj h ▸ jm_cok_0
  | 1, h => Option.some.inj h ▸ jm_cok_1
  | 2, h => Option.some.inj h ▸ jm_cok_2
  | 3, h => Option.some.inj h ▸ jm_cok_3
  | 4, h => Option.some.inj h ▸ jm_cok_4
  | 5, h => Option.some.inj h ▸ jm_cok_5
  | 6, h => Option.some.inj h ▸ jm_cok_6
  | 7, h => Option.some.inj h ▸ jm_cok_7
  | 8, h => Option.some.inj h ▸ jm_cok_8
  | 9, h => Option.some.inj h ▸ jm_cok_9
  | 10, h => Option.some.inj h ▸ jm_cok_10
  | 11, h => Option.some.inj h ▸ jm_cok_11
  | 12, h => Option.some.inj h ▸ jm_cok_12
  | 13, h => Option.some.inj h ▸ jm_cok_13
  | 14, h => Option.some.inj h ▸ jm_cok_14
  | 15, h => Option.some.inj h ▸ jm_cok_15
  | 16, h => Option.some.inj h ▸ jm_cok_16
  | 17, h => Option.some.inj h ▸ jm_cok_17
  | _ + 18, h => by cases h
def jm_nok (c : Nat) (e : Nat × Nat × List Value) : Prop := ∃ (C : String) (T : u_T) (N : Nat) (ty : Nat → FieldType), vwCl[e.2.1]? = some (C, T, N) ∧ (∀ k, k < N → parseFieldDescriptor (T k).2.2.1 = some (ty k)) ∧ (∀ j, j < N → defaultValue (ty j) = vp_V e.2.2 j) ∧ e.2.2.length = N ∧ jm_wt 0 e.2.2 ∧ (∀ ρ : Nat → Nat, e.2.2.map (jm_cv ρ) = e.2.2) ∧ e.2.1 < 20 ∧ Cond.classLink (jm_cn c) e.1 C ∈ jm_WW
theorem nk_3_9 : jm_nok 3 (9, 4, [.int 0, .int 0, .int 0, .null, .null, .null]) := ⟨RX4, TX4, 6, tyX4, rfl, tyX4_ok, by decide +kernel, rfl, jm_al_mem (And.intro trivial (And.intro trivial (And.intro trivial (And.intro trivial (And.intro trivial (And.intro trivial trivial)))))), fun _ => rfl, by decide, (jm_wk (jm_t1 (i := 225) (by decide +kernel)) (by decide +kernel))⟩
theorem nk_4_9 : jm_nok 4 (9, 9, [.null, .int 0, .null, .null, .null]) := ⟨RX9, TX9, 5, tyX9, rfl, tyX9_ok, by decide +kernel, rfl, jm_al_mem (And.intro trivial (And.intro trivial (And.intro trivial (And.intro trivial (And.intro trivial trivial))))), fun _ => rfl, by decide, (jm_wk (jm_t1 (i := 142) (by decide +kernel)) (by decide +kernel))⟩
theorem nk_4_17 : jm_nok 4 (17, 6, [.null, .null, .null, .int 0]) := ⟨RX6, TX6, 4, tyX6, rfl, tyX6_ok, by decide +kernel, rfl, jm_al_mem (And.intro trivial (And.intro trivial (And.intro trivial (And.intro trivial trivial)))), fun _ => rfl, by decide, (jm_wk (jm_t1 (i := 144) (by decide +kernel)) (by decide +kernel))⟩
theorem nk_5_9 : jm_nok 5 (9, 1, [.null, .int 0, .long 0]) := ⟨RX1, TX1, 3, tyX1, rfl, tyX1_ok, by decide +kernel, rfl, jm_al_mem (And.intro trivial (And.intro trivial (And.intro trivial trivial))), fun _ => rfl, by decide, (jm_wk (jm_t2 (i := 5) (by decide +kernel)) (by decide +kernel))⟩
theorem nk_11_7 : jm_nok 11 (7, 0, [.null, .int 0]) := ⟨RX0, TX0, 2, tyX0, rfl, tyX0_ok, by decide +kernel, rfl, jm_al_mem (And.intro trivial (And.intro trivial trivial)), fun _ => rfl, by decide, (jm_wk (jm_t1 (i := 45) (by decide +kernel)) (by decide +kernel))⟩
theorem nk_11_21 : jm_nok 11 (21, 7, [.null, .int 0, .int 0, .int 0, .int 0, .int 0, .int 0]) := ⟨RX7, TX7, 7, tyX7, rfl, tyX7_ok, by decide +kernel, rfl, jm_al_mem (And.intro trivial (And.intro trivial (And.intro trivial (And.intro trivial (And.intro trivial (And.intro trivial (And.intro trivial trivial))))))), fun _ => rfl, by decide, (jm_wk (jm_t1 (i := 64) (by decide +kernel)) (by decide +kernel))⟩
theorem nk_11_30 : jm_nok 11 (30, 10, [.null, .null]) := ⟨RX10, TX10, 2, tyX10, rfl, tyX10_ok, by decide +kernel, rfl, jm_al_mem (And.intro trivial (And.intro trivial trivial)), fun _ => rfl, by decide, (jm_wk (jm_t1 (i := 98) (by decide +kernel)) (by decide +kernel))⟩
theorem nk_11_39 : jm_nok 11 (39, 8, [.null, .null, .null, .null, .null, .int 0]) := ⟨RX8, TX8, 6, tyX8, rfl, tyX8_ok, by decide +kernel, rfl, jm_al_mem (And.intro trivial (And.intro trivial (And.intro trivial (And.intro trivial (And.intro trivial (And.intro trivial trivial)))))), fun _ => rfl, by decide, (jm_wk (jm_t1 (i := 112) (by decide +kernel)) (by decide +kernel))⟩
theorem nk_11_46 : jm_nok 11 (46, 4, [.int 0, .int 0, .int 0, .null, .null, .null]) := ⟨RX4, TX4, 6, tyX4, rfl, tyX4_ok, by decide +kernel, rfl, jm_al_mem (And.intro trivial (And.intro trivial (And.intro trivial (And.intro trivial (And.intro trivial (And.intro trivial trivial)))))), fun _ => rfl, by decide, (jm_wk (jm_t1 (i := 136) (by decide +kernel)) (by decide +kernel))⟩
theorem nk_11_56 : jm_nok 11 (56, 3, [.null, .int 0, .int 0]) := ⟨RX3, TX3, 3, tyX3, rfl, tyX3_ok, by decide +kernel, rfl, jm_al_mem (And.intro trivial (And.intro trivial (And.intro trivial trivial))), fun _ => rfl, by decide, (jm_wk (jm_t1 (i := 219) (by decide +kernel)) (by decide +kernel))⟩
theorem nk_11_75 : jm_nok 11 (75, 5, [.null, .int 0, .int 0, .int 0, .int 0, .int 0, .int 0, .int 0, .int 0, .int 0]) := ⟨RX5, TX5, 10, tyX5, rfl, tyX5_ok, by decide +kernel, rfl, jm_al_mem (And.intro trivial (And.intro trivial (And.intro trivial (And.intro trivial (And.intro trivial (And.intro trivial (And.intro trivial (And.intro trivial (And.intro trivial (And.intro trivial trivial)))))))))), fun _ => rfl, by decide, (jm_wk (jm_t1 (i := 239) (by decide +kernel)) (by decide +kernel))⟩
theorem nk_11_82 : jm_nok 11 (82, 2, [.int 0, .int 0, .int 0, .null, .null, .null, .null]) := ⟨RX2, TX2, 7, tyX2, rfl, tyX2_ok, by decide +kernel, rfl, jm_al_mem (And.intro trivial (And.intro trivial (And.intro trivial (And.intro trivial (And.intro trivial (And.intro trivial (And.intro trivial trivial))))))), fun _ => rfl, by decide, (jm_wk (jm_t2 (i := 63) (by decide +kernel)) (by decide +kernel))⟩
theorem nk_13_7 : jm_nok 13 (7, 17, [.int 0, .null, .int 0]) := ⟨RJx4a65c, TJx4a65c, 3, tyJx4a65c, rfl, tyJx4a65c_ok, by decide +kernel, rfl, jm_al_mem (And.intro trivial (And.intro trivial (And.intro trivial trivial))), fun _ => rfl, by decide, (jm_wk (jm_t3 (i := 128) (by decide +kernel)) (by decide +kernel))⟩
theorem nk_13_11 : jm_nok 13 (11, 13, [.null, .null, .int 0, .int 0]) := ⟨RL, TL, 4, tyL, rfl, tyL_ok, by decide +kernel, rfl, jm_al_mem (And.intro trivial (And.intro trivial (And.intro trivial (And.intro trivial trivial)))), fun _ => rfl, by decide, (jm_wk (jm_t3 (i := 122) (by decide +kernel)) (by decide +kernel))⟩
theorem nk_13_21 : jm_nok 13 (21, 11, [.null, .null, .null, .null, .null, .null, .null, .null, .null, .null, .null, .null, .null, .int 0]) := ⟨RX11, TX11, 14, tyX11, rfl, tyX11_ok, by decide +kernel, rfl, jm_al_mem (And.intro trivial (And.intro trivial (And.intro trivial (And.intro trivial (And.intro trivial (And.intro trivial (And.intro trivial (And.intro trivial (And.intro trivial (And.intro trivial (And.intro trivial (And.intro trivial (And.intro trivial (And.intro trivial trivial)))))))))))))), fun _ => rfl, by decide, (jm_wk (jm_t1 (i := 37) (by decide +kernel)) (by decide +kernel))⟩
theorem nk_13_51 : jm_nok 13 (51, 12, [.null, .null, .null]) := ⟨RX12, TX12, 3, tyX12, rfl, tyX12_ok, by decide +kernel, rfl, jm_al_mem (And.intro trivial (And.intro trivial (And.intro trivial trivial))), fun _ => rfl, by decide, (jm_wk (jm_t4 (i := 102) (by decide +kernel)) (by decide +kernel))⟩
theorem nk_13_114 : jm_nok 13 (114, 15, [.null, .int 0, .int 0, .int 0]) := ⟨RJ4, TJ4, 4, tyJ4, rfl, tyJ4_ok, by decide +kernel, rfl, jm_al_mem (And.intro trivial (And.intro trivial (And.intro trivial (And.intro trivial trivial)))), fun _ => rfl, by decide, (jm_wk (jm_t3 (i := 172) (by decide +kernel)) (by decide +kernel))⟩
theorem nk_13_170 : jm_nok 13 (170, 16, [.int 0]) := ⟨RJ6, TJ6, 1, tyJ6, rfl, tyJ6_ok, by decide +kernel, rfl, jm_al_mem (And.intro trivial trivial), fun _ => rfl, by decide, (jm_wk (jm_t6 (i := 139) (by decide +kernel)) (by decide +kernel))⟩
theorem nk_15_18 : jm_nok 15 (18, 14, [.null, .int 0, .int 0, .int 0]) := ⟨RJ0, TJ0, 4, tyJ0, rfl, tyJ0_ok, by decide +kernel, rfl, jm_al_mem (And.intro trivial (And.intro trivial (And.intro trivial (And.intro trivial trivial)))), fun _ => rfl, by decide, (jm_wk (jm_t4 (i := 225) (by decide +kernel)) (by decide +kernel))⟩
theorem nk_16_1 : jm_nok 16 (1, 16, [.int 0]) := ⟨RJ6, TJ6, 1, tyJ6, rfl, tyJ6_ok, by decide +kernel, rfl, jm_al_mem (And.intro trivial trivial), fun _ => rfl, by decide, (jm_wk (jm_t6 (i := 125) (by decide +kernel)) (by decide +kernel))⟩
theorem jm_nkl_c0 : jm_al (jm_nok 0) (jm_clsT.getD 0 []) := trivial
theorem jm_nkl_c1 : jm_al (jm_nok 1) (jm_clsT.getD 1 []) := trivial
theorem jm_nkl_c2 : jm_al (jm_nok 2) (jm_clsT.getD 2 []) := trivial
theorem jm_nkl_c3 : jm_al (jm_nok 3) (jm_clsT.getD 3 []) := And.intro nk_3_9 (trivial)
theorem jm_nkl_c4 : jm_al (jm_nok 4) (jm_clsT.getD 4 []) := And.intro nk_4_9 (And.intro nk_4_17 (trivial))
theorem jm_nkl_c5 : jm_al (jm_nok 5) (jm_clsT.getD 5 []) := And.intro nk_5_9 (trivial)
theorem jm_nkl_c6 : jm_al (jm_nok 6) (jm_clsT.getD 6 []) := trivial
theorem jm_nkl_c7 : jm_al (jm_nok 7) (jm_clsT.getD 7 []) := trivial
theorem jm_nkl_c8 : jm_al (jm_nok 8) (jm_clsT.getD 8 []) := trivial
theorem jm_nkl_c9 : jm_al (jm_nok 9) (jm_clsT.getD 9 []) := trivial
theorem jm_nkl_c10 : jm_al (jm_nok 10) (jm_clsT.getD 10 []) := trivial
theorem jm_nkl_c11 : jm_al (jm_nok 11) (jm_clsT.getD 11 []) := And.intro nk_11_7 (And.intro nk_11_21 (And.intro nk_11_30 (And.intro nk_11_39 (And.intro nk_11_46 (And.intro nk_11_56 (And.intro nk_11_75 (And.intro nk_11_82 (trivial))))))))
theorem jm_nkl_c12 : jm_al (jm_nok 12) (jm_clsT.getD 12 []) := trivial
theorem jm_nkl_c13 : jm_al (jm_nok 13) (jm_clsT.getD 13 []) := And.intro nk_13_7 (And.intro nk_13_11 (And.intro nk_13_21 (And.intro nk_13_51 (And.intro nk_13_114 (And.intro nk_13_170 (trivial))))))
theorem jm_nkl_c14 : jm_al (jm_nok 14) (jm_clsT.getD 14 []) := trivial
theorem jm_nkl_c15 : jm_al (jm_nok 15) (jm_clsT.getD 15 []) := And.intro nk_15_18 (trivial)
theorem jm_nkl_c16 : jm_al (jm_nok 16) (jm_clsT.getD 16 []) := And.intro nk_16_1 (trivial)
theorem jm_nkl_c17 : jm_al (jm_nok 17) (jm_clsT.getD 17 []) := trivial
theorem jm_nkl_c18 : jm_al (jm_nok 18) (jm_clsT.getD 18 []) := trivial
theorem jm_nkl_c19 : jm_al (jm_nok 19) (jm_clsT.getD 19 []) := trivial
theorem jm_nkl_c20 : jm_al (jm_nok 20) (jm_clsT.getD 20 []) := trivial
theorem jm_nkl_c21 : jm_al (jm_nok 21) (jm_clsT.getD 21 []) := trivial
theorem jm_nkl_c22 : jm_al (jm_nok 22) (jm_clsT.getD 22 []) := trivial
theorem jm_nkl_c23 : jm_al (jm_nok 23) (jm_clsT.getD 23 []) := trivial
theorem jm_nkl_c24 : jm_al (jm_nok 24) (jm_clsT.getD 24 []) := trivial
theorem jm_nkl_c25 : jm_al (jm_nok 25) (jm_clsT.getD 25 []) := trivial
theorem jm_nkl : ∀ c, ∀ e ∈ jm_clsT.getD c [], jm_nok c e := fun c => match c with
  | 0 => jm_al_mem jm_nkl_c0
  | 1 => jm_al_mem jm_nkl_c1
  | 2 => jm_al_mem jm_nkl_c2
  | 3 => jm_al_mem jm_nkl_c3
  | 4 => jm_al_mem jm_nkl_c4
  | 5 => jm_al_mem jm_nkl_c5
  | 6 => jm_al_mem jm_nkl_c6
  | 7 => jm_al_mem jm_nkl_c7
  | 8 => jm_al_mem jm_nkl_c8
  | 9 => jm_al_mem jm_nkl_c9
  | 10 => jm_al_mem jm_nkl_c10
  | 11 => jm_al_mem jm_nkl_c11
  | 12 => jm_al_mem jm_nkl_c12
  | 13 => jm_al_mem jm_nkl_c13
  | 14 => jm_al_mem jm_nkl_c14
  | 15 => jm_al_mem jm_nkl_c15
  | 16 => jm_al_mem jm_nkl_c16
  | 17 => jm_al_mem jm_nkl_c17
  | 18 => jm_al_mem jm_nkl_c18
  | 19 => jm_al_mem jm_nkl_c19
  | 20 => jm_al_mem jm_nkl_c20
  | 21 => jm_al_mem jm_nkl_c21
  | 22 => jm_al_mem jm_nkl_c22
  | 23 => jm_al_mem jm_nkl_c23
  | 24 => jm_al_mem jm_nkl_c24
  | 25 => jm_al_mem jm_nkl_c25
  | _ + 26 => fun e h => by cases h
theorem jm_clsOk {c x : Nat} {v : Nat × List Value} (h : jm_cls c x = some v) : jm_nok c (x, v) := jm_nkl c _ (jm_as_mem h)
def jm_aok (c : Nat) (e : Nat × Nat) : Prop := (e.2 = 4 ∧ Cond.classLink (jm_cn c) e.1 "PaperLand$Series" ∈ jm_WW) ∨ (e.2 = 5 ∧ Cond.classLink (jm_cn c) e.1 "PaperLand$Land" ∈ jm_WW) ∨ (e.2 = 6 ∧ Cond.classLink (jm_cn c) e.1 "java/lang/Object" ∈ jm_WW)
theorem ak_3_9 : jm_aok 3 (9, 5) := Or.inr (Or.inl ⟨rfl, (jm_wk (jm_t1 (i := 225) (by decide +kernel)) (by decide +kernel))⟩)
theorem ak_4_9 : jm_aok 4 (9, 4) := Or.inl ⟨rfl, (jm_wk (jm_t1 (i := 142) (by decide +kernel)) (by decide +kernel))⟩
theorem ak_11_46 : jm_aok 11 (46, 5) := Or.inr (Or.inl ⟨rfl, (jm_wk (jm_t1 (i := 136) (by decide +kernel)) (by decide +kernel))⟩)
theorem ak_17_7 : jm_aok 17 (7, 6) := Or.inr (Or.inr ⟨rfl, (jm_wk (jm_t4 (i := 199) (by decide +kernel)) (by decide +kernel))⟩)
theorem ak_20_2 : jm_aok 20 (2, 6) := Or.inr (Or.inr ⟨rfl, (jm_wk (jm_t4 (i := 197) (by decide +kernel)) (by decide +kernel))⟩)
theorem jm_akl_c0 : jm_al (jm_aok 0) (jm_aclT.getD 0 []) := trivial
theorem jm_akl_c1 : jm_al (jm_aok 1) (jm_aclT.getD 1 []) := trivial
theorem jm_akl_c2 : jm_al (jm_aok 2) (jm_aclT.getD 2 []) := trivial
theorem jm_akl_c3 : jm_al (jm_aok 3) (jm_aclT.getD 3 []) := And.intro ak_3_9 (trivial)
theorem jm_akl_c4 : jm_al (jm_aok 4) (jm_aclT.getD 4 []) := And.intro ak_4_9 (trivial)
theorem jm_akl_c5 : jm_al (jm_aok 5) (jm_aclT.getD 5 []) := trivial
theorem jm_akl_c6 : jm_al (jm_aok 6) (jm_aclT.getD 6 []) := trivial
theorem jm_akl_c7 : jm_al (jm_aok 7) (jm_aclT.getD 7 []) := trivial
theorem jm_akl_c8 : jm_al (jm_aok 8) (jm_aclT.getD 8 []) := trivial
theorem jm_akl_c9 : jm_al (jm_aok 9) (jm_aclT.getD 9 []) := trivial
theorem jm_akl_c10 : jm_al (jm_aok 10) (jm_aclT.getD 10 []) := trivial
theorem jm_akl_c11 : jm_al (jm_aok 11) (jm_aclT.getD 11 []) := And.intro ak_11_46 (trivial)
theorem jm_akl_c12 : jm_al (jm_aok 12) (jm_aclT.getD 12 []) := trivial
theorem jm_akl_c13 : jm_al (jm_aok 13) (jm_aclT.getD 13 []) := trivial
theorem jm_akl_c14 : jm_al (jm_aok 14) (jm_aclT.getD 14 []) := trivial
theorem jm_akl_c15 : jm_al (jm_aok 15) (jm_aclT.getD 15 []) := trivial
theorem jm_akl_c16 : jm_al (jm_aok 16) (jm_aclT.getD 16 []) := trivial
theorem jm_akl_c17 : jm_al (jm_aok 17) (jm_aclT.getD 17 []) := And.intro ak_17_7 (trivial)
theorem jm_akl_c18 : jm_al (jm_aok 18) (jm_aclT.getD 18 []) := trivial
theorem jm_akl_c19 : jm_al (jm_aok 19) (jm_aclT.getD 19 []) := trivial
theorem jm_akl_c20 : jm_al (jm_aok 20) (jm_aclT.getD 20 []) := And.intro ak_20_2 (trivial)
theorem jm_akl_c21 : jm_al (jm_aok 21) (jm_aclT.getD 21 []) := trivial
theorem jm_akl_c22 : jm_al (jm_aok 22) (jm_aclT.getD 22 []) := trivial
theorem jm_akl_c23 : jm_al (jm_aok 23) (jm_aclT.getD 23 []) := trivial
theorem jm_akl_c24 : jm_al (jm_aok 24) (jm_aclT.getD 24 []) := trivial
theorem jm_akl_c25 : jm_al (jm_aok 25) (jm_aclT.getD 25 []) := trivial
theorem jm_akl : ∀ c, ∀ e ∈ jm_aclT.getD c [], jm_aok c e := fun c => match c with
  | 0 => jm_al_mem jm_akl_c0
  | 1 => jm_al_mem jm_akl_c1
  | 2 => jm_al_mem jm_akl_c2
  | 3 => jm_al_mem jm_akl_c3
  | 4 => jm_al_mem jm_akl_c4
  | 5 => jm_al_mem jm_akl_c5
  | 6 => jm_al_mem jm_akl_c6
  | 7 => jm_al_mem jm_akl_c7
  | 8 => jm_al_mem jm_akl_c8
  | 9 => jm_al_mem jm_akl_c9
  | 10 => jm_al_mem jm_akl_c10
  | 11 => jm_al_mem jm_akl_c11
  | 12 => jm_al_mem jm_akl_c12
  | 13 => jm_al_mem jm_akl_c13
  | 14 => jm_al_mem jm_akl_c14
  | 15 => jm_al_mem jm_akl_c15
  | 16 => jm_al_mem jm_akl_c16
  | 17 => jm_al_mem jm_akl_c17
  | 18 => jm_al_mem jm_akl_c18
  | 19 => jm_al_mem jm_akl_c19
  | 20 => jm_al_mem jm_akl_c20
  | 21 => jm_al_mem jm_akl_c21
  | 22 => jm_al_mem jm_akl_c22
  | 23 => jm_al_mem jm_akl_c23
  | 24 => jm_al_mem jm_akl_c24
  | 25 => jm_al_mem jm_akl_c25
  | _ + 26 => fun e h => by cases h
theorem jm_aclOk {c x t : Nat} (h : jm_acl c x = some t) : jm_aok c (x, t) := jm_akl c _ (jm_as_mem h)
def jm_sT : List (String × Nat × String) := [("PaperLand", 89, "land 3 50; series royal 100 141 size 0 10 size 2 3; series long 60 200 size 0 4"), ("PaperLand$SetupReader", 50, "land"), ("PaperLand$SetupReader", 76, "series"), ("PaperLand$SetupReader", 110, "size"), ("PaperLandLaw", 116, "land "), ("PaperLandLaw", 134, ";series "), ("PaperLandLaw", 145, " size "), ("PaperLand", 463, "a number is out of its range"), ("PaperLand", 114, "the text buffer is full"), ("PaperLand", 253, "what is out of range"), ("PaperLand", 467, "no such series or size"), ("PaperLand", 350, "no such cell")]
def jm_sO (i : Nat) : String × Nat × String := jm_sT.getD i ("", 0, "")
def jm_sL : List Nat := [79, 4, 6, 4, 5, 8, 6, 28, 23, 20, 22, 12]
def jm_sB : List (List Int32) := [[108, 97, 110, 100, 32, 51, 32, 53, 48, 59, 32, 115, 101, 114, 105, 101, 115, 32, 114, 111, 121, 97, 108, 32, 49, 48, 48, 32, 49, 52, 49, 32, 115, 105, 122, 101, 32, 48, 32, 49, 48, 32, 115, 105, 122, 101, 32, 50, 32, 51, 59, 32, 115, 101, 114, 105, 101, 115, 32, 108, 111, 110, 103, 32, 54, 48, 32, 50, 48, 48, 32, 115, 105, 122, 101, 32, 48, 32, 52], [108, 97, 110, 100], [115, 101, 114, 105, 101, 115], [115, 105, 122, 101], [108, 97, 110, 100, 32], [59, 115, 101, 114, 105, 101, 115, 32], [32, 115, 105, 122, 101, 32], [97, 32, 110, 117, 109, 98, 101, 114, 32, 105, 115, 32, 111, 117, 116, 32, 111, 102, 32, 105, 116, 115, 32, 114, 97, 110, 103, 101], [116, 104, 101, 32, 116, 101, 120, 116, 32, 98, 117, 102, 102, 101, 114, 32, 105, 115, 32, 102, 117, 108, 108], [119, 104, 97, 116, 32, 105, 115, 32, 111, 117, 116, 32, 111, 102, 32, 114, 97, 110, 103, 101], [110, 111, 32, 115, 117, 99, 104, 32, 115, 101, 114, 105, 101, 115, 32, 111, 114, 32, 115, 105, 122, 101], [110, 111, 32, 115, 117, 99, 104, 32, 99, 101, 108, 108]]
def jm_srf (i : Nat) : Prop := Cond.stringRef (jm_sO i).1 (jm_sO i).2.1 (jm_sO i).2.2 ∈ lw_tbl
theorem jm_srf_0 : jm_srf 0 := (jm_t2 (i := 93) (by decide +kernel))
theorem jm_srf_1 : jm_srf 1 := (jm_t2 (i := 198) (by decide +kernel))
theorem jm_srf_2 : jm_srf 2 := (jm_t2 (i := 227) (by decide +kernel))
theorem jm_srf_3 : jm_srf 3 := (jm_t3 (i := 22) (by decide +kernel))
theorem jm_srf_4 : jm_srf 4 := (jm_t3 (i := 174) (by decide +kernel))
theorem jm_srf_5 : jm_srf 5 := (jm_t4 (i := 125) (by decide +kernel))
theorem jm_srf_6 : jm_srf 6 := (jm_t4 (i := 141) (by decide +kernel))
theorem jm_srf_7 : jm_srf 7 := (jm_t5 (i := 89) (by decide +kernel))
theorem jm_srf_8 : jm_srf 8 := (jm_t5 (i := 131) (by decide +kernel))
theorem jm_srf_9 : jm_srf 9 := (jm_t5 (i := 174) (by decide +kernel))
theorem jm_srf_10 : jm_srf 10 := (jm_t5 (i := 199) (by decide +kernel))
theorem jm_srf_11 : jm_srf 11 := (jm_t6 (i := 152) (by decide +kernel))
theorem jm_srfs : ∀ i, i < 12 → jm_srf i := fun i h => match i, h with
  | 0, _ => jm_srf_0
  | 1, _ => jm_srf_1
  | 2, _ => jm_srf_2
  | 3, _ => jm_srf_3
  | 4, _ => jm_srf_4
  | 5, _ => jm_srf_5
  | 6, _ => jm_srf_6
  | 7, _ => jm_srf_7
  | 8, _ => jm_srf_8
  | 9, _ => jm_srf_9
  | 10, _ => jm_srf_10
  | 11, _ => jm_srf_11
  | _ + 12, h => absurd h (by omega)
def jm_kok (c : Nat) (e : Nat × Value) : Prop := match e.2 with
  | .int v => Cond.constant (jm_cn c) e.1 v ∈ jm_WW
  | .long v => Cond.constantLong (jm_cn c) e.1 v ∈ jm_WW
  | .ref n => ∃ i, i < 7 ∧ n = jm_str + i ∧ (jm_sO i).1 = jm_cn c ∧ (jm_sO i).2.1 = e.1
  | _ => False
theorem kk_7_56 : jm_kok 7 (56, .int 1000000) := (jm_wk (jm_t2 (i := 182) (by decide +kernel)) (by decide +kernel))
theorem kk_13_40 : jm_kok 13 (40, .int 1664525) := (jm_wk (jm_t3 (i := 170) (by decide +kernel)) (by decide +kernel))
theorem kk_13_41 : jm_kok 13 (41, .int 1013904223) := (jm_wk (jm_t3 (i := 171) (by decide +kernel)) (by decide +kernel))
theorem kk_18_38 : jm_kok 18 (38, .int 2147483631) := (jm_wk (jm_t3 (i := 183) (by decide +kernel)) (by decide +kernel))
theorem kk_18_39 : jm_kok 18 (39, .int 2147483647) := (jm_wk (jm_t3 (i := 184) (by decide +kernel)) (by decide +kernel))
theorem kk_21_200 : jm_kok 21 (200, .int 2147483639) := (jm_wk (jm_t3 (i := 222) (by decide +kernel)) (by decide +kernel))
theorem kk_11_471 : jm_kok 11 (471, .long 2147483647) := (jm_wk (jm_t6 (i := 4) (by decide +kernel)) (by decide +kernel))
theorem kk_13_208 : jm_kok 13 (208, .long 2147483647) := (jm_wk (jm_t6 (i := 8) (by decide +kernel)) (by decide +kernel))
theorem kk_13_63 : jm_kok 13 (63, .long 9223372036854775807) := (jm_wk (jm_t6 (i := 59) (by decide +kernel)) (by decide +kernel))
theorem kk_13_80 : jm_kok 13 (80, .long 2) := (jm_wk (jm_t6 (i := 237) (by decide +kernel)) (by decide +kernel))
theorem kk_11_89 : jm_kok 11 (89, .ref (1099511627776)) := ⟨0, by decide, rfl, rfl, rfl⟩
theorem kk_10_50 : jm_kok 10 (50, .ref (1099511627777)) := ⟨1, by decide, rfl, rfl, rfl⟩
theorem kk_10_76 : jm_kok 10 (76, .ref (1099511627778)) := ⟨2, by decide, rfl, rfl, rfl⟩
theorem kk_10_110 : jm_kok 10 (110, .ref (1099511627779)) := ⟨3, by decide, rfl, rfl, rfl⟩
theorem kk_13_116 : jm_kok 13 (116, .ref (1099511627780)) := ⟨4, by decide, rfl, rfl, rfl⟩
theorem kk_13_134 : jm_kok 13 (134, .ref (1099511627781)) := ⟨5, by decide, rfl, rfl, rfl⟩
theorem kk_13_145 : jm_kok 13 (145, .ref (1099511627782)) := ⟨6, by decide, rfl, rfl, rfl⟩
theorem jm_kkl_c0 : jm_al (jm_kok 0) (jm_cstT.getD 0 []) := trivial
theorem jm_kkl_c1 : jm_al (jm_kok 1) (jm_cstT.getD 1 []) := trivial
theorem jm_kkl_c2 : jm_al (jm_kok 2) (jm_cstT.getD 2 []) := trivial
theorem jm_kkl_c3 : jm_al (jm_kok 3) (jm_cstT.getD 3 []) := trivial
theorem jm_kkl_c4 : jm_al (jm_kok 4) (jm_cstT.getD 4 []) := trivial
theorem jm_kkl_c5 : jm_al (jm_kok 5) (jm_cstT.getD 5 []) := trivial
theorem jm_kkl_c6 : jm_al (jm_kok 6) (jm_cstT.getD 6 []) := trivial
theorem jm_kkl_c7 : jm_al (jm_kok 7) (jm_cstT.getD 7 []) := And.intro kk_7_56 (trivial)
theorem jm_kkl_c8 : jm_al (jm_kok 8) (jm_cstT.getD 8 []) := trivial
theorem jm_kkl_c9 : jm_al (jm_kok 9) (jm_cstT.getD 9 []) := trivial
theorem jm_kkl_c10 : jm_al (jm_kok 10) (jm_cstT.getD 10 []) := And.intro kk_10_50 (And.intro kk_10_76 (And.intro kk_10_110 (trivial)))
theorem jm_kkl_c11 : jm_al (jm_kok 11) (jm_cstT.getD 11 []) := And.intro kk_11_89 (And.intro kk_11_471 (trivial))
theorem jm_kkl_c12 : jm_al (jm_kok 12) (jm_cstT.getD 12 []) := trivial
theorem jm_kkl_c13 : jm_al (jm_kok 13) (jm_cstT.getD 13 []) := And.intro kk_13_40 (And.intro kk_13_41 (And.intro kk_13_63 (And.intro kk_13_80 (And.intro kk_13_116 (And.intro kk_13_134 (And.intro kk_13_145 (And.intro kk_13_208 (trivial))))))))
theorem jm_kkl_c14 : jm_al (jm_kok 14) (jm_cstT.getD 14 []) := trivial
theorem jm_kkl_c15 : jm_al (jm_kok 15) (jm_cstT.getD 15 []) := trivial
theorem jm_kkl_c16 : jm_al (jm_kok 16) (jm_cstT.getD 16 []) := trivial
theorem jm_kkl_c17 : jm_al (jm_kok 17) (jm_cstT.getD 17 []) := trivial
theorem jm_kkl_c18 : jm_al (jm_kok 18) (jm_cstT.getD 18 []) := And.intro kk_18_38 (And.intro kk_18_39 (trivial))
theorem jm_kkl_c19 : jm_al (jm_kok 19) (jm_cstT.getD 19 []) := trivial
theorem jm_kkl_c20 : jm_al (jm_kok 20) (jm_cstT.getD 20 []) := trivial
theorem jm_kkl_c21 : jm_al (jm_kok 21) (jm_cstT.getD 21 []) := And.intro kk_21_200 (trivial)
theorem jm_kkl_c22 : jm_al (jm_kok 22) (jm_cstT.getD 22 []) := trivial
theorem jm_kkl_c23 : jm_al (jm_kok 23) (jm_cstT.getD 23 []) := trivial
theorem jm_kkl_c24 : jm_al (jm_kok 24) (jm_cstT.getD 24 []) := trivial
theorem jm_kkl_c25 : jm_al (jm_kok 25) (jm_cstT.getD 25 []) := trivial
theorem jm_kkl : ∀ c, ∀ e ∈ jm_cstT.getD c [], jm_kok c e := fun c => match c with
  | 0 => jm_al_mem jm_kkl_c0
  | 1 => jm_al_mem jm_kkl_c1
  | 2 => jm_al_mem jm_kkl_c2
  | 3 => jm_al_mem jm_kkl_c3
  | 4 => jm_al_mem jm_kkl_c4
  | 5 => jm_al_mem jm_kkl_c5
  | 6 => jm_al_mem jm_kkl_c6
  | 7 => jm_al_mem jm_kkl_c7
  | 8 => jm_al_mem jm_kkl_c8
  | 9 => jm_al_mem jm_kkl_c9
  | 10 => jm_al_mem jm_kkl_c10
  | 11 => jm_al_mem jm_kkl_c11
  | 12 => jm_al_mem jm_kkl_c12
  | 13 => jm_al_mem jm_kkl_c13
  | 14 => jm_al_mem jm_kkl_c14
  | 15 => jm_al_mem jm_kkl_c15
  | 16 => jm_al_mem jm_kkl_c16
  | 17 => jm_al_mem jm_kkl_c17
  | 18 => jm_al_mem jm_kkl_c18
  | 19 => jm_al_mem jm_kkl_c19
  | 20 => jm_al_mem jm_kkl_c20
  | 21 => jm_al_mem jm_kkl_c21
  | 22 => jm_al_mem jm_kkl_c22
  | 23 => jm_al_mem jm_kkl_c23
  | 24 => jm_al_mem jm_kkl_c24
  | 25 => jm_al_mem jm_kkl_c25
  | _ + 26 => fun e h => by cases h
theorem jm_cstOk {c x : Nat} {v : Value} (h : jm_cst c x = some v) : jm_kok c (x, v) := jm_kkl c _ (jm_as_mem h)
def jm_gok (c : Nat) (e : Nat × Value) : Prop := (e.2 = .int 1 ∧ Cond.fieldLink (jm_cn c) e.1 "java/lang/String" "COMPACT_STRINGS" "Z" ∈ jm_WW) ∨ (e.2 = .ref jm_dcp ∧ Cond.fieldLink (jm_cn c) e.1 "java/util/ArrayList" "DEFAULTCAPACITY_EMPTY_ELEMENTDATA" "[Ljava/lang/Object;" ∈ jm_WW) ∨ (e.2 = .ref jm_dgt ∧ Cond.fieldLink (jm_cn c) e.1 "java/lang/Integer" "DigitTens" "[B" ∈ jm_WW) ∨ (e.2 = .ref jm_dgo ∧ Cond.fieldLink (jm_cn c) e.1 "java/lang/Integer" "DigitOnes" "[B" ∈ jm_WW)
theorem gk_14_38 : jm_gok 14 (38, .int 1) := Or.inl ⟨rfl, (jm_wk (jm_t2 (i := 102) (by decide +kernel)) (by decide +kernel))⟩
theorem gk_16_83 : jm_gok 16 (83, .ref (140737488355328)) := Or.inr (Or.inr (Or.inr ⟨rfl, (jm_wk (jm_t4 (i := 77) (by decide +kernel)) (by decide +kernel))⟩))
theorem gk_16_87 : jm_gok 16 (87, .ref (70368744177664)) := Or.inr (Or.inr (Or.inl ⟨rfl, (jm_wk (jm_t4 (i := 79) (by decide +kernel)) (by decide +kernel))⟩))
theorem gk_17_39 : jm_gok 17 (39, .ref (35184372088832)) := Or.inr (Or.inl ⟨rfl, (jm_wk (jm_t3 (i := 140) (by decide +kernel)) (by decide +kernel))⟩)
theorem gk_18_18 : jm_gok 18 (18, .int 1) := Or.inl ⟨rfl, (jm_wk (jm_t4 (i := 3) (by decide +kernel)) (by decide +kernel))⟩
theorem jm_gkl_c0 : jm_al (jm_gok 0) (jm_gstT.getD 0 []) := trivial
theorem jm_gkl_c1 : jm_al (jm_gok 1) (jm_gstT.getD 1 []) := trivial
theorem jm_gkl_c2 : jm_al (jm_gok 2) (jm_gstT.getD 2 []) := trivial
theorem jm_gkl_c3 : jm_al (jm_gok 3) (jm_gstT.getD 3 []) := trivial
theorem jm_gkl_c4 : jm_al (jm_gok 4) (jm_gstT.getD 4 []) := trivial
theorem jm_gkl_c5 : jm_al (jm_gok 5) (jm_gstT.getD 5 []) := trivial
theorem jm_gkl_c6 : jm_al (jm_gok 6) (jm_gstT.getD 6 []) := trivial
theorem jm_gkl_c7 : jm_al (jm_gok 7) (jm_gstT.getD 7 []) := trivial
theorem jm_gkl_c8 : jm_al (jm_gok 8) (jm_gstT.getD 8 []) := trivial
theorem jm_gkl_c9 : jm_al (jm_gok 9) (jm_gstT.getD 9 []) := trivial
theorem jm_gkl_c10 : jm_al (jm_gok 10) (jm_gstT.getD 10 []) := trivial
theorem jm_gkl_c11 : jm_al (jm_gok 11) (jm_gstT.getD 11 []) := trivial
theorem jm_gkl_c12 : jm_al (jm_gok 12) (jm_gstT.getD 12 []) := trivial
theorem jm_gkl_c13 : jm_al (jm_gok 13) (jm_gstT.getD 13 []) := trivial
theorem jm_gkl_c14 : jm_al (jm_gok 14) (jm_gstT.getD 14 []) := And.intro gk_14_38 (trivial)
theorem jm_gkl_c15 : jm_al (jm_gok 15) (jm_gstT.getD 15 []) := trivial
theorem jm_gkl_c16 : jm_al (jm_gok 16) (jm_gstT.getD 16 []) := And.intro gk_16_83 (And.intro gk_16_87 (trivial))
theorem jm_gkl_c17 : jm_al (jm_gok 17) (jm_gstT.getD 17 []) := And.intro gk_17_39 (trivial)
theorem jm_gkl_c18 : jm_al (jm_gok 18) (jm_gstT.getD 18 []) := And.intro gk_18_18 (trivial)
theorem jm_gkl_c19 : jm_al (jm_gok 19) (jm_gstT.getD 19 []) := trivial
theorem jm_gkl_c20 : jm_al (jm_gok 20) (jm_gstT.getD 20 []) := trivial
theorem jm_gkl_c21 : jm_al (jm_gok 21) (jm_gstT.getD 21 []) := trivial
theorem jm_gkl_c22 : jm_al (jm_gok 22) (jm_gstT.getD 22 []) := trivial
theorem jm_gkl_c23 : jm_al (jm_gok 23) (jm_gstT.getD 23 []) := trivial
theorem jm_gkl_c24 : jm_al (jm_gok 24) (jm_gstT.getD 24 []) := trivial
theorem jm_gkl_c25 : jm_al (jm_gok 25) (jm_gstT.getD 25 []) := trivial
theorem jm_gkl : ∀ c, ∀ e ∈ jm_gstT.getD c [], jm_gok c e := fun c => match c with
  | 0 => jm_al_mem jm_gkl_c0
  | 1 => jm_al_mem jm_gkl_c1
  | 2 => jm_al_mem jm_gkl_c2
  | 3 => jm_al_mem jm_gkl_c3
  | 4 => jm_al_mem jm_gkl_c4
  | 5 => jm_al_mem jm_gkl_c5
  | 6 => jm_al_mem jm_gkl_c6
  | 7 => jm_al_mem jm_gkl_c7
  | 8 => jm_al_mem jm_gkl_c8
  | 9 => jm_al_mem jm_gkl_c9
  | 10 => jm_al_mem jm_gkl_c10
  | 11 => jm_al_mem jm_gkl_c11
  | 12 => jm_al_mem jm_gkl_c12
  | 13 => jm_al_mem jm_gkl_c13
  | 14 => jm_al_mem jm_gkl_c14
  | 15 => jm_al_mem jm_gkl_c15
  | 16 => jm_al_mem jm_gkl_c16
  | 17 => jm_al_mem jm_gkl_c17
  | 18 => jm_al_mem jm_gkl_c18
  | 19 => jm_al_mem jm_gkl_c19
  | 20 => jm_al_mem jm_gkl_c20
  | 21 => jm_al_mem jm_gkl_c21
  | 22 => jm_al_mem jm_gkl_c22
  | 23 => jm_al_mem jm_gkl_c23
  | 24 => jm_al_mem jm_gkl_c24
  | 25 => jm_al_mem jm_gkl_c25
  | _ + 26 => fun e h => by cases h
theorem jm_gstOk {c x : Nat} {v : Value} (h : jm_gst c x = some v) : jm_gok c (x, v) := jm_gkl c _ (jm_as_mem h)
def jm_qok (c : Nat) (e : Nat × Nat) : Prop := (e.2 = 12 ∧ Cond.classLink (jm_cn c) e.1 "PaperLandLaw$Series" ∈ jm_WW) ∨ (e.2 = 17 ∧ Cond.classLink (jm_cn c) e.1 "java/util/List" ∈ jm_WW) ∨ (e.2 = 16 ∧ Cond.classLink (jm_cn c) e.1 "java/lang/Integer" ∈ jm_WW) ∨ (e.2 = 9 ∧ Cond.classLink (jm_cn c) e.1 "[B" ∈ jm_WW)
theorem qk_13_43 : jm_qok 13 (43, 17) := Or.inr (Or.inl ⟨rfl, (jm_wk (jm_t6 (i := 138) (by decide +kernel)) (by decide +kernel))⟩)
theorem qk_13_51 : jm_qok 13 (51, 12) := Or.inl ⟨rfl, (jm_wk (jm_t4 (i := 102) (by decide +kernel)) (by decide +kernel))⟩
theorem qk_13_170 : jm_qok 13 (170, 16) := Or.inr (Or.inr (Or.inl ⟨rfl, (jm_wk (jm_t6 (i := 139) (by decide +kernel)) (by decide +kernel))⟩))
theorem qk_20_311 : jm_qok 20 (311, 9) := Or.inr (Or.inr (Or.inr ⟨rfl, (jm_wk (jm_t3 (i := 235) (by decide +kernel)) (by decide +kernel))⟩))
theorem jm_qkl_c0 : jm_al (jm_qok 0) (jm_casT.getD 0 []) := trivial
theorem jm_qkl_c1 : jm_al (jm_qok 1) (jm_casT.getD 1 []) := trivial
theorem jm_qkl_c2 : jm_al (jm_qok 2) (jm_casT.getD 2 []) := trivial
theorem jm_qkl_c3 : jm_al (jm_qok 3) (jm_casT.getD 3 []) := trivial
theorem jm_qkl_c4 : jm_al (jm_qok 4) (jm_casT.getD 4 []) := trivial
theorem jm_qkl_c5 : jm_al (jm_qok 5) (jm_casT.getD 5 []) := trivial
theorem jm_qkl_c6 : jm_al (jm_qok 6) (jm_casT.getD 6 []) := trivial
theorem jm_qkl_c7 : jm_al (jm_qok 7) (jm_casT.getD 7 []) := trivial
theorem jm_qkl_c8 : jm_al (jm_qok 8) (jm_casT.getD 8 []) := trivial
theorem jm_qkl_c9 : jm_al (jm_qok 9) (jm_casT.getD 9 []) := trivial
theorem jm_qkl_c10 : jm_al (jm_qok 10) (jm_casT.getD 10 []) := trivial
theorem jm_qkl_c11 : jm_al (jm_qok 11) (jm_casT.getD 11 []) := trivial
theorem jm_qkl_c12 : jm_al (jm_qok 12) (jm_casT.getD 12 []) := trivial
theorem jm_qkl_c13 : jm_al (jm_qok 13) (jm_casT.getD 13 []) := And.intro qk_13_43 (And.intro qk_13_51 (And.intro qk_13_170 (trivial)))
theorem jm_qkl_c14 : jm_al (jm_qok 14) (jm_casT.getD 14 []) := trivial
theorem jm_qkl_c15 : jm_al (jm_qok 15) (jm_casT.getD 15 []) := trivial
theorem jm_qkl_c16 : jm_al (jm_qok 16) (jm_casT.getD 16 []) := trivial
theorem jm_qkl_c17 : jm_al (jm_qok 17) (jm_casT.getD 17 []) := trivial
theorem jm_qkl_c18 : jm_al (jm_qok 18) (jm_casT.getD 18 []) := trivial
theorem jm_qkl_c19 : jm_al (jm_qok 19) (jm_casT.getD 19 []) := trivial
theorem jm_qkl_c20 : jm_al (jm_qok 20) (jm_casT.getD 20 []) := And.intro qk_20_311 (trivial)
theorem jm_qkl_c21 : jm_al (jm_qok 21) (jm_casT.getD 21 []) := trivial
theorem jm_qkl_c22 : jm_al (jm_qok 22) (jm_casT.getD 22 []) := trivial
theorem jm_qkl_c23 : jm_al (jm_qok 23) (jm_casT.getD 23 []) := trivial
theorem jm_qkl_c24 : jm_al (jm_qok 24) (jm_casT.getD 24 []) := trivial
theorem jm_qkl_c25 : jm_al (jm_qok 25) (jm_casT.getD 25 []) := trivial
theorem jm_qkl : ∀ c, ∀ e ∈ jm_casT.getD c [], jm_qok c e := fun c => match c with
  | 0 => jm_al_mem jm_qkl_c0
  | 1 => jm_al_mem jm_qkl_c1
  | 2 => jm_al_mem jm_qkl_c2
  | 3 => jm_al_mem jm_qkl_c3
  | 4 => jm_al_mem jm_qkl_c4
  | 5 => jm_al_mem jm_qkl_c5
  | 6 => jm_al_mem jm_qkl_c6
  | 7 => jm_al_mem jm_qkl_c7
  | 8 => jm_al_mem jm_qkl_c8
  | 9 => jm_al_mem jm_qkl_c9
  | 10 => jm_al_mem jm_qkl_c10
  | 11 => jm_al_mem jm_qkl_c11
  | 12 => jm_al_mem jm_qkl_c12
  | 13 => jm_al_mem jm_qkl_c13
  | 14 => jm_al_mem jm_qkl_c14
  | 15 => jm_al_mem jm_qkl_c15
  | 16 => jm_al_mem jm_qkl_c16
  | 17 => jm_al_mem jm_qkl_c17
  | 18 => jm_al_mem jm_qkl_c18
  | 19 => jm_al_mem jm_qkl_c19
  | 20 => jm_al_mem jm_qkl_c20
  | 21 => jm_al_mem jm_qkl_c21
  | 22 => jm_al_mem jm_qkl_c22
  | 23 => jm_al_mem jm_qkl_c23
  | 24 => jm_al_mem jm_qkl_c24
  | 25 => jm_al_mem jm_qkl_c25
  | _ + 26 => fun e h => by cases h
theorem jm_casOk {c x k : Nat} (h : jm_cas c x = some k) : jm_qok c (x, k) := jm_qkl c _ (jm_as_mem h)
def jm_sup : List String := ["java/lang/RuntimeException", "java/lang/Exception"]
set_option maxRecDepth 100000 in
theorem jm_at_IAE : ∀ w ∈ vx_atS "PaperLand" 255 "java/lang/IllegalArgumentException" jm_sup, w ∈ lw_tbl := by decide +kernel
set_option maxRecDepth 100000 in
theorem jm_ag_IAE : ∀ w ∈ vx_atS "PaperLand" 255 "java/lang/IllegalArgumentException" jm_sup, (goodWord w || (jm_isN w && w.onTables)) = true := by decide +kernel
set_option maxRecDepth 100000 in
theorem jm_at_ISE : ∀ w ∈ vx_atS "PaperLand" 116 "java/lang/IllegalStateException" jm_sup, w ∈ lw_tbl := by decide +kernel
set_option maxRecDepth 100000 in
theorem jm_ag_ISE : ∀ w ∈ vx_atS "PaperLand" 116 "java/lang/IllegalStateException" jm_sup, (goodWord w || (jm_isN w && w.onTables)) = true := by decide +kernel
set_option maxRecDepth 100000 in
theorem jm_at_IOB : ∀ w ∈ vx_atS "PaperLand" 352 "java/lang/IndexOutOfBoundsException" jm_sup, w ∈ lw_tbl := by decide +kernel
set_option maxRecDepth 100000 in
theorem jm_ag_IOB : ∀ w ∈ vx_atS "PaperLand" 352 "java/lang/IndexOutOfBoundsException" jm_sup, (goodWord w || (jm_isN w && w.onTables)) = true := by decide +kernel
theorem jm_wn {w : Cond} (h : w ∈ lw_tbl) (g : (goodWord w || (jm_isN w && w.onTables)) = true) : w ∈ jm_WW ∨ (w ∈ jm_NW ∧ w.onTables = true) := by
  simp only [Bool.or_eq_true, Bool.and_eq_true] at g
  exact g.elim (fun g => Or.inl (jm_wk h g)) (fun g => Or.inr ⟨jm_nk h g.1, g.2⟩)
