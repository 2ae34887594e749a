/-! The tables hold what the words of the Statement say (by program: wip/whole/gen_tab.py). -/
def jm_cns : List String := [RX0, RX1, RX2, RX3, RX4, RX5, RX6, RX7, RX8, RX9, RX10, RX11, RX12, "PaperLandLaw"]
def jm_cn (c : Nat) : String := jm_cns.getD c ""
def jm_WW : List Cond := lw_tbl.filter goodWord
theorem jm_t1 {w : Cond} {i : Nat} (h : tables_1_1[i]? = some w) : w ∈ lw_tbl := by
  refine List.mem_append_right _ ?_
  show w ∈ tables_1_1 ++ (tables_1_2 ++ (tables_1_3 ++ (tables_1_4 ++ (tables_1_5 ++ (tables_1_6 ++ (tables_1_7 ++ (tables_1_8 ++ (tables_1_9))))))))
  exact List.mem_append_left _ (List.mem_of_getElem? h)
theorem jm_t2 {w : Cond} {i : Nat} (h : tables_1_2[i]? = some w) : w ∈ lw_tbl := by
  refine List.mem_append_right _ ?_
  show w ∈ tables_1_1 ++ (tables_1_2 ++ (tables_1_3 ++ (tables_1_4 ++ (tables_1_5 ++ (tables_1_6 ++ (tables_1_7 ++ (tables_1_8 ++ (tables_1_9))))))))
  exact List.mem_append_right _ (List.mem_append_left _ (List.mem_of_getElem? h))
theorem jm_t3 {w : Cond} {i : Nat} (h : tables_1_3[i]? = some w) : w ∈ lw_tbl := by
  refine List.mem_append_right _ ?_
  show w ∈ tables_1_1 ++ (tables_1_2 ++ (tables_1_3 ++ (tables_1_4 ++ (tables_1_5 ++ (tables_1_6 ++ (tables_1_7 ++ (tables_1_8 ++ (tables_1_9))))))))
  exact List.mem_append_right _ (List.mem_append_right _ (List.mem_append_left _ (List.mem_of_getElem? h)))
theorem jm_t4 {w : Cond} {i : Nat} (h : tables_1_4[i]? = some w) : w ∈ lw_tbl := by
  refine List.mem_append_right _ ?_
  show w ∈ tables_1_1 ++ (tables_1_2 ++ (tables_1_3 ++ (tables_1_4 ++ (tables_1_5 ++ (tables_1_6 ++ (tables_1_7 ++ (tables_1_8 ++ (tables_1_9))))))))
  exact List.mem_append_right _ (List.mem_append_right _ (List.mem_append_right _ (List.mem_append_left _ (List.mem_of_getElem? h))))
theorem jm_t5 {w : Cond} {i : Nat} (h : tables_1_5[i]? = some w) : w ∈ lw_tbl := by
  refine List.mem_append_right _ ?_
  show w ∈ tables_1_1 ++ (tables_1_2 ++ (tables_1_3 ++ (tables_1_4 ++ (tables_1_5 ++ (tables_1_6 ++ (tables_1_7 ++ (tables_1_8 ++ (tables_1_9))))))))
  exact List.mem_append_right _ (List.mem_append_right _ (List.mem_append_right _ (List.mem_append_right _ (List.mem_append_left _ (List.mem_of_getElem? h)))))
theorem jm_t6 {w : Cond} {i : Nat} (h : tables_1_6[i]? = some w) : w ∈ lw_tbl := by
  refine List.mem_append_right _ ?_
  show w ∈ tables_1_1 ++ (tables_1_2 ++ (tables_1_3 ++ (tables_1_4 ++ (tables_1_5 ++ (tables_1_6 ++ (tables_1_7 ++ (tables_1_8 ++ (tables_1_9))))))))
  exact List.mem_append_right _ (List.mem_append_right _ (List.mem_append_right _ (List.mem_append_right _ (List.mem_append_right _ (List.mem_append_left _ (List.mem_of_getElem? h))))))
theorem jm_t7 {w : Cond} {i : Nat} (h : tables_1_7[i]? = some w) : w ∈ lw_tbl := by
  refine List.mem_append_right _ ?_
  show w ∈ tables_1_1 ++ (tables_1_2 ++ (tables_1_3 ++ (tables_1_4 ++ (tables_1_5 ++ (tables_1_6 ++ (tables_1_7 ++ (tables_1_8 ++ (tables_1_9))))))))
  exact List.mem_append_right _ (List.mem_append_right _ (List.mem_append_right _ (List.mem_append_right _ (List.mem_append_right _ (List.mem_append_right _ (List.mem_append_left _ (List.mem_of_getElem? h)))))))
theorem jm_t8 {w : Cond} {i : Nat} (h : tables_1_8[i]? = some w) : w ∈ lw_tbl := by
  refine List.mem_append_right _ ?_
  show w ∈ tables_1_1 ++ (tables_1_2 ++ (tables_1_3 ++ (tables_1_4 ++ (tables_1_5 ++ (tables_1_6 ++ (tables_1_7 ++ (tables_1_8 ++ (tables_1_9))))))))
  exact List.mem_append_right _ (List.mem_append_right _ (List.mem_append_right _ (List.mem_append_right _ (List.mem_append_right _ (List.mem_append_right _ (List.mem_append_right _ (List.mem_append_left _ (List.mem_of_getElem? h))))))))
theorem jm_t9 {w : Cond} {i : Nat} (h : tables_1_9[i]? = some w) : w ∈ lw_tbl := by
  refine List.mem_append_right _ ?_
  show w ∈ tables_1_1 ++ (tables_1_2 ++ (tables_1_3 ++ (tables_1_4 ++ (tables_1_5 ++ (tables_1_6 ++ (tables_1_7 ++ (tables_1_8 ++ (tables_1_9))))))))
  exact List.mem_append_right _ (List.mem_append_right _ (List.mem_append_right _ (List.mem_append_right _ (List.mem_append_right _ (List.mem_append_right _ (List.mem_append_right _ (List.mem_append_right _ (List.mem_of_getElem? h))))))))
theorem jm_wk {w : Cond} (h : w ∈ lw_tbl) (g : goodWord w = true) : w ∈ jm_WW := List.mem_filter.mpr ⟨h, g⟩
theorem jm_ww {w : Cond} {i : Nat} (h : lw_tbl[i]? = some w) (g : goodWord w = true) : w ∈ jm_WW := List.mem_filter.mpr ⟨List.mem_of_getElem? h, g⟩
def jm_isN : Cond → Bool
  | .fieldLinkNest .. => true
  | .methodLinkNest .. => true
  | .castable .. => true
  | .declares .. => true
  | .arrayOver (.object _) => true
  | _ => false
def jm_NW : List Cond := lw_tbl.filter jm_isN
theorem jm_nk {w : Cond} (h : w ∈ lw_tbl) (g : jm_isN w = true) : w ∈ jm_NW := List.mem_filter.mpr ⟨h, g⟩
theorem jm_nw {w : Cond} {i : Nat} (h : lw_tbl[i]? = some w) (g : jm_isN w = true) : w ∈ jm_NW := List.mem_filter.mpr ⟨List.mem_of_getElem? h, g⟩
def jm_al {α : Type} (P : α → Prop) : List α → Prop
  | [] => True
  | a :: l => P a ∧ jm_al P l
theorem jm_al_mem {α : Type} {P : α → Prop} : ∀ {l : List α}, jm_al P l → ∀ a ∈ l, P a := by
  intro l
  induction l with
  | nil => intro _ a h; cases h
  | cons b l ih => intro h a ha; rcases List.mem_cons.mp ha with e | e
                   · exact e ▸ h.1
                   · exact ih h.2 a e
theorem jm_as_mem {α : Type} {t : List (List (Nat × α))} {c i : Nat} {v : α} (h : jm_as t c i = some v) : (i, v) ∈ t.getD c [] := by
  unfold jm_as at h
  obtain ⟨e, he, hv⟩ := Option.map_eq_some_iff.mp h
  have h1 := List.mem_of_find?_eq_some he
  have h2 := List.find?_some he
  have h3 : e.1 = i := by simpa using h2
  have h4 : e = (i, v) := by rw [← h3, ← hv]
  exact h4 ▸ h1
def jm_kt (kd : Nat) (ty : FieldType) : Prop := match kd with
  | 0 => ty = .int
  | 1 => ty = .boolean
  | 2 => ty = .long
  | 3 => (∀ x, narrow ty (.ref x) = .ref x) ∧ ∀ x, fits ty (.ref x) = true
  | _ => False
def jm_fok (c : Nat) (e : Nat × Nat × Nat × Nat × Bool) : Prop := ∃ (C : String) (T : u_T) (N : Nat) (ty : FieldType), vwCl[e.2.1]? = some (C, T, N) ∧ e.2.2.1 < N ∧ (T e.2.2.1).1 = C ∧ jm_cn e.2.1 = C ∧ (T e.2.2.1).2.2.2 = e.2.2.2.2 ∧ parseFieldDescriptor (T e.2.2.1).2.2.1 = some ty ∧ jm_kt e.2.2.2.1 ty ∧ (Cond.fieldLink (jm_cn c) e.1 C (T e.2.2.1).2.1 (T e.2.2.1).2.2.1 ∈ jm_WW ∨ Cond.fieldLinkNest (jm_cn c) e.1 C (T e.2.2.1).2.1 (T e.2.2.1).2.2.1 "PaperLand" ∈ jm_NW ∧ e.2.1 ≠ c)
theorem fk_0_15 : jm_fok 0 (15, 0, 0, 3, true) := ⟨RX0, TX0, 2, .array (.int), rfl, by decide, rfl, rfl, rfl, by decide +kernel, ⟨fun _ => rfl, fun _ => rfl⟩, Or.inl (jm_wk (jm_t1 (i := 44) (by decide +kernel)) (by decide +kernel))⟩
theorem fk_0_21 : jm_fok 0 (21, 0, 1, 0, false) := ⟨RX0, TX0, 2, .int, rfl, by decide, rfl, rfl, rfl, by decide +kernel, rfl, Or.inl (jm_wk (jm_t1 (i := 45) (by decide +kernel)) (by decide +kernel))⟩
theorem fk_1_9 : jm_fok 1 (9, 1, 0, 3, true) := ⟨RX1, TX1, 3, .array (.int), rfl, by decide, rfl, rfl, rfl, by decide +kernel, ⟨fun _ => rfl, fun _ => rfl⟩, Or.inl (jm_wk (jm_t2 (i := 10) (by decide +kernel)) (by decide +kernel))⟩
theorem fk_1_15 : jm_fok 1 (15, 1, 1, 0, false) := ⟨RX1, TX1, 3, .int, rfl, by decide, rfl, rfl, rfl, by decide +kernel, rfl, Or.inl (jm_wk (jm_t2 (i := 11) (by decide +kernel)) (by decide +kernel))⟩
theorem fk_1_19 : jm_fok 1 (19, 1, 2, 2, false) := ⟨RX1, TX1, 3, .long, rfl, by decide, rfl, rfl, rfl, by decide +kernel, rfl, Or.inl (jm_wk (jm_t2 (i := 14) (by decide +kernel)) (by decide +kernel))⟩
theorem fk_2_9 : jm_fok 2 (9, 2, 3, 3, true) := ⟨RX2, TX2, 7, .array (.boolean), rfl, by decide, rfl, rfl, rfl, by decide +kernel, ⟨fun _ => rfl, fun _ => rfl⟩, Or.inl (jm_wk (jm_t2 (i := 80) (by decide +kernel)) (by decide +kernel))⟩
theorem fk_2_15 : jm_fok 2 (15, 2, 4, 3, true) := ⟨RX2, TX2, 7, .array (.int), rfl, by decide, rfl, rfl, rfl, by decide +kernel, ⟨fun _ => rfl, fun _ => rfl⟩, Or.inl (jm_wk (jm_t2 (i := 81) (by decide +kernel)) (by decide +kernel))⟩
theorem fk_2_19 : jm_fok 2 (19, 2, 5, 3, true) := ⟨RX2, TX2, 7, .array (.int), rfl, by decide, rfl, rfl, rfl, by decide +kernel, ⟨fun _ => rfl, fun _ => rfl⟩, Or.inl (jm_wk (jm_t2 (i := 82) (by decide +kernel)) (by decide +kernel))⟩
theorem fk_2_22 : jm_fok 2 (22, 2, 6, 3, true) := ⟨RX2, TX2, 7, .array (.int), rfl, by decide, rfl, rfl, rfl, by decide +kernel, ⟨fun _ => rfl, fun _ => rfl⟩, Or.inl (jm_wk (jm_t2 (i := 83) (by decide +kernel)) (by decide +kernel))⟩
theorem fk_2_34 : jm_fok 2 (34, 2, 2, 0, false) := ⟨RX2, TX2, 7, .int, rfl, by decide, rfl, rfl, rfl, by decide +kernel, rfl, Or.inl (jm_wk (jm_t2 (i := 79) (by decide +kernel)) (by decide +kernel))⟩
theorem fk_2_38 : jm_fok 2 (38, 2, 0, 0, false) := ⟨RX2, TX2, 7, .int, rfl, by decide, rfl, rfl, rfl, by decide +kernel, rfl, Or.inl (jm_wk (jm_t2 (i := 75) (by decide +kernel)) (by decide +kernel))⟩
theorem fk_2_41 : jm_fok 2 (41, 2, 1, 0, false) := ⟨RX2, TX2, 7, .int, rfl, by decide, rfl, rfl, rfl, by decide +kernel, rfl, Or.inl (jm_wk (jm_t2 (i := 77) (by decide +kernel)) (by decide +kernel))⟩
theorem fk_3_11 : jm_fok 3 (11, 3, 0, 3, true) := ⟨RX3, TX3, 3, .array (.object "PaperLand$Land"), rfl, by decide, rfl, rfl, rfl, by decide +kernel, ⟨fun _ => rfl, fun _ => rfl⟩, Or.inl (jm_wk (jm_t1 (i := 227) (by decide +kernel)) (by decide +kernel))⟩
theorem fk_3_18 : jm_fok 3 (18, 3, 1, 0, false) := ⟨RX3, TX3, 3, .int, rfl, by decide, rfl, rfl, rfl, by decide +kernel, rfl, Or.inl (jm_wk (jm_t1 (i := 228) (by decide +kernel)) (by decide +kernel))⟩
theorem fk_3_32 : jm_fok 3 (32, 3, 2, 0, false) := ⟨RX3, TX3, 3, .int, rfl, by decide, rfl, rfl, rfl, by decide +kernel, rfl, Or.inl (jm_wk (jm_t1 (i := 229) (by decide +kernel)) (by decide +kernel))⟩
theorem fk_4_11 : jm_fok 4 (11, 4, 3, 3, true) := ⟨RX4, TX4, 6, .array (.object "PaperLand$Series"), rfl, by decide, rfl, rfl, rfl, by decide +kernel, ⟨fun _ => rfl, fun _ => rfl⟩, Or.inl (jm_wk (jm_t1 (i := 196) (by decide +kernel)) (by decide +kernel))⟩
theorem fk_4_20 : jm_fok 4 (20, 4, 4, 3, true) := ⟨RX4, TX4, 6, .object "PaperLand$Prints", rfl, by decide, rfl, rfl, rfl, by decide +kernel, ⟨fun _ => rfl, fun _ => rfl⟩, Or.inl (jm_wk (jm_t1 (i := 200) (by decide +kernel)) (by decide +kernel))⟩
theorem fk_4_24 : jm_fok 4 (24, 4, 5, 3, true) := ⟨RX4, TX4, 6, .array (.long), rfl, by decide, rfl, rfl, rfl, by decide +kernel, ⟨fun _ => rfl, fun _ => rfl⟩, Or.inl (jm_wk (jm_t1 (i := 202) (by decide +kernel)) (by decide +kernel))⟩
theorem fk_4_29 : jm_fok 4 (29, 4, 0, 0, false) := ⟨RX4, TX4, 6, .int, rfl, by decide, rfl, rfl, rfl, by decide +kernel, rfl, Or.inl (jm_wk (jm_t1 (i := 185) (by decide +kernel)) (by decide +kernel))⟩
theorem fk_4_33 : jm_fok 4 (33, 4, 1, 0, false) := ⟨RX4, TX4, 6, .int, rfl, by decide, rfl, rfl, rfl, by decide +kernel, rfl, Or.inl (jm_wk (jm_t1 (i := 189) (by decide +kernel)) (by decide +kernel))⟩
theorem fk_4_36 : jm_fok 4 (36, 4, 2, 0, false) := ⟨RX4, TX4, 6, .int, rfl, by decide, rfl, rfl, rfl, by decide +kernel, rfl, Or.inl (jm_wk (jm_t1 (i := 192) (by decide +kernel)) (by decide +kernel))⟩
theorem fk_4_94 : jm_fok 4 (94, 5, 5, 0, false) := ⟨RX5, TX5, 10, .int, rfl, by decide, rfl, rfl, rfl, by decide +kernel, rfl, Or.inr ⟨(jm_nk (jm_t2 (i := 36) (by decide +kernel)) rfl), by decide⟩⟩
theorem fk_4_98 : jm_fok 4 (98, 5, 0, 3, true) := ⟨RX5, TX5, 10, .object "PaperLand$Cuts", rfl, by decide, rfl, rfl, rfl, by decide +kernel, ⟨fun _ => rfl, fun _ => rfl⟩, Or.inr ⟨(jm_nk (jm_t2 (i := 25) (by decide +kernel)) rfl), by decide⟩⟩
theorem fk_4_107 : jm_fok 4 (107, 5, 6, 0, false) := ⟨RX5, TX5, 10, .int, rfl, by decide, rfl, rfl, rfl, by decide +kernel, rfl, Or.inr ⟨(jm_nk (jm_t2 (i := 39) (by decide +kernel)) rfl), by decide⟩⟩
theorem fk_4_110 : jm_fok 4 (110, 5, 3, 0, false) := ⟨RX5, TX5, 10, .int, rfl, by decide, rfl, rfl, rfl, by decide +kernel, rfl, Or.inr ⟨(jm_nk (jm_t2 (i := 32) (by decide +kernel)) rfl), by decide⟩⟩
theorem fk_4_113 : jm_fok 4 (113, 5, 1, 0, false) := ⟨RX5, TX5, 10, .int, rfl, by decide, rfl, rfl, rfl, by decide +kernel, rfl, Or.inr ⟨(jm_nk (jm_t2 (i := 28) (by decide +kernel)) rfl), by decide⟩⟩
theorem fk_4_116 : jm_fok 4 (116, 5, 2, 0, false) := ⟨RX5, TX5, 10, .int, rfl, by decide, rfl, rfl, rfl, by decide +kernel, rfl, Or.inr ⟨(jm_nk (jm_t2 (i := 30) (by decide +kernel)) rfl), by decide⟩⟩
theorem fk_4_119 : jm_fok 4 (119, 5, 7, 0, false) := ⟨RX5, TX5, 10, .int, rfl, by decide, rfl, rfl, rfl, by decide +kernel, rfl, Or.inr ⟨(jm_nk (jm_t2 (i := 42) (by decide +kernel)) rfl), by decide⟩⟩
theorem fk_4_122 : jm_fok 4 (122, 1, 2, 2, false) := ⟨RX1, TX1, 3, .long, rfl, by decide, rfl, rfl, rfl, by decide +kernel, rfl, Or.inr ⟨(jm_nk (jm_t2 (i := 15) (by decide +kernel)) rfl), by decide⟩⟩
theorem fk_4_126 : jm_fok 4 (126, 1, 1, 0, false) := ⟨RX1, TX1, 3, .int, rfl, by decide, rfl, rfl, rfl, by decide +kernel, rfl, Or.inr ⟨(jm_nk (jm_t2 (i := 12) (by decide +kernel)) rfl), by decide⟩⟩
theorem fk_5_12 : jm_fok 5 (12, 5, 0, 3, true) := ⟨RX5, TX5, 10, .object "PaperLand$Cuts", rfl, by decide, rfl, rfl, rfl, by decide +kernel, ⟨fun _ => rfl, fun _ => rfl⟩, Or.inl (jm_wk (jm_t2 (i := 24) (by decide +kernel)) (by decide +kernel))⟩
theorem fk_5_18 : jm_fok 5 (18, 5, 1, 0, false) := ⟨RX5, TX5, 10, .int, rfl, by decide, rfl, rfl, rfl, by decide +kernel, rfl, Or.inl (jm_wk (jm_t2 (i := 27) (by decide +kernel)) (by decide +kernel))⟩
theorem fk_5_22 : jm_fok 5 (22, 5, 2, 0, false) := ⟨RX5, TX5, 10, .int, rfl, by decide, rfl, rfl, rfl, by decide +kernel, rfl, Or.inl (jm_wk (jm_t2 (i := 29) (by decide +kernel)) (by decide +kernel))⟩
theorem fk_5_25 : jm_fok 5 (25, 5, 3, 0, false) := ⟨RX5, TX5, 10, .int, rfl, by decide, rfl, rfl, rfl, by decide +kernel, rfl, Or.inl (jm_wk (jm_t2 (i := 31) (by decide +kernel)) (by decide +kernel))⟩
theorem fk_5_28 : jm_fok 5 (28, 5, 5, 0, false) := ⟨RX5, TX5, 10, .int, rfl, by decide, rfl, rfl, rfl, by decide +kernel, rfl, Or.inl (jm_wk (jm_t2 (i := 35) (by decide +kernel)) (by decide +kernel))⟩
theorem fk_5_31 : jm_fok 5 (31, 5, 6, 0, false) := ⟨RX5, TX5, 10, .int, rfl, by decide, rfl, rfl, rfl, by decide +kernel, rfl, Or.inl (jm_wk (jm_t2 (i := 38) (by decide +kernel)) (by decide +kernel))⟩
theorem fk_5_34 : jm_fok 5 (34, 5, 7, 0, false) := ⟨RX5, TX5, 10, .int, rfl, by decide, rfl, rfl, rfl, by decide +kernel, rfl, Or.inl (jm_wk (jm_t2 (i := 41) (by decide +kernel)) (by decide +kernel))⟩
theorem fk_5_37 : jm_fok 5 (37, 5, 8, 0, false) := ⟨RX5, TX5, 10, .int, rfl, by decide, rfl, rfl, rfl, by decide +kernel, rfl, Or.inl (jm_wk (jm_t2 (i := 44) (by decide +kernel)) (by decide +kernel))⟩
theorem fk_5_40 : jm_fok 5 (40, 5, 9, 0, false) := ⟨RX5, TX5, 10, .int, rfl, by decide, rfl, rfl, rfl, by decide +kernel, rfl, Or.inl (jm_wk (jm_t2 (i := 46) (by decide +kernel)) (by decide +kernel))⟩
theorem fk_5_43 : jm_fok 5 (43, 4, 2, 0, false) := ⟨RX4, TX4, 6, .int, rfl, by decide, rfl, rfl, rfl, by decide +kernel, rfl, Or.inr ⟨(jm_nk (jm_t1 (i := 193) (by decide +kernel)) rfl), by decide⟩⟩
theorem fk_5_48 : jm_fok 5 (48, 4, 3, 3, true) := ⟨RX4, TX4, 6, .array (.object "PaperLand$Series"), rfl, by decide, rfl, rfl, rfl, by decide +kernel, ⟨fun _ => rfl, fun _ => rfl⟩, Or.inr ⟨(jm_nk (jm_t1 (i := 197) (by decide +kernel)) rfl), by decide⟩⟩
theorem fk_5_51 : jm_fok 5 (51, 4, 0, 0, false) := ⟨RX4, TX4, 6, .int, rfl, by decide, rfl, rfl, rfl, by decide +kernel, rfl, Or.inr ⟨(jm_nk (jm_t1 (i := 186) (by decide +kernel)) rfl), by decide⟩⟩
theorem fk_5_62 : jm_fok 5 (62, 5, 4, 0, false) := ⟨RX5, TX5, 10, .int, rfl, by decide, rfl, rfl, rfl, by decide +kernel, rfl, Or.inl (jm_wk (jm_t2 (i := 33) (by decide +kernel)) (by decide +kernel))⟩
theorem fk_6_9 : jm_fok 6 (9, 6, 0, 3, true) := ⟨RX6, TX6, 4, .array (.int), rfl, by decide, rfl, rfl, rfl, by decide +kernel, ⟨fun _ => rfl, fun _ => rfl⟩, Or.inl (jm_wk (jm_t1 (i := 149) (by decide +kernel)) (by decide +kernel))⟩
theorem fk_6_15 : jm_fok 6 (15, 6, 1, 3, true) := ⟨RX6, TX6, 4, .array (.int), rfl, by decide, rfl, rfl, rfl, by decide +kernel, ⟨fun _ => rfl, fun _ => rfl⟩, Or.inl (jm_wk (jm_t1 (i := 150) (by decide +kernel)) (by decide +kernel))⟩
theorem fk_6_18 : jm_fok 6 (18, 6, 2, 3, true) := ⟨RX6, TX6, 4, .array (.int), rfl, by decide, rfl, rfl, rfl, by decide +kernel, ⟨fun _ => rfl, fun _ => rfl⟩, Or.inl (jm_wk (jm_t1 (i := 151) (by decide +kernel)) (by decide +kernel))⟩
theorem fk_6_21 : jm_fok 6 (21, 6, 3, 0, false) := ⟨RX6, TX6, 4, .int, rfl, by decide, rfl, rfl, rfl, by decide +kernel, rfl, Or.inl (jm_wk (jm_t1 (i := 152) (by decide +kernel)) (by decide +kernel))⟩
theorem fk_7_9 : jm_fok 7 (9, 7, 6, 0, false) := ⟨RX7, TX7, 7, .int, rfl, by decide, rfl, rfl, rfl, by decide +kernel, rfl, Or.inl (jm_wk (jm_t1 (i := 78) (by decide +kernel)) (by decide +kernel))⟩
theorem fk_7_15 : jm_fok 7 (15, 7, 0, 3, true) := ⟨RX7, TX7, 7, .object "PaperLand$Bytes", rfl, by decide, rfl, rfl, rfl, by decide +kernel, ⟨fun _ => rfl, fun _ => rfl⟩, Or.inl (jm_wk (jm_t1 (i := 61) (by decide +kernel)) (by decide +kernel))⟩
theorem fk_7_19 : jm_fok 7 (19, 7, 5, 0, false) := ⟨RX7, TX7, 7, .int, rfl, by decide, rfl, rfl, rfl, by decide +kernel, rfl, Or.inl (jm_wk (jm_t1 (i := 76) (by decide +kernel)) (by decide +kernel))⟩
theorem fk_7_22 : jm_fok 7 (22, 7, 3, 0, false) := ⟨RX7, TX7, 7, .int, rfl, by decide, rfl, rfl, rfl, by decide +kernel, rfl, Or.inl (jm_wk (jm_t1 (i := 70) (by decide +kernel)) (by decide +kernel))⟩
theorem fk_7_28 : jm_fok 7 (28, 0, 1, 0, false) := ⟨RX0, TX0, 2, .int, rfl, by decide, rfl, rfl, rfl, by decide +kernel, rfl, Or.inr ⟨(jm_nk (jm_t1 (i := 47) (by decide +kernel)) rfl), by decide⟩⟩
theorem fk_7_41 : jm_fok 7 (41, 7, 2, 0, false) := ⟨RX7, TX7, 7, .int, rfl, by decide, rfl, rfl, rfl, by decide +kernel, rfl, Or.inl (jm_wk (jm_t1 (i := 67) (by decide +kernel)) (by decide +kernel))⟩
theorem fk_7_44 : jm_fok 7 (44, 7, 4, 0, false) := ⟨RX7, TX7, 7, .int, rfl, by decide, rfl, rfl, rfl, by decide +kernel, rfl, Or.inl (jm_wk (jm_t1 (i := 74) (by decide +kernel)) (by decide +kernel))⟩
theorem fk_7_47 : jm_fok 7 (47, 7, 1, 0, false) := ⟨RX7, TX7, 7, .int, rfl, by decide, rfl, rfl, rfl, by decide +kernel, rfl, Or.inl (jm_wk (jm_t1 (i := 65) (by decide +kernel)) (by decide +kernel))⟩
theorem fk_8_9 : jm_fok 8 (9, 8, 0, 3, true) := ⟨RX8, TX8, 6, .array (.int), rfl, by decide, rfl, rfl, rfl, by decide +kernel, ⟨fun _ => rfl, fun _ => rfl⟩, Or.inl (jm_wk (jm_t1 (i := 115) (by decide +kernel)) (by decide +kernel))⟩
theorem fk_8_15 : jm_fok 8 (15, 8, 1, 3, true) := ⟨RX8, TX8, 6, .array (.int), rfl, by decide, rfl, rfl, rfl, by decide +kernel, ⟨fun _ => rfl, fun _ => rfl⟩, Or.inl (jm_wk (jm_t1 (i := 116) (by decide +kernel)) (by decide +kernel))⟩
theorem fk_8_18 : jm_fok 8 (18, 8, 2, 3, true) := ⟨RX8, TX8, 6, .array (.int), rfl, by decide, rfl, rfl, rfl, by decide +kernel, ⟨fun _ => rfl, fun _ => rfl⟩, Or.inl (jm_wk (jm_t1 (i := 117) (by decide +kernel)) (by decide +kernel))⟩
theorem fk_8_21 : jm_fok 8 (21, 8, 3, 3, true) := ⟨RX8, TX8, 6, .array (.int), rfl, by decide, rfl, rfl, rfl, by decide +kernel, ⟨fun _ => rfl, fun _ => rfl⟩, Or.inl (jm_wk (jm_t1 (i := 118) (by decide +kernel)) (by decide +kernel))⟩
theorem fk_8_24 : jm_fok 8 (24, 8, 4, 3, true) := ⟨RX8, TX8, 6, .array (.int), rfl, by decide, rfl, rfl, rfl, by decide +kernel, ⟨fun _ => rfl, fun _ => rfl⟩, Or.inl (jm_wk (jm_t1 (i := 119) (by decide +kernel)) (by decide +kernel))⟩
theorem fk_8_27 : jm_fok 8 (27, 8, 5, 0, false) := ⟨RX8, TX8, 6, .int, rfl, by decide, rfl, rfl, rfl, by decide +kernel, rfl, Or.inl (jm_wk (jm_t1 (i := 120) (by decide +kernel)) (by decide +kernel))⟩
theorem fk_8_51 : jm_fok 8 (51, 7, 1, 0, false) := ⟨RX7, TX7, 7, .int, rfl, by decide, rfl, rfl, rfl, by decide +kernel, rfl, Or.inr ⟨(jm_nk (jm_t1 (i := 66) (by decide +kernel)) rfl), by decide⟩⟩
theorem fk_8_106 : jm_fok 8 (106, 7, 0, 3, true) := ⟨RX7, TX7, 7, .object "PaperLand$Bytes", rfl, by decide, rfl, rfl, rfl, by decide +kernel, ⟨fun _ => rfl, fun _ => rfl⟩, Or.inr ⟨(jm_nk (jm_t1 (i := 63) (by decide +kernel)) rfl), by decide⟩⟩
theorem fk_8_110 : jm_fok 8 (110, 7, 2, 0, false) := ⟨RX7, TX7, 7, .int, rfl, by decide, rfl, rfl, rfl, by decide +kernel, rfl, Or.inr ⟨(jm_nk (jm_t1 (i := 69) (by decide +kernel)) rfl), by decide⟩⟩
theorem fk_8_113 : jm_fok 8 (113, 7, 3, 0, false) := ⟨RX7, TX7, 7, .int, rfl, by decide, rfl, rfl, rfl, by decide +kernel, rfl, Or.inr ⟨(jm_nk (jm_t1 (i := 72) (by decide +kernel)) rfl), by decide⟩⟩
theorem fk_8_130 : jm_fok 8 (130, 7, 4, 0, false) := ⟨RX7, TX7, 7, .int, rfl, by decide, rfl, rfl, rfl, by decide +kernel, rfl, Or.inr ⟨(jm_nk (jm_t1 (i := 75) (by decide +kernel)) rfl), by decide⟩⟩
theorem fk_9_9 : jm_fok 9 (9, 9, 0, 3, true) := ⟨RX9, TX9, 5, .array (.int), rfl, by decide, rfl, rfl, rfl, by decide +kernel, ⟨fun _ => rfl, fun _ => rfl⟩, Or.inl (jm_wk (jm_t1 (i := 168) (by decide +kernel)) (by decide +kernel))⟩
theorem fk_9_15 : jm_fok 9 (15, 9, 2, 3, true) := ⟨RX9, TX9, 5, .array (.int), rfl, by decide, rfl, rfl, rfl, by decide +kernel, ⟨fun _ => rfl, fun _ => rfl⟩, Or.inl (jm_wk (jm_t1 (i := 170) (by decide +kernel)) (by decide +kernel))⟩
theorem fk_9_18 : jm_fok 9 (18, 9, 3, 3, true) := ⟨RX9, TX9, 5, .array (.int), rfl, by decide, rfl, rfl, rfl, by decide +kernel, ⟨fun _ => rfl, fun _ => rfl⟩, Or.inl (jm_wk (jm_t1 (i := 171) (by decide +kernel)) (by decide +kernel))⟩
theorem fk_9_21 : jm_fok 9 (21, 9, 4, 3, true) := ⟨RX9, TX9, 5, .array (.int), rfl, by decide, rfl, rfl, rfl, by decide +kernel, ⟨fun _ => rfl, fun _ => rfl⟩, Or.inl (jm_wk (jm_t1 (i := 172) (by decide +kernel)) (by decide +kernel))⟩
theorem fk_9_24 : jm_fok 9 (24, 9, 1, 0, false) := ⟨RX9, TX9, 5, .int, rfl, by decide, rfl, rfl, rfl, by decide +kernel, rfl, Or.inl (jm_wk (jm_t1 (i := 169) (by decide +kernel)) (by decide +kernel))⟩
theorem fk_9_72 : jm_fok 9 (72, 0, 1, 0, false) := ⟨RX0, TX0, 2, .int, rfl, by decide, rfl, rfl, rfl, by decide +kernel, rfl, Or.inr ⟨(jm_nk (jm_t1 (i := 48) (by decide +kernel)) rfl), by decide⟩⟩
theorem fk_10_9 : jm_fok 10 (9, 10, 1, 3, true) := ⟨RX10, TX10, 2, .array (.boolean), rfl, by decide, rfl, rfl, rfl, by decide +kernel, ⟨fun _ => rfl, fun _ => rfl⟩, Or.inl (jm_wk (jm_t1 (i := 102) (by decide +kernel)) (by decide +kernel))⟩
theorem fk_10_15 : jm_fok 10 (15, 10, 0, 3, true) := ⟨RX10, TX10, 2, .object "PaperLand$Reader", rfl, by decide, rfl, rfl, rfl, by decide +kernel, ⟨fun _ => rfl, fun _ => rfl⟩, Or.inl (jm_wk (jm_t1 (i := 101) (by decide +kernel)) (by decide +kernel))⟩
theorem fk_10_31 : jm_fok 10 (31, 7, 1, 0, false) := ⟨RX7, TX7, 7, .int, rfl, by decide, rfl, rfl, rfl, by decide +kernel, rfl, Or.inr ⟨(jm_nk (jm_t1 (i := 64) (by decide +kernel)) rfl), by decide⟩⟩
theorem fk_10_42 : jm_fok 10 (42, 4, 5, 3, true) := ⟨RX4, TX4, 6, .array (.long), rfl, by decide, rfl, rfl, rfl, by decide +kernel, ⟨fun _ => rfl, fun _ => rfl⟩, Or.inr ⟨(jm_nk (jm_t1 (i := 203) (by decide +kernel)) rfl), by decide⟩⟩
theorem fk_10_67 : jm_fok 10 (67, 7, 4, 0, false) := ⟨RX7, TX7, 7, .int, rfl, by decide, rfl, rfl, rfl, by decide +kernel, rfl, Or.inr ⟨(jm_nk (jm_t1 (i := 73) (by decide +kernel)) rfl), by decide⟩⟩
theorem fk_10_70 : jm_fok 10 (70, 4, 0, 0, false) := ⟨RX4, TX4, 6, .int, rfl, by decide, rfl, rfl, rfl, by decide +kernel, rfl, Or.inr ⟨(jm_nk (jm_t1 (i := 187) (by decide +kernel)) rfl), by decide⟩⟩
theorem fk_10_73 : jm_fok 10 (73, 4, 1, 0, false) := ⟨RX4, TX4, 6, .int, rfl, by decide, rfl, rfl, rfl, by decide +kernel, rfl, Or.inr ⟨(jm_nk (jm_t1 (i := 190) (by decide +kernel)) rfl), by decide⟩⟩
theorem fk_10_78 : jm_fok 10 (78, 4, 2, 0, false) := ⟨RX4, TX4, 6, .int, rfl, by decide, rfl, rfl, rfl, by decide +kernel, rfl, Or.inr ⟨(jm_nk (jm_t1 (i := 195) (by decide +kernel)) rfl), by decide⟩⟩
theorem fk_10_81 : jm_fok 10 (81, 4, 3, 3, true) := ⟨RX4, TX4, 6, .array (.object "PaperLand$Series"), rfl, by decide, rfl, rfl, rfl, by decide +kernel, ⟨fun _ => rfl, fun _ => rfl⟩, Or.inr ⟨(jm_nk (jm_t1 (i := 198) (by decide +kernel)) rfl), by decide⟩⟩
theorem fk_10_88 : jm_fok 10 (88, 7, 2, 0, false) := ⟨RX7, TX7, 7, .int, rfl, by decide, rfl, rfl, rfl, by decide +kernel, rfl, Or.inr ⟨(jm_nk (jm_t1 (i := 68) (by decide +kernel)) rfl), by decide⟩⟩
theorem fk_10_91 : jm_fok 10 (91, 7, 3, 0, false) := ⟨RX7, TX7, 7, .int, rfl, by decide, rfl, rfl, rfl, by decide +kernel, rfl, Or.inr ⟨(jm_nk (jm_t1 (i := 71) (by decide +kernel)) rfl), by decide⟩⟩
theorem fk_10_94 : jm_fok 10 (94, 7, 0, 3, true) := ⟨RX7, TX7, 7, .object "PaperLand$Bytes", rfl, by decide, rfl, rfl, rfl, by decide +kernel, ⟨fun _ => rfl, fun _ => rfl⟩, Or.inr ⟨(jm_nk (jm_t1 (i := 62) (by decide +kernel)) rfl), by decide⟩⟩
theorem fk_11_14 : jm_fok 11 (14, 11, 0, 3, true) := ⟨RX11, TX11, 14, .object "PaperLand$Bytes", rfl, by decide, rfl, rfl, rfl, by decide +kernel, ⟨fun _ => rfl, fun _ => rfl⟩, Or.inl (jm_wk (jm_t3 (i := 82) (by decide +kernel)) (by decide +kernel))⟩
theorem fk_11_18 : jm_fok 11 (18, 11, 1, 3, true) := ⟨RX11, TX11, 14, .object "PaperLand$Bytes", rfl, by decide, rfl, rfl, rfl, by decide +kernel, ⟨fun _ => rfl, fun _ => rfl⟩, Or.inl (jm_wk (jm_t3 (i := 83) (by decide +kernel)) (by decide +kernel))⟩
theorem fk_11_26 : jm_fok 11 (26, 11, 2, 3, true) := ⟨RX11, TX11, 14, .object "PaperLand$Reader", rfl, by decide, rfl, rfl, rfl, by decide +kernel, ⟨fun _ => rfl, fun _ => rfl⟩, Or.inl (jm_wk (jm_t3 (i := 84) (by decide +kernel)) (by decide +kernel))⟩
theorem fk_11_35 : jm_fok 11 (35, 11, 3, 3, true) := ⟨RX11, TX11, 14, .object "PaperLand$SetupReader", rfl, by decide, rfl, rfl, rfl, by decide +kernel, ⟨fun _ => rfl, fun _ => rfl⟩, Or.inl (jm_wk (jm_t3 (i := 85) (by decide +kernel)) (by decide +kernel))⟩
theorem fk_11_42 : jm_fok 11 (42, 11, 4, 3, true) := ⟨RX11, TX11, 14, .object "PaperLand$Script", rfl, by decide, rfl, rfl, rfl, by decide +kernel, ⟨fun _ => rfl, fun _ => rfl⟩, Or.inl (jm_wk (jm_t3 (i := 86) (by decide +kernel)) (by decide +kernel))⟩
theorem fk_11_49 : jm_fok 11 (49, 11, 5, 3, true) := ⟨RX11, TX11, 14, .object "PaperLand$Land", rfl, by decide, rfl, rfl, rfl, by decide +kernel, ⟨fun _ => rfl, fun _ => rfl⟩, Or.inl (jm_wk (jm_t3 (i := 87) (by decide +kernel)) (by decide +kernel))⟩
theorem fk_11_53 : jm_fok 11 (53, 11, 6, 3, true) := ⟨RX11, TX11, 14, .object "PaperLand$Land", rfl, by decide, rfl, rfl, rfl, by decide +kernel, ⟨fun _ => rfl, fun _ => rfl⟩, Or.inl (jm_wk (jm_t3 (i := 88) (by decide +kernel)) (by decide +kernel))⟩
theorem fk_11_59 : jm_fok 11 (59, 11, 7, 3, true) := ⟨RX11, TX11, 14, .object "PaperLand$History", rfl, by decide, rfl, rfl, rfl, by decide +kernel, ⟨fun _ => rfl, fun _ => rfl⟩, Or.inl (jm_wk (jm_t3 (i := 89) (by decide +kernel)) (by decide +kernel))⟩
theorem fk_11_63 : jm_fok 11 (63, 11, 8, 3, true) := ⟨RX11, TX11, 14, .array (.object "PaperLand$Land"), rfl, by decide, rfl, rfl, rfl, by decide +kernel, ⟨fun _ => rfl, fun _ => rfl⟩, Or.inl (jm_wk (jm_t3 (i := 90) (by decide +kernel)) (by decide +kernel))⟩
theorem fk_11_67 : jm_fok 11 (67, 11, 9, 3, true) := ⟨RX11, TX11, 14, .array (.boolean), rfl, by decide, rfl, rfl, rfl, by decide +kernel, ⟨fun _ => rfl, fun _ => rfl⟩, Or.inl (jm_wk (jm_t3 (i := 91) (by decide +kernel)) (by decide +kernel))⟩
theorem fk_11_71 : jm_fok 11 (71, 11, 10, 3, true) := ⟨RX11, TX11, 14, .array (.int), rfl, by decide, rfl, rfl, rfl, by decide +kernel, ⟨fun _ => rfl, fun _ => rfl⟩, Or.inl (jm_wk (jm_t3 (i := 92) (by decide +kernel)) (by decide +kernel))⟩
theorem fk_11_78 : jm_fok 11 (78, 11, 11, 3, true) := ⟨RX11, TX11, 14, .object "PaperLand$Plan", rfl, by decide, rfl, rfl, rfl, by decide +kernel, ⟨fun _ => rfl, fun _ => rfl⟩, Or.inl (jm_wk (jm_t3 (i := 93) (by decide +kernel)) (by decide +kernel))⟩
theorem fk_11_85 : jm_fok 11 (85, 11, 12, 3, true) := ⟨RX11, TX11, 14, .object "PaperLand$Folding", rfl, by decide, rfl, rfl, rfl, by decide +kernel, ⟨fun _ => rfl, fun _ => rfl⟩, Or.inl (jm_wk (jm_t3 (i := 94) (by decide +kernel)) (by decide +kernel))⟩
theorem fk_11_122 : jm_fok 11 (122, 0, 1, 0, false) := ⟨RX0, TX0, 2, .int, rfl, by decide, rfl, rfl, rfl, by decide +kernel, rfl, Or.inr ⟨(jm_nk (jm_t1 (i := 46) (by decide +kernel)) rfl), by decide⟩⟩
theorem fk_11_132 : jm_fok 11 (132, 4, 2, 0, false) := ⟨RX4, TX4, 6, .int, rfl, by decide, rfl, rfl, rfl, by decide +kernel, rfl, Or.inr ⟨(jm_nk (jm_t1 (i := 194) (by decide +kernel)) rfl), by decide⟩⟩
theorem fk_11_143 : jm_fok 11 (143, 11, 13, 0, false) := ⟨RX11, TX11, 14, .int, rfl, by decide, rfl, rfl, rfl, by decide +kernel, rfl, Or.inl (jm_wk (jm_t3 (i := 95) (by decide +kernel)) (by decide +kernel))⟩
theorem fk_11_146 : jm_fok 11 (146, 8, 5, 0, false) := ⟨RX8, TX8, 6, .int, rfl, by decide, rfl, rfl, rfl, by decide +kernel, rfl, Or.inr ⟨(jm_nk (jm_t1 (i := 121) (by decide +kernel)) rfl), by decide⟩⟩
theorem fk_11_153 : jm_fok 11 (153, 7, 5, 0, false) := ⟨RX7, TX7, 7, .int, rfl, by decide, rfl, rfl, rfl, by decide +kernel, rfl, Or.inr ⟨(jm_nk (jm_t1 (i := 77) (by decide +kernel)) rfl), by decide⟩⟩
theorem fk_11_156 : jm_fok 11 (156, 7, 6, 0, false) := ⟨RX7, TX7, 7, .int, rfl, by decide, rfl, rfl, rfl, by decide +kernel, rfl, Or.inr ⟨(jm_nk (jm_t1 (i := 79) (by decide +kernel)) rfl), by decide⟩⟩
theorem fk_11_233 : jm_fok 11 (233, 4, 0, 0, false) := ⟨RX4, TX4, 6, .int, rfl, by decide, rfl, rfl, rfl, by decide +kernel, rfl, Or.inr ⟨(jm_nk (jm_t1 (i := 188) (by decide +kernel)) rfl), by decide⟩⟩
theorem fk_11_236 : jm_fok 11 (236, 4, 1, 0, false) := ⟨RX4, TX4, 6, .int, rfl, by decide, rfl, rfl, rfl, by decide +kernel, rfl, Or.inr ⟨(jm_nk (jm_t1 (i := 191) (by decide +kernel)) rfl), by decide⟩⟩
theorem fk_11_239 : jm_fok 11 (239, 4, 4, 3, true) := ⟨RX4, TX4, 6, .object "PaperLand$Prints", rfl, by decide, rfl, rfl, rfl, by decide +kernel, ⟨fun _ => rfl, fun _ => rfl⟩, Or.inr ⟨(jm_nk (jm_t1 (i := 201) (by decide +kernel)) rfl), by decide⟩⟩
theorem fk_11_243 : jm_fok 11 (243, 6, 3, 0, false) := ⟨RX6, TX6, 4, .int, rfl, by decide, rfl, rfl, rfl, by decide +kernel, rfl, Or.inr ⟨(jm_nk (jm_t1 (i := 153) (by decide +kernel)) rfl), by decide⟩⟩
theorem fk_11_248 : jm_fok 11 (248, 3, 2, 0, false) := ⟨RX3, TX3, 3, .int, rfl, by decide, rfl, rfl, rfl, by decide +kernel, rfl, Or.inr ⟨(jm_nk (jm_t1 (i := 230) (by decide +kernel)) rfl), by decide⟩⟩
theorem fk_11_259 : jm_fok 11 (259, 4, 3, 3, true) := ⟨RX4, TX4, 6, .array (.object "PaperLand$Series"), rfl, by decide, rfl, rfl, rfl, by decide +kernel, ⟨fun _ => rfl, fun _ => rfl⟩, Or.inr ⟨(jm_nk (jm_t1 (i := 199) (by decide +kernel)) rfl), by decide⟩⟩
theorem fk_11_311 : jm_fok 11 (311, 4, 5, 3, true) := ⟨RX4, TX4, 6, .array (.long), rfl, by decide, rfl, rfl, rfl, by decide +kernel, ⟨fun _ => rfl, fun _ => rfl⟩, Or.inr ⟨(jm_nk (jm_t1 (i := 204) (by decide +kernel)) rfl), by decide⟩⟩
theorem fk_11_339 : jm_fok 11 (339, 2, 1, 0, false) := ⟨RX2, TX2, 7, .int, rfl, by decide, rfl, rfl, rfl, by decide +kernel, rfl, Or.inr ⟨(jm_nk (jm_t2 (i := 78) (by decide +kernel)) rfl), by decide⟩⟩
theorem fk_11_342 : jm_fok 11 (342, 2, 0, 0, false) := ⟨RX2, TX2, 7, .int, rfl, by decide, rfl, rfl, rfl, by decide +kernel, rfl, Or.inr ⟨(jm_nk (jm_t2 (i := 76) (by decide +kernel)) rfl), by decide⟩⟩
theorem fk_11_373 : jm_fok 11 (373, 5, 8, 0, false) := ⟨RX5, TX5, 10, .int, rfl, by decide, rfl, rfl, rfl, by decide +kernel, rfl, Or.inr ⟨(jm_nk (jm_t2 (i := 45) (by decide +kernel)) rfl), by decide⟩⟩
theorem fk_11_379 : jm_fok 11 (379, 5, 4, 0, false) := ⟨RX5, TX5, 10, .int, rfl, by decide, rfl, rfl, rfl, by decide +kernel, rfl, Or.inr ⟨(jm_nk (jm_t2 (i := 34) (by decide +kernel)) rfl), by decide⟩⟩
theorem fk_11_388 : jm_fok 11 (388, 5, 9, 0, false) := ⟨RX5, TX5, 10, .int, rfl, by decide, rfl, rfl, rfl, by decide +kernel, rfl, Or.inr ⟨(jm_nk (jm_t2 (i := 47) (by decide +kernel)) rfl), by decide⟩⟩
theorem fk_11_391 : jm_fok 11 (391, 5, 5, 0, false) := ⟨RX5, TX5, 10, .int, rfl, by decide, rfl, rfl, rfl, by decide +kernel, rfl, Or.inr ⟨(jm_nk (jm_t2 (i := 37) (by decide +kernel)) rfl), by decide⟩⟩
theorem fk_11_393 : jm_fok 11 (393, 5, 0, 3, true) := ⟨RX5, TX5, 10, .object "PaperLand$Cuts", rfl, by decide, rfl, rfl, rfl, by decide +kernel, ⟨fun _ => rfl, fun _ => rfl⟩, Or.inr ⟨(jm_nk (jm_t2 (i := 26) (by decide +kernel)) rfl), by decide⟩⟩
theorem fk_11_397 : jm_fok 11 (397, 1, 1, 0, false) := ⟨RX1, TX1, 3, .int, rfl, by decide, rfl, rfl, rfl, by decide +kernel, rfl, Or.inr ⟨(jm_nk (jm_t2 (i := 13) (by decide +kernel)) rfl), by decide⟩⟩
theorem fk_11_400 : jm_fok 11 (400, 1, 2, 2, false) := ⟨RX1, TX1, 3, .long, rfl, by decide, rfl, rfl, rfl, by decide +kernel, rfl, Or.inr ⟨(jm_nk (jm_t2 (i := 16) (by decide +kernel)) rfl), by decide⟩⟩
theorem fk_11_404 : jm_fok 11 (404, 5, 7, 0, false) := ⟨RX5, TX5, 10, .int, rfl, by decide, rfl, rfl, rfl, by decide +kernel, rfl, Or.inr ⟨(jm_nk (jm_t2 (i := 43) (by decide +kernel)) rfl), by decide⟩⟩
theorem fk_11_407 : jm_fok 11 (407, 5, 6, 0, false) := ⟨RX5, TX5, 10, .int, rfl, by decide, rfl, rfl, rfl, by decide +kernel, rfl, Or.inr ⟨(jm_nk (jm_t2 (i := 40) (by decide +kernel)) rfl), by decide⟩⟩
theorem fk_12_7 : jm_fok 12 (7, 12, 0, 3, true) := ⟨RX12, TX12, 44, .array (.long), rfl, by decide, rfl, rfl, rfl, by decide +kernel, ⟨fun _ => rfl, fun _ => rfl⟩, Or.inl (jm_wk (jm_t6 (i := 195) (by decide +kernel)) (by decide +kernel))⟩
theorem fk_12_13 : jm_fok 12 (13, 12, 1, 3, true) := ⟨RX12, TX12, 44, .array (.long), rfl, by decide, rfl, rfl, rfl, by decide +kernel, ⟨fun _ => rfl, fun _ => rfl⟩, Or.inl (jm_wk (jm_t6 (i := 196) (by decide +kernel)) (by decide +kernel))⟩
theorem fk_12_16 : jm_fok 12 (16, 12, 2, 3, true) := ⟨RX12, TX12, 44, .array (.long), rfl, by decide, rfl, rfl, rfl, by decide +kernel, ⟨fun _ => rfl, fun _ => rfl⟩, Or.inl (jm_wk (jm_t6 (i := 197) (by decide +kernel)) (by decide +kernel))⟩
theorem fk_12_19 : jm_fok 12 (19, 12, 3, 3, true) := ⟨RX12, TX12, 44, .array (.long), rfl, by decide, rfl, rfl, rfl, by decide +kernel, ⟨fun _ => rfl, fun _ => rfl⟩, Or.inl (jm_wk (jm_t6 (i := 198) (by decide +kernel)) (by decide +kernel))⟩
theorem fk_12_22 : jm_fok 12 (22, 12, 4, 3, true) := ⟨RX12, TX12, 44, .array (.long), rfl, by decide, rfl, rfl, rfl, by decide +kernel, ⟨fun _ => rfl, fun _ => rfl⟩, Or.inl (jm_wk (jm_t6 (i := 199) (by decide +kernel)) (by decide +kernel))⟩
theorem fk_12_25 : jm_fok 12 (25, 12, 5, 3, true) := ⟨RX12, TX12, 44, .array (.boolean), rfl, by decide, rfl, rfl, rfl, by decide +kernel, ⟨fun _ => rfl, fun _ => rfl⟩, Or.inl (jm_wk (jm_t6 (i := 200) (by decide +kernel)) (by decide +kernel))⟩
theorem fk_12_29 : jm_fok 12 (29, 12, 6, 3, true) := ⟨RX12, TX12, 44, .array (.int), rfl, by decide, rfl, rfl, rfl, by decide +kernel, ⟨fun _ => rfl, fun _ => rfl⟩, Or.inl (jm_wk (jm_t6 (i := 201) (by decide +kernel)) (by decide +kernel))⟩
theorem fk_12_33 : jm_fok 12 (33, 12, 13, 3, true) := ⟨RX12, TX12, 44, .array (.long), rfl, by decide, rfl, rfl, rfl, by decide +kernel, ⟨fun _ => rfl, fun _ => rfl⟩, Or.inl (jm_wk (jm_t6 (i := 208) (by decide +kernel)) (by decide +kernel))⟩
theorem fk_12_36 : jm_fok 12 (36, 12, 14, 3, true) := ⟨RX12, TX12, 44, .array (.int), rfl, by decide, rfl, rfl, rfl, by decide +kernel, ⟨fun _ => rfl, fun _ => rfl⟩, Or.inl (jm_wk (jm_t6 (i := 209) (by decide +kernel)) (by decide +kernel))⟩
theorem fk_12_39 : jm_fok 12 (39, 12, 15, 3, true) := ⟨RX12, TX12, 44, .array (.int), rfl, by decide, rfl, rfl, rfl, by decide +kernel, ⟨fun _ => rfl, fun _ => rfl⟩, Or.inl (jm_wk (jm_t6 (i := 210) (by decide +kernel)) (by decide +kernel))⟩
theorem fk_12_42 : jm_fok 12 (42, 12, 25, 0, false) := ⟨RX12, TX12, 44, .int, rfl, by decide, rfl, rfl, rfl, by decide +kernel, rfl, Or.inl (jm_wk (jm_t6 (i := 220) (by decide +kernel)) (by decide +kernel))⟩
theorem fk_12_46 : jm_fok 12 (46, 12, 32, 3, true) := ⟨RX12, TX12, 44, .array (.int), rfl, by decide, rfl, rfl, rfl, by decide +kernel, ⟨fun _ => rfl, fun _ => rfl⟩, Or.inl (jm_wk (jm_t6 (i := 227) (by decide +kernel)) (by decide +kernel))⟩
theorem fk_12_49 : jm_fok 12 (49, 12, 33, 3, true) := ⟨RX12, TX12, 44, .array (.int), rfl, by decide, rfl, rfl, rfl, by decide +kernel, ⟨fun _ => rfl, fun _ => rfl⟩, Or.inl (jm_wk (jm_t6 (i := 228) (by decide +kernel)) (by decide +kernel))⟩
theorem fk_12_52 : jm_fok 12 (52, 12, 36, 3, true) := ⟨RX12, TX12, 44, .array (.boolean), rfl, by decide, rfl, rfl, rfl, by decide +kernel, ⟨fun _ => rfl, fun _ => rfl⟩, Or.inl (jm_wk (jm_t6 (i := 231) (by decide +kernel)) (by decide +kernel))⟩
theorem fk_12_55 : jm_fok 12 (55, 12, 39, 3, true) := ⟨RX12, TX12, 44, .array (.int), rfl, by decide, rfl, rfl, rfl, by decide +kernel, ⟨fun _ => rfl, fun _ => rfl⟩, Or.inl (jm_wk (jm_t6 (i := 234) (by decide +kernel)) (by decide +kernel))⟩
theorem fk_12_58 : jm_fok 12 (58, 12, 40, 3, true) := ⟨RX12, TX12, 44, .array (.int), rfl, by decide, rfl, rfl, rfl, by decide +kernel, ⟨fun _ => rfl, fun _ => rfl⟩, Or.inl (jm_wk (jm_t6 (i := 235) (by decide +kernel)) (by decide +kernel))⟩
theorem fk_12_61 : jm_fok 12 (61, 12, 41, 3, true) := ⟨RX12, TX12, 44, .array (.int), rfl, by decide, rfl, rfl, rfl, by decide +kernel, ⟨fun _ => rfl, fun _ => rfl⟩, Or.inl (jm_wk (jm_t6 (i := 236) (by decide +kernel)) (by decide +kernel))⟩
theorem fk_12_64 : jm_fok 12 (64, 12, 42, 3, true) := ⟨RX12, TX12, 44, .array (.int), rfl, by decide, rfl, rfl, rfl, by decide +kernel, ⟨fun _ => rfl, fun _ => rfl⟩, Or.inl (jm_wk (jm_t6 (i := 237) (by decide +kernel)) (by decide +kernel))⟩
theorem fk_12_89 : jm_fok 12 (89, 12, 8, 0, false) := ⟨RX12, TX12, 44, .int, rfl, by decide, rfl, rfl, rfl, by decide +kernel, rfl, Or.inl (jm_wk (jm_t6 (i := 203) (by decide +kernel)) (by decide +kernel))⟩
theorem fk_12_95 : jm_fok 12 (95, 12, 9, 0, false) := ⟨RX12, TX12, 44, .int, rfl, by decide, rfl, rfl, rfl, by decide +kernel, rfl, Or.inl (jm_wk (jm_t6 (i := 204) (by decide +kernel)) (by decide +kernel))⟩
theorem fk_12_98 : jm_fok 12 (98, 12, 10, 0, false) := ⟨RX12, TX12, 44, .int, rfl, by decide, rfl, rfl, rfl, by decide +kernel, rfl, Or.inl (jm_wk (jm_t6 (i := 205) (by decide +kernel)) (by decide +kernel))⟩
theorem fk_12_131 : jm_fok 12 (131, 12, 11, 0, false) := ⟨RX12, TX12, 44, .int, rfl, by decide, rfl, rfl, rfl, by decide +kernel, rfl, Or.inl (jm_wk (jm_t6 (i := 206) (by decide +kernel)) (by decide +kernel))⟩
theorem fk_12_134 : jm_fok 12 (134, 12, 12, 0, false) := ⟨RX12, TX12, 44, .int, rfl, by decide, rfl, rfl, rfl, by decide +kernel, rfl, Or.inl (jm_wk (jm_t6 (i := 207) (by decide +kernel)) (by decide +kernel))⟩
theorem fk_12_180 : jm_fok 12 (180, 12, 16, 0, false) := ⟨RX12, TX12, 44, .int, rfl, by decide, rfl, rfl, rfl, by decide +kernel, rfl, Or.inl (jm_wk (jm_t6 (i := 211) (by decide +kernel)) (by decide +kernel))⟩
theorem fk_12_195 : jm_fok 12 (195, 12, 17, 0, false) := ⟨RX12, TX12, 44, .int, rfl, by decide, rfl, rfl, rfl, by decide +kernel, rfl, Or.inl (jm_wk (jm_t6 (i := 212) (by decide +kernel)) (by decide +kernel))⟩
theorem fk_12_206 : jm_fok 12 (206, 12, 18, 0, false) := ⟨RX12, TX12, 44, .int, rfl, by decide, rfl, rfl, rfl, by decide +kernel, rfl, Or.inl (jm_wk (jm_t6 (i := 213) (by decide +kernel)) (by decide +kernel))⟩
theorem fk_12_212 : jm_fok 12 (212, 12, 19, 0, false) := ⟨RX12, TX12, 44, .int, rfl, by decide, rfl, rfl, rfl, by decide +kernel, rfl, Or.inl (jm_wk (jm_t6 (i := 214) (by decide +kernel)) (by decide +kernel))⟩
theorem fk_12_215 : jm_fok 12 (215, 12, 20, 0, false) := ⟨RX12, TX12, 44, .int, rfl, by decide, rfl, rfl, rfl, by decide +kernel, rfl, Or.inl (jm_wk (jm_t6 (i := 215) (by decide +kernel)) (by decide +kernel))⟩
theorem fk_12_222 : jm_fok 12 (222, 12, 26, 2, false) := ⟨RX12, TX12, 44, .long, rfl, by decide, rfl, rfl, rfl, by decide +kernel, rfl, Or.inl (jm_wk (jm_t6 (i := 221) (by decide +kernel)) (by decide +kernel))⟩
theorem fk_12_233 : jm_fok 12 (233, 12, 21, 0, false) := ⟨RX12, TX12, 44, .int, rfl, by decide, rfl, rfl, rfl, by decide +kernel, rfl, Or.inl (jm_wk (jm_t6 (i := 216) (by decide +kernel)) (by decide +kernel))⟩
theorem fk_12_237 : jm_fok 12 (237, 12, 22, 0, false) := ⟨RX12, TX12, 44, .int, rfl, by decide, rfl, rfl, rfl, by decide +kernel, rfl, Or.inl (jm_wk (jm_t6 (i := 217) (by decide +kernel)) (by decide +kernel))⟩
theorem fk_12_240 : jm_fok 12 (240, 12, 23, 0, false) := ⟨RX12, TX12, 44, .int, rfl, by decide, rfl, rfl, rfl, by decide +kernel, rfl, Or.inl (jm_wk (jm_t6 (i := 218) (by decide +kernel)) (by decide +kernel))⟩
theorem fk_12_294 : jm_fok 12 (294, 12, 24, 0, false) := ⟨RX12, TX12, 44, .int, rfl, by decide, rfl, rfl, rfl, by decide +kernel, rfl, Or.inl (jm_wk (jm_t6 (i := 219) (by decide +kernel)) (by decide +kernel))⟩
theorem fk_12_313 : jm_fok 12 (313, 12, 7, 0, false) := ⟨RX12, TX12, 44, .int, rfl, by decide, rfl, rfl, rfl, by decide +kernel, rfl, Or.inl (jm_wk (jm_t6 (i := 202) (by decide +kernel)) (by decide +kernel))⟩
theorem fk_12_328 : jm_fok 12 (328, 12, 27, 1, false) := ⟨RX12, TX12, 44, .boolean, rfl, by decide, rfl, rfl, rfl, by decide +kernel, rfl, Or.inl (jm_wk (jm_t6 (i := 222) (by decide +kernel)) (by decide +kernel))⟩
theorem fk_12_332 : jm_fok 12 (332, 12, 28, 1, false) := ⟨RX12, TX12, 44, .boolean, rfl, by decide, rfl, rfl, rfl, by decide +kernel, rfl, Or.inl (jm_wk (jm_t6 (i := 223) (by decide +kernel)) (by decide +kernel))⟩
theorem fk_12_335 : jm_fok 12 (335, 12, 31, 0, false) := ⟨RX12, TX12, 44, .int, rfl, by decide, rfl, rfl, rfl, by decide +kernel, rfl, Or.inl (jm_wk (jm_t6 (i := 226) (by decide +kernel)) (by decide +kernel))⟩
theorem fk_12_357 : jm_fok 12 (357, 12, 30, 0, false) := ⟨RX12, TX12, 44, .int, rfl, by decide, rfl, rfl, rfl, by decide +kernel, rfl, Or.inl (jm_wk (jm_t6 (i := 225) (by decide +kernel)) (by decide +kernel))⟩
theorem fk_12_376 : jm_fok 12 (376, 12, 29, 0, false) := ⟨RX12, TX12, 44, .int, rfl, by decide, rfl, rfl, rfl, by decide +kernel, rfl, Or.inl (jm_wk (jm_t6 (i := 224) (by decide +kernel)) (by decide +kernel))⟩
theorem fk_12_479 : jm_fok 12 (479, 12, 34, 0, false) := ⟨RX12, TX12, 44, .int, rfl, by decide, rfl, rfl, rfl, by decide +kernel, rfl, Or.inl (jm_wk (jm_t6 (i := 229) (by decide +kernel)) (by decide +kernel))⟩
theorem fk_12_482 : jm_fok 12 (482, 12, 35, 0, false) := ⟨RX12, TX12, 44, .int, rfl, by decide, rfl, rfl, rfl, by decide +kernel, rfl, Or.inl (jm_wk (jm_t6 (i := 230) (by decide +kernel)) (by decide +kernel))⟩
theorem fk_12_491 : jm_fok 12 (491, 12, 37, 0, false) := ⟨RX12, TX12, 44, .int, rfl, by decide, rfl, rfl, rfl, by decide +kernel, rfl, Or.inl (jm_wk (jm_t6 (i := 232) (by decide +kernel)) (by decide +kernel))⟩
theorem fk_12_494 : jm_fok 12 (494, 12, 38, 1, false) := ⟨RX12, TX12, 44, .boolean, rfl, by decide, rfl, rfl, rfl, by decide +kernel, rfl, Or.inl (jm_wk (jm_t6 (i := 233) (by decide +kernel)) (by decide +kernel))⟩
theorem fk_12_523 : jm_fok 12 (523, 12, 43, 0, false) := ⟨RX12, TX12, 44, .int, rfl, by decide, rfl, rfl, rfl, by decide +kernel, rfl, Or.inl (jm_wk (jm_t6 (i := 238) (by decide +kernel)) (by decide +kernel))⟩
theorem jm_fkl_c0 : jm_al (jm_fok 0) (jm_fldT.getD 0 []) := And.intro fk_0_15 (And.intro fk_0_21 (trivial))
theorem jm_fkl_c1 : jm_al (jm_fok 1) (jm_fldT.getD 1 []) := And.intro fk_1_9 (And.intro fk_1_15 (And.intro fk_1_19 (trivial)))
theorem jm_fkl_c2 : jm_al (jm_fok 2) (jm_fldT.getD 2 []) := And.intro fk_2_9 (And.intro fk_2_15 (And.intro fk_2_19 (And.intro fk_2_22 (And.intro fk_2_34 (And.intro fk_2_38 (And.intro fk_2_41 (trivial)))))))
theorem jm_fkl_c3 : jm_al (jm_fok 3) (jm_fldT.getD 3 []) := And.intro fk_3_11 (And.intro fk_3_18 (And.intro fk_3_32 (trivial)))
theorem jm_fkl_c4 : jm_al (jm_fok 4) (jm_fldT.getD 4 []) := And.intro fk_4_11 (And.intro fk_4_20 (And.intro fk_4_24 (And.intro fk_4_29 (And.intro fk_4_33 (And.intro fk_4_36 (And.intro fk_4_94 (And.intro fk_4_98 (And.intro fk_4_107 (And.intro fk_4_110 (And.intro fk_4_113 (And.intro fk_4_116 (And.intro fk_4_119 (And.intro fk_4_122 (And.intro fk_4_126 (trivial)))))))))))))))
theorem jm_fkl_c5 : jm_al (jm_fok 5) (jm_fldT.getD 5 []) := And.intro fk_5_12 (And.intro fk_5_18 (And.intro fk_5_22 (And.intro fk_5_25 (And.intro fk_5_28 (And.intro fk_5_31 (And.intro fk_5_34 (And.intro fk_5_37 (And.intro fk_5_40 (And.intro fk_5_43 (And.intro fk_5_48 (And.intro fk_5_51 (And.intro fk_5_62 (trivial)))))))))))))
theorem jm_fkl_c6 : jm_al (jm_fok 6) (jm_fldT.getD 6 []) := And.intro fk_6_9 (And.intro fk_6_15 (And.intro fk_6_18 (And.intro fk_6_21 (trivial))))
theorem jm_fkl_c7 : jm_al (jm_fok 7) (jm_fldT.getD 7 []) := And.intro fk_7_9 (And.intro fk_7_15 (And.intro fk_7_19 (And.intro fk_7_22 (And.intro fk_7_28 (And.intro fk_7_41 (And.intro fk_7_44 (And.intro fk_7_47 (trivial))))))))
theorem jm_fkl_c8 : jm_al (jm_fok 8) (jm_fldT.getD 8 []) := And.intro fk_8_9 (And.intro fk_8_15 (And.intro fk_8_18 (And.intro fk_8_21 (And.intro fk_8_24 (And.intro fk_8_27 (And.intro fk_8_51 (And.intro fk_8_106 (And.intro fk_8_110 (And.intro fk_8_113 (And.intro fk_8_130 (trivial)))))))))))
theorem jm_fkl_c9 : jm_al (jm_fok 9) (jm_fldT.getD 9 []) := And.intro fk_9_9 (And.intro fk_9_15 (And.intro fk_9_18 (And.intro fk_9_21 (And.intro fk_9_24 (And.intro fk_9_72 (trivial))))))
theorem jm_fkl_c10 : jm_al (jm_fok 10) (jm_fldT.getD 10 []) := And.intro fk_10_9 (And.intro fk_10_15 (And.intro fk_10_31 (And.intro fk_10_42 (And.intro fk_10_67 (And.intro fk_10_70 (And.intro fk_10_73 (And.intro fk_10_78 (And.intro fk_10_81 (And.intro fk_10_88 (And.intro fk_10_91 (And.intro fk_10_94 (trivial))))))))))))
theorem jm_fkl_c11 : jm_al (jm_fok 11) (jm_fldT.getD 11 []) := And.intro fk_11_14 (And.intro fk_11_18 (And.intro fk_11_26 (And.intro fk_11_35 (And.intro fk_11_42 (And.intro fk_11_49 (And.intro fk_11_53 (And.intro fk_11_59 (And.intro fk_11_63 (And.intro fk_11_67 (And.intro fk_11_71 (And.intro fk_11_78 (And.intro fk_11_85 (And.intro fk_11_122 (And.intro fk_11_132 (And.intro fk_11_143 (And.intro fk_11_146 (And.intro fk_11_153 (And.intro fk_11_156 (And.intro fk_11_233 (And.intro fk_11_236 (And.intro fk_11_239 (And.intro fk_11_243 (And.intro fk_11_248 (And.intro fk_11_259 (And.intro fk_11_311 (And.intro fk_11_339 (And.intro fk_11_342 (And.intro fk_11_373 (And.intro fk_11_379 (And.intro fk_11_388 (And.intro fk_11_391 (And.intro fk_11_393 (And.intro fk_11_397 (And.intro fk_11_400 (And.intro fk_11_404 (And.intro fk_11_407 (trivial)))))))))))))))))))))))))))))))))))))
theorem jm_fkl_c12 : jm_al (jm_fok 12) (jm_fldT.getD 12 []) := And.intro fk_12_7 (And.intro fk_12_13 (And.intro fk_12_16 (And.intro fk_12_19 (And.intro fk_12_22 (And.intro fk_12_25 (And.intro fk_12_29 (And.intro fk_12_33 (And.intro fk_12_36 (And.intro fk_12_39 (And.intro fk_12_42 (And.intro fk_12_46 (And.intro fk_12_49 (And.intro fk_12_52 (And.intro fk_12_55 (And.intro fk_12_58 (And.intro fk_12_61 (And.intro fk_12_64 (And.intro fk_12_89 (And.intro fk_12_95 (And.intro fk_12_98 (And.intro fk_12_131 (And.intro fk_12_134 (And.intro fk_12_180 (And.intro fk_12_195 (And.intro fk_12_206 (And.intro fk_12_212 (And.intro fk_12_215 (And.intro fk_12_222 (And.intro fk_12_233 (And.intro fk_12_237 (And.intro fk_12_240 (And.intro fk_12_294 (And.intro fk_12_313 (And.intro fk_12_328 (And.intro fk_12_332 (And.intro fk_12_335 (And.intro fk_12_357 (And.intro fk_12_376 (And.intro fk_12_479 (And.intro fk_12_482 (And.intro fk_12_491 (And.intro fk_12_494 (And.intro fk_12_523 (trivial))))))))))))))))))))))))))))))))))))))))))))
theorem jm_fkl_c13 : jm_al (jm_fok 13) (jm_fldT.getD 13 []) := trivial
theorem jm_fkl : ∀ c, ∀ e ∈ jm_fldT.getD c [], jm_fok c e := fun c => match c with
  | 0 => jm_al_mem jm_fkl_c0
  | 1 => jm_al_mem jm_fkl_c1
  | 2 => jm_al_mem jm_fkl_c2
  | 3 => jm_al_mem jm_fkl_c3
  | 4 => jm_al_mem jm_fkl_c4
  | 5 => jm_al_mem jm_fkl_c5
  | 6 => jm_al_mem jm_fkl_c6
  | 7 => jm_al_mem jm_fkl_c7
  | 8 => jm_al_mem jm_fkl_c8
  | 9 => jm_al_mem jm_fkl_c9
  | 10 => jm_al_mem jm_fkl_c10
  | 11 => jm_al_mem jm_fkl_c11
  | 12 => jm_al_mem jm_fkl_c12
  | 13 => jm_al_mem jm_fkl_c13
  | _ + 14 => fun e h => by cases h
theorem jm_fldOk {c x : Nat} {v : Nat × Nat × Nat × Bool} (h : jm_fld c x = some v) : jm_fok c (x, v) := jm_fkl c _ (jm_as_mem h)
def jm_cok (ci : Nat) (q : vw_C) : Prop := jm_cn ci = q.1 ∧ (∀ w ∈ u_ws q.1 q.2.1 q.2.2, w ∈ jm_WW) ∧ (∃ ty0 : Nat → FieldType, ∀ k, k < q.2.2 → parseFieldDescriptor (q.2.1 k).2.2.1 = some (ty0 k)) ∧ (∀ a, a < q.2.2 → ∀ b, b < q.2.2 → a ≠ b → (q.2.1 a).2.1 ≠ (q.2.1 b).2.1) ∧ Cond.instantiable q.1 q.2.2 ∈ jm_WW ∧ Cond.initialized q.1 ∈ jm_WW
set_option maxRecDepth 100000 in
theorem jm_uws_0 : ∀ w ∈ u_ws RX0 TX0 2, w ∈ lw_tbl := by decide +kernel
theorem jm_cok_0 : jm_cok 0 (RX0, TX0, 2) := ⟨rfl, fun w h => List.mem_filter.mpr ⟨jm_uws_0 w h, List.all_eq_true.mp (by decide +kernel : (u_ws RX0 TX0 2).all goodWord = true) w h⟩, ⟨tyX0, tyX0_ok⟩, nmX0, (jm_wk (jm_t1 (i := 36) (by decide +kernel)) (by decide +kernel)), (jm_wk (jm_t1 (i := 2) (by decide +kernel)) (by decide +kernel))⟩
set_option maxRecDepth 100000 in
theorem jm_uws_1 : ∀ w ∈ u_ws RX1 TX1 3, w ∈ lw_tbl := by decide +kernel
theorem jm_cok_1 : jm_cok 1 (RX1, TX1, 3) := ⟨rfl, fun w h => List.mem_filter.mpr ⟨jm_uws_1 w h, List.all_eq_true.mp (by decide +kernel : (u_ws RX1 TX1 3).all goodWord = true) w h⟩, ⟨tyX1, tyX1_ok⟩, nmX1, (jm_wk (jm_t2 (i := 5) (by decide +kernel)) (by decide +kernel)), (jm_wk (jm_t1 (i := 12) (by decide +kernel)) (by decide +kernel))⟩
set_option maxRecDepth 100000 in
theorem jm_uws_2 : ∀ w ∈ u_ws RX2 TX2 7, w ∈ lw_tbl := by decide +kernel
theorem jm_cok_2 : jm_cok 2 (RX2, TX2, 7) := ⟨rfl, fun w h => List.mem_filter.mpr ⟨jm_uws_2 w h, List.all_eq_true.mp (by decide +kernel : (u_ws RX2 TX2 7).all goodWord = true) w h⟩, ⟨tyX2, tyX2_ok⟩, nmX2, (jm_wk (jm_t2 (i := 70) (by decide +kernel)) (by decide +kernel)), (jm_wk (jm_t1 (i := 13) (by decide +kernel)) (by decide +kernel))⟩
set_option maxRecDepth 100000 in
theorem jm_uws_3 : ∀ w ∈ u_ws RX3 TX3 3, w ∈ lw_tbl := by decide +kernel
theorem jm_cok_3 : jm_cok 3 (RX3, TX3, 3) := ⟨rfl, fun w h => List.mem_filter.mpr ⟨jm_uws_3 w h, List.all_eq_true.mp (by decide +kernel : (u_ws RX3 TX3 3).all goodWord = true) w h⟩, ⟨tyX3, tyX3_ok⟩, nmX3, (jm_wk (jm_t1 (i := 219) (by decide +kernel)) (by decide +kernel)), (jm_wk (jm_t1 (i := 10) (by decide +kernel)) (by decide +kernel))⟩
set_option maxRecDepth 100000 in
theorem jm_uws_4 : ∀ w ∈ u_ws RX4 TX4 6, w ∈ lw_tbl := by decide +kernel
theorem jm_cok_4 : jm_cok 4 (RX4, TX4, 6) := ⟨rfl, fun w h => List.mem_filter.mpr ⟨jm_uws_4 w h, List.all_eq_true.mp (by decide +kernel : (u_ws RX4 TX4 6).all goodWord = true) w h⟩, ⟨tyX4, tyX4_ok⟩, nmX4, (jm_wk (jm_t1 (i := 136) (by decide +kernel)) (by decide +kernel)), (jm_wk (jm_t1 (i := 7) (by decide +kernel)) (by decide +kernel))⟩
set_option maxRecDepth 100000 in
theorem jm_uws_5 : ∀ w ∈ u_ws RX5 TX5 10, w ∈ lw_tbl := by decide +kernel
theorem jm_cok_5 : jm_cok 5 (RX5, TX5, 10) := ⟨rfl, fun w h => List.mem_filter.mpr ⟨jm_uws_5 w h, List.all_eq_true.mp (by decide +kernel : (u_ws RX5 TX5 10).all goodWord = true) w h⟩, ⟨tyX5, tyX5_ok⟩, nmX5, (jm_wk (jm_t1 (i := 239) (by decide +kernel)) (by decide +kernel)), (jm_wk (jm_t1 (i := 11) (by decide +kernel)) (by decide +kernel))⟩
set_option maxRecDepth 100000 in
theorem jm_uws_6 : ∀ w ∈ u_ws RX6 TX6 4, w ∈ lw_tbl := by decide +kernel
theorem jm_cok_6 : jm_cok 6 (RX6, TX6, 4) := ⟨rfl, fun w h => List.mem_filter.mpr ⟨jm_uws_6 w h, List.all_eq_true.mp (by decide +kernel : (u_ws RX6 TX6 4).all goodWord = true) w h⟩, ⟨tyX6, tyX6_ok⟩, nmX6, (jm_wk (jm_t1 (i := 144) (by decide +kernel)) (by decide +kernel)), (jm_wk (jm_t1 (i := 8) (by decide +kernel)) (by decide +kernel))⟩
set_option maxRecDepth 100000 in
theorem jm_uws_7 : ∀ w ∈ u_ws RX7 TX7 7, w ∈ lw_tbl := by decide +kernel
theorem jm_cok_7 : jm_cok 7 (RX7, TX7, 7) := ⟨rfl, fun w h => List.mem_filter.mpr ⟨jm_uws_7 w h, List.all_eq_true.mp (by decide +kernel : (u_ws RX7 TX7 7).all goodWord = true) w h⟩, ⟨tyX7, tyX7_ok⟩, nmX7, (jm_wk (jm_t1 (i := 56) (by decide +kernel)) (by decide +kernel)), (jm_wk (jm_t1 (i := 4) (by decide +kernel)) (by decide +kernel))⟩
set_option maxRecDepth 100000 in
theorem jm_uws_8 : ∀ w ∈ u_ws RX8 TX8 6, w ∈ lw_tbl := by decide +kernel
theorem jm_cok_8 : jm_cok 8 (RX8, TX8, 6) := ⟨rfl, fun w h => List.mem_filter.mpr ⟨jm_uws_8 w h, List.all_eq_true.mp (by decide +kernel : (u_ws RX8 TX8 6).all goodWord = true) w h⟩, ⟨tyX8, tyX8_ok⟩, nmX8, (jm_wk (jm_t1 (i := 110) (by decide +kernel)) (by decide +kernel)), (jm_wk (jm_t1 (i := 6) (by decide +kernel)) (by decide +kernel))⟩
set_option maxRecDepth 100000 in
theorem jm_uws_9 : ∀ w ∈ u_ws RX9 TX9 5, w ∈ lw_tbl := by decide +kernel
theorem jm_cok_9 : jm_cok 9 (RX9, TX9, 5) := ⟨rfl, fun w h => List.mem_filter.mpr ⟨jm_uws_9 w h, List.all_eq_true.mp (by decide +kernel : (u_ws RX9 TX9 5).all goodWord = true) w h⟩, ⟨tyX9, tyX9_ok⟩, nmX9, (jm_wk (jm_t1 (i := 163) (by decide +kernel)) (by decide +kernel)), (jm_wk (jm_t1 (i := 9) (by decide +kernel)) (by decide +kernel))⟩
set_option maxRecDepth 100000 in
theorem jm_uws_10 : ∀ w ∈ u_ws RX10 TX10 2, w ∈ lw_tbl := by decide +kernel
theorem jm_cok_10 : jm_cok 10 (RX10, TX10, 2) := ⟨rfl, fun w h => List.mem_filter.mpr ⟨jm_uws_10 w h, List.all_eq_true.mp (by decide +kernel : (u_ws RX10 TX10 2).all goodWord = true) w h⟩, ⟨tyX10, tyX10_ok⟩, nmX10, (jm_wk (jm_t1 (i := 96) (by decide +kernel)) (by decide +kernel)), (jm_wk (jm_t1 (i := 5) (by decide +kernel)) (by decide +kernel))⟩
set_option maxRecDepth 100000 in
theorem jm_uws_11 : ∀ w ∈ u_ws RX11 TX11 14, w ∈ lw_tbl := by decide +kernel
theorem jm_cok_11 : jm_cok 11 (RX11, TX11, 14) := ⟨rfl, fun w h => List.mem_filter.mpr ⟨jm_uws_11 w h, List.all_eq_true.mp (by decide +kernel : (u_ws RX11 TX11 14).all goodWord = true) w h⟩, ⟨tyX11, tyX11_ok⟩, nmX11, (jm_wk (jm_t1 (i := 28) (by decide +kernel)) (by decide +kernel)), (jm_wk (jm_t1 (i := 1) (by decide +kernel)) (by decide +kernel))⟩
set_option maxRecDepth 100000 in
theorem jm_uws_12 : ∀ w ∈ u_ws RX12 TX12 44, w ∈ lw_tbl := by decide +kernel
theorem jm_cok_12 : jm_cok 12 (RX12, TX12, 44) := ⟨rfl, fun w h => List.mem_filter.mpr ⟨jm_uws_12 w h, List.all_eq_true.mp (by decide +kernel : (u_ws RX12 TX12 44).all goodWord = true) w h⟩, ⟨tyX12, tyX12_ok⟩, nmX12, (jm_wk (jm_t6 (i := 158) (by decide +kernel)) (by decide +kernel)), (jm_wk (jm_t1 (i := 19) (by decide +kernel)) (by decide +kernel))⟩
theorem jm_clOk : ∀ {ci : Nat} {q : vw_C}, vwCl[ci]? = some q → jm_cok ci q := fun {ci q} h => match ci, h with
  | 0, h => Option.some.inj h ▸ jm_cok_0
  | 1, h => Option.some.inj h ▸ jm_cok_1
  | 2, h => Option.some.inj h ▸ jm_cok_2
  | 3, h => Option.some.inj h ▸ jm_cok_3
  | 4, h => Option.some.inj h ▸ jm_cok_4
  | 5, h => Option.some.inj h ▸ jm_cok_5
  | 6, h => Option.some.inj h ▸ jm_cok_6
  | 7, h => Option.some.inj h ▸ jm_cok_7
  | 8, h => Option.some.inj h ▸ jm_cok_8
  | 9, h => Option.some.inj h ▸ jm_cok_9
  | 10, h => Option.some.inj h ▸ jm_cok_10
  | 11, h => Option.some.inj h ▸ jm_cok_11
  | 12, h => Option.some.inj h ▸ jm_cok_12
  | _ + 13, h => by cases h
def jm_nok (c : Nat) (e : Nat × Nat × List Value) : Prop := ∃ (C : String) (T : u_T) (N : Nat) (ty : Nat → FieldType), vwCl[e.2.1]? = some (C, T, N) ∧ (∀ k, k < N → parseFieldDescriptor (T k).2.2.1 = some (ty k)) ∧ (∀ j, j < N → defaultValue (ty j) = vp_V e.2.2 j) ∧ e.2.2.length = N ∧ jm_wt 0 e.2.2 ∧ (∀ ρ : Nat → Nat, e.2.2.map (jm_cv ρ) = e.2.2) ∧ e.2.1 < 20 ∧ Cond.classLink (jm_cn c) e.1 C ∈ jm_WW
theorem nk_3_9 : jm_nok 3 (9, 4, [.int 0, .int 0, .int 0, .null, .null, .null]) := ⟨RX4, TX4, 6, tyX4, rfl, tyX4_ok, by decide +kernel, rfl, jm_al_mem (And.intro trivial (And.intro trivial (And.intro trivial (And.intro trivial (And.intro trivial (And.intro trivial trivial)))))), fun _ => rfl, by decide, (jm_wk (jm_t1 (i := 224) (by decide +kernel)) (by decide +kernel))⟩
theorem nk_4_9 : jm_nok 4 (9, 9, [.null, .int 0, .null, .null, .null]) := ⟨RX9, TX9, 5, tyX9, rfl, tyX9_ok, by decide +kernel, rfl, jm_al_mem (And.intro trivial (And.intro trivial (And.intro trivial (And.intro trivial (And.intro trivial trivial))))), fun _ => rfl, by decide, (jm_wk (jm_t1 (i := 141) (by decide +kernel)) (by decide +kernel))⟩
theorem nk_4_17 : jm_nok 4 (17, 6, [.null, .null, .null, .int 0]) := ⟨RX6, TX6, 4, tyX6, rfl, tyX6_ok, by decide +kernel, rfl, jm_al_mem (And.intro trivial (And.intro trivial (And.intro trivial (And.intro trivial trivial)))), fun _ => rfl, by decide, (jm_wk (jm_t1 (i := 143) (by decide +kernel)) (by decide +kernel))⟩
theorem nk_5_9 : jm_nok 5 (9, 1, [.null, .int 0, .long 0]) := ⟨RX1, TX1, 3, tyX1, rfl, tyX1_ok, by decide +kernel, rfl, jm_al_mem (And.intro trivial (And.intro trivial (And.intro trivial trivial))), fun _ => rfl, by decide, (jm_wk (jm_t2 (i := 4) (by decide +kernel)) (by decide +kernel))⟩
theorem nk_11_7 : jm_nok 11 (7, 0, [.null, .int 0]) := ⟨RX0, TX0, 2, tyX0, rfl, tyX0_ok, by decide +kernel, rfl, jm_al_mem (And.intro trivial (And.intro trivial trivial)), fun _ => rfl, by decide, (jm_wk (jm_t1 (i := 35) (by decide +kernel)) (by decide +kernel))⟩
theorem nk_11_21 : jm_nok 11 (21, 7, [.null, .int 0, .int 0, .int 0, .int 0, .int 0, .int 0]) := ⟨RX7, TX7, 7, tyX7, rfl, tyX7_ok, by decide +kernel, rfl, jm_al_mem (And.intro trivial (And.intro trivial (And.intro trivial (And.intro trivial (And.intro trivial (And.intro trivial (And.intro trivial trivial))))))), fun _ => rfl, by decide, (jm_wk (jm_t1 (i := 55) (by decide +kernel)) (by decide +kernel))⟩
theorem nk_11_30 : jm_nok 11 (30, 10, [.null, .null]) := ⟨RX10, TX10, 2, tyX10, rfl, tyX10_ok, by decide +kernel, rfl, jm_al_mem (And.intro trivial (And.intro trivial trivial)), fun _ => rfl, by decide, (jm_wk (jm_t1 (i := 95) (by decide +kernel)) (by decide +kernel))⟩
theorem nk_11_39 : jm_nok 11 (39, 8, [.null, .null, .null, .null, .null, .int 0]) := ⟨RX8, TX8, 6, tyX8, rfl, tyX8_ok, by decide +kernel, rfl, jm_al_mem (And.intro trivial (And.intro trivial (And.intro trivial (And.intro trivial (And.intro trivial (And.intro trivial trivial)))))), fun _ => rfl, by decide, (jm_wk (jm_t1 (i := 109) (by decide +kernel)) (by decide +kernel))⟩
theorem nk_11_46 : jm_nok 11 (46, 4, [.int 0, .int 0, .int 0, .null, .null, .null]) := ⟨RX4, TX4, 6, tyX4, rfl, tyX4_ok, by decide +kernel, rfl, jm_al_mem (And.intro trivial (And.intro trivial (And.intro trivial (And.intro trivial (And.intro trivial (And.intro trivial trivial)))))), fun _ => rfl, by decide, (jm_wk (jm_t1 (i := 135) (by decide +kernel)) (by decide +kernel))⟩
theorem nk_11_56 : jm_nok 11 (56, 3, [.null, .int 0, .int 0]) := ⟨RX3, TX3, 3, tyX3, rfl, tyX3_ok, by decide +kernel, rfl, jm_al_mem (And.intro trivial (And.intro trivial (And.intro trivial trivial))), fun _ => rfl, by decide, (jm_wk (jm_t1 (i := 218) (by decide +kernel)) (by decide +kernel))⟩
theorem nk_11_75 : jm_nok 11 (75, 5, [.null, .int 0, .int 0, .int 0, .int 0, .int 0, .int 0, .int 0, .int 0, .int 0]) := ⟨RX5, TX5, 10, tyX5, rfl, tyX5_ok, by decide +kernel, rfl, jm_al_mem (And.intro trivial (And.intro trivial (And.intro trivial (And.intro trivial (And.intro trivial (And.intro trivial (And.intro trivial (And.intro trivial (And.intro trivial (And.intro trivial trivial)))))))))), fun _ => rfl, by decide, (jm_wk (jm_t1 (i := 238) (by decide +kernel)) (by decide +kernel))⟩
theorem nk_11_82 : jm_nok 11 (82, 2, [.int 0, .int 0, .int 0, .null, .null, .null, .null]) := ⟨RX2, TX2, 7, tyX2, rfl, tyX2_ok, by decide +kernel, rfl, jm_al_mem (And.intro trivial (And.intro trivial (And.intro trivial (And.intro trivial (And.intro trivial (And.intro trivial (And.intro trivial trivial))))))), fun _ => rfl, by decide, (jm_wk (jm_t2 (i := 69) (by decide +kernel)) (by decide +kernel))⟩
theorem nk_13_8 : jm_nok 13 (8, 11, [.null, .null, .null, .null, .null, .null, .null, .null, .null, .null, .null, .null, .null, .int 0]) := ⟨RX11, TX11, 14, tyX11, rfl, tyX11_ok, by decide +kernel, rfl, jm_al_mem (And.intro trivial (And.intro trivial (And.intro trivial (And.intro trivial (And.intro trivial (And.intro trivial (And.intro trivial (And.intro trivial (And.intro trivial (And.intro trivial (And.intro trivial (And.intro trivial (And.intro trivial (And.intro trivial trivial)))))))))))))), fun _ => rfl, by decide, (jm_wk (jm_t1 (i := 27) (by decide +kernel)) (by decide +kernel))⟩
theorem nk_13_121 : jm_nok 13 (121, 12, [.null, .null, .null, .null, .null, .null, .null, .int 0, .int 0, .int 0, .int 0, .int 0, .int 0, .null, .null, .null, .int 0, .int 0, .int 0, .int 0, .int 0, .int 0, .int 0, .int 0, .int 0, .int 0, .long 0, .int 0, .int 0, .int 0, .int 0, .int 0, .null, .null, .int 0, .int 0, .null, .int 0, .int 0, .null, .null, .null, .null, .int 0]) := ⟨RX12, TX12, 44, tyX12, rfl, tyX12_ok, by decide +kernel, rfl, jm_al_mem (And.intro trivial (And.intro trivial (And.intro trivial (And.intro trivial (And.intro trivial (And.intro trivial (And.intro trivial (And.intro trivial (And.intro trivial (And.intro trivial (And.intro trivial (And.intro trivial (And.intro trivial (And.intro trivial (And.intro trivial (And.intro trivial (And.intro trivial (And.intro trivial (And.intro trivial (And.intro trivial (And.intro trivial (And.intro trivial (And.intro trivial (And.intro trivial (And.intro trivial (And.intro trivial (And.intro trivial (And.intro trivial (And.intro trivial (And.intro trivial (And.intro trivial (And.intro trivial (And.intro trivial (And.intro trivial (And.intro trivial (And.intro trivial (And.intro trivial (And.intro trivial (And.intro trivial (And.intro trivial (And.intro trivial (And.intro trivial (And.intro trivial (And.intro trivial trivial)))))))))))))))))))))))))))))))))))))))))))), fun _ => rfl, by decide, (jm_wk (jm_t6 (i := 157) (by decide +kernel)) (by decide +kernel))⟩
theorem jm_nkl_c0 : jm_al (jm_nok 0) (jm_clsT.getD 0 []) := trivial
theorem jm_nkl_c1 : jm_al (jm_nok 1) (jm_clsT.getD 1 []) := trivial
theorem jm_nkl_c2 : jm_al (jm_nok 2) (jm_clsT.getD 2 []) := trivial
theorem jm_nkl_c3 : jm_al (jm_nok 3) (jm_clsT.getD 3 []) := And.intro nk_3_9 (trivial)
theorem jm_nkl_c4 : jm_al (jm_nok 4) (jm_clsT.getD 4 []) := And.intro nk_4_9 (And.intro nk_4_17 (trivial))
theorem jm_nkl_c5 : jm_al (jm_nok 5) (jm_clsT.getD 5 []) := And.intro nk_5_9 (trivial)
theorem jm_nkl_c6 : jm_al (jm_nok 6) (jm_clsT.getD 6 []) := trivial
theorem jm_nkl_c7 : jm_al (jm_nok 7) (jm_clsT.getD 7 []) := trivial
theorem jm_nkl_c8 : jm_al (jm_nok 8) (jm_clsT.getD 8 []) := trivial
theorem jm_nkl_c9 : jm_al (jm_nok 9) (jm_clsT.getD 9 []) := trivial
theorem jm_nkl_c10 : jm_al (jm_nok 10) (jm_clsT.getD 10 []) := trivial
theorem jm_nkl_c11 : jm_al (jm_nok 11) (jm_clsT.getD 11 []) := And.intro nk_11_7 (And.intro nk_11_21 (And.intro nk_11_30 (And.intro nk_11_39 (And.intro nk_11_46 (And.intro nk_11_56 (And.intro nk_11_75 (And.intro nk_11_82 (trivial))))))))
theorem jm_nkl_c12 : jm_al (jm_nok 12) (jm_clsT.getD 12 []) := trivial
theorem jm_nkl_c13 : jm_al (jm_nok 13) (jm_clsT.getD 13 []) := And.intro nk_13_8 (And.intro nk_13_121 (trivial))
theorem jm_nkl : ∀ c, ∀ e ∈ jm_clsT.getD c [], jm_nok c e := fun c => match c with
  | 0 => jm_al_mem jm_nkl_c0
  | 1 => jm_al_mem jm_nkl_c1
  | 2 => jm_al_mem jm_nkl_c2
  | 3 => jm_al_mem jm_nkl_c3
  | 4 => jm_al_mem jm_nkl_c4
  | 5 => jm_al_mem jm_nkl_c5
  | 6 => jm_al_mem jm_nkl_c6
  | 7 => jm_al_mem jm_nkl_c7
  | 8 => jm_al_mem jm_nkl_c8
  | 9 => jm_al_mem jm_nkl_c9
  | 10 => jm_al_mem jm_nkl_c10
  | 11 => jm_al_mem jm_nkl_c11
  | 12 => jm_al_mem jm_nkl_c12
  | 13 => jm_al_mem jm_nkl_c13
  | _ + 14 => fun e h => by cases h
theorem jm_clsOk {c x : Nat} {v : Nat × List Value} (h : jm_cls c x = some v) : jm_nok c (x, v) := jm_nkl c _ (jm_as_mem h)
def jm_aok (c : Nat) (e : Nat × Nat) : Prop := (e.2 = 4 ∧ Cond.classLink (jm_cn c) e.1 "PaperLand$Series" ∈ jm_WW) ∨ (e.2 = 5 ∧ Cond.classLink (jm_cn c) e.1 "PaperLand$Land" ∈ jm_WW)
theorem ak_3_9 : jm_aok 3 (9, 5) := Or.inr ⟨rfl, (jm_wk (jm_t1 (i := 224) (by decide +kernel)) (by decide +kernel))⟩
theorem ak_4_9 : jm_aok 4 (9, 4) := Or.inl ⟨rfl, (jm_wk (jm_t1 (i := 141) (by decide +kernel)) (by decide +kernel))⟩
theorem ak_11_46 : jm_aok 11 (46, 5) := Or.inr ⟨rfl, (jm_wk (jm_t1 (i := 135) (by decide +kernel)) (by decide +kernel))⟩
theorem jm_akl_c0 : jm_al (jm_aok 0) (jm_aclT.getD 0 []) := trivial
theorem jm_akl_c1 : jm_al (jm_aok 1) (jm_aclT.getD 1 []) := trivial
theorem jm_akl_c2 : jm_al (jm_aok 2) (jm_aclT.getD 2 []) := trivial
theorem jm_akl_c3 : jm_al (jm_aok 3) (jm_aclT.getD 3 []) := And.intro ak_3_9 (trivial)
theorem jm_akl_c4 : jm_al (jm_aok 4) (jm_aclT.getD 4 []) := And.intro ak_4_9 (trivial)
theorem jm_akl_c5 : jm_al (jm_aok 5) (jm_aclT.getD 5 []) := trivial
theorem jm_akl_c6 : jm_al (jm_aok 6) (jm_aclT.getD 6 []) := trivial
theorem jm_akl_c7 : jm_al (jm_aok 7) (jm_aclT.getD 7 []) := trivial
theorem jm_akl_c8 : jm_al (jm_aok 8) (jm_aclT.getD 8 []) := trivial
theorem jm_akl_c9 : jm_al (jm_aok 9) (jm_aclT.getD 9 []) := trivial
theorem jm_akl_c10 : jm_al (jm_aok 10) (jm_aclT.getD 10 []) := trivial
theorem jm_akl_c11 : jm_al (jm_aok 11) (jm_aclT.getD 11 []) := And.intro ak_11_46 (trivial)
theorem jm_akl_c12 : jm_al (jm_aok 12) (jm_aclT.getD 12 []) := trivial
theorem jm_akl_c13 : jm_al (jm_aok 13) (jm_aclT.getD 13 []) := trivial
theorem jm_akl : ∀ c, ∀ e ∈ jm_aclT.getD c [], jm_aok c e := fun c => match c with
  | 0 => jm_al_mem jm_akl_c0
  | 1 => jm_al_mem jm_akl_c1
  | 2 => jm_al_mem jm_akl_c2
  | 3 => jm_al_mem jm_akl_c3
  | 4 => jm_al_mem jm_akl_c4
  | 5 => jm_al_mem jm_akl_c5
  | 6 => jm_al_mem jm_akl_c6
  | 7 => jm_al_mem jm_akl_c7
  | 8 => jm_al_mem jm_akl_c8
  | 9 => jm_al_mem jm_akl_c9
  | 10 => jm_al_mem jm_akl_c10
  | 11 => jm_al_mem jm_akl_c11
  | 12 => jm_al_mem jm_akl_c12
  | 13 => jm_al_mem jm_akl_c13
  | _ + 14 => fun e h => by cases h
theorem jm_aclOk {c x t : Nat} (h : jm_acl c x = some t) : jm_aok c (x, t) := jm_akl c _ (jm_as_mem h)
def jm_sT : List (String × Nat × String) := [("PaperLand", 89, "land 3 50; series royal 100 141 size 0 10 size 2 3; series long 60 200 size 0 4"), ("PaperLand$SetupReader", 50, "land"), ("PaperLand$SetupReader", 76, "series"), ("PaperLand$SetupReader", 110, "size"), ("PaperLand$Script", 86, "buy"), ("PaperLand$Script", 92, "cut"), ("PaperLand$Script", 94, "order"), ("PaperLand$Script", 96, "edge"), ("PaperLand$Script", 98, "ream"), ("PaperLand$Script", 100, "again"), ("PaperLand", 114, "the text buffer is full"), ("PaperLand", 463, "a number is out of its range"), ("PaperLand", 253, "what is out of range"), ("PaperLand", 465, "no such series"), ("PaperLand", 467, "no such series or size"), ("PaperLand", 350, "no such cell"), ("PaperLand", 360, "no such page"), ("PaperLand", 469, "no such slot"), ("PaperLand", 461, "nothing was saved there")]
def jm_sO (i : Nat) : String × Nat × String := jm_sT.getD i ("", 0, "")
def jm_sL : List Nat := [79, 4, 6, 4, 3, 3, 5, 4, 4, 5, 23, 28, 20, 14, 22, 12, 12, 12, 23]
def jm_sB : List (List Int32) := [[108, 97, 110, 100, 32, 51, 32, 53, 48, 59, 32, 115, 101, 114, 105, 101, 115, 32, 114, 111, 121, 97, 108, 32, 49, 48, 48, 32, 49, 52, 49, 32, 115, 105, 122, 101, 32, 48, 32, 49, 48, 32, 115, 105, 122, 101, 32, 50, 32, 51, 59, 32, 115, 101, 114, 105, 101, 115, 32, 108, 111, 110, 103, 32, 54, 48, 32, 50, 48, 48, 32, 115, 105, 122, 101, 32, 48, 32, 52], [108, 97, 110, 100], [115, 101, 114, 105, 101, 115], [115, 105, 122, 101], [98, 117, 121], [99, 117, 116], [111, 114, 100, 101, 114], [101, 100, 103, 101], [114, 101, 97, 109], [97, 103, 97, 105, 110], [116, 104, 101, 32, 116, 101, 120, 116, 32, 98, 117, 102, 102, 101, 114, 32, 105, 115, 32, 102, 117, 108, 108], [97, 32, 110, 117, 109, 98, 101, 114, 32, 105, 115, 32, 111, 117, 116, 32, 111, 102, 32, 105, 116, 115, 32, 114, 97, 110, 103, 101], [119, 104, 97, 116, 32, 105, 115, 32, 111, 117, 116, 32, 111, 102, 32, 114, 97, 110, 103, 101], [110, 111, 32, 115, 117, 99, 104, 32, 115, 101, 114, 105, 101, 115], [110, 111, 32, 115, 117, 99, 104, 32, 115, 101, 114, 105, 101, 115, 32, 111, 114, 32, 115, 105, 122, 101], [110, 111, 32, 115, 117, 99, 104, 32, 99, 101, 108, 108], [110, 111, 32, 115, 117, 99, 104, 32, 112, 97, 103, 101], [110, 111, 32, 115, 117, 99, 104, 32, 115, 108, 111, 116], [110, 111, 116, 104, 105, 110, 103, 32, 119, 97, 115, 32, 115, 97, 118, 101, 100, 32, 116, 104, 101, 114, 101]]
def jm_srf (i : Nat) : Prop := Cond.stringRef (jm_sO i).1 (jm_sO i).2.1 (jm_sO i).2.2 ∈ lw_tbl
theorem jm_srf_0 : jm_srf 0 := (jm_t2 (i := 99) (by decide +kernel))
theorem jm_srf_1 : jm_srf 1 := (jm_t2 (i := 204) (by decide +kernel))
theorem jm_srf_2 : jm_srf 2 := (jm_t2 (i := 233) (by decide +kernel))
theorem jm_srf_3 : jm_srf 3 := (jm_t3 (i := 28) (by decide +kernel))
theorem jm_srf_4 : jm_srf 4 := (jm_t3 (i := 151) (by decide +kernel))
theorem jm_srf_5 : jm_srf 5 := (jm_t3 (i := 153) (by decide +kernel))
theorem jm_srf_6 : jm_srf 6 := (jm_t3 (i := 154) (by decide +kernel))
theorem jm_srf_7 : jm_srf 7 := (jm_t3 (i := 155) (by decide +kernel))
theorem jm_srf_8 : jm_srf 8 := (jm_t3 (i := 156) (by decide +kernel))
theorem jm_srf_9 : jm_srf 9 := (jm_t3 (i := 157) (by decide +kernel))
theorem jm_srf_10 : jm_srf 10 := (jm_t4 (i := 215) (by decide +kernel))
theorem jm_srf_11 : jm_srf 11 := (jm_t5 (i := 25) (by decide +kernel))
theorem jm_srf_12 : jm_srf 12 := (jm_t5 (i := 47) (by decide +kernel))
theorem jm_srf_13 : jm_srf 13 := (jm_t5 (i := 69) (by decide +kernel))
theorem jm_srf_14 : jm_srf 14 := (jm_t5 (i := 88) (by decide +kernel))
theorem jm_srf_15 : jm_srf 15 := (jm_t5 (i := 230) (by decide +kernel))
theorem jm_srf_16 : jm_srf 16 := (jm_t6 (i := 7) (by decide +kernel))
theorem jm_srf_17 : jm_srf 17 := (jm_t6 (i := 148) (by decide +kernel))
theorem jm_srf_18 : jm_srf 18 := (jm_t6 (i := 156) (by decide +kernel))
theorem jm_srfs : ∀ i, i < 19 → jm_srf i := fun i h => match i, h with
  | 0, _ => jm_srf_0
  | 1, _ => jm_srf_1
  | 2, _ => jm_srf_2
  | 3, _ => jm_srf_3
  | 4, _ => jm_srf_4
  | 5, _ => jm_srf_5
  | 6, _ => jm_srf_6
  | 7, _ => jm_srf_7
  | 8, _ => jm_srf_8
  | 9, _ => jm_srf_9
  | 10, _ => jm_srf_10
  | 11, _ => jm_srf_11
  | 12, _ => jm_srf_12
  | 13, _ => jm_srf_13
  | 14, _ => jm_srf_14
  | 15, _ => jm_srf_15
  | 16, _ => jm_srf_16
  | 17, _ => jm_srf_17
  | 18, _ => jm_srf_18
  | _ + 19, h => absurd h (by omega)
def jm_kok (c : Nat) (e : Nat × Value) : Prop := match e.2 with
  | .int v => Cond.constant (jm_cn c) e.1 v ∈ jm_WW
  | .long v => Cond.constantLong (jm_cn c) e.1 v ∈ jm_WW
  | .float v => Cond.constantFloat (jm_cn c) e.1 v ∈ jm_WW
  | .ref n => ∃ i, i < 10 ∧ n = jm_str + i ∧ (jm_sO i).1 = jm_cn c ∧ (jm_sO i).2.1 = e.1
  | _ => False
theorem kk_7_56 : jm_kok 7 (56, .int 1000000) := (jm_wk (jm_t2 (i := 188) (by decide +kernel)) (by decide +kernel))
theorem kk_12_71 : jm_kok 12 (71, .int 19391532) := (jm_wk (jm_t6 (i := 165) (by decide +kernel)) (by decide +kernel))
theorem kk_12_76 : jm_kok 12 (76, .int 409031) := (jm_wk (jm_t6 (i := 173) (by decide +kernel)) (by decide +kernel))
theorem kk_12_236 : jm_kok 12 (236, .int 999999) := (jm_wk (jm_t7 (i := 146) (by decide +kernel)) (by decide +kernel))
theorem kk_11_471 : jm_kok 11 (471, .long 2147483647) := (jm_wk (jm_t5 (i := 163) (by decide +kernel)) (by decide +kernel))
theorem kk_12_67 : jm_kok 12 (67, .long 3) := (jm_wk (jm_t6 (i := 163) (by decide +kernel)) (by decide +kernel))
theorem kk_12_69 : jm_kok 12 (69, .long 50) := (jm_wk (jm_t6 (i := 164) (by decide +kernel)) (by decide +kernel))
theorem kk_12_81 : jm_kok 12 (81, .long 10) := (jm_wk (jm_t6 (i := 177) (by decide +kernel)) (by decide +kernel))
theorem kk_12_83 : jm_kok 12 (83, .long 4) := (jm_wk (jm_t6 (i := 178) (by decide +kernel)) (by decide +kernel))
theorem kk_12_198 : jm_kok 12 (198, .long 97) := (jm_wk (jm_t7 (i := 137) (by decide +kernel)) (by decide +kernel))
theorem kk_12_200 : jm_kok 12 (200, .long 122) := (jm_wk (jm_t7 (i := 138) (by decide +kernel)) (by decide +kernel))
theorem kk_12_226 : jm_kok 12 (226, .long 32) := (jm_wk (jm_t7 (i := 139) (by decide +kernel)) (by decide +kernel))
theorem kk_12_228 : jm_kok 12 (228, .long 96) := (jm_wk (jm_t7 (i := 140) (by decide +kernel)) (by decide +kernel))
theorem kk_12_202 : jm_kok 12 (202, .long 48) := (jm_wk (jm_t7 (i := 144) (by decide +kernel)) (by decide +kernel))
theorem kk_12_204 : jm_kok 12 (204, .long 57) := (jm_wk (jm_t7 (i := 145) (by decide +kernel)) (by decide +kernel))
theorem kk_12_287 : jm_kok 12 (287, .long 394692) := (jm_wk (jm_t7 (i := 151) (by decide +kernel)) (by decide +kernel))
theorem kk_12_289 : jm_kok 12 (289, .long 643376307) := (jm_wk (jm_t7 (i := 172) (by decide +kernel)) (by decide +kernel))
theorem kk_12_268 : jm_kok 12 (268, .long 5) := (jm_wk (jm_t7 (i := 181) (by decide +kernel)) (by decide +kernel))
theorem kk_12_277 : jm_kok 12 (277, .long 632645) := (jm_wk (jm_t7 (i := 194) (by decide +kernel)) (by decide +kernel))
theorem kk_12_263 : jm_kok 12 (263, .long 9) := (jm_wk (jm_t7 (i := 199) (by decide +kernel)) (by decide +kernel))
theorem kk_12_316 : jm_kok 12 (316, .long 2745) := (jm_wk (jm_t7 (i := 232) (by decide +kernel)) (by decide +kernel))
theorem kk_12_318 : jm_kok 12 (318, .long 3764) := (jm_wk (jm_t7 (i := 233) (by decide +kernel)) (by decide +kernel))
theorem kk_12_320 : jm_kok 12 (320, .long 16322738) := (jm_wk (jm_t7 (i := 234) (by decide +kernel)) (by decide +kernel))
theorem kk_12_322 : jm_kok 12 (322, .long 168165) := (jm_wk (jm_t7 (i := 235) (by decide +kernel)) (by decide +kernel))
theorem kk_12_324 : jm_kok 12 (324, .long 594989) := (jm_wk (jm_t7 (i := 236) (by decide +kernel)) (by decide +kernel))
theorem kk_12_326 : jm_kok 12 (326, .long 1279278) := (jm_wk (jm_t7 (i := 237) (by decide +kernel)) (by decide +kernel))
theorem kk_12_122 : jm_kok 12 (122, .long 9999) := (jm_wk (jm_t8 (i := 18) (by decide +kernel)) (by decide +kernel))
theorem kk_12_116 : jm_kok 12 (116, .long 2) := (jm_wk (jm_t8 (i := 27) (by decide +kernel)) (by decide +kernel))
theorem kk_12_158 : jm_kok 12 (158, .long 30) := (jm_wk (jm_t8 (i := 93) (by decide +kernel)) (by decide +kernel))
theorem kk_12_402 : jm_kok 12 (402, .long 2000) := (jm_wk (jm_t8 (i := 122) (by decide +kernel)) (by decide +kernel))
theorem kk_12_414 : jm_kok 12 (414, .long 99) := (jm_wk (jm_t8 (i := 139) (by decide +kernel)) (by decide +kernel))
theorem kk_12_422 : jm_kok 12 (422, .long 999) := (jm_wk (jm_t8 (i := 160) (by decide +kernel)) (by decide +kernel))
theorem kk_12_427 : jm_kok 12 (427, .long 500) := (jm_wk (jm_t8 (i := 169) (by decide +kernel)) (by decide +kernel))
theorem kk_12_432 : jm_kok 12 (432, .long 6) := (jm_wk (jm_t8 (i := 190) (by decide +kernel)) (by decide +kernel))
theorem kk_12_446 : jm_kok 12 (446, .long (-1)) := (jm_wk (jm_t8 (i := 217) (by decide +kernel)) (by decide +kernel))
theorem kk_12_458 : jm_kok 12 (458, .long 7) := (jm_wk (jm_t9 (i := 10) (by decide +kernel)) (by decide +kernel))
theorem kk_12_460 : jm_kok 12 (460, .long 2147483647) := (jm_wk (jm_t9 (i := 11) (by decide +kernel)) (by decide +kernel))
theorem kk_12_462 : jm_kok 12 (462, .long (-7)) := (jm_wk (jm_t9 (i := 16) (by decide +kernel)) (by decide +kernel))
theorem kk_12_464 : jm_kok 12 (464, .long (-2)) := (jm_wk (jm_t9 (i := 17) (by decide +kernel)) (by decide +kernel))
theorem kk_11_331 : jm_kok 11 (331, .float 1258291200) := (jm_wk (jm_t4 (i := 133) (by decide +kernel)) (by decide +kernel))
theorem kk_11_89 : jm_kok 11 (89, .ref (1099511627776)) := ⟨0, by decide, rfl, rfl, rfl⟩
theorem kk_10_50 : jm_kok 10 (50, .ref (1099511627777)) := ⟨1, by decide, rfl, rfl, rfl⟩
theorem kk_10_76 : jm_kok 10 (76, .ref (1099511627778)) := ⟨2, by decide, rfl, rfl, rfl⟩
theorem kk_10_110 : jm_kok 10 (110, .ref (1099511627779)) := ⟨3, by decide, rfl, rfl, rfl⟩
theorem kk_8_86 : jm_kok 8 (86, .ref (1099511627780)) := ⟨4, by decide, rfl, rfl, rfl⟩
theorem kk_8_92 : jm_kok 8 (92, .ref (1099511627781)) := ⟨5, by decide, rfl, rfl, rfl⟩
theorem kk_8_94 : jm_kok 8 (94, .ref (1099511627782)) := ⟨6, by decide, rfl, rfl, rfl⟩
theorem kk_8_96 : jm_kok 8 (96, .ref (1099511627783)) := ⟨7, by decide, rfl, rfl, rfl⟩
theorem kk_8_98 : jm_kok 8 (98, .ref (1099511627784)) := ⟨8, by decide, rfl, rfl, rfl⟩
theorem kk_8_100 : jm_kok 8 (100, .ref (1099511627785)) := ⟨9, by decide, rfl, rfl, rfl⟩
theorem jm_kkl_c0 : jm_al (jm_kok 0) (jm_cstT.getD 0 []) := trivial
theorem jm_kkl_c1 : jm_al (jm_kok 1) (jm_cstT.getD 1 []) := trivial
theorem jm_kkl_c2 : jm_al (jm_kok 2) (jm_cstT.getD 2 []) := trivial
theorem jm_kkl_c3 : jm_al (jm_kok 3) (jm_cstT.getD 3 []) := trivial
theorem jm_kkl_c4 : jm_al (jm_kok 4) (jm_cstT.getD 4 []) := trivial
theorem jm_kkl_c5 : jm_al (jm_kok 5) (jm_cstT.getD 5 []) := trivial
theorem jm_kkl_c6 : jm_al (jm_kok 6) (jm_cstT.getD 6 []) := trivial
theorem jm_kkl_c7 : jm_al (jm_kok 7) (jm_cstT.getD 7 []) := And.intro kk_7_56 (trivial)
theorem jm_kkl_c8 : jm_al (jm_kok 8) (jm_cstT.getD 8 []) := And.intro kk_8_86 (And.intro kk_8_92 (And.intro kk_8_94 (And.intro kk_8_96 (And.intro kk_8_98 (And.intro kk_8_100 (trivial))))))
theorem jm_kkl_c9 : jm_al (jm_kok 9) (jm_cstT.getD 9 []) := trivial
theorem jm_kkl_c10 : jm_al (jm_kok 10) (jm_cstT.getD 10 []) := And.intro kk_10_50 (And.intro kk_10_76 (And.intro kk_10_110 (trivial)))
theorem jm_kkl_c11 : jm_al (jm_kok 11) (jm_cstT.getD 11 []) := And.intro kk_11_89 (And.intro kk_11_331 (And.intro kk_11_471 (trivial)))
theorem jm_kkl_c12 : jm_al (jm_kok 12) (jm_cstT.getD 12 []) := And.intro kk_12_67 (And.intro kk_12_69 (And.intro kk_12_71 (And.intro kk_12_76 (And.intro kk_12_81 (And.intro kk_12_83 (And.intro kk_12_116 (And.intro kk_12_122 (And.intro kk_12_158 (And.intro kk_12_198 (And.intro kk_12_200 (And.intro kk_12_202 (And.intro kk_12_204 (And.intro kk_12_226 (And.intro kk_12_228 (And.intro kk_12_236 (And.intro kk_12_263 (And.intro kk_12_268 (And.intro kk_12_277 (And.intro kk_12_287 (And.intro kk_12_289 (And.intro kk_12_316 (And.intro kk_12_318 (And.intro kk_12_320 (And.intro kk_12_322 (And.intro kk_12_324 (And.intro kk_12_326 (And.intro kk_12_402 (And.intro kk_12_414 (And.intro kk_12_422 (And.intro kk_12_427 (And.intro kk_12_432 (And.intro kk_12_446 (And.intro kk_12_458 (And.intro kk_12_460 (And.intro kk_12_462 (And.intro kk_12_464 (trivial)))))))))))))))))))))))))))))))))))))
theorem jm_kkl_c13 : jm_al (jm_kok 13) (jm_cstT.getD 13 []) := trivial
theorem jm_kkl : ∀ c, ∀ e ∈ jm_cstT.getD c [], jm_kok c e := fun c => match c with
  | 0 => jm_al_mem jm_kkl_c0
  | 1 => jm_al_mem jm_kkl_c1
  | 2 => jm_al_mem jm_kkl_c2
  | 3 => jm_al_mem jm_kkl_c3
  | 4 => jm_al_mem jm_kkl_c4
  | 5 => jm_al_mem jm_kkl_c5
  | 6 => jm_al_mem jm_kkl_c6
  | 7 => jm_al_mem jm_kkl_c7
  | 8 => jm_al_mem jm_kkl_c8
  | 9 => jm_al_mem jm_kkl_c9
  | 10 => jm_al_mem jm_kkl_c10
  | 11 => jm_al_mem jm_kkl_c11
  | 12 => jm_al_mem jm_kkl_c12
  | 13 => jm_al_mem jm_kkl_c13
  | _ + 14 => fun e h => by cases h
theorem jm_cstOk {c x : Nat} {v : Value} (h : jm_cst c x = some v) : jm_kok c (x, v) := jm_kkl c _ (jm_as_mem h)
def jm_sup : List String := ["java/lang/RuntimeException", "java/lang/Exception"]
set_option maxRecDepth 100000 in
theorem jm_at_IAE : ∀ w ∈ vx_atS "PaperLand" 255 "java/lang/IllegalArgumentException" jm_sup, w ∈ lw_tbl := by decide +kernel
set_option maxRecDepth 100000 in
theorem jm_ag_IAE : ∀ w ∈ vx_atS "PaperLand" 255 "java/lang/IllegalArgumentException" jm_sup, (goodWord w || (jm_isN w && w.onTables)) = true := by decide +kernel
set_option maxRecDepth 100000 in
theorem jm_at_ISE : ∀ w ∈ vx_atS "PaperLand" 116 "java/lang/IllegalStateException" jm_sup, w ∈ lw_tbl := by decide +kernel
set_option maxRecDepth 100000 in
theorem jm_ag_ISE : ∀ w ∈ vx_atS "PaperLand" 116 "java/lang/IllegalStateException" jm_sup, (goodWord w || (jm_isN w && w.onTables)) = true := by decide +kernel
set_option maxRecDepth 100000 in
theorem jm_at_IOB : ∀ w ∈ vx_atS "PaperLand" 352 "java/lang/IndexOutOfBoundsException" jm_sup, w ∈ lw_tbl := by decide +kernel
set_option maxRecDepth 100000 in
theorem jm_ag_IOB : ∀ w ∈ vx_atS "PaperLand" 352 "java/lang/IndexOutOfBoundsException" jm_sup, (goodWord w || (jm_isN w && w.onTables)) = true := by decide +kernel
theorem jm_wn {w : Cond} (h : w ∈ lw_tbl) (g : (goodWord w || (jm_isN w && w.onTables)) = true) : w ∈ jm_WW ∨ (w ∈ jm_NW ∧ w.onTables = true) := by
  simp only [Bool.or_eq_true, Bool.and_eq_true] at g
  exact g.elim (fun g => Or.inl (jm_wk h g)) (fun g => Or.inr ⟨jm_nk h g.1, g.2⟩)
