/-! The small machine's memory and the heap: names stand for addresses. -/
def jm_cv (ρ : Nat → Nat) (v : Value) : Value := match v with
  | .ref n => .ref (ρ n)
  | v => v
/-- names of things that were there before: the script, the constants, the small Integers, ArrayList's empty row, the rows of digits -/
def jm_sp (n : Nat) : Prop := n = jm_scr ∨ (jm_str ≤ n ∧ n < jm_str + 7) ∨ (jm_int ≤ n ∧ n < jm_int + 256) ∨ n = jm_dcp ∨ n = jm_dgt ∨ n = jm_dgo
def jm_wv (N : Nat) (v : Value) : Prop := match v with
  | .ref n => n < N ∨ jm_sp n
  | _ => True
def jm_wt (N : Nat) (st : List Value) : Prop := ∀ v ∈ st, jm_wv N v
def jm_ct (tys : List (ClassId × FieldType)) (t : Nat) : ClassId := (tys.getD t (0, .int)).1
def jm_cE (ρ : Nat → Nat) (tys : List (ClassId × FieldType)) (e : jm_Ent) : va_E := match e with
  | .inl (t, n, .inr (.inr (.inr (.inr f)))) => .inl (jm_ct tys t, n, .inr (.inr (.inr (.inr (fun k => (f k).map ρ)))))
  | .inl (t, a) => .inl (jm_ct tys t, a)
  | .inr (c, fs) => .inr (c, fs.map (jm_cv ρ))
def jm_wE (N : Nat) (e : jm_Ent) : Prop := match e with
  | .inl (t, _, .inr (.inr (.inr (.inr f)))) => t < 7 ∧ ∀ k n, f k = some n → n < N ∨ jm_sp n
  | .inl (t, _) => t < 6 ∨ t = 9
  | .inr (_, fs) => jm_wt N fs
def jm_ws (ρ : Nat → Nat) (tys : List (ClassId × FieldType)) (m : jm_Mem) : va_W := (List.range m.1).map (fun n => (ρ n, jm_cE ρ tys (m.2.1 n)))
/-- the script's address, length and ints; the addresses of the String constants -/
abbrev jm_Sp : Type := Nat × Nat × (Nat → Int32) × (Nat → Nat)
def jm_sE (k : Nat) : jm_Ent := .inl (7, (jm_strT.getD k []).length, .inl (fun i => (jm_strT.getD k []).getD i 0))
def jm_dcE : jm_Ent := .inl (12, 0, .inr (.inr (.inr (.inr (fun _ => none)))))
def jm_dgE (g : Nat → Nat) : jm_Ent := .inl (10, 100, .inl (fun i => Int32.ofNat (48 + g i)))
def jm_spE (S : jm_Sp) (n : Nat) (e : jm_Ent) : Prop := (n = jm_scr ∧ e = .inl (8, S.2.1, .inl S.2.2.1)) ∨ (∃ k, k < 7 ∧ n = jm_str + k ∧ e = jm_sE k) ∨ (n = jm_dcp ∧ e = jm_dcE) ∨ (n = jm_dgt ∧ e = jm_dgE (fun i => i / 10)) ∨ (n = jm_dgo ∧ e = jm_dgE (fun i => i % 10))
def jm_spR (S : jm_Sp) (ρ : Nat → Nat) : Prop := ρ jm_scr = S.1 ∧ (∀ k, k < 7 → ρ (jm_str + k) = S.2.2.2 k) ∧ (∀ k, k < 256 → ρ (jm_int + k) = S.2.2.2 (1000 + k)) ∧ ρ jm_dcp = S.2.2.2 2000 ∧ ρ jm_dgt = S.2.2.2 2001 ∧ ρ jm_dgo = S.2.2.2 2002
theorem jm_sp_le {n : Nat} (h : jm_sp n) : jm_str ≤ n := by
  unfold jm_sp jm_scr jm_str jm_int jm_dcp jm_dgt jm_dgo at h
  unfold jm_str
  omega
def jm_rep (D : va_G) (tys : List (ClassId × FieldType)) (A : Nat → Prop) (S : jm_Sp) (H0 : Heap) (c0 s0 : Nat) (ρ : Nat → Nat) (m : jm_Mem) (H : Heap) (locs : List Loc) (cells slots : Nat) : Prop :=
  va_P D vwCl (jm_ws ρ tys m) H ∧ va_D A (jm_ws ρ tys m) ∧ va_S A H0 H locs ∧ (∀ n, n < m.1 → jm_wE m.1 (m.2.1 n)) ∧ (∀ n, m.1 ≤ n → m.2.1 n = jm_bad ∨ jm_spE S n (m.2.1 n)) ∧ m.1 ≤ 1000000 ∧ jm_spR S ρ ∧ m.2.2.1 = c0 + cells ∧ m.2.2.2 = s0 + slots
def jm_ag (N : Nat) (ρ ρ' : Nat → Nat) : Prop := ∀ n, (n < N ∨ jm_str ≤ n) → ρ' n = ρ n
theorem jm_ag.rf {N : Nat} {ρ : Nat → Nat} : jm_ag N ρ ρ := fun _ _ => rfl
theorem jm_ag.tr {N N2 : Nat} {ρ ρ1 ρ2 : Nat → Nat} (h : jm_ag N ρ ρ1) (h2 : jm_ag N2 ρ1 ρ2) (hN : N ≤ N2) : jm_ag N ρ ρ2 := fun n hn => (h2 n (hn.imp (fun q => Nat.lt_of_lt_of_le q hN) id)).trans (h n hn)
theorem jm_scr_le : jm_str ≤ jm_scr := Nat.le_of_ble_eq_true rfl
theorem jm_cv_ag {N : Nat} {ρ ρ' : Nat → Nat} (h : jm_ag N ρ ρ') {v : Value} (hv : jm_wv N v) : jm_cv ρ' v = jm_cv ρ v := by
  cases v <;> try rfl
  rename_i n
  show Value.ref _ = Value.ref _
  rw [h n (hv.imp id jm_sp_le)]
theorem jm_cv_ags {N : Nat} {ρ ρ' : Nat → Nat} (h : jm_ag N ρ ρ') {st : List Value} (hv : jm_wt N st) : st.map (jm_cv ρ') = st.map (jm_cv ρ) :=
  List.map_congr_left fun v hm => jm_cv_ag h (hv v hm)
theorem jm_wv.up {N N2 : Nat} {v : Value} (h : jm_wv N v) (hN : N ≤ N2) : jm_wv N2 v := by
  cases v <;> try exact trivial
  exact h.imp (fun q => Nat.lt_of_lt_of_le q hN) id
theorem jm_wt.up {N N2 : Nat} {st : List Value} (h : jm_wt N st) (hN : N ≤ N2) : jm_wt N2 st := fun v hv => (h v hv).up hN
theorem jm_wt.tl {N : Nat} {v : Value} {st : List Value} (h : jm_wt N (v :: st)) : jm_wt N st := fun w hw => h w (List.mem_cons_of_mem _ hw)
theorem jm_wt.hd {N : Nat} {v : Value} {st : List Value} (h : jm_wt N (v :: st)) : jm_wv N v := h v List.mem_cons_self
theorem jm_wt.cons {N : Nat} {v : Value} {st : List Value} (h : jm_wt N st) (hv : jm_wv N v) : jm_wt N (v :: st) := fun w hw => (List.mem_cons.mp hw).elim (fun e => e ▸ hv) (h w)
theorem jm_wt.i {N : Nat} {x : Int32} {st : List Value} (h : jm_wt N st) : jm_wt N (.int x :: st) := h.cons trivial
theorem jm_wt.l {N : Nat} {x : Int64} {st : List Value} (h : jm_wt N st) : jm_wt N (.long x :: st) := h.cons trivial
theorem jm_wt.f {N : Nat} {x : UInt32} {st : List Value} (h : jm_wt N st) : jm_wt N (.float x :: st) := h.cons trivial
theorem jm_wt.d {N : Nat} {x : UInt64} {st : List Value} (h : jm_wt N st) : jm_wt N (.double x :: st) := h.cons trivial
theorem jm_wE.up {N N2 : Nat} {e : jm_Ent} (h : jm_wE N e) (hN : N ≤ N2) : jm_wE N2 e := by
  rcases e with ⟨t, n, f | f | f | f | f⟩ | ⟨c, fs⟩
  · exact h
  · exact h
  · exact h
  · exact h
  · exact ⟨h.1, fun k n q => (h.2 k n q).imp (fun z => Nat.lt_of_lt_of_le z hN) id⟩
  · exact jm_wt.up h hN
theorem jm_cE_ag {N : Nat} {ρ ρ' : Nat → Nat} {tys : List (ClassId × FieldType)} (h : jm_ag N ρ ρ') {e : jm_Ent} (he : jm_wE N e) : jm_cE ρ' tys e = jm_cE ρ tys e := by
  rcases e with ⟨t, n, f | f | f | f | f⟩ | ⟨c, fs⟩
  · rfl
  · rfl
  · rfl
  · rfl
  · have e1 : (fun k => (f k).map ρ') = (fun k => (f k).map ρ) := by
      funext k
      cases hk : f k with
      | none => rfl
      | some n => 
        show some (ρ' n) = some (ρ n)
        rw [h n ((he.2 k n hk).imp id jm_sp_le)]
    show Sum.inl (_, _, Sum.inr (Sum.inr (Sum.inr (Sum.inr (fun k => (f k).map ρ'))))) = _
    rw [e1]
    rfl
  · show Sum.inr (c, fs.map (jm_cv ρ')) = Sum.inr (c, fs.map (jm_cv ρ))
    rw [jm_cv_ags h he]
theorem jm_ws_get {ρ : Nat → Nat} {tys : List (ClassId × FieldType)} {m : jm_Mem} {n : Nat} (h : n < m.1) : (jm_ws ρ tys m)[n]? = some (ρ n, jm_cE ρ tys (m.2.1 n)) := by
  simp [jm_ws, h]
theorem jm_ws_len {ρ : Nat → Nat} {tys : List (ClassId × FieldType)} {m : jm_Mem} : (jm_ws ρ tys m).length = m.1 := by simp [jm_ws]
theorem jm_ws_up {ρ : Nat → Nat} {tys : List (ClassId × FieldType)} {m : jm_Mem} {r : Nat} {e : jm_Ent} : jm_ws ρ tys (jm_up m r e) = (jm_ws ρ tys m).set r (ρ r, jm_cE ρ tys e) := by
  apply List.ext_getElem?
  intro i
  rw [List.getElem?_set]
  by_cases hi : i < m.1
  · rw [jm_ws_get (m := jm_up m r e) hi, jm_ws_get hi]
    by_cases hr : r = i
    · subst hr
      rw [if_pos rfl, if_pos (by rw [jm_ws_len]; exact hi)]
      show some (ρ r, jm_cE ρ tys (va_up m.2.1 r e r)) = _
      rw [show va_up m.2.1 r e r = e from if_pos rfl]
    · rw [if_neg hr]
      show some (ρ i, jm_cE ρ tys (va_up m.2.1 r e i)) = _
      rw [show va_up m.2.1 r e i = m.2.1 i from if_neg (fun q => hr q.symm)]
  · have h1 : (jm_ws ρ tys (jm_up m r e))[i]? = none := by rw [List.getElem?_eq_none_iff, jm_ws_len]; exact Nat.not_lt.mp hi
    have h2 : (jm_ws ρ tys m)[i]? = none := by rw [List.getElem?_eq_none_iff, jm_ws_len]; exact Nat.not_lt.mp hi
    rw [h1, h2]
    by_cases hr : r = i
    · rw [if_pos hr, if_neg (by rw [jm_ws_len]; omega)]
    · rw [if_neg hr]
theorem jm_ws_new {ρ : Nat → Nat} {tys : List (ClassId × FieldType)} {m : jm_Mem} {q n : Nat} {e : jm_Ent} (hw : ∀ n, n < m.1 → jm_wE m.1 (m.2.1 n)) (hm : m.1 < jm_str) (he : jm_cE (va_up ρ m.1 q) tys e = jm_cE ρ tys e) : jm_ws (va_up ρ m.1 q) tys (jm_new m e n) = jm_ws ρ tys m ++ [(q, jm_cE ρ tys e)] := by
  have hag : jm_ag m.1 ρ (va_up ρ m.1 q) := fun n hn => if_neg (by omega)
  show (List.range (m.1 + 1)).map _ = _
  rw [List.range_succ, List.map_append]
  congr 1
  · apply List.map_congr_left
    intro n hn
    have hn : n < m.1 := List.mem_range.mp hn
    show (va_up ρ m.1 q n, jm_cE (va_up ρ m.1 q) tys (va_up m.2.1 m.1 e n)) = _
    rw [show va_up m.2.1 m.1 e n = m.2.1 n from if_neg (by omega), jm_cE_ag hag (hw n hn), hag n (Or.inl hn)]
  · show [(va_up ρ m.1 q m.1, jm_cE (va_up ρ m.1 q) tys (va_up m.2.1 m.1 e m.1))] = _
    rw [show va_up m.2.1 m.1 e m.1 = e from if_pos rfl, show va_up ρ m.1 q m.1 = q from if_pos rfl, he]
/-! locals -/
def jm_LV (nL : Nat) (ρ : Nat → Nat) (N : Nat) (l : jm_Loc) (ls : Array Slot) : Prop := l.length = nL ∧ ls.size = nL ∧ lv_wf ls ∧ ∀ (i : Nat) (v : Value), l[i]? = some (some v) → ls[i]? = some (Slot.val (jm_cv ρ v)) ∧ jm_wv N v
def jm_prs (ρ : Nat → Nat) (l : jm_Loc) : List (Nat × Value) := (List.range l.length).filterMap (fun i => match l[i]? with
  | some (some v) => some (i, jm_cv ρ v)
  | _ => none)
theorem jm_prs_mem {ρ : Nat → Nat} {l : jm_Loc} {q : Nat × Value} : q ∈ jm_prs ρ l ↔ ∃ v, l[q.1]? = some (some v) ∧ q.2 = jm_cv ρ v := by
  unfold jm_prs
  rw [List.mem_filterMap]
  constructor
  · rintro ⟨i, hi, h⟩
    split at h
    · rename_i v hv
      cases h
      exact ⟨v, hv, rfl⟩
    · cases h
  · rintro ⟨v, hv, hq⟩
    refine ⟨q.1, List.mem_range.mpr ((List.getElem?_eq_some_iff.mp hv).1), ?_⟩
    rw [hv]
    show some (q.1, jm_cv ρ v) = some q
    rw [← hq]
theorem jm_LV.has {nL : Nat} {ρ : Nat → Nat} {N : Nat} {l : jm_Loc} {ls : Array Slot} (h : jm_LV nL ρ N l ls) : lv_has ls nL (jm_prs ρ l) := by
  obtain ⟨-, h2, h3, h4⟩ := h
  refine ⟨h2, h3, fun q hq => ?_⟩
  obtain ⟨v, hv, e⟩ := jm_prs_mem.mp hq
  rw [e]
  exact (h4 _ _ hv).1
theorem jm_LV.ag {nL : Nat} {ρ ρ' : Nat → Nat} {N N2 : Nat} {l : jm_Loc} {ls : Array Slot} (h : jm_LV nL ρ N l ls) (ha : jm_ag N ρ ρ') (hN : N ≤ N2) : jm_LV nL ρ' N2 l ls := by
  obtain ⟨h1, h2, h3, h4⟩ := h
  refine ⟨h1, h2, h3, fun i v hv => ?_⟩
  obtain ⟨a, b⟩ := h4 i v hv
  exact ⟨by rw [jm_cv_ag ha b]; exact a, b.up hN⟩
theorem jm_cat (ρ : Nat → Nat) (v : Value) : (jm_cv ρ v).category = v.category := by cases v <;> rfl
theorem jm_clr_len (l : jm_Loc) (i : Nat) : (jm_clr l i).length = l.length := by
  unfold jm_clr
  split
  · rfl
  · split
    · split
      · simp
      · rfl
    · rfl
theorem jm_clr_get {l : jm_Loc} {i j : Nat} {v : Value} (h : (jm_clr l i)[j]? = some (some v)) : l[j]? = some (some v) ∧ ¬ (j + 1 = i ∧ v.category = 2) := by
  cases i with
  | zero => exact ⟨h, fun q => by omega⟩
  | succ i =>
    simp only [jm_clr] at h
    split at h
    · rename_i w hw
      split at h
      · rename_i hc
        rw [List.getElem?_set] at h
        by_cases hij : i = j
        · rw [if_pos hij] at h
          split at h <;> cases h
        · rw [if_neg hij] at h
          exact ⟨h, fun q => hij (by omega)⟩
      · rename_i hc
        refine ⟨h, fun q => ?_⟩
        have : j = i := by omega
        subst this
        cases hw.symm.trans h
        exact hc q.2
    · rename_i hx
      refine ⟨h, fun q => ?_⟩
      have : j = i := by omega
      subst this
      exact hx v h
theorem jm_LV.st1 {nL : Nat} {ρ : Nat → Nat} {N : Nat} {l : jm_Loc} {ls ls' : Array Slot} {i : Nat} {v : Value} (h : jm_LV nL ρ N l ls) (hv : jm_wv N v)
    (h' : lv_has ls' nL ((i, jm_cv ρ v) :: (jm_prs ρ l).filter (fun q => !(q.1 == i) && !(q.1 + 1 == i && q.2.category == 2)))) : jm_LV nL ρ N (jm_st1 l i (some v)) ls' := by
  obtain ⟨h1, h2, h3, h4⟩ := h
  obtain ⟨g1, g2, g3⟩ := h'
  refine ⟨by unfold jm_st1; rw [List.length_set, jm_clr_len]; exact h1, g1, g2, fun j w hw => ?_⟩
  unfold jm_st1 at hw
  rw [List.getElem?_set] at hw
  by_cases hij : i = j
  · rw [if_pos hij] at hw
    split at hw
    · cases hw
      subst hij
      exact ⟨g3 _ List.mem_cons_self, hv⟩
    · cases hw
  · rw [if_neg hij] at hw
    obtain ⟨a, b⟩ := jm_clr_get hw
    refine ⟨g3 (j, jm_cv ρ w) (List.mem_cons_of_mem _ (List.mem_filter.mpr ⟨jm_prs_mem.mpr ⟨w, a, rfl⟩, ?_⟩)), (h4 _ _ a).2⟩
    rw [jm_cat]
    have e1 : (j == i) = false := by simp [Ne.symm hij]
    by_cases hj : j + 1 = i
    · have e2 : (w.category == 2) = false := by simpa using fun q => b ⟨hj, q⟩
      simp [e1, e2]
    · simp [e1, hj]
theorem jm_LV.stn {nL : Nat} {ρ : Nat → Nat} {N : Nat} {l : jm_Loc} {ls ls' : Array Slot} {i : Nat} {v : Value} (h : jm_LV nL ρ N l ls)
    (h' : lv_has ls' nL ((i, v) :: (jm_prs ρ l).filter (fun q => !(q.1 == i) && !(q.1 + 1 == i && q.2.category == 2)))) : jm_LV nL ρ N (jm_st1 l i none) ls' := by
  obtain ⟨h1, h2, h3, h4⟩ := h
  obtain ⟨g1, g2, g3⟩ := h'
  refine ⟨by unfold jm_st1; rw [List.length_set, jm_clr_len]; exact h1, g1, g2, fun j w hw => ?_⟩
  unfold jm_st1 at hw
  rw [List.getElem?_set] at hw
  by_cases hij : i = j
  · rw [if_pos hij] at hw
    split at hw <;> cases hw
  · rw [if_neg hij] at hw
    obtain ⟨a, b⟩ := jm_clr_get hw
    refine ⟨g3 (j, jm_cv ρ w) (List.mem_cons_of_mem _ (List.mem_filter.mpr ⟨jm_prs_mem.mpr ⟨w, a, rfl⟩, ?_⟩)), (h4 _ _ a).2⟩
    rw [jm_cat]
    have e1 : (j == i) = false := by simp [Ne.symm hij]
    by_cases hj : j + 1 = i
    · have e2 : (w.category == 2) = false := by simpa using fun q => b ⟨hj, q⟩
      simp [e1, e2]
    · simp [e1, hj]
theorem jm_LV.st2 {nL : Nat} {ρ : Nat → Nat} {N : Nat} {l : jm_Loc} {ls ls' : Array Slot} {i : Nat} {v : Value} (h : jm_LV nL ρ N l ls) (hv : jm_wv N v)
    (h' : lv_has ls' nL ((i, jm_cv ρ v) :: (jm_prs ρ l).filter (fun q => !(q.1 == i) && (!(q.1 == i + 1) && !(q.1 + 1 == i && q.2.category == 2))))) : jm_LV nL ρ N (jm_st2 l i v) ls' := by
  obtain ⟨h1, h2, h3, h4⟩ := h
  obtain ⟨g1, g2, g3⟩ := h'
  refine ⟨by unfold jm_st2; rw [List.length_set, List.length_set, jm_clr_len]; exact h1, g1, g2, fun j w hw => ?_⟩
  unfold jm_st2 at hw
  rw [List.getElem?_set] at hw
  by_cases hij1 : i + 1 = j
  · rw [if_pos hij1] at hw
    split at hw <;> cases hw
  rw [if_neg hij1] at hw
  rw [List.getElem?_set] at hw
  by_cases hij : i = j
  · rw [if_pos hij] at hw
    split at hw
    · cases hw
      subst hij
      exact ⟨g3 _ List.mem_cons_self, hv⟩
    · cases hw
  · rw [if_neg hij] at hw
    obtain ⟨a, b⟩ := jm_clr_get hw
    refine ⟨g3 (j, jm_cv ρ w) (List.mem_cons_of_mem _ (List.mem_filter.mpr ⟨jm_prs_mem.mpr ⟨w, a, rfl⟩, ?_⟩)), (h4 _ _ a).2⟩
    rw [jm_cat]
    have e1 : (j == i) = false := by simp [Ne.symm hij]
    have e3 : (j == i + 1) = false := by simp [Ne.symm hij1]
    by_cases hj : j + 1 = i
    · have e2 : (w.category == 2) = false := by simpa using fun q => b ⟨hj, q⟩
      simp [e1, e2, e3]
    · simp [e1, e3, hj]
