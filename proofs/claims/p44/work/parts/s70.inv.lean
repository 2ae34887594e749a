/-! What a step that comes to something tells of the state before. -/
section INV
variable {r : jm_Res}
theorem iv_n {a b : Nat} {x : Option jm_Res} (h : jm_n a b x = some r) : a = b ∧ x = some r := by
  unfold jm_n at h
  by_cases e : a = b
  · exact ⟨e, by rwa [if_pos e] at h⟩
  · rw [if_neg e] at h; cases h
theorem iv_ite {c : Prop} [Decidable c] {x : Option jm_Res} (h : (if c then x else none) = some r) : c ∧ x = some r := by
  by_cases e : c
  · exact ⟨e, by rwa [if_pos e] at h⟩
  · rw [if_neg e] at h; cases h
theorem iv_ite2 {c : Prop} [Decidable c] {x : Option jm_Res} (h : (if c then none else x) = some r) : ¬ c ∧ x = some r := by
  by_cases e : c
  · rw [if_pos e] at h; cases h
  · exact ⟨e, by rwa [if_neg e] at h⟩
theorem iv_in {l : jm_Loc} {i : Nat} {x : Option jm_Res} (h : jm_in l i x = some r) : i < l.length ∧ x = some r := iv_ite h
theorem iv_sm {st : List Value} {x : Option jm_Res} (h : jm_sm st x = some r) : (st.map fun v => v.category).sum ≤ 8 ∧ x = some r := iv_ite h
theorem iv_n32 {a : UInt32} {x : Option jm_Res} (h : jm_n32 a x = some r) : vf_n32 a ∧ x = some r := by
  unfold vf_n32
  exact iv_ite h
theorem iv_n64 {a : UInt64} {x : Option jm_Res} (h : jm_n64 a x = some r) : vf_n64 a ∧ x = some r := by
  unfold vf_n64
  exact iv_ite h
theorem iv_mk {m : jm_Mem} {e : jm_Ent} {s : Nat} {f : jm_Mem → Option jm_Res} (h : jm_mk m e s f = some r) : m.1 < 1000000 ∧ f (jm_new m e s) = some r := iv_ite h
theorem iv_B {x : Int32} {k : Option jm_Res} (h : jm_B x k = some r) : (x = 0 ∨ x = 1) ∧ k = some r := by
  unfold jm_B at h
  by_cases e : x = 0
  · exact ⟨Or.inl e, by rwa [if_pos e] at h⟩
  · rw [if_neg e] at h
    obtain ⟨e2, h⟩ := iv_ite h
    exact ⟨Or.inr e2, h⟩
theorem iv_pI {st : List Value} {f : Int32 → List Value → Option jm_Res} (h : jm_pI st f = some r) : ∃ x st2, st = .int x :: st2 ∧ f x st2 = some r := by
  rcases st with _ | ⟨v, q⟩
  · cases h
  · cases v <;> first | exact ⟨_, _, rfl, h⟩ | cases h
theorem iv_pL {st : List Value} {f : Int64 → List Value → Option jm_Res} (h : jm_pL st f = some r) : ∃ x st2, st = .long x :: st2 ∧ f x st2 = some r := by
  rcases st with _ | ⟨v, q⟩
  · cases h
  · cases v <;> first | exact ⟨_, _, rfl, h⟩ | cases h
theorem iv_pF {st : List Value} {f : UInt32 → List Value → Option jm_Res} (h : jm_pF st f = some r) : ∃ x st2, st = .float x :: st2 ∧ f x st2 = some r := by
  rcases st with _ | ⟨v, q⟩
  · cases h
  · cases v <;> first | exact ⟨_, _, rfl, h⟩ | cases h
theorem iv_pD {st : List Value} {f : UInt64 → List Value → Option jm_Res} (h : jm_pD st f = some r) : ∃ x st2, st = .double x :: st2 ∧ f x st2 = some r := by
  rcases st with _ | ⟨v, q⟩
  · cases h
  · cases v <;> first | exact ⟨_, _, rfl, h⟩ | cases h
theorem iv_pR {st : List Value} {f : Nat → List Value → Option jm_Res} (h : jm_pR st f = some r) : ∃ x st2, st = .ref x :: st2 ∧ f x st2 = some r := by
  rcases st with _ | ⟨v, q⟩
  · cases h
  · cases v <;> first | exact ⟨_, _, rfl, h⟩ | cases h
theorem iv_lI {l : jm_Loc} {i : Nat} {f : Int32 → Option jm_Res} (h : jm_lI l i f = some r) : ∃ x, l[i]? = some (some (.int x)) ∧ f x = some r := by
  unfold jm_lI at h
  split at h
  · rename_i x hx; exact ⟨x, hx, h⟩
  · cases h
theorem iv_lL {l : jm_Loc} {i : Nat} {f : Int64 → Option jm_Res} (h : jm_lL l i f = some r) : ∃ x, l[i]? = some (some (.long x)) ∧ f x = some r := by
  unfold jm_lL at h
  split at h
  · rename_i x hx; exact ⟨x, hx, h⟩
  · cases h
theorem iv_lF {l : jm_Loc} {i : Nat} {f : UInt32 → Option jm_Res} (h : jm_lF l i f = some r) : ∃ x, l[i]? = some (some (.float x)) ∧ f x = some r := by
  unfold jm_lF at h
  split at h
  · rename_i x hx; exact ⟨x, hx, h⟩
  · cases h
theorem iv_lD {l : jm_Loc} {i : Nat} {f : UInt64 → Option jm_Res} (h : jm_lD l i f = some r) : ∃ x, l[i]? = some (some (.double x)) ∧ f x = some r := by
  unfold jm_lD at h
  split at h
  · rename_i x hx; exact ⟨x, hx, h⟩
  · cases h
theorem iv_lR {l : jm_Loc} {i : Nat} {f : Nat → Option jm_Res} (h : jm_lR l i f = some r) : ∃ x, l[i]? = some (some (.ref x)) ∧ f x = some r := by
  unfold jm_lR at h
  split at h
  · rename_i x hx; exact ⟨x, hx, h⟩
  · cases h
theorem iv_tg {pc : Nat} {off : Int} {f : Nat → Option jm_Res} (h : jm_tg pc off f = some r) : ∃ t : Nat, (pc : Int) + off = (t : Int) ∧ f t = some r := by
  unfold jm_tg at h
  split at h
  · rename_i t ht; exact ⟨t, ht, h⟩
  · cases h
theorem iv_bind {α : Type} {o : Option α} {f : α → Option jm_Res} (h : o.bind f = some r) : ∃ x, o = some x ∧ f x = some r := by
  cases o with
  | none => cases h
  | some x => exact ⟨x, rfl, h⟩
theorem iv_pop {f : List Value → List Value → Option jm_Res} : ∀ (n : Nat) (st a : List Value), jm_pop n st a f = some r → ∃ as rest, as.length = n ∧ st = as.reverse ++ rest ∧ f (as ++ a) rest = some r := by
  intro n
  induction n with
  | zero => intro st a h; exact ⟨[], st, rfl, rfl, h⟩
  | succ n ih =>
    intro st a h
    cases st with
    | nil => cases h
    | cons v st =>
      obtain ⟨as, rest, h1, h2, h3⟩ := ih st (v :: a) h
      refine ⟨as ++ [v], rest, by simp [h1], by simp [h2], by simpa using h3⟩
end INV
/-! memory, read and written -/
section MEM
variable {D : va_G} {tys : List (ClassId × FieldType)} {A : Nat → Prop} {S : jm_Sp} {H0 H : Heap} {c0 s0 : Nat} {ρ : Nat → Nat} {m : jm_Mem} {locs : List Loc} {cells slots : Nat}
theorem jm_rep.obj (h : jm_rep D tys A S H0 c0 s0 ρ m H locs cells slots) {n c : Nat} {fs : List Value} (he : m.2.1 n = .inr (c, fs)) (hc : c < 20) : n < m.1 ∧ (jm_ws ρ tys m)[n]? = some (ρ n, .inr (c, fs.map (jm_cv ρ))) ∧ jm_wt m.1 fs := by
  obtain ⟨-, -, -, hw, hb, -⟩ := h
  have hn : n < m.1 := by
    refine Nat.lt_of_not_le fun q => ?_
    rcases hb n q with e | ⟨-, e⟩ | ⟨k, -, -, e⟩ | ⟨-, e⟩ | ⟨-, e⟩ | ⟨-, e⟩
    · rw [he] at e
      have e := Sum.inr.inj e
      have e1 : c = 999 := congrArg Prod.fst e
      omega
    · rw [he] at e; cases e
    · rw [he] at e; cases e
    · rw [he] at e; cases e
    · rw [he] at e; cases e
    · rw [he] at e; cases e
  refine ⟨hn, ?_, ?_⟩
  · rw [jm_ws_get hn, he]; rfl
  · have := hw n hn
    rw [he] at this
    exact this
/-- an array that is none of ours was there before -/
theorem jm_rep.tag (h : jm_rep D tys A S H0 c0 s0 ρ m H locs cells slots) {n t : Nat} {a : vp_A} (he : m.2.1 n = .inl (t, a)) : (n < m.1 ∧ (t < 7 ∨ t = 9)) ∨ (n = jm_scr ∧ t = 8 ∧ a = (S.2.1, .inl S.2.2.1)) ∨ (∃ k, k < 7 ∧ n = jm_str + k ∧ t = 7 ∧ a = ((jm_strT.getD k []).length, .inl (fun i => (jm_strT.getD k []).getD i 0))) ∨ (n = jm_dcp ∧ t = 12 ∧ a = (0, .inr (.inr (.inr (.inr (fun _ => none)))))) ∨ (n = jm_dgt ∧ t = 10 ∧ a = (100, .inl (fun i => Int32.ofNat (48 + i / 10)))) ∨ (n = jm_dgo ∧ t = 10 ∧ a = (100, .inl (fun i => Int32.ofNat (48 + i % 10)))) := by
  obtain ⟨-, -, -, hw, hb, -⟩ := h
  by_cases hn : n < m.1
  · have := hw n hn
    rw [he] at this
    refine Or.inl ⟨hn, ?_⟩
    obtain ⟨x, f | f | f | f | f⟩ := a
    · have h2 : t < 6 ∨ t = 9 := this
      omega
    · have h2 : t < 6 ∨ t = 9 := this
      omega
    · have h2 : t < 6 ∨ t = 9 := this
      omega
    · have h2 : t < 6 ∨ t = 9 := this
      omega
    · exact Or.inl this.1
  · rcases hb n (Nat.not_lt.mp hn) with e | ⟨e0, e⟩ | ⟨k, hk, e0, e⟩ | ⟨e0, e⟩ | ⟨e0, e⟩ | ⟨e0, e⟩
    · rw [he] at e; cases e
    · rw [he] at e
      have e := Sum.inl.inj e
      exact Or.inr (Or.inl ⟨e0, congrArg Prod.fst e, congrArg Prod.snd e⟩)
    · rw [he] at e
      have e := Sum.inl.inj e
      exact Or.inr (Or.inr (Or.inl ⟨k, hk, e0, congrArg Prod.fst e, congrArg Prod.snd e⟩))
    · rw [he] at e
      have e := Sum.inl.inj e
      exact Or.inr (Or.inr (Or.inr (Or.inl ⟨e0, congrArg Prod.fst e, congrArg Prod.snd e⟩)))
    · rw [he] at e
      have e := Sum.inl.inj e
      exact Or.inr (Or.inr (Or.inr (Or.inr (Or.inl ⟨e0, congrArg Prod.fst e, congrArg Prod.snd e⟩))))
    · rw [he] at e
      have e := Sum.inl.inj e
      exact Or.inr (Or.inr (Or.inr (Or.inr (Or.inr ⟨e0, congrArg Prod.fst e, congrArg Prod.snd e⟩))))
theorem jm_rep.arr (h : jm_rep D tys A S H0 c0 s0 ρ m H locs cells slots) {n t : Nat} {a : vp_A} (he : m.2.1 n = .inl (t, a)) (ht : t < 7 ∨ t = 9) : n < m.1 ∧ (jm_ws ρ tys m)[n]? = some (ρ n, jm_cE ρ tys (.inl (t, a))) ∧ jm_wE m.1 (.inl (t, a)) := by
  have hn : n < m.1 := by
    rcases h.tag he with ⟨q, -⟩ | ⟨-, q, -⟩ | ⟨k, -, -, q, -⟩ | ⟨-, q, -⟩ | ⟨-, q, -⟩ | ⟨-, q, -⟩
    · exact q
    all_goals omega
  obtain ⟨-, -, -, hw, hb, -⟩ := h
  refine ⟨hn, ?_, ?_⟩
  · rw [jm_ws_get hn, he]
  · have := hw n hn
    rw [he] at this
    exact this
/-- after a write -/
theorem jm_rep.wr (h : jm_rep D tys A S H0 c0 s0 ρ m H locs cells slots) {n : Nat} {e : jm_Ent} (hn : n < m.1) (he : jm_wE m.1 e) {H1 : Heap} {locs1 : List Loc}
    (hP : va_P D vwCl ((jm_ws ρ tys m).set n (ρ n, jm_cE ρ tys e)) H1) (hD : va_D A ((jm_ws ρ tys m).set n (ρ n, jm_cE ρ tys e))) (hS : va_S A H0 H1 locs1) : jm_rep D tys A S H0 c0 s0 ρ (jm_up m n e) H1 locs1 cells slots := by
  obtain ⟨-, -, -, hw, hb, hN, hsp, h1, h2⟩ := h
  refine ⟨by rw [jm_ws_up]; exact hP, by rw [jm_ws_up]; exact hD, hS, fun k hk => ?_, fun k hk => ?_, hN, hsp, h1, h2⟩
  · show jm_wE m.1 (va_up m.2.1 n e k)
    by_cases q : k = n
    · rw [show va_up m.2.1 n e k = e from if_pos q]; exact he
    · rw [show va_up m.2.1 n e k = m.2.1 k from if_neg q]; exact hw k hk
  · show va_up m.2.1 n e k = jm_bad ∨ jm_spE S k (va_up m.2.1 n e k)
    have hk : m.1 ≤ k := hk
    rw [show va_up m.2.1 n e k = m.2.1 k from if_neg (by omega)]; exact hb k hk
/-- after a making -/
theorem jm_rep.nw (h : jm_rep D tys A S H0 c0 s0 ρ m H locs cells slots) {e : jm_Ent} {q k : Nat} (hN1 : m.1 < 1000000) (he : jm_wE m.1 e) {H1 : Heap} {locs1 : List Loc}
    (hP : va_P D vwCl (jm_ws ρ tys m ++ [(q, jm_cE ρ tys e)]) H1) (hD : va_D A (jm_ws ρ tys m ++ [(q, jm_cE ρ tys e)])) (hS : va_S A H0 H1 locs1) : jm_rep D tys A S H0 c0 s0 (va_up ρ m.1 q) (jm_new m e k) H1 locs1 (cells + 1) (slots + k) ∧ jm_ag m.1 ρ (va_up ρ m.1 q) := by
  obtain ⟨-, -, -, hw, hb, hN, hsp, h1, h2⟩ := h
  have hlt : m.1 < jm_str := Nat.lt_of_lt_of_le hN1 (Nat.le_of_ble_eq_true rfl)
  have hag : jm_ag m.1 ρ (va_up ρ m.1 q) := fun n hn => if_neg (by omega)
  have hws := jm_ws_new (tys := tys) (n := k) (q := q) hw hlt (jm_cE_ag hag he)
  refine ⟨⟨by rw [hws]; exact hP, by rw [hws]; exact hD, hS, fun n hn => ?_, fun n hn => ?_, hN1, ⟨?_, fun j hj => ?_, fun j hj => ?_, ?_, ?_, ?_⟩, ?_, ?_⟩, hag⟩
  · show jm_wE (m.1 + 1) (va_up m.2.1 m.1 e n)
    have hn : n < m.1 + 1 := hn
    by_cases z : n = m.1
    · rw [show va_up m.2.1 m.1 e n = e from if_pos z]; exact he.up (Nat.le_succ _)
    · rw [show va_up m.2.1 m.1 e n = m.2.1 n from if_neg z]; exact (hw n (by omega)).up (Nat.le_succ _)
  · show va_up m.2.1 m.1 e n = jm_bad ∨ jm_spE S n (va_up m.2.1 m.1 e n)
    have hn : m.1 + 1 ≤ n := hn
    rw [show va_up m.2.1 m.1 e n = m.2.1 n from if_neg (by omega)]; exact hb n (by omega)
  · rw [hag _ (Or.inr jm_scr_le)]; exact hsp.1
  · rw [hag _ (Or.inr (Nat.le_add_right _ _))]; exact hsp.2.1 j hj
  · rw [hag _ (Or.inr (Nat.le_trans (by decide) (Nat.le_add_right jm_int j)))]; exact hsp.2.2.1 j hj
  · rw [hag _ (Or.inr (by decide))]; exact hsp.2.2.2.1
  · rw [hag _ (Or.inr (by decide))]; exact hsp.2.2.2.2.1
  · rw [hag _ (Or.inr (by decide))]; exact hsp.2.2.2.2.2
  · show m.2.2.1 + 1 = _
    omega
  · show m.2.2.2 + k = _
    omega
end MEM
