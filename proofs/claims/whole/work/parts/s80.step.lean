/-! A step of the small machine is a stretch of the real one. -/
section HND
variable {own : String}
theorem hok_split : ∀ {y1 y2 : List (Nat × Nat × Nat × String)} {b : Nat × Nat × Nat × String} {hh : List (Nat × Nat × Nat × Nat)}, jm_hok own hh (y1 ++ b :: y2) → ∃ h1 a h2, hh = h1 ++ a :: h2 ∧ jm_hok own h1 y1 ∧ (a.1 = b.1 ∧ a.2.1 = b.2.1 ∧ a.2.2.1 = b.2.2.1 ∧ a.2.2.2 ≠ 0 ∧ Cond.classLink own a.2.2.2 b.2.2.2 ∈ jm_WW) := by
  intro y1
  induction y1 with
  | nil =>
    intro y2 b hh h
    cases hh with
    | nil => exact h.elim
    | cons a t => exact ⟨[], a, t, rfl, trivial, h.1⟩
  | cons z y1 ih =>
    intro y2 b hh h
    cases hh with
    | nil => exact h.elim
    | cons a t =>
      obtain ⟨h1, a2, h2, e, g1, g2⟩ := ih h.2
      exact ⟨a :: h1, a2, h2, by rw [e]; rfl, ⟨h.1, g1⟩, g2⟩
theorem hok_mem : ∀ {y : List (Nat × Nat × Nat × String)} {hh : List (Nat × Nat × Nat × Nat)}, jm_hok own hh y → ∀ a ∈ hh, ∃ b ∈ y, a.1 = b.1 ∧ a.2.1 = b.2.1 ∧ a.2.2.1 = b.2.2.1 ∧ a.2.2.2 ≠ 0 ∧ Cond.classLink own a.2.2.2 b.2.2.2 ∈ jm_WW := by
  intro y
  induction y with
  | nil =>
    intro hh h a ha
    cases hh with
    | nil => cases ha
    | cons _ _ => exact h.elim
  | cons z y ih =>
    intro hh h a ha
    cases hh with
    | nil => cases ha
    | cons c t =>
      rcases List.mem_cons.mp ha with e | e
      · exact ⟨z, List.mem_cons_self, e ▸ h.1⟩
      · obtain ⟨b, hb, q⟩ := ih h.2 a e
        exact ⟨b, List.mem_cons_of_mem _ hb, q⟩
theorem hcl_pre : ∀ {y1 y2 : List (Nat × Nat × Nat × String)} {b : Nat × Nat × Nat × String}, jm_hcl (y1 ++ b :: y2) → ∀ z ∈ y1, z.2.2.2 = jm_IOB := by
  intro y1
  induction y1 with
  | nil => intro _ _ _ z hz; cases hz
  | cons c y1 ih =>
    intro y2 b h z hz
    have h2 : c.2.2.2 = jm_IOB ∧ jm_hcl (y1 ++ b :: y2) := by
      cases y1 with
      | nil => exact h
      | cons _ _ => exact h
    rcases List.mem_cons.mp hz with e | e
    · rw [e]; exact h2.1
    · exact ih h2.2 z e
theorem hcl_mem : ∀ {y : List (Nat × Nat × Nat × String)}, jm_hcl y → ∀ b ∈ y, b.2.2.2 = jm_IAE ∨ b.2.2.2 = jm_ISE ∨ b.2.2.2 = jm_IOB := by
  intro y
  induction y with
  | nil => intro _ b hb; cases hb
  | cons c y ih =>
    intro h b hb
    cases y with
    | nil =>
      rcases List.mem_cons.mp hb with e | e
      · rw [e]; exact h
      · cases e
    | cons a t =>
      rcases List.mem_cons.mp hb with e | e
      · rw [e]; exact Or.inr (Or.inr h.1)
      · exact ih h.2 b e
end HND
section STEP
variable {p : Program} {l : Launch} {e : Env} {R : Room} {s : State} {m : MethodId} {args : Array Value} {below : List Frame} {meth : Method} {c : Code} {D : va_G} {tys : List (ClassId × FieldType)} {A : Nat → Prop} {S : jm_Sp} {c0 s0 : Nat} {ρ0 : Nat → Nat} {N0 : Nat} {M : jm_Meth} {Q : State → Prop} {pc : Nat} {lc : jm_Loc} {st : List Value} {m1 : jm_Mem} {d : Nat} {r : jm_Res} {K : jm_K}
theorem st_thr {E : String} (X : jm_Fx p s m args meth c D tys A S M) (hcl : jm_hcl (jm_mH M)) (hK : ∀ pc lc st m2, K pc lc st m2 = some r → jm_At p l e R s m args below meth c D tys A S c0 s0 ρ0 N0 M Q pc lc st m2)
    (h3 : ∀ E pc lc m2, jm_mH M = [] → r = (.inr E, m2) → jm_Th p l e R s m args below meth c D tys A S c0 s0 ρ0 N0 M Q E pc lc m2) (h : jm_thr M pc lc E m1 K = some r) : jm_Th p l e R s m args below meth c D tys A S c0 s0 ρ0 N0 M Q E pc lc m1 := by
  unfold jm_thr at h
  cases hM : jm_mH M with
  | nil =>
    rw [hM] at h
    exact h3 E pc lc m1 hM (Option.some.inj h).symm
  | cons a0 b0 =>
    rw [hM] at h
    dsimp only at h
    rw [← hM] at h
    cases ht : jm_hd (jm_mH M) pc E with
    | none => rw [ht] at h; cases h
    | some t =>
      rw [ht] at h
      dsimp only at h
      intro H locs cells slots ls ρ rest ce q hr hL ha hN hce hcv hcls
      obtain ⟨hh, hhok, htab⟩ := X.2.2.2.2.2.2.2.2.1
      unfold jm_hd at ht
      obtain ⟨b, hb, hbt⟩ := Option.map_eq_some_iff.mp ht
      obtain ⟨hpb, y1, y2, hy, hno⟩ := List.find?_eq_some_iff_append.mp hb
      have hhok2 := hhok
      rw [hy] at hhok2
      obtain ⟨h1, a, h2, rfl, g1, g2, g3, g4, g5, g6⟩ := hok_split hhok2
      simp only [Bool.and_eq_true, decide_eq_true_eq, beq_iff_eq] at hpb
      obtain ⟨⟨p1, p2⟩, p3⟩ := hpb
      have hsplit : c.exceptionTable.toList = tableOf h1 ++ (⟨a.1, a.2.1, a.2.2.1, a.2.2.2⟩ : ExceptionTableEntry) :: tableOf h2 := by
        rw [htab]; simp [tableOf]
      have hown : s.vm.findClass (jm_cn (jm_mO M)) = some m.cls := X.own
      have hEc : E = jm_IAE ∨ E = jm_ISE ∨ E = jm_IOB := by
        rw [← p3]
        exact hcl_mem hcl b (by rw [hy]; exact List.mem_append_right _ List.mem_cons_self)
      have hcast : (Cond.castable E b.2.2.2).before args s = true := by
        rw [p3]
        rcases hEc with rfl | rfl | rfl
        · exact jm_nwB X jc_IAE rfl
        · exact jm_nwB X jc_ISE rfl
        · exact jm_nwB X jc_IOB rfl
      have hpass : ∀ z ∈ tableOf h1, covers z pc = false ∨ (z.catchType ≠ 0 ∧ ∃ nm : String, (Cond.classLink (jm_cn (jm_mO M)) z.catchType nm).before args s = true ∧ va_Nc E nm s) := by
        intro z hz
        obtain ⟨w, hw, rfl⟩ := List.mem_map.mp hz
        obtain ⟨v, hv, v1, v2, v3, v4, v5⟩ := hok_mem g1 w hw
        have h8 := hno v hv
        by_cases hcov : v.1 ≤ pc ∧ pc < v.2.1
        · right
          refine ⟨v4, v.2.2.2, X.ts _ v5, ?_⟩
          have hne : v.2.2.2 ≠ E := by
            intro q
            simp [hcov.1, hcov.2, q] at h8
          rw [hy] at hcl
          have hio := hcl_pre hcl v hv
          rw [hio] at hne ⊢
          rcases hEc with rfl | rfl | rfl
          · exact X.kn.2.2.2.2.2.2.2.1
          · exact X.kn.2.2.2.2.2.2.2.2.1
          · exact absurd rfl hne
        · left
          show (decide (w.1 ≤ pc) && decide (pc < w.2.1)) = false
          rw [v1, v2]
          by_cases q : v.1 ≤ pc
          · have : ¬ pc < v.2.1 := fun z => hcov ⟨q, z⟩
            simp [this]
          · simp [q]
      have hgo : W p l e R s m args below meth c H locs cells slots Q (F0 m a.2.2.1 ls [.ref q]) := by
        have ht2 : a.2.2.1 = t := by rw [g4, hbt]
        rw [ht2]
        split at h
        · rename_i i n hi
          obtain ⟨rfl, h⟩ := iv_n h
          obtain ⟨hi2, h⟩ := iv_in h
          refine lv_astore (lv := jm_prs ρ lc) X.1 X.2.1 (X.dc hi) hL.has (by rw [← hL.1]; exact hi2) rfl (fun ls' h' => ?_)
          exact hK _ _ _ _ h H locs cells slots ls' ρ hr (hL.stn h') (fun v hv => by cases hv) ha hN
        · rename_i i n hi
          obtain ⟨rfl, h⟩ := iv_n h
          obtain ⟨hi2, h⟩ := iv_in h
          refine lv_astore_n (lv := jm_prs ρ lc) X.1 X.2.1 (X.dc hi) rfl hL.has (by rw [← hL.1]; exact hi2) rfl (fun ls' h' => ?_)
          exact hK _ _ _ _ h H locs cells slots ls' ρ hr (hL.stn h') (fun v hv => by cases hv) ha hN
        · cases h
      refine vx_catch hown (tableOf h1) ⟨a.1, a.2.1, a.2.2.1, a.2.2.2⟩ (tableOf h2) hsplit hpass ?_ g5 (X.ts _ g6) hcast hce hcv hcls hgo
      show (decide (a.1 ≤ pc) && decide (pc < a.2.1)) = true
      rw [g2, g3]
      simp [p1, p2]
end STEP
