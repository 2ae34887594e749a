/-! Runs, methods, calls within a depth. -/
section RUN
variable {p : Program} {l : Launch} {e : Env} {R : Room} {s : State} {m : MethodId} {args : Array Value} {below : List Frame} {meth : Method} {c : Code} {D : va_G} {tys : List (ClassId × FieldType)} {A : Nat → Prop} {S : jm_Sp} {c0 s0 : Nat} {ρ0 : Nat → Nat} {N0 : Nat} {M : jm_Meth} {Q : State → Prop} {pc : Nat} {lc : jm_Loc} {st : List Value} {m1 : jm_Mem} {d : Nat} {r : jm_Res} {call : jm_Call}
theorem sim_run (X : jm_Fx p s m args meth c D tys A S M) (hR : jm_Rk d R) (hcl : jm_mH M = []) (hcs : jm_Cs l D tys A S d call) (hcm : jm_cM call) (hE : jm_En p l e R s m args below meth c D tys A S c0 s0 ρ0 N0 M Q r) (hrm : r.2.2.2.1 ≤ c0 + R.cells ∧ r.2.2.2.2 ≤ s0 + R.slots) :
    ∀ (n pc : Nat) (lc : jm_Loc) (st : List Value) (m1 : jm_Mem), jm_run call M n pc lc st m1 = some r → jm_At p l e R s m args below meth c D tys A S c0 s0 ρ0 N0 M Q pc lc st m1 := by
  intro n
  induction n with
  | zero => intro pc lc st m1 h; cases h
  | succ n ih =>
    intro pc lc st m1 h
    exact sim_stp X hR hcl hcs hcm ih (fun pc lc st m2 r' h' => mo_run hcm n pc lc st m2 r' h') hE hrm h
/-- a method's locals at its entry -/
theorem en_la {ρ : Nat → Nat} : ∀ (as : List Value) (i : Nat) (v : Value), (jm_la as)[i]? = some (some v) → (lg_sl (as.map (jm_cv ρ)))[i]? = some (Slot.val (jm_cv ρ v)) ∧ v ∈ as := by
  intro as
  induction as with
  | nil => intro i v h; cases h
  | cons a as ih =>
    intro i v h
    have hcat := jm_cat ρ a
    have hsl : lg_sl ((a :: as).map (jm_cv ρ)) = (if (jm_cv ρ a).category = 2 then [Slot.val (jm_cv ρ a), .second] else [Slot.val (jm_cv ρ a)]) ++ lg_sl (as.map (jm_cv ρ)) := rfl
    rw [hsl, hcat]
    unfold jm_la at h
    by_cases h2 : a.category = 2
    · rw [if_pos h2] at h ⊢
      match i, h with
      | 0, h => cases h; exact ⟨rfl, List.mem_cons_self⟩
      | 1, h => cases h
      | i + 2, h =>
        obtain ⟨g1, g2⟩ := ih i v h
        exact ⟨g1, List.mem_cons_of_mem _ g2⟩
    · rw [if_neg h2] at h ⊢
      match i, h with
      | 0, h => cases h; exact ⟨rfl, List.mem_cons_self⟩
      | i + 1, h =>
        obtain ⟨g1, g2⟩ := ih i v h
        exact ⟨g1, List.mem_cons_of_mem _ g2⟩
theorem la_len {ρ : Nat → Nat} : ∀ as : List Value, (lg_sl (as.map (jm_cv ρ))).length = (jm_la as).length := by
  intro as
  induction as with
  | nil => rfl
  | cons a as ih =>
    have hcat := jm_cat ρ a
    have hsl : lg_sl ((a :: as).map (jm_cv ρ)) = (if (jm_cv ρ a).category = 2 then [Slot.val (jm_cv ρ a), .second] else [Slot.val (jm_cv ρ a)]) ++ lg_sl (as.map (jm_cv ρ)) := rfl
    rw [hsl, hcat, List.length_append, ih]
    show _ = (if a.category = 2 then some a :: none :: jm_la as else some a :: jm_la as).length
    by_cases h2 : a.category = 2
    · rw [if_pos h2, if_pos h2, List.length_cons, List.length_cons, List.length_cons, List.length_cons, List.length_nil]; omega
    · rw [if_neg h2, if_neg h2, List.length_cons, List.length_cons, List.length_nil]; omega
theorem en_LV {ρ : Nat → Nat} {as : List Value} {N : Nat} (hl : (jm_la as).length ≤ jm_mL M) (hw : jm_wt N as) : jm_LV (jm_mL M) ρ N (jm_en M as) ((lg_sl (as.map (jm_cv ρ)) ++ List.replicate (jm_mL M - (lg_sl (as.map (jm_cv ρ))).length) Slot.unset).toArray) := by
  have h1 := lv_entry (as.map (jm_cv ρ)) (n := jm_mL M) (by rw [la_len]; exact hl)
  refine ⟨?_, h1.1, h1.2.1, fun i v hv => ?_⟩
  · unfold jm_en
    rw [List.length_append, List.length_replicate]
    omega
  · unfold jm_en at hv
    by_cases hi : i < (jm_la as).length
    · rw [List.getElem?_append_left hi] at hv
      obtain ⟨g1, g2⟩ := en_la (ρ := ρ) as i v hv
      refine ⟨?_, hw v g2⟩
      rw [List.getElem?_toArray, List.getElem?_append_left (by rw [la_len]; exact hi)]
      exact g1
    · rw [List.getElem?_append_right (by omega), List.getElem?_replicate] at hv
      split at hv <;> cases hv
theorem by_nar {x : Int32} (h : jm_by x = true) : narrow .byte (.int x) = .int x := (jm_kt_nf (kd := 4) (ty := .byte) (v := .int x) rfl (Or.inr (Or.inr (Or.inr (Or.inr ⟨rfl, x, rfl, h⟩))))).1
theorem ch_nar {x : Int32} (h : 0 ≤ x ∧ x < 65536) : narrow .char (.int x) = .int x := by
  have e := i2c_of h
  simp only [narrow]
  first | rw [e] | (simpa using e)
/-- the ends of a method of ours -/
theorem en_own {mA : jm_Mem} (X : jm_Fx p s m args meth c D tys A S M) (hst : l.stackTraces = false) (htk : jm_al (jm_tok M) (jm_mT M)) (hR : jm_Rk d R) (hrm : r.2.2.2.1 ≤ mA.2.2.1 + R.cells ∧ r.2.2.2.2 ≤ mA.2.2.2 + R.slots) :
    jm_En p l e R s m args below meth c D tys A S mA.2.2.1 mA.2.2.2 ρ0 mA.1 M (vx_MQ below (jm_Qc D tys A S ρ0 mA r) (jm_Xc D tys A S ρ0 mA r) args s (r.2.2.2.1 - mA.2.2.1) (r.2.2.2.2 - mA.2.2.2) A) r := by
  have hlocks := X.2.2.2.2.2.2.1
  have wb : ∀ {o : Option Value ⊕ String} {m2 : jm_Mem} {H : Heap} {locs : List Loc} {cells slots : Nat} {ρ : Nat → Nat}, jm_rep D tys A S s.heap mA.2.2.1 mA.2.2.2 ρ m2 H locs cells slots → jm_ag mA.1 ρ0 ρ → mA.1 ≤ m2.1 → ∀ t : State, t.heap = H → jm_wb D tys A S ρ0 mA m2 ρ t := by
    intro o m2 H locs cells slots ρ hr ha hN t ht
    exact ⟨ha, hN, by rw [ht]; exact hr.1, hr.2.1, hr.mw, hr.2.2.2.2.2.2.1⟩
  refine ⟨?_, ?_, ?_, ?_, ?_, ?_⟩
  · rintro pc lc x m2 rfl hty hdg H locs cells slots ls ρ hr hL hw ha hN
    have e1 := hr.2.2.2.2.2.2.2.1
    have e2 := hr.2.2.2.2.2.2.2.2
    have hcc : cells = m2.2.2.1 - mA.2.2.1 := by omega
    have hss : slots = m2.2.2.2 - mA.2.2.2 := by omega
    subst hcc; subst hss
    have hq : ∀ t : State, t.heap = H → s.WarmedH t.vm → jm_Qc D tys A S ρ0 mA (.inl (some (.int x)), m2) args s (.returned (some (.int x))) t := fun t ht _ => ⟨⟨x, ρ, rfl, rfl, wb (o := .inl none) hr ha hN t ht⟩, hr.2.2.1.F ht⟩
    rcases hty with hty | ⟨hty, h01⟩ | ⟨hty, h01⟩ | ⟨hty, h01⟩
    · exact vx_ret (W.iret X.1 X.2.1 (by rw [X.2.2.1, hty]) hq hr.2.2.1.2.2 hdg)
    · refine vx_ret (W.zret (ty := .boolean) X.1 X.2.1 (by rw [X.2.2.1, hty]) ?_ hq hr.2.2.1.2.2 hdg)
      rcases h01 with rfl | rfl <;> rfl
    · exact vx_ret (W.zret (ty := .byte) X.1 X.2.1 (by rw [X.2.2.1, hty]) (by_nar h01) hq hr.2.2.1.2.2 hdg)
    · exact vx_ret (W.zret (ty := .char) X.1 X.2.1 (by rw [X.2.2.1, hty]) (ch_nar h01) hq hr.2.2.1.2.2 hdg)
  · rintro pc lc x m2 rfl hty hdg H locs cells slots ls ρ hr hL hw ha hN
    have e1 := hr.2.2.2.2.2.2.2.1
    have e2 := hr.2.2.2.2.2.2.2.2
    have hcc : cells = m2.2.2.1 - mA.2.2.1 := by omega
    have hss : slots = m2.2.2.2 - mA.2.2.2 := by omega
    subst hcc; subst hss
    exact vx_ret (W.lret X.1 X.2.1 (by rw [X.2.2.1, hty]) (fun t ht _ => ⟨⟨x, ρ, rfl, rfl, wb (o := .inl none) hr ha hN t ht⟩, hr.2.2.1.F ht⟩) hr.2.2.1.2.2 hdg)
  · rintro pc lc x m2 rfl hty hdg H locs cells slots ls ρ hr hL hw ha hN
    have e1 := hr.2.2.2.2.2.2.2.1
    have e2 := hr.2.2.2.2.2.2.2.2
    have hcc : cells = m2.2.2.1 - mA.2.2.1 := by omega
    have hss : slots = m2.2.2.2 - mA.2.2.2 := by omega
    subst hcc; subst hss
    have hwx : jm_wv m2.1 (.ref x) := hw _ List.mem_cons_self
    have hq : ∀ t : State, t.heap = H → s.WarmedH t.vm → jm_Qc D tys A S ρ0 mA (.inl (some (.ref x)), m2) args s (.returned (some (.ref (ρ x)))) t := fun t ht _ => ⟨⟨ρ, ρ x, rfl, trivial, wb (o := .inl none) hr ha hN t ht, rfl, hwx⟩, hr.2.2.1.F ht⟩
    rcases hty with ⟨C, hty⟩ | ⟨C, hty⟩
    · exact vx_ret (W.aret (v := .ref (ρ x)) X.1 X.2.1 (by rw [X.2.2.1, hty]) (Or.inl ⟨_, rfl⟩) (Or.inr ⟨_, rfl⟩) hq hr.2.2.1.2.2 hdg)
    · exact vx_ret (W.aret (v := .ref (ρ x)) X.1 X.2.1 (by rw [X.2.2.1, hty]) (Or.inr ⟨_, rfl⟩) (Or.inr ⟨_, rfl⟩) hq hr.2.2.1.2.2 hdg)
  · rintro pc lc m2 rfl hty hdg H locs cells slots ls ρ hr hL hw ha hN
    have e1 := hr.2.2.2.2.2.2.2.1
    have e2 := hr.2.2.2.2.2.2.2.2
    have hcc : cells = m2.2.2.1 - mA.2.2.1 := by omega
    have hss : slots = m2.2.2.2 - mA.2.2.2 := by omega
    subst hcc; subst hss
    exact vx_ret (W.vret X.1 X.2.1 (by rw [X.2.2.1, hty]) (fun t ht _ => ⟨⟨ρ, rfl, trivial, wb (o := .inl none) hr ha hN t ht⟩, hr.2.2.1.F ht⟩) hr.2.2.1.2.2 hdg)
  · rintro pc lc st E m2 hmem hsm8 rfl H locs cells slots ls ρ hr hL hw ha hN
    have e1 := hr.2.2.2.2.2.2.2.1
    have e2 := hr.2.2.2.2.2.2.2.2
    have htab : c.exceptionTable.toList = [] := X.2.2.2.2.2.2.2.2.1
    have hout : ∀ k, ∀ x ∈ c.exceptionTable.toList, covers x k = false := by
      intro k x hx
      rw [htab] at hx
      cases hx
    obtain ⟨ik, is, ic, si, i0, i3, hrest, hcl, hini, hsi, hs1, hs2, hat, hfit⟩ := jm_al_mem htk _ hmem
    have hst9 := X.kn.2.2.2.1 si hsi
    rw [hs1, hs2] at hst9
    have hb : ∀ w, (w ∈ jm_WW ∨ (w ∈ jm_NW ∧ w.onTables = true)) → w.before args s = true := fun w hw9 => hw9.elim (X.ts w) (fun h => jm_nwB X h.1 h.2)
    have hgood : ∀ w ∈ Cond.classLink (jm_cn (jm_mO M)) ik E :: Cond.initialized E :: vx_atS (jm_cn (jm_mO M)) ic E jm_sup, vx_ot w = true := by
      have ot : ∀ w, (w ∈ jm_WW ∨ (w ∈ jm_NW ∧ w.onTables = true)) → vx_ot w = true := fun w hw9 => by
        unfold vx_ot
        rcases hw9 with h | h
        · rw [(List.mem_filter.mp h).2, Bool.or_true]
        · rw [h.2, Bool.true_or]
      intro w hw9
      rcases List.mem_cons.mp hw9 with rfl | hw9
      · exact ot _ (Or.inl hcl)
      · rcases List.mem_cons.mp hw9 with rfl | hw9
        · exact ot _ (Or.inl hini)
        · exact ot _ (hat w hw9)
    have hx : ∀ t : State, s.vm.Alike t.vm → H.size ≤ t.heap.size → (∀ q : Nat, q < H.size → t.heap[q]? = H[q]?) → jm_Xc D tys A S ρ0 mA (.inr E, jm_exc m2) E s t := by
      intro t _ hz hq
      refine ⟨ρ, trivial, ⟨rfl, ha, hN, ?_, hr.2.1, hr.mw, hr.2.2.2.2.2.2.1⟩, Nat.le_trans hr.2.2.1.1 hz, fun q h1 h2 => (hq q (Nat.lt_of_lt_of_le h1 hr.2.2.1.1)).trans (hr.2.2.1.2.1 q h1 h2)⟩
      exact hr.1.kept (fun k q hk => hq q.1 ((hr.1 k q hk).lt))
    have hsup : ∀ n ∈ jm_sup, Bundle.fit n = true := by decide +kernel
    obtain ⟨r1, r2⟩ := hR
    obtain ⟨q1, q2⟩ := hrm
    have q1 : m2.2.2.1 + 1 ≤ mA.2.2.1 + R.cells := q1
    have q2 : m2.2.2.2 + 6 ≤ mA.2.2.2 + R.slots := q2
    have hsm := st_catS (st := st) (ρ := ρ) hsm8
    rcases hrest with ⟨i4, i6, i9⟩ | ⟨i4, i7, i10⟩
    · exact vx_throwS (names := jm_sup) X.1 X.2.1 hst X.own hfit hsup (X.ts _ hcl) (X.ts _ hini) hst9 (fun w hw9 => hb w (hat w hw9)) hgood X.kn.2.2.2.2.1 X.kn.2.2.2.2.2.1 hr.2.2.1 (by rw [X.ml]; exact hL.2.1) (X.dc i0) (X.dc i3) (X.dc i4) (X.dc i6) (X.dc i9) (hout _) (by show 2 + 3 < R.frames; omega) (by show _ + (13 * (2 + 1) + 43) ≤ R.locals; omega) (by omega) (by omega) hlocks hx hr.2.2.1.2.2 (by show cells + 1 ≤ (m2.2.2.1 + 1) - mA.2.2.1; omega) (by show slots + 6 ≤ (m2.2.2.2 + 6) - mA.2.2.2; omega)
    · exact vx_throwSW (names := jm_sup) X.1 X.2.1 hst X.own hfit hsup (X.ts _ hcl) (X.ts _ hini) hst9 (fun w hw9 => hb w (hat w hw9)) hgood X.kn.2.2.2.2.1 X.kn.2.2.2.2.2.1 hr.2.2.1 (by rw [X.ml]; exact hL.2.1) (X.dc i0) (X.dc i3) (X.dc i4) (X.dc i7) (X.dc i10) (hout _) (by show 2 + 3 < R.frames; omega) (by show _ + (13 * (2 + 1) + 43) ≤ R.locals; omega) (by omega) (by omega) hlocks hx hr.2.2.1.2.2 (by show cells + 1 ≤ (m2.2.2.1 + 1) - mA.2.2.1; omega) (by show slots + 6 ≤ (m2.2.2.2 + 6) - mA.2.2.2; omega)
  · rintro E pc lc m2 rfl H locs cells slots ls ρ rest ce q hr hL ha hN hce hcv hcls
    have e1 := hr.2.2.2.2.2.2.2.1
    have e2 := hr.2.2.2.2.2.2.2.2
    have htab : c.exceptionTable.toList = [] := X.2.2.2.2.2.2.2.2.1
    refine vx_out (fun x hx => by rw [htab] at hx; cases hx) hlocks hce hcv hcls (fun t ht _ => ⟨ρ, trivial, ⟨rfl, wb (o := .inl none) hr ha hN t ht⟩, hr.2.2.1.F ht⟩) hr.2.2.1.2.2 ?_ ?_
    · show cells ≤ m2.2.2.1 - mA.2.2.1; omega
    · show slots ≤ m2.2.2.2 - mA.2.2.2; omega
end RUN
theorem vx_ofWF {l : Launch} {y : MethodName} {ws ws' : List Cond} {rm : Room} {Pc : Array Value → State → Prop} {Qc : Array Value → State → Outcome → State → Prop} {XC : String → State → State → Prop} {mc ms : Nat} {free : Addr → Prop} {cc : ByteArray} {maxL : Nat} {ret : Option FieldType}
    (hy : plainFor y = true) (hw : ws = Cond.code y cc maxL ret :: ws')
    (body : ∀ p e s m args below meth c s₁, BodyLoose p l y (headSpec ws rm) cc maxL ret e s m args below meth c s₁ → c.maxLocals = maxL → (∀ x ∈ c.exceptionTable.toList, False) → Pc args s →
      W p l e (headSpec ws rm).room s m args below meth c s.heap [] 0 0 (vx_MQ below Qc XC args s mc ms free) (entryFrame m args maxL)) : vx_Met l y ws rm Pc Qc XC mc ms free := by
  refine MetFree.of_bodySF (code := cc) (maxLocals := maxL) (ret := ret) hy ?_ ?_
  · intro args s m h hn
    obtain ⟨meth, c, h1, h2, h3, h4, h5, h6, -, -⟩ := Cond.code_spec hn (atoms_spec (ws := ws) h _ (by rw [hw]; exact List.mem_cons_self))
    exact ⟨meth, c, h1, h2, h3, h4, h5, h6⟩
  · intro p e s m args below meth c s₁ B hml hP _
    have hh0 : s₁.heap = s.heap := by rw [B.state]; rfl
    have ht : ∀ x ∈ c.exceptionTable.toList, False := by
      obtain ⟨meth9, c9, h1, h2, -, -, -, -, h7, -⟩ := Cond.code_spec B.named (atoms_spec (ws := ws) B.pre _ (by rw [hw]; exact List.mem_cons_self))
      cases Option.some.inj (h1.symm.trans B.method)
      cases Option.some.inj (h2.symm.trans (Stand.of_body B).code)
      intro x hx
      rw [Array.isEmpty_iff.mp h7] at hx
      cases hx
    obtain ⟨t, a1, o, b1, b2, b3⟩ := body p e s m args below meth c s₁ B hml ht hP s₁ hh0 (Stand.of_body B)
    exact ⟨t, o, a1, b1, b2, b3⟩
section ENV
variable {l : Launch} {D : va_G} {tys : List (ClassId × FieldType)} {A : Nat → Prop} {S : jm_Sp}
/-- every call within the depth has its contract -/
theorem jm_cs_env (hst : l.stackTraces = false) (hty : jm_tyOk tys) (hdec : ∀ k M, jm_M k = some M → jm_dcs (jm_mC M) 0 (jm_mI M)) : ∀ d : Nat, jm_Cs l D tys A S d (jm_env d) := by
  intro d
  induction d with
  | zero => intro k M2 as m2 r2 _ h; cases h
  | succ d ih =>
    intro k M2 as m2 r2 hM h hok
    have h1 : (match jm_M k with | none => none | some M => if jm_ok M as m2 = true ∧ (jm_la as).length ≤ jm_mL M then jm_R (jm_env d) M 0 (jm_en M as) [] m2 else none) = some r2 := h
    rw [hM] at h1
    dsimp only at h1
    obtain ⟨⟨hjo, hla⟩, h1⟩ := iv_ite h1
    obtain ⟨n, hn⟩ := jm_R_iff.mp h1
    refine ⟨hjo, ?_⟩
    intro ρ hmw hsp hwt hcw
    obtain ⟨h26, hcls, hL30, hstat, hinst, -, hH, htk, hini, hpl⟩ := hok
    have hle : jm_le m2 r2.2 := mo_run (mo_env d) n _ _ _ _ _ hn
    refine vx_ofWF (cc := jm_mC M2) (maxL := jm_mL M2) (ret := jm_mR M2) hpl rfl ?_
    intro p e s m args below meth c s₁ B hml hnt hv
    obtain ⟨rfl, hP, hD, hk⟩ := hv
    have htab : c.exceptionTable.toList = [] := by
      cases hx : c.exceptionTable.toList with
      | nil => rfl
      | cons x y => exact (hnt x (by rw [hx]; exact List.mem_cons_self)).elim
    have hts0 := atoms_spec (ws := jm_cw M2 :: jm_WW) B.pre
    have hown : s.vm.findClass (jm_mY M2).cls = some m.cls := findClass_of_methodNamed B.named
    have X : jm_Fx p s m (as.map (jm_cv ρ)).toArray meth c D tys A S M2 := ⟨B.exec, B.bytes, B.returns, hml, by rw [← hcls]; exact hown, fun w hw => hts0 w (List.mem_cons_of_mem _ hw), B.notSynchronized, (name_of_methodNamed B.named B.method).1, htab, hk, hty, hdec k M2 hM, hL30⟩
    have hR : jm_Rk d (headSpec (jm_cw M2 :: jm_WW) (jm_rm (d + 1) (r2.2.2.2.1 - m2.2.2.1) (r2.2.2.2.2 - m2.2.2.2))).room := ⟨Nat.le_refl _, Nat.le_refl _⟩
    have hrm : r2.2.2.2.1 ≤ m2.2.2.1 + (headSpec (jm_cw M2 :: jm_WW) (jm_rm (d + 1) (r2.2.2.2.1 - m2.2.2.1) (r2.2.2.2.2 - m2.2.2.2))).room.cells ∧ r2.2.2.2.2 ≤ m2.2.2.2 + (headSpec (jm_cw M2 :: jm_WW) (jm_rm (d + 1) (r2.2.2.2.1 - m2.2.2.1) (r2.2.2.2.2 - m2.2.2.2))).room.slots := by
      show r2.2.2.2.1 ≤ m2.2.2.1 + (r2.2.2.2.1 - m2.2.2.1) ∧ r2.2.2.2.2 ≤ m2.2.2.2 + (r2.2.2.2.2 - m2.2.2.2)
      obtain ⟨z1, z2, z3⟩ := hle
      omega
    have hat := sim_run (l := l) (e := e) (below := below) X hR hH ih (mo_env d) (en_own (e := e) (below := below) (ρ0 := ρ) (mA := m2) X hst htk hR hrm) hrm n 0 (jm_en M2 as) [] m2 hn
    rw [lg_entry_eq]
    refine hat s.heap [] 0 0 _ ρ ⟨hP, hD, va_S.rf, hmw.1, hmw.2.1, hmw.2.2, hsp, rfl, rfl⟩ (en_LV hla hwt) (fun v hv => by cases hv) jm_ag.rf (Nat.le_refl _)
end ENV
