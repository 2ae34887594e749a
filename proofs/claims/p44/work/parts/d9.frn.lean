/-! .. for every instruction, every call. -/
section FRN
variable {B q : jm_Mem}
theorem mo_K {F : jm_K → Option jm_Res} (h : jm_mo q F) : ∀ K : jm_K, (∀ pc l st q r, K pc l st q = some r → jm_le q r.2) → ∀ r2, F K = some r2 → jm_le q r2.2 := h
theorem zo_int {n : Nat} (h : jm_int ≤ n) : fP n := Or.inr (Nat.le_trans (by decide) h)
theorem zo_inv {call : jm_Call} (hcm : jm_cM call) (hc : fC B call) {M : jm_Meth} {pc : Nat} {l : jm_Loc} {st : List Value} {e : Nat × Nat × Nat × Nat} (hl : fL l) (hs : fS st) (hm : fI q) : zo B (fun K => jm_inv call M pc l st q K e) (fun K => jm_inv call M pc l st (fM B q) K e) := by
  have bk : ∀ (rk : Nat) (st : List Value), fS st → ∀ (K : jm_K), (∀ pc l st q r, K pc l st q = some r → jm_le q r.2) → ∀ r r2, jm_back rk M pc l st K r = some r2 → jm_le r.2 r2.2 := fun rk st _ K hK r r2 h => mo_back (jm_le.rf _) K hK r2 h
  have bk2 : ∀ (rk : Nat) (st : List Value), fS st → ∀ (K : jm_K), (∀ pc l st q r, K pc l st q = some r → jm_le q r.2) → ∀ r r2, jm_bak rk pc l st K r = some r2 → jm_le r.2 r2.2 := fun rk st _ K hK r r2 h => mo_bak (jm_le.rf _) K hK r2 h
  unfold jm_inv
  generalize e.2.2.1 = z
  split
  · exact zo_pop (fun _ _ h1 h2 => zo_pR h2 fun _ _ h3 h4 => zo_sm (zo_call hcm hc (bk _ _ h4) (fS_R h3 h1) hm fun _ g => zo_back hl h4 g)) _ _ _ hs fS_0
  · exact zo_pop (fun _ _ h1 h2 => zo_sm (zo_call hcm hc (bk _ _ h2) h1 hm fun _ g => zo_back hl h2 g)) _ _ _ hs fS_0
  · exact zo_pop (fun _ _ h1 h2 => zo_pR h2 fun _ _ h3 h4 => zo_sm (zo_call hcm hc (bk2 _ _ h4) (fS_R h3 h1) hm fun _ g => zo_bak hl h4 g)) _ _ _ hs fS_0
  · exact zo_pop (fun _ _ h1 h2 => zo_sm (zo_call hcm hc (bk2 _ _ h2) h1 hm fun _ g => zo_bak hl h2 g)) _ _ _ hs fS_0
  · exact zo_pop (fun _ _ h1 h2 => zo_pR h2 fun _ _ h3 h4 => zo_sm (zo_call hcm hc (bk2 _ _ h4) (fS_R h3 h1) hm fun _ g => zo_bak hl h4 g)) _ _ _ hs fS_0
  · exact zo_pop (fun _ _ h1 h2 => zo_pR h2 fun _ _ h3 h4 => zo_sm (zo_call hcm hc (bk2 _ _ h4) (fS_R h3 h1) hm fun _ g => zo_bak hl h4 g)) _ _ _ hs fS_0
  · exact zo_pop (fun _ _ h1 h2 => zo_pR h2 fun _ _ h3 h4 => zo_sm (zo_call hcm hc (bk2 _ _ h4) (fS_R h3 h1) hm fun _ g => zo_bak hl h4 g)) _ _ _ hs fS_0
  · exact zo_pop (fun _ _ h1 h2 => zo_pR h2 fun _ _ h3 h4 => zo_sm (zo_call hcm hc (bk2 _ _ h4) (fS_R h3 h1) hm fun _ g => zo_bak hl h4 g)) _ _ _ hs fS_0
  · exact zo_pop (fun _ _ h1 h2 => zo_pR h2 fun _ _ h3 h4 => zo_sm (zo_call hcm hc (bk2 _ _ h4) (fS_R h3 h1) hm fun _ g => zo_bak hl h4 g)) _ _ _ hs fS_0
  · exact zo_pR hs fun _ _ _ h4 => zo_sm (zo_k hl h4 hm)
  · exact zo_pI hs fun _ _ h1 => zo_pI h1 fun _ _ h2 => zo_sm (zo_k hl (fS_I h2) hm)
  · exact zo_pI hs fun _ _ h1 => zo_pI h1 fun _ _ h2 => zo_sm (zo_k hl (fS_I h2) hm)
  · exact zo_pL hs fun _ _ h1 => zo_sm (zo_k hl (fS_L h1) hm)
  · exact zo_pL hs fun _ _ h1 => zo_pL h1 fun _ _ h2 => zo_sm (zo_k hl (fS_L h2) hm)
  · exact zo_pI hs fun _ _ h1 => zo_pI h1 fun _ _ h2 => zo_pR h2 fun _ _ h3 h4 => zo_pI h4 fun _ _ h5 => zo_pR h5 fun _ _ h6 h7 => zo_sm (zo_bindW (f_cpY h6 h3) fun _ h => zo_k hl h7 (fi_cpY hm h))
  · exact zo_pR hs fun _ _ h1 h2 => zo_sm (zo_bind (f_gS h1) fun _ _ => zo_k hl (fS_I h2) hm)
  · exact zo_pI hs fun _ _ h1 => zo_pR h1 fun _ _ h0 h2 => zo_sm (zo_bind (f_gS h0) fun _ _ => zo_bind rfl fun _ _ => zo_k hl (fS_I h2) hm)
  · exact zo_pF hs fun _ _ h1 => zo_sm (zo_ite (zo_k hl (fS_I h1) hm) zo_n0)
  · exact zo_pI hs fun _ _ h1 => zo_pI h1 fun _ _ h2 => zo_sm (zo_ite zo_n0 (zo_k hl (fS_I h2) hm))
  · exact zo_pI hs fun _ _ h1 => zo_pI h1 fun _ _ h2 => zo_sm (zo_ite (zo_k hl h2 hm) zo_n0)
  · exact zo_pR hs fun _ _ _ h2 => zo_sm (zo_ite (zo_k hl (fS_I h2) hm) zo_n0)
  · exact zo_pI hs fun _ _ h1 => zo_sm (zo_ite (zo_k hl (fS_R (zo_int (Nat.le_add_right _ _)) h1) hm) zo_n0)
  · exact zo_pI hs fun _ _ h1 => zo_pI h1 fun _ _ h2 => zo_pR h2 fun _ _ h3 h4 => zo_pR h4 fun _ _ h5 h6 => zo_sm (zo_bindW (f_gtb h5 h3) fun _ h => zo_k hl h6 (fi_gtb hm h))
  · exact zo_pI hs fun _ _ h1 => zo_pR h1 fun _ st h2 h3 => zo_sm (zo_cO (p := fun _ => (pc + 3, l, .ref q.1 :: st)) hm)
  · exact zo_pI hs fun _ _ h1 => zo_pI h1 fun _ _ h2 => zo_sm (zo_ite (zo_k hl (fS_I h2) hm) zo_n0)
  · exact zo_pR hs fun _ _ h1 h2 => zo_sm (zo_bind (f_gS h1) fun _ _ => zo_k hl (fS_I h2) hm)
  · exact zo_pR hs fun _ st h2 h3 => zo_sm (zo_cl (p := fun _ => (pc + 3, l, .ref q.1 :: st)) hm)
  · exact zo_n0
theorem zo_iret {M : jm_Meth} {x : Int32} (hm : fI q) : zo B (fun _ => jm_iret M x q) (fun _ => jm_iret M x (fM B q)) := by
  unfold jm_iret
  split
  · exact zo_s hm (fun x e => by cases e)
  · exact zo_B (zo_s hm (fun x e => by cases e))
  · exact zo_ite (zo_s hm (fun x e => by cases e)) zo_n0
  · exact zo_ite (zo_s hm (fun x e => by cases e)) zo_n0
  · exact zo_n0
theorem zo_aret {M : jm_Meth} {x : Nat} (hx : fP x) (hm : fI q) : zo B (fun _ => jm_aret M x q) (fun _ => jm_aret M x (fM B q)) := by
  unfold jm_aret
  split
  · exact zo_s hm (fun y e => by cases e; exact hx)
  · exact zo_s hm (fun y e => by cases e; exact hx)
  · exact zo_n0
theorem zo_tab {t : List (List (Nat × Value))} (h : t.all (fun l => l.all (fun e => match e.2 with | .ref n => decide (jm_str ≤ n) | _ => true)) = true) {c x : Nat} {v : Value} (hv : jm_as t c x = some v) : ∀ y, v = .ref y → fP y := by
  intro y e
  subst e
  unfold jm_as at hv
  obtain ⟨e, he, e2⟩ := Option.map_eq_some_iff.mp hv
  have h1 := List.mem_of_find?_eq_some he
  have h2 : t.getD c [] ∈ t ∨ t.getD c [] = [] := by
    rw [List.getD_eq_getElem?_getD]
    cases hq : t[c]? with
    | none => exact Or.inr rfl
    | some l => exact Or.inl (List.mem_of_getElem? hq)
  rcases h2 with h2 | h2
  · have h3 := List.all_eq_true.mp (List.all_eq_true.mp h _ h2) e h1
    rw [e2] at h3
    exact Or.inr (of_decide_eq_true h3)
  · rw [h2] at h1; cases h1
theorem zo_cst {c x : Nat} {v : Value} (hv : jm_cst c x = some v) : ∀ y, v = .ref y → fP y := zo_tab (by decide +kernel) hv
theorem zo_gst {c x : Nat} {v : Value} (hv : jm_gst c x = some v) : ∀ y, v = .ref y → fP y := zo_tab (by decide +kernel) hv
set_option maxHeartbeats 4000000 in
theorem zo_stp {call : jm_Call} (hcm : jm_cM call) (hc : fC B call) {M : jm_Meth} {pc : Nat} {l : jm_Loc} {st : List Value} (hl : fL l) (hs : fS st) (hm : fI q) : zo B (fun K => jm_stp call M pc l st q K) (fun K => jm_stp call M pc l st (fM B q) K) := by
  unfold jm_stp
  generalize jm_ins M pc = z
  rcases z with _ | ⟨i, n⟩
  · exact zo_n0
  · cases i
    case bipush => exact zo_n (zo_ite (zo_k hl (fS_I hs) hm) zo_n0)
    case sipush => exact zo_n (zo_ite (zo_k hl (fS_I hs) hm) zo_n0)
    case fconst v =>
      refine zo_n ?_
      (try dsimp only)
      split <;> exact zo_k hl (fS_F hs) hm
    case dconst v =>
      refine zo_n ?_
      (try dsimp only)
      split
      · exact zo_k hl (fS_D hs) hm
      · exact zo_n0
    case ldc x =>
      refine zo_n ?_
      (try dsimp only)
      cases hq : jm_cst (jm_mO M) x with
      | none => exact zo_n0
      | some v =>
        have hv := zo_cst hq
        cases v <;> first | exact zo_n0 | exact zo_k hl (fS_c hv hs) hm
    case ldc_w x =>
      refine zo_n ?_
      (try dsimp only)
      split
      · exact zo_k hl (fS_F hs) hm
      · exact zo_n0
    case ldc2_w x =>
      refine zo_n ?_
      (try dsimp only)
      split
      · exact zo_k hl (fS_L hs) hm
      · exact zo_n0
    case dup =>
      refine zo_n ?_
      (try dsimp only)
      split
      · exact zo_k hl (fS_I hs) hm
      · exact zo_k hl (fS_R (fS_r hs) hs) hm
      · exact zo_n0
    case dup2 =>
      refine zo_n ?_
      (try dsimp only)
      split
      · exact zo_k hl (fS_I (fS_R (fS_r (fS_t hs)) hs)) hm
      · exact zo_k hl (fS_L hs) hm
      · exact zo_n0
    case dup_x1 =>
      refine zo_n ?_
      (try dsimp only)
      split
      · exact zo_k hl (fS_R (fS_r hs) (fS_R (fS_r (fS_t hs)) (fS_R (fS_r hs) (fS_t (fS_t hs))))) hm
      · exact zo_k hl (fS_I (fS_R (fS_r (fS_t hs)) (fS_I (fS_t (fS_t hs))))) hm
      · exact zo_n0
    case pop =>
      refine zo_n ?_
      (try dsimp only)
      split
      · exact zo_k hl (fS_t hs) hm
      · exact zo_k hl (fS_t hs) hm
      · exact zo_n0
    case tableswitch d lo hi offs =>
      refine zo_pI hs fun x st h1 => zo_ite (zo_tg fun _ => zo_k hl h1 hm) ?_
      generalize offs[(x.toInt - lo).toNat]? = z
      cases z with
      | none => exact zo_n0
      | some o => exact zo_tg fun _ => zo_k hl h1 hm
    case getfield x =>
      refine zo_n (zo_pR hs fun r st h1 h2 => ?_)
      generalize jm_fld (jm_mO M) x = z
      (try dsimp only)
      split
      · exact zo_bind (f_gI h1) fun _ _ => zo_k hl (fS_I h2) hm
      · exact zo_bind (f_gI h1) fun _ _ => zo_k hl (fS_I h2) hm
      · exact zo_bind (f_gL h1) fun _ _ => zo_k hl (fS_L h2) hm
      · exact zo_bind (f_gR h1) fun _ h => zo_k hl (fS_R (fi_gR hm h1 h) h2) hm
      · exact zo_bind (f_gI h1) fun _ _ => zo_k hl (fS_I h2) hm
      · exact zo_n0
    case putfield x =>
      refine zo_n ?_
      generalize jm_fld (jm_mO M) x = z
      rcases z with _ | ⟨ci, k, kd, fin⟩
      · exact zo_n0
      · dsimp only
        refine zo_ite zo_n0 ?_
        split
        · exact zo_pI hs fun _ _ h1 => zo_pR h1 fun _ _ h2 h3 => zo_bindW (f_put h2) fun _ h => zo_k hl h3 (fi_put hm (fun _ e => by cases e) h2 h)
        · exact zo_pI hs fun _ _ h1 => zo_pR h1 fun _ _ h2 h3 => zo_B (zo_bindW (f_put h2) fun _ h => zo_k hl h3 (fi_put hm (fun _ e => by cases e) h2 h))
        · exact zo_pL hs fun _ _ h1 => zo_pR h1 fun _ _ h2 h3 => zo_bindW (f_put h2) fun _ h => zo_k hl h3 (fi_put hm (fun _ e => by cases e) h2 h)
        · exact zo_pR hs fun _ _ h0 h1 => zo_pR h1 fun _ _ h2 h3 => zo_bindW (f_put h2) fun _ h => zo_k hl h3 (fi_put hm (fun _ e => by cases e; exact h0) h2 h)
        · exact zo_pI hs fun _ _ h1 => zo_pR h1 fun _ _ h2 h3 => zo_ite (zo_bindW (f_put h2) fun _ h => zo_k hl h3 (fi_put hm (fun _ e => by cases e) h2 h)) zo_n0
        · exact zo_n0
    case new x =>
      refine zo_n ?_
      generalize (jm_mT M).find? (fun e => e.1 == pc) = z
      cases z with
      | some e => exact zo_sm (zo_s (q := jm_exc q) ⟨hm.1, hm.2⟩ (fun x e => by cases e))
      | none =>
        (try dsimp only)
        cases hq : jm_cls (jm_mO M) x with
        | none => exact zo_n0
        | some y =>
          obtain ⟨ci, fs⟩ := y
          exact zo_mk (p := fun _ => (pc + 3, l, .ref q.1 :: st)) hm
    case newarray b =>
      refine zo_n (zo_pI hs fun k st h1 => zo_ite zo_n0 ?_)
      exact zo_bind rfl fun _ hz => zo_mk (p := fun _ => (pc + 2, l, .ref q.1 :: st)) hm
    case anewarray x =>
      refine zo_n (zo_pI hs fun k st h1 => zo_ite zo_n0 ?_)
      generalize jm_acl (jm_mO M) x = y
      rcases y with _ | t
      · exact zo_n0
      · exact zo_mk (p := fun _ => (pc + 3, l, .ref q.1 :: st)) hm
    case invokevirtual x =>
      refine zo_n ?_
      generalize jm_mth (jm_mO M) x = z
      split <;> first | exact zo_inv hcm hc hl hs hm | exact zo_n0
    case invokestatic x =>
      refine zo_n ?_
      generalize jm_mth (jm_mO M) x = z
      split <;> first | exact zo_inv hcm hc hl hs hm | exact zo_n0
    case invokespecial x =>
      refine zo_n ?_
      generalize jm_mth (jm_mO M) x = z
      split <;> first | exact zo_inv hcm hc hl hs hm | exact zo_n0
    case invokeinterface x k =>
      refine zo_n ?_
      generalize jm_mth (jm_mO M) x = z
      split <;> first | exact zo_ite (zo_inv hcm hc hl hs hm) zo_n0 | exact zo_n0
    case i2c => exact zo_n (zo_pI hs fun _ _ h1 => zo_ite (zo_k hl (fS_I h1) hm) zo_n0)
    case if_acmp c off =>
      refine zo_n (zo_pR hs fun _ _ _ h1 => zo_pR h1 fun _ _ _ h2 => zo_ite ?_ zo_n0)
      cases c
      · exact zo_tg fun _ => zo_k hl h2 hm
      · exact zo_k hl h2 hm
    case ifnonnull => exact zo_n (zo_pR hs fun _ _ _ h1 => zo_tg fun _ => zo_k hl h1 hm)
    case getstatic x =>
      refine zo_n ?_
      cases hq : jm_gst (jm_mO M) x with
      | none => exact zo_n0
      | some v => exact zo_k hl (fS_c (zo_gst hq) hs) hm
    case checkcast x =>
      refine zo_n (zo_pR hs fun r _ h1 h2 => ?_)
      generalize jm_cas (jm_mO M) x = z
      cases z with
      | none => exact zo_n0
      | some v =>
        simp only [f_caO h1]
        exact zo_ite (zo_k hl (fS_R h1 h2) hm) zo_n0
    case areturn =>
      refine zo_n ?_
      split
      · exact zo_aret (fS_r hs) hm
      · exact zo_n0
    case aconst_null => exact zo_n (zo_k hl (fS_N hs) hm)
    case idiv => exact zo_n (zo_pI hs fun _ _ h1 => zo_pI h1 fun _ _ h2 => zo_ite zo_n0 (zo_k hl (fS_I h2) hm))
    case irem => exact zo_n (zo_pI hs fun _ _ h1 => zo_pI h1 fun _ _ h2 => zo_ite zo_n0 (zo_k hl (fS_I h2) hm))
    case ldiv => exact zo_n (zo_pL hs fun _ _ h1 => zo_pL h1 fun _ _ h2 => zo_ite zo_n0 (zo_k hl (fS_L h2) hm))
    case fsub => exact zo_n (zo_pF hs fun _ _ h1 => zo_pF h1 fun _ _ h2 => zo_n32 (zo_k hl (fS_F h2) hm))
    case fmul => exact zo_n (zo_pF hs fun _ _ h1 => zo_pF h1 fun _ _ h2 => zo_n32 (zo_k hl (fS_F h2) hm))
    case fdiv => exact zo_n (zo_pF hs fun _ _ h1 => zo_pF h1 fun _ _ h2 => zo_n32 (zo_k hl (fS_F h2) hm))
    case ddiv => exact zo_n (zo_pD hs fun _ _ h1 => zo_pD h1 fun _ _ h2 => zo_n64 (zo_k hl (fS_D h2) hm))
    case ifCond => exact zo_n (zo_pI hs fun _ _ h1 => zo_tg fun _ => zo_cond (zo_k hl h1 hm) (zo_k hl h1 hm))
    case if_icmp => exact zo_n (zo_pI hs fun _ _ h1 => zo_pI h1 fun _ _ h2 => zo_tg fun _ => zo_cond (zo_k hl h2 hm) (zo_k hl h2 hm))
    case goto => exact zo_n (zo_tg fun _ => zo_k hl hs hm)
    case arraylength => exact zo_n (zo_pR hs fun _ _ h1 h2 => zo_bind (f_len h1) fun _ _ => zo_k hl (fS_I h2) hm)
    case iaload => exact zo_n (zo_pI hs fun _ _ h1 => zo_pR h1 fun _ _ h3 h2 => zo_bind (f_aI h3) fun _ _ => zo_k hl (fS_I h2) hm)
    case baload => exact zo_n (zo_pI hs fun _ _ h1 => zo_pR h1 fun _ _ h3 h2 => zo_bind (f_aY h3) fun _ _ => zo_k hl (fS_I h2) hm)
    case laload => exact zo_n (zo_pI hs fun _ _ h1 => zo_pR h1 fun _ _ h3 h2 => zo_bind (f_aL h3) fun _ _ => zo_k hl (fS_L h2) hm)
    case daload => exact zo_n (zo_pI hs fun _ _ h1 => zo_pR h1 fun _ _ h3 h2 => zo_bind (f_aD h3) fun _ _ => zo_k hl (fS_D h2) hm)
    case aaload => exact zo_n (zo_pI hs fun _ _ h1 => zo_pR h1 fun _ _ h3 h2 => zo_bind (f_aQ h3) fun _ h => zo_k hl (fS_R (fi_aQ hm h3 h) h2) hm)
    case iastore => exact zo_n (zo_pI hs fun _ _ h1 => zo_pI h1 fun _ _ h2 => zo_pR h2 fun _ _ h3 h4 => zo_bindW (f_wI h3) fun _ h => zo_k hl h4 (fi_wI hm h))
    case bastore => exact zo_n (zo_pI hs fun _ _ h1 => zo_pI h1 fun _ _ h2 => zo_pR h2 fun _ _ h3 h4 => zo_bindW (f_wY h3) fun _ h => zo_k hl h4 (fi_wY hm h))
    case lastore => exact zo_n (zo_pL hs fun _ _ h1 => zo_pI h1 fun _ _ h2 => zo_pR h2 fun _ _ h3 h4 => zo_bindW (f_wL h3) fun _ h => zo_k hl h4 (fi_wL hm h))
    case dastore => exact zo_n (zo_pD hs fun _ _ h1 => zo_pI h1 fun _ _ h2 => zo_pR h2 fun _ _ h3 h4 => zo_bindW (f_wD h3) fun _ h => zo_k hl h4 (fi_wD hm h))
    case aastore => exact zo_n (zo_pR hs fun _ _ h0 h1 => zo_pI h1 fun _ _ h2 => zo_pR h2 fun _ _ h3 h4 => zo_bindW (f_wQ h3 h0) fun _ h => zo_k hl h4 (fi_wQ hm h0 h3 h))
    case ireturn =>
      refine zo_n ?_
      split
      · exact zo_iret hm
      · exact zo_n0
    case lreturn =>
      refine zo_n ?_
      split
      · exact zo_ite (zo_s hm (fun x e => by cases e)) zo_n0
      · exact zo_n0
    case dreturn =>
      refine zo_n ?_
      split
      · exact zo_ite (zo_s hm (fun x e => by cases e)) zo_n0
      · exact zo_n0
    case return_ =>
      refine zo_n ?_
      split
      · exact zo_s hm (fun x e => by cases e)
      · exact zo_n0
    all_goals first
      | exact zo_n0
      | exact zo_n (zo_k hl (fS_I hs) hm)
      | exact zo_n (zo_k hl (fS_L hs) hm)
      | exact zo_n (zo_k hl hs hm)
      | exact zo_n zo_n0
      | exact zo_n (zo_lI fun _ => zo_k hl (fS_I hs) hm)
      | exact zo_n (zo_lL fun _ => zo_k hl (fS_L hs) hm)
      | exact zo_n (zo_lF fun _ => zo_k hl (fS_F hs) hm)
      | exact zo_n (zo_lD fun _ => zo_k hl (fS_D hs) hm)
      | exact zo_n (zo_lR hl fun _ h => zo_k hl (fS_R h hs) hm)
      | exact zo_n (zo_in (zo_pI hs fun _ _ h1 => zo_k (fL_1 hl (fun _ e => by cases e)) h1 hm))
      | exact zo_n (zo_in (zo_pL hs fun _ _ h1 => zo_k (fL_2 hl (fun _ e => by cases e)) h1 hm))
      | exact zo_n (zo_in (zo_pF hs fun _ _ h1 => zo_k (fL_1 hl (fun _ e => by cases e)) h1 hm))
      | exact zo_n (zo_in (zo_pD hs fun _ _ h1 => zo_k (fL_2 hl (fun _ e => by cases e)) h1 hm))
      | exact zo_n (zo_in (zo_pR hs fun _ _ h0 h1 => zo_k (fL_1R hl h0) h1 hm))
      | exact zo_n (zo_in (zo_lI fun _ => zo_k (fL_1 hl (fun _ e => by cases e)) hs hm))
      | exact zo_n (zo_pI hs fun _ _ h1 => zo_k hl (fS_I h1) hm)
      | exact zo_n (zo_pI hs fun _ _ h1 => zo_k hl (fS_L h1) hm)
      | exact zo_n (zo_pI hs fun _ _ h1 => zo_k hl (fS_D h1) hm)
      | exact zo_n (zo_pL hs fun _ _ h1 => zo_k hl (fS_L h1) hm)
      | exact zo_n (zo_pL hs fun _ _ h1 => zo_k hl (fS_I h1) hm)
      | exact zo_n (zo_pL hs fun _ _ h1 => zo_k hl (fS_F h1) hm)
      | exact zo_n (zo_pL hs fun _ _ h1 => zo_k hl (fS_D h1) hm)
      | exact zo_n (zo_pF hs fun _ _ h1 => zo_k hl (fS_I h1) hm)
      | exact zo_n (zo_pI hs fun _ _ h1 => zo_pI h1 fun _ _ h2 => zo_k hl (fS_I h2) hm)
      | exact zo_n (zo_pL hs fun _ _ h1 => zo_pL h1 fun _ _ h2 => zo_k hl (fS_L h2) hm)
      | exact zo_n (zo_pL hs fun _ _ h1 => zo_pL h1 fun _ _ h2 => zo_k hl (fS_I h2) hm)
      | exact zo_n (zo_pF hs fun _ _ h1 => zo_pF h1 fun _ _ h2 => zo_k hl (fS_I h2) hm)
      | exact zo_n (zo_pD hs fun _ _ h1 => zo_pD h1 fun _ _ h2 => zo_k hl (fS_I h2) hm)
theorem zo_run {call : jm_Call} (hcm : jm_cM call) (hc : fC B call) {M : jm_Meth} : ∀ (n pc : Nat) (l : jm_Loc) (st : List Value) (q : jm_Mem) (r : jm_Res), fL l → fS st → fI q → jm_run call M n pc l st q = some r → r.2.1 = 411 → jm_run call M n pc l st (fM B q) = some (fR B r) ∧ fG r := by
  intro n
  induction n with
  | zero => intro pc l st q r _ _ _ h; cases h
  | succ n ih => intro pc l st q r hl hs hm h h1; exact zo_stp hcm hc hl hs hm (jm_run call M n) (jm_run call M n) (fun pc l st q r h => mo_run hcm n pc l st q r h) ih r h h1
theorem fL_la : ∀ {as : List Value}, fS as → fL (jm_la as)
  | [], _ => fun x hx => by cases hx
  | v :: as, h => by
    have h1 : fL (jm_la as) := fL_la (fS_t h)
    have h2 : ∀ x, some (.ref x) = some v → fP x := fun x e => h x (by rw [Option.some.inj e]; exact List.mem_cons_self)
    show fL (if v.category = 2 then some v :: none :: jm_la as else some v :: jm_la as)
    split
    · intro x hx
      rcases List.mem_cons.mp hx with e | e
      · exact h2 x e
      · rcases List.mem_cons.mp e with e | e
        · cases e
        · exact h1 x e
    · intro x hx
      rcases List.mem_cons.mp hx with e | e
      · exact h2 x e
      · exact h1 x e
theorem zo_ok {M : jm_Meth} {as : List Value} (ha : fS as) (h : jm_ok M as q = true) : jm_ok M as (fM B q) = true := by
  unfold jm_ok at h ⊢
  generalize jm_mS M = b at h ⊢
  cases b
  · cases as with
    | nil => cases h
    | cons v as => cases v <;> first | cases h | (show jm_isC (fM B q) _ _ = true; rw [f_isC (ha _ List.mem_cons_self)]; exact h)
  · rfl
theorem zo_env : ∀ d : Nat, fC B (jm_env d) := by
  intro d
  induction d with
  | zero => intro k as q r _ _ h; cases h
  | succ d ih =>
    intro k as q r has hm h h1
    have h2 : (match jm_M k with | none => none | some M => if jm_ok M as q = true ∧ (jm_la as).length ≤ jm_mL M then jm_R (jm_env d) M 0 (jm_en M as) [] q else none) = some r := h
    cases hM : jm_M k with
    | none => rw [hM] at h2; cases h2
    | some M =>
      rw [hM] at h2
      dsimp only at h2
      by_cases hk : jm_ok M as q = true ∧ (jm_la as).length ≤ jm_mL M
      · rw [if_pos hk] at h2
        obtain ⟨n, hn⟩ := jm_R_iff.mp h2
        obtain ⟨e, g⟩ := zo_run (mo_env d) ih n _ _ _ _ _ (fun x hx => by
          rcases List.mem_append.mp hx with e | e
          · exact fL_la has x e
          · have := (List.mem_replicate.mp e).2; cases this) fS_0 hm hn h1
        refine ⟨?_, g⟩
        rw [jm_env_i hM (zo_ok has hk.1) hk.2]
        exact jm_R_iff.mpr ⟨n, e⟩
      · rw [if_neg hk] at h2; cases h2
end FRN
