-- uses 24.zar e3.uxa
section UXB
variable {a : Nat} {e0 : jm_Ent} {m : jm_Mem}
def uxC (a : Nat) (e0 : jm_Ent) (call : jm_Call) : Prop := ∀ k as m r, uxS a as → uxM a e0 m → call k as m = some r → uxR a e0 r
theorem ux_inv {call : jm_Call} (hc : uxC a e0 call) {M : jm_Meth} {pc : Nat} {l : jm_Loc} {st : List Value} {e : Nat × Nat × Nat × Nat} (hl : uxL a l) (hs : uxS a st) (hm : uxM a e0 m) : uxo a e0 (fun K => jm_inv call M pc l st m K e) := by
  unfold jm_inv
  generalize e.2.2.1 = z
  split
  · exact ux_pop (fun _ _ h1 h2 => ux_pR h2 fun _ _ h3 h4 => ux_sm (ux_bind fun _ h => ux_back hl h4 (hc _ _ _ _ (uxS_R h3 h1) hm h))) _ _ _ hs uxS_0
  · exact ux_pop (fun _ _ h1 h2 => ux_sm (ux_bind fun _ h => ux_back hl h2 (hc _ _ _ _ h1 hm h))) _ _ _ hs uxS_0
  · exact ux_pop (fun _ _ h1 h2 => ux_pR h2 fun _ _ h3 h4 => ux_sm (ux_bind fun _ h => ux_bak hl h4 (hc _ _ _ _ (uxS_R h3 h1) hm h))) _ _ _ hs uxS_0
  · exact ux_pop (fun _ _ h1 h2 => ux_sm (ux_bind fun _ h => ux_bak hl h2 (hc _ _ _ _ h1 hm h))) _ _ _ hs uxS_0
  · exact ux_pop (fun _ _ h1 h2 => ux_pR h2 fun _ _ h3 h4 => ux_sm (ux_bind fun _ h => ux_bak hl h4 (hc _ _ _ _ (uxS_R h3 h1) hm h))) _ _ _ hs uxS_0
  · exact ux_pR hs fun _ _ _ h4 => ux_sm (ux_k hl h4 hm)
  · exact ux_pI hs fun _ _ h1 => ux_pI h1 fun _ _ h2 => ux_sm (ux_k hl (uxS_I h2) hm)
  · exact ux_pI hs fun _ _ h1 => ux_pI h1 fun _ _ h2 => ux_sm (ux_k hl (uxS_I h2) hm)
  · exact ux_pL hs fun _ _ h1 => ux_sm (ux_k hl (uxS_L h1) hm)
  · exact ux_pL hs fun _ _ h1 => ux_pL h1 fun _ _ h2 => ux_sm (ux_k hl (uxS_L h2) hm)
  · exact ux_pI hs fun _ _ h1 => ux_pI h1 fun _ _ h2 => ux_pR h2 fun _ _ h3 h4 => ux_pI h4 fun _ _ h5 => ux_pR h5 fun _ _ h6 h7 => ux_sm (ux_bind fun _ h => ux_k hl h7 (ux_cpy hm h3 h))
  · exact ux_pR hs fun _ _ _ h2 => ux_sm (ux_bind fun _ _ => ux_k hl (uxS_I h2) hm)
  · exact ux_pI hs fun _ _ h1 => ux_pR h1 fun _ _ _ h2 => ux_sm (ux_bind fun _ _ => ux_bind fun _ _ => ux_k hl (uxS_I h2) hm)
  · exact ux_pF hs fun _ _ h1 => ux_sm (ux_ite (ux_k hl (uxS_I h1) hm) ux_n0)
  · exact ux_pI hs fun _ _ h1 => ux_pI h1 fun _ _ h2 => ux_sm (ux_ite ux_n0 (ux_k hl (uxS_I h2) hm))
  · exact ux_n0
theorem ux_iret {M : jm_Meth} {x : Int32} (hm : uxM a e0 m) : uxo a e0 (fun _ => jm_iret M x m) := by
  unfold jm_iret
  split
  · exact ux_s hm (fun x q => by cases q; exact fun q => by cases q)
  · exact ux_B (ux_s hm (fun x q => by cases q; exact fun q => by cases q))
  · exact ux_n0
set_option maxHeartbeats 4000000 in
theorem ux_stp {call : jm_Call} (ha : a < jm_str) (hc : uxC a e0 call) {M : jm_Meth} {pc : Nat} {l : jm_Loc} {st : List Value} (hl : uxL a l) (hs : uxS a st) (hm : uxM a e0 m) : uxo a e0 (fun K => jm_stp call M pc l st m K) := by
  unfold jm_stp
  generalize jm_ins M pc = z
  rcases z with _ | ⟨i, n⟩
  · exact ux_n0
  · cases i
    case bipush => exact ux_n (ux_ite (ux_k hl (uxS_I hs) hm) ux_n0)
    case sipush => exact ux_n (ux_ite (ux_k hl (uxS_I hs) hm) ux_n0)
    case fconst v =>
      refine ux_n ?_
      (try dsimp only)
      split <;> exact ux_k hl (uxS_F hs) hm
    case dconst v =>
      refine ux_n ?_
      (try dsimp only)
      split
      · exact ux_k hl (uxS_D hs) hm
      · exact ux_n0
    case ldc x =>
      refine ux_n ?_
      (try dsimp only)
      cases hq : jm_cst (jm_mO M) x with
      | none => exact ux_n0
      | some v =>
        have hv := ux_cst ha hq
        cases v <;> first | exact ux_n0 | exact ux_k hl (uxS_c hv hs) hm
    case ldc_w x =>
      refine ux_n ?_
      (try dsimp only)
      split
      · exact ux_k hl (uxS_F hs) hm
      · exact ux_n0
    case ldc2_w x =>
      refine ux_n ?_
      (try dsimp only)
      split
      · exact ux_k hl (uxS_L hs) hm
      · exact ux_n0
    case dup =>
      refine ux_n ?_
      (try dsimp only)
      split
      · exact ux_k hl (uxS_I hs) hm
      · exact ux_k hl (uxS_R (uxS_r hs) hs) hm
      · exact ux_n0
    case dup2 =>
      refine ux_n ?_
      (try dsimp only)
      split
      · exact ux_k hl (uxS_I (uxS_R (uxS_r (uxS_t hs)) hs)) hm
      · exact ux_k hl (uxS_L hs) hm
      · exact ux_n0
    case pop =>
      refine ux_n ?_
      (try dsimp only)
      split
      · exact ux_k hl (uxS_t hs) hm
      · exact ux_k hl (uxS_t hs) hm
      · exact ux_n0
    case tableswitch d lo hi offs =>
      refine ux_pI hs fun x st h1 => ux_ite (ux_tg fun _ => ux_k hl h1 hm) ?_
      generalize offs[(x.toInt - lo).toNat]? = z
      cases z with
      | none => exact ux_n0
      | some o => exact ux_tg fun _ => ux_k hl h1 hm
    case getfield x =>
      refine ux_n (ux_pR hs fun r st h1 h2 => ?_)
      generalize jm_fld (jm_mO M) x = z
      (try dsimp only)
      split
      · exact ux_bind fun _ _ => ux_k hl (uxS_I h2) hm
      · exact ux_bind fun _ _ => ux_k hl (uxS_I h2) hm
      · exact ux_bind fun _ _ => ux_k hl (uxS_L h2) hm
      · exact ux_bind fun _ h => ux_k hl (uxS_R (ux_gR hm h) h2) hm
      · exact ux_n0
    case putfield x =>
      refine ux_n ?_
      generalize jm_fld (jm_mO M) x = z
      rcases z with _ | ⟨ci, k, kd, fin⟩
      · exact ux_n0
      · dsimp only
        refine ux_ite ux_n0 ?_
        split
        · exact ux_pI hs fun _ _ h1 => ux_pR h1 fun _ _ h2 h3 => ux_bind fun _ h => ux_k hl h3 (ux_put hm h2 (fun q => by cases q) h)
        · exact ux_pI hs fun _ _ h1 => ux_pR h1 fun _ _ h2 h3 => ux_B (ux_bind fun _ h => ux_k hl h3 (ux_put hm h2 (fun q => by cases q) h))
        · exact ux_pL hs fun _ _ h1 => ux_pR h1 fun _ _ h2 h3 => ux_bind fun _ h => ux_k hl h3 (ux_put hm h2 (fun q => by cases q) h)
        · exact ux_pR hs fun _ _ h0 h1 => ux_pR h1 fun _ _ h2 h3 => ux_bind fun _ h => ux_k hl h3 (ux_put hm h2 (fun q => by cases q; exact h0 rfl) h)
        · exact ux_n0
    case new x =>
      refine ux_n ?_
      generalize (jm_mT M).find? (fun e => e.1 == pc) = z
      cases z with
      | some e => exact ux_sm (ux_s (m := jm_exc m) ⟨hm.1, hm.2.1, hm.2.2⟩ (fun x q => by cases q))
      | none =>
        (try dsimp only)
        cases hq : jm_cls (jm_mO M) x with
        | none => exact ux_n0
        | some y =>
          obtain ⟨ci, fs⟩ := y
          exact ux_mk hm (ux_cls ha hq) fun _ h => ux_k hl (uxS_R (by have := hm.1; omega) hs) h
    case newarray b =>
      exact ux_n (ux_pI hs fun _ _ h1 => ux_ite ux_n0 (ux_bind fun _ hz => ux_mk hm (ux_zero hz) fun _ h => ux_k hl (uxS_R (by have := hm.1; omega) h1) h))
    case anewarray x =>
      refine ux_n (ux_pI hs fun _ _ h1 => ux_ite ux_n0 ?_)
      generalize jm_acl (jm_mO M) x = y
      rcases y with _ | t
      · exact ux_n0
      · exact ux_mk hm (fun k q => by cases q) fun _ h => ux_k hl (uxS_R (by have := hm.1; omega) h1) h
    case invokevirtual x =>
      refine ux_n ?_
      generalize jm_mth (jm_mO M) x = z
      split <;> first | exact ux_inv hc hl hs hm | exact ux_n0
    case invokestatic x =>
      refine ux_n ?_
      generalize jm_mth (jm_mO M) x = z
      split <;> first | exact ux_inv hc hl hs hm | exact ux_n0
    case invokespecial x =>
      refine ux_n ?_
      generalize jm_mth (jm_mO M) x = z
      split <;> first | exact ux_inv hc hl hs hm | exact ux_n0
    case idiv => exact ux_n (ux_pI hs fun _ _ h1 => ux_pI h1 fun _ _ h2 => ux_ite ux_n0 (ux_k hl (uxS_I h2) hm))
    case irem => exact ux_n (ux_pI hs fun _ _ h1 => ux_pI h1 fun _ _ h2 => ux_ite ux_n0 (ux_k hl (uxS_I h2) hm))
    case ldiv => exact ux_n (ux_pL hs fun _ _ h1 => ux_pL h1 fun _ _ h2 => ux_ite ux_n0 (ux_k hl (uxS_L h2) hm))
    case fsub => exact ux_n (ux_pF hs fun _ _ h1 => ux_pF h1 fun _ _ h2 => ux_n32 (ux_k hl (uxS_F h2) hm))
    case fmul => exact ux_n (ux_pF hs fun _ _ h1 => ux_pF h1 fun _ _ h2 => ux_n32 (ux_k hl (uxS_F h2) hm))
    case fdiv => exact ux_n (ux_pF hs fun _ _ h1 => ux_pF h1 fun _ _ h2 => ux_n32 (ux_k hl (uxS_F h2) hm))
    case ddiv => exact ux_n (ux_pD hs fun _ _ h1 => ux_pD h1 fun _ _ h2 => ux_n64 (ux_k hl (uxS_D h2) hm))
    case ifCond => exact ux_n (ux_pI hs fun _ _ h1 => ux_tg fun _ => ux_cond (ux_k hl h1 hm) (ux_k hl h1 hm))
    case if_icmp => exact ux_n (ux_pI hs fun _ _ h1 => ux_pI h1 fun _ _ h2 => ux_tg fun _ => ux_cond (ux_k hl h2 hm) (ux_k hl h2 hm))
    case goto => exact ux_n (ux_tg fun _ => ux_k hl hs hm)
    case iastore => exact ux_n (ux_pI hs fun _ _ h1 => ux_pI h1 fun _ _ h2 => ux_pR h2 fun _ _ h3 h4 => ux_bind fun _ h => ux_k hl h4 (ux_wI hm h3 h))
    case bastore => exact ux_n (ux_pI hs fun _ _ h1 => ux_pI h1 fun _ _ h2 => ux_pR h2 fun _ _ h3 h4 => ux_bind fun _ h => ux_k hl h4 (ux_wZ hm h3 h))
    case lastore => exact ux_n (ux_pL hs fun _ _ h1 => ux_pI h1 fun _ _ h2 => ux_pR h2 fun _ _ h3 h4 => ux_bind fun _ h => ux_k hl h4 (ux_wL hm h3 h))
    case dastore => exact ux_n (ux_pD hs fun _ _ h1 => ux_pI h1 fun _ _ h2 => ux_pR h2 fun _ _ h3 h4 => ux_bind fun _ h => ux_k hl h4 (ux_wD hm h3 h))
    case aastore => exact ux_n (ux_pR hs fun _ _ h0 h1 => ux_pI h1 fun _ _ h2 => ux_pR h2 fun _ _ h3 h4 => ux_bind fun _ h => ux_k hl h4 (ux_wR hm h0 h3 h))
    case aaload => exact ux_n (ux_pI hs fun _ _ h1 => ux_pR h1 fun _ _ _ h2 => ux_bind fun _ h => ux_k hl (uxS_R (ux_aR hm h) h2) hm)
    case ireturn =>
      refine ux_n ?_
      split
      · exact ux_iret hm
      · exact ux_n0
    case lreturn =>
      refine ux_n ?_
      split
      · exact ux_ite (ux_s hm (fun x q => by cases q; exact fun q => by cases q)) ux_n0
      · exact ux_n0
    case dreturn =>
      refine ux_n ?_
      split
      · exact ux_ite (ux_s hm (fun x q => by cases q; exact fun q => by cases q)) ux_n0
      · exact ux_n0
    case return_ =>
      refine ux_n ?_
      split
      · exact ux_s hm (fun x q => by cases q)
      · exact ux_n0
    all_goals first
      | exact ux_n0
      | exact ux_n (ux_k hl (uxS_I hs) hm)
      | exact ux_n (ux_k hl (uxS_L hs) hm)
      | exact ux_n (ux_k hl hs hm)
      | exact ux_n ux_n0
      | exact ux_n (ux_lI fun _ => ux_k hl (uxS_I hs) hm)
      | exact ux_n (ux_lL fun _ => ux_k hl (uxS_L hs) hm)
      | exact ux_n (ux_lF fun _ => ux_k hl (uxS_F hs) hm)
      | exact ux_n (ux_lD fun _ => ux_k hl (uxS_D hs) hm)
      | exact ux_n (ux_lR hl fun _ h => ux_k hl (uxS_R h hs) hm)
      | exact ux_n (ux_in (ux_pI hs fun _ _ h1 => ux_k (uxL_1 hl (fun q => by cases q)) h1 hm))
      | exact ux_n (ux_in (ux_pL hs fun _ _ h1 => ux_k (uxL_2 hl (fun q => by cases q)) h1 hm))
      | exact ux_n (ux_in (ux_pF hs fun _ _ h1 => ux_k (uxL_1 hl (fun q => by cases q)) h1 hm))
      | exact ux_n (ux_in (ux_pD hs fun _ _ h1 => ux_k (uxL_2 hl (fun q => by cases q)) h1 hm))
      | exact ux_n (ux_in (ux_pR hs fun _ _ h0 h1 => ux_k (uxL_1R hl h0) h1 hm))
      | exact ux_n (ux_in (ux_lI fun _ => ux_k (uxL_1 hl (fun q => by cases q)) hs hm))
      | exact ux_n (ux_pI hs fun _ _ h1 => ux_k hl (uxS_I h1) hm)
      | exact ux_n (ux_pI hs fun _ _ h1 => ux_k hl (uxS_L h1) hm)
      | exact ux_n (ux_pI hs fun _ _ h1 => ux_k hl (uxS_D h1) hm)
      | exact ux_n (ux_pL hs fun _ _ h1 => ux_k hl (uxS_L h1) hm)
      | exact ux_n (ux_pL hs fun _ _ h1 => ux_k hl (uxS_I h1) hm)
      | exact ux_n (ux_pL hs fun _ _ h1 => ux_k hl (uxS_F h1) hm)
      | exact ux_n (ux_pL hs fun _ _ h1 => ux_k hl (uxS_D h1) hm)
      | exact ux_n (ux_pF hs fun _ _ h1 => ux_k hl (uxS_I h1) hm)
      | exact ux_n (ux_pI hs fun _ _ h1 => ux_pI h1 fun _ _ h2 => ux_k hl (uxS_I h2) hm)
      | exact ux_n (ux_pL hs fun _ _ h1 => ux_pL h1 fun _ _ h2 => ux_k hl (uxS_L h2) hm)
      | exact ux_n (ux_pL hs fun _ _ h1 => ux_pL h1 fun _ _ h2 => ux_k hl (uxS_I h2) hm)
      | exact ux_n (ux_pF hs fun _ _ h1 => ux_pF h1 fun _ _ h2 => ux_k hl (uxS_I h2) hm)
      | exact ux_n (ux_pD hs fun _ _ h1 => ux_pD h1 fun _ _ h2 => ux_k hl (uxS_I h2) hm)
      | exact ux_n (ux_pR hs fun _ _ _ h2 => ux_bind fun _ _ => ux_k hl (uxS_I h2) hm)
      | exact ux_n (ux_pI hs fun _ _ h1 => ux_pR h1 fun _ _ _ h2 => ux_bind fun _ _ => ux_k hl (uxS_I h2) hm)
      | exact ux_n (ux_pI hs fun _ _ h1 => ux_pR h1 fun _ _ _ h2 => ux_bind fun _ _ => ux_k hl (uxS_L h2) hm)
      | exact ux_n (ux_pI hs fun _ _ h1 => ux_pR h1 fun _ _ _ h2 => ux_bind fun _ _ => ux_k hl (uxS_D h2) hm)
theorem ux_run {call : jm_Call} (ha : a < jm_str) (hc : uxC a e0 call) {M : jm_Meth} : ∀ (n pc : Nat) (l : jm_Loc) (st : List Value) (m : jm_Mem) (r : jm_Res), uxL a l → uxS a st → uxM a e0 m → jm_run call M n pc l st m = some r → uxR a e0 r := by
  intro n
  induction n with
  | zero => intro pc l st m r _ _ _ h; cases h
  | succ n ih => intro pc l st m r hl hs hm h; exact ux_stp ha hc hl hs hm (jm_run call M n) ih r h
theorem uxL_la : ∀ {as : List Value}, uxS a as → uxL a (jm_la as)
  | [], _ => fun x hx => by cases hx
  | v :: as, h => by
    have h1 : ∀ x, x ∈ jm_la as → x ≠ some (.ref a) := uxL_la (uxS_t h)
    have h2 : some v ≠ some (.ref a) := fun q => uxS_h h (Option.some.inj q)
    show uxL a (if v.category = 2 then some v :: none :: jm_la as else some v :: jm_la as)
    split
    · intro x hx
      rcases List.mem_cons.mp hx with q | q
      · rw [q]; exact h2
      · rcases List.mem_cons.mp q with q | q
        · rw [q]; exact fun q => by cases q
        · exact h1 x q
    · intro x hx
      rcases List.mem_cons.mp hx with q | q
      · rw [q]; exact h2
      · exact h1 x q
theorem ux_env (ha : a < jm_str) : ∀ d : Nat, uxC a e0 (jm_env d) := by
  intro d
  induction d with
  | zero => intro k as m r _ _ h; cases h
  | succ d ih =>
    intro k as m r has hm h
    have h1 : (match jm_M k with | none => none | some M => if jm_ok M as m = true ∧ (jm_la as).length ≤ jm_mL M then jm_R (jm_env d) M 0 (jm_en M as) [] m else none) = some r := h
    split at h1
    · cases h1
    · split at h1
      · obtain ⟨n, hn⟩ := jm_R_iff.mp h1
        refine ux_run ha ih _ _ _ _ _ _ (fun x hx => ?_) uxS_0 hm hn
        rcases List.mem_append.mp hx with q | q
        · exact uxL_la has x q
        · rw [(List.mem_replicate.mp q).2]; exact fun q => by cases q
      · cases h1
end UXB
