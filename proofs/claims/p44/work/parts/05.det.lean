theorem det_bak {rk pc : Nat} {l : jm_Loc} {st : List Value} {r : jm_Res} : jm_det (fun K => jm_bak rk pc l st K r) := by
  obtain ⟨o, m⟩ := r
  rcases o with (_ | v) | E
  · rcases rk with _ | _ | _ | _ | _ | rk <;> first | exact det_k _ _ _ _ | exact det_c _
  · rcases rk with _ | _ | _ | _ | _ | rk <;> cases v <;> first | exact det_k _ _ _ _ | exact det_c _
  · rcases rk with _ | _ | _ | _ | _ | rk <;> exact det_c _
theorem det_inv {call : jm_Call} {M : jm_Meth} {pc : Nat} {l : jm_Loc} {st : List Value} {m : jm_Mem} {e : Nat × Nat × Nat × Nat} : jm_det (fun K => jm_inv call M pc l st m K e) := by
  unfold jm_inv
  generalize e.2.2.1 = z
  split
  · exact det_pop (fun _ _ => det_pR fun _ _ => det_sm (det_bind fun _ => det_back)) _ _ _
  · exact det_pop (fun _ _ => det_sm (det_bind fun _ => det_back)) _ _ _
  · exact det_pop (fun _ _ => det_pR fun _ _ => det_sm (det_bind fun _ => det_bak)) _ _ _
  · exact det_pop (fun _ _ => det_sm (det_bind fun _ => det_bak)) _ _ _
  · exact det_pop (fun _ _ => det_pR fun _ _ => det_sm (det_bind fun _ => det_bak)) _ _ _
  · exact det_pop (fun _ _ => det_pR fun _ _ => det_sm (det_bind fun _ => det_bak)) _ _ _
  · exact det_pop (fun _ _ => det_pR fun _ _ => det_sm (det_bind fun _ => det_bak)) _ _ _
  · exact det_pop (fun _ _ => det_pR fun _ _ => det_sm (det_bind fun _ => det_bak)) _ _ _
  · exact det_pop (fun _ _ => det_pR fun _ _ => det_sm (det_bind fun _ => det_bak)) _ _ _
  · exact det_pR fun _ _ => det_sm (det_k _ _ _ _)
  · exact det_pI fun _ _ => det_pI fun _ _ => det_sm (det_k _ _ _ _)
  · exact det_pI fun _ _ => det_pI fun _ _ => det_sm (det_k _ _ _ _)
  · exact det_pL fun _ _ => det_sm (det_k _ _ _ _)
  · exact det_pL fun _ _ => det_pL fun _ _ => det_sm (det_k _ _ _ _)
  · exact det_pI fun _ _ => det_pI fun _ _ => det_pR fun _ _ => det_pI fun _ _ => det_pR fun _ _ => det_sm (det_bind fun _ => det_k _ _ _ _)
  · exact det_pR fun _ _ => det_sm (det_bind fun _ => det_k _ _ _ _)
  · exact det_pI fun _ _ => det_pR fun _ _ => det_sm (det_bind fun _ => det_bind fun _ => det_k _ _ _ _)
  · exact det_pF fun _ _ => det_sm (det_ite (det_k _ _ _ _) (det_c _))
  · exact det_pI fun _ _ => det_pI fun _ _ => det_sm (det_ite (det_c _) (det_k _ _ _ _))
  · exact det_pI fun _ _ => det_pI fun _ _ => det_sm (det_ite (det_k _ _ _ _) (det_c _))
  · exact det_pR fun _ _ => det_sm (det_ite (det_k _ _ _ _) (det_c _))
  · exact det_pI fun _ _ => det_sm (det_ite (det_k _ _ _ _) (det_c _))
  · exact det_pI fun _ _ => det_pI fun _ _ => det_pR fun _ _ => det_pR fun _ _ => det_sm (det_bind fun _ => det_k _ _ _ _)
  · refine det_pI fun k _ => det_pR fun r _ => det_sm ?_
    unfold jm_cO
    generalize m.2.1 r = y
    rcases y with ⟨t, n, f | f | f | f | f⟩ | y <;> first | exact det_c _ | exact det_ite (det_mk fun _ => det_k _ _ _ _) (det_c _)
  · exact det_pI fun _ _ => det_pI fun _ _ => det_sm (det_ite (det_k _ _ _ _) (det_c _))
  · exact det_pR fun _ _ => det_sm (det_bind fun _ => det_k _ _ _ _)
  · refine det_pR fun r _ => det_sm ?_
    unfold jm_cl
    generalize m.2.1 r = y
    rcases y with ⟨t, n, f | f | f | f | f⟩ | y <;> first | exact det_c _ | exact det_ite (det_mk fun _ => det_k _ _ _ _) (det_c _)
  · exact det_c _
set_option maxHeartbeats 4000000 in
theorem det_stp {call : jm_Call} {M : jm_Meth} {pc : Nat} {l : jm_Loc} {st : List Value} {m : jm_Mem} : jm_det (fun K => jm_stp call M pc l st m K) := by
  unfold jm_stp
  generalize jm_ins M pc = z
  rcases z with _ | ⟨i, n⟩
  · exact det_c _
  · cases i
    case bipush => exact det_n (det_ite (det_k _ _ _ _) (det_c _))
    case sipush => exact det_n (det_ite (det_k _ _ _ _) (det_c _))
    case fconst v => 
      refine det_n ?_
      (try dsimp only)
      split <;> exact det_k _ _ _ _
    case dconst v =>
      refine det_n ?_
      (try dsimp only)
      split
      · exact det_k _ _ _ _
      · exact det_c _
    case ldc x =>
      refine det_n ?_
      (try dsimp only)
      split <;> first | exact det_k _ _ _ _ | exact det_c _
    case ldc_w x =>
      refine det_n ?_
      (try dsimp only)
      split
      · exact det_k _ _ _ _
      · exact det_c _
    case ldc2_w x =>
      refine det_n ?_
      (try dsimp only)
      split
      · exact det_k _ _ _ _
      · exact det_c _
    case dup =>
      refine det_n ?_
      (try dsimp only)
      split
      · exact det_k _ _ _ _
      · exact det_k _ _ _ _
      · exact det_c _
    case dup2 =>
      refine det_n ?_
      (try dsimp only)
      split
      · exact det_k _ _ _ _
      · exact det_k _ _ _ _
      · exact det_c _
    case pop =>
      refine det_n ?_
      (try dsimp only)
      split
      · exact det_k _ _ _ _
      · exact det_k _ _ _ _
      · exact det_c _
    case tableswitch d lo hi offs =>
      refine det_pI fun x st => det_ite (det_tg fun _ => det_k _ _ _ _) ?_
      generalize offs[(x.toInt - lo).toNat]? = z
      cases z with
      | none => exact det_c _
      | some o => exact det_tg fun _ => det_k _ _ _ _
    case getfield x =>
      refine det_n (det_pR fun r st => ?_)
      generalize jm_fld (jm_mO M) x = z
      (try dsimp only)
      split
      · exact det_bind fun _ => det_k _ _ _ _
      · exact det_bind fun _ => det_k _ _ _ _
      · exact det_bind fun _ => det_k _ _ _ _
      · exact det_bind fun _ => det_k _ _ _ _
      · exact det_bind fun _ => det_k _ _ _ _
      · exact det_c _
    case putfield x =>
      refine det_n ?_
      generalize jm_fld (jm_mO M) x = z
      rcases z with _ | ⟨ci, k, kd, fin⟩
      · exact det_c _
      · dsimp only
        refine det_ite (det_c _) ?_
        split
        · exact det_pI fun _ _ => det_pR fun _ _ => det_bind fun _ => det_k _ _ _ _
        · exact det_pI fun _ _ => det_pR fun _ _ => det_B (det_bind fun _ => det_k _ _ _ _)
        · exact det_pL fun _ _ => det_pR fun _ _ => det_bind fun _ => det_k _ _ _ _
        · exact det_pR fun _ _ => det_pR fun _ _ => det_bind fun _ => det_k _ _ _ _
        · exact det_pI fun _ _ => det_pR fun _ _ => det_ite (det_bind fun _ => det_k _ _ _ _) (det_c _)
        · exact det_c _
    case new x =>
      refine det_n ?_
      generalize (jm_mT M).find? (fun e => e.1 == pc) = z
      cases z with
      | some e => exact det_c _
      | none =>
        (try dsimp only)
        generalize jm_cls (jm_mO M) x = y
        rcases y with _ | ⟨ci, fs⟩
        · exact det_c _
        · exact det_mk fun _ => det_k _ _ _ _
    case newarray a =>
      exact det_n (det_pI fun _ _ => det_ite (det_c _) (det_bind fun _ => det_mk fun _ => det_k _ _ _ _))
    case anewarray x =>
      refine det_n (det_pI fun _ _ => det_ite (det_c _) ?_)
      generalize jm_acl (jm_mO M) x = y
      rcases y with _ | t
      · exact det_c _
      · exact det_mk fun _ => det_k _ _ _ _
    case invokevirtual x =>
      refine det_n ?_
      generalize jm_mth (jm_mO M) x = z
      split <;> first | exact det_inv | exact det_c _
    case invokestatic x =>
      refine det_n ?_
      generalize jm_mth (jm_mO M) x = z
      split <;> first | exact det_inv | exact det_c _
    case invokespecial x =>
      refine det_n ?_
      generalize jm_mth (jm_mO M) x = z
      split <;> first | exact det_inv | exact det_c _
    case invokeinterface x k =>
      refine det_n ?_
      generalize jm_mth (jm_mO M) x = z
      split <;> first | exact det_ite det_inv (det_c _) | exact det_c _
    case dup_x1 =>
      refine det_n ?_
      (try dsimp only)
      split
      · exact det_k _ _ _ _
      · exact det_k _ _ _ _
      · exact det_c _
    case i2c => exact det_n (det_pI fun _ _ => det_ite (det_k _ _ _ _) (det_c _))
    case if_acmp c off =>
      refine det_n (det_pR fun _ _ => det_pR fun _ _ => det_ite ?_ (det_c _))
      cases c
      · exact det_tg fun _ => det_k _ _ _ _
      · exact det_k _ _ _ _
    case ifnonnull => exact det_n (det_pR fun _ _ => det_tg fun _ => det_k _ _ _ _)
    case getstatic x =>
      refine det_n ?_
      generalize jm_gst (jm_mO M) x = z
      cases z with
      | none => exact det_c _
      | some v => exact det_k _ _ _ _
    case checkcast x =>
      refine det_n (det_pR fun r _ => ?_)
      generalize jm_cas (jm_mO M) x = z
      cases z with
      | none => exact det_c _
      | some v => exact det_ite (det_k _ _ _ _) (det_c _)
    case areturn =>
      refine det_n ?_
      exact det_c _
    case idiv => exact det_n (det_pI fun _ _ => det_pI fun _ _ => det_ite (det_c _) (det_k _ _ _ _))
    case irem => exact det_n (det_pI fun _ _ => det_pI fun _ _ => det_ite (det_c _) (det_k _ _ _ _))
    case ldiv => exact det_n (det_pL fun _ _ => det_pL fun _ _ => det_ite (det_c _) (det_k _ _ _ _))
    case fsub => exact det_n (det_pF fun _ _ => det_pF fun _ _ => det_n32 (det_k _ _ _ _))
    case fmul => exact det_n (det_pF fun _ _ => det_pF fun _ _ => det_n32 (det_k _ _ _ _))
    case fdiv => exact det_n (det_pF fun _ _ => det_pF fun _ _ => det_n32 (det_k _ _ _ _))
    case ddiv => exact det_n (det_pD fun _ _ => det_pD fun _ _ => det_n64 (det_k _ _ _ _))
    case ifCond => exact det_n (det_pI fun _ _ => det_tg fun _ => det_cond (det_k _ _ _ _) (det_k _ _ _ _))
    case if_icmp => exact det_n (det_pI fun _ _ => det_pI fun _ _ => det_tg fun _ => det_cond (det_k _ _ _ _) (det_k _ _ _ _))
    case goto => exact det_n (det_tg fun _ => det_k _ _ _ _)
    all_goals first
      | exact det_c _
      | exact det_n (det_k _ _ _ _)
      | exact det_n (det_c _)
      | exact det_n (det_lI fun _ => det_k _ _ _ _)
      | exact det_n (det_lL fun _ => det_k _ _ _ _)
      | exact det_n (det_lF fun _ => det_k _ _ _ _)
      | exact det_n (det_lD fun _ => det_k _ _ _ _)
      | exact det_n (det_lR fun _ => det_k _ _ _ _)
      | exact det_n (det_in (det_pI fun _ _ => det_k _ _ _ _))
      | exact det_n (det_in (det_pL fun _ _ => det_k _ _ _ _))
      | exact det_n (det_in (det_pF fun _ _ => det_k _ _ _ _))
      | exact det_n (det_in (det_pD fun _ _ => det_k _ _ _ _))
      | exact det_n (det_in (det_pR fun _ _ => det_k _ _ _ _))
      | exact det_n (det_in (det_lI fun _ => det_k _ _ _ _))
      | exact det_n (det_pI fun _ _ => det_k _ _ _ _)
      | exact det_n (det_pL fun _ _ => det_k _ _ _ _)
      | exact det_n (det_pF fun _ _ => det_k _ _ _ _)
      | exact det_n (det_pD fun _ _ => det_k _ _ _ _)
      | exact det_n (det_pI fun _ _ => det_pI fun _ _ => det_k _ _ _ _)
      | exact det_n (det_pL fun _ _ => det_pL fun _ _ => det_k _ _ _ _)
      | exact det_n (det_pF fun _ _ => det_pF fun _ _ => det_k _ _ _ _)
      | exact det_n (det_pD fun _ _ => det_pD fun _ _ => det_k _ _ _ _)
      | exact det_n (det_pR fun _ _ => det_bind fun _ => det_k _ _ _ _)
      | exact det_n (det_pI fun _ _ => det_pR fun _ _ => det_bind fun _ => det_k _ _ _ _)
      | exact det_n (det_pI fun _ _ => det_pI fun _ _ => det_pR fun _ _ => det_bind fun _ => det_k _ _ _ _)
      | exact det_n (det_pL fun _ _ => det_pI fun _ _ => det_pR fun _ _ => det_bind fun _ => det_k _ _ _ _)
      | exact det_n (det_pD fun _ _ => det_pI fun _ _ => det_pR fun _ _ => det_bind fun _ => det_k _ _ _ _)
      | exact det_n (det_pR fun _ _ => det_pI fun _ _ => det_pR fun _ _ => det_bind fun _ => det_k _ _ _ _)
theorem det_cases (call : jm_Call) (M : jm_Meth) (pc : Nat) (l : jm_Loc) (st : List Value) (m : jm_Mem) : (∃ o, ∀ K, jm_stp call M pc l st m K = o) ∨ ∃ pc2 l2 st2 m2, ∀ K, jm_stp call M pc l st m K = K pc2 l2 st2 m2 := det_stp
/-! runs -/
def jm_run (call : jm_Call) (M : jm_Meth) : Nat → jm_K
  | 0 => fun _ _ _ _ => none
  | n + 1 => fun pc l st m => jm_stp call M pc l st m (jm_run call M n)
theorem jm_run_up {call : jm_Call} {M : jm_Meth} : ∀ (n : Nat) (pc : Nat) (l : jm_Loc) (st : List Value) (m : jm_Mem) (r : jm_Res), jm_run call M n pc l st m = some r → jm_run call M (n + 1) pc l st m = some r := by
  intro n
  induction n with
  | zero => intro pc l st m r h; cases h
  | succ n ih =>
    intro pc l st m r h
    have h1 : jm_stp call M pc l st m (jm_run call M n) = some r := h
    show jm_stp call M pc l st m (jm_run call M (n + 1)) = some r
    rcases det_cases call M pc l st m with ⟨o, ho⟩ | ⟨pc2, l2, st2, m2, hk⟩
    · rw [ho] at h1 ⊢; exact h1
    · rw [hk] at h1 ⊢; exact ih _ _ _ _ _ h1
theorem jm_run_le {call : jm_Call} {M : jm_Meth} {n n2 pc : Nat} {l : jm_Loc} {st : List Value} {m : jm_Mem} {r : jm_Res} (h : n ≤ n2) (hr : jm_run call M n pc l st m = some r) : jm_run call M n2 pc l st m = some r := by
  induction h with
  | refl => exact hr
  | step _ ih => exact jm_run_up _ _ _ _ _ _ ih
theorem jm_run_one {call : jm_Call} {M : jm_Meth} {n n2 pc : Nat} {l : jm_Loc} {st : List Value} {m : jm_Mem} {r r2 : jm_Res} (h1 : jm_run call M n pc l st m = some r) (h2 : jm_run call M n2 pc l st m = some r2) : r = r2 := by
  rcases Nat.le_total n n2 with h | h
  · exact Option.some.inj ((jm_run_le h h1).symm.trans h2)
  · exact Option.some.inj (h1.symm.trans (jm_run_le h h2))
/-- the answer of a run of any length -/
noncomputable def jm_R (call : jm_Call) (M : jm_Meth) : jm_K := fun pc l st m =>
  haveI := Classical.propDecidable (∃ r n, jm_run call M n pc l st m = some r)
  if h : ∃ r n, jm_run call M n pc l st m = some r then some (Classical.choose h) else none
theorem jm_R_iff {call : jm_Call} {M : jm_Meth} {pc : Nat} {l : jm_Loc} {st : List Value} {m : jm_Mem} {r : jm_Res} : jm_R call M pc l st m = some r ↔ ∃ n, jm_run call M n pc l st m = some r := by
  unfold jm_R
  by_cases h : ∃ r n, jm_run call M n pc l st m = some r
  · rw [dif_pos h]
    obtain ⟨n, hn⟩ := Classical.choose_spec h
    constructor
    · intro e
      exact ⟨n, by rw [hn]; exact e⟩
    · rintro ⟨n2, h2⟩
      rw [jm_run_one h2 hn]
  · rw [dif_neg h]
    constructor
    · intro e; cases e
    · rintro ⟨n2, h2⟩
      exact absurd ⟨r, n2, h2⟩ h
theorem jm_R_eq (call : jm_Call) (M : jm_Meth) (pc : Nat) (l : jm_Loc) (st : List Value) (m : jm_Mem) : jm_R call M pc l st m = jm_stp call M pc l st m (jm_R call M) := by
  apply Option.ext
  intro r
  rw [jm_R_iff]
  rcases det_cases call M pc l st m with ⟨o, ho⟩ | ⟨pc2, l2, st2, m2, hk⟩
  · constructor
    · rintro ⟨n, hn⟩
      cases n with
      | zero => cases hn
      | succ n =>
        have h1 : jm_stp call M pc l st m (jm_run call M n) = some r := hn
        rw [ho] at h1 ⊢; exact h1
    · intro h
      refine ⟨1, ?_⟩
      show jm_stp call M pc l st m (jm_run call M 0) = some r
      rw [ho] at h ⊢; exact h
  · constructor
    · rintro ⟨n, hn⟩
      cases n with
      | zero => cases hn
      | succ n =>
        have h1 : jm_stp call M pc l st m (jm_run call M n) = some r := hn
        rw [hk] at h1 ⊢; exact jm_R_iff.mpr ⟨n, h1⟩
    · intro h
      rw [hk] at h
      obtain ⟨n, hn⟩ := jm_R_iff.mp h
      refine ⟨n + 1, ?_⟩
      show jm_stp call M pc l st m (jm_run call M n) = some r
      rw [hk]; exact hn
/-- n steps, and on -/
def jm_it (call : jm_Call) (M : jm_Meth) : Nat → jm_K → jm_K
  | 0, K => K
  | n + 1, K => fun pc l st m => jm_stp call M pc l st m (jm_it call M n K)
theorem jm_R_it (call : jm_Call) (M : jm_Meth) : ∀ n : Nat, jm_R call M = jm_it call M n (jm_R call M) := by
  intro n
  induction n with
  | zero => rfl
  | succ n ih =>
    funext pc l st m
    rw [jm_R_eq]
    show _ = jm_stp call M pc l st m (jm_it call M n (jm_R call M))
    rw [← ih]
theorem jm_blk {call : jm_Call} {M : jm_Meth} {pc : Nat} {l : jm_Loc} {st : List Value} {m : jm_Mem} {x : Option jm_Res} (n : Nat) (h : jm_it call M n (jm_R call M) pc l st m = x) : jm_R call M pc l st m = x := by
  rw [jm_R_it call M n]; exact h
/-! methods by their numbers, called within a depth -/
def jm_isC (m : jm_Mem) (r c : Nat) : Bool := match m.2.1 r with
  | .inr (c2, _) => c2 == c
  | _ => false
/-- the class of the objects that the methods of a class are asked of: StringBuilder for AbstractStringBuilder, ArrayList for its two ancestors -/
def jm_rc (c : Nat) : Nat := if c = 18 then 15 else if c = 24 ∨ c = 25 then 17 else c
def jm_ok (M : jm_Meth) (as : List Value) (m : jm_Mem) : Bool := match jm_mS M, as with
  | true, _ => true
  | false, .ref r :: _ => jm_isC m r (jm_rc (jm_mO M))
  | _, _ => false
def jm_la (as : List Value) : jm_Loc := match as with
  | [] => []
  | v :: as => if v.category = 2 then some v :: none :: jm_la as else some v :: jm_la as
def jm_en (M : jm_Meth) (as : List Value) : jm_Loc := jm_la as ++ List.replicate (jm_mL M - (jm_la as).length) none
noncomputable def jm_env : Nat → jm_Call
  | 0 => fun _ _ _ => none
  | d + 1 => fun k as m => match jm_M k with
    | none => none
    | some M => if jm_ok M as m = true ∧ (jm_la as).length ≤ jm_mL M then jm_R (jm_env d) M 0 (jm_en M as) [] m else none
theorem jm_env_i {d k : Nat} {M : jm_Meth} {as : List Value} {m : jm_Mem} (hM : jm_M k = some M) (hok : jm_ok M as m = true) (hl : (jm_la as).length ≤ jm_mL M) : jm_env (d + 1) k as m = jm_R (jm_env d) M 0 (jm_en M as) [] m := by
  show (match jm_M k with | none => none | some M => if jm_ok M as m = true ∧ (jm_la as).length ≤ jm_mL M then jm_R (jm_env d) M 0 (jm_en M as) [] m else none) = _
  rw [hM]
  exact if_pos ⟨hok, hl⟩
