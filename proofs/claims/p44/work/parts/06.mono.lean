/-! Counters and the next name never fall; the script stays. -/
def jm_le (a b : jm_Mem) : Prop := a.1 ≤ b.1 ∧ a.2.2.1 ≤ b.2.2.1 ∧ a.2.2.2 ≤ b.2.2.2
theorem jm_le.rf (a : jm_Mem) : jm_le a a := ⟨Nat.le_refl _, Nat.le_refl _, Nat.le_refl _⟩
theorem jm_le.tr {a b c : jm_Mem} (h : jm_le a b) (h2 : jm_le b c) : jm_le a c := ⟨Nat.le_trans h.1 h2.1, Nat.le_trans h.2.1 h2.2.1, Nat.le_trans h.2.2 h2.2.2⟩
def jm_mo (m : jm_Mem) (F : jm_K → Option jm_Res) : Prop := ∀ K : jm_K, (∀ pc l st m2 r, K pc l st m2 = some r → jm_le m2 r.2) → ∀ r, F K = some r → jm_le m r.2
section MO
variable {m : jm_Mem}
theorem mo_n0 : jm_mo m (fun _ => none) := fun _ _ _ h => by cases h
theorem mo_s {o : Option Value ⊕ String} : jm_mo m (fun _ => some (o, m)) := fun _ _ _ h => by cases h; exact jm_le.rf _
theorem mo_k {pc : Nat} {l : jm_Loc} {st : List Value} : jm_mo m (fun K => K pc l st m) := fun _ hK _ h => hK _ _ _ _ _ h
theorem mo_le {m2 : jm_Mem} {F : jm_K → Option jm_Res} (h : jm_le m m2) (hF : jm_mo m2 F) : jm_mo m F := fun K hK r hr => h.tr (hF K hK r hr)
theorem mo_ite {c : Prop} [Decidable c] {F G : jm_K → Option jm_Res} (hF : jm_mo m F) (hG : jm_mo m G) : jm_mo m (fun K => if c then F K else G K) := by
  by_cases h : c
  · simpa [h] using hF
  · simpa [h] using hG
theorem mo_bind {α : Type} {o : Option α} {F : jm_K → α → Option jm_Res} (h : ∀ x, o = some x → jm_mo m (fun K => F K x)) : jm_mo m (fun K => o.bind (F K)) := by
  cases o with
  | none => exact mo_n0
  | some x => exact h x rfl
theorem mo_mk {e : jm_Ent} {s : Nat} {F : jm_K → jm_Mem → Option jm_Res} (h : ∀ x, jm_mo x (fun K => F K x)) : jm_mo m (fun K => jm_mk m e s (F K)) := mo_ite (mo_le (m2 := jm_new m e s) ⟨Nat.le_succ _, Nat.le_succ _, Nat.le_add_right _ _⟩ (h (jm_new m e s))) mo_n0

theorem mo_n {a b : Nat} {F : jm_K → Option jm_Res} (h : jm_mo m F) : jm_mo m (fun K => jm_n a b (F K)) := mo_ite h mo_n0
theorem mo_n32 {a : UInt32} {F : jm_K → Option jm_Res} (h : jm_mo m F) : jm_mo m (fun K => jm_n32 a (F K)) := mo_ite h mo_n0
theorem mo_n64 {a : UInt64} {F : jm_K → Option jm_Res} (h : jm_mo m F) : jm_mo m (fun K => jm_n64 a (F K)) := mo_ite h mo_n0
theorem mo_in {l : jm_Loc} {i : Nat} {F : jm_K → Option jm_Res} (h : jm_mo m F) : jm_mo m (fun K => jm_in l i (F K)) := mo_ite h mo_n0
theorem mo_sm {st : List Value} {F : jm_K → Option jm_Res} (h : jm_mo m F) : jm_mo m (fun K => jm_sm st (F K)) := mo_ite h mo_n0
theorem mo_B {x : Int32} {F : jm_K → Option jm_Res} (h : jm_mo m F) : jm_mo m (fun K => jm_B x (F K)) := mo_ite h (mo_ite h mo_n0)
theorem mo_pI {st : List Value} {F : jm_K → Int32 → List Value → Option jm_Res} (h : ∀ x r, jm_mo m (fun K => F K x r)) : jm_mo m (fun K => jm_pI st (F K)) := by
  rcases st with _ | ⟨v, r⟩
  · exact mo_n0
  · cases v <;> first | exact h _ _ | exact mo_n0
theorem mo_pL {st : List Value} {F : jm_K → Int64 → List Value → Option jm_Res} (h : ∀ x r, jm_mo m (fun K => F K x r)) : jm_mo m (fun K => jm_pL st (F K)) := by
  rcases st with _ | ⟨v, r⟩
  · exact mo_n0
  · cases v <;> first | exact h _ _ | exact mo_n0
theorem mo_pF {st : List Value} {F : jm_K → UInt32 → List Value → Option jm_Res} (h : ∀ x r, jm_mo m (fun K => F K x r)) : jm_mo m (fun K => jm_pF st (F K)) := by
  rcases st with _ | ⟨v, r⟩
  · exact mo_n0
  · cases v <;> first | exact h _ _ | exact mo_n0
theorem mo_pD {st : List Value} {F : jm_K → UInt64 → List Value → Option jm_Res} (h : ∀ x r, jm_mo m (fun K => F K x r)) : jm_mo m (fun K => jm_pD st (F K)) := by
  rcases st with _ | ⟨v, r⟩
  · exact mo_n0
  · cases v <;> first | exact h _ _ | exact mo_n0
theorem mo_pR {st : List Value} {F : jm_K → Nat → List Value → Option jm_Res} (h : ∀ x r, jm_mo m (fun K => F K x r)) : jm_mo m (fun K => jm_pR st (F K)) := by
  rcases st with _ | ⟨v, r⟩
  · exact mo_n0
  · cases v <;> first | exact h _ _ | exact mo_n0
theorem mo_lI {l : jm_Loc} {i : Nat} {F : jm_K → Int32 → Option jm_Res} (h : ∀ x, jm_mo m (fun K => F K x)) : jm_mo m (fun K => jm_lI l i (F K)) := by
  unfold jm_lI
  generalize l[i]? = z
  rcases z with _ | (_ | v)
  · exact mo_n0
  · exact mo_n0
  · cases v <;> first | exact h _ | exact mo_n0
theorem mo_lL {l : jm_Loc} {i : Nat} {F : jm_K → Int64 → Option jm_Res} (h : ∀ x, jm_mo m (fun K => F K x)) : jm_mo m (fun K => jm_lL l i (F K)) := by
  unfold jm_lL
  generalize l[i]? = z
  rcases z with _ | (_ | v)
  · exact mo_n0
  · exact mo_n0
  · cases v <;> first | exact h _ | exact mo_n0
theorem mo_lF {l : jm_Loc} {i : Nat} {F : jm_K → UInt32 → Option jm_Res} (h : ∀ x, jm_mo m (fun K => F K x)) : jm_mo m (fun K => jm_lF l i (F K)) := by
  unfold jm_lF
  generalize l[i]? = z
  rcases z with _ | (_ | v)
  · exact mo_n0
  · exact mo_n0
  · cases v <;> first | exact h _ | exact mo_n0
theorem mo_lD {l : jm_Loc} {i : Nat} {F : jm_K → UInt64 → Option jm_Res} (h : ∀ x, jm_mo m (fun K => F K x)) : jm_mo m (fun K => jm_lD l i (F K)) := by
  unfold jm_lD
  generalize l[i]? = z
  rcases z with _ | (_ | v)
  · exact mo_n0
  · exact mo_n0
  · cases v <;> first | exact h _ | exact mo_n0
theorem mo_lR {l : jm_Loc} {i : Nat} {F : jm_K → Nat → Option jm_Res} (h : ∀ x, jm_mo m (fun K => F K x)) : jm_mo m (fun K => jm_lR l i (F K)) := by
  unfold jm_lR
  generalize l[i]? = z
  rcases z with _ | (_ | v)
  · exact mo_n0
  · exact mo_n0
  · cases v <;> first | exact h _ | exact mo_n0
theorem mo_tg {pc : Nat} {off : Int} {F : jm_K → Nat → Option jm_Res} (h : ∀ x, jm_mo m (fun K => F K x)) : jm_mo m (fun K => jm_tg pc off (F K)) := by
  unfold jm_tg
  generalize (pc : Int) + off = z
  cases z with
  | ofNat t => exact h t
  | negSucc _ => exact mo_n0
theorem mo_pop {F : jm_K → List Value → List Value → Option jm_Res} (h : ∀ x r, jm_mo m (fun K => F K x r)) : ∀ (n : Nat) (st a : List Value), jm_mo m (fun K => jm_pop n st a (F K)) := by
  intro n
  induction n with
  | zero => intro st a; exact h _ _
  | succ n ih =>
    intro st a
    cases st with
    | nil => exact mo_n0
    | cons v st => exact ih st (v :: a)
theorem mo_cond {c : Jvm.ClassFile.Cond} {x y : Int32} {F G : jm_K → Option jm_Res} (hF : jm_mo m F) (hG : jm_mo m G) : jm_mo m (fun K => jm_cond c x y (F K) (G K)) := by
  cases c
  · exact mo_ite hF hG
  · exact mo_ite hG hF
  · exact mo_ite hF hG
  · exact mo_ite hF hG
  · exact mo_ite hF hG
  · exact mo_ite hF hG
theorem mo_thr {M : jm_Meth} {pc : Nat} {l : jm_Loc} {E : String} : jm_mo m (fun K => jm_thr M pc l E m K) := by
  unfold jm_thr
  cases h : jm_mH M with
  | nil => exact mo_s
  | cons a b =>
    dsimp only
    generalize jm_hd (a :: b) pc E = z
    cases z with
    | none => exact mo_n0
    | some t =>
      dsimp only
      generalize jm_ins M t = y
      rcases y with _ | ⟨i, n⟩
      · exact mo_n0
      · cases i <;> first | exact mo_n0 | exact mo_n (mo_in mo_k)
theorem mo_back {rk : Nat} {M : jm_Meth} {pc : Nat} {l : jm_Loc} {st : List Value} {r : jm_Res} (hr : jm_le m r.2) : jm_mo m (fun K => jm_back rk M pc l st K r) := by
  obtain ⟨o, m2⟩ := r
  refine mo_le hr ?_
  rcases o with (_ | v) | E
  · rcases rk with _ | _ | _ | _ | _ | rk <;> first | exact mo_k | exact mo_n0
  · rcases rk with _ | _ | _ | _ | _ | rk <;> cases v <;> first | exact mo_k | exact mo_n0
  · rcases rk with _ | _ | _ | _ | _ | rk <;> first | exact mo_thr | exact mo_n0
theorem mo_bak {rk pc : Nat} {l : jm_Loc} {st : List Value} {r : jm_Res} (hr : jm_le m r.2) : jm_mo m (fun K => jm_bak rk pc l st K r) := by
  obtain ⟨o, m2⟩ := r
  refine mo_le hr ?_
  rcases o with (_ | v) | E
  · rcases rk with _ | _ | _ | _ | _ | rk <;> first | exact mo_k | exact mo_n0
  · rcases rk with _ | _ | _ | _ | _ | rk <;> cases v <;> first | exact mo_k | exact mo_n0
  · rcases rk with _ | _ | _ | _ | _ | rk <;> exact mo_n0
theorem le_up {n : Nat} {e : jm_Ent} : jm_le m (jm_up m n e) := ⟨Nat.le_refl _, Nat.le_refl _, Nat.le_refl _⟩
theorem le_put {m2 : jm_Mem} {r ci k : Nat} {v : Value} (h : jm_put m r ci k v = some m2) : jm_le m m2 := by
  unfold jm_put at h
  split at h
  · split at h
    · split at h
      · cases h; exact le_up
      · cases h
    · cases h
  · cases h
theorem le_map {α : Type} {o : Option α} {f : α → jm_Mem} {m2 : jm_Mem} (h : o.map f = some m2) (hf : ∀ x, jm_le m (f x)) : jm_le m m2 := by
  cases o with
  | none => cases h
  | some x => cases h; exact hf x
theorem le_wI {m2 : jm_Mem} {r : Nat} {i x : Int32} (h : jm_wI m r i x = some m2) : jm_le m m2 := by
  unfold jm_wI at h
  split at h
  · split at h
    · exact le_map h fun _ => le_up
    · cases h
  · cases h
theorem le_wZ {m2 : jm_Mem} {r : Nat} {i x : Int32} (h : jm_wZ m r i x = some m2) : jm_le m m2 := by
  unfold jm_wZ at h
  split at h
  · split at h
    · exact le_map h fun _ => le_up
    · cases h
  · cases h
theorem le_wL {m2 : jm_Mem} {r : Nat} {i : Int32} {x : Int64} (h : jm_wL m r i x = some m2) : jm_le m m2 := by
  unfold jm_wL at h
  split at h
  · split at h
    · exact le_map h fun _ => le_up
    · cases h
  · cases h
theorem le_wD {m2 : jm_Mem} {r : Nat} {i : Int32} {x : UInt64} (h : jm_wD m r i x = some m2) : jm_le m m2 := by
  unfold jm_wD at h
  split at h
  · split at h
    · exact le_map h fun _ => le_up
    · cases h
  · cases h
theorem le_wR {m2 : jm_Mem} {r : Nat} {i : Int32} {x : Nat} (h : jm_wR m r i x = some m2) : jm_le m m2 := by
  unfold jm_wR at h
  split at h
  · split at h
    · split at h
      · split at h
        · exact le_map h fun _ => le_up
        · cases h
      · cases h
    · cases h
  · cases h
theorem le_cpy {m2 : jm_Mem} {r0 r1 : Nat} {i0 i1 n : Int32} (h : jm_cpy m r0 i0 r1 i1 n = some m2) : jm_le m m2 := by
  unfold jm_cpy at h
  split at h
  · split at h
    · cases h; exact le_up
    · cases h
  · split at h
    · cases h; exact le_up
    · cases h
  · cases h
theorem or_some {α : Type} {a b : Option α} {x : α} (h : a.or b = some x) : a = some x ∨ b = some x := by
  cases a with
  | none => exact Or.inr h
  | some y => exact Or.inl h
theorem le_wB {m2 : jm_Mem} {r : Nat} {i x : Int32} (h : jm_wB m r i x = some m2) : jm_le m m2 := by
  unfold jm_wB at h
  split at h
  · split at h
    · exact le_map h fun _ => le_up
    · cases h
  · cases h
theorem le_wO {m2 : jm_Mem} {r : Nat} {i : Int32} {x : Nat} (h : jm_wO m r i x = some m2) : jm_le m m2 := by
  unfold jm_wO at h
  split at h
  · split at h
    · exact le_map h fun _ => le_up
    · cases h
  · cases h
theorem le_cpB {m2 : jm_Mem} {r0 r1 : Nat} {i0 i1 n : Int32} (h : jm_cpB m r0 i0 r1 i1 n = some m2) : jm_le m m2 := by
  unfold jm_cpB at h
  split at h
  · split at h
    · cases h; exact le_up
    · cases h
  · cases h
theorem le_gtb {m2 : jm_Mem} {r0 r1 : Nat} {i0 i1 : Int32} (h : jm_gtb m r0 r1 i0 i1 = some m2) : jm_le m m2 := by
  unfold jm_gtb at h
  split at h
  · split at h
    · cases h; exact le_up
    · cases h
  · cases h
theorem le_wY {m2 : jm_Mem} {r : Nat} {i x : Int32} (h : jm_wY m r i x = some m2) : jm_le m m2 := (or_some h).elim le_wZ le_wB
theorem le_wQ {m2 : jm_Mem} {r : Nat} {i : Int32} {x : Nat} (h : jm_wQ m r i x = some m2) : jm_le m m2 := (or_some h).elim le_wR le_wO
theorem le_cpY {m2 : jm_Mem} {r0 r1 : Nat} {i0 i1 n : Int32} (h : jm_cpY m r0 i0 r1 i1 n = some m2) : jm_le m m2 := (or_some h).elim le_cpy le_cpB
def jm_cM (call : jm_Call) : Prop := ∀ k as m r, call k as m = some r → jm_le m r.2
theorem mo_inv {call : jm_Call} (hc : jm_cM call) {M : jm_Meth} {pc : Nat} {l : jm_Loc} {st : List Value} {e : Nat × Nat × Nat × Nat} : jm_mo m (fun K => jm_inv call M pc l st m K e) := by
  unfold jm_inv
  generalize e.2.2.1 = z
  split
  · exact mo_pop (fun _ _ => mo_pR fun _ _ => mo_sm (mo_bind fun _ h => mo_back (hc _ _ _ _ h))) _ _ _
  · exact mo_pop (fun _ _ => mo_sm (mo_bind fun _ h => mo_back (hc _ _ _ _ h))) _ _ _
  · exact mo_pop (fun _ _ => mo_pR fun _ _ => mo_sm (mo_bind fun _ h => mo_bak (hc _ _ _ _ h))) _ _ _
  · exact mo_pop (fun _ _ => mo_sm (mo_bind fun _ h => mo_bak (hc _ _ _ _ h))) _ _ _
  · exact mo_pop (fun _ _ => mo_pR fun _ _ => mo_sm (mo_bind fun _ h => mo_bak (hc _ _ _ _ h))) _ _ _
  · exact mo_pop (fun _ _ => mo_pR fun _ _ => mo_sm (mo_bind fun _ h => mo_bak (hc _ _ _ _ h))) _ _ _
  · exact mo_pop (fun _ _ => mo_pR fun _ _ => mo_sm (mo_bind fun _ h => mo_bak (hc _ _ _ _ h))) _ _ _
  · exact mo_pop (fun _ _ => mo_pR fun _ _ => mo_sm (mo_bind fun _ h => mo_bak (hc _ _ _ _ h))) _ _ _
  · exact mo_pop (fun _ _ => mo_pR fun _ _ => mo_sm (mo_bind fun _ h => mo_bak (hc _ _ _ _ h))) _ _ _
  · exact mo_pR fun _ _ => mo_sm mo_k
  · exact mo_pI fun _ _ => mo_pI fun _ _ => mo_sm mo_k
  · exact mo_pI fun _ _ => mo_pI fun _ _ => mo_sm mo_k
  · exact mo_pL fun _ _ => mo_sm mo_k
  · exact mo_pL fun _ _ => mo_pL fun _ _ => mo_sm mo_k
  · exact mo_pI fun _ _ => mo_pI fun _ _ => mo_pR fun _ _ => mo_pI fun _ _ => mo_pR fun _ _ => mo_sm (mo_bind fun _ h => mo_le (le_cpY h) mo_k)
  · exact mo_pR fun _ _ => mo_sm (mo_bind fun _ _ => mo_k)
  · exact mo_pI fun _ _ => mo_pR fun _ _ => mo_sm (mo_bind fun _ _ => mo_bind fun _ _ => mo_k)
  · exact mo_pF fun _ _ => mo_sm (mo_ite mo_k mo_n0)
  · exact mo_pI fun _ _ => mo_pI fun _ _ => mo_sm (mo_ite mo_n0 mo_k)
  · exact mo_pI fun _ _ => mo_pI fun _ _ => mo_sm (mo_ite mo_k mo_n0)
  · exact mo_pR fun _ _ => mo_sm (mo_ite mo_k mo_n0)
  · exact mo_pI fun _ _ => mo_sm (mo_ite mo_k mo_n0)
  · exact mo_pI fun _ _ => mo_pI fun _ _ => mo_pR fun _ _ => mo_pR fun _ _ => mo_sm (mo_bind fun _ h => mo_le (le_gtb h) mo_k)
  · refine mo_pI fun k _ => mo_pR fun r _ => mo_sm ?_
    unfold jm_cO
    generalize m.2.1 r = y
    rcases y with ⟨t, n, f | f | f | f | f⟩ | y <;> first | exact mo_n0 | exact mo_ite (mo_mk fun _ => mo_k) mo_n0
  · exact mo_pI fun _ _ => mo_pI fun _ _ => mo_sm (mo_ite mo_k mo_n0)
  · exact mo_pR fun _ _ => mo_sm (mo_bind fun _ _ => mo_k)
  · refine mo_pR fun r _ => mo_sm ?_
    unfold jm_cl
    generalize m.2.1 r = y
    rcases y with ⟨t, n, f | f | f | f | f⟩ | y <;> first | exact mo_n0 | exact mo_ite (mo_mk fun _ => mo_k) mo_n0
  · exact mo_n0
theorem mo_iret {M : jm_Meth} {x : Int32} : jm_mo m (fun _ => jm_iret M x m) := by
  unfold jm_iret
  split
  · exact mo_s
  · exact mo_B mo_s
  · exact mo_ite mo_s mo_n0
  · exact mo_ite mo_s mo_n0
  · exact mo_n0
theorem mo_aret {M : jm_Meth} {x : Nat} : jm_mo m (fun _ => jm_aret M x m) := by
  unfold jm_aret
  split
  · exact mo_s
  · exact mo_s
  · exact mo_n0
set_option maxHeartbeats 4000000 in
theorem mo_stp {call : jm_Call} (hc : jm_cM call) {M : jm_Meth} {pc : Nat} {l : jm_Loc} {st : List Value} : jm_mo m (fun K => jm_stp call M pc l st m K) := by
  unfold jm_stp
  generalize jm_ins M pc = z
  rcases z with _ | ⟨i, n⟩
  · exact mo_n0
  · cases i
    case bipush => exact mo_n (mo_ite mo_k mo_n0)
    case sipush => exact mo_n (mo_ite mo_k mo_n0)
    case fconst v => 
      refine mo_n ?_
      (try dsimp only)
      split <;> exact mo_k
    case dconst v =>
      refine mo_n ?_
      (try dsimp only)
      split
      · exact mo_k
      · exact mo_n0
    case ldc x =>
      refine mo_n ?_
      (try dsimp only)
      split <;> first | exact mo_k | exact mo_n0
    case ldc_w x =>
      refine mo_n ?_
      (try dsimp only)
      split
      · exact mo_k
      · exact mo_n0
    case ldc2_w x =>
      refine mo_n ?_
      (try dsimp only)
      split
      · exact mo_k
      · exact mo_n0
    case dup =>
      refine mo_n ?_
      (try dsimp only)
      split
      · exact mo_k
      · exact mo_k
      · exact mo_n0
    case dup2 =>
      refine mo_n ?_
      (try dsimp only)
      split
      · exact mo_k
      · exact mo_k
      · exact mo_n0
    case pop =>
      refine mo_n ?_
      (try dsimp only)
      split
      · exact mo_k
      · exact mo_k
      · exact mo_n0
    case tableswitch d lo hi offs =>
      refine mo_pI fun x st => mo_ite (mo_tg fun _ => mo_k) ?_
      generalize offs[(x.toInt - lo).toNat]? = z
      cases z with
      | none => exact mo_n0
      | some o => exact mo_tg fun _ => mo_k
    case getfield x =>
      refine mo_n (mo_pR fun r st => ?_)
      generalize jm_fld (jm_mO M) x = z
      (try dsimp only)
      split
      · exact mo_bind fun _ _ => mo_k
      · exact mo_bind fun _ _ => mo_k
      · exact mo_bind fun _ _ => mo_k
      · exact mo_bind fun _ _ => mo_k
      · exact mo_bind fun _ _ => mo_k
      · exact mo_n0
    case putfield x =>
      refine mo_n ?_
      generalize jm_fld (jm_mO M) x = z
      rcases z with _ | ⟨ci, k, kd, fin⟩
      · exact mo_n0
      · dsimp only
        refine mo_ite mo_n0 ?_
        split
        · exact mo_pI fun _ _ => mo_pR fun _ _ => mo_bind fun _ h => mo_le (le_put h) mo_k
        · exact mo_pI fun _ _ => mo_pR fun _ _ => mo_B (mo_bind fun _ h => mo_le (le_put h) mo_k)
        · exact mo_pL fun _ _ => mo_pR fun _ _ => mo_bind fun _ h => mo_le (le_put h) mo_k
        · exact mo_pR fun _ _ => mo_pR fun _ _ => mo_bind fun _ h => mo_le (le_put h) mo_k
        · exact mo_pI fun _ _ => mo_pR fun _ _ => mo_ite (mo_bind fun _ h => mo_le (le_put h) mo_k) mo_n0
        · exact mo_n0
    case new x =>
      refine mo_n ?_
      generalize (jm_mT M).find? (fun e => e.1 == pc) = z
      cases z with
      | some e => exact mo_sm (mo_le (m2 := jm_exc m) ⟨Nat.le_refl _, Nat.le_succ _, Nat.le_add_right _ _⟩ mo_s)
      | none =>
        (try dsimp only)
        generalize jm_cls (jm_mO M) x = y
        rcases y with _ | ⟨ci, fs⟩
        · exact mo_n0
        · exact mo_mk fun _ => mo_k
    case newarray a =>
      exact mo_n (mo_pI fun _ _ => mo_ite mo_n0 (mo_bind fun _ _ => mo_mk fun _ => mo_k))
    case anewarray x =>
      refine mo_n (mo_pI fun _ _ => mo_ite mo_n0 ?_)
      generalize jm_acl (jm_mO M) x = y
      rcases y with _ | t
      · exact mo_n0
      · exact mo_mk fun _ => mo_k
    case invokevirtual x =>
      refine mo_n ?_
      generalize jm_mth (jm_mO M) x = z
      split <;> first | exact mo_inv hc | exact mo_n0
    case invokestatic x =>
      refine mo_n ?_
      generalize jm_mth (jm_mO M) x = z
      split <;> first | exact mo_inv hc | exact mo_n0
    case invokespecial x =>
      refine mo_n ?_
      generalize jm_mth (jm_mO M) x = z
      split <;> first | exact mo_inv hc | exact mo_n0
    case invokeinterface x k =>
      refine mo_n ?_
      generalize jm_mth (jm_mO M) x = z
      split <;> first | exact mo_ite (mo_inv hc) mo_n0 | exact mo_n0
    case dup_x1 =>
      refine mo_n ?_
      (try dsimp only)
      split
      · exact mo_k
      · exact mo_k
      · exact mo_n0
    case i2c => exact mo_n (mo_pI fun _ _ => mo_ite mo_k mo_n0)
    case if_acmp c off =>
      refine mo_n (mo_pR fun _ _ => mo_pR fun _ _ => mo_ite ?_ mo_n0)
      cases c
      · exact mo_tg fun _ => mo_k
      · exact mo_k
    case ifnonnull => exact mo_n (mo_pR fun _ _ => mo_tg fun _ => mo_k)
    case getstatic x =>
      refine mo_n ?_
      generalize jm_gst (jm_mO M) x = z
      cases z with
      | none => exact mo_n0
      | some v => exact mo_k
    case checkcast x =>
      refine mo_n (mo_pR fun r _ => ?_)
      generalize jm_cas (jm_mO M) x = z
      cases z with
      | none => exact mo_n0
      | some v => exact mo_ite mo_k mo_n0
    case areturn =>
      refine mo_n ?_
      split
      · exact mo_aret
      · exact mo_n0
    case idiv => exact mo_n (mo_pI fun _ _ => mo_pI fun _ _ => mo_ite mo_n0 mo_k)
    case irem => exact mo_n (mo_pI fun _ _ => mo_pI fun _ _ => mo_ite mo_n0 mo_k)
    case ldiv => exact mo_n (mo_pL fun _ _ => mo_pL fun _ _ => mo_ite mo_n0 mo_k)
    case fsub => exact mo_n (mo_pF fun _ _ => mo_pF fun _ _ => mo_n32 mo_k)
    case fmul => exact mo_n (mo_pF fun _ _ => mo_pF fun _ _ => mo_n32 mo_k)
    case fdiv => exact mo_n (mo_pF fun _ _ => mo_pF fun _ _ => mo_n32 mo_k)
    case ddiv => exact mo_n (mo_pD fun _ _ => mo_pD fun _ _ => mo_n64 mo_k)
    case ifCond => exact mo_n (mo_pI fun _ _ => mo_tg fun _ => mo_cond mo_k mo_k)
    case if_icmp => exact mo_n (mo_pI fun _ _ => mo_pI fun _ _ => mo_tg fun _ => mo_cond mo_k mo_k)
    case goto => exact mo_n (mo_tg fun _ => mo_k)
    case iastore => exact mo_n (mo_pI fun _ _ => mo_pI fun _ _ => mo_pR fun _ _ => mo_bind fun _ h => mo_le (le_wI h) mo_k)
    case bastore => exact mo_n (mo_pI fun _ _ => mo_pI fun _ _ => mo_pR fun _ _ => mo_bind fun _ h => mo_le (le_wY h) mo_k)
    case lastore => exact mo_n (mo_pL fun _ _ => mo_pI fun _ _ => mo_pR fun _ _ => mo_bind fun _ h => mo_le (le_wL h) mo_k)
    case dastore => exact mo_n (mo_pD fun _ _ => mo_pI fun _ _ => mo_pR fun _ _ => mo_bind fun _ h => mo_le (le_wD h) mo_k)
    case aastore => exact mo_n (mo_pR fun _ _ => mo_pI fun _ _ => mo_pR fun _ _ => mo_bind fun _ h => mo_le (le_wQ h) mo_k)
    case ireturn =>
      refine mo_n ?_
      split
      · exact mo_iret
      · exact mo_n0
    case lreturn =>
      refine mo_n ?_
      split
      · exact mo_ite mo_s mo_n0
      · exact mo_n0
    case dreturn =>
      refine mo_n ?_
      split
      · exact mo_ite mo_s mo_n0
      · exact mo_n0
    case return_ =>
      refine mo_n ?_
      split
      · exact mo_s
      · exact mo_n0
    all_goals first
      | exact mo_n0
      | exact mo_n mo_k
      | exact mo_n mo_n0
      | exact mo_n (mo_lI fun _ => mo_k)
      | exact mo_n (mo_lL fun _ => mo_k)
      | exact mo_n (mo_lF fun _ => mo_k)
      | exact mo_n (mo_lD fun _ => mo_k)
      | exact mo_n (mo_lR fun _ => mo_k)
      | exact mo_n (mo_in (mo_pI fun _ _ => mo_k))
      | exact mo_n (mo_in (mo_pL fun _ _ => mo_k))
      | exact mo_n (mo_in (mo_pF fun _ _ => mo_k))
      | exact mo_n (mo_in (mo_pD fun _ _ => mo_k))
      | exact mo_n (mo_in (mo_pR fun _ _ => mo_k))
      | exact mo_n (mo_in (mo_lI fun _ => mo_k))
      | exact mo_n (mo_pI fun _ _ => mo_k)
      | exact mo_n (mo_pL fun _ _ => mo_k)
      | exact mo_n (mo_pF fun _ _ => mo_k)
      | exact mo_n (mo_pD fun _ _ => mo_k)
      | exact mo_n (mo_pI fun _ _ => mo_pI fun _ _ => mo_k)
      | exact mo_n (mo_pL fun _ _ => mo_pL fun _ _ => mo_k)
      | exact mo_n (mo_pF fun _ _ => mo_pF fun _ _ => mo_k)
      | exact mo_n (mo_pD fun _ _ => mo_pD fun _ _ => mo_k)
      | exact mo_n (mo_pR fun _ _ => mo_bind fun _ _ => mo_k)
      | exact mo_n (mo_pI fun _ _ => mo_pR fun _ _ => mo_bind fun _ _ => mo_k)
      | exact mo_n (mo_pI fun _ _ => mo_pI fun _ _ => mo_pR fun _ _ => mo_bind fun _ _ => mo_k)
      | exact mo_n (mo_pL fun _ _ => mo_pI fun _ _ => mo_pR fun _ _ => mo_bind fun _ _ => mo_k)
      | exact mo_n (mo_pD fun _ _ => mo_pI fun _ _ => mo_pR fun _ _ => mo_bind fun _ _ => mo_k)
      | exact mo_n (mo_pR fun _ _ => mo_pI fun _ _ => mo_pR fun _ _ => mo_bind fun _ _ => mo_k)
theorem mo_run {call : jm_Call} (hc : jm_cM call) {M : jm_Meth} : ∀ (n pc : Nat) (l : jm_Loc) (st : List Value) (m : jm_Mem) (r : jm_Res), jm_run call M n pc l st m = some r → jm_le m r.2 := by
  intro n
  induction n with
  | zero => intro pc l st m r h; cases h
  | succ n ih => intro pc l st m r h; exact mo_stp hc (jm_run call M n) ih r h
theorem mo_env : ∀ d : Nat, jm_cM (jm_env d) := by
  intro d
  induction d with
  | zero => intro k as m r h; cases h
  | succ d ih =>
    intro k as m r h
    have h1 : (match jm_M k with | none => none | some M => if jm_ok M as m = true ∧ (jm_la as).length ≤ jm_mL M then jm_R (jm_env d) M 0 (jm_en M as) [] m else none) = some r := h
    split at h1
    · cases h1
    · split at h1
      · obtain ⟨n, hn⟩ := jm_R_iff.mp h1
        exact mo_run ih _ _ _ _ _ _ hn
      · cases h1
end MO
