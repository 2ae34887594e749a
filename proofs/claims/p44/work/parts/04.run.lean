/-! A step goes on at one place, or ends: so runs are the same however long they may be. -/
def jm_det (F : jm_K → Option jm_Res) : Prop := (∃ o, ∀ K, F K = o) ∨ ∃ pc l st m, ∀ K, F K = K pc l st m
theorem det_c (o : Option jm_Res) : jm_det (fun _ => o) := Or.inl ⟨o, fun _ => rfl⟩
theorem det_k (pc : Nat) (l : jm_Loc) (st : List Value) (m : jm_Mem) : jm_det (fun K => K pc l st m) := Or.inr ⟨pc, l, st, m, fun _ => rfl⟩
theorem det_ite {c : Prop} [Decidable c] {F G : jm_K → Option jm_Res} (hF : jm_det F) (hG : jm_det G) : jm_det (fun K => if c then F K else G K) := by
  by_cases h : c
  · simpa [h] using hF
  · simpa [h] using hG
theorem det_n {a b : Nat} {F : jm_K → Option jm_Res} (h : jm_det F) : jm_det (fun K => jm_n a b (F K)) := det_ite h (det_c none)
theorem det_n32 {a : UInt32} {F : jm_K → Option jm_Res} (h : jm_det F) : jm_det (fun K => jm_n32 a (F K)) := det_ite h (det_c none)
theorem det_n64 {a : UInt64} {F : jm_K → Option jm_Res} (h : jm_det F) : jm_det (fun K => jm_n64 a (F K)) := det_ite h (det_c none)
theorem det_in {l : jm_Loc} {i : Nat} {F : jm_K → Option jm_Res} (h : jm_det F) : jm_det (fun K => jm_in l i (F K)) := det_ite h (det_c none)
theorem det_sm {st : List Value} {F : jm_K → Option jm_Res} (h : jm_det F) : jm_det (fun K => jm_sm st (F K)) := det_ite h (det_c none)
theorem det_B {x : Int32} {F : jm_K → Option jm_Res} (h : jm_det F) : jm_det (fun K => jm_B x (F K)) := det_ite h (det_ite h (det_c none))
theorem det_mk {m : jm_Mem} {e : jm_Ent} {s : Nat} {F : jm_K → jm_Mem → Option jm_Res} (h : ∀ x, jm_det (fun K => F K x)) : jm_det (fun K => jm_mk m e s (F K)) := det_ite (h _) (det_c none)
theorem det_bind {α : Type} {o : Option α} {F : jm_K → α → Option jm_Res} (h : ∀ x, jm_det (fun K => F K x)) : jm_det (fun K => o.bind (F K)) := by
  cases o with
  | none => exact det_c none
  | some x => exact h x
theorem det_pI {st : List Value} {F : jm_K → Int32 → List Value → Option jm_Res} (h : ∀ x r, jm_det (fun K => F K x r)) : jm_det (fun K => jm_pI st (F K)) := by
  rcases st with _ | ⟨v, r⟩
  · exact det_c none
  · cases v <;> first | exact h _ _ | exact det_c none
theorem det_pL {st : List Value} {F : jm_K → Int64 → List Value → Option jm_Res} (h : ∀ x r, jm_det (fun K => F K x r)) : jm_det (fun K => jm_pL st (F K)) := by
  rcases st with _ | ⟨v, r⟩
  · exact det_c none
  · cases v <;> first | exact h _ _ | exact det_c none
theorem det_pF {st : List Value} {F : jm_K → UInt32 → List Value → Option jm_Res} (h : ∀ x r, jm_det (fun K => F K x r)) : jm_det (fun K => jm_pF st (F K)) := by
  rcases st with _ | ⟨v, r⟩
  · exact det_c none
  · cases v <;> first | exact h _ _ | exact det_c none
theorem det_pD {st : List Value} {F : jm_K → UInt64 → List Value → Option jm_Res} (h : ∀ x r, jm_det (fun K => F K x r)) : jm_det (fun K => jm_pD st (F K)) := by
  rcases st with _ | ⟨v, r⟩
  · exact det_c none
  · cases v <;> first | exact h _ _ | exact det_c none
theorem det_pR {st : List Value} {F : jm_K → Nat → List Value → Option jm_Res} (h : ∀ x r, jm_det (fun K => F K x r)) : jm_det (fun K => jm_pR st (F K)) := by
  rcases st with _ | ⟨v, r⟩
  · exact det_c none
  · cases v <;> first | exact h _ _ | exact det_c none
theorem det_lI {l : jm_Loc} {i : Nat} {F : jm_K → Int32 → Option jm_Res} (h : ∀ x, jm_det (fun K => F K x)) : jm_det (fun K => jm_lI l i (F K)) := by
  unfold jm_lI
  generalize l[i]? = z
  rcases z with _ | (_ | v)
  · exact det_c none
  · exact det_c none
  · cases v <;> first | exact h _ | exact det_c none
theorem det_lL {l : jm_Loc} {i : Nat} {F : jm_K → Int64 → Option jm_Res} (h : ∀ x, jm_det (fun K => F K x)) : jm_det (fun K => jm_lL l i (F K)) := by
  unfold jm_lL
  generalize l[i]? = z
  rcases z with _ | (_ | v)
  · exact det_c none
  · exact det_c none
  · cases v <;> first | exact h _ | exact det_c none
theorem det_lF {l : jm_Loc} {i : Nat} {F : jm_K → UInt32 → Option jm_Res} (h : ∀ x, jm_det (fun K => F K x)) : jm_det (fun K => jm_lF l i (F K)) := by
  unfold jm_lF
  generalize l[i]? = z
  rcases z with _ | (_ | v)
  · exact det_c none
  · exact det_c none
  · cases v <;> first | exact h _ | exact det_c none
theorem det_lD {l : jm_Loc} {i : Nat} {F : jm_K → UInt64 → Option jm_Res} (h : ∀ x, jm_det (fun K => F K x)) : jm_det (fun K => jm_lD l i (F K)) := by
  unfold jm_lD
  generalize l[i]? = z
  rcases z with _ | (_ | v)
  · exact det_c none
  · exact det_c none
  · cases v <;> first | exact h _ | exact det_c none
theorem det_lR {l : jm_Loc} {i : Nat} {F : jm_K → Nat → Option jm_Res} (h : ∀ x, jm_det (fun K => F K x)) : jm_det (fun K => jm_lR l i (F K)) := by
  unfold jm_lR
  generalize l[i]? = z
  rcases z with _ | (_ | v)
  · exact det_c none
  · exact det_c none
  · cases v <;> first | exact h _ | exact det_c none
theorem det_tg {pc : Nat} {off : Int} {F : jm_K → Nat → Option jm_Res} (h : ∀ x, jm_det (fun K => F K x)) : jm_det (fun K => jm_tg pc off (F K)) := by
  unfold jm_tg
  generalize (pc : Int) + off = z
  cases z with
  | ofNat t => exact h t
  | negSucc _ => exact det_c none
theorem det_pop {F : jm_K → List Value → List Value → Option jm_Res} (h : ∀ x r, jm_det (fun K => F K x r)) : ∀ (n : Nat) (st a : List Value), jm_det (fun K => jm_pop n st a (F K)) := by
  intro n
  induction n with
  | zero => intro st a; exact h _ _
  | succ n ih =>
    intro st a
    cases st with
    | nil => exact det_c none
    | cons v st => exact ih st (v :: a)
theorem det_cond {c : Jvm.ClassFile.Cond} {x y : Int32} {F G : jm_K → Option jm_Res} (hF : jm_det F) (hG : jm_det G) : jm_det (fun K => jm_cond c x y (F K) (G K)) := by
  cases c
  · exact det_ite hF hG
  · exact det_ite hG hF
  · exact det_ite hF hG
  · exact det_ite hF hG
  · exact det_ite hF hG
  · exact det_ite hF hG
theorem det_thr {M : jm_Meth} {pc : Nat} {l : jm_Loc} {E : String} {m : jm_Mem} : jm_det (fun K => jm_thr M pc l E m K) := by
  unfold jm_thr
  cases h : jm_mH M with
  | nil => exact det_c _
  | cons a b =>
    dsimp only
    generalize jm_hd (a :: b) pc E = z
    cases z with
    | none => exact det_c _
    | some t =>
      dsimp only
      generalize jm_ins M t = y
      rcases y with _ | ⟨i, n⟩
      · exact det_c _
      · cases i <;> first | exact det_c _ | exact det_n (det_in (det_k _ _ _ _))
theorem det_back {rk : Nat} {M : jm_Meth} {pc : Nat} {l : jm_Loc} {st : List Value} {r : jm_Res} : jm_det (fun K => jm_back rk M pc l st K r) := by
  obtain ⟨o, m⟩ := r
  rcases o with (_ | v) | E
  · rcases rk with _ | _ | _ | _ | _ | rk <;> first | exact det_k _ _ _ _ | exact det_c _
  · rcases rk with _ | _ | _ | _ | _ | rk <;> cases v <;> first | exact det_k _ _ _ _ | exact det_c _
  · rcases rk with _ | _ | _ | _ | _ | rk <;> first | exact det_thr | exact det_c _
