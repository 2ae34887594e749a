/-! What the class's calls do in a larger memory: the same, and nothing else is touched. -/
def fP (n : Nat) : Prop := n < 411 ∨ jm_str ≤ n
def fS (st : List Value) : Prop := ∀ x, .ref x ∈ st → fP x
def fL (l : jm_Loc) : Prop := ∀ x, some (.ref x) ∈ l → fP x
def fE (e : jm_Ent) : Prop := match e with
  | .inl (_, _, .inr (.inr (.inr (.inr f)))) => ∀ k x, f k = some x → fP x
  | .inr (_, fs) => fS fs
  | _ => True
def fI (q : jm_Mem) : Prop := q.1 = 411 ∧ ∀ n, fP n → fE (q.2.1 n)
def fG (r : jm_Res) : Prop := fI r.2 ∧ ∀ x, r.1 = .inl (some (.ref x)) → fP x
/-- the small memory laid over the large one -/
def fM (B q : jm_Mem) : jm_Mem := (B.1, fun n => if n < 411 ∨ jm_str ≤ n then q.2.1 n else B.2.1 n, B.2.2.1 + q.2.2.1, B.2.2.2 + q.2.2.2)
def fR (B : jm_Mem) (r : jm_Res) : jm_Res := (r.1, fM B r.2)
def zo (B : jm_Mem) (F F' : jm_K → Option jm_Res) : Prop := ∀ K K' : jm_K, (∀ pc l st q r, K pc l st q = some r → jm_le q r.2) → (∀ pc l st q r, fL l → fS st → fI q → K pc l st q = some r → r.2.1 = 411 → K' pc l st (fM B q) = some (fR B r) ∧ fG r) → ∀ r, F K = some r → r.2.1 = 411 → F' K' = some (fR B r) ∧ fG r
theorem fr_at {B q : jm_Mem} {n : Nat} (h : fP n) : (fM B q).2.1 n = q.2.1 n := if_pos h
theorem fr_up {B q : jm_Mem} {n : Nat} {e : jm_Ent} (h : fP n) : jm_up (fM B q) n e = fM B (jm_up q n e) := by
  show (B.1, va_up _ n e, _) = (B.1, _, _)
  congr 2
  funext j
  show (if j = n then e else if j < 411 ∨ jm_str ≤ j then q.2.1 j else B.2.1 j) = if j < 411 ∨ jm_str ≤ j then (if j = n then e else q.2.1 j) else B.2.1 j
  by_cases hj : j = n
  · subst hj
    rw [if_pos rfl, if_pos (show j < 411 ∨ jm_str ≤ j from h), if_pos rfl]
  · rw [if_neg hj, if_neg hj]
theorem fr_exc {B q : jm_Mem} : jm_exc (fM B q) = fM B (jm_exc q) := rfl
section FRM
variable {B q : jm_Mem}
theorem zo_n0 {F' : jm_K → Option jm_Res} : zo B (fun _ => none) F' := fun _ _ _ _ _ h => by cases h
theorem zo_s {o : Option Value ⊕ String} (hm : fI q) (ho : ∀ x, o = .inl (some (.ref x)) → fP x) : zo B (fun _ => some (o, q)) (fun _ => some (o, fM B q)) := fun _ _ _ _ r h _ => by
  cases h
  exact ⟨rfl, hm, ho⟩
theorem zo_k {pc : Nat} {l : jm_Loc} {st : List Value} (hl : fL l) (hs : fS st) (hm : fI q) : zo B (fun K => K pc l st q) (fun K => K pc l st (fM B q)) := fun _ _ _ hK r h h1 => hK _ _ _ _ _ hl hs hm h h1
theorem zo_ite {c : Prop} [Decidable c] {F G F' G' : jm_K → Option jm_Res} (hF : zo B F F') (hG : zo B G G') : zo B (fun K => if c then F K else G K) (fun K => if c then F' K else G' K) := by
  by_cases h : c
  · simpa [h] using hF
  · simpa [h] using hG
theorem zo_bind {α : Type} {o o' : Option α} {F F' : jm_K → α → Option jm_Res} (e : o' = o) (h : ∀ x, o = some x → zo B (fun K => F K x) (fun K => F' K x)) : zo B (fun K => o.bind (F K)) (fun K => o'.bind (F' K)) := by
  subst e
  cases o' with
  | none => exact zo_n0
  | some x => exact h x rfl
theorem zo_bindW {o o' : Option jm_Mem} {F F' : jm_K → jm_Mem → Option jm_Res} (e : o' = o.map (fM B)) (h : ∀ x, o = some x → zo B (fun K => F K x) (fun K => F' K (fM B x))) : zo B (fun K => o.bind (F K)) (fun K => o'.bind (F' K)) := by
  subst e
  cases o with
  | none => exact zo_n0
  | some x => exact h x rfl
theorem zo_mk {e : jm_Ent} {s : Nat} {p : jm_Mem → Nat × jm_Loc × List Value} {F' : jm_K → Option jm_Res} (hm : fI q) : zo B (fun K => jm_mk q e s fun m1 => K (p m1).1 (p m1).2.1 (p m1).2.2 m1) F' := fun K _ hmo _ r h h1 => by
  exfalso
  have h2 : (if q.1 < 1000000 then K (p (jm_new q e s)).1 (p (jm_new q e s)).2.1 (p (jm_new q e s)).2.2 (jm_new q e s) else none) = some r := h
  split at h2
  · have h3 := (hmo _ _ _ _ _ h2).1
    have h4 : (jm_new q e s).1 = q.1 + 1 := rfl
    have h5 := hm.1
    omega
  · cases h2
theorem zo_n {b c : Nat} {F F' : jm_K → Option jm_Res} (h : zo B F F') : zo B (fun K => jm_n b c (F K)) (fun K => jm_n b c (F' K)) := zo_ite h zo_n0
theorem zo_n32 {b : UInt32} {F F' : jm_K → Option jm_Res} (h : zo B F F') : zo B (fun K => jm_n32 b (F K)) (fun K => jm_n32 b (F' K)) := zo_ite h zo_n0
theorem zo_n64 {b : UInt64} {F F' : jm_K → Option jm_Res} (h : zo B F F') : zo B (fun K => jm_n64 b (F K)) (fun K => jm_n64 b (F' K)) := zo_ite h zo_n0
theorem zo_in {l : jm_Loc} {i : Nat} {F F' : jm_K → Option jm_Res} (h : zo B F F') : zo B (fun K => jm_in l i (F K)) (fun K => jm_in l i (F' K)) := zo_ite h zo_n0
theorem zo_sm {st : List Value} {F F' : jm_K → Option jm_Res} (h : zo B F F') : zo B (fun K => jm_sm st (F K)) (fun K => jm_sm st (F' K)) := zo_ite h zo_n0
theorem zo_B {x : Int32} {F F' : jm_K → Option jm_Res} (h : zo B F F') : zo B (fun K => jm_B x (F K)) (fun K => jm_B x (F' K)) := zo_ite h (zo_ite h zo_n0)
theorem fS_t {x : Value} {st : List Value} (h : fS (x :: st)) : fS st := fun y hy => h y (List.mem_cons_of_mem _ hy)
theorem fS_r {x : Nat} {st : List Value} (h : fS (.ref x :: st)) : fP x := h x List.mem_cons_self
theorem fS_c {x : Value} {st : List Value} (hx : ∀ y, x = .ref y → fP y) (h : fS st) : fS (x :: st) := fun y hy => by
  rcases List.mem_cons.mp hy with e | e
  · exact hx y e.symm
  · exact h y e
theorem fS_I {x : Int32} {st : List Value} (h : fS st) : fS (.int x :: st) := fS_c (fun _ e => by cases e) h
theorem fS_L {x : Int64} {st : List Value} (h : fS st) : fS (.long x :: st) := fS_c (fun _ e => by cases e) h
theorem fS_F {x : UInt32} {st : List Value} (h : fS st) : fS (.float x :: st) := fS_c (fun _ e => by cases e) h
theorem fS_D {x : UInt64} {st : List Value} (h : fS st) : fS (.double x :: st) := fS_c (fun _ e => by cases e) h
theorem fS_N {st : List Value} (h : fS st) : fS (.null :: st) := fS_c (fun _ e => by cases e) h
theorem fS_R {x : Nat} {st : List Value} (hx : fP x) (h : fS st) : fS (.ref x :: st) := fS_c (fun _ e => by cases e; exact hx) h
theorem fS_0 : fS [] := fun y hy => by cases hy
theorem zo_pI {st : List Value} {F F' : jm_K → Int32 → List Value → Option jm_Res} (hs : fS st) (h : ∀ x r, fS r → zo B (fun K => F K x r) (fun K => F' K x r)) : zo B (fun K => jm_pI st (F K)) (fun K => jm_pI st (F' K)) := by
  rcases st with _ | ⟨v, r⟩
  · exact zo_n0
  · cases v <;> first | exact h _ _ (fS_t hs) | exact zo_n0
theorem zo_pL {st : List Value} {F F' : jm_K → Int64 → List Value → Option jm_Res} (hs : fS st) (h : ∀ x r, fS r → zo B (fun K => F K x r) (fun K => F' K x r)) : zo B (fun K => jm_pL st (F K)) (fun K => jm_pL st (F' K)) := by
  rcases st with _ | ⟨v, r⟩
  · exact zo_n0
  · cases v <;> first | exact h _ _ (fS_t hs) | exact zo_n0
theorem zo_pF {st : List Value} {F F' : jm_K → UInt32 → List Value → Option jm_Res} (hs : fS st) (h : ∀ x r, fS r → zo B (fun K => F K x r) (fun K => F' K x r)) : zo B (fun K => jm_pF st (F K)) (fun K => jm_pF st (F' K)) := by
  rcases st with _ | ⟨v, r⟩
  · exact zo_n0
  · cases v <;> first | exact h _ _ (fS_t hs) | exact zo_n0
theorem zo_pD {st : List Value} {F F' : jm_K → UInt64 → List Value → Option jm_Res} (hs : fS st) (h : ∀ x r, fS r → zo B (fun K => F K x r) (fun K => F' K x r)) : zo B (fun K => jm_pD st (F K)) (fun K => jm_pD st (F' K)) := by
  rcases st with _ | ⟨v, r⟩
  · exact zo_n0
  · cases v <;> first | exact h _ _ (fS_t hs) | exact zo_n0
theorem zo_pR {st : List Value} {F F' : jm_K → Nat → List Value → Option jm_Res} (hs : fS st) (h : ∀ x r, fP x → fS r → zo B (fun K => F K x r) (fun K => F' K x r)) : zo B (fun K => jm_pR st (F K)) (fun K => jm_pR st (F' K)) := by
  rcases st with _ | ⟨v, r⟩
  · exact zo_n0
  · cases v <;> first | exact h _ _ (fS_r hs) (fS_t hs) | exact zo_n0
theorem zo_lI {l : jm_Loc} {i : Nat} {F F' : jm_K → Int32 → Option jm_Res} (h : ∀ x, zo B (fun K => F K x) (fun K => F' K x)) : zo B (fun K => jm_lI l i (F K)) (fun K => jm_lI l i (F' K)) := by
  unfold jm_lI
  generalize l[i]? = z
  rcases z with _ | (_ | v)
  · exact zo_n0
  · exact zo_n0
  · cases v <;> first | exact h _ | exact zo_n0
theorem zo_lL {l : jm_Loc} {i : Nat} {F F' : jm_K → Int64 → Option jm_Res} (h : ∀ x, zo B (fun K => F K x) (fun K => F' K x)) : zo B (fun K => jm_lL l i (F K)) (fun K => jm_lL l i (F' K)) := by
  unfold jm_lL
  generalize l[i]? = z
  rcases z with _ | (_ | v)
  · exact zo_n0
  · exact zo_n0
  · cases v <;> first | exact h _ | exact zo_n0
theorem zo_lF {l : jm_Loc} {i : Nat} {F F' : jm_K → UInt32 → Option jm_Res} (h : ∀ x, zo B (fun K => F K x) (fun K => F' K x)) : zo B (fun K => jm_lF l i (F K)) (fun K => jm_lF l i (F' K)) := by
  unfold jm_lF
  generalize l[i]? = z
  rcases z with _ | (_ | v)
  · exact zo_n0
  · exact zo_n0
  · cases v <;> first | exact h _ | exact zo_n0
theorem zo_lD {l : jm_Loc} {i : Nat} {F F' : jm_K → UInt64 → Option jm_Res} (h : ∀ x, zo B (fun K => F K x) (fun K => F' K x)) : zo B (fun K => jm_lD l i (F K)) (fun K => jm_lD l i (F' K)) := by
  unfold jm_lD
  generalize l[i]? = z
  rcases z with _ | (_ | v)
  · exact zo_n0
  · exact zo_n0
  · cases v <;> first | exact h _ | exact zo_n0
theorem zo_lR {l : jm_Loc} {i : Nat} {F F' : jm_K → Nat → Option jm_Res} (hl : fL l) (h : ∀ x, fP x → zo B (fun K => F K x) (fun K => F' K x)) : zo B (fun K => jm_lR l i (F K)) (fun K => jm_lR l i (F' K)) := by
  unfold jm_lR
  have hz : ∀ x, l[i]? = some (some (.ref x)) → fP x := fun x e => hl _ (List.mem_of_getElem? e)
  generalize l[i]? = z at hz ⊢
  rcases z with _ | (_ | v)
  · exact zo_n0
  · exact zo_n0
  · cases v <;> first | exact h _ (hz _ rfl) | exact zo_n0
theorem zo_tg {pc : Nat} {off : Int} {F F' : jm_K → Nat → Option jm_Res} (h : ∀ x, zo B (fun K => F K x) (fun K => F' K x)) : zo B (fun K => jm_tg pc off (F K)) (fun K => jm_tg pc off (F' K)) := by
  unfold jm_tg
  generalize (pc : Int) + off = z
  cases z with
  | ofNat t => exact h t
  | negSucc _ => exact zo_n0
theorem zo_pop {F F' : jm_K → List Value → List Value → Option jm_Res} (h : ∀ x r, fS x → fS r → zo B (fun K => F K x r) (fun K => F' K x r)) : ∀ (n : Nat) (st b : List Value), fS st → fS b → zo B (fun K => jm_pop n st b (F K)) (fun K => jm_pop n st b (F' K)) := by
  intro n
  induction n with
  | zero => intro st b hs hb; exact h _ _ hb hs
  | succ n ih =>
    intro st b hs hb
    cases st with
    | nil => exact zo_n0
    | cons v st => exact ih st (v :: b) (fS_t hs) (fS_c (fun y e => hs y (by rw [e]; exact List.mem_cons_self)) hb)
theorem zo_cond {c : Jvm.ClassFile.Cond} {x y : Int32} {F G F' G' : jm_K → Option jm_Res} (hF : zo B F F') (hG : zo B G G') : zo B (fun K => jm_cond c x y (F K) (G K)) (fun K => jm_cond c x y (F' K) (G' K)) := by
  cases c
  · exact zo_ite hF hG
  · exact zo_ite hG hF
  · exact zo_ite hF hG
  · exact zo_ite hF hG
  · exact zo_ite hF hG
  · exact zo_ite hF hG
theorem fL_set {l : jm_Loc} {i : Nat} {v : Option Value} (hl : fL l) (hv : ∀ y, v = some (.ref y) → fP y) : fL (l.set i v) := fun x hx => by
  rcases List.mem_or_eq_of_mem_set hx with e | e
  · exact hl x e
  · exact hv x e.symm
theorem fL_clr {l : jm_Loc} {i : Nat} (hl : fL l) : fL (jm_clr l i) := by
  unfold jm_clr
  split
  · exact hl
  · split
    · split
      · exact fL_set hl (fun _ e => by cases e)
      · exact hl
    · exact hl
theorem fL_1 {l : jm_Loc} {i : Nat} {v : Option Value} (hl : fL l) (hv : ∀ y, v = some (.ref y) → fP y) : fL (jm_st1 l i v) := fL_set (fL_clr hl) hv
theorem fL_2 {l : jm_Loc} {i : Nat} {v : Value} (hl : fL l) (hv : ∀ y, v = .ref y → fP y) : fL (jm_st2 l i v) := fL_set (fL_set (fL_clr hl) (fun y e => hv y (Option.some.inj e))) (fun _ e => by cases e)
theorem fL_1R {l : jm_Loc} {i x : Nat} (hl : fL l) (hx : fP x) : fL (jm_st1 l i (some (.ref x))) := fL_1 hl (fun _ e => by cases e; exact hx)
theorem zo_thr {M : jm_Meth} {pc : Nat} {l : jm_Loc} {E : String} (hl : fL l) (hm : fI q) : zo B (fun K => jm_thr M pc l E q K) (fun K => jm_thr M pc l E (fM B q) K) := by
  unfold jm_thr
  cases h : jm_mH M with
  | nil => exact zo_s hm (fun x e => by cases e)
  | cons c b =>
    dsimp only
    generalize jm_hd (c :: b) pc E = z
    cases z with
    | none => exact zo_n0
    | some t =>
      dsimp only
      generalize jm_ins M t = y
      rcases y with _ | ⟨i, n⟩
      · exact zo_n0
      · cases i <;> first | exact zo_n0 | exact zo_n (zo_in (zo_k (fL_1 hl (fun _ e => by cases e)) fS_0 hm))
theorem zo_back {rk : Nat} {M : jm_Meth} {pc : Nat} {l : jm_Loc} {st : List Value} {r : jm_Res} (hl : fL l) (hs : fS st) (hr : fG r) : zo B (fun K => jm_back rk M pc l st K r) (fun K => jm_back rk M pc l st K (fR B r)) := by
  obtain ⟨o, m2⟩ := r
  have hm : fI m2 := hr.1
  have hv := hr.2
  rcases o with (_ | v) | E
  · rcases rk with _ | _ | _ | _ | _ | rk <;> first | exact zo_k hl hs hm | exact zo_n0
  · rcases rk with _ | _ | _ | _ | _ | rk <;> cases v <;> first | exact zo_k hl (fS_I hs) hm | exact zo_k hl (fS_L hs) hm | exact zo_k hl (fS_D hs) hm | exact zo_k hl (fS_R (hv _ rfl) hs) hm | exact zo_n0
  · rcases rk with _ | _ | _ | _ | _ | rk <;> first | exact zo_thr hl hm | exact zo_n0
theorem zo_bak {rk pc : Nat} {l : jm_Loc} {st : List Value} {r : jm_Res} (hl : fL l) (hs : fS st) (hr : fG r) : zo B (fun K => jm_bak rk pc l st K r) (fun K => jm_bak rk pc l st K (fR B r)) := by
  obtain ⟨o, m2⟩ := r
  have hm : fI m2 := hr.1
  have hv := hr.2
  rcases o with (_ | v) | E
  · rcases rk with _ | _ | _ | _ | _ | rk <;> first | exact zo_k hl hs hm | exact zo_n0
  · rcases rk with _ | _ | _ | _ | _ | rk <;> cases v <;> first | exact zo_k hl (fS_I hs) hm | exact zo_k hl (fS_L hs) hm | exact zo_k hl (fS_D hs) hm | exact zo_k hl (fS_R (hv _ rfl) hs) hm | exact zo_n0
  · rcases rk with _ | _ | _ | _ | _ | rk <;> exact zo_n0
theorem fi_up {n : Nat} {e : jm_Ent} (hm : fI q) (he : fE e) : fI (jm_up q n e) := by
  refine ⟨hm.1, fun j hj => ?_⟩
  show fE (if j = n then e else q.2.1 j)
  split
  · exact he
  · exact hm.2 j hj
theorem fS_set {fs : List Value} {i : Nat} {v : Value} (hl : fS fs) (hv : ∀ y, v = .ref y → fP y) : fS (fs.set i v) := fun x hx => by
  rcases List.mem_or_eq_of_mem_set hx with e | e
  · exact hl x e
  · exact hv x e.symm
/-- reading and writing in the large memory -/
theorem f_gI {r ci k : Nat} (hr : fP r) : jm_gI (fM B q) r ci k = jm_gI q r ci k := by unfold jm_gI; rw [fr_at hr]
theorem f_gL {r ci k : Nat} (hr : fP r) : jm_gL (fM B q) r ci k = jm_gL q r ci k := by unfold jm_gL; rw [fr_at hr]
theorem f_gR {r ci k : Nat} (hr : fP r) : jm_gR (fM B q) r ci k = jm_gR q r ci k := by unfold jm_gR; rw [fr_at hr]
theorem f_len {r : Nat} (hr : fP r) : jm_len (fM B q) r = jm_len q r := by unfold jm_len; rw [fr_at hr]
theorem f_gS {r : Nat} (hr : fP r) : jm_gS (fM B q) r = jm_gS q r := by unfold jm_gS; rw [fr_at hr]
theorem f_aI {r : Nat} {i : Int32} (hr : fP r) : jm_aI (fM B q) r i = jm_aI q r i := by unfold jm_aI; rw [fr_at hr]
theorem f_aY {r : Nat} {i : Int32} (hr : fP r) : jm_aY (fM B q) r i = jm_aY q r i := by unfold jm_aY jm_aZ jm_aB; rw [fr_at hr]
theorem f_aL {r : Nat} {i : Int32} (hr : fP r) : jm_aL (fM B q) r i = jm_aL q r i := by unfold jm_aL; rw [fr_at hr]
theorem f_aD {r : Nat} {i : Int32} (hr : fP r) : jm_aD (fM B q) r i = jm_aD q r i := by unfold jm_aD; rw [fr_at hr]
theorem f_aQ {r : Nat} {i : Int32} (hr : fP r) : jm_aQ (fM B q) r i = jm_aQ q r i := by unfold jm_aQ jm_aR jm_aO; rw [fr_at hr]
theorem f_elt {x : Nat} (hx : fP x) : jm_elt (fM B q) x = jm_elt q x := by unfold jm_elt; rw [fr_at hx]
theorem f_caO {x k : Nat} (hx : fP x) : jm_caO (fM B q) x k = jm_caO q x k := by unfold jm_caO; rw [fr_at hx]
theorem f_isC {x k : Nat} (hx : fP x) : jm_isC (fM B q) x k = jm_isC q x k := by unfold jm_isC; rw [fr_at hx]
theorem f_map {α : Type} {o : Option α} {f g : α → jm_Mem} (h : ∀ x, f x = fM B (g x)) : o.map f = (o.map g).map (fM B) := by
  cases o with
  | none => rfl
  | some x => exact congrArg some (h x)
theorem f_put {r ci k : Nat} {v : Value} (hr : fP r) : jm_put (fM B q) r ci k v = (jm_put q r ci k v).map (fM B) := by
  unfold jm_put
  rw [fr_at hr]
  split
  · split
    · split
      · exact congrArg some (fr_up hr)
      · rfl
    · rfl
  · rfl
theorem f_wI {r : Nat} {i x : Int32} (hr : fP r) : jm_wI (fM B q) r i x = (jm_wI q r i x).map (fM B) := by
  unfold jm_wI
  rw [fr_at hr]
  split
  · split
    · exact f_map (fun _ => fr_up hr)
    · rfl
  · rfl
theorem f_wZ {r : Nat} {i x : Int32} (hr : fP r) : jm_wZ (fM B q) r i x = (jm_wZ q r i x).map (fM B) := by
  unfold jm_wZ
  rw [fr_at hr]
  split
  · split
    · exact f_map (fun _ => fr_up hr)
    · rfl
  · rfl
theorem f_wB {r : Nat} {i x : Int32} (hr : fP r) : jm_wB (fM B q) r i x = (jm_wB q r i x).map (fM B) := by
  unfold jm_wB
  rw [fr_at hr]
  split
  · split
    · exact f_map (fun _ => fr_up hr)
    · rfl
  · rfl
theorem f_or {a b : Option jm_Mem} : (a.map (fM B)).or (b.map (fM B)) = (a.or b).map (fM B) := by
  cases a <;> rfl
theorem f_wY {r : Nat} {i x : Int32} (hr : fP r) : jm_wY (fM B q) r i x = (jm_wY q r i x).map (fM B) := by
  unfold jm_wY
  rw [f_wZ hr, f_wB hr, f_or]
theorem f_wL {r : Nat} {i : Int32} {x : Int64} (hr : fP r) : jm_wL (fM B q) r i x = (jm_wL q r i x).map (fM B) := by
  unfold jm_wL
  rw [fr_at hr]
  split
  · split
    · exact f_map (fun _ => fr_up hr)
    · rfl
  · rfl
theorem f_wD {r : Nat} {i : Int32} {x : UInt64} (hr : fP r) : jm_wD (fM B q) r i x = (jm_wD q r i x).map (fM B) := by
  unfold jm_wD
  rw [fr_at hr]
  split
  · split
    · exact f_map (fun _ => fr_up hr)
    · rfl
  · rfl
theorem f_wR {r x : Nat} {i : Int32} (hr : fP r) (hx : fP x) : jm_wR (fM B q) r i x = (jm_wR q r i x).map (fM B) := by
  unfold jm_wR
  rw [fr_at hr, fr_at hx]
  split
  · split
    · split
      · split
        · exact f_map (fun _ => fr_up hr)
        · rfl
      · rfl
    · rfl
  · rfl
theorem f_wO {r x : Nat} {i : Int32} (hr : fP r) (hx : fP x) : jm_wO (fM B q) r i x = (jm_wO q r i x).map (fM B) := by
  unfold jm_wO
  rw [fr_at hr, f_elt hx]
  split
  · split
    · exact f_map (fun _ => fr_up hr)
    · rfl
  · rfl
theorem f_wQ {r x : Nat} {i : Int32} (hr : fP r) (hx : fP x) : jm_wQ (fM B q) r i x = (jm_wQ q r i x).map (fM B) := by
  unfold jm_wQ
  rw [f_wR hr hx, f_wO hr hx, f_or]
theorem f_cpy {r0 r1 : Nat} {i0 i1 n : Int32} (h0 : fP r0) (h1 : fP r1) : jm_cpy (fM B q) r0 i0 r1 i1 n = (jm_cpy q r0 i0 r1 i1 n).map (fM B) := by
  unfold jm_cpy
  rw [fr_at h0, fr_at h1]
  split
  · split
    · exact congrArg some (fr_up h1)
    · rfl
  · split
    · exact congrArg some (fr_up h1)
    · rfl
  · rfl
theorem f_cpB {r0 r1 : Nat} {i0 i1 n : Int32} (h0 : fP r0) (h1 : fP r1) : jm_cpB (fM B q) r0 i0 r1 i1 n = (jm_cpB q r0 i0 r1 i1 n).map (fM B) := by
  unfold jm_cpB
  rw [fr_at h0, fr_at h1]
  split
  · split
    · exact congrArg some (fr_up h1)
    · rfl
  · rfl
theorem f_cpY {r0 r1 : Nat} {i0 i1 n : Int32} (h0 : fP r0) (h1 : fP r1) : jm_cpY (fM B q) r0 i0 r1 i1 n = (jm_cpY q r0 i0 r1 i1 n).map (fM B) := by
  unfold jm_cpY
  rw [f_cpy h0 h1, f_cpB h0 h1, f_or]
theorem f_gtb {r0 r1 : Nat} {b c : Int32} (h0 : fP r0) (h1 : fP r1) : jm_gtb (fM B q) r0 r1 b c = (jm_gtb q r0 r1 b c).map (fM B) := by
  unfold jm_gtb
  rw [fr_at h0, fr_at h1]
  split
  · split
    · exact congrArg some (fr_up h1)
    · rfl
  · rfl
theorem fi_map {α : Type} {o : Option α} {f : α → jm_Mem} {m2 : jm_Mem} (h : o.map f = some m2) (hf : ∀ x, fI (f x)) : fI m2 := by
  cases o with
  | none => cases h
  | some x => cases h; exact hf x
theorem fi_vu {f : Nat → Option Nat} {k x : Nat} (h2 : ∀ k x, f k = some x → fP x) (hx : fP x) : ∀ j y, va_up f k (some x) j = some y → fP y := by
  intro j y
  unfold va_up
  split
  · intro e; cases e; exact hx
  · exact h2 j y
theorem fi_put {m2 : jm_Mem} {r ci k : Nat} {v : Value} (hm : fI q) (hv : ∀ y, v = .ref y → fP y) (hr : fP r) (h : jm_put q r ci k v = some m2) : fI m2 := by
  unfold jm_put at h
  split at h
  · rename_i c fs he
    split at h
    · split at h
      · cases h
        have h2 := hm.2 r hr
        rw [he] at h2
        exact fi_up hm (fS_set h2 hv)
      · cases h
    · cases h
  · cases h
theorem fi_wI {m2 : jm_Mem} {r : Nat} {i x : Int32} (hm : fI q) (h : jm_wI q r i x = some m2) : fI m2 := by
  unfold jm_wI at h
  split at h
  · split at h
    · exact fi_map h (fun _ => fi_up hm trivial)
    · cases h
  · cases h
theorem fi_wZ {m2 : jm_Mem} {r : Nat} {i x : Int32} (hm : fI q) (h : jm_wZ q r i x = some m2) : fI m2 := by
  unfold jm_wZ at h
  split at h
  · split at h
    · exact fi_map h (fun _ => fi_up hm trivial)
    · cases h
  · cases h
theorem fi_wL {m2 : jm_Mem} {r : Nat} {i : Int32} {x : Int64} (hm : fI q) (h : jm_wL q r i x = some m2) : fI m2 := by
  unfold jm_wL at h
  split at h
  · split at h
    · exact fi_map h (fun _ => fi_up hm trivial)
    · cases h
  · cases h
theorem fi_wD {m2 : jm_Mem} {r : Nat} {i : Int32} {x : UInt64} (hm : fI q) (h : jm_wD q r i x = some m2) : fI m2 := by
  unfold jm_wD at h
  split at h
  · split at h
    · exact fi_map h (fun _ => fi_up hm trivial)
    · cases h
  · cases h
theorem fi_wR {m2 : jm_Mem} {r : Nat} {i : Int32} {x : Nat} (hm : fI q) (hx : fP x) (hr : fP r) (h : jm_wR q r i x = some m2) : fI m2 := by
  unfold jm_wR at h
  split at h
  · rename_i t n f he
    split at h
    · split at h
      · split at h
        · refine fi_map h (fun k => fi_up hm ?_)
          have h2 := hm.2 r hr
          rw [he] at h2
          exact fi_vu h2 hx
        · cases h
      · cases h
    · cases h
  · cases h
theorem fi_cpy {m2 : jm_Mem} {r0 r1 : Nat} {i0 i1 n : Int32} (hm : fI q) (h : jm_cpy q r0 i0 r1 i1 n = some m2) : fI m2 := by
  unfold jm_cpy at h
  split at h
  · split at h
    · cases h; exact fi_up hm trivial
    · cases h
  · split at h
    · cases h; exact fi_up hm trivial
    · cases h
  · cases h
theorem fi_wB {m2 : jm_Mem} {r : Nat} {i x : Int32} (hm : fI q) (h : jm_wB q r i x = some m2) : fI m2 := by
  unfold jm_wB at h
  split at h
  · split at h
    · exact fi_map h (fun _ => fi_up hm trivial)
    · cases h
  · cases h
theorem fi_wO {m2 : jm_Mem} {r : Nat} {i : Int32} {x : Nat} (hm : fI q) (hx : fP x) (hr : fP r) (h : jm_wO q r i x = some m2) : fI m2 := by
  unfold jm_wO at h
  split at h
  · rename_i t n f he
    split at h
    · refine fi_map h (fun k => fi_up hm ?_)
      have h2 := hm.2 r hr
      rw [he] at h2
      exact fi_vu h2 hx
    · cases h
  · cases h
theorem fi_cpB {m2 : jm_Mem} {r0 r1 : Nat} {i0 i1 n : Int32} (hm : fI q) (h : jm_cpB q r0 i0 r1 i1 n = some m2) : fI m2 := by
  unfold jm_cpB at h
  split at h
  · split at h
    · cases h; exact fi_up hm trivial
    · cases h
  · cases h
theorem fi_gtb {m2 : jm_Mem} {r0 r1 : Nat} {b c : Int32} (hm : fI q) (h : jm_gtb q r0 r1 b c = some m2) : fI m2 := by
  unfold jm_gtb at h
  split at h
  · split at h
    · cases h; exact fi_up hm trivial
    · cases h
  · cases h
theorem fi_wY {m2 : jm_Mem} {r : Nat} {i x : Int32} (hm : fI q) (h : jm_wY q r i x = some m2) : fI m2 := (or_some h).elim (fi_wZ hm) (fi_wB hm)
theorem fi_wQ {m2 : jm_Mem} {r : Nat} {i : Int32} {x : Nat} (hm : fI q) (hx : fP x) (hr : fP r) (h : jm_wQ q r i x = some m2) : fI m2 := (or_some h).elim (fi_wR hm hx hr) (fi_wO hm hx hr)
theorem fi_cpY {m2 : jm_Mem} {r0 r1 : Nat} {i0 i1 n : Int32} (hm : fI q) (h : jm_cpY q r0 i0 r1 i1 n = some m2) : fI m2 := (or_some h).elim (fi_cpy hm) (fi_cpB hm)
theorem fi_gR {r ci k x : Nat} (hm : fI q) (hr : fP r) (h : jm_gR q r ci k = some x) : fP x := by
  unfold jm_gR at h
  split at h
  · rename_i c fs he
    have h2 := hm.2 r hr
    rw [he] at h2
    split at h
    · split at h
      · rename_i y hy
        cases h
        exact h2 _ (List.mem_of_getElem? hy)
      · cases h
    · cases h
  · cases h
theorem fi_aR {r x : Nat} {i : Int32} (hm : fI q) (hr : fP r) (h : jm_aR q r i = some x) : fP x := by
  unfold jm_aR at h
  split at h
  · rename_i t n f he
    have h2 := hm.2 r hr
    rw [he] at h2
    split at h
    · obtain ⟨k, -, hk⟩ := Option.bind_eq_some_iff.mp h
      exact h2 _ _ hk
    · cases h
  · cases h
theorem fi_aO {r x : Nat} {i : Int32} (hm : fI q) (hr : fP r) (h : jm_aO q r i = some x) : fP x := by
  unfold jm_aO at h
  split at h
  · rename_i t n f he
    have h2 := hm.2 r hr
    rw [he] at h2
    split at h
    · obtain ⟨k, -, hk⟩ := Option.bind_eq_some_iff.mp h
      exact h2 _ _ hk
    · cases h
  · cases h
theorem fi_aQ {r x : Nat} {i : Int32} (hm : fI q) (hr : fP r) (h : jm_aQ q r i = some x) : fP x := (or_some h).elim (fi_aR hm hr) (fi_aO hm hr)
theorem zo_cO {r : Nat} {k : Int32} {p : jm_Mem → Nat × jm_Loc × List Value} {F' : jm_K → Option jm_Res} (hm : fI q) : zo B (fun K => jm_cO q r k fun m1 => K (p m1).1 (p m1).2.1 (p m1).2.2 m1) F' := by
  unfold jm_cO
  generalize q.2.1 r = y
  rcases y with ⟨t, n, f | f | f | f | f⟩ | y <;> first | exact zo_n0 | skip
  dsimp only
  by_cases h : t = 6 ∧ ¬ k < 0 ∧ n ≤ k.toNatClampNeg ∧ k.toNatClampNeg ≤ 10000000 ∧ jm_els q n f = true
  · simp only [if_pos h]
    exact zo_mk hm
  · simp only [if_neg h]
    exact zo_n0
theorem zo_cl {r : Nat} {p : jm_Mem → Nat × jm_Loc × List Value} {F' : jm_K → Option jm_Res} (hm : fI q) : zo B (fun K => jm_cl q r fun m1 => K (p m1).1 (p m1).2.1 (p m1).2.2 m1) F' := by
  unfold jm_cl
  generalize q.2.1 r = y
  rcases y with ⟨t, n, f | f | f | f | f⟩ | y <;> first | exact zo_n0 | skip
  dsimp only
  by_cases h : t = 9 ∧ (∀ k, k < n → jm_by (f k) = true)
  · simp only [if_pos h]
    exact zo_mk hm
  · simp only [if_neg h]
    exact zo_n0
def fC (B : jm_Mem) (call : jm_Call) : Prop := ∀ k as q r, fS as → fI q → call k as q = some r → r.2.1 = 411 → call k as (fM B q) = some (fR B r) ∧ fG r
theorem zo_call {call : jm_Call} (hcm : jm_cM call) (hc : fC B call) {k : Nat} {as : List Value} {G : jm_K → jm_Res → Option jm_Res} (hG : ∀ K : jm_K, (∀ pc l st q r, K pc l st q = some r → jm_le q r.2) → ∀ r r2, G K r = some r2 → jm_le r.2 r2.2) (ha : fS as) (hm : fI q) (h : ∀ r, fG r → zo B (fun K => G K r) (fun K => G K (fR B r))) : zo B (fun K => (call k as q).bind (G K)) (fun K => (call k as (fM B q)).bind (G K)) := by
  intro K K' h1 h2 r hr h411
  cases hq : call k as q with
  | none => rw [hq] at hr; cases hr
  | some r0 =>
    rw [hq] at hr
    have hr' : G K r0 = some r := hr
    have hle := (hG K h1 r0 r hr').1
    have hle0 := (hcm _ _ _ _ hq).1
    have hm1 := hm.1
    obtain ⟨e, g⟩ := hc k as q r0 ha hm hq (by omega)
    have := h r0 g K K' h1 h2 r hr' h411
    rw [e]
    exact this
end FRM
