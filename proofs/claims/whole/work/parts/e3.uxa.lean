-- uses 24.zar
/-! A name that a run can't come by keeps its entry. -/
def uxS (a : Nat) (st : List Value) : Prop := ∀ x, x ∈ st → x ≠ .ref a
def uxL (a : Nat) (l : jm_Loc) : Prop := ∀ x, x ∈ l → x ≠ some (.ref a)
def uxE (a : Nat) (e : jm_Ent) : Prop := match e with
  | .inl (_, _, .inr (.inr (.inr (.inr f)))) => ∀ k, f k ≠ some a
  | .inr (_, fs) => uxS a fs
  | _ => True
def uxM (a : Nat) (e0 : jm_Ent) (m : jm_Mem) : Prop := a < m.1 ∧ m.2.1 a = e0 ∧ ∀ n, uxE a (m.2.1 n)
def uxR (a : Nat) (e0 : jm_Ent) (r : jm_Res) : Prop := uxM a e0 r.2 ∧ ∀ x, r.1 = .inl (some x) → x ≠ .ref a
def uxo (a : Nat) (e0 : jm_Ent) (F : jm_K → Option jm_Res) : Prop := ∀ K : jm_K, (∀ pc l st m2 r, uxL a l → uxS a st → uxM a e0 m2 → K pc l st m2 = some r → uxR a e0 r) → ∀ r, F K = some r → uxR a e0 r
section UX
variable {a : Nat} {e0 : jm_Ent} {m : jm_Mem}
theorem ux_n0 : uxo a e0 (fun _ => none) := fun _ _ _ h => by cases h
theorem ux_s {o : Option Value ⊕ String} (hm : uxM a e0 m) (ho : ∀ x, o = .inl (some x) → x ≠ .ref a) : uxo a e0 (fun _ => some (o, m)) := fun _ _ _ h => by cases h; exact ⟨hm, ho⟩
theorem ux_k {pc : Nat} {l : jm_Loc} {st : List Value} (hl : uxL a l) (hs : uxS a st) (hm : uxM a e0 m) : uxo a e0 (fun K => K pc l st m) := fun _ hK _ h => hK _ _ _ _ _ hl hs hm h
theorem ux_ite {c : Prop} [Decidable c] {F G : jm_K → Option jm_Res} (hF : uxo a e0 F) (hG : uxo a e0 G) : uxo a e0 (fun K => if c then F K else G K) := by
  by_cases h : c
  · simpa [h] using hF
  · simpa [h] using hG
theorem ux_bind {α : Type} {o : Option α} {F : jm_K → α → Option jm_Res} (h : ∀ x, o = some x → uxo a e0 (fun K => F K x)) : uxo a e0 (fun K => o.bind (F K)) := by
  cases o with
  | none => exact ux_n0
  | some x => exact h x rfl
theorem ux_n {b c : Nat} {F : jm_K → Option jm_Res} (h : uxo a e0 F) : uxo a e0 (fun K => jm_n b c (F K)) := ux_ite h ux_n0
theorem ux_n32 {b : UInt32} {F : jm_K → Option jm_Res} (h : uxo a e0 F) : uxo a e0 (fun K => jm_n32 b (F K)) := ux_ite h ux_n0
theorem ux_n64 {b : UInt64} {F : jm_K → Option jm_Res} (h : uxo a e0 F) : uxo a e0 (fun K => jm_n64 b (F K)) := ux_ite h ux_n0
theorem ux_in {l : jm_Loc} {i : Nat} {F : jm_K → Option jm_Res} (h : uxo a e0 F) : uxo a e0 (fun K => jm_in l i (F K)) := ux_ite h ux_n0
theorem ux_sm {st : List Value} {F : jm_K → Option jm_Res} (h : uxo a e0 F) : uxo a e0 (fun K => jm_sm st (F K)) := ux_ite h ux_n0
theorem ux_B {x : Int32} {F : jm_K → Option jm_Res} (h : uxo a e0 F) : uxo a e0 (fun K => jm_B x (F K)) := ux_ite h (ux_ite h ux_n0)
theorem uxS_t {x : Value} {st : List Value} (h : uxS a (x :: st)) : uxS a st := fun y hy => h y (List.mem_cons_of_mem _ hy)
theorem uxS_h {x : Value} {st : List Value} (h : uxS a (x :: st)) : x ≠ .ref a := h x List.mem_cons_self
theorem uxS_r {x : Nat} {st : List Value} (h : uxS a (.ref x :: st)) : x ≠ a := fun q => uxS_h h (by rw [q])
theorem uxS_c {x : Value} {st : List Value} (hx : x ≠ .ref a) (h : uxS a st) : uxS a (x :: st) := fun y hy => by
  rcases List.mem_cons.mp hy with q | q
  · rw [q]; exact hx
  · exact h y q
theorem uxS_I {x : Int32} {st : List Value} (h : uxS a st) : uxS a (.int x :: st) := uxS_c (fun q => by cases q) h
theorem uxS_L {x : Int64} {st : List Value} (h : uxS a st) : uxS a (.long x :: st) := uxS_c (fun q => by cases q) h
theorem uxS_F {x : UInt32} {st : List Value} (h : uxS a st) : uxS a (.float x :: st) := uxS_c (fun q => by cases q) h
theorem uxS_D {x : UInt64} {st : List Value} (h : uxS a st) : uxS a (.double x :: st) := uxS_c (fun q => by cases q) h
theorem uxS_R {x : Nat} {st : List Value} (hx : x ≠ a) (h : uxS a st) : uxS a (.ref x :: st) := uxS_c (fun q => by cases q; exact hx rfl) h
theorem uxS_0 : uxS a [] := fun y hy => by cases hy
theorem ux_pI {st : List Value} {F : jm_K → Int32 → List Value → Option jm_Res} (hs : uxS a st) (h : ∀ x r, uxS a r → uxo a e0 (fun K => F K x r)) : uxo a e0 (fun K => jm_pI st (F K)) := by
  rcases st with _ | ⟨v, r⟩
  · exact ux_n0
  · cases v <;> first | exact h _ _ (uxS_t hs) | exact ux_n0
theorem ux_pL {st : List Value} {F : jm_K → Int64 → List Value → Option jm_Res} (hs : uxS a st) (h : ∀ x r, uxS a r → uxo a e0 (fun K => F K x r)) : uxo a e0 (fun K => jm_pL st (F K)) := by
  rcases st with _ | ⟨v, r⟩
  · exact ux_n0
  · cases v <;> first | exact h _ _ (uxS_t hs) | exact ux_n0
theorem ux_pF {st : List Value} {F : jm_K → UInt32 → List Value → Option jm_Res} (hs : uxS a st) (h : ∀ x r, uxS a r → uxo a e0 (fun K => F K x r)) : uxo a e0 (fun K => jm_pF st (F K)) := by
  rcases st with _ | ⟨v, r⟩
  · exact ux_n0
  · cases v <;> first | exact h _ _ (uxS_t hs) | exact ux_n0
theorem ux_pD {st : List Value} {F : jm_K → UInt64 → List Value → Option jm_Res} (hs : uxS a st) (h : ∀ x r, uxS a r → uxo a e0 (fun K => F K x r)) : uxo a e0 (fun K => jm_pD st (F K)) := by
  rcases st with _ | ⟨v, r⟩
  · exact ux_n0
  · cases v <;> first | exact h _ _ (uxS_t hs) | exact ux_n0
theorem ux_pR {st : List Value} {F : jm_K → Nat → List Value → Option jm_Res} (hs : uxS a st) (h : ∀ x r, x ≠ a → uxS a r → uxo a e0 (fun K => F K x r)) : uxo a e0 (fun K => jm_pR st (F K)) := by
  rcases st with _ | ⟨v, r⟩
  · exact ux_n0
  · cases v <;> first | exact h _ _ (uxS_r hs) (uxS_t hs) | exact ux_n0
theorem ux_lI {l : jm_Loc} {i : Nat} {F : jm_K → Int32 → Option jm_Res} (h : ∀ x, uxo a e0 (fun K => F K x)) : uxo a e0 (fun K => jm_lI l i (F K)) := by
  unfold jm_lI
  generalize l[i]? = z
  rcases z with _ | (_ | v)
  · exact ux_n0
  · exact ux_n0
  · cases v <;> first | exact h _ | exact ux_n0
theorem ux_lL {l : jm_Loc} {i : Nat} {F : jm_K → Int64 → Option jm_Res} (h : ∀ x, uxo a e0 (fun K => F K x)) : uxo a e0 (fun K => jm_lL l i (F K)) := by
  unfold jm_lL
  generalize l[i]? = z
  rcases z with _ | (_ | v)
  · exact ux_n0
  · exact ux_n0
  · cases v <;> first | exact h _ | exact ux_n0
theorem ux_lF {l : jm_Loc} {i : Nat} {F : jm_K → UInt32 → Option jm_Res} (h : ∀ x, uxo a e0 (fun K => F K x)) : uxo a e0 (fun K => jm_lF l i (F K)) := by
  unfold jm_lF
  generalize l[i]? = z
  rcases z with _ | (_ | v)
  · exact ux_n0
  · exact ux_n0
  · cases v <;> first | exact h _ | exact ux_n0
theorem ux_lD {l : jm_Loc} {i : Nat} {F : jm_K → UInt64 → Option jm_Res} (h : ∀ x, uxo a e0 (fun K => F K x)) : uxo a e0 (fun K => jm_lD l i (F K)) := by
  unfold jm_lD
  generalize l[i]? = z
  rcases z with _ | (_ | v)
  · exact ux_n0
  · exact ux_n0
  · cases v <;> first | exact h _ | exact ux_n0
theorem ux_lR {l : jm_Loc} {i : Nat} {F : jm_K → Nat → Option jm_Res} (hl : uxL a l) (h : ∀ x, x ≠ a → uxo a e0 (fun K => F K x)) : uxo a e0 (fun K => jm_lR l i (F K)) := by
  unfold jm_lR
  have hz : ∀ x, l[i]? = some (some (.ref x)) → x ≠ a := fun x q e => hl _ (List.mem_of_getElem? q) (by rw [e])
  generalize l[i]? = z at hz ⊢
  rcases z with _ | (_ | v)
  · exact ux_n0
  · exact ux_n0
  · cases v <;> first | exact h _ (hz _ rfl) | exact ux_n0
theorem ux_tg {pc : Nat} {off : Int} {F : jm_K → Nat → Option jm_Res} (h : ∀ x, uxo a e0 (fun K => F K x)) : uxo a e0 (fun K => jm_tg pc off (F K)) := by
  unfold jm_tg
  generalize (pc : Int) + off = z
  cases z with
  | ofNat t => exact h t
  | negSucc _ => exact ux_n0
theorem ux_pop {F : jm_K → List Value → List Value → Option jm_Res} (h : ∀ x r, uxS a x → uxS a r → uxo a e0 (fun K => F K x r)) : ∀ (n : Nat) (st b : List Value), uxS a st → uxS a b → uxo a e0 (fun K => jm_pop n st b (F K)) := by
  intro n
  induction n with
  | zero => intro st b hs hb; exact h _ _ hb hs
  | succ n ih =>
    intro st b hs hb
    cases st with
    | nil => exact ux_n0
    | cons v st => exact ih st (v :: b) (uxS_t hs) (uxS_c (uxS_h hs) hb)
theorem ux_cond {c : Jvm.ClassFile.Cond} {x y : Int32} {F G : jm_K → Option jm_Res} (hF : uxo a e0 F) (hG : uxo a e0 G) : uxo a e0 (fun K => jm_cond c x y (F K) (G K)) := by
  cases c
  · exact ux_ite hF hG
  · exact ux_ite hG hF
  · exact ux_ite hF hG
  · exact ux_ite hF hG
  · exact ux_ite hF hG
  · exact ux_ite hF hG
theorem uxL_set {l : jm_Loc} {i : Nat} {v : Option Value} (hl : uxL a l) (hv : v ≠ some (.ref a)) : uxL a (l.set i v) := fun x hx => by
  rcases List.mem_or_eq_of_mem_set hx with q | q
  · exact hl x q
  · rw [q]; exact hv
theorem uxL_clr {l : jm_Loc} {i : Nat} (hl : uxL a l) : uxL a (jm_clr l i) := by
  unfold jm_clr
  split
  · exact hl
  · split
    · split
      · exact uxL_set hl (fun q => by cases q)
      · exact hl
    · exact hl
theorem uxL_1 {l : jm_Loc} {i : Nat} {v : Option Value} (hl : uxL a l) (hv : v ≠ some (.ref a)) : uxL a (jm_st1 l i v) := uxL_set (uxL_clr hl) hv
theorem uxL_2 {l : jm_Loc} {i : Nat} {v : Value} (hl : uxL a l) (hv : v ≠ .ref a) : uxL a (jm_st2 l i v) := uxL_set (uxL_set (uxL_clr hl) (fun q => hv (Option.some.inj q))) (fun q => by cases q)
theorem uxL_1R {l : jm_Loc} {i x : Nat} (hl : uxL a l) (hx : x ≠ a) : uxL a (jm_st1 l i (some (.ref x))) := uxL_1 hl (fun q => by cases q; exact hx rfl)
theorem ux_thr {M : jm_Meth} {pc : Nat} {l : jm_Loc} {E : String} (hl : uxL a l) (hm : uxM a e0 m) : uxo a e0 (fun K => jm_thr M pc l E m K) := by
  unfold jm_thr
  cases h : jm_mH M with
  | nil => exact ux_s hm (fun x q => by cases q)
  | cons c b =>
    dsimp only
    generalize jm_hd (c :: b) pc E = z
    cases z with
    | none => exact ux_n0
    | some t =>
      dsimp only
      generalize jm_ins M t = y
      rcases y with _ | ⟨i, n⟩
      · exact ux_n0
      · cases i <;> first | exact ux_n0 | exact ux_n (ux_in (ux_k (uxL_1 hl (fun q => by cases q)) uxS_0 hm))
theorem ux_back {rk : Nat} {M : jm_Meth} {pc : Nat} {l : jm_Loc} {st : List Value} {r : jm_Res} (hl : uxL a l) (hs : uxS a st) (hr : uxR a e0 r) : uxo a e0 (fun K => jm_back rk M pc l st K r) := by
  obtain ⟨o, m2⟩ := r
  have hm : uxM a e0 m2 := hr.1
  rcases o with (_ | v) | E
  · rcases rk with _ | _ | _ | _ | rk <;> first | exact ux_k hl hs hm | exact ux_n0
  · rcases rk with _ | _ | _ | _ | rk <;> cases v <;> first | exact ux_k hl (uxS_I hs) hm | exact ux_k hl (uxS_L hs) hm | exact ux_k hl (uxS_D hs) hm | exact ux_n0
  · rcases rk with _ | _ | _ | _ | rk <;> first | exact ux_thr hl hm | exact ux_n0
theorem ux_bak {rk pc : Nat} {l : jm_Loc} {st : List Value} {r : jm_Res} (hl : uxL a l) (hs : uxS a st) (hr : uxR a e0 r) : uxo a e0 (fun K => jm_bak rk pc l st K r) := by
  obtain ⟨o, m2⟩ := r
  have hm : uxM a e0 m2 := hr.1
  rcases o with (_ | v) | E
  · rcases rk with _ | _ | _ | _ | rk <;> first | exact ux_k hl hs hm | exact ux_n0
  · rcases rk with _ | _ | _ | _ | rk <;> cases v <;> first | exact ux_k hl (uxS_I hs) hm | exact ux_k hl (uxS_L hs) hm | exact ux_k hl (uxS_D hs) hm | exact ux_n0
  · rcases rk with _ | _ | _ | _ | rk <;> exact ux_n0
theorem ux_up {n : Nat} {e : jm_Ent} (hm : uxM a e0 m) (hn : n ≠ a) (he : uxE a e) : uxM a e0 (jm_up m n e) := by
  refine ⟨hm.1, ?_, fun j => ?_⟩
  · show va_up m.2.1 n e a = e0
    rw [show va_up m.2.1 n e a = m.2.1 a from if_neg (fun q => hn q.symm)]
    exact hm.2.1
  · show uxE a (va_up m.2.1 n e j)
    unfold va_up
    split
    · exact he
    · exact hm.2.2 j
theorem uxS_set {fs : List Value} {i : Nat} {v : Value} (hl : uxS a fs) (hv : v ≠ .ref a) : uxS a (fs.set i v) := fun x hx => by
  rcases List.mem_or_eq_of_mem_set hx with q | q
  · exact hl x q
  · rw [q]; exact hv
theorem ux_put {m2 : jm_Mem} {r ci k : Nat} {v : Value} (hm : uxM a e0 m) (hr : r ≠ a) (hv : v ≠ .ref a) (h : jm_put m r ci k v = some m2) : uxM a e0 m2 := by
  unfold jm_put at h
  split at h
  · rename_i c fs he
    split at h
    · split at h
      · cases h
        have h2 := hm.2.2 r
        rw [he] at h2
        exact ux_up hm hr (uxS_set h2 hv)
      · cases h
    · cases h
  · cases h
theorem ux_map {α : Type} {o : Option α} {f : α → jm_Mem} {m2 : jm_Mem} (h : o.map f = some m2) (hf : ∀ x, uxM a e0 (f x)) : uxM a e0 m2 := by
  cases o with
  | none => cases h
  | some x => cases h; exact hf x
theorem ux_wI {m2 : jm_Mem} {r : Nat} {i x : Int32} (hm : uxM a e0 m) (hr : r ≠ a) (h : jm_wI m r i x = some m2) : uxM a e0 m2 := by
  unfold jm_wI at h
  split at h
  · split at h
    · exact ux_map h (fun _ => ux_up hm hr trivial)
    · cases h
  · cases h
theorem ux_wZ {m2 : jm_Mem} {r : Nat} {i x : Int32} (hm : uxM a e0 m) (hr : r ≠ a) (h : jm_wZ m r i x = some m2) : uxM a e0 m2 := by
  unfold jm_wZ at h
  split at h
  · split at h
    · exact ux_map h (fun _ => ux_up hm hr trivial)
    · cases h
  · cases h
theorem ux_wL {m2 : jm_Mem} {r : Nat} {i : Int32} {x : Int64} (hm : uxM a e0 m) (hr : r ≠ a) (h : jm_wL m r i x = some m2) : uxM a e0 m2 := by
  unfold jm_wL at h
  split at h
  · split at h
    · exact ux_map h (fun _ => ux_up hm hr trivial)
    · cases h
  · cases h
theorem ux_wD {m2 : jm_Mem} {r : Nat} {i : Int32} {x : UInt64} (hm : uxM a e0 m) (hr : r ≠ a) (h : jm_wD m r i x = some m2) : uxM a e0 m2 := by
  unfold jm_wD at h
  split at h
  · split at h
    · exact ux_map h (fun _ => ux_up hm hr trivial)
    · cases h
  · cases h
theorem ux_wR {m2 : jm_Mem} {r : Nat} {i : Int32} {x : Nat} (hm : uxM a e0 m) (hx : x ≠ a) (hr : r ≠ a) (h : jm_wR m r i x = some m2) : uxM a e0 m2 := by
  unfold jm_wR at h
  split at h
  · rename_i t n f he
    split at h
    · split at h
      · split at h
        · refine ux_map h (fun k => ux_up hm hr ?_)
          have h2 := hm.2.2 r
          rw [he] at h2
          intro j
          show va_up f k (some x) j ≠ some a
          unfold va_up
          split
          · exact fun q => hx (Option.some.inj q)
          · exact h2 j
        · cases h
      · cases h
    · cases h
  · cases h
theorem ux_cpy {m2 : jm_Mem} {r0 r1 : Nat} {i0 i1 n : Int32} (hm : uxM a e0 m) (hr : r1 ≠ a) (h : jm_cpy m r0 i0 r1 i1 n = some m2) : uxM a e0 m2 := by
  unfold jm_cpy at h
  split at h
  · split at h
    · cases h; exact ux_up hm hr trivial
    · cases h
  · split at h
    · cases h; exact ux_up hm hr trivial
    · cases h
  · cases h
theorem ux_gR {r ci k x : Nat} (hm : uxM a e0 m) (h : jm_gR m r ci k = some x) : x ≠ a := by
  unfold jm_gR at h
  split at h
  · rename_i c fs he
    split at h
    · split at h
      · rename_i y hy
        cases h
        have h2 := hm.2.2 r
        rw [he] at h2
        exact fun q => h2 _ (List.mem_of_getElem? hy) (by rw [q])
      · cases h
    · cases h
  · cases h
theorem ux_aR {r : Nat} {i : Int32} {x : Nat} (hm : uxM a e0 m) (h : jm_aR m r i = some x) : x ≠ a := by
  unfold jm_aR at h
  split at h
  · rename_i t n f he
    split at h
    · have h2 := hm.2.2 r
      rw [he] at h2
      cases hk : jm_ix i n with
      | none => rw [hk] at h; cases h
      | some k => rw [hk] at h; exact fun q => h2 k (by rw [← q]; exact h)
    · cases h
  · cases h
theorem ux_mk {e : jm_Ent} {s : Nat} {F : jm_K → jm_Mem → Option jm_Res} (hm : uxM a e0 m) (he : uxE a e) (h : ∀ x, uxM a e0 x → uxo a e0 (fun K => F K x)) : uxo a e0 (fun K => jm_mk m e s (F K)) := by
  refine ux_ite (h _ ⟨Nat.lt_succ_of_lt hm.1, ?_, fun j => ?_⟩) ux_n0
  · show va_up m.2.1 m.1 e a = e0
    rw [show va_up m.2.1 m.1 e a = m.2.1 a from if_neg (fun q => by have := hm.1; omega)]
    exact hm.2.1
  · show uxE a (va_up m.2.1 m.1 e j)
    unfold va_up
    split
    · exact he
    · exact hm.2.2 j
theorem ux_zero {t n : Nat} {z : vp_A} (h : jm_zero t n = some z) : uxE a (.inl (t, z)) := by
  unfold jm_zero at h
  split at h <;> cases h <;> exact trivial
/-- what the tables name -/
def uxV (v : Value) : Bool := match v with | .ref r => decide (jm_str ≤ r) | _ => true
theorem ux_cstT : jm_cstT.all (fun r => r.all fun e => uxV e.2) = true := by decide +kernel
theorem ux_clsT : jm_clsT.all (fun r => r.all fun e => e.2.2.all uxV) = true := by decide +kernel
theorem ux_as {α : Type} {t : List (List (Nat × α))} {p : α → Bool} {c i : Nat} {x : α} (ht : t.all (fun r => r.all fun e => p e.2) = true) (h : jm_as t c i = some x) : p x = true := by
  unfold jm_as at h
  rw [List.getD_eq_getElem?_getD] at h
  cases hr : t[c]? with
  | none => rw [hr] at h; cases h
  | some r =>
    rw [hr] at h
    have h1 := List.all_eq_true.mp ht r (List.mem_of_getElem? hr)
    have h' : (r.find? fun e => e.1 == i).map (fun e => e.2) = some x := h
    cases hf : r.find? (fun e => e.1 == i) with
    | none => rw [hf] at h'; cases h'
    | some e =>
      rw [hf] at h'
      cases h'
      exact List.all_eq_true.mp h1 e (List.mem_of_find?_eq_some hf)
theorem ux_vn (ha : a < jm_str) {v : Value} (h : uxV v = true) : v ≠ .ref a := by
  intro q
  rw [q] at h
  have := of_decide_eq_true h
  omega
theorem ux_cst (ha : a < jm_str) {c i : Nat} {v : Value} (h : jm_cst c i = some v) : v ≠ .ref a := ux_vn ha (ux_as ux_cstT h)
theorem ux_cls (ha : a < jm_str) {c i : Nat} {y : Nat × List Value} (h : jm_cls c i = some y) : uxS a y.2 := fun x hx => ux_vn ha (List.all_eq_true.mp (ux_as (p := fun y : Nat × List Value => y.2.all uxV) ux_clsT h) x hx)
end UX
