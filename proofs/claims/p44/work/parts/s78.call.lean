/-! A call in the small machine is a call in the real one. -/
/-- what of a memory doesn't speak of addresses -/
def jm_mw (S : jm_Sp) (m1 : jm_Mem) : Prop := (∀ n, n < m1.1 → jm_wE m1.1 (m1.2.1 n)) ∧ (∀ n, m1.1 ≤ n → m1.2.1 n = jm_bad ∨ jm_spE S n (m1.2.1 n)) ∧ m1.1 ≤ 1000000
/-- the world behind a method: its memory at other addresses, those of before the same -/
def jm_wb (D : va_G) (tys : List (ClassId × FieldType)) (A : Nat → Prop) (S : jm_Sp) (ρ : Nat → Nat) (m1 m2 : jm_Mem) : (Nat → Nat) → State → Prop := fun ρ' t => jm_ag m1.1 ρ ρ' ∧ m1.1 ≤ m2.1 ∧ va_P D vwCl (jm_ws ρ' tys m2) t.heap ∧ va_D A (jm_ws ρ' tys m2) ∧ jm_mw S m2 ∧ jm_spR S ρ'
def jm_Qc (D : va_G) (tys : List (ClassId × FieldType)) (A : Nat → Prop) (S : jm_Sp) (ρ : Nat → Nat) (m1 : jm_Mem) (r : jm_Res) : Array Value → State → Outcome → State → Prop := match r.1 with
  | .inl none => va_Qv (fun _ => True) (jm_wb D tys A S ρ m1 r.2) A
  | .inl (some (.int x)) => va_Qi (fun y _ => y = x) (jm_wb D tys A S ρ m1 r.2) A
  | .inl (some (.long x)) => va_Ql (fun y _ => y = x) (jm_wb D tys A S ρ m1 r.2) A
  | .inl (some (.double x)) => va_Qd (fun y _ => y = x) (jm_wb D tys A S ρ m1 r.2) A
  | .inl (some (.ref x)) => va_Qr (fun _ => True) (fun ρ' q t => jm_wb D tys A S ρ m1 r.2 ρ' t ∧ q = ρ' x ∧ jm_wv r.2.1 (.ref x)) A
  | _ => va_Qv (fun _ => False) (jm_wb D tys A S ρ m1 r.2) A
def jm_Xc (D : va_G) (tys : List (ClassId × FieldType)) (A : Nat → Prop) (S : jm_Sp) (ρ : Nat → Nat) (m1 : jm_Mem) (r : jm_Res) : String → State → State → Prop := vx_X (fun _ : Nat → Nat => True) (fun E ρ' t => r.1 = .inr E ∧ jm_wb D tys A S ρ m1 r.2 ρ' t) A
def jm_rm (d mc ms : Nat) : Room := { frames := 8 + d, cells := mc, slots := ms, locals := 300 + 60 * d }
/-- the world at a method's start -/
def jm_Pc (D : va_G) (tys : List (ClassId × FieldType)) (A : Nat → Prop) (S : jm_Sp) (ρ : Nat → Nat) (m1 : jm_Mem) (as : List Value) : Array Value → State → Prop := va_Pc (as.map (jm_cv ρ)) (fun U => va_P D vwCl (jm_ws ρ tys m1) U.heap ∧ va_D A (jm_ws ρ tys m1) ∧ jm_Kn D tys A S U U.heap)
/-- M's contract, from this memory to that result -/
def jm_Con (l : Launch) (D : va_G) (tys : List (ClassId × FieldType)) (A : Nat → Prop) (S : jm_Sp) (d : Nat) (M : jm_Meth) (as : List Value) (m1 : jm_Mem) (r : jm_Res) : Prop :=
  ∀ (ρ : Nat → Nat), jm_mw S m1 → jm_spR S ρ → jm_wt m1.1 as → jm_cw M ∈ jm_WW →
    vx_Met l (jm_mY M) (jm_cw M :: jm_WW) (jm_rm d (r.2.2.2.1 - m1.2.2.1) (r.2.2.2.2 - m1.2.2.2)) (jm_Pc D tys A S ρ m1 as) (jm_Qc D tys A S ρ m1 r) (jm_Xc D tys A S ρ m1 r) (r.2.2.2.1 - m1.2.2.1) (r.2.2.2.2 - m1.2.2.2) A
theorem jm_Pc_blind {D : va_G} {tys : List (ClassId × FieldType)} {A : Nat → Prop} {S : jm_Sp} {ρ : Nat → Nat} {m1 : jm_Mem} {as : List Value} : FrameBlind (jm_Pc D tys A S ρ m1 as) := fun _ U _ _ h => ⟨h.1, h.2.1, h.2.2.1, h.2.2.2.mv (State.WarmedH.refl U) (Nat.le_refl _) (fun _ _ _ => rfl)⟩
theorem met_of_vx {l : Launch} {y : MethodName} {ws : List Cond} {rm : Room} {Pc : Array Value → State → Prop} {Qc : Array Value → State → Outcome → State → Prop} {XC : String → State → State → Prop} {mc ms : Nat} {free : Addr → Prop} (h : vx_Met l y ws rm Pc Qc XC mc ms free) (hx : ∀ E s t, ¬ XC E s t) : Met l y ws rm Pc Qc mc ms free := by
  refine MetFree.mono h (fun _ _ h => h) (fun _ _ _ _ _ h => h) (fun a s o t _ hq => ?_)
  rcases hq with hq | ⟨q, -, E, ce, L, hq, -⟩
  · exact hq
  · exact (hx _ _ _ hq).elim
theorem vx_of_va {p : Program} {l : Launch} {e : Env} {R : Room} {s : State} {m : MethodId} {args : Array Value} {below : List Frame} {meth : Method} {c : Code} {H : Heap} {locs : List Loc} {cells slots mc ms : Nat} {g : JFrame} {rest : List Value} {Qa : State → Outcome → State → Prop} {XC : String → State → State → Prop} {free : Addr → Prop}
    (h : va_Run p l e R s m args below meth c H locs cells slots mc ms g rest Qa free) : vx_Run p l e R s m args below meth c H locs cells slots mc ms g rest Qa XC free := fun T hT X => Or.inl (h T hT X)
/-- the real machine where E was thrown over this frame -/
def jm_Th (p : Program) (l : Launch) (e : Env) (R : Room) (s : State) (m : MethodId) (args : Array Value) (below : List Frame) (meth : Method) (c : Code) (D : va_G) (tys : List (ClassId × FieldType)) (A : Nat → Prop) (S : jm_Sp) (c0 s0 : Nat) (ρ0 : Nat → Nat) (N0 : Nat) (M : jm_Meth) (Q : State → Prop) (E : String) (pc : Nat) (lc : jm_Loc) (m1 : jm_Mem) : Prop :=
  ∀ (H : Heap) (locs : List Loc) (cells slots : Nat) (ls : Array Slot) (ρ : Nat → Nat) (rest : List Value) (ce : Cell) (q : Addr), jm_rep D tys A S s.heap c0 s0 ρ m1 H locs cells slots → jm_LV (jm_mL M) ρ m1.1 lc ls → jm_ag N0 ρ0 ρ → N0 ≤ m1.1 → H[q]? = some ce → ce.vm = .none → s.vm.findClass E = some ce.cls → vx_W p l e R s m args below meth c H locs cells slots Q (F0 m pc ls rest) q
theorem vx_callr {p : Program} {l : Launch} {e : Env} {R : Room} {s : State} {m : MethodId} {args : Array Value} {below : List Frame} {meth : Method} {c : Code} {H : Heap} {locs : List Loc} {cells slots mc ms pc : Nat} {Q : State → Prop} {free : Addr → Prop} {A0 A1 : Nat → Prop} {H0 : Heap} {a : Array Value} {ls : Array Slot} {st0 rest : List Value}
    {S SX : Type} {post : S → Prop} {px : SX → Prop} {B : S → Nat → State → Prop} {BX : String → SX → State → Prop} {AX : Nat → Prop} (hr : vx_Run p l e R s m args below meth c H locs cells slots mc ms (F0 m pc ls st0) rest (va_Qr post B A1 a) (vx_X px BX AX) free) (hS : va_S A0 H0 H locs) (hA : ∀ q, q < H.size → A1 q → A0 q) (hf : ∀ q, free q → A0 q) (hAX : ∀ q, q < H.size → AX q → A0 q)
    (kx : ∀ (E : String) (ce : Cell) (q9 : Addr) (u : SX) (t : State) (H1 : Heap) (locs1 : List Loc), t.heap = H1 → s.vm.Alike t.vm → px u → BX E u t → H.size ≤ H1.size → (∀ q : Nat, q < H.size → ¬ AX q → H1[q]? = H[q]?) → va_S A0 H0 H1 locs1 → H1[q9]? = some ce → ce.vm = .none → s.vm.findClass E = some ce.cls → vx_W p l e R s m args below meth c H1 locs1 (cells + mc) (slots + ms) Q (F0 m pc ls rest) q9)
    (kk : ∀ (u : S) (ra : Nat) (t : State) (H1 : Heap) (locs1 : List Loc), t.heap = H1 → s.vm.Alike t.vm → post u → B u ra t → H.size ≤ H1.size → (∀ q : Nat, q < H.size → ¬ A1 q → H1[q]? = H[q]?) → va_S A0 H0 H1 locs1 → W p l e R s m args below meth c H1 locs1 (cells + mc) (slots + ms) Q (F0 m (pc + 3) ls (.ref ra :: rest))) : W p l e R s m args below meth c H locs cells slots Q (F0 m pc ls st0) := by
  intro T hT X
  rcases hr T hT X with ⟨v, st₀, t, T', L, h0, X', hL, e1, e2, ⟨⟨u, ra, hv, hp, hb⟩, hF⟩, st⟩ | ⟨q, st₀, t, T', L, E, ce, h0, X', hL, e1, e2, ⟨u, hp, hb, hF⟩, hce, hcv, hcl, st⟩
  · cases hv
    obtain ⟨k1, k2, k3⟩ := vx_keep h0 e1 hS hA hf hL hF
    obtain ⟨t2, a1, b1⟩ := kk u ra t T'.heap (locs ++ L) e1.symm (by rw [← e2]; exact X'.warmed.alike) hp hb k1 k2 k3 T' rfl X'
    exact ⟨t2, st t2 a1, b1⟩
  · obtain ⟨k1, k2, k3⟩ := vx_keep h0 e1 hS hAX hf hL hF
    obtain ⟨t2, a1, b1⟩ := kx E ce q u t T'.heap (locs ++ L) e1.symm (by rw [← e2]; exact X'.warmed.alike) hp hb k1 k2 k3 (by rw [e1]; exact hce) hcv hcl T' rfl X'
    exact ⟨t2, st.trans a1, b1⟩
section CALL
variable {p : Program} {l : Launch} {e : Env} {R : Room} {s : State} {m : MethodId} {args : Array Value} {below : List Frame} {meth : Method} {c : Code} {D : va_G} {tys : List (ClassId × FieldType)} {A : Nat → Prop} {S : jm_Sp} {c0 s0 : Nat} {ρ0 : Nat → Nat} {N0 : Nat} {M : jm_Meth} {Q : State → Prop} {pc : Nat} {lc : jm_Loc} {st : List Value} {m1 : jm_Mem}
theorem jm_rep.mw {H0 H : Heap} {ρ : Nat → Nat} {locs : List Loc} {cells slots : Nat} (h : jm_rep D tys A S H0 c0 s0 ρ m1 H locs cells slots) : jm_mw S m1 := ⟨h.2.2.2.1, h.2.2.2.2.1, h.2.2.2.2.2.1⟩
/-- what stands behind a call -/
def jm_Bk (p : Program) (l : Launch) (e : Env) (R : Room) (s : State) (m : MethodId) (args : Array Value) (below : List Frame) (meth : Method) (c : Code) (D : va_G) (tys : List (ClassId × FieldType)) (A : Nat → Prop) (S : jm_Sp) (c0 s0 : Nat) (ρ0 : Nat → Nat) (N0 : Nat) (M : jm_Meth) (Q : State → Prop) (pc : Nat) (lc : jm_Loc) (st : List Value) (r : jm_Res) : Prop := match r.1 with
  | .inl none => jm_At p l e R s m args below meth c D tys A S c0 s0 ρ0 N0 M Q (pc + 3) lc st r.2
  | .inl (some (.int x)) => jm_At p l e R s m args below meth c D tys A S c0 s0 ρ0 N0 M Q (pc + 3) lc (.int x :: st) r.2
  | .inl (some (.long x)) => jm_At p l e R s m args below meth c D tys A S c0 s0 ρ0 N0 M Q (pc + 3) lc (.long x :: st) r.2
  | .inl (some (.double x)) => jm_At p l e R s m args below meth c D tys A S c0 s0 ρ0 N0 M Q (pc + 3) lc (.double x :: st) r.2
  | .inl (some (.ref x)) => jm_At p l e R s m args below meth c D tys A S c0 s0 ρ0 N0 M Q (pc + 3) lc (.ref x :: st) r.2
  | .inr E => jm_Th p l e R s m args below meth c D tys A S c0 s0 ρ0 N0 M Q E pc lc r.2
  | _ => False
theorem st_ret {r : jm_Res} {H : Heap} {locs : List Loc} {cells slots : Nat} {ls : Array Slot} {ρ : Nat → Nat} {st0 : List Value} {a : Array Value} (hr : jm_rep D tys A S s.heap c0 s0 ρ m1 H locs cells slots) (hL : jm_LV (jm_mL M) ρ m1.1 lc ls) (hw : jm_wt m1.1 st) (ha : jm_ag N0 ρ0 ρ) (hN : N0 ≤ m1.1) (hm : jm_le m1 r.2)
    (hrun : vx_Run p l e R s m args below meth c H locs cells slots (r.2.2.2.1 - m1.2.2.1) (r.2.2.2.2 - m1.2.2.2) (F0 m pc ls st0) (st.map (jm_cv ρ)) (jm_Qc D tys A S ρ m1 r a) (jm_Xc D tys A S ρ m1 r) A)
    (kk : jm_Bk p l e R s m args below meth c D tys A S c0 s0 ρ0 N0 M Q pc lc st r) : W p l e R s m args below meth c H locs cells slots Q (F0 m pc ls st0) := by
  have e1 := hr.2.2.2.2.2.2.2.1
  have e2 := hr.2.2.2.2.2.2.2.2
  obtain ⟨o, m2⟩ := r
  have hm2 : jm_le m1 m2 := hm
  have key : ∀ (ρ' : Nat → Nat) (t : State) (H1 : Heap) (locs1 : List Loc), t.heap = H1 → jm_wb D tys A S ρ m1 m2 ρ' t → va_S A s.heap H1 locs1 → jm_rep D tys A S s.heap c0 s0 ρ' m2 H1 locs1 (cells + (m2.2.2.1 - m1.2.2.1)) (slots + (m2.2.2.2 - m1.2.2.2)) ∧ jm_LV (jm_mL M) ρ' m2.1 lc ls ∧ jm_wt m2.1 st ∧ jm_ag N0 ρ0 ρ' ∧ N0 ≤ m2.1 ∧ st.map (jm_cv ρ') = st.map (jm_cv ρ) := by
    intro ρ' t H1 locs1 ht hb hS
    obtain ⟨b1, b2, b3, b4, b5, b6⟩ := hb
    rw [ht] at b3
    obtain ⟨z1, z2, z3⟩ := hm2
    refine ⟨⟨b3, b4, hS, b5.1, b5.2.1, b5.2.2, b6, ?_, ?_⟩, hL.ag b1 b2, hw.up b2, ha.tr b1 hN, Nat.le_trans hN b2, jm_cv_ags b1 hw⟩
    · omega
    · omega
  have noX : ∀ {v : Option Value} {E : String} {u : Nat → Nat} {t : State}, o = .inl v → ¬ (o = .inr E ∧ jm_wb D tys A S ρ m1 m2 u t) := fun h1 h2 => by rw [h1] at h2; cases h2.1
  rcases o with (_ | v) | E
  · refine vx_callv (a := a) hrun hr.2.2.1 (fun _ _ h => h) (fun _ h => h) (fun _ _ h => h) (fun E ce q9 u t H1 locs1 _ _ _ hb => absurd hb (noX rfl)) (fun u t H1 locs1 ht _ _ hb _ _ hS => ?_)
    obtain ⟨k1, k2, k3, k4, k5, k6⟩ := key u t H1 locs1 ht hb hS
    have k7 := kk H1 locs1 _ _ ls u k1 k2 k3 k4 k5
    rw [k6] at k7
    exact k7
  · cases v
    case int x =>
      refine vx_calli (a := a) hrun hr.2.2.1 (fun _ _ h => h) (fun _ h => h) (fun _ _ h => h) (fun E ce q9 u t H1 locs1 _ _ _ hb => absurd hb (noX rfl)) (fun y u t H1 locs1 ht _ hy hb _ _ hS => ?_)
      subst hy
      obtain ⟨k1, k2, k3, k4, k5, k6⟩ := key u t H1 locs1 ht hb hS
      have k7 := kk H1 locs1 _ _ ls u k1 k2 k3.i k4 k5
      rw [List.map_cons, k6] at k7
      exact k7
    case long x =>
      refine vx_calll (a := a) hrun hr.2.2.1 (fun _ _ h => h) (fun _ h => h) (fun _ _ h => h) (fun E ce q9 u t H1 locs1 _ _ _ hb => absurd hb (noX rfl)) (fun y u t H1 locs1 ht _ hy hb _ _ hS => ?_)
      subst hy
      obtain ⟨k1, k2, k3, k4, k5, k6⟩ := key u t H1 locs1 ht hb hS
      have k7 := kk H1 locs1 _ _ ls u k1 k2 k3.l k4 k5
      rw [List.map_cons, k6] at k7
      exact k7
    case double x =>
      refine vx_calld (a := a) hrun hr.2.2.1 (fun _ _ h => h) (fun _ h => h) (fun _ _ h => h) (fun E ce q9 u t H1 locs1 _ _ _ hb => absurd hb (noX rfl)) (fun y u t H1 locs1 ht _ hy hb _ _ hS => ?_)
      subst hy
      obtain ⟨k1, k2, k3, k4, k5, k6⟩ := key u t H1 locs1 ht hb hS
      have k7 := kk H1 locs1 _ _ ls u k1 k2 k3.d k4 k5
      rw [List.map_cons, k6] at k7
      exact k7
    case ref x =>
      refine vx_callr (a := a) hrun hr.2.2.1 (fun _ _ h => h) (fun _ h => h) (fun _ _ h => h) (fun E ce q9 u t H1 locs1 _ _ _ hb => absurd hb (noX rfl)) (fun u ra t H1 locs1 ht _ _ hb _ _ hS => ?_)
      obtain ⟨hb, rfl, hwv⟩ := hb
      obtain ⟨k1, k2, k3, k4, k5, k6⟩ := key u t H1 locs1 ht hb hS
      have k7 := kk H1 locs1 _ _ ls u k1 k2 (k3.cons hwv) k4 k5
      rw [List.map_cons, k6] at k7
      exact k7
    all_goals exact kk.elim
  · refine vx_callv (a := a) hrun hr.2.2.1 (fun _ _ h => h) (fun _ h => h) (fun _ _ h => h) (fun E' ce q9 u t H1 locs1 ht _ _ hb _ _ hS hc hv hcl => ?_) (fun u t H1 locs1 ht _ hf => hf.elim)
    obtain ⟨hE, hb⟩ := hb
    have hE : Sum.inr E = Sum.inr E' := hE
    cases hE
    obtain ⟨k1, k2, k3, k4, k5, k6⟩ := key u t H1 locs1 ht hb hS
    exact kk H1 locs1 _ _ ls u _ ce q9 k1 k2 k4 k5 hc hv hcl
/-- .. through an interface -/
theorem st_ret5 {r : jm_Res} {H : Heap} {locs : List Loc} {cells slots : Nat} {ls : Array Slot} {ρ : Nat → Nat} {st0 : List Value} {a : Array Value} {v : Option Value} (hv : r.1 = .inl v) (hr : jm_rep D tys A S s.heap c0 s0 ρ m1 H locs cells slots) (hL : jm_LV (jm_mL M) ρ m1.1 lc ls) (hw : jm_wt m1.1 st) (ha : jm_ag N0 ρ0 ρ) (hN : N0 ≤ m1.1) (hm : jm_le m1 r.2)
    (hrun : va_Run5 p l e R s m args below meth c H locs cells slots (r.2.2.2.1 - m1.2.2.1) (r.2.2.2.2 - m1.2.2.2) (F0 m pc ls st0) (st.map (jm_cv ρ)) (jm_Qc D tys A S ρ m1 r a) A)
    (kk : jm_Bk p l e R s m args below meth c D tys A S c0 s0 ρ0 N0 M Q (pc + 2) lc st r) : W p l e R s m args below meth c H locs cells slots Q (F0 m pc ls st0) := by
  have e1 := hr.2.2.2.2.2.2.2.1
  have e2 := hr.2.2.2.2.2.2.2.2
  obtain ⟨o, m2⟩ := r
  have hv : o = .inl v := hv
  subst hv
  have hm2 : jm_le m1 m2 := hm
  have key : ∀ (ρ' : Nat → Nat) (t : State) (H1 : Heap) (locs1 : List Loc), t.heap = H1 → jm_wb D tys A S ρ m1 m2 ρ' t → va_S A s.heap H1 locs1 → jm_rep D tys A S s.heap c0 s0 ρ' m2 H1 locs1 (cells + (m2.2.2.1 - m1.2.2.1)) (slots + (m2.2.2.2 - m1.2.2.2)) ∧ jm_LV (jm_mL M) ρ' m2.1 lc ls ∧ jm_wt m2.1 st ∧ jm_ag N0 ρ0 ρ' ∧ N0 ≤ m2.1 ∧ st.map (jm_cv ρ') = st.map (jm_cv ρ) := by
    intro ρ' t H1 locs1 ht hb hS
    obtain ⟨b1, b2, b3, b4, b5, b6⟩ := hb
    rw [ht] at b3
    obtain ⟨z1, z2, z3⟩ := hm2
    refine ⟨⟨b3, b4, hS, b5.1, b5.2.1, b5.2.2, b6, ?_, ?_⟩, hL.ag b1 b2, hw.up b2, ha.tr b1 hN, Nat.le_trans hN b2, jm_cv_ags b1 hw⟩
    · omega
    · omega
  rcases v with _ | v
  · refine va_callFv (a := a) hrun hr.2.2.1 (fun _ _ h => h) (fun _ h => h) (fun u t H1 locs1 ht _ _ hb _ _ hS => ?_)
    obtain ⟨k1, k2, k3, k4, k5, k6⟩ := key u t H1 locs1 ht hb hS
    have k7 := kk H1 locs1 _ _ ls u k1 k2 k3 k4 k5
    rw [k6] at k7
    exact k7
  · cases v
    case int x =>
      refine va_callFi (a := a) hrun hr.2.2.1 (fun _ _ h => h) (fun _ h => h) (fun y u t H1 locs1 ht _ hy hb _ _ hS => ?_)
      subst hy
      obtain ⟨k1, k2, k3, k4, k5, k6⟩ := key u t H1 locs1 ht hb hS
      have k7 := kk H1 locs1 _ _ ls u k1 k2 k3.i k4 k5
      rw [List.map_cons, k6] at k7
      exact k7
    case long x =>
      refine va_callFl (a := a) hrun hr.2.2.1 (fun _ _ h => h) (fun _ h => h) (fun y u t H1 locs1 ht _ hy hb _ _ hS => ?_)
      subst hy
      obtain ⟨k1, k2, k3, k4, k5, k6⟩ := key u t H1 locs1 ht hb hS
      have k7 := kk H1 locs1 _ _ ls u k1 k2 k3.l k4 k5
      rw [List.map_cons, k6] at k7
      exact k7
    case double x =>
      refine va_callFd (a := a) hrun hr.2.2.1 (fun _ _ h => h) (fun _ h => h) (fun y u t H1 locs1 ht _ hy hb _ _ hS => ?_)
      subst hy
      obtain ⟨k1, k2, k3, k4, k5, k6⟩ := key u t H1 locs1 ht hb hS
      have k7 := kk H1 locs1 _ _ ls u k1 k2 k3.d k4 k5
      rw [List.map_cons, k6] at k7
      exact k7
    case ref x =>
      refine va_callFr (a := a) hrun hr.2.2.1 (fun _ _ h => h) (fun _ h => h) (fun u ra t H1 locs1 ht _ _ hb _ _ hS => ?_)
      obtain ⟨hb, rfl, hwv⟩ := hb
      obtain ⟨k1, k2, k3, k4, k5, k6⟩ := key u t H1 locs1 ht hb hS
      have k7 := kk H1 locs1 _ _ ls u k1 k2 (k3.cons hwv) k4 k5
      rw [List.map_cons, k6] at k7
      exact k7
    all_goals exact kk.elim
/-- room for a callee at depth d -/
def jm_Rk (d : Nat) (R : Room) : Prop := 8 + (d + 1) ≤ R.frames ∧ 300 + 60 * (d + 1) ≤ R.locals
theorem jm_isC_spec {rr ci : Nat} (h : jm_isC m1 rr ci = true) : ∃ fs, m1.2.1 rr = .inr (ci, fs) := by
  unfold jm_isC at h
  split at h
  · rename_i c2 fs he
    have : c2 = ci := by simpa using h
    exact ⟨fs, by rw [he, this]⟩
  · cases h
theorem jm_recv (X : jm_Fx p s m args meth c D tys A S M) {H : Heap} {locs : List Loc} {cells slots : Nat} {ρ : Nat → Nat} (hr : jm_rep D tys A S s.heap c0 s0 ρ m1 H locs cells slots) {rr ci : Nat} (hci : ci < 20) (h : jm_isC m1 rr ci = true) : ∃ cell : Cell, H[ρ rr]? = some cell ∧ cell.vm.isStatics = false ∧ s.vm.findClass (jm_cn ci) = some cell.cls := by
  obtain ⟨fs, he⟩ := jm_isC_spec h
  obtain ⟨h1, h2, -⟩ := hr.obj he hci
  obtain ⟨q, hq, -⟩ := hr.1 rr _ h2
  have hq : vwCl[ci]? = some q := hq
  obtain ⟨hn, -⟩ := jm_clOk hq
  have := va_recv X.kn.1 hr.1 hq h2
  rw [hn]
  exact this
theorem jm_call_pre (X : jm_Fx p s m args meth c D tys A S M) {H : Heap} {locs : List Loc} {cells slots : Nat} {ρ : Nat → Nat} {as : List Value} (hr : jm_rep D tys A S s.heap c0 s0 ρ m1 H locs cells slots) : ∀ U : State, U.heap = H → s.WarmedH U.vm → jm_Pc D tys A S ρ m1 as (as.map (jm_cv ρ)).toArray U := by
  intro U hU hW
  refine ⟨rfl, ?_⟩
  show va_P D vwCl (jm_ws ρ tys m1) U.heap ∧ va_D A (jm_ws ρ tys m1) ∧ jm_Kn D tys A S U U.heap
  rw [hU]
  exact ⟨hr.1, hr.2.1, X.kn.mv hW hr.2.2.1.1 hr.2.2.1.2.1⟩
/-- the classes are plain -/
theorem jm_cn_ok : ∀ ci, ci < 26 → jm_cn ci ≠ "java/lang/invoke/MethodHandle" ∧ jm_cn ci ≠ "java/lang/invoke/VarHandle" := by decide +kernel
/-- a class of objects -/
theorem jm_cAt (X : jm_Fx p s m args meth c D tys A S M) {ci : Nat} (h : ci < 18) : ClassAt s (jm_cn ci) (D.1 ci) := by
  have hq : ∃ q, vwCl[ci]? = some q := ⟨_, List.getElem?_eq_getElem (h := h)⟩
  obtain ⟨q, hq⟩ := hq
  obtain ⟨hn, -⟩ := jm_clOk hq
  rw [hn]
  exact (X.kn.1.1 ci q hq).2
theorem jm_wsIn {L : List Cond} {w : Cond} (h1 : ∀ w ∈ L, w ∈ jm_WW) (h : w ∈ jm_WW) : ∀ x ∈ L ++ (w :: jm_WW), x ∈ jm_WW := fun x hx => (List.mem_append.mp hx).elim (h1 x) (fun z => (List.mem_cons.mp z).elim (fun e => e ▸ h) id)
theorem st_catS {ρ : Nat → Nat} (h : (st.map fun v => v.category).sum ≤ 8) : ((st.map (jm_cv ρ)).map fun v => v.category).sum ≤ 8 := by
  rw [List.map_map]
  rw [show ((fun v : Value => v.category) ∘ jm_cv ρ) = (fun v => v.category) from funext fun v => jm_cat ρ v]
  exact h
section KINDS
variable {d x t a : Nat} {as : List Value} {r : jm_Res} {M2 : jm_Meth}
theorem jm_Xc_no {ρ : Nat → Nat} {v : Option Value} (h : r.1 = .inl v) : ∀ E s t, ¬ jm_Xc D tys A S ρ m1 r E s t := by
  rintro E s t ⟨u, -, ⟨h2, -⟩, -⟩
  rw [h] at h2; cases h2
theorem jm_onM {a : String} {i : Nat} {x : MethodName} {h : String} : (Cond.methodLinkNest a i x h).onTables = true := rfl
theorem jm_gi1 {w : Cond} (h : w ∈ jm_WW) : GoodIn jm_WW (w :: jm_WW) := jm_gi (fun x hx => (List.mem_cons.mp hx).elim (fun e => e ▸ h) id)
theorem jm_gi2 {L : List Cond} {w : Cond} (h1 : ∀ x ∈ L, x ∈ jm_WW) (h : w ∈ jm_WW) : GoodIn jm_WW (L ++ (w :: jm_WW)) := jm_gi (jm_wsIn h1 h)
theorem jm_room (hR : jm_Rk d R) (h : jm_mL M2 ≤ 30) {mc ms : Nat} : (jm_rm d mc ms).frames + 1 ≤ R.frames ∧ 8 + (jm_mL M2 + 11) + (jm_rm d mc ms).locals ≤ R.locals := ⟨hR.1, by show 8 + (jm_mL M2 + 11) + (300 + 60 * d) ≤ R.locals; have := hR.2; omega⟩
/-- invokevirtual of a method of ours -/
theorem st_inv0 {rr : Nat} (X : jm_Fx p s m args meth c D tys A S M) (hR : jm_Rk d R) (hok : jm_mok M2) (hst : jm_mS M2 = false) (hpar : (parseMethodDescriptor (jm_mY M2).desc).map (fun d => d.parameters.length) = some a) (hlink : Cond.methodLink (jm_cn (jm_mO M)) x (jm_mY M2) ∈ jm_WW) (hsel : Cond.selects (jm_cn (jm_mO M2)) (jm_mY M2) (jm_mY M2) ∈ jm_WW) (h18 : jm_mO M2 < 18)
    (hcon : jm_Con l D tys A S d M2 (.ref rr :: as) m1 r) (hm : jm_le m1 r.2) (hisc : jm_isC m1 rr (jm_mO M2) = true) (hlen : as.length = a) (hsm : (st.map fun v => v.category).sum ≤ 8) (hrm : r.2.2.2.1 ≤ c0 + R.cells ∧ r.2.2.2.2 ≤ s0 + R.slots)
    (hdg : decode (jm_mC M) pc = .ok (.invokevirtual x, 3)) (kk : jm_Bk p l e R s m args below meth c D tys A S c0 s0 ρ0 N0 M Q pc lc st r) : jm_At p l e R s m args below meth c D tys A S c0 s0 ρ0 N0 M Q pc lc (as.reverse ++ .ref rr :: st) m1 := by
  intro H locs cells slots ls ρ hr hL hw ha hN
  obtain ⟨h26, hcls, hL30, -, hinst, hcw, -, -, hini, -⟩ := hok
  have e1 := hr.2.2.2.2.2.2.2.1
  have e2 := hr.2.2.2.2.2.2.2.2
  obtain ⟨z1, z2, z3⟩ := id hm
  have hwst : jm_wt m1.1 st := fun v hv => hw v (List.mem_append_right _ (List.mem_cons_of_mem _ hv))
  have hwas : jm_wt m1.1 (.ref rr :: as) := by
    refine jm_wt.cons (fun v hv => hw v (List.mem_append_left _ (List.mem_reverse.mpr hv))) (hw _ (List.mem_append_right _ List.mem_cons_self))
  have hmet := hcon ρ hr.mw hr.2.2.2.2.2.2.1 hwas hcw
  obtain ⟨n1, n2⟩ := jm_cn_ok _ h26
  have hCW : CallW R s args (jm_cn (jm_mO M)) (jm_cn (jm_mO M2)) x (jm_mY M2) (jm_mC M2) (jm_mL M2) (jm_mR M2) (Cond.code (jm_mY M2) (jm_mC M2) (jm_mL M2) (jm_mR M2) :: jm_WW) (jm_rm d (r.2.2.2.1 - m1.2.2.1) (r.2.2.2.2 - m1.2.2.2)) (r.2.2.2.1 - m1.2.2.1) (r.2.2.2.2 - m1.2.2.2) a :=
    jm_cV a X.ts hlink (hinst hst) hsel hini hcw rfl rfl ⟨hcls, by rw [hcls]; exact n1, by rw [hcls]; exact n2, hpar⟩ (jm_room hR hL30)
  have hrun := vx_runV (e := e) (below := below) (meth := meth) (locs := locs) (cells := cells) (slots := slots) (As := as.map (jm_cv ρ)) (rest := st.map (jm_cv ρ)) (b := ρ rr) (g := F0 m pc ls ((as.reverse ++ .ref rr :: st).map (jm_cv ρ))) ⟨X.1, X.2.1, X.ml, X.own, X.ts⟩ hmet hCW ⟨jm_Pc_blind, jm_recv X hr (by omega) hisc, jm_call_pre X hr⟩ rfl (by rw [List.length_map]; exact hlen) hL.2.1 (by simp [jm_cv]) (lv_room (st_catS hsm)) hdg ⟨by omega, by omega⟩
  exact st_ret hr hL hwst ha hN hm hrun kk
/-- invokestatic, by a link of the class -/
theorem st_inv1 (X : jm_Fx p s m args meth c D tys A S M) (hR : jm_Rk d R) (hok : jm_mok M2) (hst : jm_mS M2 = true) (hpar : (parseMethodDescriptor (jm_mY M2).desc).map (fun d => d.parameters.length) = some a) (hlink : Cond.methodLink (jm_cn (jm_mO M)) x (jm_mY M2) ∈ jm_WW)
    (hcon : jm_Con l D tys A S d M2 as m1 r) (hm : jm_le m1 r.2) (hlen : as.length = a) (hsm : (st.map fun v => v.category).sum ≤ 8) (hrm : r.2.2.2.1 ≤ c0 + R.cells ∧ r.2.2.2.2 ≤ s0 + R.slots)
    (hdg : decode (jm_mC M) pc = .ok (.invokestatic x, 3)) (kk : jm_Bk p l e R s m args below meth c D tys A S c0 s0 ρ0 N0 M Q pc lc st r) : jm_At p l e R s m args below meth c D tys A S c0 s0 ρ0 N0 M Q pc lc (as.reverse ++ st) m1 := by
  intro H locs cells slots ls ρ hr hL hw ha hN
  obtain ⟨h26, hcls, hL30, hstat, -, hcw, -, -, hini, -⟩ := hok
  have e1 := hr.2.2.2.2.2.2.2.1
  have e2 := hr.2.2.2.2.2.2.2.2
  obtain ⟨z1, z2, z3⟩ := id hm
  have hwst : jm_wt m1.1 st := fun v hv => hw v (List.mem_append_right _ hv)
  have hwas : jm_wt m1.1 as := fun v hv => hw v (List.mem_append_left _ (List.mem_reverse.mpr hv))
  have hmet := hcon ρ hr.mw hr.2.2.2.2.2.2.1 hwas hcw
  obtain ⟨n1, n2⟩ := jm_cn_ok _ h26
  rw [← hcls] at hini n1 n2
  have hstk : (F0 m pc ls ((as.reverse ++ st).map (jm_cv ρ))).stack = (as.map (jm_cv ρ)).reverse ++ st.map (jm_cv ρ) := by simp
  have hCB := jm_cS (R := R) (s := s) (args := args) (rm := jm_rm d (r.2.2.2.1 - m1.2.2.1) (r.2.2.2.2 - m1.2.2.2)) a X.ts hlink (hstat hst) hini hcw rfl rfl ⟨n1, n2, hpar⟩ (jm_room hR hL30)
  have hrun := vx_runS (e := e) (below := below) (meth := meth) (locs := locs) (cells := cells) (slots := slots) (As := as.map (jm_cv ρ)) (rest := st.map (jm_cv ρ)) (g := F0 m pc ls ((as.reverse ++ st).map (jm_cv ρ))) ⟨X.1, X.2.1, X.ml, X.own, X.ts⟩ hmet hCB ⟨jm_Pc_blind, jm_call_pre X hr⟩ rfl (by rw [List.length_map]; exact hlen) hL.2.1 hstk (lv_room (st_catS hsm)) hdg ⟨by omega, by omega⟩
  exact st_ret hr hL hwst ha hN hm hrun kk
/-- invokestatic of a nest mate -/
theorem st_inv4 {v : Option Value} (hv : r.1 = .inl v) (X : jm_Fx p s m args meth c D tys A S M) (hR : jm_Rk d R) (hok : jm_mok M2) (hst : jm_mS M2 = true) (hpar : (parseMethodDescriptor (jm_mY M2).desc).map (fun d => d.parameters.length) = some a) (hlink : Cond.methodLinkNest (jm_cn (jm_mO M)) x (jm_mY M2) "PaperLand" ∈ jm_NW)
    (hcon : jm_Con l D tys A S d M2 as m1 r) (hm : jm_le m1 r.2) (hlen : as.length = a) (hsm : (st.map fun v => v.category).sum ≤ 8) (hrm : r.2.2.2.1 ≤ c0 + R.cells ∧ r.2.2.2.2 ≤ s0 + R.slots)
    (hdg : decode (jm_mC M) pc = .ok (.invokestatic x, 3)) (kk : jm_Bk p l e R s m args below meth c D tys A S c0 s0 ρ0 N0 M Q pc lc st r) : jm_At p l e R s m args below meth c D tys A S c0 s0 ρ0 N0 M Q pc lc (as.reverse ++ st) m1 := by
  intro H locs cells slots ls ρ hr hL hw ha hN
  obtain ⟨h26, hcls, hL30, hstat, -, hcw, -, -, hini, -⟩ := hok
  have e1 := hr.2.2.2.2.2.2.2.1
  have e2 := hr.2.2.2.2.2.2.2.2
  obtain ⟨z1, z2, z3⟩ := id hm
  have hwst : jm_wt m1.1 st := fun v hv => hw v (List.mem_append_right _ hv)
  have hwas : jm_wt m1.1 as := fun v hv => hw v (List.mem_append_left _ (List.mem_reverse.mpr hv))
  have hmet := met_of_vx (hcon ρ hr.mw hr.2.2.2.2.2.2.1 hwas hcw) (jm_Xc_no hv)
  obtain ⟨n1, n2⟩ := jm_cn_ok _ h26
  rw [← hcls] at hini n1 n2
  have hCN := va_cnB (R := R) (s := s) (args := args) (rm := jm_rm d (r.2.2.2.1 - m1.2.2.1) (r.2.2.2.2 - m1.2.2.2)) (ws := jm_cw M2 :: jm_WW) (ws' := jm_WW) a X.ts (jm_gi1 hcw) rfl rfl rfl (X.nw hlink) (X.ts _ hini) ⟨n1, n2, hpar⟩ (jm_room hR hL30)
  have hrun := va_runSN (e := e) (below := below) (meth := meth) (locs := locs) (cells := cells) (slots := slots) (As := as.map (jm_cv ρ)) (rest := st.map (jm_cv ρ)) (g := F0 m pc ls ((as.reverse ++ st).map (jm_cv ρ))) ⟨X.1, X.2.1, X.ml, X.own, X.ts⟩ hmet ⟨hCN, X.ts _ (hstat hst), trivial⟩ ⟨jm_Pc_blind, jm_call_pre X hr⟩ rfl (by rw [List.length_map]; exact hlen) hL.2.1 (by simp) (lv_room (st_catS hsm)) hdg ⟨by omega, by omega⟩
  exact st_ret hr hL hwst ha hN hm (vx_of_va hrun) kk
/-- invokespecial of a constructor, a nest mate's too -/
theorem st_inv25 {rr : Nat} {v : Option Value} (hv : r.1 = .inl v) (X : jm_Fx p s m args meth c D tys A S M) (hR : jm_Rk d R) (hok : jm_mok M2) (hst : jm_mS M2 = false) (hni : (jm_mY M2).name = "<init>") (hret : jm_mR M2 = none) (hpar : (parseMethodDescriptor (jm_mY M2).desc).map (fun d => d.parameters.length) = some a) (hlink : Cond.methodLink (jm_cn (jm_mO M)) x (jm_mY M2) ∈ jm_WW ∨ Cond.methodLinkNest (jm_cn (jm_mO M)) x (jm_mY M2) "PaperLand" ∈ jm_NW)
    (hcon : jm_Con l D tys A S d M2 (.ref rr :: as) m1 r) (hm : jm_le m1 r.2) (hlen : as.length = a) (hsm : (st.map fun v => v.category).sum ≤ 8) (hrm : r.2.2.2.1 ≤ c0 + R.cells ∧ r.2.2.2.2 ≤ s0 + R.slots)
    (hdg : decode (jm_mC M) pc = .ok (.invokespecial x, 3)) (kk : jm_Bk p l e R s m args below meth c D tys A S c0 s0 ρ0 N0 M Q pc lc st r) : jm_At p l e R s m args below meth c D tys A S c0 s0 ρ0 N0 M Q pc lc (as.reverse ++ .ref rr :: st) m1 := by
  intro H locs cells slots ls ρ hr hL hw ha hN
  obtain ⟨h26, hcls, hL30, -, hinst, hcw, -, -, hini, -⟩ := hok
  have e1 := hr.2.2.2.2.2.2.2.1
  have e2 := hr.2.2.2.2.2.2.2.2
  obtain ⟨z1, z2, z3⟩ := id hm
  have hwst : jm_wt m1.1 st := fun v hv => hw v (List.mem_append_right _ (List.mem_cons_of_mem _ hv))
  have hwas : jm_wt m1.1 (.ref rr :: as) := by
    refine jm_wt.cons (fun v hv => hw v (List.mem_append_left _ (List.mem_reverse.mpr hv))) (hw _ (List.mem_append_right _ List.mem_cons_self))
  have hmet := met_of_vx (hcon ρ hr.mw hr.2.2.2.2.2.2.1 hwas hcw) (jm_Xc_no hv)
  obtain ⟨n1, n2⟩ := jm_cn_ok _ h26
  rw [← hcls] at hini n1 n2
  have hcw2 : Cond.code (jm_mY M2) (jm_mC M2) (jm_mL M2) none ∈ jm_WW := by
    have : Cond.code (jm_mY M2) (jm_mC M2) (jm_mL M2) (jm_mR M2) ∈ jm_WW := hcw
    rw [hret] at this; exact this
  have hws : jm_cw M2 :: jm_WW = Cond.code (jm_mY M2) (jm_mC M2) (jm_mL M2) none :: jm_WW := by
    show Cond.code (jm_mY M2) (jm_mC M2) (jm_mL M2) (jm_mR M2) :: jm_WW = _
    rw [hret]
  rw [hws] at hmet
  have hG : GoodIn jm_WW (Cond.code (jm_mY M2) (jm_mC M2) (jm_mL M2) none :: jm_WW) := jm_gi1 hcw2
  have hRR := jm_room (mc := r.2.2.2.1 - m1.2.2.1) (ms := r.2.2.2.2 - m1.2.2.2) hR hL30
  have hpre : PreS s H (jm_Pc D tys A S ρ m1 (.ref rr :: as)) (.ref (ρ rr) :: as.map (jm_cv ρ)) := ⟨jm_Pc_blind, jm_call_pre X hr⟩
  have hstk : (F0 m pc ls ((as.reverse ++ .ref rr :: st).map (jm_cv ρ))).stack = (as.map (jm_cv ρ)).reverse ++ .ref (ρ rr) :: st.map (jm_cv ρ) := by simp [jm_cv]
  rcases hlink with hlink | hlink
  · have hrun := va_runI (e := e) (below := below) (meth := meth) (locs := locs) (cells := cells) (slots := slots) (As := as.map (jm_cv ρ)) (rest := st.map (jm_cv ρ)) (b := ρ rr) (g := F0 m pc ls ((as.reverse ++ .ref rr :: st).map (jm_cv ρ))) ⟨X.1, X.2.1, X.ml, X.own, X.ts⟩ hmet (cwI a X.ts hG rfl rfl rfl (X.ts _ hini) (X.ts _ hlink) (X.ts _ (hinst hst)) hni ⟨n1, n2, hpar⟩ hRR) hpre rfl (by rw [List.length_map]; exact hlen) hL.2.1 hstk (lv_room (st_catS hsm)) hdg ⟨by omega, by omega⟩
    exact st_ret hr hL hwst ha hN hm (vx_of_va hrun) kk
  · have hCN := va_cnB (R := R) (s := s) (args := args) (rm := jm_rm d (r.2.2.2.1 - m1.2.2.1) (r.2.2.2.2 - m1.2.2.2)) a X.ts hG rfl rfl rfl (X.nw hlink) (X.ts _ hini) ⟨n1, n2, hpar⟩ hRR
    have hrun := va_runIN (e := e) (below := below) (meth := meth) (locs := locs) (cells := cells) (slots := slots) (As := as.map (jm_cv ρ)) (rest := st.map (jm_cv ρ)) (b := ρ rr) (g := F0 m pc ls ((as.reverse ++ .ref rr :: st).map (jm_cv ρ))) ⟨X.1, X.2.1, X.ml, X.own, X.ts⟩ hmet ⟨hCN, hni, X.ts _ (hinst hst)⟩ hpre rfl (by rw [List.length_map]; exact hlen) hL.2.1 hstk (lv_room (st_catS hsm)) hdg ⟨by omega, by omega⟩
    exact st_ret hr hL hwst ha hN hm (vx_of_va hrun) kk
/-- invokeinterface on an ArrayList -/
theorem st_inv3 {rr : Nat} {k : Nat} {v : Option Value} {y : MethodName} (hv : r.1 = .inl v) (X : jm_Fx p s m args meth c D tys A S M) (hR : jm_Rk d R) (hok : jm_mok M2) (hst : jm_mS M2 = false) (h17 : jm_mO M2 = 17) (hpar : (parseMethodDescriptor y.desc).map (fun d => d.parameters.length) = some a) (hlink : Cond.methodLink (jm_cn (jm_mO M)) x y ∈ jm_WW) (hsel : Cond.selects "java/util/ArrayList" y (jm_mY M2) ∈ jm_WW) (hF : va_Fw "java/util/ArrayList" y (jm_mY M2) s) (hy : y.cls ≠ "java/lang/invoke/MethodHandle" ∧ y.cls ≠ "java/lang/invoke/VarHandle")
    (hcon : jm_Con l D tys A S d M2 (.ref rr :: as) m1 r) (hm : jm_le m1 r.2) (hisc : jm_isC m1 rr 17 = true) (hlen : as.length = a) (hsm : (st.map fun v => v.category).sum ≤ 8) (hrm : r.2.2.2.1 ≤ c0 + R.cells ∧ r.2.2.2.2 ≤ s0 + R.slots)
    (hdg : decode (jm_mC M) pc = .ok (.invokeinterface x k, 5)) (kk : jm_Bk p l e R s m args below meth c D tys A S c0 s0 ρ0 N0 M Q (pc + 2) lc st r) : jm_At p l e R s m args below meth c D tys A S c0 s0 ρ0 N0 M Q pc lc (as.reverse ++ .ref rr :: st) m1 := by
  intro H locs cells slots ls ρ hr hL hw ha hN
  obtain ⟨h26, hcls, hL30, -, hinst, hcw, -, -, hini, -⟩ := hok
  have e1 := hr.2.2.2.2.2.2.2.1
  have e2 := hr.2.2.2.2.2.2.2.2
  obtain ⟨z1, z2, z3⟩ := id hm
  have hwst : jm_wt m1.1 st := fun v hv => hw v (List.mem_append_right _ (List.mem_cons_of_mem _ hv))
  have hwas : jm_wt m1.1 (.ref rr :: as) := by
    refine jm_wt.cons (fun v hv => hw v (List.mem_append_left _ (List.mem_reverse.mpr hv))) (hw _ (List.mem_append_right _ List.mem_cons_self))
  have hmet := met_of_vx (hcon ρ hr.mw hr.2.2.2.2.2.2.1 hwas hcw) (jm_Xc_no hv)
  rw [← hcls] at hini
  have hCI := va_cwF (R := R) (s := s) (args := args) (own := jm_cn (jm_mO M)) (C := "java/util/ArrayList") (index := x) (x := y) (rm := jm_rm d (r.2.2.2.1 - m1.2.2.1) (r.2.2.2.2 - m1.2.2.2)) (ws := jm_cw M2 :: jm_WW) (ws' := jm_WW) a X.ts (jm_gi2 (fun w hw => by
    rcases List.mem_cons.mp hw with rfl | hw
    · exact hlink
    · rcases List.mem_cons.mp hw with rfl | hw
      · exact hsel
      · rcases List.mem_cons.mp hw with rfl | hw
        · exact hinst hst
        · rcases List.mem_cons.mp hw with rfl | hw
          · exact hini
          · cases hw) hcw) rfl rfl rfl hF ⟨hy.1, hy.2, hpar⟩ (jm_room hR hL30)
  have hat : ClassAt s "java/util/ArrayList" (D.1 17) := jm_cAt X (ci := 17) (by decide)
  have hrun := va_runF (e := e) (below := below) (meth := meth) (locs := locs) (cells := cells) (slots := slots) (As := as.map (jm_cv ρ)) (rest := st.map (jm_cv ρ)) (b := ρ rr) (g := F0 m pc ls ((as.reverse ++ .ref rr :: st).map (jm_cv ρ))) hat ⟨X.1, X.2.1, X.ml, X.own, X.ts⟩ hmet hCI ⟨jm_Pc_blind, jm_recv X hr (ci := 17) (by omega) hisc, jm_call_pre X hr⟩ rfl (by rw [List.length_map]; exact hlen) hL.2.1 (by simp [jm_cv]) (lv_room (st_catS hsm)) hdg ⟨by omega, by omega⟩
  exact st_ret5 hv hr hL hwst ha hN hm hrun kk
/-- invokespecial of the superclass's method -/
theorem st_inv6 {rr ci : Nat} {v : Option Value} (hv : r.1 = .inl v) (X : jm_Fx p s m args meth c D tys A S M) (hR : jm_Rk d R) (hok : jm_mok M2) (hst : jm_mS M2 = false) (hni : (jm_mY M2).name ≠ "<init>") (h18 : ci < 18) (hpar : (parseMethodDescriptor (jm_mY M2).desc).map (fun d => d.parameters.length) = some a) (hlink : Cond.methodLink (jm_cn (jm_mO M)) x (jm_mY M2) ∈ jm_WW) (hsame : Cond.sameMethod (jm_mY M2).cls (jm_mY M2).cls (jm_mY M2).name (jm_mY M2).desc ∈ jm_WW) (hsup : Cond.superclass (jm_cn (jm_mO M)) (jm_mY M2).cls ∈ jm_WW)
    (hcon : jm_Con l D tys A S d M2 (.ref rr :: as) m1 r) (hm : jm_le m1 r.2) (hisc : jm_isC m1 rr ci = true) (hlen : as.length = a) (hsm : (st.map fun v => v.category).sum ≤ 8) (hrm : r.2.2.2.1 ≤ c0 + R.cells ∧ r.2.2.2.2 ≤ s0 + R.slots)
    (hdg : decode (jm_mC M) pc = .ok (.invokespecial x, 3)) (kk : jm_Bk p l e R s m args below meth c D tys A S c0 s0 ρ0 N0 M Q pc lc st r) : jm_At p l e R s m args below meth c D tys A S c0 s0 ρ0 N0 M Q pc lc (as.reverse ++ .ref rr :: st) m1 := by
  intro H locs cells slots ls ρ hr hL hw ha hN
  obtain ⟨h26, hcls, hL30, -, hinst, hcw, -, -, hini, -⟩ := hok
  have e1 := hr.2.2.2.2.2.2.2.1
  have e2 := hr.2.2.2.2.2.2.2.2
  obtain ⟨z1, z2, z3⟩ := id hm
  have hwst : jm_wt m1.1 st := fun v hv => hw v (List.mem_append_right _ (List.mem_cons_of_mem _ hv))
  have hwas : jm_wt m1.1 (.ref rr :: as) := by
    refine jm_wt.cons (fun v hv => hw v (List.mem_append_left _ (List.mem_reverse.mpr hv))) (hw _ (List.mem_append_right _ List.mem_cons_self))
  have hmet := met_of_vx (hcon ρ hr.mw hr.2.2.2.2.2.2.1 hwas hcw) (jm_Xc_no hv)
  rw [← hcls] at hini
  have hCS := va_cwSU (R := R) (s := s) (args := args) (own := jm_cn (jm_mO M)) (index := x) (y := jm_mY M2) (rm := jm_rm d (r.2.2.2.1 - m1.2.2.1) (r.2.2.2.2 - m1.2.2.2)) (ws := jm_cw M2 :: jm_WW) (ws' := jm_WW) a X.ts (jm_gi2 (fun w hw => by
    rcases List.mem_cons.mp hw with rfl | hw
    · exact hlink
    · rcases List.mem_cons.mp hw with rfl | hw
      · exact hsame
      · rcases List.mem_cons.mp hw with rfl | hw
        · exact hsup
        · rcases List.mem_cons.mp hw with rfl | hw
          · exact hinst hst
          · rcases List.mem_cons.mp hw with rfl | hw
            · exact hini
            · cases hw) hcw) rfl rfl rfl ⟨hni, hpar⟩ (jm_room hR hL30)
  have hrun := va_runSU (e := e) (below := below) (meth := meth) (locs := locs) (cells := cells) (slots := slots) (As := as.map (jm_cv ρ)) (rest := st.map (jm_cv ρ)) (b := ρ rr) (g := F0 m pc ls ((as.reverse ++ .ref rr :: st).map (jm_cv ρ))) (jm_cAt X h18) ⟨X.1, X.2.1, X.ml, X.own, X.ts⟩ hmet hCS ⟨jm_Pc_blind, jm_recv X hr (by omega) hisc, jm_call_pre X hr⟩ rfl (by rw [List.length_map]; exact hlen) hL.2.1 (by simp [jm_cv]) (lv_room (st_catS hsm)) hdg ⟨by omega, by omega⟩
  exact st_ret hr hL hwst ha hN hm (vx_of_va hrun) kk
/-- invokevirtual on a StringBuilder of what its superclass names -/
theorem st_inv78 {rr : Nat} {v : Option Value} {y : MethodName} (hv : r.1 = .inl v) (X : jm_Fx p s m args meth c D tys A S M) (hR : jm_Rk d R) (hok : jm_mok M2)
    (hCU : va_CU R s args (jm_cn (jm_mO M)) jm_asb y.cls x y (jm_mY M2) (jm_mC M2) (jm_mL M2) (jm_mR M2) (jm_cw M2 :: jm_WW) (jm_rm d (r.2.2.2.1 - m1.2.2.1) (r.2.2.2.2 - m1.2.2.2)) (r.2.2.2.1 - m1.2.2.1) (r.2.2.2.2 - m1.2.2.2) a)
    (hcon : jm_Con l D tys A S d M2 (.ref rr :: as) m1 r) (hm : jm_le m1 r.2) (hisc : jm_isC m1 rr 15 = true) (hlen : as.length = a) (hsm : (st.map fun v => v.category).sum ≤ 8) (hrm : r.2.2.2.1 ≤ c0 + R.cells ∧ r.2.2.2.2 ≤ s0 + R.slots)
    (hdg : decode (jm_mC M) pc = .ok (.invokevirtual x, 3)) (kk : jm_Bk p l e R s m args below meth c D tys A S c0 s0 ρ0 N0 M Q pc lc st r) : jm_At p l e R s m args below meth c D tys A S c0 s0 ρ0 N0 M Q pc lc (as.reverse ++ .ref rr :: st) m1 := by
  intro H locs cells slots ls ρ hr hL hw ha hN
  obtain ⟨h26, hcls, hL30, -, hinst, hcw, -, -, hini, -⟩ := hok
  have e1 := hr.2.2.2.2.2.2.2.1
  have e2 := hr.2.2.2.2.2.2.2.2
  obtain ⟨z1, z2, z3⟩ := id hm
  have hwst : jm_wt m1.1 st := fun v hv => hw v (List.mem_append_right _ (List.mem_cons_of_mem _ hv))
  have hwas : jm_wt m1.1 (.ref rr :: as) := by
    refine jm_wt.cons (fun v hv => hw v (List.mem_append_left _ (List.mem_reverse.mpr hv))) (hw _ (List.mem_append_right _ List.mem_cons_self))
  have hmet := met_of_vx (hcon ρ hr.mw hr.2.2.2.2.2.2.1 hwas hcw) (jm_Xc_no hv)
  have hrun := va_runU (e := e) (below := below) (meth := meth) (locs := locs) (cells := cells) (slots := slots) (As := as.map (jm_cv ρ)) (rest := st.map (jm_cv ρ)) (b := ρ rr) (g := F0 m pc ls ((as.reverse ++ .ref rr :: st).map (jm_cv ρ))) ⟨X.1, X.2.1, X.ml, X.own, X.ts⟩ hmet hCU ⟨jm_Pc_blind, jm_recv X hr (ci := 15) (by omega) hisc, jm_call_pre X hr⟩ rfl (by rw [List.length_map]; exact hlen) hL.2.1 (by simp [jm_cv]) (lv_room (st_catS hsm)) hdg ⟨by omega, by omega⟩
  exact st_ret hr hL hwst ha hN hm (vx_of_va hrun) kk
theorem st_cu7 {y : MethodName} {mc ms : Nat} (X : jm_Fx p s m args meth c D tys A S M) (hR : jm_Rk d R) (hok : jm_mok M2) (hst : jm_mS M2 = false) (hlink : Cond.methodLink (jm_cn (jm_mO M)) x y ∈ jm_WW) (hsame : Cond.sameMethod y.cls y.cls y.name y.desc ∈ jm_WW) (hinst : Cond.instanceMethod y ∈ jm_WW) (hsel : Cond.selects jm_asb y (jm_mY M2) ∈ jm_WW) (h0 : ∃ b0 m0 r0, Cond.code y b0 m0 r0 ∈ jm_WW) (hy : y.cls ≠ "java/lang/invoke/MethodHandle" ∧ y.cls ≠ "java/lang/invoke/VarHandle" ∧ (parseMethodDescriptor y.desc).map (fun d => d.parameters.length) = some a) :
    va_CU R s args (jm_cn (jm_mO M)) jm_asb y.cls x y (jm_mY M2) (jm_mC M2) (jm_mL M2) (jm_mR M2) (jm_cw M2 :: jm_WW) (jm_rm d mc ms) mc ms a := by
  obtain ⟨h26, hcls, hL30, -, hinst2, hcw, -, -, hini, -⟩ := hok
  obtain ⟨b0, m0, r0, h0⟩ := h0
  rw [← hcls] at hini
  refine va_cwO (ws' := jm_WW) a X.ts (jm_gi2 (fun w hw => ?_) hcw) rfl rfl rfl h0 hy (jm_room hR hL30)
  rcases List.mem_cons.mp hw with rfl | hw
  · exact hlink
  · rcases List.mem_cons.mp hw with rfl | hw
    · exact hsame
    · rcases List.mem_cons.mp hw with rfl | hw
      · exact hinst
      · rcases List.mem_cons.mp hw with rfl | hw
        · exact hsel
        · rcases List.mem_cons.mp hw with rfl | hw
          · exact hinst2 hst
          · rcases List.mem_cons.mp hw with rfl | hw
            · exact hini
            · cases hw
theorem st_cu8 {mc ms : Nat} (X : jm_Fx p s m args meth c D tys A S M) (hR : jm_Rk d R) (hok : jm_mok M2) (hst : jm_mS M2 = false) (hlink : Cond.methodLink (jm_cn (jm_mO M)) x (jm_mY M2) ∈ jm_WW) (hsame : Cond.sameMethod (jm_mY M2).cls (jm_mY M2).cls (jm_mY M2).name (jm_mY M2).desc ∈ jm_WW) (hsel : Cond.selects jm_asb (jm_mY M2) (jm_mY M2) ∈ jm_WW) (hpar : (parseMethodDescriptor (jm_mY M2).desc).map (fun d => d.parameters.length) = some a) :
    va_CU R s args (jm_cn (jm_mO M)) jm_asb (jm_mY M2).cls x (jm_mY M2) (jm_mY M2) (jm_mC M2) (jm_mL M2) (jm_mR M2) (jm_cw M2 :: jm_WW) (jm_rm d mc ms) mc ms a := by
  obtain ⟨h26, hcls, hL30, -, hinst2, hcw, -, -, hini, -⟩ := hok
  obtain ⟨n1, n2⟩ := jm_cn_ok _ h26
  rw [← hcls] at hini n1 n2
  refine va_cwU (ws' := jm_WW) a X.ts (jm_gi2 (fun w hw => ?_) hcw) rfl rfl rfl rfl ⟨n1, n2, hpar⟩ (jm_room hR hL30)
  rcases List.mem_cons.mp hw with rfl | hw
  · exact hlink
  · rcases List.mem_cons.mp hw with rfl | hw
    · exact hsame
    · rcases List.mem_cons.mp hw with rfl | hw
      · exact hsel
      · rcases List.mem_cons.mp hw with rfl | hw
        · exact hinst2 hst
        · rcases List.mem_cons.mp hw with rfl | hw
          · exact hini
          · cases hw
end KINDS
end CALL
