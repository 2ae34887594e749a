/-! A call's step of the small machine is a stretch of the real one, whatever its kind. -/
def jm_kds : List Nat := [0, 1, 2, 3, 4, 5, 6, 7, 8, 10, 11, 12, 13, 14, 15, 16, 17, 19, 23, 24, 25, 26, 27, 28, 29, 30]
theorem jm_mthK0 : ∀ c, c < 26 → ∀ e ∈ jm_mthT.getD c [], e.2.2.2.1 ∈ jm_kds := by decide +kernel
theorem jm_mthK {c x : Nat} {v : Nat × Nat × Nat × Nat} (h : jm_mth c x = some v) : v.2.2.1 ∈ jm_kds := by
  have h1 := jm_as_mem h
  by_cases hc : c < 26
  · exact jm_mthK0 c hc _ h1
  · exfalso
    have e : jm_mthT.getD c [] = [] := by
      rw [List.getD, List.getElem?_eq_none (show jm_mthT.length ≤ c from Nat.le_trans (by decide) (Nat.not_lt.mp hc))]
      rfl
    rw [e] at h1
    cases h1
section SIM
variable {p : Program} {l : Launch} {e : Env} {R : Room} {s : State} {m : MethodId} {args : Array Value} {below : List Frame} {meth : Method} {c : Code} {D : va_G} {tys : List (ClassId × FieldType)} {A : Nat → Prop} {S : jm_Sp} {c0 s0 : Nat} {ρ0 : Nat → Nat} {N0 : Nat} {M : jm_Meth} {Q : State → Prop} {pc : Nat} {lc : jm_Loc} {st : List Value} {m1 : jm_Mem} {d : Nat} {r : jm_Res} {K : jm_K} {call : jm_Call}
/-- nothing is caught -/
theorem st_thr {E : String} (hcl : jm_mH M = []) (h3 : ∀ E pc lc m2, r = (.inr E, m2) → jm_Th p l e R s m args below meth c D tys A S c0 s0 ρ0 N0 M Q E pc lc m2) (h : jm_thr M pc lc E m1 K = some r) : jm_Th p l e R s m args below meth c D tys A S c0 s0 ρ0 N0 M Q E pc lc m1 := by
  unfold jm_thr at h
  rw [hcl] at h
  exact h3 E pc lc m1 (Option.some.inj h).symm
/-- a contract for each call that comes to something -/
def jm_Cs (l : Launch) (D : va_G) (tys : List (ClassId × FieldType)) (A : Nat → Prop) (S : jm_Sp) (d : Nat) (call : jm_Call) : Prop :=
  ∀ (k : Nat) (M2 : jm_Meth) (as : List Value) (m2 : jm_Mem) (r2 : jm_Res), jm_M k = some M2 → call k as m2 = some r2 → jm_mok M2 → jm_ok M2 as m2 = true ∧ jm_Con l D tys A S d M2 as m2 r2
theorem bk_back {rk : Nat} {r2 : jm_Res} (hcl : jm_mH M = []) (hK : ∀ pc lc st m2, K pc lc st m2 = some r → jm_At p l e R s m args below meth c D tys A S c0 s0 ρ0 N0 M Q pc lc st m2)
    (h3 : ∀ E pc lc m2, r = (.inr E, m2) → jm_Th p l e R s m args below meth c D tys A S c0 s0 ρ0 N0 M Q E pc lc m2) (h : jm_back rk M pc lc st K r2 = some r) : jm_Bk p l e R s m args below meth c D tys A S c0 s0 ρ0 N0 M Q pc lc st r2 := by
  obtain ⟨o, m2⟩ := r2
  rcases o with (_ | v) | E
  · rcases rk with _ | _ | _ | _ | _ | rk <;> first | exact hK _ _ _ _ h | cases h
  · rcases rk with _ | _ | _ | _ | _ | rk <;> cases v <;> first | exact hK _ _ _ _ h | cases h
  · rcases rk with _ | _ | _ | _ | _ | rk <;> first | exact st_thr hcl h3 h | cases h
theorem bk_bak {rk : Nat} {r2 : jm_Res} (hK : ∀ pc lc st m2, K pc lc st m2 = some r → jm_At p l e R s m args below meth c D tys A S c0 s0 ρ0 N0 M Q pc lc st m2) (h : jm_bak rk pc lc st K r2 = some r) : jm_Bk p l e R s m args below meth c D tys A S c0 s0 ρ0 N0 M Q pc lc st r2 ∧ ∃ v, r2.1 = .inl v := by
  obtain ⟨o, m2⟩ := r2
  rcases o with (_ | v) | E
  · refine ⟨?_, _, rfl⟩
    rcases rk with _ | _ | _ | _ | _ | rk <;> first | exact hK _ _ _ _ h | cases h
  · refine ⟨?_, _, rfl⟩
    rcases rk with _ | _ | _ | _ | _ | rk <;> cases v <;> first | exact hK _ _ _ _ h | cases h
  · rcases rk with _ | _ | _ | _ | _ | rk <;> cases h
theorem le_back {rk : Nat} {r2 : jm_Res} (hKm : ∀ pc lc st m2 r', K pc lc st m2 = some r' → jm_le m2 r'.2) (h : jm_back rk M pc lc st K r2 = some r) : jm_le r2.2 r.2 := mo_back (m := r2.2) (jm_le.rf _) K hKm r h
theorem le_bak {rk : Nat} {r2 : jm_Res} (hKm : ∀ pc lc st m2 r', K pc lc st m2 = some r' → jm_le m2 r'.2) (h : jm_bak rk pc lc st K r2 = some r) : jm_le r2.2 r.2 := mo_bak (m := r2.2) (jm_le.rf _) K hKm r h
theorem ok_isC {M2 : jm_Meth} {rr : Nat} {as : List Value} (h : jm_ok M2 (.ref rr :: as) m1 = true) (hs : jm_mS M2 = false) : jm_isC m1 rr (jm_rc (jm_mO M2)) = true := by
  unfold jm_ok at h
  rw [hs] at h
  exact h
theorem rc_lt {k : Nat} (h : k < 18) : jm_rc k = k := by
  unfold jm_rc
  rw [if_neg (by omega), if_neg (by omega)]
theorem mk_le {e4 : jm_Ent} {k : Nat} {g : jm_Mem → Option jm_Res} (hKm : ∀ m2 r', g m2 = some r' → jm_le m2 r'.2) (h : g (jm_new m1 e4 k) = some r) : m1.2.2.1 + 1 ≤ r.2.2.2.1 ∧ m1.2.2.2 + k ≤ r.2.2.2.2 := by
  obtain ⟨-, z2, z3⟩ := hKm _ _ h
  exact ⟨z2, z3⟩
/-- through an interface -/
theorem sim_inv3 {t a rk x k : Nat} (X : jm_Fx p s m args meth c D tys A S M) (hR : jm_Rk d R) (hcs : jm_Cs l D tys A S d call) (hcm : jm_cM call) (hK : ∀ pc lc st m2, K pc lc st m2 = some r → jm_At p l e R s m args below meth c D tys A S c0 s0 ρ0 N0 M Q pc lc st m2) (hKm : ∀ pc lc st m2 r', K pc lc st m2 = some r' → jm_le m2 r'.2)
    (hrm : r.2.2.2.1 ≤ c0 + R.cells ∧ r.2.2.2.2 ≤ s0 + R.slots) (hlk : jm_lok (jm_mO M) (x, t, a, 3, rk)) (hdg : decode (jm_mC M) pc = .ok (.invokeinterface x k, 5)) (h : jm_inv call M (pc + 2) lc st m1 K (t, a, 3, rk) = some r) : jm_At p l e R s m args below meth c D tys A S c0 s0 ρ0 N0 M Q pc lc st m1 := by
  have rm2 : ∀ {r2 : jm_Res}, jm_le r2.2 r.2 → r2.2.2.2.1 ≤ c0 + R.cells ∧ r2.2.2.2.2 ≤ s0 + R.slots := fun z => ⟨Nat.le_trans z.2.1 hrm.1, Nat.le_trans z.2.2 hrm.2⟩
  unfold jm_inv at h
  replace h : jm_pop a st [] _ = some r := h
  obtain ⟨as, rest, hlen, hq, h'⟩ := iv_pop _ _ _ h
  clear h; subst hq; have h := h'; clear h'
  rw [List.append_nil] at h
  obtain ⟨rr, st2, hq, h'⟩ := iv_pR h
  clear h; subst hq; have h := h'; clear h'
  obtain ⟨hsm, h⟩ := iv_sm h
  obtain ⟨r2, hcall, h⟩ := iv_bind h
  obtain ⟨M2, hM2, hok, hst, hni, hpar0, ⟨h17, y, hlink, hsel, hyy, hpar⟩, -⟩ := hlk
  obtain ⟨hjo, hcon⟩ := hcs _ _ _ _ _ hM2 hcall hok
  obtain ⟨hb, v, hv⟩ := bk_bak hK h
  have hisc := ok_isC hjo hst
  rw [h17] at hisc
  have hisc : jm_isC m1 rr 17 = true := hisc
  obtain ⟨-, -, -, -, -, ⟨F1, F2, F3⟩, -⟩ := X.kl
  have hF : va_Fw "java/util/ArrayList" y (jm_mY M2) s ∧ (y.cls ≠ "java/lang/invoke/MethodHandle" ∧ y.cls ≠ "java/lang/invoke/VarHandle") := by
    rcases hyy with ⟨rfl, e⟩ | ⟨rfl, e⟩ | ⟨rfl, e⟩
    · rw [e]; exact ⟨F1, by decide⟩
    · rw [e]; exact ⟨F2, by decide⟩
    · rw [e]; exact ⟨F3, by decide⟩
  exact st_inv3 hv X hR hok hst h17 hpar hlink hsel hF.1 hF.2 hcon (hcm _ _ _ _ hcall) hisc hlen hsm (rm2 (le_bak hKm h)) hdg hb
theorem sim_inv {e4 : Nat × Nat × Nat × Nat} {x : Nat} (X : jm_Fx p s m args meth c D tys A S M) (hR : jm_Rk d R) (hcl : jm_mH M = []) (hcs : jm_Cs l D tys A S d call) (hcm : jm_cM call) (hK : ∀ pc lc st m2, K pc lc st m2 = some r → jm_At p l e R s m args below meth c D tys A S c0 s0 ρ0 N0 M Q pc lc st m2) (hKm : ∀ pc lc st m2 r', K pc lc st m2 = some r' → jm_le m2 r'.2)
    (h3 : ∀ E pc lc m2, r = (.inr E, m2) → jm_Th p l e R s m args below meth c D tys A S c0 s0 ρ0 N0 M Q E pc lc m2) (hrm : r.2.2.2.1 ≤ c0 + R.cells ∧ r.2.2.2.2 ≤ s0 + R.slots) (hlk : jm_lok (jm_mO M) (x, e4)) (hkd : e4.2.2.1 ∈ jm_kds)
    (hdg : (e4.2.2.1 = 0 ∨ e4.2.2.1 = 7 ∨ e4.2.2.1 = 8 ∨ e4.2.2.1 = 16 ∨ e4.2.2.1 = 17 ∨ e4.2.2.1 = 24 ∨ e4.2.2.1 = 26 ∨ e4.2.2.1 = 29 ∨ e4.2.2.1 = 30 → decode (jm_mC M) pc = .ok (.invokevirtual x, 3)) ∧ (e4.2.2.1 = 2 ∨ e4.2.2.1 = 5 ∨ e4.2.2.1 = 6 ∨ e4.2.2.1 = 10 → decode (jm_mC M) pc = .ok (.invokespecial x, 3)) ∧ (e4.2.2.1 = 1 ∨ e4.2.2.1 = 4 ∨ (11 ≤ e4.2.2.1 ∧ e4.2.2.1 ≤ 15) ∨ e4.2.2.1 = 19 ∨ e4.2.2.1 = 23 ∨ e4.2.2.1 = 25 ∨ e4.2.2.1 = 27 ∨ e4.2.2.1 = 28 → decode (jm_mC M) pc = .ok (.invokestatic x, 3)) ∧ e4.2.2.1 ≠ 3)
    (h : jm_inv call M pc lc st m1 K e4 = some r) : jm_At p l e R s m args below meth c D tys A S c0 s0 ρ0 N0 M Q pc lc st m1 := by
  obtain ⟨t, a, kd, rk⟩ := e4
  obtain ⟨dv, dsp, dst, d3⟩ := hdg
  dsimp only at dv dsp dst d3
  have hle : jm_le m1 r.2 := mo_inv hcm K hKm r h
  have hrm1 : m1.2.2.1 ≤ c0 + R.cells ∧ m1.2.2.2 ≤ s0 + R.slots := ⟨Nat.le_trans hle.2.1 hrm.1, Nat.le_trans hle.2.2 hrm.2⟩
  have rm2 : ∀ {r2 : jm_Res}, jm_le r2.2 r.2 → r2.2.2.2.1 ≤ c0 + R.cells ∧ r2.2.2.2.2 ≤ s0 + R.slots := fun z => ⟨Nat.le_trans z.2.1 hrm.1, Nat.le_trans z.2.2 hrm.2⟩
  unfold jm_inv at h
  unfold jm_lok at hlk
  dsimp only at h hlk
  by_cases k0 : kd = 0
  · subst k0
    replace h : jm_pop a st [] _ = some r := h
    obtain ⟨as, rest, hlen, hq, h'⟩ := iv_pop _ _ _ h
    clear h; subst hq; have h := h'; clear h'
    rw [List.append_nil] at h
    obtain ⟨rr, st2, hq, h'⟩ := iv_pR h
    clear h; subst hq; have h := h'; clear h'
    obtain ⟨hsm, h⟩ := iv_sm h
    obtain ⟨r2, hcall, h⟩ := iv_bind h
    obtain ⟨M2, hM2, hok, hst, hni, hpar, ⟨hlink, hsel, h18⟩, -⟩ := hlk
    obtain ⟨hjo, hcon⟩ := hcs _ _ _ _ _ hM2 hcall hok
    have hisc := ok_isC hjo hst
    rw [rc_lt h18] at hisc
    exact st_inv0 X hR hok hst hpar hlink hsel h18 hcon (hcm _ _ _ _ hcall) hisc hlen hsm (rm2 (le_back hKm h)) (dv (by omega)) (bk_back hcl hK h3 h)
  by_cases k1 : kd = 1
  · subst k1
    replace h : jm_pop a st [] _ = some r := h
    obtain ⟨as, rest, hlen, hq, h'⟩ := iv_pop _ _ _ h
    clear h; subst hq; have h := h'; clear h'
    rw [List.append_nil] at h
    obtain ⟨hsm, h⟩ := iv_sm h
    obtain ⟨r2, hcall, h⟩ := iv_bind h
    obtain ⟨M2, hM2, hok, hst, hni, hpar, hlink, -⟩ := hlk
    obtain ⟨hjo, hcon⟩ := hcs _ _ _ _ _ hM2 hcall hok
    exact st_inv1 X hR hok hst hpar hlink hcon (hcm _ _ _ _ hcall) hlen hsm (rm2 (le_back hKm h)) (dst (by omega)) (bk_back hcl hK h3 h)
  by_cases k2 : kd = 2
  · subst k2
    replace h : jm_pop a st [] _ = some r := h
    obtain ⟨as, rest, hlen, hq, h'⟩ := iv_pop _ _ _ h
    clear h; subst hq; have h := h'; clear h'
    rw [List.append_nil] at h
    obtain ⟨rr, st2, hq, h'⟩ := iv_pR h
    clear h; subst hq; have h := h'; clear h'
    obtain ⟨hsm, h⟩ := iv_sm h
    obtain ⟨r2, hcall, h⟩ := iv_bind h
    obtain ⟨M2, hM2, hok, hst, hni, hpar, hlink, hret⟩ := hlk
    obtain ⟨hjo, hcon⟩ := hcs _ _ _ _ _ hM2 hcall hok
    obtain ⟨hb, v, hv⟩ := bk_bak (rk := 0) hK h
    exact st_inv25 hv X hR hok hst (hni.mpr rfl) (hret rfl) hpar (Or.inl hlink) hcon (hcm _ _ _ _ hcall) hlen hsm (rm2 (le_bak (rk := 0) hKm h)) (dsp (by omega)) hb
  by_cases k5 : kd = 5
  · subst k5
    replace h : jm_pop a st [] _ = some r := h
    obtain ⟨as, rest, hlen, hq, h'⟩ := iv_pop _ _ _ h
    clear h; subst hq; have h := h'; clear h'
    rw [List.append_nil] at h
    obtain ⟨rr, st2, hq, h'⟩ := iv_pR h
    clear h; subst hq; have h := h'; clear h'
    obtain ⟨hsm, h⟩ := iv_sm h
    obtain ⟨r2, hcall, h⟩ := iv_bind h
    obtain ⟨M2, hM2, hok, hst, hni, hpar, hlink, hret⟩ := hlk
    obtain ⟨hjo, hcon⟩ := hcs _ _ _ _ _ hM2 hcall hok
    obtain ⟨hb, v, hv⟩ := bk_bak (rk := 0) hK h
    exact st_inv25 hv X hR hok hst (hni.mpr rfl) (hret rfl) hpar (Or.inr hlink) hcon (hcm _ _ _ _ hcall) hlen hsm (rm2 (le_bak (rk := 0) hKm h)) (dsp (by omega)) hb
  by_cases k4 : kd = 4
  · subst k4
    replace h : jm_pop a st [] _ = some r := h
    obtain ⟨as, rest, hlen, hq, h'⟩ := iv_pop _ _ _ h
    clear h; subst hq; have h := h'; clear h'
    rw [List.append_nil] at h
    obtain ⟨hsm, h⟩ := iv_sm h
    obtain ⟨r2, hcall, h⟩ := iv_bind h
    obtain ⟨M2, hM2, hok, hst, hni, hpar, hlink, -⟩ := hlk
    obtain ⟨hjo, hcon⟩ := hcs _ _ _ _ _ hM2 hcall hok
    obtain ⟨hb, v, hv⟩ := bk_bak hK h
    exact st_inv4 hv X hR hok hst hpar hlink hcon (hcm _ _ _ _ hcall) hlen hsm (rm2 (le_bak hKm h)) (dst (by omega)) hb
  by_cases k6 : kd = 6
  · subst k6
    replace h : jm_pop a st [] _ = some r := h
    obtain ⟨as, rest, hlen, hq, h'⟩ := iv_pop _ _ _ h
    clear h; subst hq; have h := h'; clear h'
    rw [List.append_nil] at h
    obtain ⟨rr, st2, hq, h'⟩ := iv_pR h
    clear h; subst hq; have h := h'; clear h'
    obtain ⟨hsm, h⟩ := iv_sm h
    obtain ⟨r2, hcall, h⟩ := iv_bind h
    obtain ⟨M2, hM2, hok, hst, hni, hpar, ⟨hlink, hsame, hsup, h18⟩, -⟩ := hlk
    obtain ⟨hjo, hcon⟩ := hcs _ _ _ _ _ hM2 hcall hok
    obtain ⟨hb, v, hv⟩ := bk_bak hK h
    exact st_inv6 hv X hR hok hst (fun q => by cases hni.mp q) h18 hpar hlink hsame hsup hcon (hcm _ _ _ _ hcall) (ok_isC hjo hst) hlen hsm (rm2 (le_bak hKm h)) (dsp (by omega)) hb
  by_cases k7 : kd = 7
  · subst k7
    replace h : jm_pop a st [] _ = some r := h
    obtain ⟨as, rest, hlen, hq, h'⟩ := iv_pop _ _ _ h
    clear h; subst hq; have h := h'; clear h'
    rw [List.append_nil] at h
    obtain ⟨rr, st2, hq, h'⟩ := iv_pR h
    clear h; subst hq; have h := h'; clear h'
    obtain ⟨hsm, h⟩ := iv_sm h
    obtain ⟨r2, hcall, h⟩ := iv_bind h
    obtain ⟨M2, hM2, hok, hst, hni, hpar, ⟨h15, y, hlink, hsame, hinst, hsel, h0, hy⟩, -⟩ := hlk
    obtain ⟨hjo, hcon⟩ := hcs _ _ _ _ _ hM2 hcall hok
    obtain ⟨hb, v, hv⟩ := bk_bak hK h
    have hisc := ok_isC hjo hst
    rw [h15] at hisc
    exact st_inv78 hv X hR hok (st_cu7 X hR hok hst hlink hsame hinst hsel h0 hy) hcon (hcm _ _ _ _ hcall) hisc hlen hsm (rm2 (le_bak hKm h)) (dv (by omega)) hb
  by_cases k8 : kd = 8
  · subst k8
    replace h : jm_pop a st [] _ = some r := h
    obtain ⟨as, rest, hlen, hq, h'⟩ := iv_pop _ _ _ h
    clear h; subst hq; have h := h'; clear h'
    rw [List.append_nil] at h
    obtain ⟨rr, st2, hq, h'⟩ := iv_pR h
    clear h; subst hq; have h := h'; clear h'
    obtain ⟨hsm, h⟩ := iv_sm h
    obtain ⟨r2, hcall, h⟩ := iv_bind h
    obtain ⟨M2, hM2, hok, hst, hni, hpar, ⟨h18, hlink, hsame, hsel⟩, -⟩ := hlk
    obtain ⟨hjo, hcon⟩ := hcs _ _ _ _ _ hM2 hcall hok
    obtain ⟨hb, v, hv⟩ := bk_bak hK h
    have hisc := ok_isC hjo hst
    rw [h18] at hisc
    exact st_inv78 hv X hR hok (st_cu8 X hR hok hst hlink hsame hsel hpar) hcon (hcm _ _ _ _ hcall) hisc hlen hsm (rm2 (le_bak hKm h)) (dv (by omega)) hb
  by_cases k10 : kd = 10
  · subst k10
    replace h : jm_pR st _ = some r := h
    obtain ⟨rr, st2, hq, h'⟩ := iv_pR h
    clear h; subst hq; have h := h'; clear h'
    obtain ⟨hsm, h⟩ := iv_sm h
    exact st_obj X hR hlk hsm (dsp (by omega)) (hK _ _ _ _ h)
  by_cases k11 : kd = 11
  · subst k11
    replace h : jm_pI st _ = some r := h
    obtain ⟨y, st2, hq, h'⟩ := iv_pI h
    clear h; subst hq; have h := h'; clear h'
    obtain ⟨z, st3, hq, h'⟩ := iv_pI h
    clear h; subst hq; have h := h'; clear h'
    obtain ⟨hsm, h⟩ := iv_sm h
    exact st_mmax X hR hlk hsm hrm1 (dst (by omega)) (hK _ _ _ _ h)
  by_cases k12 : kd = 12
  · subst k12
    replace h : jm_pI st _ = some r := h
    obtain ⟨y, st2, hq, h'⟩ := iv_pI h
    clear h; subst hq; have h := h'; clear h'
    obtain ⟨z, st3, hq, h'⟩ := iv_pI h
    clear h; subst hq; have h := h'; clear h'
    obtain ⟨hsm, h⟩ := iv_sm h
    exact st_mmin X hR hlk hsm hrm1 (dst (by omega)) (hK _ _ _ _ h)
  by_cases k13 : kd = 13
  · subst k13
    replace h : jm_pL st _ = some r := h
    obtain ⟨y, st2, hq, h'⟩ := iv_pL h
    clear h; subst hq; have h := h'; clear h'
    obtain ⟨hsm, h⟩ := iv_sm h
    exact st_mabs X hR hlk hsm hrm1 (dst (by omega)) (hK _ _ _ _ h)
  by_cases k14 : kd = 14
  · subst k14
    replace h : jm_pL st _ = some r := h
    obtain ⟨y, st2, hq, h'⟩ := iv_pL h
    clear h; subst hq; have h := h'; clear h'
    obtain ⟨z, st3, hq, h'⟩ := iv_pL h
    clear h; subst hq; have h := h'; clear h'
    obtain ⟨hsm, h⟩ := iv_sm h
    exact st_mminL X hR hlk hsm hrm1 (dst (by omega)) (hK _ _ _ _ h)
  by_cases k15 : kd = 15
  · subst k15
    replace h : jm_pI st _ = some r := h
    obtain ⟨n, st2, hq, h'⟩ := iv_pI h
    clear h; subst hq; have h := h'; clear h'
    obtain ⟨i1, st3, hq, h'⟩ := iv_pI h
    clear h; subst hq; have h := h'; clear h'
    obtain ⟨r1, st4, hq, h'⟩ := iv_pR h
    clear h; subst hq; have h := h'; clear h'
    obtain ⟨i0, st5, hq, h'⟩ := iv_pI h
    clear h; subst hq; have h := h'; clear h'
    obtain ⟨r0, st6, hq, h'⟩ := iv_pR h
    clear h; subst hq; have h := h'; clear h'
    obtain ⟨hsm, h⟩ := iv_sm h
    obtain ⟨m2, hc, h⟩ := iv_bind h
    exact st_copy X hR hlk hsm hc (dst (by omega)) (hK _ _ _ _ h)
  by_cases k16 : kd = 16
  · subst k16
    replace h : jm_pR st _ = some r := h
    obtain ⟨rr, st2, hq, h'⟩ := iv_pR h
    clear h; subst hq; have h := h'; clear h'
    obtain ⟨hsm, h⟩ := iv_sm h
    obtain ⟨⟨n, f⟩, hg, h⟩ := iv_bind h
    exact st_slen X hR hlk hsm hrm1 hg (dv (by omega)) (hK _ _ _ _ h)
  by_cases k17 : kd = 17
  · subst k17
    replace h : jm_pI st _ = some r := h
    obtain ⟨i, st2, hq, h'⟩ := iv_pI h
    clear h; subst hq; have h := h'; clear h'
    obtain ⟨rr, st3, hq, h'⟩ := iv_pR h
    clear h; subst hq; have h := h'; clear h'
    obtain ⟨hsm, h⟩ := iv_sm h
    obtain ⟨⟨n, f⟩, hg, h⟩ := iv_bind h
    obtain ⟨k, hk, h⟩ := iv_bind h
    exact st_char X hR hlk hsm hrm1 hg hk (dv (by omega)) (hK _ _ _ _ h)
  by_cases k18 : kd = 18
  · subst k18
    exact hlk.elim
  by_cases k19 : kd = 19
  · subst k19
    replace h : jm_pI st _ = some r := h
    obtain ⟨y, st2, hq, h'⟩ := iv_pI h
    clear h; subst hq; have h := h'; clear h'
    obtain ⟨z, st3, hq, h'⟩ := iv_pI h
    clear h; subst hq; have h := h'; clear h'
    obtain ⟨hsm, h⟩ := iv_sm h
    obtain ⟨hc, h⟩ := iv_ite2 h
    exact st_fmod X hR hlk hsm hrm1 hc (dst (by omega)) (hK _ _ _ _ h)
  by_cases k23 : kd = 23
  · subst k23
    replace h : jm_pI st _ = some r := h
    obtain ⟨n, st2, hq, h'⟩ := iv_pI h
    clear h; subst hq; have h := h'; clear h'
    obtain ⟨i, st3, hq, h'⟩ := iv_pI h
    clear h; subst hq; have h := h'; clear h'
    obtain ⟨hsm, h⟩ := iv_sm h
    obtain ⟨hc, h⟩ := iv_ite h
    exact st_chk X hR hlk hsm hrm1 hc (dst (by omega)) (hK _ _ _ _ h)
  by_cases k24 : kd = 24
  · subst k24
    replace h : jm_pR st _ = some r := h
    obtain ⟨rr, st2, hq, h'⟩ := iv_pR h
    clear h; subst hq; have h := h'; clear h'
    obtain ⟨hsm, h⟩ := iv_sm h
    obtain ⟨hc, h⟩ := iv_ite h
    exact st_intv X hR hlk hsm hrm1 hc (dv (by omega)) (hK _ _ _ _ h)
  by_cases k25 : kd = 25
  · subst k25
    replace h : jm_pI st _ = some r := h
    obtain ⟨i, st2, hq, h'⟩ := iv_pI h
    clear h; subst hq; have h := h'; clear h'
    obtain ⟨hsm, h⟩ := iv_sm h
    obtain ⟨hc, h⟩ := iv_ite h
    exact st_vof X hR hlk hsm hrm1 hc (dst (by omega)) (hK _ _ _ _ h)
  by_cases k26 : kd = 26
  · subst k26
    replace h : jm_pI st _ = some r := h
    obtain ⟨c2, st2, hq, h'⟩ := iv_pI h
    clear h; subst hq; have h := h'; clear h'
    obtain ⟨b, st3, hq, h'⟩ := iv_pI h
    clear h; subst hq; have h := h'; clear h'
    obtain ⟨ds, st4, hq, h'⟩ := iv_pR h
    clear h; subst hq; have h := h'; clear h'
    obtain ⟨rr, st5, hq, h'⟩ := iv_pR h
    clear h; subst hq; have h := h'; clear h'
    obtain ⟨hsm, h⟩ := iv_sm h
    obtain ⟨m2, hc, h⟩ := iv_bind h
    exact st_gtb X hR hlk hsm hrm1 hc (dv (by omega)) (hK _ _ _ _ h)
  by_cases k27 : kd = 27
  · subst k27
    replace h : jm_pI st _ = some r := h
    obtain ⟨k, st2, hq, h'⟩ := iv_pI h
    clear h; subst hq; have h := h'; clear h'
    obtain ⟨rr, st3, hq, h'⟩ := iv_pR h
    clear h; subst hq; have h := h'; clear h'
    obtain ⟨hsm, h⟩ := iv_sm h
    obtain ⟨n, f, he, g1, g2, g3, g4, g5, h⟩ := cO_spec h
    obtain ⟨w1, w2⟩ := mk_le (fun m2 r' q => hKm _ _ _ _ _ q) h
    exact st_cpo X hR hlk hsm he g1 g2 g3 g4 g5 (Nat.le_trans w1 hrm.1) (Nat.le_trans w2 hrm.2) (dst (by omega)) (hK _ _ _ _ h)
  by_cases k28 : kd = 28
  · subst k28
    replace h : jm_pI st _ = some r := h
    obtain ⟨n, st2, hq, h'⟩ := iv_pI h
    clear h; subst hq; have h := h'; clear h'
    obtain ⟨i, st3, hq, h'⟩ := iv_pI h
    clear h; subst hq; have h := h'; clear h'
    obtain ⟨hsm, h⟩ := iv_sm h
    obtain ⟨hc, h⟩ := iv_ite h
    exact st_ochk X hR hlk hsm hrm1 hc (dst (by omega)) (hK _ _ _ _ h)
  by_cases k29 : kd = 29
  · subst k29
    replace h : jm_pR st _ = some r := h
    obtain ⟨rr, st2, hq, h'⟩ := iv_pR h
    clear h; subst hq; have h := h'; clear h'
    obtain ⟨hsm, h⟩ := iv_sm h
    obtain ⟨⟨n, f⟩, hg, h⟩ := iv_bind h
    exact st_coder X hR hlk hsm hrm1 hg (dv (by omega)) (hK _ _ _ _ h)
  by_cases k30 : kd = 30
  · subst k30
    replace h : jm_pR st _ = some r := h
    obtain ⟨rr, st2, hq, h'⟩ := iv_pR h
    clear h; subst hq; have h := h'; clear h'
    obtain ⟨hsm, h⟩ := iv_sm h
    obtain ⟨n, f, he, g1, g2, h⟩ := cl_spec h
    obtain ⟨w1, w2⟩ := mk_le (fun m2 r' q => hKm _ _ _ _ _ q) h
    exact st_clone X hR hlk hsm he g1 g2 (Nat.le_trans w1 hrm.1) (Nat.le_trans w2 hrm.2) (dv (by omega)) (hK _ _ _ _ h)
  · exfalso
    have hkd : kd ∈ [0, 1, 2, 3, 4, 5, 6, 7, 8, 10, 11, 12, 13, 14, 15, 16, 17, 19, 23, 24, 25, 26, 27, 28, 29, 30] := hkd
    clear h hlk
    simp only [List.mem_cons, List.not_mem_nil, or_false] at hkd
    omega
end SIM
