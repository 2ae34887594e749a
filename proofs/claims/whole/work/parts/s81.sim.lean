/-! .. whatever the instruction. -/
section SIM
variable {p : Program} {l : Launch} {e : Env} {R : Room} {s : State} {m : MethodId} {args : Array Value} {below : List Frame} {meth : Method} {c : Code} {D : va_G} {tys : List (ClassId × FieldType)} {A : Nat → Prop} {S : jm_Sp} {c0 s0 : Nat} {ρ0 : Nat → Nat} {N0 : Nat} {M : jm_Meth} {Q : State → Prop} {pc : Nat} {lc : jm_Loc} {st : List Value} {m1 : jm_Mem} {d : Nat} {r : jm_Res} {K : jm_K} {call : jm_Call}
/-- a contract for each call that comes to something -/
def jm_Cs (l : Launch) (D : va_G) (tys : List (ClassId × FieldType)) (A : Nat → Prop) (S : jm_Sp) (d : Nat) (call : jm_Call) : Prop :=
  ∀ (k : Nat) (M2 : jm_Meth) (as : List Value) (m2 : jm_Mem) (r2 : jm_Res), jm_M k = some M2 → call k as m2 = some r2 → jm_mok M2 → jm_ok M2 as m2 = true ∧ jm_Con l D tys A S d M2 as m2 r2
theorem bk_back {rk : Nat} {r2 : jm_Res} (X : jm_Fx p s m args meth c D tys A S M) (hcl : jm_hcl (jm_mH M)) (hK : ∀ pc lc st m2, K pc lc st m2 = some r → jm_At p l e R s m args below meth c D tys A S c0 s0 ρ0 N0 M Q pc lc st m2)
    (h3 : ∀ E pc lc m2, jm_mH M = [] → r = (.inr E, m2) → jm_Th p l e R s m args below meth c D tys A S c0 s0 ρ0 N0 M Q E pc lc m2) (h : jm_back rk M pc lc st K r2 = some r) : jm_Bk p l e R s m args below meth c D tys A S c0 s0 ρ0 N0 M Q pc lc st r2 := by
  obtain ⟨o, m2⟩ := r2
  rcases o with (_ | v) | E
  · rcases rk with _ | _ | _ | _ | rk <;> first | exact hK _ _ _ _ h | cases h
  · rcases rk with _ | _ | _ | _ | rk <;> cases v <;> first | exact hK _ _ _ _ h | cases h
  · rcases rk with _ | _ | _ | _ | rk <;> first | exact st_thr X hcl hK h3 h | cases h
theorem bk_bak {rk : Nat} {r2 : jm_Res} (hK : ∀ pc lc st m2, K pc lc st m2 = some r → jm_At p l e R s m args below meth c D tys A S c0 s0 ρ0 N0 M Q pc lc st m2) (h : jm_bak rk pc lc st K r2 = some r) : jm_Bk p l e R s m args below meth c D tys A S c0 s0 ρ0 N0 M Q pc lc st r2 ∧ ∃ v, r2.1 = .inl v := by
  obtain ⟨o, m2⟩ := r2
  rcases o with (_ | v) | E
  · refine ⟨?_, _, rfl⟩
    rcases rk with _ | _ | _ | _ | rk <;> first | exact hK _ _ _ _ h | cases h
  · refine ⟨?_, _, rfl⟩
    rcases rk with _ | _ | _ | _ | rk <;> cases v <;> first | exact hK _ _ _ _ h | cases h
  · rcases rk with _ | _ | _ | _ | rk <;> cases h
theorem le_back {rk : Nat} {r2 : jm_Res} (hKm : ∀ pc lc st m2 r', K pc lc st m2 = some r' → jm_le m2 r'.2) (h : jm_back rk M pc lc st K r2 = some r) : jm_le r2.2 r.2 := mo_back (m := r2.2) (jm_le.rf _) K hKm r h
theorem le_bak {rk : Nat} {r2 : jm_Res} (hKm : ∀ pc lc st m2 r', K pc lc st m2 = some r' → jm_le m2 r'.2) (h : jm_bak rk pc lc st K r2 = some r) : jm_le r2.2 r.2 := mo_bak (m := r2.2) (jm_le.rf _) K hKm r h
theorem ok_isC {M2 : jm_Meth} {rr : Nat} {as : List Value} (h : jm_ok M2 (.ref rr :: as) m1 = true) (hs : jm_mS M2 = false) : jm_isC m1 rr (jm_mO M2) = true := by
  unfold jm_ok at h
  rw [hs] at h
  exact h
theorem sim_inv {e4 : Nat × Nat × Nat × Nat} {x : Nat} (X : jm_Fx p s m args meth c D tys A S M) (hR : jm_Rk d R) (hcl : jm_hcl (jm_mH M)) (hcs : jm_Cs l D tys A S d call) (hcm : jm_cM call) (hK : ∀ pc lc st m2, K pc lc st m2 = some r → jm_At p l e R s m args below meth c D tys A S c0 s0 ρ0 N0 M Q pc lc st m2) (hKm : ∀ pc lc st m2 r', K pc lc st m2 = some r' → jm_le m2 r'.2)
    (h3 : ∀ E pc lc m2, jm_mH M = [] → r = (.inr E, m2) → jm_Th p l e R s m args below meth c D tys A S c0 s0 ρ0 N0 M Q E pc lc m2) (hrm : r.2.2.2.1 ≤ c0 + R.cells ∧ r.2.2.2.2 ≤ s0 + R.slots) (hlk : jm_lok (jm_mO M) (x, e4))
    (hdg : (e4.2.2.1 = 0 ∨ e4.2.2.1 = 16 ∨ e4.2.2.1 = 17 → decode (jm_mC M) pc = .ok (.invokevirtual x, 3)) ∧ (e4.2.2.1 = 2 ∨ e4.2.2.1 = 5 ∨ e4.2.2.1 = 10 → decode (jm_mC M) pc = .ok (.invokespecial x, 3)) ∧ (e4.2.2.1 = 1 ∨ e4.2.2.1 = 4 ∨ (11 ≤ e4.2.2.1 ∧ e4.2.2.1 ≤ 15) ∨ e4.2.2.1 = 18 ∨ e4.2.2.1 = 19 → decode (jm_mC M) pc = .ok (.invokestatic x, 3)))
    (h : jm_inv call M pc lc st m1 K e4 = some r) : jm_At p l e R s m args below meth c D tys A S c0 s0 ρ0 N0 M Q pc lc st m1 := by
  obtain ⟨t, a, kd, rk⟩ := e4
  obtain ⟨dv, dsp, dst⟩ := hdg
  dsimp only at dv dsp dst
  have hle : jm_le m1 r.2 := mo_inv hcm K hKm r h
  have hrm1 : m1.2.2.1 ≤ c0 + R.cells ∧ m1.2.2.2 ≤ s0 + R.slots := ⟨Nat.le_trans hle.2.1 hrm.1, Nat.le_trans hle.2.2 hrm.2⟩
  have rm2 : ∀ {r2 : jm_Res}, jm_le r2.2 r.2 → r2.2.2.2.1 ≤ c0 + R.cells ∧ r2.2.2.2.2 ≤ s0 + R.slots := fun z => ⟨Nat.le_trans z.2.1 hrm.1, Nat.le_trans z.2.2 hrm.2⟩
  unfold jm_inv at h
  unfold jm_lok at hlk
  dsimp only at h hlk
  by_cases k0 : kd = 0
  · subst k0
    replace h : jm_pop a st [] _ = some r := h
    obtain ⟨as, rest, hlen, hq, h'⟩ := iv_pop _ _ _ h
    clear h; subst hq; have h := h'; clear h'
    rw [List.append_nil] at h
    obtain ⟨rr, st2, hq, h'⟩ := iv_pR h
    clear h; subst hq; have h := h'; clear h'
    obtain ⟨hsm, h⟩ := iv_sm h
    obtain ⟨r2, hcall, h⟩ := iv_bind h
    obtain ⟨M2, hM2, hok, hst, hni, hpar, hlink, hH⟩ := hlk
    obtain ⟨hjo, hcon⟩ := hcs _ _ _ _ _ hM2 hcall hok
    exact st_inv0 X hR hok hst (fun q => by cases hni.mp q) hpar hlink (hH.1 rfl) hcon (hcm _ _ _ _ hcall) (ok_isC hjo hst) hlen hsm (rm2 (le_back hKm h)) jb_law (dv (Or.inl rfl)) (bk_back X hcl hK h3 h)
  by_cases k1 : kd = 1
  · subst k1
    replace h : jm_pop a st [] _ = some r := h
    obtain ⟨as, rest, hlen, hq, h'⟩ := iv_pop _ _ _ h
    clear h; subst hq; have h := h'; clear h'
    rw [List.append_nil] at h
    obtain ⟨hsm, h⟩ := iv_sm h
    obtain ⟨r2, hcall, h⟩ := iv_bind h
    obtain ⟨M2, hM2, hok, hst, hni, hpar, hlink, hH⟩ := hlk
    obtain ⟨hjo, hcon⟩ := hcs _ _ _ _ _ hM2 hcall hok
    exact st_inv1 X hR hok hst hpar hlink hcon (hcm _ _ _ _ hcall) hlen hsm (rm2 (le_back hKm h)) jb_law (dst (Or.inl rfl)) (bk_back X hcl hK h3 h)
  by_cases k2 : kd = 2
  · subst k2
    replace h : jm_pop a st [] _ = some r := h
    obtain ⟨as, rest, hlen, hq, h'⟩ := iv_pop _ _ _ h
    clear h; subst hq; have h := h'; clear h'
    rw [List.append_nil] at h
    obtain ⟨rr, st2, hq, h'⟩ := iv_pR h
    clear h; subst hq; have h := h'; clear h'
    obtain ⟨hsm, h⟩ := iv_sm h
    obtain ⟨r2, hcall, h⟩ := iv_bind h
    obtain ⟨M2, hM2, hok, hst, hni, hpar, hlink, hH⟩ := hlk
    obtain ⟨hjo, hcon⟩ := hcs _ _ _ _ _ hM2 hcall hok
    obtain ⟨hb, v, hv⟩ := bk_bak (rk := 0) hK h
    exact st_inv25 hv X hR hok hst (hni.mpr rfl) (hH.2 rfl) hpar (Or.inl hlink) (hH.1 rfl) hcon (hcm _ _ _ _ hcall) hlen hsm (rm2 (le_bak (rk := 0) hKm h)) jb_law (dsp (Or.inl rfl)) hb
  by_cases k4 : kd = 4
  · subst k4
    replace h : jm_pop a st [] _ = some r := h
    obtain ⟨as, rest, hlen, hq, h'⟩ := iv_pop _ _ _ h
    clear h; subst hq; have h := h'; clear h'
    rw [List.append_nil] at h
    obtain ⟨hsm, h⟩ := iv_sm h
    obtain ⟨r2, hcall, h⟩ := iv_bind h
    obtain ⟨M2, hM2, hok, hst, hni, hpar, hlink, hH⟩ := hlk
    obtain ⟨hjo, hcon⟩ := hcs _ _ _ _ _ hM2 hcall hok
    obtain ⟨hb, v, hv⟩ := bk_bak hK h
    exact st_inv4 hv X hR hok hst hpar hlink (hH.1 rfl) hcon (hcm _ _ _ _ hcall) hlen hsm (rm2 (le_bak hKm h)) jb_law (dst (Or.inr (Or.inl rfl))) hb
  by_cases k5 : kd = 5
  · subst k5
    replace h : jm_pop a st [] _ = some r := h
    obtain ⟨as, rest, hlen, hq, h'⟩ := iv_pop _ _ _ h
    clear h; subst hq; have h := h'; clear h'
    rw [List.append_nil] at h
    obtain ⟨rr, st2, hq, h'⟩ := iv_pR h
    clear h; subst hq; have h := h'; clear h'
    obtain ⟨hsm, h⟩ := iv_sm h
    obtain ⟨r2, hcall, h⟩ := iv_bind h
    obtain ⟨M2, hM2, hok, hst, hni, hpar, hlink, hH⟩ := hlk
    obtain ⟨hjo, hcon⟩ := hcs _ _ _ _ _ hM2 hcall hok
    obtain ⟨hb, v, hv⟩ := bk_bak (rk := 0) hK h
    exact st_inv25 hv X hR hok hst (hni.mpr rfl) (hH.2 rfl) hpar (Or.inr hlink) (hH.1 rfl) hcon (hcm _ _ _ _ hcall) hlen hsm (rm2 (le_bak (rk := 0) hKm h)) jb_law (dsp (Or.inr (Or.inl rfl))) hb
  by_cases k10 : kd = 10
  · subst k10
    replace h : jm_pR st _ = some r := h
    obtain ⟨rr, st2, hq, h'⟩ := iv_pR h
    clear h; subst hq; have h := h'; clear h'
    obtain ⟨hsm, h⟩ := iv_sm h
    exact st_obj X hR hlk hsm (dsp (Or.inr (Or.inr rfl))) (hK _ _ _ _ h)
  by_cases k11 : kd = 11
  · subst k11
    replace h : jm_pI st _ = some r := h
    obtain ⟨y, st2, hq, h'⟩ := iv_pI h
    clear h; subst hq; have h := h'; clear h'
    obtain ⟨z, st3, hq, h'⟩ := iv_pI h
    clear h; subst hq; have h := h'; clear h'
    obtain ⟨hsm, h⟩ := iv_sm h
    exact st_mmax X hR hlk hsm hrm1 (dst (by omega)) (hK _ _ _ _ h)
  by_cases k12 : kd = 12
  · subst k12
    replace h : jm_pI st _ = some r := h
    obtain ⟨y, st2, hq, h'⟩ := iv_pI h
    clear h; subst hq; have h := h'; clear h'
    obtain ⟨z, st3, hq, h'⟩ := iv_pI h
    clear h; subst hq; have h := h'; clear h'
    obtain ⟨hsm, h⟩ := iv_sm h
    exact st_mmin X hR hlk hsm hrm1 (dst (by omega)) (hK _ _ _ _ h)
  by_cases k13 : kd = 13
  · subst k13
    replace h : jm_pL st _ = some r := h
    obtain ⟨y, st2, hq, h'⟩ := iv_pL h
    clear h; subst hq; have h := h'; clear h'
    obtain ⟨hsm, h⟩ := iv_sm h
    exact st_mabs X hR hlk hsm hrm1 (dst (by omega)) (hK _ _ _ _ h)
  by_cases k14 : kd = 14
  · subst k14
    replace h : jm_pL st _ = some r := h
    obtain ⟨y, st2, hq, h'⟩ := iv_pL h
    clear h; subst hq; have h := h'; clear h'
    obtain ⟨z, st3, hq, h'⟩ := iv_pL h
    clear h; subst hq; have h := h'; clear h'
    obtain ⟨hsm, h⟩ := iv_sm h
    exact st_mminL X hR hlk hsm hrm1 (dst (by omega)) (hK _ _ _ _ h)
  by_cases k15 : kd = 15
  · subst k15
    replace h : jm_pI st _ = some r := h
    obtain ⟨n, st2, hq, h'⟩ := iv_pI h
    clear h; subst hq; have h := h'; clear h'
    obtain ⟨i1, st3, hq, h'⟩ := iv_pI h
    clear h; subst hq; have h := h'; clear h'
    obtain ⟨r1, st4, hq, h'⟩ := iv_pR h
    clear h; subst hq; have h := h'; clear h'
    obtain ⟨i0, st5, hq, h'⟩ := iv_pI h
    clear h; subst hq; have h := h'; clear h'
    obtain ⟨r0, st6, hq, h'⟩ := iv_pR h
    clear h; subst hq; have h := h'; clear h'
    obtain ⟨hsm, h⟩ := iv_sm h
    obtain ⟨m2, hc, h⟩ := iv_bind h
    exact st_copy X hR hlk hsm hc (dst (by omega)) (hK _ _ _ _ h)
  by_cases k16 : kd = 16
  · subst k16
    replace h : jm_pR st _ = some r := h
    obtain ⟨rr, st2, hq, h'⟩ := iv_pR h
    clear h; subst hq; have h := h'; clear h'
    obtain ⟨hsm, h⟩ := iv_sm h
    obtain ⟨⟨n, f⟩, hg, h⟩ := iv_bind h
    exact st_slen X hR hlk hsm hrm1 hg (dv (by omega)) (hK _ _ _ _ h)
  by_cases k17 : kd = 17
  · subst k17
    replace h : jm_pI st _ = some r := h
    obtain ⟨i, st2, hq, h'⟩ := iv_pI h
    clear h; subst hq; have h := h'; clear h'
    obtain ⟨rr, st3, hq, h'⟩ := iv_pR h
    clear h; subst hq; have h := h'; clear h'
    obtain ⟨hsm, h⟩ := iv_sm h
    obtain ⟨⟨n, f⟩, hg, h⟩ := iv_bind h
    obtain ⟨k, hk, h⟩ := iv_bind h
    exact st_char X hR hlk hsm hrm1 hg hk (dv (by omega)) (hK _ _ _ _ h)
  by_cases k18 : kd = 18
  · subst k18
    replace h : jm_pF st _ = some r := h
    obtain ⟨y, st2, hq, h'⟩ := iv_pF h
    clear h; subst hq; have h := h'; clear h'
    obtain ⟨hsm, h⟩ := iv_sm h
    obtain ⟨hc, h⟩ := iv_ite h
    exact st_fib X hR hlk hsm hrm1 hc (dst (by omega)) (hK _ _ _ _ h)
  by_cases k19 : kd = 19
  · subst k19
    replace h : jm_pI st _ = some r := h
    obtain ⟨y, st2, hq, h'⟩ := iv_pI h
    clear h; subst hq; have h := h'; clear h'
    obtain ⟨z, st3, hq, h'⟩ := iv_pI h
    clear h; subst hq; have h := h'; clear h'
    obtain ⟨hsm, h⟩ := iv_sm h
    obtain ⟨hc, h⟩ := iv_ite2 h
    exact st_fmod X hR hlk hsm hrm1 hc (dst (by omega)) (hK _ _ _ _ h)
  · exfalso
    split at h <;> first | omega | cases h
end SIM
