-- uses 24.zar 25.obj 26.ops 30.rd 32.rf 34.gen 58.clf 89.rsa e0.law e2.lay e3.uxa e4.uxb
/-! The law's own row 429, behind a call of the reference. -/
def plA (a : Nat) (s : pl_S) : Bool := match s with
  | .inl (_, _, rs) => !rs.contains a
  | .inr (_, fl) => fl.all fun e => !(decide (e.1 = 3 ∧ e.2 = a))
theorem plA_L : pl_shL.all (fun s => plA 429 s && plA 430 s) = true := by decide +kernel
theorem plA_sh {n a : Nat} (ha : a = 429 ∨ a = 430) : plA a (pl_sh n) = true := by
  unfold pl_sh
  split
  · rw [List.getD_eq_getElem?_getD]
    cases h : pl_shL[n]? with
    | none => rcases ha with rfl | rfl <;> rfl
    | some s =>
      have h1 := List.all_eq_true.mp plA_L s (List.mem_of_getElem? h)
      simp only [Bool.and_eq_true] at h1
      rcases ha with rfl | rfl
      · exact h1.1
      · exact h1.2
  · rcases ha with rfl | rfl <;> rfl
theorem plA_v {a kd x : Nat} {z : Int} (h : ¬ (kd = 3 ∧ x = a)) : pl_v kd x z ≠ .ref a := by
  unfold pl_v
  split
  · intro q; cases q; exact h ⟨by assumption, rfl⟩
  · split <;> exact fun q => by cases q
theorem plA_fl {a : Nat} : ∀ {fl : List (Nat × Nat)} {k : Nat} {f : Int → Int}, (fl.all fun e => !(decide (e.1 = 3 ∧ e.2 = a))) = true → uxS a (pl_fl k fl f)
  | [], _, _, _ => fun x hx => by cases hx
  | e :: r, k, f, h => by
    rw [List.all_cons, Bool.and_eq_true] at h
    refine uxS_c (plA_v fun q => ?_) (plA_fl h.2)
    have h1 := h.1
    rw [decide_eq_true q] at h1
    exact absurd h1 (by decide)
theorem plA_e {a : Nat} {s : pl_S} {f : Int → Int} (h : plA a s = true) : uxE a (pl_e s f) := by
  unfold pl_e
  rcases s with ⟨t, n, rs⟩ | ⟨c, fl⟩
  · dsimp only
    split
    · trivial
    · split
      · trivial
      · split
        · intro k q
          have h1 : (!rs.contains a) = true := h
          have h2 : a ∈ rs := List.mem_of_getElem? q
          have h3 : rs.contains a = true := List.contains_iff_mem.mpr h2
          rw [h3] at h1
          exact absurd h1 (by decide)
        · trivial
  · exact plA_fl h
section FRQ
variable {X : Nat × (Nat → Int32)} {v w v2 w2 : Nat → Int → Int} {T T2 c s c2 s2 : Nat} {n : Int}
theorem uxM_q {a : Nat} (ha : a = 429 ∨ a = 430) (hT : 20 ≤ T) : uxM a ((qM X v w T c s).2.1 a) (qM X v w T c s) := by
  refine ⟨?_, rfl, fun n => ?_⟩
  · show a < 411 + T
    omega
  · show uxE a (pl_H X v w (411 + T) n)
    unfold pl_H
    split
    · exact plA_e (plA_sh ha)
    · unfold pl_sp
      split
      · trivial
      · split
        · trivial
        · exact uxS_0
theorem uq_e {a d k : Nat} {as : List Value} {o : Option Value ⊕ String} (ha : a = 429 ∨ a = 430) (hT : 20 ≤ T) (h1 : uxS a as) (h : jm_env d k as (qM X v w T c s) = some (o, qM X v2 w2 T2 c2 s2)) : (qM X v2 w2 T2 c2 s2).2.1 a = (qM X v w T c s).2.1 a := (ux_env (by unfold jm_str; omega) d k as (qM X v w T c s) _ h1 (uxM_q ha hT) h).1.2.1
theorem h_429 : pl_sh 429 = .inl (2, 1, []) := rfl
theorem h_430 : pl_sh 430 = .inl (3, 1, []) := rfl
theorem t_429 : ∀ j, pl_scr 429 j = true := fun j => (sc_n (by decide) (by decide) (by decide)).trans (by decide +kernel)
theorem t_430 : ∀ j, pl_scr 430 j = true := fun j => (sc_n (by decide) (by decide) (by decide)).trans (by decide +kernel)
theorem a_429 (hT : 20 ≤ T) : jm_aL (qM X v w T c s) 429 (i3 0) = some (i6 (w 429 0)) := (a_L (by omega) h_429 (by decide) (by decide) (by decide)).trans (by rw [qq_w (t_429 0)])
theorem a_430 (hT : 20 ≤ T) : jm_aD (qM X v w T c s) 430 (i3 0) = some (d6 (w 430 0)) := (a_D (by omega) h_430 (by decide) (by decide) (by decide)).trans (by rw [qq_w (t_430 0)])
theorem w_429 {y : Int} (hT : 20 ≤ T) : jm_wL (qM X v w T c s) 429 (i3 0) (i6 y) = some (qM X v (up w 429 0 y) T c s) := w_l (by omega) h_429 (by decide) t_429 (by decide) (by decide)
theorem w_430 {y : Int} (hT : 20 ≤ T) : jm_wD (qM X v w T c s) 430 (i3 0) (d6 y) = some (qM X v (up w 430 0 y) T c s) := w_d (by omega) h_430 (by decide) t_430 (by decide) (by decide)
theorem fr_429 {d k : Nat} {as : List Value} {o : Option Value ⊕ String} (hT : 20 ≤ T) (h1 : uxS 429 as) (h : jm_env d k as (qM X v w T c s) = some (o, qM X v2 w2 T2 c2 s2)) : jm_aL (qM X v2 w2 T2 c2 s2) 429 (i3 0) = some (i6 (w 429 0)) := by
  rw [← a_429 (X := X) (v := v) (c := c) (s := s) hT]
  unfold jm_aL
  rw [uq_e (Or.inl rfl) hT h1 h]
theorem fr_430 {d k : Nat} {as : List Value} {o : Option Value ⊕ String} (hT : 20 ≤ T) (h1 : uxS 430 as) (h : jm_env d k as (qM X v w T c s) = some (o, qM X v2 w2 T2 c2 s2)) : jm_aD (qM X v2 w2 T2 c2 s2) 430 (i3 0) = some (d6 (w 430 0)) := by
  rw [← a_430 (X := X) (v := v) (c := c) (s := s) hT]
  unfold jm_aD
  rw [uq_e (Or.inr rfl) hT h1 h]
theorem tl_e {x : Int32} : x.toInt64 = i6 x.toInt := by
  rw [← Int64.toInt_inj, Int32.toInt_toInt64, i6_toInt (by have := x.le_toInt; omega) (by have := x.toInt_lt; omega)]
theorem td_e {x : UInt64} : x = d6 (x.toNat : Int) := by
  show x = UInt64.ofNat (x.toNat : Int).toNat
  rw [Int.toNat_natCast, UInt64.ofNat_toNat]
theorem thr_e (hT : 20 ≤ T) {d : Nat} : jm_env (d + 1) 205 [.ref 411] (qM X v w T c s) = some (.inl (some (.int (i3 (w 411 8)))), qM X v w T c s) := by
  rw [eX12_thrown d (by omega), bX12_thrown_0, g12_8 (by omega)]
  rfl
/-- a wrapper of the law: its code; the answer in row 429; and the reference behind it -/
def lWp (g1 f2 : jm_Mem → Option jm_Res) (X : Nat × (Nat → Int32)) (v : Nat → Int → Int) (T : Nat) (n : Int) : Prop :=
  ∀ (w : Nat → Int → Int) (c s : Nat), ∃ (cd z : Int) (v1 w1 : Nat → Int → Int) (c1 s1 : Nat), g1 (qM X v w T c s) = some (.inl (some (.int (i3 cd))), qM X v1 w1 T c1 s1) ∧ (cd = 0 ∨ cd = 1 ∨ cd = 2) ∧ c1 ≤ c + 1 ∧ s1 ≤ s + 6 ∧ (cd = 0 → w1 429 0 = (i3 z).toInt) ∧
    ∀ (w' : Nat → Int → Int) (c' s' : Nat), ∃ (b : Int) (v2 w2 : Nat → Int → Int), f2 (qM X v1 w' T c' s') = some (.inl (some (.int (i3 b))), qM X v2 w2 T c' s') ∧ w2 411 8 = cd ∧ (cd = 0 → b = z) ∧ RS v2 n
theorem lWp_mk {g1 f1 f2 : jm_Mem → Option jm_Res} {E1 E2 : String} (hT : 20 ≤ T) (h : sIp f1 f2 E1 E2 X v T n)
    (ha : ∀ m m2 z, f1 m = some (.inl (some (.int (i3 z))), m2) → g1 m = (jm_wL m2 429 (i3 0) (Int32.toInt64 (i3 z))).bind fun m1 => some (.inl (some (.int (i3 0))), m1))
    (hb : ∀ m m2, f1 m = some (.inr E1, m2) → g1 m = some (.inl (some (.int (i3 1))), m2))
    (hc : E1 ≠ E2 → ∀ m m2, f1 m = some (.inr E2, m2) → g1 m = some (.inl (some (.int (i3 2))), m2)) : lWp g1 f2 X v T n := by
  intro w c s
  obtain ⟨cd, z, v1, w1, h1, h2⟩ := h w c s
  rcases h1 with ⟨rfl, e⟩ | ⟨rfl, e⟩ | ⟨rfl, h12, e⟩
  · refine ⟨0, z, v1, up w1 429 0 (i3 z).toInt, c, s, ?_, Or.inl rfl, by omega, by omega, fun _ => up_eq, h2⟩
    rw [ha _ _ _ e, tl_e, w_429 hT]
    rfl
  · exact ⟨1, z, v1, w1, _, _, hb _ _ e, Or.inr (Or.inl rfl), Nat.le_refl _, Nat.le_refl _, fun q => absurd q (by decide), h2⟩
  · exact ⟨2, z, v1, w1, _, _, hc h12 _ _ e, Or.inr (Or.inr rfl), Nat.le_refl _, Nat.le_refl _, fun q => absurd q (by decide), h2⟩
end FRQ
