-- uses 24.zar 25.obj 26.ops 34.gen 43.mo5 58.clf 65.cll 66.clm d8.frm d9.frn c0.foa e0.lwa e1.lwb e2.lwc e3.lwd e4.lwe e8.lwi e9.lwj
/-! The class in the law's memory. -/
def shB (s : pl_S) : Bool := match s with
  | .inl (_, _, rs) => rs.all (fun x => decide (x < 411))
  | .inr (_, fl) => fl.all (fun e => e.1 != 3 || decide (e.2 < 411))
theorem sh_411 : ((List.range 411).all fun n => shB (pl_sh n)) = true := by decide +kernel
theorem fl_S : ∀ (fl : List (Nat × Nat)) (k : Nat) (f : Int → Int), fl.all (fun e => e.1 != 3 || decide (e.2 < 411)) = true → fS (pl_fl k fl f) := by
  intro fl
  induction fl with
  | nil => intro k f _; exact fS_0
  | cons e r ih =>
    intro k f h
    rw [List.all_cons, Bool.and_eq_true] at h
    show fS (pl_v e.1 e.2 (f k) :: pl_fl (k + 1) r f)
    refine fS_c (fun y hy => ?_) (ih _ _ h.2)
    unfold pl_v at hy
    split at hy
    · next g =>
      cases hy
      have := h.1
      rw [g] at this
      exact Or.inl (of_decide_eq_true (by simpa using this))
    · split at hy <;> cases hy
theorem fE_sh {s : pl_S} {f : Int → Int} (h : shB s = true) : fE (pl_e s f) := by
  rcases s with ⟨t, n, rs⟩ | ⟨c, fl⟩
  · unfold pl_e
    dsimp only
    split
    · trivial
    · split
      · trivial
      · split
        · intro k x hx
          exact Or.inl (of_decide_eq_true (List.all_eq_true.mp h x (List.mem_of_getElem? hx)))
        · trivial
  · exact fl_S fl 0 f h
theorem fE_sp {X : Nat × (Nat → Int32)} {n : Nat} : fE (pl_sp X n) := by
  unfold pl_sp
  split
  · trivial
  · split
    · trivial
    · split
      · intro k x hx; cases hx
      · split
        · trivial
        · split
          · trivial
          · exact fS_0
theorem fI_q {X : Nat × (Nat → Int32)} {v w : Nat → Int → Int} {c s : Nat} : fI (qM X v w 0 c s) := by
  refine ⟨rfl, fun n hn => ?_⟩
  show fE (if n < 411 + 0 then pl_e (pl_sh n) (pl_q v w n) else pl_sp X n)
  split
  · next g => exact fE_sh (List.all_eq_true.mp sh_411 n (List.mem_range.mpr g))
  · exact fE_sp
/-- the class's cells lie in m -/
def CR (m : jm_Mem) (X : Nat × (Nat → Int32)) (v w : Nat → Int → Int) : Prop := ∀ n, fP n → m.2.1 n = (qM X v w 0 0 0).2.1 n
/-- what is not the class's is untouched -/
def frC (m m' : jm_Mem) : Prop := m'.1 = m.1 ∧ m'.2.2 = m.2.2 ∧ ∀ n, ¬ fP n → m'.2.1 n = m.2.1 n
section LWK
variable {m m' : jm_Mem} {X : Nat × (Nat → Int32)} {v w v' w' : Nat → Int → Int}
theorem fM_id (h : CR m X v w) : fM m (qM X v w 0 0 0) = m := by
  show (m.1, (fun n => if n < 411 ∨ jm_str ≤ n then (qM X v w 0 0 0).2.1 n else m.2.1 n), m.2.2.1 + 0, m.2.2.2 + 0) = m
  have : (fun n => if n < 411 ∨ jm_str ≤ n then (qM X v w 0 0 0).2.1 n else m.2.1 n) = m.2.1 := by
    funext n
    split
    · next g => exact (h n g).symm
    · rfl
  rw [this]
  rfl
theorem cr_call {d k : Nat} {as : List Value} {o : Option Value ⊕ String} (h : CR m X v w) (ha : fS as) (e : jm_env d k as (qM X v w 0 0 0) = some (o, qM X v' w' 0 0 0)) : ∃ m', jm_env d k as m = some (o, m') ∧ CR m' X v' w' ∧ frC m m' := by
  obtain ⟨e1, -⟩ := zo_env (B := m) d k as _ _ ha fI_q e rfl
  rw [fM_id h] at e1
  exact ⟨_, e1, fun n hn => if_pos hn, rfl, rfl, fun n hn => if_neg hn⟩
theorem fS_1 {x : Value} (hx : ∀ y, x = .ref y → fP y) : fS [x] := fS_c hx fS_0
theorem cr_R {d k : Nat} {as : List Value} {E1 E2 : String} {cd ans : Int} (h : CR m X v w) (ha : fS as) (e : cR (jm_env d k as (qM X v w 0 0 0)) X v 0 0 0 E1 E2 cd ans) (h0 : cd = 0) : ∃ m' w', jm_env d k as m = some (.inl (some (.int (i3 ans))), m') ∧ CR m' X v w' ∧ frC m m' := by
  obtain ⟨w', e1⟩ := e.1 h0
  obtain ⟨m', e2, c, f⟩ := cr_call h ha e1
  exact ⟨m', w', e2, c, f⟩
theorem cr_W {d k : Nat} {as : List Value} {E1 E2 : String} {cd ans : Int} {Q : (Nat → Int → Int) → Prop} (h : CR m X v w) (ha : fS as) (e : cW (jm_env d k as (qM X v w 0 0 0)) X v 0 0 0 E1 E2 cd ans Q) (h0 : cd = 0) : ∃ m' v' w', jm_env d k as m = some (.inl (some (.int (i3 ans))), m') ∧ CR m' X v' w' ∧ Q v' ∧ frC m m' := by
  obtain ⟨v', w', e1, q⟩ := e.1 h0
  obtain ⟨m', e2, c, f⟩ := cr_call h ha e1
  exact ⟨m', v', w', e2, c, q, f⟩
theorem CR_fr {S : Nat → Prop} {k : Nat} (h : CR m X v w) (f : frK m m' S k) (h1 : 411 ≤ m.1) (hS : ∀ j, S j → 411 ≤ j ∧ j < 1000000) : CR m' X v w := by
  intro n hn
  have hs : 1000000 ≤ jm_str := by decide
  rw [f.2.2.2.2 n (by unfold fP at hn; omega) (fun q => by have := hS n q; unfold fP at hn; omega)]
  exact h n hn
theorem CR_f1 {a : Nat} (h : CR m X v w) (f : fr1 m m' a) (ha : 411 ≤ a ∧ a < 1000000) : CR m' X v w := by
  intro n hn
  have hs : 1000000 ≤ jm_str := by decide
  rw [f.2.2 n (by unfold fP at hn; omega)]
  exact h n hn
theorem frC_t {m1 : jm_Mem} (h : frC m m1) (h2 : frC m1 m') : frC m m' := ⟨h2.1.trans h.1, h2.2.1.trans h.2.1, fun n hn => (h2.2.2 n hn).trans (h.2.2 n hn)⟩
theorem LHn_C {P : Nat → Nat} {K : Nat} (hn : LHn m P K) (f : frC m m') : LHn m' P K := ⟨fun j hj h2 => by rw [f.1]; exact hn.1 j hj h2, hn.2⟩
theorem LM_C {P : Nat → Nat} {μ : Nat → Int → Int} (h : LM m P μ) (hn : LHn m P (μ 412 0).toNat) (hk : 1 ≤ (μ 412 0).toNat) (hm : m.1 ≤ 1000000) (f : frC m m') : LM m' P μ := by
  have hs : 1000000 ≤ jm_str := by decide
  exact LH_fr h (by rw [f.1]; exact Nat.le_refl _) fun j hj => f.2.2 _ (by have := hn.1 j hj (Or.inr hk); unfold fP; omega)
end LWK
