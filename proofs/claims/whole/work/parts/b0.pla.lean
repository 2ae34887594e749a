-- uses 24.zar 25.obj 34.gen 38.mod 39.mo2 40.mo3 41.bit 46.mo8 49.mob 51.moe 53.cla 65.cll 93.tka 97.srp
/-! Scripts: what a text tells, and what its orders do. -/
/-- an order: kind, three numbers, and how many orders stand in its brackets -/
abbrev oE : Type := Int × Int × Int × Int × Nat
abbrev aR : Type := Sum (Int × Nat) (Nat × oE)
abbrev oR : Type := Sum (Int × Nat) (Nat × List oE)
def kw (b : Int → Int) (p : Nat) : Int := if isW b p 2745 then 0 else if isW b p 3764 then 1 else if isW b p 16322738 then 2 else if isW b p 168165 then 3 else if isW b p 594989 then 4 else if isW b p 1279278 then 5 else -1
/-- a name and two numbers -/
def aO3 (b : Int → Int) (N : Int → Int) (k y : Int) (p : Nat) : aR :=
  if isM b p then (if isN b (nx b p) 0 9 then (if isN b (nx b (nx b p)) 1 y then .inr (nx b (nx b (nx b p)), (k, N (wd b p), nv b (nx b p), nv b (nx b (nx b p)), 0)) else .inl (ecN b (nx b (nx b p)), nx b (nx b p))) else .inl (ecN b (nx b p), nx b p)) else .inl (ecM b p, p)
def aO2 (b : Int → Int) (p : Nat) : aR :=
  if isN b p 1 2000 then (if isN b (nx b p) 1 2000 then (if isN b (nx b (nx b p)) 1 999 then .inr (nx b (nx b (nx b p)), (2, nv b p, nv b (nx b p), nv b (nx b (nx b p)), 0)) else .inl (ecN b (nx b (nx b p)), nx b (nx b p))) else .inl (ecN b (nx b p), nx b p)) else .inl (ecN b p, p)
def aO1 (b : Int → Int) (k x y : Int) (p : Nat) : aR := if isN b p x y then .inr (nx b p, (k, nv b p, 0, 0, 0)) else .inl (ecN b p, p)
/-- an order's arguments, from p on -/
def aO (b : Int → Int) (N : Int → Int) (k : Int) (p : Nat) : aR :=
  if k = 0 then aO3 b N 0 99 p else if k = 1 then aO3 b N 1 9999 p else if k = 2 then aO2 b p else if k = 3 then aO1 b 3 0 50 p else aO1 b 4 1 500 p
/-- orders from p on, up to where they end; tot are told already -/
def pO (b : Int → Int) (N : Int → Int) : Nat → Nat → Nat → Nat → oR
  | 0, _, _, p => .inl (4, p)
  | f + 1, dep, tot, p =>
    if (dep = 0 ∧ kd b p = 0) ∨ (dep ≠ 0 ∧ isG b p 41) then .inr (p, []) else
    if kw b p = -1 then .inl (1, p) else
    if 30 ≤ tot ∨ (kw b p = 5 ∧ 3 ≤ dep) then .inl (4, p) else
    if kw b p = 5 then (if isN b (nx b p) 1 20 then (if isG b (nx b (nx b p)) 40 then (match pO b N f (dep + 1) (tot + 1) (nx b (nx b (nx b p))) with
      | .inl e => .inl e
      | .inr r => if isG b (nx b r.1) 59 then (match pO b N f dep (tot + 1 + r.2.length) (nx b (nx b r.1)) with
        | .inl e => .inl e
        | .inr t => .inr (t.1, (5, nv b (nx b p), 0, 0, r.2.length) :: (r.2 ++ t.2))) else .inl (1, nx b r.1)) else .inl (1, nx b (nx b p))) else .inl (ecN b (nx b p), nx b p)) else
    (match aO b N (kw b p) (nx b p) with
      | .inl e => .inl e
      | .inr r => if isG b r.1 59 then (match pO b N f dep (tot + 1) (nx b r.1) with
        | .inl e => .inl e
        | .inr t => .inr (t.1, r.2 :: t.2)) else .inl (1, r.1))
/-- the numbers of an order are in their ranges -/
def rgO (c : Int) (e : oE) : Prop :=
  ((e.1 = 0 ∧ e.2.2.2.1 ≤ 99 ∨ e.1 = 1 ∧ e.2.2.2.1 ≤ 9999) ∧ (e.2.1 = -1 ∨ (0 ≤ e.2.1 ∧ e.2.1 < c)) ∧ (0 ≤ e.2.2.1 ∧ e.2.2.1 ≤ 9) ∧ 1 ≤ e.2.2.2.1 ∧ e.2.2.2.2 = 0) ∨
  (e.1 = 2 ∧ (1 ≤ e.2.1 ∧ e.2.1 ≤ 2000) ∧ (1 ≤ e.2.2.1 ∧ e.2.2.1 ≤ 2000) ∧ (1 ≤ e.2.2.2.1 ∧ e.2.2.2.1 ≤ 999) ∧ e.2.2.2.2 = 0) ∨
  (e.1 = 3 ∧ (0 ≤ e.2.1 ∧ e.2.1 ≤ 50) ∧ e.2.2.2.2 = 0) ∨ (e.1 = 4 ∧ (1 ≤ e.2.1 ∧ e.2.1 ≤ 500) ∧ e.2.2.2.2 = 0) ∨ (e.1 = 5 ∧ 1 ≤ e.2.1 ∧ e.2.1 ≤ 20)
def wfL (c : Int) : Nat → List oE → Prop
  | 0, L => L = []
  | _ + 1, [] => True
  | F + 1, e :: l => e.2.2.2.2 ≤ l.length ∧ rgO c e ∧ wfL c F (l.take e.2.2.2.2) ∧ wfL c F (l.drop e.2.2.2.2)
theorem kw_b (b : Int → Int) (p : Nat) : -1 ≤ kw b p ∧ kw b p ≤ 5 := by
  unfold kw
  (repeat' split) <;> omega
theorem aO_s {b : Int → Int} {n : Nat} (ho : okB b n) {N : Int → Int} {c k : Int} {p : Nat} (hN : ∀ x, N x = -1 ∨ (0 ≤ N x ∧ N x < c)) (hp : p ≤ n) (k0 : 0 ≤ k) (k4 : k ≤ 4) {r : Nat × oE} (h : aO b N k p = .inr r) : r.1 ≤ n ∧ rgO c r.2 ∧ r.2.1 = k ∧ r.2.2.2.2.2 = 0 := by
  have b1 := (nx_b ho hp).2
  have b2 := (nx_b ho b1).2
  have b3 := (nx_b ho b2).2
  unfold aO at h
  have h3 : ∀ {k y : Int}, (k = 0 ∧ y = 99 ∨ k = 1 ∧ y = 9999) → aO3 b N k y p = .inr r → r.1 ≤ n ∧ rgO c r.2 ∧ r.2.1 = k ∧ r.2.2.2.2.2 = 0 := by
    intro k y hky h
    unfold aO3 at h
    split at h
    · split at h
      · next q2 =>
        split at h
        · next q3 =>
          obtain ⟨-, z0, z1⟩ := q3
          obtain ⟨-, y0, y1⟩ := q2
          cases h
          refine ⟨b3, Or.inl ⟨?_, hN _, ⟨y0, y1⟩, z0, rfl⟩, rfl, rfl⟩
          rcases hky with ⟨rfl, rfl⟩ | ⟨rfl, rfl⟩
          · exact Or.inl ⟨rfl, z1⟩
          · exact Or.inr ⟨rfl, z1⟩
        · exact absurd h (by simp)
      · exact absurd h (by simp)
    · exact absurd h (by simp)
  split at h
  · next g => rw [g]; exact h3 (Or.inl ⟨rfl, rfl⟩) h
  · split at h
    · next g => rw [g]; exact h3 (Or.inr ⟨rfl, rfl⟩) h
    · split at h
      · next g =>
        unfold aO2 at h
        split at h
        · next q1 =>
          split at h
          · next q2 =>
            split at h
            · next q3 =>
              cases h
              exact ⟨b3, Or.inr (Or.inl ⟨rfl, ⟨q1.2.1, q1.2.2⟩, ⟨q2.2.1, q2.2.2⟩, ⟨q3.2.1, q3.2.2⟩, rfl⟩), g.symm, rfl⟩
            · exact absurd h (by simp)
          · exact absurd h (by simp)
        · exact absurd h (by simp)
      · split at h
        · next g =>
          unfold aO1 at h
          split at h
          · next q1 =>
            cases h
            exact ⟨b1, Or.inr (Or.inr (Or.inl ⟨rfl, ⟨q1.2.1, q1.2.2⟩, rfl⟩)), g.symm, rfl⟩
          · exact absurd h (by simp)
        · unfold aO1 at h
          split at h
          · next q1 =>
            cases h
            exact ⟨b1, Or.inr (Or.inr (Or.inr (Or.inl ⟨rfl, ⟨q1.2.1, q1.2.2⟩, rfl⟩))), by show (4 : Int) = k; omega, rfl⟩
          · exact absurd h (by simp)
theorem aO_e {b : Int → Int} {n : Nat} (ho : okB b n) {N : Int → Int} {k : Int} {p : Nat} (hp : p ≤ n) {e : Int × Nat} (h : aO b N k p = .inl e) : 1 ≤ e.1 ∧ e.1 ≤ 4 := by
  have hN : ∀ q : Nat, 1 ≤ ecN b q ∧ ecN b q ≤ 4 := fun q => by unfold ecN; split <;> omega
  have hM : ∀ q : Nat, 1 ≤ ecM b q ∧ ecM b q ≤ 4 := fun q => by unfold ecM; split <;> omega
  unfold aO aO3 aO2 aO1 at h
  repeat' split at h
  all_goals first | (cases h; done) | (cases h; exact hN _) | (cases h; exact hM _)
theorem pO_s {b : Int → Int} {n : Nat} (ho : okB b n) {N : Int → Int} {c : Int} (hN : ∀ x, N x = -1 ∨ (0 ≤ N x ∧ N x < c)) : ∀ (f dep tot p : Nat) (r : Nat × List oE), p ≤ n → tot ≤ 30 → pO b N f dep tot p = .inr r → r.1 ≤ n ∧ tot + r.2.length ≤ 30 ∧ wfL c f r.2 ∧ ((dep = 0 ∧ kd b r.1 = 0) ∨ (dep ≠ 0 ∧ isG b r.1 41)) := by
  intro f
  induction f with
  | zero => intro dep tot p r hp ht h; exact absurd h (by simp [pO])
  | succ f ih =>
    intro dep tot p r hp ht h
    have b1 := (nx_b ho hp).2
    have b2 := (nx_b ho b1).2
    have b3 := (nx_b ho b2).2
    have hkb := kw_b b p
    unfold pO at h
    split at h
    · next q =>
      cases h
      exact ⟨hp, ht, trivial, q⟩
    · split at h
      · exact absurd h (by simp)
      · next q1 =>
        split at h
        · exact absurd h (by simp)
        · next q2 =>
          split at h
          · next q3 =>
            split at h
            · next q4 =>
              split at h
              · next q5 =>
                rcases e1 : pO b N f (dep + 1) (tot + 1) (nx b (nx b (nx b p))) with x | r1
                · rw [e1] at h; exact absurd h (by simp)
                · rw [e1] at h
                  dsimp only at h
                  obtain ⟨s1, s2, s3, s4⟩ := ih _ _ _ _ b3 (by omega) e1
                  have b4 := (nx_b ho s1).2
                  have b5 := (nx_b ho b4).2
                  split at h
                  · rcases e2 : pO b N f dep (tot + 1 + r1.2.length) (nx b (nx b r1.1)) with x | t
                    · rw [e2] at h; exact absurd h (by simp)
                    · rw [e2] at h
                      dsimp only at h
                      obtain ⟨t1, t2, t3, t4⟩ := ih _ _ _ _ b5 (by omega) e2
                      cases h
                      refine ⟨t1, ?_, ⟨?_, Or.inr (Or.inr (Or.inr (Or.inr ⟨rfl, q4.2.1, q4.2.2⟩))), ?_, ?_⟩, t4⟩
                      · simp only [List.length_cons, List.length_append]; omega
                      · simp only [List.length_append]; omega
                      · show wfL c f ((r1.2 ++ t.2).take r1.2.length)
                        rw [List.take_left]; exact s3
                      · show wfL c f ((r1.2 ++ t.2).drop r1.2.length)
                        rw [List.drop_left]; exact t3
                  · exact absurd h (by simp)
              · exact absurd h (by simp)
            · exact absurd h (by simp)
          · next q3 =>
            rcases e1 : aO b N (kw b p) (nx b p) with x | r1
            · rw [e1] at h; exact absurd h (by simp)
            · rw [e1] at h
              dsimp only at h
              obtain ⟨s1, s2, s3, s4⟩ := aO_s ho hN b1 (by omega) (by omega) e1
              have b4 := (nx_b ho s1).2
              split at h
              · rcases e2 : pO b N f dep (tot + 1) (nx b r1.1) with x | t
                · rw [e2] at h; exact absurd h (by simp)
                · rw [e2] at h
                  dsimp only at h
                  obtain ⟨t1, t2, t3, t4⟩ := ih _ _ _ _ b4 (by omega) e2
                  cases h
                  have s4 : r1.2.2.2.2.2 = 0 := s4
                  refine ⟨t1, ?_, ⟨by omega, s2, ?_, ?_⟩, t4⟩
                  · simp only [List.length_cons]; omega
                  · rw [s4]
                    show wfL c f []
                    cases f <;> trivial
                  · rw [s4]; exact t3
              · exact absurd h (by simp)
/-- what one order answers, and the numbers behind it -/
def oV (μ : Nat → Int → Int) (e : oE) : Int × (Nat → Int → Int) :=
  if e.1 = 0 then (if e.2.1 = -1 then (-2, up μ 418 5 (μ 418 5 + 1)) else (byR μ e.2.1 e.2.2.1 e.2.2.2.1, tsV μ (byR μ e.2.1 e.2.2.1 e.2.2.2.1) (byV μ e.2.1 e.2.2.1 e.2.2.2.1)))
  else if e.1 = 1 then (if e.2.1 = -1 then (-2, up μ 418 5 (μ 418 5 + 1)) else (ctR μ e.2.1 e.2.2.1 e.2.2.2.1, tsV μ (ctR μ e.2.1 e.2.2.1 e.2.2.2.1) (ctV μ e.2.1 e.2.2.1 e.2.2.2.1)))
  else if e.1 = 2 then (flR μ e.2.1 e.2.2.1 e.2.2.2.1, tsV μ (flR μ e.2.1 e.2.2.1 e.2.2.2.1) (flV μ e.2.1 e.2.2.1 e.2.2.2.1))
  else if e.1 = 3 then (μ 412 1, up μ 412 1 e.2.1) else (μ 412 2, up μ 412 2 e.2.1)
abbrev oSt : Type := (Nat → Int → Int) × Int
def itL (g : oSt → oSt × Bool) : Nat → oSt → oSt × Bool
  | 0, st => (st, true)
  | n + 1, st => if (g st).2 = true then itL g n (g st).1 else g st
/-- a list of orders done -/
def rnL : Nat → Nat → List oE → oSt → oSt × Bool
  | 0, _, _, st => (st, true)
  | _ + 1, _, [], st => (st, true)
  | F + 1, dep, e :: l, st =>
    if e.1 = 5 then (if 3 ≤ dep ∨ ∀ x ∈ l.take e.2.2.2.2, x.1 = 5 then rnL F dep (l.drop e.2.2.2.2) st else
      if (itL (rnL F (dep + 1) (l.take e.2.2.2.2)) e.2.1.toNat st).2 = true then rnL F dep (l.drop e.2.2.2.2) (itL (rnL F (dep + 1) (l.take e.2.2.2.2)) e.2.1.toNat st).1 else itL (rnL F (dep + 1) (l.take e.2.2.2.2)) e.2.1.toNat st)
    else if (oV st.1 e).1 < -1 then (((oV st.1 e).2, st.2), false) else if 40 ≤ st.2 + 1 then (((oV st.1 e).2, st.2 + 1), false) else rnL F dep (l.drop e.2.2.2.2) ((oV st.1 e).2, st.2 + 1)
theorem itL_id {g : oSt → oSt × Bool} (h : ∀ st, g st = (st, true)) : ∀ (n : Nat) (st : oSt), itL g n st = (st, true) := by
  intro n
  induction n with
  | zero => intro st; rfl
  | succ n ih => intro st; unfold itL; rw [h st]; exact ih st
theorem rnL_id : ∀ (F dep : Nat) (L : List oE), (∀ x ∈ L, x.1 = 5) → ∀ st, rnL F dep L st = (st, true) := by
  intro F
  induction F with
  | zero => intro dep L h st; rfl
  | succ F ih =>
    intro dep L h st
    cases L with
    | nil => rfl
    | cons e l =>
      unfold rnL
      rw [if_pos (h e List.mem_cons_self), if_pos (Or.inr (fun x hx => h x (List.mem_cons_of_mem _ (List.mem_of_mem_take hx))))]
      exact ih dep _ (fun x hx => h x (List.mem_cons_of_mem _ (List.mem_of_mem_drop hx))) st
