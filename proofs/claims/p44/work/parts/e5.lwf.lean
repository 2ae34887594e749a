-- uses 34.gen 40.mo3 55.clc e4.lwe
/-! Cuts one by one are the cuts told at once. -/
def cl (c s : Int) : Int := (max 0 (c - s) + 1) / 2
/-- the cuts of size k, where c are wanted of size N -/
def neC (S : Int → Int) : Nat → Int → Nat → Int
  | 0, c, k => if k = 0 then c else 0
  | N + 1, c, k => if k = N + 1 then c else neC S N (cl c (S ((N + 1 : Nat) : Int))) k
def suC (S : Int → Int) (g : Nat → Int) : Nat → Int → Int
  | 0, c => c * g 0
  | N + 1, c => c * g (N + 1) + suC S g N (cl c (S ((N + 1 : Nat) : Int)))
/-- as many as are wanted, at the largest -/
def laC (S : Int → Int) : Nat → Int → Int
  | 0, c => c
  | N + 1, c => laC S N (cl c (S ((N + 1 : Nat) : Int)))
def fnC (S : Int → Int) (N : Nat) (c : Int) (k : Nat) : Int := S k - neC S N c k + 2 * (if k = 0 then 0 else neC S N c (k - 1))
theorem neC_N {S : Int → Int} {N : Nat} {c : Int} : neC S N c N = c := by
  cases N with
  | zero => exact if_pos rfl
  | succ N => exact if_pos rfl
theorem neC_s {S : Int → Int} {N k : Nat} {c : Int} (h : k ≤ N) : neC S (N + 1) c k = neC S N (cl c (S ((N + 1 : Nat) : Int))) k := if_neg (by omega)
theorem neC_cg {S S' : Int → Int} : ∀ {N : Nat} {c : Int} {k : Nat}, (∀ j : Nat, j ≤ N → S j = S' j) → neC S N c k = neC S' N c k := by
  intro N
  induction N with
  | zero => intro c k _; rfl
  | succ N ih =>
    intro c k h
    show (if k = N + 1 then c else neC S N (cl c (S ((N + 1 : Nat) : Int))) k) = if k = N + 1 then c else neC S' N (cl c (S' ((N + 1 : Nat) : Int))) k
    rw [h (N + 1) (by omega), ih fun j hj => h j (by omega)]
theorem suC_cg {S S' : Int → Int} {g : Nat → Int} : ∀ {N : Nat} {c : Int}, (∀ j : Nat, j ≤ N → S j = S' j) → suC S g N c = suC S' g N c := by
  intro N
  induction N with
  | zero => intro c _; rfl
  | succ N ih =>
    intro c h
    show c * g (N + 1) + suC S g N (cl c (S ((N + 1 : Nat) : Int))) = c * g (N + 1) + suC S' g N (cl c (S' ((N + 1 : Nat) : Int)))
    rw [h (N + 1) (by omega), ih fun j hj => h j (by omega)]
theorem laC_cg {S S' : Int → Int} : ∀ {N : Nat} {c : Int}, (∀ j : Nat, j ≤ N → S j = S' j) → laC S N c = laC S' N c := by
  intro N
  induction N with
  | zero => intro c _; rfl
  | succ N ih =>
    intro c h
    show laC S N (cl c (S ((N + 1 : Nat) : Int))) = laC S' N (cl c (S' ((N + 1 : Nat) : Int)))
    rw [h (N + 1) (by omega), ih fun j hj => h j (by omega)]
theorem fnC_cg {S S' : Int → Int} {N : Nat} {c : Int} {k : Nat} (hk : k ≤ N) (h : ∀ j : Nat, j ≤ N → S j = S' j) : fnC S N c k = fnC S' N c k := by
  unfold fnC
  rw [h k hk, neC_cg h, neC_cg h]
theorem fnC_s {S : Int → Int} {N k : Nat} {c : Int} (h : k ≤ N) : fnC S (N + 1) c k = fnC S N (cl c (S ((N + 1 : Nat) : Int))) k := by
  unfold fnC
  rw [neC_s h]
  by_cases g : k = 0
  · rw [if_pos g, if_pos g]
  · rw [if_neg g, if_neg g, neC_s (by omega)]
theorem ne0_z {S : Int → Int} : ∀ {N : Nat} {k : Nat}, (∀ j : Nat, j ≤ N → 0 ≤ S j) → neC S N 0 k = 0 := by
  intro N
  induction N with
  | zero => intro k _; show (if k = 0 then (0 : Int) else 0) = 0; split <;> rfl
  | succ N ih =>
    intro k h
    have h1 := h (N + 1) (by omega)
    show (if k = N + 1 then (0 : Int) else neC S N (cl 0 (S ((N + 1 : Nat) : Int))) k) = 0
    rw [show cl 0 (S ((N + 1 : Nat) : Int)) = 0 by unfold cl; omega, ih fun j hj => h j (by omega)]
    split <;> rfl
theorem suC_z {S : Int → Int} {g : Nat → Int} : ∀ {N : Nat}, (∀ j : Nat, j ≤ N → 0 ≤ S j) → suC S g N 0 = 0 := by
  intro N
  induction N with
  | zero => intro _; exact Int.zero_mul _
  | succ N ih =>
    intro h
    have h1 := h (N + 1) (by omega)
    show 0 * g (N + 1) + suC S g N (cl 0 (S ((N + 1 : Nat) : Int))) = 0
    rw [show cl 0 (S ((N + 1 : Nat) : Int)) = 0 by unfold cl; omega, ih fun j hj => h j (by omega), Int.zero_mul]
    rfl
theorem fnC_z {S : Int → Int} {N k : Nat} (h : ∀ j : Nat, j ≤ N → 0 ≤ S j) : fnC S N 0 k = S k := by
  unfold fnC
  rw [ne0_z h, ne0_z h]
  split <;> omega
/-- the strip of a cut of size n -/
def stC (W H : Int → Int) (n : Nat) : Int := W n * H n - 2 * (W ((n : Int) + 1) * H ((n : Int) + 1))
theorem cu0_1 {W H : Int → Int} {n : Int} {st : (Int → Int) × (Int → Int)} {k : Int} : (cu0 W H n st).1 k = if k = n + 1 then st.1 (n + 1) + 2 else if k = n then st.1 n - 1 else st.1 k := rfl
theorem cu0_2 {W H : Int → Int} {n : Int} {st : (Int → Int) × (Int → Int)} {k : Int} : (cu0 W H n st).2 k = if k = 4 then st.2 4 + 1 else if k = 3 then st.2 3 + (W n * H n - 2 * (W (n + 1) * H (n + 1))) else st.2 k := rfl
/-- one cut of size N, where c are wanted -/
theorem cu1_step {W H : Int → Int} : ∀ (N : Nat) (S A : Int → Int) (c : Int), 1 ≤ c → (∀ k : Nat, k ≤ N → 0 ≤ S k) → laC S N c ≤ S 0 →
    (∃ k : Nat, k ≤ N ∧ S k ≠ 0) ∧ (∀ k : Nat, k ≤ N → 0 ≤ (cu1 W H N (S, A)).1 k ∧ (cu1 W H N (S, A)).1 k ≤ S k + 1) ∧ (∀ k : Int, (N : Int) < k → (cu1 W H N (S, A)).1 k = if k = (N : Int) + 1 then S k + 2 else S k) ∧
    laC (cu1 W H N (S, A)).1 N (c - 1) ≤ (cu1 W H N (S, A)).1 0 ∧ (∀ k : Nat, k ≤ N → fnC (cu1 W H N (S, A)).1 N (c - 1) k = fnC S N c k) ∧
    (cu1 W H N (S, A)).2 3 + suC (cu1 W H N (S, A)).1 (stC W H) N (c - 1) = A 3 + suC S (stC W H) N c ∧ (cu1 W H N (S, A)).2 4 + suC (cu1 W H N (S, A)).1 (fun _ => 1) N (c - 1) = A 4 + suC S (fun _ => 1) N c ∧
    ∀ k : Int, k ≠ 3 → k ≠ 4 → (cu1 W H N (S, A)).2 k = A k := by
  intro N
  induction N with
  | zero =>
    intro S A c hc hS hl
    have h0 := hS 0 (by omega)
    have hl : c ≤ S 0 := hl
    have e0 : (cu1 W H 0 (S, A)).1 0 = S 0 - 1 := rfl
    have e3 : (cu1 W H 0 (S, A)).2 3 = A 3 + stC W H 0 := rfl
    have e4 : (cu1 W H 0 (S, A)).2 4 = A 4 + 1 := rfl
    refine ⟨⟨0, by omega, by show S 0 ≠ 0; omega⟩, fun k hk => ?_, fun k hk => ?_, ?_, fun k hk => ?_, ?_, ?_, fun k k3 k4 => ?_⟩
    · have : k = 0 := by omega
      subst this
      show 0 ≤ S 0 - 1 ∧ S 0 - 1 ≤ S 0 + 1
      omega
    · show (cu0 W H 0 (S, A)).1 k = _
      rw [cu0_1]
      have hk : (0 : Int) < k := hk
      by_cases g : k = 0 + 1
      · rw [if_pos g, if_pos (by omega)]
        show S (0 + 1) + 2 = S k + 2
        rw [g]
      · rw [if_neg g, if_neg (by omega), if_neg (by omega)]
    · show c - 1 ≤ S 0 - 1
      omega
    · have : k = 0 := by omega
      subst this
      show (S 0 - 1) - (c - 1) + 2 * 0 = S 0 - c + 2 * 0
      omega
    · show (A 3 + stC W H 0) + (c - 1) * stC W H 0 = A 3 + c * stC W H 0
      rw [Int.sub_mul]
      omega
    · show (A 4 + 1) + (c - 1) * 1 = A 4 + c * 1
      omega
    · show (cu0 W H 0 (S, A)).2 k = _
      rw [cu0_2, if_neg k4, if_neg k3]
  | succ N ih =>
    intro S A c hc hS hl
    have hN := hS (N + 1) (by omega)
    by_cases g : S ((N + 1 : Nat) : Int) = 0
    · have hc1 : 1 ≤ cl c (S ((N + 1 : Nat) : Int)) := by unfold cl; omega
      obtain ⟨⟨k0, k1, k2⟩, i1, i2, i3', i4, i5, i6', i7⟩ := ih S A (cl c (S ((N + 1 : Nat) : Int))) hc1 (fun k hk => hS k (by omega)) hl
      have ec : cu1 W H (N + 1) (S, A) = cu0 W H ((N + 1 : Nat) : Int) (cu1 W H N (S, A)) := by
        show cu0 W H ((N + 1 : Nat) : Int) (if S ((N + 1 : Nat) : Int) = 0 then cu1 W H N (S, A) else (S, A)) = _
        rw [if_pos g]
      rw [ec]
      have hu := i2 ((N + 1 : Nat) : Int) (by omega)
      rw [if_pos (by omega), g] at hu
      generalize cu1 W H N (S, A) = U at *
      have t1 : (cu0 W H ((N + 1 : Nat) : Int) U).1 ((N + 1 : Nat) : Int) = 1 := by rw [cu0_1, if_neg (by omega), if_pos rfl, hu]; rfl
      have t2 : ∀ j : Nat, j ≤ N → (cu0 W H ((N + 1 : Nat) : Int) U).1 j = U.1 j := fun j hj => by rw [cu0_1, if_neg (by omega), if_neg (by omega)]
      have hcl : cl (c - 1) 1 = cl c (S ((N + 1 : Nat) : Int)) - 1 := by unfold cl; omega
      refine ⟨⟨k0, by omega, k2⟩, fun k hk => ?_, fun k hk => ?_, ?_, fun k hk => ?_, ?_, ?_, fun k k3 k4 => ?_⟩
      · by_cases q : k = N + 1
        · subst q
          rw [t1]
          omega
        · rw [t2 k (by omega)]
          exact i1 k (by omega)
      · rw [cu0_1]
        by_cases q : k = ((N + 1 : Nat) : Int) + 1
        · rw [if_pos q, if_pos q, i2 _ (by omega), if_neg (by omega), q]
        · rw [if_neg q, if_neg (by omega), if_neg q, i2 _ (by omega), if_neg (by omega)]
      · show laC _ N (cl (c - 1) _) ≤ _
        rw [t1, hcl, laC_cg t2, show ((cu0 W H ((N + 1 : Nat) : Int) U).1 0) = U.1 0 from t2 0 (by omega)]
        exact i3'
      · by_cases q : k = N + 1
        · subst q
          unfold fnC
          rw [t1, neC_N, neC_N, if_neg (by omega), if_neg (by omega), Nat.add_sub_cancel, neC_s (Nat.le_refl _), neC_s (Nat.le_refl _), neC_N, neC_N, t1, hcl, g]
          unfold cl
          omega
        · rw [fnC_s (by omega), fnC_s (by omega), t1, hcl, fnC_cg (by omega) t2]
          exact i4 k (by omega)
      · show (cu0 W H ((N + 1 : Nat) : Int) U).2 3 + ((c - 1) * stC W H (N + 1) + suC _ (stC W H) N (cl (c - 1) _)) = A 3 + (c * stC W H (N + 1) + suC S (stC W H) N _)
        rw [t1, hcl, suC_cg t2, ← Int.add_assoc (A 3), Int.add_comm (A 3), Int.add_assoc _ (A 3), ← i5, Int.sub_mul]
        have : (cu0 W H ((N + 1 : Nat) : Int) U).2 3 = U.2 3 + stC W H (N + 1) := rfl
        rw [this]
        omega
      · show (cu0 W H ((N + 1 : Nat) : Int) U).2 4 + ((c - 1) * 1 + suC _ (fun _ => 1) N (cl (c - 1) _)) = A 4 + (c * 1 + suC S (fun _ => 1) N _)
        rw [t1, hcl, suC_cg t2]
        have : (cu0 W H ((N + 1 : Nat) : Int) U).2 4 = U.2 4 + 1 := rfl
        rw [this]
        omega
      · rw [cu0_2, if_neg k4, if_neg k3]
        exact i7 k k3 k4
    · have ec : cu1 W H (N + 1) (S, A) = cu0 W H ((N + 1 : Nat) : Int) (S, A) := by
        show cu0 W H ((N + 1 : Nat) : Int) (if S ((N + 1 : Nat) : Int) = 0 then cu1 W H N (S, A) else (S, A)) = _
        rw [if_neg g]
      rw [ec]
      have t1 : (cu0 W H ((N + 1 : Nat) : Int) (S, A)).1 ((N + 1 : Nat) : Int) = S ((N + 1 : Nat) : Int) - 1 := by rw [cu0_1, if_neg (by omega), if_pos rfl]
      have t2 : ∀ j : Nat, j ≤ N → (cu0 W H ((N + 1 : Nat) : Int) (S, A)).1 j = S j := fun j hj => by rw [cu0_1, if_neg (by omega), if_neg (by omega)]
      have hcl : cl (c - 1) (S ((N + 1 : Nat) : Int) - 1) = cl c (S ((N + 1 : Nat) : Int)) := by unfold cl; omega
      refine ⟨⟨N + 1, by omega, g⟩, fun k hk => ?_, fun k hk => ?_, ?_, fun k hk => ?_, ?_, ?_, fun k k3 k4 => ?_⟩
      · by_cases q : k = N + 1
        · subst q
          rw [t1]
          omega
        · rw [t2 k (by omega)]
          have := hS k (by omega)
          omega
      · rw [cu0_1]
        by_cases q : k = ((N + 1 : Nat) : Int) + 1
        · rw [if_pos q, if_pos q, q]
        · rw [if_neg q, if_neg (by omega), if_neg q]
      · show laC _ N (cl (c - 1) _) ≤ _
        rw [t1, hcl, laC_cg t2, show ((cu0 W H ((N + 1 : Nat) : Int) (S, A)).1 0) = S 0 from t2 0 (by omega)]
        exact hl
      · by_cases q : k = N + 1
        · subst q
          unfold fnC
          rw [t1, neC_N, neC_N, if_neg (by omega), if_neg (by omega), Nat.add_sub_cancel, neC_s (Nat.le_refl _), neC_s (Nat.le_refl _), neC_N, neC_N, t1, hcl]
          omega
        · rw [fnC_s (by omega), fnC_s (by omega), t1, hcl, fnC_cg (by omega) t2]
      · show (cu0 W H ((N + 1 : Nat) : Int) (S, A)).2 3 + ((c - 1) * stC W H (N + 1) + suC _ (stC W H) N (cl (c - 1) _)) = A 3 + (c * stC W H (N + 1) + suC S (stC W H) N _)
        rw [t1, hcl, suC_cg t2, Int.sub_mul]
        have : (cu0 W H ((N + 1 : Nat) : Int) (S, A)).2 3 = A 3 + stC W H (N + 1) := rfl
        rw [this]
        omega
      · show (cu0 W H ((N + 1 : Nat) : Int) (S, A)).2 4 + ((c - 1) * 1 + suC _ (fun _ => 1) N (cl (c - 1) _)) = A 4 + (c * 1 + suC S (fun _ => 1) N _)
        rw [t1, hcl, suC_cg t2]
        have : (cu0 W H ((N + 1 : Nat) : Int) (S, A)).2 4 = A 4 + 1 := rfl
        rw [this]
        omega
      · rw [cu0_2, if_neg k4, if_neg k3]
/-- the needs in the other words -/
theorem nd_sh {S : Int → Int} {q : Int} {n : Nat} : ∀ j : Nat, nd S q (n + 1) (j + 1) = nd S (cl q (S ((n + 1 : Nat) : Int))) n j := by
  intro j
  induction j with
  | zero => rfl
  | succ j ih =>
    show (max 0 (nd S q (n + 1) (j + 1) - S (((n + 1 : Nat) : Int) - ((j + 1 : Nat) : Int))) + 1) / 2 = (max 0 (nd S _ n j - S ((n : Int) - j)) + 1) / 2
    rw [ih, show ((n + 1 : Nat) : Int) - ((j + 1 : Nat) : Int) = (n : Int) - j by omega]
theorem neC_nd {S : Int → Int} : ∀ {N : Nat} {c : Int} {k : Nat}, k ≤ N → neC S N c k = nd S c N (N - k) := by
  intro N
  induction N with
  | zero => intro c k hk; rw [show k = 0 by omega]; rfl
  | succ N ih =>
    intro c k hk
    by_cases g : k = N + 1
    · rw [g, neC_N, Nat.sub_self]; rfl
    · rw [neC_s (by omega), ih (by omega), show N + 1 - k = (N - k) + 1 by omega, nd_sh]
theorem laC_nd {S : Int → Int} : ∀ {N : Nat} {c : Int}, laC S N c = nd S c N N := by
  intro N
  induction N with
  | zero => intro c; rfl
  | succ N ih => intro c; show laC S N _ = _; rw [ih, nd_sh]

