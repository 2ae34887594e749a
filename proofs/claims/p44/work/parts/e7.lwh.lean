-- uses 24.zar 25.obj 26.ops 30.rd 31.re 34.gen 40.mo3 55.clc e0.lwa e1.lwb e2.lwc e3.lwd e4.lwe e5.lwf e6.lwg
/-! The law's orders. -/
section LWH
variable {m m' : jm_Mem} {P : Nat → Nat} {K d : Nat} {e r : Int} {A A' : Int → Int} {W H S : Nat → Int → Int}
/-- what the nearest size is, if it is one -/
def neP (W H S : Nat → Int → Int) (e x y q : Int) (K : Nat) (st : Int × Int) : Prop := st = (-1, 9223372036854775807) ∨ ∃ k n : Nat, k < K ∧ n < 10 ∧ st.1 = 100 * (k : Int) + n ∧ ftL W H e x y k n = 1 ∧ q ≤ supL (W k) (H k) (S k) n ∧ st.2 = W k n * H k n
theorem neP_t {x y q : Int} : neP W H S e x y q K (fo2 (neG W H S e x y q) (-1, 9223372036854775807) K) := by
  refine fo2_P K (Or.inl rfl) fun k n st hk hn hs => ?_
  unfold neG
  split
  · next g => exact Or.inr ⟨k, 9 - n, hk, by omega, rfl, g.1, g.2.1, rfl⟩
  · exact hs
theorem laC_z {S : Int → Int} : ∀ {n : Nat}, (∀ j : Nat, j ≤ n → 0 ≤ S j) → laC S n 0 = 0 := by
  intro n
  induction n with
  | zero => intro _; rfl
  | succ n ih =>
    intro h
    have h1 := h (n + 1) (by omega)
    show laC S n (cl 0 (S ((n + 1 : Nat) : Int))) = 0
    rw [show cl 0 (S ((n + 1 : Nat) : Int)) = 0 by unfold cl; omega]
    exact ih fun j hj => h j (by omega)
theorem sup_la {W H S : Int → Int} : ∀ {n : Nat} {q : Int}, (∀ j : Nat, j ≤ n → 0 ≤ S j) → 1 ≤ q → q ≤ supL W H S n → laC S n q ≤ S 0 := by
  intro n
  induction n with
  | zero =>
    intro q _ h1 h2
    unfold supL at h2
    show q ≤ S 0
    split at h2 <;> omega
  | succ n ih =>
    intro q hS h1 h2
    have h3 := hS (n + 1) (by omega)
    unfold supL at h2
    show laC S n (cl q (S ((n + 1 : Nat) : Int))) ≤ S 0
    rw [show (n : Int) + 1 = ((n + 1 : Nat) : Int) by omega] at h2
    split at h2
    · omega
    · by_cases g : cl q (S ((n + 1 : Nat) : Int)) = 0
      · rw [g, laC_z fun j hj => hS j (by omega)]
        exact hS 0 (by omega)
      · refine ih (fun j hj => hS j (by omega)) ?_ ?_ <;> unfold cl at * <;> omega
/-- sheets are cut until there are enough -/
theorem sL_oloop {i N : Nat} (hi : i < K) (ho : okW (W i) (H i)) (hN : N + 1 < 10) {x y q its : Int} (q0 : 1 ≤ q) (q1 : q ≤ 9999) : ∀ (t : Nat) {m : jm_Mem} {A : Int → Int} {S : Nat → Int → Int}, LH m P K e r A W H S → LHn m P K → (∀ k : Nat, k ≤ N + 1 → 0 ≤ S i k ∧ S i k + 2 * t ≤ 100000) → cl q (S i ((N + 1 : Nat) : Int)) = t → laC (S i) N t ≤ S i 0 →
    ∃ m' A' S', jm_R (jm_env (d + 12)) jmM_L_orders 57 [some (.ref (P 0)), some (.int (i3 x)), some (.int (i3 y)), some (.int (i3 q)), some (.int (i3 its)), some (.ref (P (4 + 4 * i))), some (.int (i3 ((N + 1 : Nat) : Int)))] [] m = jm_R (jm_env (d + 12)) jmM_L_orders 82 [some (.ref (P 0)), some (.int (i3 x)), some (.int (i3 y)), some (.int (i3 q)), some (.int (i3 its)), some (.ref (P (4 + 4 * i))), some (.int (i3 ((N + 1 : Nat) : Int)))] [] m' ∧ LH m' P K e r A' W H (st2 S i S') ∧ frK m m' (fun j => j = P 3 ∨ j = P (7 + 4 * i)) 0 ∧
      (∀ k : Nat, k ≤ N → S' k = fnC (S i) N t k) ∧ (∀ k : Int, (N : Int) < k → S' k = if k = ((N + 1 : Nat) : Int) then S i k + 2 * t else S i k) ∧ A' 3 = A 3 + suC (S i) (stC (W i) (H i)) N t ∧ A' 4 = A 4 + suC (S i) (fun _ => 1) N t ∧ ∀ k : Int, k ≠ 3 → k ≠ 4 → A' k = A k := by
  intro t
  induction t with
  | zero =>
    intro m A S h hn hS hc hl
    have s := h.2.2.2 i hi
    have hb := hS (N + 1) (by omega)
    refine ⟨m, A, S i, ?_, by rw [st2_s]; exact h, frK_0, fun k hk => (fnC_z fun j hj => (hS j (by omega)).1).symm, fun k hk => by split <;> omega, ?_, ?_, fun _ _ _ => rfl⟩
    · rw [bL_orders_57, q_gR s.1 (k := 2) rfl, ob_s, q_aI s.2.2.2 (by omega) (by omega) (by omega), ob_s, ie_le (by omega) (by omega) (by omega) (by omega), if_pos (by unfold cl at hc; omega)]
    · rw [show ((0 : Nat) : Int) = 0 from rfl, suC_z fun j hj => (hS j (by omega)).1, Int.add_zero]
    · rw [show ((0 : Nat) : Int) = 0 from rfl, suC_z fun j hj => (hS j (by omega)).1, Int.add_zero]
  | succ t ih =>
    intro m A S h hn hS hc hl
    have s := h.2.2.2 i hi
    have hb := hS (N + 1) (by omega)
    obtain ⟨c1, c2, c3, c4, c5, c6, c7, c8⟩ := cu1_step (W := W i) (H := H i) N (S i) A ((t + 1 : Nat) : Int) (by omega) (fun k hk => (hS k (by omega)).1) hl
    rw [show ((t + 1 : Nat) : Int) - 1 = t by omega] at c4 c5 c6 c7
    obtain ⟨m1, e1, h1, f1⟩ := sL_cutsOne hi ho N (d := d + 10 - N) h hn (by omega) (fun k hk => by have := hS k (by omega); omega) c1
    rw [show d + 10 - N + N + 2 = d + 12 by omega] at e1
    have eN := c3 ((N + 1 : Nat) : Int) (by omega)
    rw [if_pos (by omega)] at eN
    obtain ⟨m2, A2, S2, e2, h2, f2, p1, p2, p3, p4, p5⟩ := ih h1 (LHn_fr hn f1) (fun k hk => by
      rw [st2_i]
      by_cases g : k = N + 1
      · subst g; rw [eN]; omega
      · have := c2 k (by omega); have := hS k (by omega); omega) (by rw [st2_i, eN]; unfold cl at hc ⊢; omega) (by rw [st2_i]; exact c4)
    rw [st2_i] at p1 p2 p3 p4
    rw [st2_2] at h2
    refine ⟨m2, A2, S2, ?_, h2, frK_t (k := 0) (j := 0) f1 f2, fun k hk => by rw [p1 k hk, c5 k hk], fun k hk => ?_, by rw [p3, c6], by rw [p4, c7], fun k k3 k4 => by rw [p5 k k3 k4, c8 k k3 k4]⟩
    · rw [bL_orders_57, q_gR s.1 (k := 2) rfl, ob_s, q_aI s.2.2.2 (by omega) (by omega) (by omega), ob_s, ie_le (by omega) (by omega) (by omega) (by omega), if_neg (by unfold cl at hc; omega), bL_orders_69, i3_sub, show ((N + 1 : Nat) : Int) - 1 = (N : Int) by omega, e1, ob_s, bV_v]
      exact e2
    · rw [p2 k hk, c3 k hk]
      by_cases g : k = ((N + 1 : Nat) : Int)
      · rw [if_pos g, if_pos (by omega), if_pos g]; omega
      · rw [if_neg g, if_neg (by omega), if_neg g]
/-- what an order does to the numbers of its series -/
def orS (A A' S S' W H : Int → Int) (n : Nat) (x y q : Int) : Prop :=
  (∀ k : Int, 0 ≤ k → k < 10 → S' k = S k + 2 * cuF S q n (k - 1) - cuF S q n k - if k = n then q else 0) ∧
  A' 1 = A 1 + x * y * q ∧ A' 2 = A 2 + (W n * H n - x * y) * q ∧ A' 3 = A 3 + (if n = 0 then 0 else suC S (stC W H) (n - 1) (cl q (S n))) ∧ A' 4 = A 4 + (if n = 0 then 0 else suC S (fun _ => 1) (n - 1) (cl q (S n))) ∧ A' 5 = A 5 + 1 ∧ A' 6 = A 6 + q ∧ A' 0 = A 0 ∧ A' 7 = A 7
theorem sL_otail {i : Nat} (h : LH m P K e r A W H S) (hn : LHn m P K) (hi : i < K) (ho : okW (W i) (H i)) {n x y q its : Int} (n0 : 0 ≤ n) (n1 : n < 10) (hx : isI x) (hy : isI y) (hq : isI q) : ∃ m', jm_R (jm_env (d + 1)) jmM_L_orders 82 [some (.ref (P 0)), some (.int (i3 x)), some (.int (i3 y)), some (.int (i3 q)), some (.int (i3 its)), some (.ref (P (4 + 4 * i))), some (.int (i3 n))] [] m = some (.inl (some (.int (i3 its))), m') ∧
    LH m' P K e r (st1 (st1 (st1 (st1 A 1 (A 1 + x * y * q)) 2 (A 2 + (W i n * H i n - x * y) * q)) 5 (A 5 + 1)) 6 (A 6 + q)) W H (st2 S i (st1 (S i) n (S i n - q))) ∧ frK m m' (fun j => j = P 3 ∨ j = P (7 + 4 * i)) 0 := by
  obtain ⟨x0, x1⟩ := hx
  obtain ⟨y0, y1⟩ := hy
  obtain ⟨q0, q1⟩ := hq
  have s := h.2.2.2 i hi
  obtain ⟨m1, e1, a1, f1⟩ := q_wI (y := S i n - q) s.2.2.2 n0 (by omega : n < (10 : Nat)) (by omega)
  have h1 := LH_wS h hn hi a1 f1
  have n1' := LHn_f1 hn f1
  obtain ⟨m2, e2, a2, f2⟩ := q_wL (z := 1) (y := A 1 + x * y * q) h1.2.2.1 (by omega) (by omega) (by omega)
  have h2 := LH_wA h1 n1' a2 f2
  have n2' := LHn_f1 n1' f2
  have s2 := h2.2.2.2 i hi
  have ea := sX12_ar (d := d) s2 ho n0 n1
  have r2 : jm_aL m2 (P 3) (i3 2) = some (i6 (A 2)) := by
    rw [q_aL h2.2.2.1 (z := 2) (by omega) (by omega) (by omega)]
    rfl
  obtain ⟨m3, e3, a3, f3⟩ := q_wL (z := 2) (y := A 2 + (W i n * H i n - x * y) * q) h2.2.2.1 (by omega) (by omega) (by omega)
  have h3 := LH_wA h2 n2' a3 f3
  have n3' := LHn_f1 n2' f3
  have r5 : jm_aL m3 (P 3) (i3 5) = some (i6 (A 5)) := by
    rw [q_aL h3.2.2.1 (z := 5) (by omega) (by omega) (by omega)]
    rfl
  obtain ⟨m4, e4, a4, f4⟩ := q_wL (z := 5) (y := A 5 + 1) h3.2.2.1 (by omega) (by omega) (by omega)
  have h4 := LH_wA h3 n3' a4 f4
  have n4' := LHn_f1 n3' f4
  have r6 : jm_aL m4 (P 3) (i3 6) = some (i6 (A 6)) := by
    rw [q_aL h4.2.2.1 (z := 6) (by omega) (by omega) (by omega)]
    rfl
  obtain ⟨m5, e5, a5, f5⟩ := q_wL (z := 6) (y := A 6 + q) h4.2.2.1 (by omega) (by omega) (by omega)
  have h5 := LH_wA h4 n4' a5 f5
  refine ⟨m5, ?_, h5, fr1_S f1 (fr1_S f2 (fr1_S f3 (fr1_S f4 (fr1_1 f5 (Or.inl rfl)) (Or.inl rfl)) (Or.inl rfl)) (Or.inl rfl)) (Or.inr rfl)⟩
  rw [bL_orders_82, q_gR s.1 (k := 2) rfl, ob_s, q_aI s.2.2.2 n0 (by omega : n < (10 : Nat)) (by omega), ob_s, i3_sub, e1, ob_s, q_gR h1.1 (k := 1) rfl, ob_s, q_aL h1.2.2.1 (z := 1) (by omega) (by omega) (by omega), ob_s, i3_i6 x0 x1, i3_i6 y0 y1, i3_i6 q0 q1, i6_mul, i6_mul, i6_add, e2, ob_s, q_gR h2.1 (k := 1) rfl, ob_s, r2, ob_s, ea, ob_s, bL_v, i6_sub, i6_mul, i6_add, e3, ob_s, q_gR h3.1 (k := 1) rfl, ob_s, r5, ob_s, i6_add, e4, ob_s, q_gR h4.1 (k := 1) rfl, ob_s, r6, ob_s, i6_add, e5, ob_s]
theorem fit_b {x y : Int} : 0 ≤ fo2 (fun a k n => a + ftL W H e x y k n) (0 : Int) K ∧ fo2 (fun a k n => a + ftL W H e x y k n) (0 : Int) K ≤ 10 * K := by
  refine fo_P (P := fun (k : Nat) (a : Int) => 0 ≤ a ∧ a ≤ 10 * k) ⟨by omega, by omega⟩ K fun k a hk ha => ?_
  have := fo_P (P := fun (n : Nat) (b : Int) => 0 ≤ b ∧ b ≤ a + n) (g := fun (b : Int) n => b + ftL W H e x y k n) (a := a) ⟨ha.1, by omega⟩ 10 (fun n b hn hb => by
    have := ftL_b (W := W) (H := H) (e := e) (x := x) (y := y) (k := k) (n := n)
    omega)
  show 0 ≤ fo (fun (b : Int) n => b + ftL W H e x y k n) a 10 ∧ fo (fun (b : Int) n => b + ftL W H e x y k n) a 10 ≤ 10 * ((k + 1 : Nat) : Int)
  omega
theorem sL_orders (h : LH m P K e r A W H S) (hn : LHn m P K) (ho : LHo K e r W H S) {x y q : Int} (x0 : 0 ≤ x) (x1 : x ≤ 2000) (y0 : 0 ≤ y) (y1 : y ≤ 2000) (q0 : 1 ≤ q) (q1 : q ≤ 9999) : ∃ m' A' S', jm_env (d + 13) 8 [.ref (P 0), .int (i3 x), .int (i3 y), .int (i3 q)] m = some (.inl (some (.int (i3 (if (fo2 (neG W H S e x y q) (-1, 9223372036854775807) K).1 < 0 then (if fo2 (fun a k n => a + ftL W H e x y k n) 0 K = 0 then -6 else -7) else (fo2 (neG W H S e x y q) (-1, 9223372036854775807) K).1)))), m') ∧ frK m m' (fun j => j = P 3 ∨ ∃ i, i < K ∧ j = P (7 + 4 * i)) 0 ∧ LH m' P K e r A' W H S' ∧
    ((fo2 (neG W H S e x y q) (-1, 9223372036854775807) K).1 < 0 → A' = A ∧ S' = S) ∧
    ∀ i n : Nat, i < K → n < 10 → (fo2 (neG W H S e x y q) (-1, 9223372036854775807) K).1 = 100 * (i : Int) + n → ∃ Z, S' = st2 S i Z ∧ orS A A' (S i) Z (W i) (H i) n x y q := by
  have hne := sL_nearest (d := d) h ho x0 x1 y0 y1 (by omega : 0 ≤ q) q1
  have hfi := sL_fitting (d := d + 9) h ho x0 x1 y0 y1
  have hP := neP_t (W := W) (H := H) (S := S) (e := e) (x := x) (y := y) (q := q) (K := K)
  generalize fo2 (neG W H S e x y q) (-1, 9223372036854775807) K = st at hne hP ⊢
  have hfb : 0 ≤ fo2 (fun a k n => a + ftL W H e x y k n) 0 K ∧ fo2 (fun a k n => a + ftL W H e x y k n) 0 K ≤ 10 * K := fit_b
  have hK := ho.1
  generalize fo2 (fun a k n => a + ftL W H e x y k n) 0 K = ft at hfi hfb ⊢
  rw [eL_orders _ _ _ _ _ _ (q_C h.1), bL_orders_0, hne, ob_s, bI_v]
  rcases hP with g | ⟨i, n, i1, n1, g1, g2, g3, g4⟩
  · rw [g]
    have e2 : jm_env (d + 12) 6 [.ref (P 0), .int (i3 x), .int (i3 y)] m = some (.inl (some (.int (i3 ft))), m) := hfi
    refine ⟨m, A, S, ?_, frK_0, h, fun _ => ⟨rfl, rfl⟩, fun i n _ _ q => absurd q (by show ¬ (-1 : Int) = _; omega)⟩
    rw [ie_le (by omega) (by omega) (by omega) (by omega), if_neg (by omega), if_pos (by omega), bL_orders_14, e2, ob_s, bI_v, ie_eq (by omega) (by omega) (by omega) (by omega)]
    by_cases z : ft = 0
    · rw [if_pos z, if_pos z, bL_orders_23, bL_orders_30]
    · rw [if_neg z, if_neg z, bL_orders_28, bL_orders_30]
  · have s := h.2.2.2 i i1
    have hk := ho.2.2.2.2.2 i i1
    have hw := okS_W hk
    have hnn : ∀ j : Nat, j < 10 → 0 ≤ S i j ∧ S i j ≤ 20000 := fun j hj => (hk j (by omega) (by omega)).2.2
    have hla := sup_la (W := W i) (H := H i) (S := S i) (n := n) (fun j hj => (hnn j (by omega)).1) q0 g3
    obtain ⟨gg1, gg2⟩ := LH_get (d := d + 10) h i1
    have e57 : jm_R (jm_env (d + 12)) jmM_L_orders 57 [some (.ref (P 0)), some (.int (i3 x)), some (.int (i3 y)), some (.int (i3 q)), some (.int (i3 st.1)), some (.ref (P (4 + 4 * i))), some (.int (i3 n))] [] m = (if i3 0 ≤ i3 st.1 then jm_R (jm_env (d + 12)) jmM_L_orders 31 [some (.ref (P 0)), some (.int (i3 x)), some (.int (i3 y)), some (.int (i3 q)), some (.int (i3 st.1)), none, none] [] m else jm_R (jm_env (d + 12)) jmM_L_orders 14 [some (.ref (P 0)), some (.int (i3 x)), some (.int (i3 y)), some (.int (i3 q)), some (.int (i3 st.1)), none, none] [] m) := by
      rw [ie_le (by omega) (by omega) (by omega) (by omega), if_pos (by omega), bL_orders_31, q_gR h.1 (k := 0) rfl, ob_s, i3_div (by omega) (by omega) (by omega) (by omega), show st.1 / 100 = (i : Int) by omega, gg1, ob_s, bR_w, if_pos gg2, i3_mul, i3_sub, show st.1 - (i : Int) * 100 = (n : Int) by omega]
    have main : ∃ m1 A1 S1, jm_R (jm_env (d + 12)) jmM_L_orders 57 [some (.ref (P 0)), some (.int (i3 x)), some (.int (i3 y)), some (.int (i3 q)), some (.int (i3 st.1)), some (.ref (P (4 + 4 * i))), some (.int (i3 n))] [] m = jm_R (jm_env (d + 12)) jmM_L_orders 82 [some (.ref (P 0)), some (.int (i3 x)), some (.int (i3 y)), some (.int (i3 q)), some (.int (i3 st.1)), some (.ref (P (4 + 4 * i))), some (.int (i3 n))] [] m1 ∧ LH m1 P K e r A1 W H (st2 S i S1) ∧ frK m m1 (fun j => j = P 3 ∨ j = P (7 + 4 * i)) 0 ∧
        (∀ k : Int, 0 ≤ k → k < 10 → S1 k = S i k + 2 * cuF (S i) q n (k - 1) - cuF (S i) q n k) ∧ A1 3 = A 3 + (if n = 0 then 0 else suC (S i) (stC (W i) (H i)) (n - 1) (cl q (S i n))) ∧ A1 4 = A 4 + (if n = 0 then 0 else suC (S i) (fun _ => 1) (n - 1) (cl q (S i n))) ∧ ∀ k : Int, k ≠ 3 → k ≠ 4 → A1 k = A k := by
      cases n with
      | zero =>
        have hla : q ≤ S i 0 := hla
        refine ⟨m, A, S i, ?_, by rw [st2_s]; exact h, frK_0, fun k k0 k1 => ?_, by rw [if_pos rfl, Int.add_zero], by rw [if_pos rfl, Int.add_zero], fun _ _ _ => rfl⟩
        · have hb0 := hnn 0 (by omega)
          rw [bL_orders_57, q_gR s.1 (k := 2) rfl, ob_s, q_aI s.2.2.2 (by omega) (by omega) (by omega), ob_s, ie_le (by omega) (by omega) (by omega) (by omega), if_pos (by exact hla)]
        · unfold cuF
          rw [if_neg (by omega), if_neg (by omega)]
          omega
      | succ N =>
        have hbN := hnn (N + 1) (by omega)
        have hcb : 0 ≤ cl q (S i ((N + 1 : Nat) : Int)) ∧ cl q (S i ((N + 1 : Nat) : Int)) ≤ 9999 := by unfold cl; omega
        have et : ((cl q (S i ((N + 1 : Nat) : Int))).toNat : Int) = cl q (S i ((N + 1 : Nat) : Int)) := by omega
        obtain ⟨m1, A1, S1, e1, h1, f1, p1, p2, p3, p4, p5⟩ := sL_oloop (d := d) (x := x) (y := y) (its := st.1) i1 hw (by omega) q0 q1 (cl q (S i ((N + 1 : Nat) : Int))).toNat h hn (fun k hk => by have := hnn k (by omega); omega) et.symm (by rw [et]; exact hla)
        rw [et] at p1 p2 p3 p4
        refine ⟨m1, A1, S1, e1, h1, f1, fun k k0 k1 => ?_, ?_, ?_, p5⟩
        · by_cases g : k ≤ N
          · obtain ⟨j, rfl⟩ : ∃ j : Nat, k = j := ⟨k.toNat, by omega⟩
            rw [p1 j (by omega)]
            unfold fnC cuF
            rw [if_pos (show 0 ≤ (j : Int) ∧ (j : Int) < ((N + 1 : Nat) : Int) by omega), neC_nd (by omega), ← nd_sh, show N - j + 1 = N + 1 - (j : Int).toNat by omega]
            by_cases z : j = 0
            · rw [if_pos z, if_neg (by omega)]
              omega
            · rw [if_neg z, if_pos (by omega), neC_nd (by omega), ← nd_sh, show N - (j - 1) + 1 = N + 1 - ((j : Int) - 1).toNat by omega]
              omega
          · rw [p2 k (by omega)]
            unfold cuF
            by_cases z : k = ((N + 1 : Nat) : Int)
            · rw [if_pos z, if_neg (show ¬ (0 ≤ k ∧ k < ((N + 1 : Nat) : Int)) by omega), if_pos (by omega), show N + 1 - (k - 1).toNat = 0 + 1 by omega, nd_sh]
              show _ = S i k + 2 * cl q (S i ((N + 1 : Nat) : Int)) - 0
              omega
            · rw [if_neg z, if_neg (by omega), if_neg (by omega)]
              omega
        · rw [if_neg (by omega)]; exact p3
        · rw [if_neg (by omega)]; exact p4
    obtain ⟨m1, A1, S1, e1, h1, f1, p1, p3, p4, p5⟩ := main
    obtain ⟨m2, e2, h2, f2⟩ := sL_otail (d := d + 11) (n := (n : Int)) (x := x) (y := y) (q := q) (its := st.1) h1 (LHn_fr hn f1) i1 hw (by omega) (by omega) ⟨by omega, by omega⟩ ⟨by omega, by omega⟩ ⟨by omega, by omega⟩
    rw [st2_i, st2_2] at h2
    refine ⟨m2, _, _, ?_, frK_m (frK_t (k := 0) (j := 0) f1 f2) (fun j _ q => q.imp id fun q => ⟨i, i1, q⟩) (Nat.le_refl _), h2, fun q => absurd q (by omega), fun i' n' _ n1' q' => ?_⟩
    · rw [← e57, e1, if_neg (by omega)]
      exact e2
    · have : i' = i := by omega
      subst this
      have : n' = n := by omega
      subst this
      refine ⟨_, rfl, fun k k0 k1 => ?_, ?_, ?_, ?_, ?_, ?_, ?_, ?_, ?_⟩
      · unfold st1
        by_cases z : k = (n' : Int)
        · rw [if_pos z, if_pos z, p1 _ (by omega) (by omega), z]
        · rw [if_neg z, if_neg z, p1 k k0 k1]; omega
      · show A1 1 + x * y * q = _; rw [p5 1 (by omega) (by omega)]
      · show A1 2 + _ = _; rw [p5 2 (by omega) (by omega)]
      · exact p3
      · exact p4
      · show A1 5 + 1 = _; rw [p5 5 (by omega) (by omega)]
      · show A1 6 + q = _; rw [p5 6 (by omega) (by omega)]
      · exact p5 0 (by omega) (by omega)
      · exact p5 7 (by omega) (by omega)
end LWH
