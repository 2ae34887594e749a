-- uses 24.zar 25.obj 26.ops 30.rd 31.re 34.gen 38.mod 39.mo2 40.mo3 44.mo6 45.mo7 46.mo8 47.mo9 49.mob 50.moc 51.moe 53.cla 62.clj 64.okm 67.okf 68.okg 55.clc e0.lwa e1.lwb e2.lwc e3.lwd e4.lwe e5.lwf e6.lwg e7.lwh e8.lwi
/-! What the law's own land does is what the numbers do. -/
section LWJ
variable {m m' : jm_Mem} {P : Nat → Nat} {d : Nat} {μ μ' : Nat → Int → Int} {A' : Int → Int} {S' : Nat → Int → Int}
theorem LM_of (h : LH m P (μ 412 0).toNat (μ 412 1) (μ 412 2) A' (wM μ) (hM μ) S') (h0 : μ' 412 0 = μ 412 0) (h1 : μ' 412 1 = μ 412 1) (h2 : μ' 412 2 = μ 412 2) (hA : ∀ k : Int, 0 ≤ k → k < 8 → A' k = μ' 412 (4 + k)) (hS : ∀ i : Nat, i < (μ 412 0).toNat → ∀ n : Int, 0 ≤ n → n < 10 → szM μ' i n = szM μ i n ∧ S' i n = kM μ' i n) : LM m P μ' := by
  unfold LM
  rw [h0]
  refine LH_cg h h1.symm h2.symm hA fun i hi n n0 n1 => ?_
  obtain ⟨e1, e2⟩ := hS i hi n n0 n1
  exact ⟨by show (szM μ i n).1 = (szM μ' i n).1; rw [e1], by show (szM μ i n).2 = (szM μ' i n).2; rw [e1], e2⟩
theorem LM_412 (h : LM m P μ) (e : ∀ k : Int, 0 ≤ k → k < 77 → μ' 412 k = μ 412 k) (hg : μ 412 0 ≤ 5) : LM m P μ' := by
  refine LM_of h (e 0 (by omega) (by omega)) (e 1 (by omega) (by omega)) (e 2 (by omega) (by omega)) (fun k k0 k1 => (e _ (by omega) (by omega)).symm) fun i hi n n0 n1 => ⟨?_, (e _ (by omega) (by omega)).symm⟩
  unfold szM
  rw [e _ (by omega) (by omega), e _ (by omega) (by omega)]
theorem trV_lo {r : Int} {u : Nat → Int → Int} (h : r < -1) : trV μ r u 412 = μ 412 := by
  unfold trV
  rw [if_pos h, up_b (by omega)]
theorem trV_hi {r : Int} {u : Nat → Int → Int} (h : ¬ r < -1) : trV μ r u 412 = u 412 := by
  unfold trV
  rw [if_neg h, kpV_b (by omega) (by omega)]
theorem byL_R {i : Nat} {n q : Int} (n1 : n < 10) : byL (wM μ i) (hM μ i) (kkM μ i) (μ 412 2) n q = byR μ i n q := by
  unfold byL byR
  show (if aM μ i n = 0 then (-3 : Int) else if 9999 < kM μ i n + q * μ 412 2 then -5 else kM μ i n + q * μ 412 2) = _
  by_cases g : aM μ i n = 0
  · rw [if_pos g, if_pos (Or.inr g)]
  · rw [if_neg g, if_neg (show ¬ (10 ≤ n ∨ aM μ i n = 0) from fun t => t.elim (fun t => by omega) g)]
theorem tL_buys {N : Int} (h : LM m P μ) (hn : LHn m P (μ 412 0).toNat) (ho : okM μ N) {i : Nat} {n q : Int} (hi : (i : Int) < μ 412 0) (n0 : 0 ≤ n) (n1 : n < 10) (q0 : 1 ≤ q) (q1 : q ≤ 99) : ∃ m', jm_env (d + 2) 9 [.ref (P 0), .ref (P (4 + 4 * i)), .int (i3 n), .int (i3 q)] m = some (.inl (some (.int (i3 (byR μ i n q)))), m') ∧ LM m' P (trV μ (byR μ i n q) (byV μ i n q)) ∧ frK m m' (fun j => ∃ i, i < 4 + 4 * (μ 412 0).toNat ∧ j = P i) 0 := by
  have hg := ho.1
  obtain ⟨m1, A1, S1, e1, h1, f1, p1⟩ := sL_buys (d := d) h hn (LM_o hg ho.2.1) (show i < (μ 412 0).toNat by omega) n0 n1 q0 q1
  rw [byL_R n1] at e1 p1
  refine ⟨m1, e1, ?_, frK_m f1 (fun j _ q => q.elim (fun q => ⟨3, by omega, q⟩) fun q => ⟨7 + 4 * i, by omega, q⟩) (Nat.le_refl _)⟩
  have hb : 0 ≤ kM μ i n ∧ 0 ≤ q * μ 412 2 := ⟨((hg.2.2.2.2 i (by omega) hi).2 n n0 n1).1, Int.mul_nonneg (by omega) (by have := ho.2.1.1; omega)⟩
  have hr : byR μ i n q < -1 ↔ byR μ i n q < 0 := by unfold byR; split; omega; split <;> omega
  have hc := hg.2.1
  by_cases g : byR μ i n q < 0
  · rw [if_pos g] at p1
    cases p1
    rw [st2_s] at h1
    exact LM_412 h1 (fun k _ _ => by rw [trV_lo (hr.mpr g)]) hc
  · rw [if_neg g] at p1
    cases p1
    have gv : byV μ i n q = up (up (up μ 412 (12 + 13 * i + 3 + n) (kM μ i n + q * μ 412 2)) 412 4 (μ 412 4 + q * μ 412 2 * aM μ i n)) 412 11 (μ 412 11 + q) := if_neg fun t => g (hr.mp t)
    refine LM_of h1 ?_ ?_ ?_ (fun k k0 k1 => ?_) fun j hj n' n0' n1' => ?_
    · rw [trV_hi fun t => g (hr.mp t), gv, up_ne (by omega), up_ne (by omega), up_ne (by omega)]
    · rw [trV_hi fun t => g (hr.mp t), gv, up_ne (by omega), up_ne (by omega), up_ne (by omega)]
    · rw [trV_hi fun t => g (hr.mp t), gv, up_ne (by omega), up_ne (by omega), up_ne (by omega)]
    · rw [trV_hi fun t => g (hr.mp t), gv]
      unfold st1
      by_cases c7 : k = 7
      · subst c7; rw [if_pos rfl, show (4 : Int) + 7 = 11 from rfl, up_eq]
      · rw [if_neg c7, up_ne (by omega)]
        by_cases c0 : k = 0
        · subst c0
          rw [if_pos rfl, show (4 : Int) + 0 = 4 from rfl, up_eq]
          show μ 412 4 + aM μ i n * q * μ 412 2 = _
          rw [Int.mul_assoc, Int.mul_comm (aM μ i n)]
        · rw [if_neg c0, up_ne (by omega), up_ne (by omega)]
    · have e412 : ∀ k : Int, trV μ (byR μ i n q) (byV μ i n q) 412 k = up (up (up μ 412 (12 + 13 * i + 3 + n) (kM μ i n + q * μ 412 2)) 412 4 (μ 412 4 + q * μ 412 2 * aM μ i n)) 412 11 (μ 412 11 + q) 412 k := fun k => by rw [trV_hi fun t => g (hr.mp t), gv]
      constructor
      · unfold szM
        rw [e412, e412, up_ne (by omega), up_ne (by omega), up_ne (by omega), up_ne (by omega), up_ne (by omega), up_ne (by omega)]
      · show _ = trV μ (byR μ i n q) (byV μ i n q) 412 (12 + 13 * j + 3 + n')
        rw [e412, up_ne (by omega), up_ne (by omega)]
        unfold st2
        by_cases c : j = i
        · rw [if_pos c]
          subst c
          unfold st1
          by_cases c2 : n' = n
          · rw [if_pos c2, c2, up_eq]
          · rw [if_neg c2, up_ne (by omega)]; rfl
        · rw [if_neg c, up_ne (by omega)]; rfl
theorem ctL_R {i : Nat} {n q : Int} (n1 : n < 10) : ctL (wM μ i) (hM μ i) (kkM μ i) n q = ctR μ i n q := by
  unfold ctL ctR
  show (if aM μ i n = 0 ∨ ¬ (n < 9 ∧ aM μ i (n + 1) ≠ 0) then (-3 : Int) else if kM μ i n < q then -4 else if 9999 < kM μ i (n + 1) + 2 * q then -5 else kM μ i (n + 1) + 2 * q) = _
  by_cases g : aM μ i n = 0 ∨ ¬ (n < 9 ∧ aM μ i (n + 1) ≠ 0)
  · rw [if_pos g, if_pos (by omega)]
  · rw [if_neg g, if_neg (show ¬ ((10 ≤ n ∨ aM μ i n = 0) ∨ (10 ≤ n + 1 ∨ aM μ i (n + 1) = 0)) from fun t => g (by omega))]
theorem tL_cuts {N : Int} (h : LM m P μ) (hn : LHn m P (μ 412 0).toNat) (ho : okM μ N) {i : Nat} {n q : Int} (hi : (i : Int) < μ 412 0) (n0 : 0 ≤ n) (n1 : n < 10) (q0 : 1 ≤ q) (q1 : q ≤ 9999) : ∃ m', jm_env (d + 12) 10 [.ref (P 0), .ref (P (4 + 4 * i)), .int (i3 n), .int (i3 q)] m = some (.inl (some (.int (i3 (ctR μ i n q)))), m') ∧ LM m' P (trV μ (ctR μ i n q) (ctV μ i n q)) ∧ frK m m' (fun j => ∃ i, i < 4 + 4 * (μ 412 0).toNat ∧ j = P i) 0 := by
  have hg := ho.1
  obtain ⟨m1, A1, S1, e1, h1, f1, p1⟩ := sL_cuts (d := d) h hn (LM_o hg ho.2.1) (show i < (μ 412 0).toNat by omega) n0 n1 q0 q1
  rw [ctL_R n1] at e1 p1
  refine ⟨m1, e1, ?_, frK_m f1 (fun j _ q => q.elim (fun q => ⟨3, by omega, q⟩) fun q => ⟨7 + 4 * i, by omega, q⟩) (Nat.le_refl _)⟩
  have hr : ctR μ i n q < -1 ↔ ctR μ i n q < 0 := by
    unfold ctR
    split
    · omega
    · next g =>
      have := ((hg.2.2.2.2 i (by omega) hi).2 (n + 1) (by omega) (by omega)).1
      split
      · omega
      · split <;> omega
  have hc := hg.2.1
  by_cases g : ctR μ i n q < 0
  · rw [if_pos g] at p1
    cases p1
    rw [st2_s] at h1
    exact LM_412 h1 (fun k _ _ => by rw [trV_lo (hr.mpr g)]) hc
  · rw [if_neg g] at p1
    have p2 := congrArg Prod.fst p1
    have p3 := congrArg Prod.snd p1
    dsimp only at p2 p3
    have n9 : n < 9 := by
      unfold ctR at g
      split at g
      · omega
      · omega
    have e412 : ∀ k : Int, trV μ (ctR μ i n q) (ctV μ i n q) 412 k = up (up (up (up μ 412 (12 + 13 * i + 3 + n) (kM μ i n - q)) 412 (12 + 13 * i + 3 + (n + 1)) (kM μ i (n + 1) + 2 * q)) 412 7 (μ 412 7 + q * (aM μ i n - 2 * aM μ i (n + 1)))) 412 8 (μ 412 8 + q) 412 k := fun k => by
      rw [trV_hi fun t => g (hr.mp t)]
      unfold ctV
      rw [if_neg fun t => g (hr.mp t)]
    refine LM_of h1 ?_ ?_ ?_ (fun k k0 k1 => ?_) fun j hj n' n0' n1' => ?_
    · rw [e412, up_ne (by omega), up_ne (by omega), up_ne (by omega), up_ne (by omega)]
    · rw [e412, up_ne (by omega), up_ne (by omega), up_ne (by omega), up_ne (by omega)]
    · rw [e412, up_ne (by omega), up_ne (by omega), up_ne (by omega), up_ne (by omega)]
    · rw [e412, p3]
      show (if k = 4 then μ 412 (4 + 4) + q else if k = 3 then μ 412 (4 + 3) + q * (aM μ i n - 2 * aM μ i (n + 1)) else μ 412 (4 + k)) = _
      by_cases c4 : k = 4
      · subst c4; rw [if_pos rfl, show (4 : Int) + 4 = 8 from rfl, up_eq]
      · rw [if_neg c4, up_ne (by omega)]
        by_cases c3 : k = 3
        · subst c3; rw [if_pos rfl, show (4 : Int) + 3 = 7 from rfl, up_eq]
        · rw [if_neg c3, up_ne (by omega), up_ne (by omega), up_ne (by omega)]
    · constructor
      · unfold szM
        rw [e412, e412, up_ne (by omega), up_ne (by omega), up_ne (by omega), up_ne (by omega), up_ne (by omega), up_ne (by omega), up_ne (by omega), up_ne (by omega)]
      · show _ = trV μ (ctR μ i n q) (ctV μ i n q) 412 (12 + 13 * j + 3 + n')
        rw [e412, up_ne (by omega), up_ne (by omega), p2]
        unfold st2
        by_cases c : j = i
        · rw [if_pos c]
          subst c
          show (if n' = n + 1 then kM μ j (n + 1) + 2 * q else if n' = n then kM μ j n - q else kM μ j n') = _
          by_cases c2 : n' = n + 1
          · rw [if_pos c2, c2, up_eq]
          · rw [if_neg c2, up_ne (by omega)]
            by_cases c3 : n' = n
            · rw [if_pos c3, c3, up_eq]
            · rw [if_neg c3, up_ne (by omega)]; rfl
        · rw [if_neg c, up_ne (by omega), up_ne (by omega)]; rfl
theorem su_fo {S : Int → Int} {g : Nat → Int} : ∀ {N : Nat} {c : Int}, suC S g N c = fo (fun (a : Int) k => a + neC S N c k * g k) 0 (N + 1) := by
  intro N
  induction N with
  | zero => intro c; show c * g 0 = 0 + c * g 0; omega
  | succ N ih =>
    intro c
    show c * g (N + 1) + suC S g N (cl c (S ((N + 1 : Nat) : Int))) = fo (fun (a : Int) k => a + neC S (N + 1) c k * g k) 0 (N + 1) + neC S (N + 1) c (N + 1) * g (N + 1)
    rw [ih, neC_N, fo_congr (g' := fun (a : Int) k => a + neC S (N + 1) c k * g k) (N + 1) (fun k x hk => by rw [neC_s (by omega)])]
    omega
theorem cuS_su {K : Int → Int} {q : Int} : ∀ {N : Nat} , cuS K q (N + 1) (N + 1) = suC K (fun _ => 1) N (cl q (K ((N + 1 : Nat) : Int))) := by
  have a : ∀ (N : Nat) (q : Int) (j : Nat), cuS K q (N + 1) (j + 1) = cl q (K ((N + 1 : Nat) : Int)) + cuS K (cl q (K ((N + 1 : Nat) : Int))) N j := by
    intro N q j
    induction j with
    | zero =>
      show 0 + nd K q (N + 1) 1 = _ + 0
      rw [show (1 : Nat) = 0 + 1 from rfl, nd_sh]
      show 0 + cl q (K ((N + 1 : Nat) : Int)) = cl q (K ((N + 1 : Nat) : Int)) + 0
      omega
    | succ j ih =>
      show cuS K q (N + 1) (j + 1) + nd K q (N + 1) (j + 1 + 1) = cl q (K ((N + 1 : Nat) : Int)) + (cuS K (cl q (K ((N + 1 : Nat) : Int))) N j + nd K (cl q (K ((N + 1 : Nat) : Int))) N (j + 1))
      rw [ih, nd_sh]
      omega
  have b : ∀ (N : Nat) (c : Int), c + cuS K c N N = suC K (fun _ => 1) N c := by
    intro N
    induction N with
    | zero => intro c; show c + 0 = c * 1; omega
    | succ N ih =>
      intro c
      rw [a]
      show c + (_ + cuS K _ N N) = c * 1 + suC K (fun _ => 1) N (cl c (K ((N + 1 : Nat) : Int)))
      rw [ih, Int.mul_one]
  intro N
  rw [a, b]
theorem cuF_ne {K : Int → Int} {q : Int} {N k : Nat} (hk : k ≤ N) : cuF K q (N + 1) k = neC K N (cl q (K ((N + 1 : Nat) : Int))) k := by
  unfold cuF
  rw [if_pos (show 0 ≤ (k : Int) ∧ (k : Int) < ((N + 1 : Nat) : Int) by omega), neC_nd hk, ← nd_sh, show N - k + 1 = N + 1 - (k : Int).toNat by omega]
theorem fo_cut {f : Nat → Int} {n : Nat} : ∀ m : Nat, (∀ k, n ≤ k → f k = 0) → fo (fun (a : Int) k => a + f k) 0 (n + m) = fo (fun (a : Int) k => a + f k) 0 n := by
  intro m
  induction m with
  | zero => intro _; rfl
  | succ m ih =>
    intro h
    show fo (fun (a : Int) k => a + f k) 0 (n + m) + f (n + m) = _
    rw [ih h, h _ (by omega), Int.add_zero]
theorem fs_su {i : Nat} {q : Int} {n : Nat} (hn : n < 10) : fsS μ i q n = if n = 0 then 0 else suC (kkM μ i) (stC (wM μ i) (hM μ i)) (n - 1) (cl q (kkM μ i n)) := by
  have e1 : fsS μ i q n = fo (fun (a : Int) (k : Nat) => a + cuF (kM μ i) q n k * stC (wM μ i) (hM μ i) k) 0 10 := by
    unfold fsS
    refine fo_congr 10 fun k x hk => ?_
    unfold strM
    congr 1
    split
    · next g => rw [g, Int.zero_mul]
    · rfl
  rw [e1, show (10 : Nat) = n + (10 - n) by omega, fo_cut (f := fun k => cuF (kM μ i) q n k * stC (wM μ i) (hM μ i) k) _ (fun k hk => by
    rw [show cuF (kM μ i) q n k = 0 from if_neg (by omega), Int.zero_mul])]
  cases n with
  | zero => rfl
  | succ N =>
    rw [if_neg (by omega), su_fo]
    refine fo_congr (N + 1) fun k x hk => ?_
    rw [cuF_ne (by omega)]
    rfl
theorem cu_su {i : Nat} {q : Int} {n : Nat} : cuS (kM μ i) q n n = if n = 0 then 0 else suC (kkM μ i) (fun _ => 1) (n - 1) (cl q (kkM μ i n)) := by
  cases n with
  | zero => rfl
  | succ N => rw [if_neg (by omega), cuS_su]; rfl
theorem kpsV_o {v : Nat → Int → Int} {a b q k : Int} (h3 : k ≠ 3) (h : k < 77) (hp : 0 ≤ v 412 3) : kpsV v a b q 412 k = v 412 k := by
  unfold kpsV
  split
  · split
    · rfl
    · rw [up_ne (by omega), up_ne (by omega), up_ne (by omega), up_ne (by omega)]
  · next g =>
    have : 0 ≤ prF v a b := by
      have := fnd_P (p := fun k : Nat => v 412 (77 + 3 * k) = a ∧ v 412 (77 + 3 * k + 1) = b) (G := fun k => (k : Int)) (e := -1) (P := fun x => x = -1 ∨ 0 ≤ x) (v 412 3).toNat 0 (Or.inl rfl) (fun j _ _ _ => Or.inr (by omega))
      exact this.resolve_left g
    rw [up_ne (by omega)]
theorem tL_orders {N : Int} (h : LM m P μ) (hn : LHn m P (μ 412 0).toNat) (ho : okM μ N) {x y q : Int} (x0 : 1 ≤ x) (x1 : x ≤ 2000) (y0 : 1 ≤ y) (y1 : y ≤ 2000) (q0 : 1 ≤ q) (q1 : q ≤ 999) : ∃ m', jm_env (d + 13) 8 [.ref (P 0), .int (i3 x), .int (i3 y), .int (i3 q)] m = some (.inl (some (.int (i3 (flR μ x y q)))), m') ∧ LM m' P (trV μ (flR μ x y q) (flV μ x y q)) ∧ frK m m' (fun j => ∃ i, i < 4 + 4 * (μ 412 0).toNat ∧ j = P i) 0 := by
  have hg := ho.1
  have hc := hg.2.1
  have hpr := ho.2.2.2.1
  obtain ⟨m1, A1, S1, e1, f1, h1, p1, p2⟩ := sL_orders (d := d) h hn (LM_o hg ho.2.1) (x := x) (y := y) (q := q) (by omega) x1 (by omega) y1 q0 (by omega)
  rw [ne_same hg x0 y0] at e1 p1 p2
  have hf : fo2 (fun (a : Int) k n => a + ftL (wM μ) (hM μ) (μ 412 1) x y k n) 0 (μ 412 0).toNat = fo2 (fitG μ x y) 0 (μ 412 0).toNat := fo2_congr _ fun k n a hk hn => by rw [ft_I (by omega) (by omega)]; rfl
  rw [hf] at e1
  have hP := nrM_P (v := μ) (pw := x) (ph := y) (num := q) (x := -1)
  refine ⟨m1, ?_, ?_, frK_m f1 (fun j _ q => q.elim (fun q => ⟨3, by omega, q⟩) fun ⟨i, hi, q⟩ => ⟨7 + 4 * i, by omega, q⟩) (Nat.le_refl _)⟩
  · rw [e1]
    unfold flR
    by_cases g : (nrA μ x y q).1 = -1
    · rw [if_pos g, if_pos (by omega), if_pos g]
    · have := hP.resolve_left g
      have hP' : 0 ≤ (nrA μ x y q).1 ∧ (nrA μ x y q).1 < μ 412 0 ∧ 0 ≤ (nrA μ x y q).2 ∧ (nrA μ x y q).2 < 10 := this
      rw [if_neg g, if_neg (by omega), if_neg g]
  · by_cases g : (nrA μ x y q).1 = -1
    · obtain ⟨a1, a2⟩ := p1 (by rw [if_pos g]; omega)
      rw [a1, a2] at h1
      refine LM_412 h1 (fun k _ _ => ?_) hc
      rw [trV_lo]
      unfold flR
      rw [if_pos g]
      split <;> omega
    · have hP' : 0 ≤ (nrA μ x y q).1 ∧ (nrA μ x y q).1 < μ 412 0 ∧ 0 ≤ (nrA μ x y q).2 ∧ (nrA μ x y q).2 < 10 := hP.resolve_left g
      rw [if_neg g] at p1 p2
      have er : ¬ flR μ x y q < -1 := by unfold flR; rw [if_neg g]; omega
      have ev : flV μ x y q = kpsV (flU μ (nrA μ x y q).1 (nrA μ x y q).2.toNat x y q) x y q := if_neg g
      generalize hi : (nrA μ x y q).1 = I at *
      generalize hj : (nrA μ x y q).2 = J at *
      obtain ⟨i, rfl⟩ : ∃ i : Nat, I = i := ⟨I.toNat, by omega⟩
      obtain ⟨n, rfl⟩ : ∃ n : Nat, J = n := ⟨J.toNat, by omega⟩
      rw [Int.toNat_natCast] at ev
      obtain ⟨Z, z1, z2, z3, z4, z5, z6, z7, z8, z9, z10⟩ := p2 i n (by omega) (by omega) rfl
      have h3 : flU μ i n x y q 412 3 = μ 412 3 := flU_o (by omega) (by omega) (by omega) (by omega) (by omega) (by omega) (by omega) (by omega)
      have e412 : ∀ k : Int, k ≠ 3 → k < 77 → trV μ (flR μ x y q) (flV μ x y q) 412 k = flU μ i n x y q 412 k := fun k k3 k77 => by
        rw [trV_hi er, ev, kpsV_o k3 k77 (by rw [h3]; exact hpr.1)]
      have eo : ∀ k : Int, k < 5 ∨ k = 11 → k ≠ 3 → trV μ (flR μ x y q) (flV μ x y q) 412 k = μ 412 k := fun k hk k3 => by
        rw [e412 k k3 (by omega), flU_o (by omega) (by omega) (by omega) (by omega) (by omega) (by omega) (by omega) (by omega)]
      refine LM_of h1 (eo 0 (by omega) (by omega)) (eo 1 (by omega) (by omega)) (eo 2 (by omega) (by omega)) (fun k k0 k1 => ?_) fun j hj' n' n0' n1' => ?_
      · have hk : k = 0 ∨ k = 1 ∨ k = 2 ∨ k = 3 ∨ k = 4 ∨ k = 5 ∨ k = 6 ∨ k = 7 := by omega
        rcases hk with rfl | rfl | rfl | rfl | rfl | rfl | rfl | rfl
        · rw [z9, eo _ (by omega) (by omega)]
        · rw [z3, e412 _ (by omega) (by omega)]
          unfold flU
          rw [up_ne (by omega), up_ne (by omega), up_ne (by omega), show (4 : Int) + 1 = 5 from rfl, up_eq]
          rfl
        · rw [z4, e412 _ (by omega) (by omega)]
          unfold flU
          rw [up_ne (by omega), up_ne (by omega), show (4 : Int) + 2 = 6 from rfl, up_eq]
          rfl
        · rw [z5, e412 _ (by omega) (by omega), ← fs_su (by omega)]
          unfold flU
          rw [up_ne (by omega), up_ne (by omega), up_ne (by omega), up_ne (by omega), flo_ne (by omega), show (4 : Int) + 3 = 7 from rfl, up_eq]
          rfl
        · rw [z6, e412 _ (by omega) (by omega), ← cu_su]
          unfold flU
          rw [up_ne (by omega), up_ne (by omega), up_ne (by omega), up_ne (by omega), flo_ne (by omega), up_ne (by omega), show (4 : Int) + 4 = 8 from rfl, up_eq]
          rfl
        · rw [z7, e412 _ (by omega) (by omega)]
          unfold flU
          rw [up_ne (by omega), show (4 : Int) + 5 = 9 from rfl, up_eq]
          rfl
        · rw [z8, e412 _ (by omega) (by omega)]
          unfold flU
          rw [show (4 : Int) + 6 = 10 from rfl, up_eq]
          rfl
        · rw [z10, eo _ (by omega) (by omega)]
      · constructor
        · unfold szM
          rw [e412 _ (by omega) (by omega), e412 _ (by omega) (by omega), flU_o (by omega) (by omega) (by omega) (by omega) (by omega) (by omega) (by omega) (by omega), flU_o (by omega) (by omega) (by omega) (by omega) (by omega) (by omega) (by omega) (by omega)]
        · show _ = trV μ (flR μ x y q) (flV μ x y q) 412 (12 + 13 * j + 3 + n')
          rw [e412 _ (by omega) (by omega), z1]
          show _ = kM (flU μ i n x y q) j n'
          rw [flU_k (by omega) (by omega) (by omega) n0' n1']
          unfold st2
          by_cases c : j = i
          · rw [if_pos c, if_pos (by omega), z2 n' n0' n1']
            rfl
          · rw [if_neg c, if_neg (by omega)]
end LWJ
