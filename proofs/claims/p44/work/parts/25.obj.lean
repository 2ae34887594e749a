-- uses 07.rel 24.zar
/-! The memory of a run: fixed objects, by name; what lies in them are numbers. -/
/-- a cell's shape: an array (kind, length, the names in it), or an object (its class, its fields: kind 0 int, 2 long, 3 a name) -/
abbrev pl_S : Type := (Nat × Nat × List Nat) ⊕ (Nat × List (Nat × Nat))
def pl_v (kd x : Nat) (z : Int) : Value := if kd = 3 then .ref x else if kd = 2 then .long (i6 z) else .int (i3 z)
def pl_fl (k : Nat) : List (Nat × Nat) → (Int → Int) → List Value
  | [], _ => []
  | e :: r, f => pl_v e.1 e.2 (f k) :: pl_fl (k + 1) r f
def pl_e (s : pl_S) (f : Int → Int) : jm_Ent := match s with
  | .inl (t, n, rs) => if t = 2 then .inl (2, n, .inr (.inl fun k : Nat => i6 (f k))) else if t = 3 then .inl (3, n, .inr (.inr (.inr (.inl fun k : Nat => d6 (f k))))) else if t = 4 ∨ t = 5 then .inl (t, n, .inr (.inr (.inr (.inr fun k : Nat => rs[k]?)))) else .inl (t, n, .inl fun k : Nat => i3 (f k))
  | .inr (c, fl) => .inr (c, pl_fl 0 fl f)
theorem pl_fl_get : ∀ (fl : List (Nat × Nat)) (k i : Nat) (f : Int → Int), (pl_fl k fl f)[i]? = (fl[i]?).map fun e => pl_v e.1 e.2 (f ((k + i : Nat) : Int)) := by
  intro fl
  induction fl with
  | nil => intro k i f; rfl
  | cons e r ih =>
    intro k i f
    cases i with
    | zero => rfl
    | succ i =>
      show (pl_fl (k + 1) r f)[i]? = (r[i]?).map _
      rw [ih, show k + 1 + i = k + (i + 1) by omega]
theorem pl_fl_len : ∀ (fl : List (Nat × Nat)) (k : Nat) (f : Int → Int), (pl_fl k fl f).length = fl.length := by
  intro fl
  induction fl with
  | nil => intro k f; rfl
  | cons e r ih => intro k f; show (pl_fl (k + 1) r f).length + 1 = r.length + 1; rw [ih]
theorem pl_fl_set {fl : List (Nat × Nat)} {i kd x : Nat} {f g : Int → Int} {z : Int} (h : fl[i]? = some (kd, x)) (h3 : kd ≠ 3) (hz : g i = z) (hg : ∀ j : Nat, j ≠ i → g j = f j) : (pl_fl 0 fl f).set i (pl_v kd x z) = pl_fl 0 fl g := by
  apply List.ext_getElem?
  intro j
  rw [List.getElem?_set, pl_fl_get, pl_fl_get, pl_fl_len]
  by_cases e : i = j
  · subst e
    have hl : i < fl.length := (List.getElem?_eq_some_iff.mp h).1
    rw [if_pos rfl, if_pos hl, h]
    show some _ = some _
    rw [Nat.zero_add, hz]
  · rw [if_neg e, Nat.zero_add, hg j (fun q => e q.symm)]
/-- the shapes of a land at b -/
def pl_ser (a : Nat) : List pl_S := [.inr (9, [(3, a + 1), (0, 0), (3, a + 2), (3, a + 3), (3, a + 4)]), .inl (0, 6, []), .inl (0, 10, []), .inl (0, 10, []), .inl (0, 10, [])]
def pl_lnd (b : Nat) : List pl_S := [.inr (4, [(0, 0), (0, 0), (0, 0), (3, b + 1), (3, b + 2), (3, b + 6)]), .inl (4, 5, [b + 7, b + 12, b + 17, b + 22, b + 27]), .inr (6, [(3, b + 3), (3, b + 4), (3, b + 5), (0, 0)]), .inl (0, 30, []), .inl (0, 30, []), .inl (0, 30, []), .inl (2, 8, [])] ++ (pl_ser (b + 7) ++ (pl_ser (b + 12) ++ (pl_ser (b + 17) ++ (pl_ser (b + 22) ++ pl_ser (b + 27)))))
def pl_hls : List Nat := [80, 112, 144, 176, 208, 240, 272, 304]
def pl_sls : List Nat := [347, 379]
def pl_lands : List Nat := 14 :: 46 :: (pl_hls ++ pl_sls)
/-- all shapes: PaperLand 0, text 1, written 3, reader 5, setupReader 6, script 8, land 14, draft 46, history 78, slots 336, isSaved 337, refusals 338, plan 339, cuts 340, folding 342; the reference 411; the law's rows 429, 430 -/
def pl_shL : List pl_S := [.inr (11, [(3, 1), (3, 3), (3, 5), (3, 6), (3, 8), (3, 14), (3, 46), (3, 78), (3, 336), (3, 337), (3, 338), (3, 339), (3, 342), (0, 0)]),
  .inr (0, [(3, 2), (0, 0)]), .inl (0, 600, []), .inr (0, [(3, 4), (0, 0)]), .inl (0, 650, []), .inr (7, [(3, 1), (0, 0), (0, 0), (0, 0), (0, 0), (0, 0), (0, 0)]), .inr (10, [(3, 5), (3, 7)]), .inl (1, 10, []),
  .inr (8, [(3, 9), (3, 10), (3, 11), (3, 12), (3, 13), (0, 0)]), .inl (0, 30, []), .inl (0, 30, []), .inl (0, 30, []), .inl (0, 30, []), .inl (0, 30, [])] ++ (pl_lnd 14 ++ (pl_lnd 46 ++
  ([.inr (3, [(3, 79), (0, 0), (0, 0)]), .inl (5, 8, pl_hls)] ++ (pl_lnd 80 ++ (pl_lnd 112 ++ (pl_lnd 144 ++ (pl_lnd 176 ++ (pl_lnd 208 ++ (pl_lnd 240 ++ (pl_lnd 272 ++ (pl_lnd 304 ++
  ([.inl (5, 2, pl_sls), .inl (1, 2, []), .inl (0, 6, []), .inr (5, [(3, 340), (0, 0), (0, 0), (0, 0), (0, 0), (0, 0), (0, 0), (0, 0), (0, 0), (0, 0)]), .inr (1, [(3, 341), (0, 0), (2, 0)]), .inl (0, 10, []),
  .inr (2, [(0, 0), (0, 0), (0, 0), (3, 343), (3, 344), (3, 345), (3, 346)]), .inl (1, 5, []), .inl (0, 32, []), .inl (0, 32, []), .inl (0, 64, [])] ++ (pl_lnd 347 ++ (pl_lnd 379 ++
  [.inr (12, [(3, 412), (3, 413), (3, 414), (3, 415), (3, 416), (3, 417), (3, 418), (0, 0), (0, 0), (0, 0), (0, 0), (0, 0), (0, 0), (3, 419), (3, 420), (3, 421), (0, 0), (0, 0), (0, 0), (0, 0), (0, 0), (0, 0), (0, 0), (0, 0), (0, 0), (0, 0), (2, 0), (0, 0), (0, 0), (0, 0), (0, 0), (0, 0), (3, 422), (3, 423), (0, 0), (0, 0), (3, 424), (0, 0), (0, 0), (3, 425), (3, 426), (3, 427), (3, 428), (0, 0)]), .inl (2, 167, []), .inl (2, 167, []), .inl (2, 167, []), .inl (2, 1336, []), .inl (2, 334, []), .inl (1, 2, []), .inl (0, 6, []), .inl (2, 10, []), .inl (0, 600, []), .inl (0, 600, []), .inl (0, 4, []), .inl (0, 4, []), .inl (1, 5, []), .inl (0, 1024, []), .inl (0, 32, []), .inl (0, 32, []), .inl (0, 800, []), .inl (2, 1, []), .inl (3, 1, [])]))))))))))))))
def pl_sh (n : Nat) : pl_S := if n < 431 then pl_shL.getD n (.inl (1, 10, [])) else .inl (1, 10, [])
/-- what no later call needs -/
def pl_scr (n : Nat) (k : Int) : Bool := if n = 0 then decide (k = 13) else if n = 5 then decide (1 ≤ k ∧ k ≤ 4) else if n = 411 then ([8, 9, 10, 11, 12, 17, 18, 19, 20, 21, 22, 23, 26, 27, 28, 29, 30, 31, 34, 35, 37, 38]).contains k.toNat else if n < 431 then ([7, 8, 9, 10, 11, 12, 13, 339, 340, 341, 342, 343, 344, 345, 346, 413, 414, 419, 421, 422, 423, 424, 425, 426, 427, 429, 430]).contains n else true
def pl_q (v w : Nat → Int → Int) (n : Nat) (k : Int) : Int := if pl_scr n k = true then w n k else v n k
def pl_sp (X : Nat × (Nat → Int32)) (n : Nat) : jm_Ent := if n = jm_scr then .inl (8, X.1, .inl X.2) else if jm_str ≤ n ∧ n < jm_str + 7 then jm_sE (n - jm_str) else if n = jm_dcp then jm_dcE else if n = jm_dgt then jm_dgE (fun i => i / 10) else if n = jm_dgo then jm_dgE (fun i => i % 10) else jm_bad
def pl_H (X : Nat × (Nat → Int32)) (v w : Nat → Int → Int) (N : Nat) (n : Nat) : jm_Ent := if n < N then pl_e (pl_sh n) (pl_q v w n) else pl_sp X n
def qM (X : Nat × (Nat → Int32)) (v w : Nat → Int → Int) (T c s : Nat) : jm_Mem := (411 + T, pl_H X v w (411 + T), c, s)
def up (v : Nat → Int → Int) (n : Nat) (k z : Int) : Nat → Int → Int := fun n' k' => if n' = n ∧ k' = k then z else v n' k'
theorem up_eq {v : Nat → Int → Int} {n : Nat} {k z : Int} : up v n k z n k = z := if_pos ⟨rfl, rfl⟩
theorem up_ne {v : Nat → Int → Int} {n n' : Nat} {k k' z : Int} (h : n' ≠ n ∨ k' ≠ k) : up v n k z n' k' = v n' k' := if_neg (by omega)
section OPS
variable {X : Nat × (Nat → Int32)} {v w : Nat → Int → Int} {T c s : Nat} {a ci k x : Nat} {fl : List (Nat × Nat)} {z : Int} {t n : Nat} {rs : List Nat}
theorem qM_at (h : a < 411 + T) : (qM X v w T c s).2.1 a = pl_e (pl_sh a) (pl_q v w a) := if_pos h
theorem qq_v {n : Nat} {k : Int} (h : pl_scr n k = false) : pl_q v w n k = v n k := by unfold pl_q; rw [h]; rfl
theorem qq_w {n : Nat} {k : Int} (h : pl_scr n k = true) : pl_q v w n k = w n k := by unfold pl_q; rw [h]; rfl
theorem up_q {n : Nat} {k : Int} (h : pl_scr n k = false) : pl_q (up v n k z) w = up (pl_q v w) n k z := by
  funext n' k'
  unfold pl_q up
  by_cases e : n' = n ∧ k' = k
  · obtain ⟨rfl, rfl⟩ := e
    simp [h]
  · simp [e]
theorem up_p {n : Nat} {k : Int} (h : pl_scr n k = true) : pl_q v (up w n k z) = up (pl_q v w) n k z := by
  funext n' k'
  unfold pl_q up
  by_cases e : n' = n ∧ k' = k
  · obtain ⟨rfl, rfl⟩ := e
    simp [h]
  · simp [e]
/-- two memories are the same where the numbers are -/
theorem qM_up {v' w' : Nat → Int → Int} {e : jm_Ent} (h : a < 411 + T) (he : e = pl_e (pl_sh a) (pl_q v' w' a)) (hq : ∀ n : Nat, n ≠ a → pl_q v' w' n = pl_q v w n) : jm_up (qM X v w T c s) a e = qM X v' w' T c s := by
  show (411 + T, va_up (pl_H X v w (411 + T)) a e, c, s) = (411 + T, pl_H X v' w' (411 + T), c, s)
  congr 2
  funext n
  unfold va_up pl_H
  by_cases hn : n = a
  · subst hn
    rw [if_pos rfl, if_pos h, he]
  · rw [if_neg hn, hq n hn]
theorem g_I (h : a < 411 + T) (hs : pl_sh a = .inr (ci, fl)) (hk : fl[k]? = some (0, x)) : jm_gI (qM X v w T c s) a ci k = some (i3 (pl_q v w a k)) := by
  unfold jm_gI
  rw [qM_at h, hs]
  show (if ci = ci then (match (pl_fl 0 fl (pl_q v w a))[k]? with | some (.int x) => some x | _ => none) else none) = _
  rw [if_pos rfl, pl_fl_get, hk, Nat.zero_add]
  rfl
theorem g_L (h : a < 411 + T) (hs : pl_sh a = .inr (ci, fl)) (hk : fl[k]? = some (2, x)) : jm_gL (qM X v w T c s) a ci k = some (i6 (pl_q v w a k)) := by
  unfold jm_gL
  rw [qM_at h, hs]
  show (if ci = ci then (match (pl_fl 0 fl (pl_q v w a))[k]? with | some (.long x) => some x | _ => none) else none) = _
  rw [if_pos rfl, pl_fl_get, hk, Nat.zero_add]
  rfl
theorem g_R (h : a < 411 + T) (hs : pl_sh a = .inr (ci, fl)) (hk : fl[k]? = some (3, x)) : jm_gR (qM X v w T c s) a ci k = some x := by
  unfold jm_gR
  rw [qM_at h, hs]
  show (if ci = ci then (match (pl_fl 0 fl (pl_q v w a))[k]? with | some (.ref x) => some x | _ => none) else none) = _
  rw [if_pos rfl, pl_fl_get, hk]
  rfl
theorem pt_x {kd : Nat} {v' w' : Nat → Int → Int} (h : a < 411 + T) (hs : pl_sh a = .inr (ci, fl)) (hk : fl[k]? = some (kd, x)) (h3 : kd ≠ 3) (hq : pl_q v' w' = up (pl_q v w) a k z) : jm_put (qM X v w T c s) a ci k (pl_v kd x z) = some (qM X v' w' T c s) := by
  have hl : k < fl.length := (List.getElem?_eq_some_iff.mp hk).1
  unfold jm_put
  rw [qM_at h, hs]
  show (if ci = ci then (if k < (pl_fl 0 fl (pl_q v w a)).length then some _ else none) else none) = _
  rw [if_pos rfl, if_pos (by rw [pl_fl_len]; exact hl)]
  congr 1
  refine qM_up h ?_ (fun n hn => ?_)
  · rw [hs]
    show Sum.inr (ci, (pl_fl 0 fl (pl_q v w a)).set k (pl_v kd x z)) = Sum.inr (ci, pl_fl 0 fl (pl_q v' w' a))
    rw [pl_fl_set hk h3 (g := pl_q v' w' a) (by rw [hq]; exact up_eq) (fun j hj => by rw [hq]; exact up_ne (Or.inr (by omega)))]
  · funext j
    rw [hq]; exact up_ne (Or.inl hn)
theorem p_I (h : a < 411 + T) (hs : pl_sh a = .inr (ci, fl)) (hk : fl[k]? = some (0, x)) (hc : pl_scr a k = false) : jm_put (qM X v w T c s) a ci k (.int (i3 z)) = some (qM X (up v a k z) w T c s) := pt_x h hs hk (by decide) (up_q hc)
theorem p_i (h : a < 411 + T) (hs : pl_sh a = .inr (ci, fl)) (hk : fl[k]? = some (0, x)) (hc : pl_scr a k = true) : jm_put (qM X v w T c s) a ci k (.int (i3 z)) = some (qM X v (up w a k z) T c s) := pt_x h hs hk (by decide) (up_p hc)
theorem p_L (h : a < 411 + T) (hs : pl_sh a = .inr (ci, fl)) (hk : fl[k]? = some (2, x)) (hc : pl_scr a k = false) : jm_put (qM X v w T c s) a ci k (.long (i6 z)) = some (qM X (up v a k z) w T c s) := pt_x h hs hk (by decide) (up_q hc)
theorem p_l (h : a < 411 + T) (hs : pl_sh a = .inr (ci, fl)) (hk : fl[k]? = some (2, x)) (hc : pl_scr a k = true) : jm_put (qM X v w T c s) a ci k (.long (i6 z)) = some (qM X v (up w a k z) T c s) := pt_x h hs hk (by decide) (up_p hc)
theorem o_C (h : a < 411 + T) (hs : pl_sh a = .inr (ci, fl)) : jm_isC (qM X v w T c s) a ci = true := by
  unfold jm_isC
  rw [qM_at h, hs]
  show (ci == ci) = true
  exact beq_self_eq_true ci
theorem e_arr {f : Int → Int} : ∃ y : vp_A, pl_e (.inl (t, n, rs)) f = .inl (t, y) ∧ y.1 = n := by
  unfold pl_e
  dsimp only
  by_cases h2 : t = 2
  · rw [if_pos h2, h2]; exact ⟨_, rfl, rfl⟩
  · rw [if_neg h2]
    by_cases h3 : t = 3
    · rw [if_pos h3, h3]; exact ⟨_, rfl, rfl⟩
    · rw [if_neg h3]
      by_cases h4 : t = 4 ∨ t = 5
      · rw [if_pos h4]; exact ⟨_, rfl, rfl⟩
      · rw [if_neg h4]; exact ⟨_, rfl, rfl⟩
theorem l_A (h : a < 411 + T) (hs : pl_sh a = .inl (t, n, rs)) (ht : t < 6) : jm_len (qM X v w T c s) a = some n := by
  unfold jm_len
  rw [qM_at h, hs]
  obtain ⟨y, e1, e2⟩ := e_arr (t := t) (n := n) (rs := rs) (f := pl_q v w a)
  rw [e1]
  show (if t = 7 ∨ t = 10 then none else some y.1) = some n
  rw [if_neg (by omega), e2]
theorem ix_z (h0 : 0 ≤ z) (h1 : z < n) (hn : n < 2147483648) : jm_ix (i3 z) n = some z.toNat := by
  unfold jm_ix
  rw [if_neg, i3_nat (by omega) (by omega)]
  rw [i3_nat (by omega) (by omega)]
  intro q
  rcases q with q | q
  · have q : i3 z < i3 0 := q
    rw [i3_lt (by omega) (by omega) (by omega) (by omega)] at q
    omega
  · omega
theorem a_I (h : a < 411 + T) (hs : pl_sh a = .inl (0, n, rs)) (hn : n < 2147483648) (h0 : 0 ≤ z) (h1 : z < n) : jm_aI (qM X v w T c s) a (i3 z) = some (i3 (pl_q v w a z)) := by
  unfold jm_aI
  rw [qM_at h, hs]
  show (jm_ix (i3 z) n).map _ = _
  rw [ix_z h0 h1 hn]
  show some (i3 (pl_q v w a (z.toNat : Int))) = _
  rw [Int.toNat_of_nonneg h0]
theorem a_Z (h : a < 411 + T) (hs : pl_sh a = .inl (1, n, rs)) (hn : n < 2147483648) (h0 : 0 ≤ z) (h1 : z < n) : jm_aZ (qM X v w T c s) a (i3 z) = some (i3 (pl_q v w a z)) := by
  unfold jm_aZ
  rw [qM_at h, hs]
  show (jm_ix (i3 z) n).map _ = _
  rw [ix_z h0 h1 hn]
  show some (i3 (pl_q v w a (z.toNat : Int))) = _
  rw [Int.toNat_of_nonneg h0]
theorem a_L (h : a < 411 + T) (hs : pl_sh a = .inl (2, n, rs)) (hn : n < 2147483648) (h0 : 0 ≤ z) (h1 : z < n) : jm_aL (qM X v w T c s) a (i3 z) = some (i6 (pl_q v w a z)) := by
  unfold jm_aL
  rw [qM_at h, hs]
  show (jm_ix (i3 z) n).map _ = _
  rw [ix_z h0 h1 hn]
  show some (i6 (pl_q v w a (z.toNat : Int))) = _
  rw [Int.toNat_of_nonneg h0]
theorem a_D (h : a < 411 + T) (hs : pl_sh a = .inl (3, n, rs)) (hn : n < 2147483648) (h0 : 0 ≤ z) (h1 : z < n) : jm_aD (qM X v w T c s) a (i3 z) = some (d6 (pl_q v w a z)) := by
  unfold jm_aD
  rw [qM_at h, hs]
  show (jm_ix (i3 z) n).map _ = _
  rw [ix_z h0 h1 hn]
  show some (d6 (pl_q v w a (z.toNat : Int))) = _
  rw [Int.toNat_of_nonneg h0]
theorem a_R (h : a < 411 + T) (hs : pl_sh a = .inl (t, n, rs)) (ht : t = 4 ∨ t = 5) (hn : n < 2147483648) (h0 : 0 ≤ z) (h1 : z < n) (hr : rs[z.toNat]? = some x) : jm_aR (qM X v w T c s) a (i3 z) = some x := by
  unfold jm_aR
  rw [qM_at h, hs]
  unfold pl_e
  dsimp only
  rw [if_neg (by omega), if_neg (by omega), if_pos ht]
  dsimp only
  rw [if_pos ht, ix_z h0 h1 hn]
  exact hr
theorem w_x {v' w' : Nat → Int → Int} (h : a < 411 + T) (hs : pl_sh a = .inl (0, n, rs)) (hn : n < 2147483648) (h0 : 0 ≤ k) (h1 : z = (k : Int)) (h2 : k < n) {y : Int} (hq : pl_q v' w' = up (pl_q v w) a z y) : jm_wI (qM X v w T c s) a (i3 z) (i3 y) = some (qM X v' w' T c s) := by
  unfold jm_wI
  rw [qM_at h, hs]
  show (jm_ix (i3 z) n).map _ = _
  rw [ix_z (by omega) (by omega) hn]
  show some _ = some _
  congr 1
  refine qM_up h ?_ (fun m hm => ?_)
  · rw [hs]
    show Sum.inl (0, n, Sum.inl (upd (fun k : Nat => i3 (pl_q v w a k)) z.toNat (i3 y))) = Sum.inl (0, n, Sum.inl (fun k : Nat => i3 (pl_q v' w' a k)))
    congr 4
    funext j
    unfold upd
    rw [hq]
    unfold up
    by_cases e : j = z.toNat
    · rw [if_pos e, if_pos ⟨rfl, by omega⟩]
    · rw [if_neg e, if_neg (by omega)]
  · funext j
    rw [hq]; exact up_ne (Or.inl hm)
theorem z_x {v' w' : Nat → Int → Int} (h : a < 411 + T) (hs : pl_sh a = .inl (1, n, rs)) (hn : n < 2147483648) (h1 : z = (k : Int)) (h2 : k < n) {y : Int} (hy : y = 0 ∨ y = 1) (hq : pl_q v' w' = up (pl_q v w) a z y) : jm_wZ (qM X v w T c s) a (i3 z) (i3 y) = some (qM X v' w' T c s) := by
  have hy1 : (i3 y &&& 1) = i3 y := by rcases hy with rfl | rfl <;> rfl
  unfold jm_wZ
  rw [qM_at h, hs]
  show (jm_ix (i3 z) n).map _ = _
  rw [ix_z (by omega) (by omega) hn, hy1]
  show some _ = some _
  congr 1
  refine qM_up h ?_ (fun m hm => ?_)
  · rw [hs]
    show Sum.inl (1, n, Sum.inl (upd (fun k : Nat => i3 (pl_q v w a k)) z.toNat (i3 y))) = Sum.inl (1, n, Sum.inl (fun k : Nat => i3 (pl_q v' w' a k)))
    congr 4
    funext j
    unfold upd
    rw [hq]
    unfold up
    by_cases e : j = z.toNat
    · rw [if_pos e, if_pos ⟨rfl, by omega⟩]
    · rw [if_neg e, if_neg (by omega)]
  · funext j
    rw [hq]; exact up_ne (Or.inl hm)
theorem l_x {v' w' : Nat → Int → Int} (h : a < 411 + T) (hs : pl_sh a = .inl (2, n, rs)) (hn : n < 2147483648) (h1 : z = (k : Int)) (h2 : k < n) {y : Int} (hq : pl_q v' w' = up (pl_q v w) a z y) : jm_wL (qM X v w T c s) a (i3 z) (i6 y) = some (qM X v' w' T c s) := by
  unfold jm_wL
  rw [qM_at h, hs]
  show (jm_ix (i3 z) n).map _ = _
  rw [ix_z (by omega) (by omega) hn]
  show some _ = some _
  congr 1
  refine qM_up h ?_ (fun m hm => ?_)
  · rw [hs]
    show Sum.inl (2, n, Sum.inr (Sum.inl (vp_updL (fun k : Nat => i6 (pl_q v w a k)) z.toNat (i6 y)))) = Sum.inl (2, n, Sum.inr (Sum.inl (fun k : Nat => i6 (pl_q v' w' a k))))
    congr 5
    funext j
    unfold vp_updL
    rw [hq]
    unfold up
    by_cases e : j = z.toNat
    · rw [if_pos e, if_pos ⟨rfl, by omega⟩]
    · rw [if_neg e, if_neg (by omega)]
  · funext j
    rw [hq]; exact up_ne (Or.inl hm)
theorem d_x {v' w' : Nat → Int → Int} (h : a < 411 + T) (hs : pl_sh a = .inl (3, n, rs)) (hn : n < 2147483648) (h1 : z = (k : Int)) (h2 : k < n) {y : Int} (hq : pl_q v' w' = up (pl_q v w) a z y) : jm_wD (qM X v w T c s) a (i3 z) (d6 y) = some (qM X v' w' T c s) := by
  unfold jm_wD
  rw [qM_at h, hs]
  show (jm_ix (i3 z) n).map _ = _
  rw [ix_z (by omega) (by omega) hn]
  show some _ = some _
  congr 1
  refine qM_up h ?_ (fun m hm => ?_)
  · rw [hs]
    show Sum.inl (3, n, Sum.inr (Sum.inr (Sum.inr (Sum.inl (vf_upd (fun k : Nat => d6 (pl_q v w a k)) z.toNat (d6 y)))))) = Sum.inl (3, n, Sum.inr (Sum.inr (Sum.inr (Sum.inl (fun k : Nat => d6 (pl_q v' w' a k))))))
    congr 7
    funext j
    unfold vf_upd
    rw [hq]
    unfold up
    by_cases e : j = z.toNat
    · rw [if_pos e, if_pos ⟨rfl, by omega⟩]
    · rw [if_neg e, if_neg (by omega)]
  · funext j
    rw [hq]; exact up_ne (Or.inl hm)
theorem w_I (h : a < 411 + T) (hs : pl_sh a = .inl (0, n, rs)) (hn : n < 2147483648) (hc : ∀ j, pl_scr a j = false) (h0 : 0 ≤ z) (h1 : z < n) {y : Int} : jm_wI (qM X v w T c s) a (i3 z) (i3 y) = some (qM X (up v a z y) w T c s) := w_x (k := z.toNat) h hs hn (Nat.zero_le _) (by omega) (by omega) (up_q (hc z))
theorem w_i (h : a < 411 + T) (hs : pl_sh a = .inl (0, n, rs)) (hn : n < 2147483648) (hc : ∀ j, pl_scr a j = true) (h0 : 0 ≤ z) (h1 : z < n) {y : Int} : jm_wI (qM X v w T c s) a (i3 z) (i3 y) = some (qM X v (up w a z y) T c s) := w_x (k := z.toNat) h hs hn (Nat.zero_le _) (by omega) (by omega) (up_p (hc z))
theorem w_Z (h : a < 411 + T) (hs : pl_sh a = .inl (1, n, rs)) (hn : n < 2147483648) (hc : ∀ j, pl_scr a j = false) (h0 : 0 ≤ z) (h1 : z < n) {y : Int} (hy : y = 0 ∨ y = 1) : jm_wZ (qM X v w T c s) a (i3 z) (i3 y) = some (qM X (up v a z y) w T c s) := z_x (k := z.toNat) h hs hn (by omega) (by omega) hy (up_q (hc z))
theorem w_z (h : a < 411 + T) (hs : pl_sh a = .inl (1, n, rs)) (hn : n < 2147483648) (hc : ∀ j, pl_scr a j = true) (h0 : 0 ≤ z) (h1 : z < n) {y : Int} (hy : y = 0 ∨ y = 1) : jm_wZ (qM X v w T c s) a (i3 z) (i3 y) = some (qM X v (up w a z y) T c s) := z_x (k := z.toNat) h hs hn (by omega) (by omega) hy (up_p (hc z))
theorem w_L (h : a < 411 + T) (hs : pl_sh a = .inl (2, n, rs)) (hn : n < 2147483648) (hc : ∀ j, pl_scr a j = false) (h0 : 0 ≤ z) (h1 : z < n) {y : Int} : jm_wL (qM X v w T c s) a (i3 z) (i6 y) = some (qM X (up v a z y) w T c s) := l_x (k := z.toNat) h hs hn (by omega) (by omega) (up_q (hc z))
theorem w_l (h : a < 411 + T) (hs : pl_sh a = .inl (2, n, rs)) (hn : n < 2147483648) (hc : ∀ j, pl_scr a j = true) (h0 : 0 ≤ z) (h1 : z < n) {y : Int} : jm_wL (qM X v w T c s) a (i3 z) (i6 y) = some (qM X v (up w a z y) T c s) := l_x (k := z.toNat) h hs hn (by omega) (by omega) (up_p (hc z))
theorem w_d (h : a < 411 + T) (hs : pl_sh a = .inl (3, n, rs)) (hn : n < 2147483648) (hc : ∀ j, pl_scr a j = true) (h0 : 0 ≤ z) (h1 : z < n) {y : Int} : jm_wD (qM X v w T c s) a (i3 z) (d6 y) = some (qM X v (up w a z y) T c s) := d_x (k := z.toNat) h hs hn (by omega) (by omega) (up_p (hc z))
end OPS
