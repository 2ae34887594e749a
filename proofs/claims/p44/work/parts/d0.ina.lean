-- uses 24.zar 25.obj 26.ops 33.rg 34.gen
/-! New objects: a memory by the list of its cells. -/
def lM (X : Nat × (Nat → Int32)) (l : List jm_Ent) (c s : Nat) : jm_Mem := (l.length, fun n => match l[n]? with | some e => e | none => pl_sp X n, c, s)
section INA
variable {X : Nat × (Nat → Int32)} {l r : List jm_Ent} {c s : Nat}
theorem lM_at {a : Nat} {e : jm_Ent} (h : l[a]? = some e) : (lM X l c s).2.1 a = e := by
  show (match l[a]? with | some e => e | none => pl_sp X a) = e
  rw [h]
theorem lM_up {a : Nat} {e : jm_Ent} (h : a < l.length) : jm_up (lM X l c s) a e = lM X (l.set a e) c s := by
  show (l.length, va_up (fun n => match l[n]? with | some e => e | none => pl_sp X n) a e, c, s) = ((l.set a e).length, (fun n => match (l.set a e)[n]? with | some e => e | none => pl_sp X n), c, s)
  rw [List.length_set]
  congr 2
  funext n
  unfold va_up
  rw [List.getElem?_set]
  by_cases g : n = a
  · rw [if_pos g, if_pos g.symm, if_pos h]
  · rw [if_neg g, if_neg (fun q => g q.symm)]
theorem lM_mk {e : jm_Ent} {k : Nat} {f : jm_Mem → Option jm_Res} (h : l.length < 1000000) : jm_mk (lM X l c s) e k f = f (lM X (l ++ [e]) (c + 1) (s + k)) := by
  unfold jm_mk
  rw [if_pos (show (lM X l c s).1 < 1000000 from h)]
  congr 1
  show (l.length + 1, va_up (fun n => match l[n]? with | some e => e | none => pl_sp X n) l.length e, c + 1, s + k) = ((l ++ [e]).length, (fun n => match (l ++ [e])[n]? with | some e => e | none => pl_sp X n), c + 1, s + k)
  rw [List.length_append, List.length_singleton]
  congr 2
  funext n
  unfold va_up
  by_cases g : n = l.length
  · rw [if_pos g, g, List.getElem?_append_right (Nat.le_refl _), Nat.sub_self]
    rfl
  · rw [if_neg g]
    by_cases g2 : n < l.length
    · rw [List.getElem?_append_left g2]
    · rw [List.getElem?_eq_none (l := l ++ [e]) (by rw [List.length_append, List.length_singleton]; omega)]
      show (match l[n]? with | some e => e | none => pl_sp X n) = pl_sp X n
      rw [List.getElem?_eq_none (by omega)]
theorem lM_put {a ci k : Nat} {fs : List Value} {x : Value} (h : l[a]? = some (.inr (ci, fs))) (hk : k < fs.length) : jm_put (lM X l c s) a ci k x = some (lM X (l.set a (.inr (ci, fs.set k x))) c s) := by
  have ha : a < l.length := (List.getElem?_eq_some_iff.mp h).1
  unfold jm_put
  rw [lM_at h]
  show (if ci = ci then (if k < fs.length then _ else _) else _) = _
  rw [if_pos rfl, if_pos hk, lM_up ha]
theorem lM_gR {a ci k x : Nat} {fs : List Value} (h : l[a]? = some (.inr (ci, fs))) (hk : fs[k]? = some (.ref x)) : jm_gR (lM X l c s) a ci k = some x := by
  unfold jm_gR
  rw [lM_at h]
  show (if ci = ci then (match fs[k]? with | some (.ref n) => some n | _ => none) else none) = _
  rw [if_pos rfl, hk]
theorem lM_wR {a t n x k : Nat} {f : Nat → Option Nat} {fs : List Value} (h : l[a]? = some (.inl (t, n, .inr (.inr (.inr (.inr f)))))) (ht : t = 4 ∨ t = 5) (hx : l[x]? = some (.inr (jm_tc t, fs))) (hk : k < n) (hn : n < 100) : jm_wQ (lM X l c s) a (i3 (k : Nat)) x = some (lM X (l.set a (.inl (t, n, .inr (.inr (.inr (.inr (va_up f k (some x)))))))) c s) := by
  have ha : a < l.length := (List.getElem?_eq_some_iff.mp h).1
  have z : ¬ (i3 (k : Int) < 0) := by
    have h : (i3 (k : Int) < (0 : Int32)) = ((k : Int) < 0) := i3_lt (b := 0) (by omega) (by omega) (by omega) (by omega)
    rw [h]; omega
  have e1 : (i3 (k : Int)).toNatClampNeg = k := by rw [i3_nat (by omega) (by omega)]; omega
  have ei : jm_ix (i3 (k : Int)) n = some k := by
    unfold jm_ix
    rw [if_neg (by rw [e1]; exact fun q => q.elim z (by omega)), e1]
  refine or_l ?_
  unfold jm_wR
  rw [lM_at h, lM_at hx]
  show (if t = 4 ∨ t = 5 then (if jm_tc t = jm_tc t then (jm_ix (i3 (k : Int)) n).map (fun k => jm_up (lM X l c s) a (.inl (t, n, .inr (.inr (.inr (.inr (va_up f k (some x)))))))) else none) else none) = _
  rw [if_pos ht, if_pos rfl, ei]
  exact congrArg some (lM_up ha)
theorem lM_1 : (lM X l c s).1 = l.length := rfl
theorem lM_C {a ci : Nat} {fs : List Value} (h : l[a]? = some (.inr (ci, fs))) : jm_isC (lM X l c s) a ci = true := by
  unfold jm_isC
  rw [lM_at h]
  exact decide_eq_true rfl
/-- places behind l -/
theorem ap_at {k : Nat} : (l ++ r)[l.length + k]? = r[k]? := by
  rw [List.getElem?_append_right (Nat.le_add_right _ _), Nat.add_sub_cancel_left]
theorem ap_set {k : Nat} {e : jm_Ent} : (l ++ r).set (l.length + k) e = l ++ r.set k e := by
  rw [List.set_append_right _ _ (Nat.le_add_right _ _), Nat.add_sub_cancel_left]
end INA
/-- a field of a cell put -/
def lPut (r : List jm_Ent) (j ci k : Nat) (x : Value) : Option (List jm_Ent) := match r[j]? with
  | some (.inr (c, fs)) => if c = ci then (if k < fs.length then some (r.set j (.inr (c, fs.set k x))) else none) else none
  | _ => none
section INC
variable {X : Nat × (Nat → Int32)} {l r r' : List jm_Ent} {c s : Nat}
theorem mkA {e : jm_Ent} {k : Nat} {f : jm_Mem → Option jm_Res} (h : l.length + r.length < 1000000) : jm_mk (lM X (l ++ r) c s) e k f = f (lM X (l ++ (r ++ [e])) (c + 1) (s + k)) := by
  rw [lM_mk (by rw [List.length_append]; exact h), List.append_assoc]
theorem putA {a j ci k : Nat} {x : Value} (ha : a = l.length + j) (h : lPut r j ci k x = some r') : jm_put (lM X (l ++ r) c s) a ci k x = some (lM X (l ++ r') c s) := by
  subst ha
  unfold lPut at h
  rcases hr : r[j]? with _ | ⟨q | ⟨c', fs⟩⟩
  · rw [hr] at h; exact absurd h (by simp)
  · rw [hr] at h; exact absurd h (by simp)
  · rw [hr] at h
    dsimp only at h
    by_cases g : c' = ci
    · rw [if_pos g] at h
      by_cases g2 : k < fs.length
      · rw [if_pos g2] at h
        cases h
        subst g
        rw [lM_put (ap_at.trans hr) g2, ap_set]
      · rw [if_neg g2] at h; exact absurd h (by simp)
    · rw [if_neg g] at h; exact absurd h (by simp)
theorem gRA {a j ci k x : Nat} {fs : List Value} (ha : a = l.length + j) (h : r[j]? = some (.inr (ci, fs))) (hk : fs[k]? = some (.ref x)) : jm_gR (lM X (l ++ r) c s) a ci k = some x := by
  subst ha
  exact lM_gR (ap_at.trans h) hk
theorem lenA : (lM X (l ++ r) c s).1 = l.length + r.length := by rw [lM_1, List.length_append]
theorem cA {a j ci : Nat} {fs : List Value} (ha : a = l.length + j) (h : r[j]? = some (.inr (ci, fs))) : jm_isC (lM X (l ++ r) c s) a ci = true := by
  subst ha
  exact lM_C (ap_at.trans h)
end INC
def serC (a : Nat) : List jm_Ent := [.inr (9, [.ref (a + 1), .int 0, .ref (a + 2), .ref (a + 3), .ref (a + 4)]), .inl (0, 6, .inl fun _ => 0), .inl (0, 10, .inl fun _ => 0), .inl (0, 10, .inl fun _ => 0), .inl (0, 10, .inl fun _ => 0)]
def priC (a : Nat) : List jm_Ent := [.inr (6, [.ref (a + 1), .ref (a + 2), .ref (a + 3), .int 0]), .inl (0, 30, .inl fun _ => 0), .inl (0, 30, .inl fun _ => 0), .inl (0, 30, .inl fun _ => 0)]
section IND
variable {X : Nat × (Nat → Int32)} {l : List jm_Ent} {c s d : Nat}
theorem put0 {r : List jm_Ent} {ci k : Nat} {fs : List Value} {x : Value} (h : k < fs.length) : jm_put (lM X (l ++ .inr (ci, fs) :: r) c s) l.length ci k x = some (lM X (l ++ .inr (ci, fs.set k x) :: r) c s) := by
  refine putA (j := 0) rfl ?_
  unfold lPut
  show (if ci = ci then (if k < fs.length then _ else _) else _) = _
  rw [if_pos rfl, if_pos h]
  rfl
theorem mk0 {r : List jm_Ent} {e e' : jm_Ent} {k : Nat} {f : jm_Mem → Option jm_Res} (h : l.length < 900000) (h2 : r.length < 1000) : jm_mk (lM X (l ++ e' :: r) c s) e k f = f (lM X (l ++ e' :: (r ++ [e])) (c + 1) (s + k)) := mkA (by simp only [List.length_cons]; omega)
theorem len0 {r : List jm_Ent} {e : jm_Ent} : (lM X (l ++ e :: r) c s).1 = l.length + (r.length + 1) := lenA
theorem c0 {r : List jm_Ent} {ci : Nat} {fs : List Value} : jm_isC (lM X (l ++ .inr (ci, fs) :: r) c s) l.length ci = true := cA (j := 0) rfl rfl
theorem iX9 (hl : l.length < 900000) : jm_env (d + 1) 74 [.ref l.length] (lM X (l ++ [.inr (9, [.null, .int 0, .null, .null, .null])]) c s) = some (.inl none, lM X (l ++ serC l.length) (c + 4) (s + 36)) := by
  rw [eX9_init _ _ _ c0, bX9_init_0]
  simp (disch := first | assumption | (simp only [List.length_cons, List.length_nil]; omega)) only [mk0, len0, put0, List.cons_append, List.nil_append, List.length_cons, List.length_nil, List.set_cons_zero, List.set_cons_succ, Nat.zero_add, Nat.reduceAdd, ob_s]
  rfl
theorem iX6 (hl : l.length < 900000) : jm_env (d + 1) 59 [.ref l.length] (lM X (l ++ [.inr (6, [.null, .null, .null, .int 0])]) c s) = some (.inl none, lM X (l ++ priC l.length) (c + 3) (s + 90)) := by
  rw [eX6_init _ _ _ c0, bX6_init_0]
  simp (disch := first | assumption | (simp only [List.length_cons, List.length_nil]; omega)) only [mk0, len0, put0, List.cons_append, List.nil_append, List.length_cons, List.length_nil, List.set_cons_zero, List.set_cons_succ, Nat.zero_add, Nat.reduceAdd, ob_s]
  rfl
end IND
