-- uses 24.zar 25.obj 26.ops 33.rg 34.gen d0.ina d1.inb
/-! The class's other new objects. -/
/-- eight lands in a row -/
def lndS (b : Nat) : Nat → List jm_Ent
  | 0 => []
  | k + 1 => lndS b k ++ lndC (b + 32 * k)
def hisC (b : Nat) : List jm_Ent := .inr (3, [.ref (b + 1), .int 0, .int 0]) :: lRf 5 8 (fun k => [b + 2, b + 34, b + 66, b + 98, b + 130, b + 162, b + 194, b + 226][k]?) :: lndS (b + 2) 8
theorem lndC_n (b : Nat) : (lndC b).length = 32 := rfl
theorem lndS_n (b k : Nat) : (lndS b k).length = 32 * k := by
  induction k with
  | zero => rfl
  | succ k ih => unfold lndS; rw [List.length_append, ih, lndC_n]; omega
theorem va_8 {a0 a1 a2 a3 a4 a5 a6 a7 : Nat} : va_up (va_up (va_up (va_up (va_up (va_up (va_up (va_up (fun _ : Nat => (none : Option Nat)) 0 (some a0)) 1 (some a1)) 2 (some a2)) 3 (some a3)) 4 (some a4)) 5 (some a5)) 6 (some a6)) 7 (some a7) = fun k => [a0, a1, a2, a3, a4, a5, a6, a7][k]? := by
  funext k
  unfold va_up
  match k with
  | 0 => rfl
  | 1 => rfl
  | 2 => rfl
  | 3 => rfl
  | 4 => rfl
  | 5 => rfl
  | 6 => rfl
  | 7 => rfl
  | k + 8 => rfl
section INF
variable {X : Nat × (Nat → Int32)} {l r : List jm_Ent} {c s d : Nat}
theorem iX3_s {F : List Value} {f : Nat → Option Nat} {i : Nat} (hF : F[0]? = some (.ref (l.length + 1))) (hi : i < 8) (hl : l.length < 600000) (hr : r.length < 1000) : jm_R (jm_env (d + 2)) jmM_X3_init 15 [some (.ref l.length), some (.int (i3 (i : Nat)))] [] (lM X (l ++ .inr (3, F) :: lRf 5 8 f :: r) c s) = jm_R (jm_env (d + 2)) jmM_X3_init 15 [some (.ref l.length), some (.int (i3 ((i + 1 : Nat))))] [] (lM X (l ++ .inr (3, F) :: lRf 5 8 (va_up f i (some (l.length + (r.length + 2)))) :: (r ++ lndC (l.length + (r.length + 2)))) (c + 32) (s + 318)) := by
  have q : ((8 : Int) ≤ (i : Int)) = False := eq_false (by omega)
  have hc : ((i + 1 : Nat) : Int) = (i : Int) + 1 := by omega
  have g1 : jm_gR (lM X (l ++ .inr (3, F) :: lRf 5 8 f :: r) c s) l.length 3 0 = some (l.length + 1) := gRA (j := 0) rfl rfl hF
  have n1 : (lM X (l ++ .inr (3, F) :: lRf 5 8 f :: r) c s).1 = l.length + (r.length + 2) := lenA
  have hlen : (l ++ .inr (3, F) :: lRf 5 8 f :: r).length = l.length + (r.length + 2) := by rw [List.length_append]; rfl
  have e1 := iX4 (d := d) (X := X) (l := l ++ .inr (3, F) :: lRf 5 8 f :: r) (c := c + 1) (s := s + 6) (by rw [hlen]; omega)
  rw [hlen, List.append_assoc l _ (lndC _)] at e1
  have a1 : (l ++ ((.inr (3, F) :: lRf 5 8 f :: r) ++ lndC (l.length + (r.length + 2))))[l.length + 1]? = some (lRf 5 8 f) := ap_at
  have a2 : (l ++ ((.inr (3, F) :: lRf 5 8 f :: r) ++ lndC (l.length + (r.length + 2))))[l.length + (r.length + 2)]? = some (.inr (jm_tc 5, [.int 0, .int 0, .int 0, .ref (l.length + (r.length + 2) + 1), .ref (l.length + (r.length + 2) + 2), .ref (l.length + (r.length + 2) + 6)])) := by
    rw [ap_at]
    have := ap_at (l := .inr (3, F) :: lRf 5 8 f :: r) (r := lndC (l.length + (r.length + 2))) (k := 0)
    rw [Nat.add_zero] at this
    exact this
  have e2 := lM_wR (X := X) (c := c + 1 + 31) (s := s + 6 + 312) (k := i) a1 (Or.inr rfl) a2 hi (by omega)
  rw [ap_set] at e2
  have hm : jm_mk (lM X (l ++ .inr (3, F) :: lRf 5 8 f :: r) c s) (.inr (4, [.int 0, .int 0, .int 0, .null, .null, .null])) 6 = fun f' => f' (lM X ((l ++ .inr (3, F) :: lRf 5 8 f :: r) ++ [.inr (4, [.int 0, .int 0, .int 0, .null, .null, .null])]) (c + 1) (s + 6)) := by
    funext f'
    exact lM_mk (by rw [hlen]; omega)
  rw [bX3_init_15, hc]
  simp only [i3_le (a := 8) (b := (i : Int)) (by omega) (by omega) (by omega) (by omega), q, if_false, bX3_init_21, g1, ob_s, hm, n1, e1, bV_v, e2, i3_add]
  rfl
theorem iX3 (hl : l.length < 500000) : jm_env (d + 3) 37 [.ref l.length] (lM X (l ++ [.inr (3, [.null, .int 0, .int 0])]) c s) = some (.inl none, lM X (l ++ hisC l.length) (c + 257) (s + 2552)) := by
  rw [eX3_init _ _ _ c0, bX3_init_0, mk0 (by omega) (by simp)]
  rw [show (.inl (5, 8, .inr (.inr (.inr (.inr fun _ => none)))) : jm_Ent) = lRf 5 8 (fun _ => none) from rfl]
  simp only [len0, put0 (k := 0) (fs := [.null, .int 0, .int 0]) (by decide), List.nil_append, List.set_cons_zero, List.length_nil, Nat.zero_add, ob_s]
  have hF : ([.ref (l.length + 1), .int 0, .int 0] : List Value)[0]? = some (.ref (l.length + 1)) := rfl
  rw [show i3 0 = i3 ((0 : Nat) : Int) from rfl]
  rw [iX3_s (i := 0) hF (by omega) (by omega) (by simp)]
  rw [iX3_s (i := 0 + 1) hF (by omega) (by omega) (by simp [lndC_n])]
  rw [iX3_s (i := 0 + 1 + 1) hF (by omega) (by omega) (by simp [lndC_n])]
  rw [iX3_s (i := 0 + 1 + 1 + 1) hF (by omega) (by omega) (by simp [lndC_n])]
  rw [iX3_s (i := 0 + 1 + 1 + 1 + 1) hF (by omega) (by omega) (by simp [lndC_n])]
  rw [iX3_s (i := 0 + 1 + 1 + 1 + 1 + 1) hF (by omega) (by omega) (by simp [lndC_n])]
  rw [iX3_s (i := 0 + 1 + 1 + 1 + 1 + 1 + 1) hF (by omega) (by omega) (by simp [lndC_n])]
  rw [iX3_s (i := 0 + 1 + 1 + 1 + 1 + 1 + 1 + 1) hF (by omega) (by omega) (by simp [lndC_n])]
  rw [bX3_init_15]
  have q : ((8 : Int) ≤ ((0 + 1 + 1 + 1 + 1 + 1 + 1 + 1 + 1 : Nat) : Int)) = True := by decide
  simp only [i3_le (a := 8) (b := ((0 + 1 + 1 + 1 + 1 + 1 + 1 + 1 + 1 : Nat) : Int)) (by omega) (by omega) (by omega) (by omega), q, if_true, bX3_init_40]
  simp only [List.length_append, lndC_n, List.length_nil, Nat.zero_add, Nat.reduceAdd, List.nil_append]
  rw [va_8]
  rfl
/-- bytes -/
theorem iX0 {k : Nat} (hl : l.length < 500000) (hk : k < 1000) : jm_env (d + 1) 18 [.ref l.length, .int (i3 (k : Nat))] (lM X (l ++ [.inr (0, [.null, .int 0])]) c s) = some (.inl none, lM X (l ++ [.inr (0, [.ref (l.length + 1), .int 0]), .inl (0, k, .inl fun _ => 0)]) (c + 1) (s + k)) := by
  have e1 : (i3 (k : Int)).toNatClampNeg = k := by rw [i3_nat (by omega) (by omega)]; omega
  have e2 : (if i3 0 < i3 (k : Int) then i3 (k : Int) else i3 0) = i3 (k : Int) := by
    by_cases g : (0 : Int) < k
    · exact if_pos (by rw [i3_lt (by omega) (by omega) (by omega) (by omega)]; exact g)
    · rw [show (k : Int) = 0 by omega]
      split <;> rfl
  have z : ¬ (i3 (k : Int) < 0) := by
    have h : (i3 (k : Int) < (0 : Int32)) = ((k : Int) < 0) := i3_lt (b := 0) (by omega) (by omega) (by omega) (by omega)
    rw [h]; omega
  rw [eX0_init _ _ _ _ c0, bX0_init_0, e2, e1, if_neg (fun q => q.elim z (by omega)), mk0 (by omega) (by simp), put0 (by decide)]
  simp only [ob_s, len0, List.nil_append, List.set_cons_zero, List.length_nil, Nat.zero_add]
theorem iX7 {a : Nat} (hl : l.length < 500000) : jm_env (d + 1) 64 [.ref l.length, .ref a] (lM X (l ++ [.inr (7, [.null, .int 0, .int 0, .int 0, .int 0, .int 0, .int 0])]) c s) = some (.inl none, lM X (l ++ [.inr (7, [.ref a, .int 0, .int 0, .int 0, .int 0, .int 0, .int (i3 (-1))])]) c s) := by
  rw [eX7_init _ _ _ _ c0, bX7_init_0, put0 (by decide)]
  simp only [ob_s, List.set_cons_zero, List.set_cons_succ]
  rw [put0 (by simp)]
  rfl
theorem iX10 {a : Nat} (hl : l.length < 500000) : jm_env (d + 1) 89 [.ref l.length, .ref a] (lM X (l ++ [.inr (10, [.null, .null])]) c s) = some (.inl none, lM X (l ++ [.inr (10, [.ref a, .ref (l.length + 1)]), .inl (1, 10, .inl fun _ => 0)]) (c + 1) (s + 10)) := by
  rw [eX10_init _ _ _ _ c0, bX10_init_0, mk0 (by omega) (by simp), put0 (by decide)]
  simp only [ob_s, len0, List.nil_append, List.set_cons_zero, List.set_cons_succ, List.length_nil, Nat.zero_add]
  rw [put0 (by simp)]
  rfl
theorem iX8 (hl : l.length < 500000) : jm_env (d + 1) 73 [.ref l.length] (lM X (l ++ [.inr (8, [.null, .null, .null, .null, .null, .int 0])]) c s) = some (.inl none, lM X (l ++ [.inr (8, [.ref (l.length + 1), .ref (l.length + 2), .ref (l.length + 3), .ref (l.length + 4), .ref (l.length + 5), .int 0]), .inl (0, 30, .inl fun _ => 0), .inl (0, 30, .inl fun _ => 0), .inl (0, 30, .inl fun _ => 0), .inl (0, 30, .inl fun _ => 0), .inl (0, 30, .inl fun _ => 0)]) (c + 5) (s + 150)) := by
  rw [eX8_init _ _ _ c0, bX8_init_0]
  simp (disch := first | assumption | omega | (simp only [List.length_cons, List.length_nil]; omega)) only [mk0, len0, put0, List.cons_append, List.nil_append, List.length_cons, List.length_nil, List.set_cons_zero, List.set_cons_succ, Nat.zero_add, Nat.reduceAdd, ob_s]
theorem iX1 (hl : l.length < 600000) : jm_env (d + 1) 24 [.ref l.length] (lM X (l ++ [.inr (1, [.null, .int 0, .long 0])]) c s) = some (.inl none, lM X (l ++ [.inr (1, [.ref (l.length + 1), .int 0, .long 0]), .inl (0, 10, .inl fun _ => 0)]) (c + 1) (s + 10)) := by
  rw [eX1_init _ _ _ c0, bX1_init_0]
  simp (disch := first | assumption | omega | (simp only [List.length_cons, List.length_nil]; omega)) only [mk0, len0, put0, List.cons_append, List.nil_append, List.length_cons, List.length_nil, List.set_cons_zero, List.set_cons_succ, Nat.zero_add, Nat.reduceAdd, ob_s]
theorem iX2 (hl : l.length < 500000) : jm_env (d + 1) 28 [.ref l.length] (lM X (l ++ [.inr (2, [.int 0, .int 0, .int 0, .null, .null, .null, .null])]) c s) = some (.inl none, lM X (l ++ [.inr (2, [.int 0, .int 0, .int 0, .ref (l.length + 1), .ref (l.length + 2), .ref (l.length + 3), .ref (l.length + 4)]), .inl (1, 5, .inl fun _ => 0), .inl (0, 32, .inl fun _ => 0), .inl (0, 32, .inl fun _ => 0), .inl (0, 64, .inl fun _ => 0)]) (c + 4) (s + 133)) := by
  rw [eX2_init _ _ _ c0, bX2_init_0]
  simp (disch := first | assumption | omega | (simp only [List.length_cons, List.length_nil]; omega)) only [mk0, len0, put0, List.cons_append, List.nil_append, List.length_cons, List.length_nil, List.set_cons_zero, List.set_cons_succ, Nat.zero_add, Nat.reduceAdd, ob_s]
theorem iX5 (hl : l.length < 500000) : jm_env (d + 2) 54 [.ref l.length] (lM X (l ++ [.inr (5, [.null, .int 0, .int 0, .int 0, .int 0, .int 0, .int 0, .int 0, .int 0, .int 0])]) c s) = some (.inl none, lM X (l ++ [.inr (5, [.ref (l.length + 1), .int 0, .int 0, .int 0, .int 0, .int 0, .int 0, .int 0, .int 0, .int 0]), .inr (1, [.ref (l.length + 2), .int 0, .long 0]), .inl (0, 10, .inl fun _ => 0)]) (c + 2) (s + 13)) := by
  rw [eX5_init _ _ _ c0, bX5_init_0, mk0 (by omega) (by simp)]
  have hlen : (l ++ [.inr (5, [.null, .int 0, .int 0, .int 0, .int 0, .int 0, .int 0, .int 0, .int 0, .int 0])] : List jm_Ent).length = l.length + 1 := by rw [List.length_append]; rfl
  have e1 := iX1 (d := d) (X := X) (l := l ++ [.inr (5, [.null, .int 0, .int 0, .int 0, .int 0, .int 0, .int 0, .int 0, .int 0, .int 0])]) (c := c + 1) (s := s + 3) (by rw [hlen]; omega)
  rw [hlen, List.append_assoc, List.append_assoc] at e1
  simp only [List.cons_append, List.nil_append] at e1
  simp only [len0, List.nil_append, List.length_nil, Nat.zero_add, e1, ob_s, bV_v]
  rw [put0 (by decide)]
  rfl
end INF
