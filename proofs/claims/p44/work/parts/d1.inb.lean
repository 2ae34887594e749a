-- uses 24.zar 25.obj 26.ops 33.rg 34.gen d0.ina
/-! A new land. -/
def lRf (t n : Nat) (f : Nat → Option Nat) : jm_Ent := .inl (t, n, .inr (.inr (.inr (.inr f))))
def lndC (b : Nat) : List jm_Ent := .inr (4, [.int 0, .int 0, .int 0, .ref (b + 1), .ref (b + 2), .ref (b + 6)]) :: lRf 4 5 (fun k => [b + 7, b + 12, b + 17, b + 22, b + 27][k]?) :: (priC (b + 2) ++ (.inl (2, 8, .inr (.inl fun _ => 0)) :: (serC (b + 7) ++ (serC (b + 12) ++ (serC (b + 17) ++ (serC (b + 22) ++ serC (b + 27)))))))
theorem va_5 {a0 a1 a2 a3 a4 : Nat} : va_up (va_up (va_up (va_up (va_up (fun _ : Nat => (none : Option Nat)) 0 (some a0)) 1 (some a1)) 2 (some a2)) 3 (some a3)) 4 (some a4) = fun k => [a0, a1, a2, a3, a4][k]? := by
  funext k
  unfold va_up
  match k with
  | 0 => rfl
  | 1 => rfl
  | 2 => rfl
  | 3 => rfl
  | 4 => rfl
  | k + 5 => rfl
section INE
variable {X : Nat × (Nat → Int32)} {l r : List jm_Ent} {c s d : Nat}
theorem iX4_s {F : List Value} {f : Nat → Option Nat} {i : Nat} (hF : F[3]? = some (.ref (l.length + 1))) (hi : i < 5) (hl : l.length < 800000) (hr : r.length < 1000) : jm_R (jm_env (d + 1)) jmM_X4_init 33 [some (.ref l.length), some (.int (i3 (i : Nat)))] [] (lM X (l ++ .inr (4, F) :: lRf 4 5 f :: r) c s) = jm_R (jm_env (d + 1)) jmM_X4_init 33 [some (.ref l.length), some (.int (i3 ((i + 1 : Nat))))] [] (lM X (l ++ .inr (4, F) :: lRf 4 5 (va_up f i (some (l.length + (r.length + 2)))) :: (r ++ serC (l.length + (r.length + 2)))) (c + 5) (s + 41)) := by
  have q : ((5 : Int) ≤ (i : Int)) = False := eq_false (by omega)
  have hc : ((i + 1 : Nat) : Int) = (i : Int) + 1 := by omega
  have g1 : jm_gR (lM X (l ++ .inr (4, F) :: lRf 4 5 f :: r) c s) l.length 4 3 = some (l.length + 1) := gRA (j := 0) rfl rfl hF
  have n1 : (lM X (l ++ .inr (4, F) :: lRf 4 5 f :: r) c s).1 = l.length + (r.length + 2) := lenA
  have hlen : (l ++ .inr (4, F) :: lRf 4 5 f :: r).length = l.length + (r.length + 2) := by rw [List.length_append]; rfl
  have e1 := iX9 (d := d) (X := X) (l := l ++ .inr (4, F) :: lRf 4 5 f :: r) (c := c + 1) (s := s + 5) (by rw [hlen]; omega)
  rw [hlen, List.append_assoc l _ (serC _)] at e1
  have a1 : (l ++ ((.inr (4, F) :: lRf 4 5 f :: r) ++ serC (l.length + (r.length + 2))))[l.length + 1]? = some (lRf 4 5 f) := ap_at
  have a2 : (l ++ ((.inr (4, F) :: lRf 4 5 f :: r) ++ serC (l.length + (r.length + 2))))[l.length + (r.length + 2)]? = some (.inr (jm_tc 4, [.ref (l.length + (r.length + 2) + 1), .int 0, .ref (l.length + (r.length + 2) + 2), .ref (l.length + (r.length + 2) + 3), .ref (l.length + (r.length + 2) + 4)])) := by
    rw [ap_at]
    have := ap_at (l := .inr (4, F) :: lRf 4 5 f :: r) (r := serC (l.length + (r.length + 2))) (k := 0)
    rw [Nat.add_zero] at this
    exact this
  have e2 := lM_wR (X := X) (c := c + 1 + 4) (s := s + 5 + 36) (k := i) a1 (Or.inl rfl) a2 hi (by omega)
  rw [ap_set] at e2
  have hm : jm_mk (lM X (l ++ .inr (4, F) :: lRf 4 5 f :: r) c s) (.inr (9, [.null, .int 0, .null, .null, .null])) 5 = fun f' => f' (lM X ((l ++ .inr (4, F) :: lRf 4 5 f :: r) ++ [.inr (9, [.null, .int 0, .null, .null, .null])]) (c + 1) (s + 5)) := by
    funext f'
    exact lM_mk (by rw [hlen]; omega)
  rw [bX4_init_33, hc]
  simp only [i3_le (a := 5) (b := (i : Int)) (by omega) (by omega) (by omega) (by omega), q, if_false, bX4_init_38, g1, ob_s, hm, n1, e1, bV_v, e2, i3_add]
  rfl
theorem iX4 (hl : l.length < 700000) : jm_env (d + 2) 40 [.ref l.length] (lM X (l ++ [.inr (4, [.int 0, .int 0, .int 0, .null, .null, .null])]) c s) = some (.inl none, lM X (l ++ lndC l.length) (c + 31) (s + 312)) := by
  rw [eX4_init _ _ _ c0, bX4_init_0, mk0 (by omega) (by simp)]
  rw [show (.inl (4, 5, .inr (.inr (.inr (.inr fun _ => none)))) : jm_Ent) = lRf 4 5 (fun _ => none) from rfl]
  simp only [len0, put0 (k := 3) (fs := [.int 0, .int 0, .int 0, .null, .null, .null]) (by decide), List.nil_append, List.set_cons_zero, List.set_cons_succ, List.length_nil, Nat.zero_add, ob_s]
  rw [mk0 (by omega) (by simp)]
  simp only [len0, List.cons_append, List.nil_append, List.length_cons, List.length_nil, Nat.zero_add, Nat.reduceAdd]
  have hlen : (l ++ [.inr (4, [.int 0, .int 0, .int 0, .ref (l.length + 1), .null, .null]), lRf 4 5 (fun _ => none)]).length = l.length + 2 := by rw [List.length_append]; rfl
  have e1 := iX6 (d := d) (X := X) (l := l ++ [.inr (4, [.int 0, .int 0, .int 0, .ref (l.length + 1), .null, .null]), lRf 4 5 (fun _ => none)]) (c := c + 1 + 1) (s := s + 5 + 4) (by rw [hlen]; omega)
  rw [hlen, List.append_assoc, List.append_assoc] at e1
  simp only [List.cons_append, List.nil_append] at e1
  simp only [e1, ob_s, bV_v]
  rw [put0 (k := 4) (fs := [.int 0, .int 0, .int 0, .ref (l.length + 1), .null, .null]) (by simp)]
  simp only [ob_s, List.set_cons_zero, List.set_cons_succ]
  rw [mk0 (by omega) (by simp [priC])]
  simp only [len0]
  rw [put0 (k := 5) (fs := [.int 0, .int 0, .int 0, .ref (l.length + 1), .ref (l.length + 2), .null]) (by simp)]
  simp only [ob_s, List.set_cons_zero, List.set_cons_succ]
  have hF : ∀ z, ([.int 0, .int 0, .int 0, .ref (l.length + 1), .ref (l.length + 2), .ref z] : List Value)[3]? = some (.ref (l.length + 1)) := fun z => rfl
  rw [show i3 0 = i3 ((0 : Nat) : Int) from rfl]
  rw [show (lRf 4 5 (fun _ => none) :: priC (l.length + 2) ++ [.inl (2, 8, .inr (.inl fun _ => 0))] : List jm_Ent) = lRf 4 5 (fun _ => none) :: (priC (l.length + 2) ++ [.inl (2, 8, .inr (.inl fun _ => 0))]) from rfl]
  rw [iX4_s (i := 0) (hF _) (by omega) (by omega) (by simp [priC])]
  rw [iX4_s (i := 0 + 1) (hF _) (by omega) (by omega) (by simp [priC, serC])]
  rw [iX4_s (i := 0 + 1 + 1) (hF _) (by omega) (by omega) (by simp [priC, serC])]
  rw [iX4_s (i := 0 + 1 + 1 + 1) (hF _) (by omega) (by omega) (by simp [priC, serC])]
  rw [iX4_s (i := 0 + 1 + 1 + 1 + 1) (hF _) (by omega) (by omega) (by simp [priC, serC])]
  rw [bX4_init_33]
  have q : ((5 : Int) ≤ ((0 + 1 + 1 + 1 + 1 + 1 : Nat) : Int)) = True := by decide
  simp only [i3_le (a := 5) (b := ((0 + 1 + 1 + 1 + 1 + 1 : Nat) : Int)) (by omega) (by omega) (by omega) (by omega), q, if_true, bX4_init_57]
  rw [show (0 + 1 : Nat) = 1 from rfl, va_5]
  rfl
end INE
