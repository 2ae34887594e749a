-- uses 24.zar 25.obj 26.ops 33.rg 34.gen d0.ina d1.inb d2.inc d3.ind
/-! The class's own object made, further: the slots; and the memory as it is told everywhere. -/
def eZ (sh : pl_S) : jm_Ent := pl_e sh (fun _ => 0)
theorem i3_00 : i3 0 = (0 : Int32) := rfl
theorem ser_e (a : Nat) : (pl_ser a).map eZ = serC a := rfl
theorem lnd_e (b : Nat) : (pl_lnd b).map eZ = lndC b := rfl
theorem lM_qM {X : Nat × (Nat → Int32)} {l : List jm_Ent} {v w : Nat → Int → Int} {T c s : Nat} (hl : l.length = 411 + T) (h : ∀ n : Nat, n < 411 + T → l[n]? = some (pl_e (pl_sh n) (pl_q v w n))) : lM X l c s = qM X v w T c s := by
  show (l.length, (fun n => match l[n]? with | some e => e | none => pl_sp X n), c, s) = (411 + T, pl_H X v w (411 + T), c, s)
  rw [hl]
  congr 2
  funext n
  unfold pl_H
  by_cases g : n < 411 + T
  · rw [if_pos g, h n g]
  · rw [if_neg g, List.getElem?_eq_none (by omega)]
def cA0 : List jm_Ent := cK9 ++ (cK10 ++ (cK11 ++ cK12))
def cL8 : List jm_Ent := .inr (11, cF) :: cS8
set_option maxRecDepth 100000 in
theorem cL8_n : cL8.length = 336 := rfl
theorem va_2 {a0 a1 : Nat} : va_up (va_up (fun _ : Nat => (none : Option Nat)) 0 (some a0)) 1 (some a1) = fun k => [a0, a1][k]? := by
  funext k
  unfold va_up
  match k with
  | 0 => rfl
  | 1 => rfl
  | k + 2 => rfl
section INJ
variable {X : Nat × (Nat → Int32)} {r : List jm_Ent} {c s d : Nat}
theorem iX11_s {f : Nat → Option Nat} {i : Nat} (hi : i < 2) (hr : r.length < 1000) : jm_R (jm_env (d + 2)) jmM_X11_init 153 [some (.ref 0), some (.int (i3 (i : Nat)))] [] (lM X (cL8 ++ lRf 5 2 f :: r) c s) = jm_R (jm_env (d + 2)) jmM_X11_init 153 [some (.ref 0), some (.int (i3 ((i + 1 : Nat))))] [] (lM X (cL8 ++ lRf 5 2 (va_up f i (some (336 + (r.length + 1)))) :: (r ++ lndC (336 + (r.length + 1)))) (c + 32) (s + 318)) := by
  have q : ((2 : Int) ≤ (i : Int)) = False := eq_false (by omega)
  have hc : ((i + 1 : Nat) : Int) = (i : Int) + 1 := by omega
  have g1 : jm_gR (lM X (cL8 ++ lRf 5 2 f :: r) c s) 0 11 8 = some 336 := lM_gR (a := 0) rfl rfl
  have hlen : (cL8 ++ lRf 5 2 f :: r).length = 336 + (r.length + 1) := by rw [List.length_append, cL8_n]; rfl
  have n1 : (lM X (cL8 ++ lRf 5 2 f :: r) c s).1 = 336 + (r.length + 1) := hlen
  have e1 := iX4 (d := d) (X := X) (l := cL8 ++ lRf 5 2 f :: r) (c := c + 1) (s := s + 6) (by rw [hlen]; omega)
  rw [hlen, List.append_assoc cL8 _ (lndC _)] at e1
  have a1 : (cL8 ++ ((lRf 5 2 f :: r) ++ lndC (336 + (r.length + 1))))[336]? = some (lRf 5 2 f) := by
    have := ap_at (l := cL8) (r := (lRf 5 2 f :: r) ++ lndC (336 + (r.length + 1))) (k := 0)
    rw [cL8_n] at this
    exact this
  have a2 : (cL8 ++ ((lRf 5 2 f :: r) ++ lndC (336 + (r.length + 1))))[336 + (r.length + 1)]? = some (.inr (jm_tc 5, [.int 0, .int 0, .int 0, .ref (336 + (r.length + 1) + 1), .ref (336 + (r.length + 1) + 2), .ref (336 + (r.length + 1) + 6)])) := by
    have h1 := ap_at (l := cL8) (r := (lRf 5 2 f :: r) ++ lndC (336 + (r.length + 1))) (k := r.length + 1)
    rw [cL8_n] at h1
    rw [h1]
    have := ap_at (l := lRf 5 2 f :: r) (r := lndC (336 + (r.length + 1))) (k := 0)
    rw [Nat.add_zero] at this
    exact this
  have e2 := lM_wR (X := X) (c := c + 1 + 31) (s := s + 6 + 312) (k := i) a1 (Or.inr rfl) a2 hi (by omega)
  have e3 : (cL8 ++ ((lRf 5 2 f :: r) ++ lndC (336 + (r.length + 1)))).set 336 (lRf 5 2 (va_up f i (some (336 + (r.length + 1))))) = cL8 ++ lRf 5 2 (va_up f i (some (336 + (r.length + 1)))) :: (r ++ lndC (336 + (r.length + 1))) := by
    have := ap_set (l := cL8) (r := (lRf 5 2 f :: r) ++ lndC (336 + (r.length + 1))) (k := 0) (e := lRf 5 2 (va_up f i (some (336 + (r.length + 1)))))
    rw [cL8_n] at this
    exact this
  have e2' : jm_wQ (lM X (cL8 ++ ((lRf 5 2 f :: r) ++ lndC (336 + (r.length + 1)))) (c + 1 + 31) (s + 6 + 312)) 336 (i3 (i : Nat)) (336 + (r.length + 1)) = some (lM X (cL8 ++ lRf 5 2 (va_up f i (some (336 + (r.length + 1)))) :: (r ++ lndC (336 + (r.length + 1)))) (c + 1 + 31) (s + 6 + 312)) := by
    rw [← e3]; exact e2
  have hm : jm_mk (lM X (cL8 ++ lRf 5 2 f :: r) c s) (.inr (4, [.int 0, .int 0, .int 0, .null, .null, .null])) 6 = fun f' => f' (lM X ((cL8 ++ lRf 5 2 f :: r) ++ [.inr (4, [.int 0, .int 0, .int 0, .null, .null, .null])]) (c + 1) (s + 6)) := by
    funext f'
    exact lM_mk (by rw [hlen]; omega)
  rw [bX11_init_153, hc]
  simp only [i3_le (a := 2) (b := (i : Int)) (by omega) (by omega) (by omega) (by omega), q, if_false, bX11_init_158, g1, ob_s, hm, n1, e1, bV_v, e2', i3_add]
end INJ
def cL : List jm_Ent := cL8 ++ lRf 5 2 (fun k => [347, 379][k]?) :: ((cA0 ++ lndC 347) ++ lndC 379)
section INK
variable {X : Nat × (Nat → Int32)} {c s d : Nat}
theorem iX11_b : jm_R (jm_env (d + 4)) jmM_X11_init 0 [some (.ref 0), none] [] (lM X [.inr (11, [.null, .null, .null, .null, .null, .null, .null, .null, .null, .null, .null, .null, .null, .int 0])] c s) = jm_R (jm_env (d + 4)) jmM_X11_init 179 [some (.ref 0), some (.int (i3 0))] [] (lM X cL (c + 410) (s + 5429)) := by
  have e0 : (.inr (11, cF) :: cS13 : List jm_Ent) = cL8 ++ lRf 5 2 (fun _ => none) :: cA0 := by
    unfold cL8 cA0 cS13 cS12 cS11 cS10 cS9 cK8
    simp only [List.append_assoc, List.cons_append, List.nil_append]
    rfl
  have h := iX11_a (X := X) (c := c) (s := s) (d := d)
  refine Eq.trans h ?_
  rw [e0, show i3 0 = i3 ((0 : Nat) : Int) from rfl]
  have h1 := iX11_s (d := d + 2) (X := X) (r := cA0) (c := c + 346) (s := s + 4793) (f := fun _ => none) (i := 0) (by omega) (by decide)
  have h2 := iX11_s (d := d + 2) (X := X) (r := cA0 ++ lndC 347) (c := c + 346 + 32) (s := s + 4793 + 318) (f := va_up (fun _ => none) 0 (some 347)) (i := 0 + 1) (by omega) (by decide)
  refine Eq.trans h1 (Eq.trans h2 ?_)
  rw [show (0 + 1 : Nat) = 1 from rfl, show 336 + ((cA0 ++ lndC 347).length + 1) = 379 from rfl, va_2]
  rw [bX11_init_153]
  have q : ((2 : Int) ≤ ((1 + 1 : Nat) : Int)) = True := by decide
  simp only [i3_le (a := 2) (b := ((1 + 1 : Nat) : Int)) (by omega) (by omega) (by omega) (by omega), q, if_true, bX11_init_177]
  rfl
end INK
