-- uses 24.zar 25.obj 26.ops 33.rg 34.gen d0.ina d1.inb d2.inc d3.ind d4.ine
/-! The new memory is told as all others are. -/
def z0 : Nat → Int → Int := up (fun _ _ => 0) 5 6 (-1)
theorem z0_b {n : Nat} (h : n ≠ 5) : z0 n = fun _ => 0 := by
  funext k
  exact up_ne (Or.inl h)
theorem z0_q {n : Nat} : pl_q z0 z0 n = z0 n := by
  funext k
  unfold pl_q
  split <;> rfl
set_option maxRecDepth 1000000 in
theorem cL_e : cL = ((pl_shL.take 411).map eZ).set 5 (pl_e (pl_sh 5) (z0 5)) := rfl
set_option maxRecDepth 100000 in
theorem cL_n : cL.length = 411 := rfl
theorem cL_qM {X : Nat × (Nat → Int32)} {c s : Nat} : lM X cL c s = qM X z0 z0 0 c s := by
  refine lM_qM cL_n (fun n hn => ?_)
  rw [z0_q]
  by_cases g : n = 5
  · rw [g]; rfl
  · rw [cL_e, List.getElem?_set, if_neg (by omega), List.getElem?_map, List.getElem?_take, if_pos (by omega), z0_b g]
    have hlen : n < pl_shL.length := Nat.lt_of_lt_of_le hn (by decide +kernel)
    rw [List.getElem?_eq_getElem hlen]
    show some (pl_e pl_shL[n] (fun _ => 0)) = some (pl_e (if n < 431 then pl_shL.getD n (.inl (1, 10, [])) else .inl (1, 10, [])) (fun _ => 0))
    rw [if_pos (by omega)]
    congr 2
    rw [List.getD_eq_getElem?_getD, List.getElem?_eq_getElem hlen]
    rfl
