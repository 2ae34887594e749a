-- uses 24.zar 25.obj 26.ops 33.rg 34.gen d0.ina d1.inb d2.inc d3.ind d4.ine d5.inf d6.ing d7.inh d8.ini
/-! Both objects in one memory. -/
def lRm (v w : Nat → Int → Int) : List jm_Ent := (List.range 411).map (fun n => pl_e (pl_sh n) (pl_q v w n))
theorem lRm_n {v w : Nat → Int → Int} : (lRm v w).length = 411 := by unfold lRm; rw [List.length_map, List.length_range]
theorem lRm_at {v w : Nat → Int → Int} {n : Nat} (h : n < 411) : (lRm v w)[n]? = some (pl_e (pl_sh n) (pl_q v w n)) := by
  unfold lRm
  rw [List.getElem?_map, List.getElem?_range h]
  rfl
theorem qM_lR {X : Nat × (Nat → Int32)} {v w : Nat → Int → Int} {c s : Nat} : qM X v w 0 c s = lM X (lRm v w) c s := (lM_qM lRm_n (fun n hn => lRm_at hn)).symm
def zz1 (n : Nat) (k : Int) : Int := if n = 411 ∧ k = 25 then -1 else 0
def v12 (v : Nat → Int → Int) : Nat → Int → Int := fun n k => if n < 411 then v n k else zz1 n k
theorem refC_e : ∀ i : Nat, i < 18 → (refC 411)[i]? = some (pl_e (pl_sh (411 + i)) (zz1 (411 + i))) := fun i hi => by
  match i, hi with
  | 0, _ => rfl
  | 1, _ => rfl
  | 2, _ => rfl
  | 3, _ => rfl
  | 4, _ => rfl
  | 5, _ => rfl
  | 6, _ => rfl
  | 7, _ => rfl
  | 8, _ => rfl
  | 9, _ => rfl
  | 10, _ => rfl
  | 11, _ => rfl
  | 12, _ => rfl
  | 13, _ => rfl
  | 14, _ => rfl
  | 15, _ => rfl
  | 16, _ => rfl
  | 17, _ => rfl
  | i + 18, hi => omega