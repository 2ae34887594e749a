-- uses 24.zar 25.obj 26.ops 30.rd 31.re 34.gen 38.mod
/-! The reference: what is gone through. -/
def gM (v : Nat → Int → Int) : Prop := 0 ≤ v 412 0 ∧ v 412 0 ≤ 5 ∧ 0 ≤ v 412 1 ∧ v 412 1 ≤ 50 ∧ ∀ i : Int, 0 ≤ i → i < v 412 0 → oM v i ∧ ∀ n : Int, 0 ≤ n → n < 10 → 0 ≤ kM v i n ∧ kM v i n ≤ 9999
theorem gM.o {v : Nat → Int → Int} (h : gM v) {i : Int} (h0 : 0 ≤ i) (h1 : i < v 412 0) : oM v i := (h.2.2.2.2 i h0 h1).1
theorem gM.k {v : Nat → Int → Int} (h : gM v) {i : Int} (h0 : 0 ≤ i) (h1 : i < v 412 0) : ∀ n : Int, 0 ≤ n → n < 10 → 0 ≤ kM v i n ∧ kM v i n ≤ 20000 := fun n a b => by have := (h.2.2.2.2 i h0 h1).2 n a b; omega
theorem gM.s {v : Nat → Int → Int} (h : gM v) {i : Int} (h0 : 0 ≤ i) (h1 : i < v 412 0) {n : Nat} (hn : n ≤ 10) : 0 ≤ supM v i n ∧ supM v i n ≤ 9999 := supM_b (fun n a b => ((h.2.2.2.2 i h0 h1).2 n a b).1) n hn
/-- 1 where a print fits, 0 where not -/
def fitI (v : Nat → Int → Int) (i n pw ph : Int) : Int := if (pw ≤ usE (szM v i n).1 (v 412 1) ∧ ph ≤ usE (szM v i n).2 (v 412 1)) ∨ (pw ≤ usE (szM v i n).2 (v 412 1) ∧ ph ≤ usE (szM v i n).1 (v 412 1)) then 1 else 0
theorem fitI_01 {v : Nat → Int → Int} {i n pw ph : Int} : 0 ≤ fitI v i n pw ph ∧ fitI v i n pw ph ≤ 1 := by unfold fitI; split <;> omega
section MO2
variable {d : Nat} {X : Nat × (Nat → Int32)} {v w : Nat → Int → Int} {T c s : Nat}
/-- the area of all -/
def areaG (v : Nat → Int → Int) (a : Int) (k n : Nat) : Int := a + kM v k n * aM v k n
/-- how many sizes a print fits -/
def fitG (v : Nat → Int → Int) (pw ph : Int) (a : Int) (k n : Nat) : Int := a + fitI v k n pw ph
theorem fitG_b {v : Nat → Int → Int} {pw ph : Int} (m : Nat) : 0 ≤ fo2 (fitG v pw ph) 0 m := fo2_P (P := fun x => 0 ≤ x) m (by omega) (fun k n x _ _ hx => by have := fitI_01 (v := v) (i := k) (n := n) (pw := pw) (ph := ph); unfold fitG; omega)
/-- the greatest supply of those that fit -/
def mosG (v : Nat → Int → Int) (pw ph : Int) (a : Int) (k n : Nat) : Int := if fitI v k n pw ph = 0 then a else max a (supM v k (n + 1))
theorem mosG_b {v : Nat → Int → Int} {pw ph : Int} (hg : gM v) (m : Nat) (hm : (m : Int) ≤ v 412 0) : 0 ≤ fo2 (mosG v pw ph) 0 m ∧ fo2 (mosG v pw ph) 0 m ≤ 9999 :=
  fo2_P (P := fun x => 0 ≤ x ∧ x ≤ 9999) m (by omega) (fun k n x hk hn hx => by
    have := hg.s (i := k) (n := n + 1) (by omega) (by omega) (by omega)
    unfold mosG; split <;> omega)
/-- the two fields in which the nearest size lies -/
def nw (w : Nat → Int → Int) (p : Int × Int) : Nat → Int → Int := up (up w 411 11 p.1) 411 12 p.2
section NWS
variable {p q : Int × Int} {z : Int} {n : Nat} {k : Int}
theorem nw_11 : nw w p 411 11 = p.1 := by unfold nw; rw [up_ne (by omega), up_eq]
theorem nw_12 : nw w p 411 12 = p.2 := by unfold nw; rw [up_eq]
theorem nw_ne (h : n ≠ 411 ∨ (k ≠ 11 ∧ k ≠ 12)) : nw w p n k = w n k := by unfold nw; rw [up_ne (by omega), up_ne (by omega)]
theorem nw_b (h : n ≠ 411) : nw w p n = w n := by funext k; exact nw_ne (Or.inl h)
theorem nw_u11 : up (nw w p) 411 11 z = nw w (z, p.2) := by unfold nw; rw [up_sw (by omega), up_up]
theorem nw_u12 : up (nw w p) 411 12 z = nw w (p.1, z) := by unfold nw; rw [up_up]
theorem nw_nw : nw (nw w p) q = nw w q := by
  rw [show nw (nw w p) q = up (up (nw w p) 411 11 q.1) 411 12 q.2 from rfl, nw_u11, nw_u12]
theorem nw_id : nw w (w 411 11, w 411 12) = w := by
  unfold nw
  rw [up_same, up_same]
theorem nw_i11 : nw w (z, w 411 12) = up w 411 11 z := by
  unfold nw
  rw [up_sw (by omega)]
  dsimp only
  rw [up_same]
end NWS
/-- nearer than what was found so far -/
def nrI (v : Nat → Int → Int) (st : Int × Int) (i a : Int) : Int := if st.1 = -1 ∨ a < aM v st.1 st.2 ∨ (a = aM v st.1 st.2 ∧ i = st.1) then 1 else 0
def nrG (v : Nat → Int → Int) (pw ph num : Int) (st : Int × Int) (k n : Nat) : Int × Int := if fitI v k n pw ph = 1 ∧ num ≤ supM v k (n + 1) ∧ nrI v st k (aM v k n) = 1 then ((k : Int), (n : Int)) else st
def nrP (v : Nat → Int → Int) (st : Int × Int) : Prop := st.1 = -1 ∨ (0 ≤ st.1 ∧ st.1 < v 412 0 ∧ 0 ≤ st.2 ∧ st.2 < 10)
theorem nrG_P {v : Nat → Int → Int} {pw ph num : Int} {st : Int × Int} {k n : Nat} (h : nrP v st) (hk : (k : Int) < v 412 0) (hn : n < 10) : nrP v (nrG v pw ph num st k n) := by
  unfold nrG
  split
  · exact Or.inr ⟨by simp, by simpa using hk, by simp, by simp; omega⟩
  · exact h
def nrM (v : Nat → Int → Int) (pw ph num x : Int) : Int × Int := fo2 (nrG v pw ph num) (-1, x) (v 412 0).toNat
theorem nrM_P {v : Nat → Int → Int} {pw ph num x : Int} : nrP v (nrM v pw ph num x) := fo2_P (P := nrP v) _ (Or.inl rfl) (fun k n y hk hn hy => nrG_P hy (by omega) hn)
end MO2
