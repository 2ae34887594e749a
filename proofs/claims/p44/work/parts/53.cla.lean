-- uses 24.zar 25.obj 26.ops 27.ra 29.rc 34.gen 35.byt 36.ser 37.lnd 38.mod 39.mo2 40.mo3 41.bit 42.mo4
/-! The class's land, by the reference's numbers. -/
/-- series a of the class holds series i of the numbers -/
def rs (v μ : Nat → Int → Int) (a : Nat) (i : Int) : Prop := ∀ n : Int, 0 ≤ n → n < 10 → v (a + 2) n = (szM μ i n).1 ∧ v (a + 3) n = (szM μ i n).2 ∧ v (a + 4) n = kM μ i n
/-- .. and its name -/
def rn (v μ : Nat → Int → Int) (a : Nat) (i : Int) : Prop := 1 ≤ v a 1 ∧ v a 1 ≤ 6 ∧ ltOk (v (a + 1)) (v a 1).toNat ∧ μ 412 (12 + 13 * i + 0) = nk (v (a + 1)) (v a 1).toNat
/-- the land at b holds the numbers -/
def lr (v : Nat → Int → Int) (b : Nat) (μ : Nat → Int → Int) : Prop :=
  (v b 0 = μ 412 1 ∧ v b 1 = μ 412 2 ∧ v b 2 = μ 412 0 ∧ v (b + 2) 3 = μ 412 3) ∧ (∀ k : Int, 0 ≤ k → k < 8 → v (b + 6) k = μ 412 (4 + k)) ∧
  (∀ j : Int, 0 ≤ j → j < μ 412 3 → v (b + 3) j = μ 412 (77 + 3 * j) ∧ v (b + 4) j = μ 412 (77 + 3 * j + 1) ∧ v (b + 5) j = μ 412 (77 + 3 * j + 2)) ∧
  (∀ i : Nat, (i : Int) < μ 412 0 → rs v μ (b + 7 + 5 * i) i ∧ rn v μ (b + 7 + 5 * i) i)
/-- the sides of a series are numbers from 1 -/
def zM (μ : Nat → Int → Int) : Prop := ∀ i : Int, 0 ≤ i → i < μ 412 0 → 1 ≤ μ 412 (12 + 13 * i + 1) ∧ 1 ≤ μ 412 (12 + 13 * i + 2)
theorem szM_z {μ : Nat → Int → Int} (h : zM μ) {i : Int} (h0 : 0 ≤ i) (h1 : i < μ 412 0) (n : Int) : (szM μ i n).1 = 0 ↔ (szM μ i n).2 = 0 := hv_z (p := (μ 412 (12 + 13 * i + 1), μ 412 (12 + 13 * i + 2))) (by have := h i h0 h1; dsimp only; omega) n.toNat
theorem aM_w {μ : Nat → Int → Int} (h : zM μ) {i : Int} (h0 : 0 ≤ i) (h1 : i < μ 412 0) (n : Int) : aM μ i n = 0 ↔ (szM μ i n).1 = 0 := by
  have hz := szM_z h h0 h1 n
  unfold aM
  rw [Int.mul_eq_zero]
  omega
/-- behind a void size they are void -/
theorem aM_n {μ : Nat → Int → Int} (h : zM μ) {i : Int} (h0 : 0 ≤ i) (h1 : i < μ 412 0) {n : Int} (hn : 0 ≤ n) (hz : aM μ i n = 0) : aM μ i (n + 1) = 0 := by
  have h2 := (aM_w h h0 h1 n).mp hz
  have h3 := (szM_z h h0 h1 n).mp h2
  have h4 := hv_0 (p := (μ 412 (12 + 13 * i + 1), μ 412 (12 + 13 * i + 2))) n.toNat ⟨h2, h3⟩
  have e : szM μ i (n + 1) = hv (μ 412 (12 + 13 * i + 1), μ 412 (12 + 13 * i + 2)) (n.toNat + 1) := by
    unfold szM
    rw [show (n + 1).toNat = n.toNat + 1 by omega]
  rw [aM_w h h0 h1, e]
  exact h4.1
def LO (v : Nat → Int → Int) (b : Nat) (μ : Nat → Int → Int) : Prop := oLnd b ∧ lr v b μ ∧ gM μ ∧ zM μ
section CLA
variable {d : Nat} {X : Nat × (Nat → Int32)} {v w : Nat → Int → Int} {T c s : Nat}
variable {b : Nat} {μ : Nat → Int → Int}
theorem LO.zs (h : LO v b μ) {i : Nat} (hi : (i : Int) < μ 412 0) : oSer (b + 7 + 5 * i) := oSer_of h.1 (by have := h.2.2.1.2.1; omega)
theorem LO.zr (h : LO v b μ) {i : Nat} (hi : (i : Int) < μ 412 0) : rs v μ (b + 7 + 5 * i) i := (h.2.1.2.2.2 i hi).1
theorem LO.zn (h : LO v b μ) {i : Nat} (hi : (i : Int) < μ 412 0) : rn v μ (b + 7 + 5 * i) i := (h.2.1.2.2.2 i hi).2
theorem LO.sOk (h : LO v b μ) {i : Nat} (hi : (i : Int) < μ 412 0) : sOk v (b + 7 + 5 * i) := fun n n0 n1 => by
  obtain ⟨e1, e2, e3⟩ := h.zr hi n n0 n1
  have h1 := szM_b (h.2.2.1.o (i := i) (by omega) hi) n
  have h2 := h.2.2.1.k (i := i) (by omega) hi n n0 n1
  rw [e1, e2, e3]
  omega
theorem LO.zw (h : LO v b μ) {i : Nat} (hi : (i : Int) < μ 412 0) {n : Int} (n0 : 0 ≤ n) (n1 : n < 10) : tr (v (b + 7 + 5 * i + 2)) n = (szM μ i n).1 := (tr_in n0 n1).trans (h.zr hi n n0 n1).1
theorem LO.zh (h : LO v b μ) {i : Nat} (hi : (i : Int) < μ 412 0) {n : Int} (n0 : 0 ≤ n) (n1 : n < 10) : tr (v (b + 7 + 5 * i + 3)) n = (szM μ i n).2 := (tr_in n0 n1).trans (h.zr hi n n0 n1).2.1
theorem LO.zk (h : LO v b μ) {i : Nat} (hi : (i : Int) < μ 412 0) {n : Int} (n0 : 0 ≤ n) (n1 : n < 10) : tr (v (b + 7 + 5 * i + 4)) n = kM μ i n := (tr_in n0 n1).trans (h.zr hi n n0 n1).2.2
theorem LO.zv (h : LO v b μ) {i : Nat} (hi : (i : Int) < μ 412 0) {n : Int} (n0 : 0 ≤ n) : tr (v (b + 7 + 5 * i + 2)) n = 0 ↔ (10 ≤ n ∨ aM μ i n = 0) := by
  by_cases g : n < 10
  · rw [h.zw hi n0 g, aM_w h.2.2.2 (by omega) hi]
    omega
  · rw [tr_out (by omega)]
    simp only [true_iff]
    omega
theorem tX9_isVoid (h : LO v b μ) {i : Nat} {n : Int} (hi : (i : Int) < μ 412 0) (n0 : 0 ≤ n) (n1 : n < 100) : jm_env (d + 1) 79 [.ref (b + 7 + 5 * i), .int (i3 n)] (qM X v w T c s) = some (.inl (some (.int (i3 (if 10 ≤ n ∨ aM μ i n = 0 then 1 else 0)))), (qM X v w T c s)) := by
  rw [sX9_isVoid (h.zs hi) (h.sOk hi) (by omega) (by omega)]
  have e := h.zv hi n0
  by_cases g : 10 ≤ n ∨ aM μ i n = 0
  · rw [if_pos (e.mpr g), if_pos g]
  · rw [if_neg (fun q => g (e.mp q)), if_neg g]
theorem tX9_wideAt (h : LO v b μ) {i : Nat} {n : Int} (hi : (i : Int) < μ 412 0) (n0 : 0 ≤ n) (n1 : n < 10) : jm_env (d + 1) 80 [.ref (b + 7 + 5 * i), .int (i3 n)] (qM X v w T c s) = some (.inl (some (.int (i3 ((szM μ i n).1)))), (qM X v w T c s)) := by
  rw [sX9_wideAt (h.zs hi) (by omega) (by omega), h.zw hi n0 n1]
theorem tX9_highAt (h : LO v b μ) {i : Nat} {n : Int} (hi : (i : Int) < μ 412 0) (n0 : 0 ≤ n) (n1 : n < 10) : jm_env (d + 1) 81 [.ref (b + 7 + 5 * i), .int (i3 n)] (qM X v w T c s) = some (.inl (some (.int (i3 ((szM μ i n).2)))), (qM X v w T c s)) := by
  rw [sX9_highAt (h.zs hi) (by omega) (by omega), h.zh hi n0 n1]
theorem tX9_areaAt (h : LO v b μ) {i : Nat} {n : Int} (hi : (i : Int) < μ 412 0) (n0 : 0 ≤ n) (n1 : n < 10) : jm_env (d + 1) 82 [.ref (b + 7 + 5 * i), .int (i3 n)] (qM X v w T c s) = some (.inl (some (.int (i3 (aM μ i n)))), (qM X v w T c s)) := by
  rw [sX9_areaAt (h.zs hi) (by omega) (by omega), h.zw hi n0 n1, h.zh hi n0 n1]
  rfl
theorem tX9_sheetsAt (h : LO v b μ) {i : Nat} {n : Int} (hi : (i : Int) < μ 412 0) (n0 : 0 ≤ n) (n1 : n < 10) : jm_env (d + 1) 83 [.ref (b + 7 + 5 * i), .int (i3 n)] (qM X v w T c s) = some (.inl (some (.int (i3 (kM μ i n)))), (qM X v w T c s)) := by
  rw [sX9_sheetsAt (h.zs hi) (by omega) (by omega), h.zk hi n0 n1]
def stB (v : Nat → Int → Int) (i n : Int) : Int := if 10 ≤ n + 1 ∨ aM v i (n + 1) = 0 then -1 else aM v i n - 2 * aM v i (n + 1)
theorem tX9_stripAt (h : LO v b μ) {i : Nat} {n : Int} (hi : (i : Int) < μ 412 0) (n0 : 0 ≤ n) (n1 : n < 10) : jm_env (d + 2) 85 [.ref (b + 7 + 5 * i), .int (i3 n)] (qM X v w T c s) = some (.inl (some (.int (i3 (stB μ i n)))), (qM X v w T c s)) := by
  rw [sX9_stripAt (h.zs hi) (h.sOk hi) (by omega) (by omega)]
  apply fin_i
  have e := h.zv hi (show 0 ≤ n + 1 by omega)
  unfold stripF stB
  by_cases g : 10 ≤ n + 1 ∨ aM μ i (n + 1) = 0
  · rw [if_pos (e.mpr g), if_pos g]
  · rw [if_neg (fun q => g (e.mp q)), if_neg g, h.zw hi n0 n1, h.zh hi n0 n1, h.zw hi (by omega) (by omega), h.zh hi (by omega) (by omega)]
    rfl
theorem supM_F (h : LO v b μ) {i : Nat} (hi : (i : Int) < μ 412 0) : ∀ n : Nat, n < 10 → aM μ i n ≠ 0 → supF (tr (v (b + 7 + 5 * i + 4))) (n + 1) = supM μ i (n + 1) := by
  intro n
  induction n with
  | zero =>
    intro _ hz
    show min 9999 (tr (v (b + 7 + 5 * i + 4)) ((0 : Nat) : Int) + 2 * 0) = if aM μ i ((0 : Nat) : Int) = 0 then 0 else min 9999 (kM μ i ((0 : Nat) : Int) + 2 * 0)
    rw [if_neg hz, h.zk hi (by omega) (by omega)]
  | succ n ih =>
    intro hn hz
    have hz2 : aM μ i n ≠ 0 := fun q => hz (aM_n h.2.2.2 (by omega) hi (by omega) q)
    show min 9999 (tr (v (b + 7 + 5 * i + 4)) ((n + 1 : Nat) : Int) + 2 * supF (tr (v (b + 7 + 5 * i + 4))) (n + 1)) = if aM μ i ((n + 1 : Nat) : Int) = 0 then 0 else min 9999 (kM μ i ((n + 1 : Nat) : Int) + 2 * supM μ i (n + 1))
    rw [if_neg hz, h.zk hi (by omega) (by omega), ih (by omega) hz2]
theorem tX9_supplyAt (h : LO v b μ) {i n : Nat} (hi : (i : Int) < μ 412 0) (n1 : n < 10) : jm_env (d + 2) 86 [.ref (b + 7 + 5 * i), .int (i3 n)] (qM X v w T c s) = some (.inl (some (.int (i3 (supM μ i (n + 1))))), (qM X v w T c s)) := by
  rw [sX9_supplyAt (h.zs hi) (h.sOk hi) n1]
  apply fin_i
  have e := h.zv hi (show 0 ≤ (n : Int) by omega)
  by_cases g : aM μ i n = 0
  · rw [if_pos (e.mpr (Or.inr g)), show supM μ i (n + 1) = if aM μ i n = 0 then 0 else min 9999 (kM μ i n + 2 * supM μ i n) from rfl, if_pos g]
  · rw [if_neg (fun q => by have := e.mp q; omega), supM_F h hi n n1 g]
theorem tX9_foldsAt (h : LO v b μ) {i : Nat} {n : Int} (hi : (i : Int) < μ 412 0) (n0 : 0 ≤ n) (n1 : n < 10) : jm_env (d + 2) 87 [.ref (b + 7 + 5 * i), .int (i3 n)] (qM X v w T c s) = some (.inl (some (.int (i3 (fdM μ i n)))), (qM X v w T c s)) := by
  rw [sX9_foldsAt (h.zs hi) (h.sOk hi) n0 n1]
  apply fin_i
  have e := h.zv hi n0
  unfold fdM
  rw [fnd_congr (q := fun k : Nat => 10 ≤ n + k + 1 ∨ aM μ i (n + k + 1) = 0) (G' := fun k => (k : Int)) 5 0 (fun j _ _ => h.zv hi (by omega)) (fun _ _ _ => rfl)]
  by_cases g : 10 ≤ n ∨ aM μ i n = 0
  · rw [if_pos (e.mpr g), if_pos g]
  · rw [if_neg (fun q => g (e.mp q)), if_neg g]
theorem usF_E {x e : Int} : usF x e = usE x e := by unfold usF usE; omega
theorem tX9_fits (h : LO v b μ) {i : Nat} {n pw ph e : Int} (hi : (i : Int) < μ 412 0) (n0 : 0 ≤ n) (n1 : n < 10) (h2 : 0 ≤ pw) (h3 : pw ≤ 2000) (h4 : 0 ≤ ph) (h5 : ph ≤ 2000) (he : e = μ 412 1) : jm_env (d + 2) 88 [.ref (b + 7 + 5 * i), .int (i3 n), .int (i3 pw), .int (i3 ph), .int (i3 e)] (qM X v w T c s) = some (.inl (some (.int (i3 (fitI μ i n pw ph)))), (qM X v w T c s)) := by
  subst he
  obtain ⟨-, -, he0, he1, -⟩ := h.2.2.1
  rw [sX9_fits (h.zs hi) (h.sOk hi) (by omega) (by omega) h2 h3 h4 h5 he0 (by omega), h.zw hi n0 n1, h.zh hi n0 n1, usF_E, usF_E]
  rfl
end CLA
