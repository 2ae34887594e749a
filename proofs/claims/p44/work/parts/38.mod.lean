-- uses 24.zar 25.obj 26.ops 30.rd 31.re 34.gen
/-! The reference: numbers, sides, supplies. -/
/-- the two fields in which the sides lie that were found last -/
def fw (w : Nat → Int → Int) (p : Int × Int) : Nat → Int → Int := up (up w 411 9 p.1) 411 10 p.2
section FWS
variable {w : Nat → Int → Int} {p q : Int × Int} {z : Int} {n : Nat} {k : Int}
theorem fw_9 : fw w p 411 9 = p.1 := by unfold fw; rw [up_ne (by omega), up_eq]
theorem fw_10 : fw w p 411 10 = p.2 := by unfold fw; rw [up_eq]
theorem fw_ne (h : n ≠ 411 ∨ (k ≠ 9 ∧ k ≠ 10)) : fw w p n k = w n k := by unfold fw; rw [up_ne (by omega), up_ne (by omega)]
theorem fw_b (h : n ≠ 411) : fw w p n = w n := by funext k; exact fw_ne (Or.inl h)
theorem up_sw {a b : Nat} {i j x y : Int} (h : a ≠ b ∨ i ≠ j) : up (up w a i x) b j y = up (up w b j y) a i x := by
  funext n k
  unfold up
  by_cases e : n = b ∧ k = j
  · rw [if_pos e, if_neg (by omega), if_pos e]
  · rw [if_neg e]
    by_cases q : n = a ∧ k = i
    · rw [if_pos q, if_pos q]
    · rw [if_neg q, if_neg q, if_neg e]
theorem up_up {a : Nat} {i x y : Int} : up (up w a i x) a i y = up w a i y := by
  funext n k
  unfold up
  by_cases e : n = a ∧ k = i
  · rw [if_pos e, if_pos e]
  · rw [if_neg e, if_neg e, if_neg e]
theorem up_same {a : Nat} {i : Int} : up w a i (w a i) = w := by
  funext n k
  unfold up
  by_cases e : n = a ∧ k = i
  · rw [if_pos e, e.1, e.2]
  · rw [if_neg e]
theorem fw_mk {x y : Int} : up (up w 411 9 x) 411 10 y = fw w (x, y) := rfl
theorem fw_u9 : up (fw w p) 411 9 z = fw w (z, p.2) := by unfold fw; rw [up_sw (by omega), up_up]
theorem fw_u10 : up (fw w p) 411 10 z = fw w (p.1, z) := by unfold fw; rw [up_up]
theorem fw_fw : fw (fw w p) q = fw w q := by
  rw [show fw (fw w p) q = up (up (fw w p) 411 9 q.1) 411 10 q.2 from rfl, fw_u9, fw_u10]
theorem fw_up {a : Nat} (h : a ≠ 411 ∨ (k ≠ 9 ∧ k ≠ 10)) : up (fw w p) a k z = fw (up w a k z) p := by
  unfold fw
  rw [up_sw (by omega), up_sw (a := 411) (i := 9) (by omega)]
theorem fw_fil {a : Nat} {f : Int → Int} {m : Int} (h : a ≠ 411) : fil (fw w p) a f m = fw (fil w a f m) p := by
  unfold fw
  rw [← up_fil (by omega), ← up_fil (by omega)]
theorem fw_id : fw w (w 411 9, w 411 10) = w := by
  unfold fw
  rw [up_same, up_same]
end FWS
noncomputable def hid (d k : Nat) (as : List Value) (m : jm_Mem) : Option jm_Res := jm_env d k as m
noncomputable def pq (x : Option jm_Res) (X : Nat × (Nat → Int32)) (v w : Nat → Int → Int) (T c s : Nat) : Int × Int := Classical.epsilon fun p => ∃ a, x = some (a, qM X v (fw w p) T c s)
theorem pq_eq {d k : Nat} {as : List Value} {m : jm_Mem} {X : Nat × (Nat → Int32)} {v w : Nat → Int → Int} {T c s : Nat} {a : Option Value ⊕ String} (h : ∃ p, jm_env d k as m = some (a, qM X v (fw w p) T c s)) : jm_env d k as m = some (a, qM X v (fw w (pq (hid d k as m) X v w T c s)) T c s) := by
  obtain ⟨p, hp⟩ := h
  obtain ⟨b, hb⟩ := Classical.epsilon_spec (p := fun p => ∃ a, hid d k as m = some (a, qM X v (fw w p) T c s)) ⟨p, a, hp⟩
  have hb : jm_env d k as m = some (b, qM X v (fw w (pq (hid d k as m) X v w T c s)) T c s) := hb
  have e := hp.symm.trans hb
  have e2 : a = b := congrArg Prod.fst (Option.some.inj e)
  rw [hb, e2]
/-- the sides of a size by the reference's own row -/
def szM (v : Nat → Int → Int) (i n : Int) : Int × Int := hv (v 412 (12 + 13 * i + 1), v 412 (12 + 13 * i + 2)) n.toNat
def aM (v : Nat → Int → Int) (i n : Int) : Int := (szM v i n).1 * (szM v i n).2
def kM (v : Nat → Int → Int) (i n : Int) : Int := v 412 (12 + 13 * i + 3 + n)
/-- the sides told are sides -/
def oM (v : Nat → Int → Int) (i : Int) : Prop := 0 ≤ v 412 (12 + 13 * i + 1) ∧ v 412 (12 + 13 * i + 1) ≤ 2000 ∧ 0 ≤ v 412 (12 + 13 * i + 2) ∧ v 412 (12 + 13 * i + 2) ≤ 2000
theorem szM_b {v : Nat → Int → Int} {i : Int} (h : oM v i) (n : Int) : 0 ≤ (szM v i n).1 ∧ (szM v i n).1 ≤ 2000 ∧ 0 ≤ (szM v i n).2 ∧ (szM v i n).2 ≤ 2000 := hv_b (p := (v 412 (12 + 13 * i + 1), v 412 (12 + 13 * i + 2))) h n.toNat
theorem mul_b {x y : Int} (h0 : 0 ≤ x) (h1 : x ≤ 2000) (h2 : 0 ≤ y) (h3 : y ≤ 2000) : 0 ≤ x * y ∧ x * y ≤ 4000000 := by
  have a := Int.mul_nonneg h0 h2
  have b := Int.mul_le_mul h1 h3 h2 (by omega)
  omega
theorem aM_b {v : Nat → Int → Int} {i : Int} (h : oM v i) (n : Int) : 0 ≤ aM v i n ∧ aM v i n ≤ 4000000 := by
  obtain ⟨h0, h1, h2, h3⟩ := szM_b h n
  exact mul_b h0 h1 h2 h3
def usE (x e : Int) : Int := max 0 (x - 2 * e)
theorem usE_b {x e : Int} (h0 : 0 ≤ x) (h1 : x ≤ 2000) (h2 : 0 ≤ e) : 0 ≤ usE x e ∧ usE x e ≤ 2000 := by unfold usE; omega
section MOD
variable {d : Nat} {X : Nat × (Nat → Int32)} {v w : Nat → Int → Int} {T c s : Nat}
def supM (v : Nat → Int → Int) (i : Int) : Nat → Int
  | 0 => 0
  | k + 1 => if aM v i k = 0 then 0 else min 9999 (kM v i k + 2 * supM v i k)
theorem supM_b {i : Int} (hk : ∀ n : Int, 0 ≤ n → n < 10 → 0 ≤ kM v i n) : ∀ n : Nat, n ≤ 10 → 0 ≤ supM v i n ∧ supM v i n ≤ 9999 := by
  intro n
  induction n with
  | zero => intro _; unfold supM; omega
  | succ n ih =>
    intro hn
    have h1 := hk n (by omega) (by omega)
    have h2 := ih (by omega)
    unfold supM
    split <;> omega
end MOD
