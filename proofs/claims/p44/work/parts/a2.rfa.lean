-- uses 24.zar 25.obj 26.ops 30.rd 31.re 32.rf 34.gen 35.byt 38.mod 41.bit 43.mo5 51.moe 93.tka 97.srp
/-! The reference's reading: tokens. -/
/-- the text is b -/
def txW (w : Nat → Int → Int) (b : Int → Int) (n : Nat) : Prop := okB b n ∧ w 411 17 = n ∧ ∀ k : Int, 0 ≤ k → k < n → w 421 k = b k
def tkM (b : Int → Int) (p : Nat) : Int := if kd b p = 3 then (if b p = 59 ∨ b p = 40 ∨ b p = 41 then 3 else 4) else kd b p
/-- it stands at the token that begins at p -/
def SC (w : Nat → Int → Int) (b : Int → Int) (n p : Nat) : Prop := txW w b n ∧ p ≤ n ∧ w 411 18 = en b p ∧ w 411 19 = p ∧ w 411 20 = tkM b p ∧ isI (w 411 21) ∧ (kd b p = 2 → w 411 21 = nv b p) ∧ (kd b p = 1 → w 411 26 = wd b p)
/-- only the reading changed -/
def frT (w' w : Nat → Int → Int) : Prop := ∀ (m : Nat) (k : Int), (m ≠ 411 ∨ k < 18 ∨ (23 < k ∧ k ≠ 26)) → w' m k = w m k
theorem frT_id {w : Nat → Int → Int} : frT w w := fun _ _ _ => rfl
theorem frT_tr {w w' w'' : Nat → Int → Int} (h : frT w'' w') (g : frT w' w) : frT w'' w := fun m k hk => (h m k hk).trans (g m k hk)
theorem txW_fr {w w' : Nat → Int → Int} {b : Int → Int} {n : Nat} (h : txW w b n) (hf : frT w' w) : txW w' b n := ⟨h.1, (hf 411 17 (by omega)).trans h.2.1, fun k k0 k1 => (hf 421 k (by omega)).trans (h.2.2 k k0 k1)⟩
def GD (w : Nat → Int → Int) (b : Int → Int) (n p : Nat) : Prop := SC w b n p ∧ w 411 22 = 0
def BD (w : Nat → Int → Int) (b : Int → Int) (n : Nat) (cd : Int) (q : Nat) : Prop := (∃ p, SC w b n p) ∧ w 411 22 = cd ∧ w 411 23 = q ∧ 1 ≤ cd ∧ cd ≤ 4
theorem kd_b (b : Int → Int) (p : Nat) : 0 ≤ kd b p ∧ kd b p ≤ 3 := by rcases kd_c b p with ⟨q, -⟩ | ⟨q, -⟩ | ⟨q, -⟩ | ⟨q, -⟩ <;> omega
theorem tkM_b (b : Int → Int) (p : Nat) : 0 ≤ tkM b p ∧ tkM b p ≤ 4 := by
  have := kd_b b p
  unfold tkM
  split
  · split <;> omega
  · omega
theorem tkM_e {b : Int → Int} {p : Nat} : (tkM b p = 1 ↔ kd b p = 1) ∧ (tkM b p = 2 ↔ kd b p = 2) ∧ (tkM b p = 0 ↔ kd b p = 0) := by
  unfold tkM
  split
  · split <;> omega
  · exact ⟨Iff.rfl, Iff.rfl, Iff.rfl⟩
/-- a word's number, by i of its letters -/
def wdR (b : Int → Int) (p i : Nat) : Int := nk (fun k => b (p + k)) (min i 12)
section RFA
variable {d : Nat} {X : Nat × (Nat → Int32)} {v w : Nat → Int → Int} {T c s : Nat}
variable {b : Int → Int} {n : Nat}
theorem txW_u {k z : Int} (h : txW w b n) (hk : k ≠ 17) : txW (up w 411 k z) b n := ⟨h.1, by rw [up_ne (by omega)]; exact h.2.1, fun j j0 j1 => by rw [up_ne (by omega)]; exact h.2.2 j j0 j1⟩
end RFA
