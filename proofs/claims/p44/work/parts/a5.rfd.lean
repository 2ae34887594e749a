-- uses 24.zar 25.obj 26.ops 30.rd 31.re 32.rf 34.gen 35.byt 38.mod 39.mo2 40.mo3 41.bit 43.mo5 46.mo8 51.moe 53.cla 55.clc 62.clj 64.okm 74.cls 93.tka 97.srp a2.rfa a3.rfb a4.rfc
/-! The reference: sizes and series of a setup. -/
def toS (to : Int → Int) : Int := to 0 + to 1 + to 2 + to 3 + to 4 + to 5 + to 6 + to 7 + to 8 + to 9
theorem toS_st {to : Int → Int} {k : Int} (k0 : 0 ≤ k) (k1 : k < 10) (h : to k = 0) : toS (st1 to k 1) = toS to + 1 := by
  have : k = 0 ∨ k = 1 ∨ k = 2 ∨ k = 3 ∨ k = 4 ∨ k = 5 ∨ k = 6 ∨ k = 7 ∨ k = 8 ∨ k = 9 := by omega
  unfold toS st1
  rcases this with rfl | rfl | rfl | rfl | rfl | rfl | rfl | rfl | rfl | rfl <;> simp [h] <;> omega
/-- .. and the flags at a -/
def frY (a : Nat) (w' w : Nat → Int → Int) : Prop := ∀ (m : Nat) (k : Int), m ≠ a → (m ≠ 411 ∨ (k ≠ 9 ∧ k ≠ 10 ∧ (k < 18 ∨ (23 < k ∧ k ≠ 26)))) → w' m k = w m k
theorem frY_tr {a : Nat} {w w' w'' : Nat → Int → Int} (h : frY a w'' w') (g : frY a w' w) : frY a w'' w := fun m k h1 h2 => (h m k h1 h2).trans (g m k h1 h2)
theorem frS.y {a : Nat} {w w' : Nat → Int → Int} (h : frS w' w) : frY a w' w := fun m k _ h2 => h m k h2
section RFD
variable {d : Nat} {X : Nat × (Nat → Int32)} {v w : Nat → Int → Int} {T c s : Nat}
variable {b : Int → Int} {n : Nat}
/-- one series' text: its answer is the pure one's -/
def oS (x : Option jm_Res) (X : Nat × (Nat → Int32)) (v w : Nat → Int → Int) (T c s : Nat) (b : Int → Int) (n K : Nat) (r : pR) : Prop :=
  (∀ e, r = .inl e → ∃ v' w' k, x = some (.inl none, qM X v' w' (T + k) (c + k) (s + 10 * k)) ∧ BD w' b n e.1 e.2 ∧ (∀ m : Nat, m ≠ 412 → v' m = v m) ∧ k ≤ K ∧ ∀ (m : Nat) (k : Int), m < 411 + T → (m ≠ 411 ∨ (k ≠ 9 ∧ k ≠ 10 ∧ (k < 18 ∨ (23 < k ∧ k ≠ 26)))) → w' m k = w m k) ∧
  (∀ u, r = .inr u → ∃ w' k, x = some (.inl none, qM X u.1 w' (T + k) (c + k) (s + 10 * k)) ∧ GD w' b n u.2 ∧ (∀ m : Nat, m ≠ 412 → u.1 m = v m) ∧ k ≤ K ∧ ∀ (m : Nat) (k : Int), m < 411 + T → (m ≠ 411 ∨ (k ≠ 9 ∧ k ≠ 10 ∧ (k < 18 ∨ (23 < k ∧ k ≠ 26)))) → w' m k = w m k)
theorem oS_l {x : Option jm_Res} {K : Nat} {r : pR} {z : Int} {q : Nat} (hr : r = .inl (z, q)) (h : ∃ w', x = some (.inl none, qM X v w' T c s) ∧ BD w' b n z q ∧ frS w' w) : oS x X v w T c s b n K r := by
  subst hr
  obtain ⟨w', h1, h2, h3⟩ := h
  exact ⟨fun e he => (by cases he; exact ⟨v, w', 0, h1, h2, fun _ _ => rfl, Nat.zero_le _, fun m k _ hk => h3 m k hk⟩), fun u hu => (by cases hu)⟩
theorem wd_6 (ho : okB b n) {p : Nat} (hp : p ≤ n) (g : isM b p) : 0 ≤ wd b p ∧ wd b p < 1073741824 := by
  obtain ⟨h1, h2, -⟩ := nk_b (wd_ok ho hp g.1 (m := min (en b p - p) 12) (by omega))
  have : (32 : Int) ^ (min (en b p - p) 12) ≤ 1073741824 := by
    have : ∀ n : Nat, n ≤ 6 → (32 : Int) ^ n ≤ 1073741824 := by decide
    exact this _ (by have := g.2; omega)
  unfold wd
  omega
end RFD
