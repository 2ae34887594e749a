-- uses 24.zar 25.obj 26.ops 27.ra 28.rb 29.rc 34.gen 35.byt 36.ser 37.lnd 38.mod 39.mo2 40.mo3 41.bit 44.mo6 46.mo8 51.moe 53.cla 58.clf 61.cli 62.clj 63.clk 64.okm 65.cll 73.clr 74.cls 93.tka 94.tkb 96.srd 97.srp 98.srq a0.srr b0.pla
/-! The class's reading of a script. -/
/-- the table holds an order at k -/
def enW (w : Nat → Int → Int) (k : Nat) (e : oE) : Prop := w 9 k = e.1 ∧ w 10 k = e.2.1 ∧ w 11 k = e.2.2.1 ∧ w 12 k = e.2.2.2.1 ∧ w 13 k = (k : Int) + 1 + e.2.2.2.2
def tbW (w : Nat → Int → Int) : Nat → List oE → Prop
  | _, [] => True
  | k, e :: l => enW w k e ∧ tbW w (k + 1) l
/-- below t the table is the same -/
def kpT (w' w : Nat → Int → Int) (t : Nat) : Prop := (∀ m : Nat, (m < 8 ∨ 14 ≤ m) → m ≠ 5 → w' m = w m) ∧ ∀ (m : Nat) (j : Int), 9 ≤ m → m ≤ 13 → j < t → w' m j = w m j
theorem kpT_id {w : Nat → Int → Int} {t : Nat} : kpT w w t := ⟨fun _ _ _ => rfl, fun _ _ _ _ _ => rfl⟩
theorem kpT_tr {w w' w'' : Nat → Int → Int} {t t' : Nat} (h : kpT w'' w' t') (g : kpT w' w t) (ht : t ≤ t') : kpT w'' w t := ⟨fun m h1 h2 => (h.1 m h1 h2).trans (g.1 m h1 h2), fun m j h1 h2 h3 => (h.2 m j h1 h2 (by omega)).trans (g.2 m j h1 h2 h3)⟩
theorem enW_fr {w w' : Nat → Int → Int} {k : Nat} {e : oE} (h : enW w k e) (hf : ∀ m : Nat, 9 ≤ m → m ≤ 13 → w' m k = w m k) : enW w' k e := by
  unfold enW at h ⊢
  rw [hf 9 (by omega) (by omega), hf 10 (by omega) (by omega), hf 11 (by omega) (by omega), hf 12 (by omega) (by omega), hf 13 (by omega) (by omega)]
  exact h
theorem tbW_fr {w w' : Nat → Int → Int} : ∀ {L : List oE} {k : Nat}, tbW w k L → (∀ (m : Nat) (j : Nat), 9 ≤ m → m ≤ 13 → k ≤ j → j < k + L.length → w' m j = w m j) → tbW w' k L := by
  intro L
  induction L with
  | nil => intro k _ _; trivial
  | cons e l ih =>
    intro k h hf
    refine ⟨enW_fr h.1 (fun m h1 h2 => hf m k h1 h2 (Nat.le_refl _) (by simp)), ih h.2 (fun m j h1 h2 h3 h4 => hf m j h1 h2 (by omega) (by simp only [List.length_cons]; omega))⟩
theorem tbW_app {w : Nat → Int → Int} : ∀ {L M : List oE} {k : Nat}, tbW w k (L ++ M) ↔ tbW w k L ∧ tbW w (k + L.length) M := by
  intro L
  induction L with
  | nil => intro M k; simp [tbW]
  | cons e l ih =>
    intro M k
    show enW w k e ∧ tbW w (k + 1) (l ++ M) ↔ (enW w k e ∧ tbW w (k + 1) l) ∧ tbW w (k + (l.length + 1)) M
    rw [ih, show k + 1 + l.length = k + (l.length + 1) by omega, and_assoc]
/-- an order told anew at t -/
def adW (w : Nat → Int → Int) (t : Nat) (k : Int) : Nat → Int → Int := up (up (up (up (up (up w 9 t k) 10 t 0) 11 t 0) 12 t 0) 13 t (t + 1)) 8 5 (t + 1)
theorem adW_t {w : Nat → Int → Int} {t : Nat} {k : Int} : adW w t k 8 5 = t + 1 ∧ enW (adW w t k) t (k, 0, 0, 0, 0) ∧ kpT (adW w t k) w t := by
  unfold adW
  refine ⟨up_eq, ⟨?_, ?_, ?_, ?_, ?_⟩, fun m h1 h2 => ?_, fun m j h1 h2 h3 => ?_⟩
  · rw [up_ne (by omega), up_ne (by omega), up_ne (by omega), up_ne (by omega), up_ne (by omega), up_eq]
  · rw [up_ne (by omega), up_ne (by omega), up_ne (by omega), up_ne (by omega), up_eq]
  · rw [up_ne (by omega), up_ne (by omega), up_ne (by omega), up_eq]
  · rw [up_ne (by omega), up_ne (by omega), up_eq]
  · rw [up_ne (by omega), up_eq]
    show (t : Int) + 1 = (t : Int) + 1 + ((0 : Nat) : Int)
    omega
  · rw [up_b (by omega), up_b (by omega), up_b (by omega), up_b (by omega), up_b (by omega), up_b (by omega)]
  · rw [up_ne (by omega), up_ne (by omega), up_ne (by omega), up_ne (by omega), up_ne (by omega), up_ne (by omega)]
section PLB
variable {d : Nat} {X : Nat × (Nat → Int32)} {v w : Nat → Int → Int} {T c s : Nat}
variable {b : Int → Int} {n : Nat} {μ : Nat → Int → Int}
theorem tX11_setAt8 {a : Nat} {z : Int} {t : Int} (ha : a = 10 ∨ a = 11 ∨ a = 12 ∨ a = 13) (t0 : 0 ≤ t) (t1 : t < 30) : jm_env (d + 1) 132 [.ref a, .int (i3 t), .int (i3 z)] (qM X v w T c s) = some (.inl none, qM X v (up w a t z) T c s) := by
  rcases ha with rfl | rfl | rfl | rfl
  · exact tX11_setAt (k := 30) n8_1 (by decide) t0 (by omega) (w8_1 t0 (by omega))
  · exact tX11_setAt (k := 30) n8_2 (by decide) t0 (by omega) (w8_2 t0 (by omega))
  · exact tX11_setAt (k := 30) n8_3 (by decide) t0 (by omega) (w8_3 t0 (by omega))
  · exact tX11_setAt (k := 30) n8_4 (by decide) t0 (by omega) (w8_4 t0 (by omega))
/-- the arguments read, or not -/
def oA (x : Option jm_Res) (X : Nat × (Nat → Int32)) (v w : Nat → Int → Int) (T c s : Nat) (b : Int → Int) (t : Nat) (r : aR) : Prop :=
  (∀ e, r = .inl e → ∃ w', x = some (.inl (some (.int (i3 (0)))), qM X (up (up v 5 5 e.1) 5 6 e.2) w' T c s)) ∧
  (∀ u, r = .inr u → ∃ w', x = some (.inl (some (.int (i3 (1)))), qM X v (RD w' b u.1) T c s) ∧ w' 8 5 = w 8 5 ∧ enW w' t u.2 ∧ kpT w' w t)
theorem oA_l {x : Option jm_Res} {t : Nat} {r : aR} {z : Int} {q : Nat} (hr : r = .inl (z, q)) (h : ∃ w', x = some (.inl (some (.int (i3 (0)))), qM X (up (up v 5 5 z) 5 6 q) w' T c s)) : oA x X v w T c s b t r := by
  subst hr
  exact ⟨fun e he => (by cases he; exact h), fun u hu => (by cases hu)⟩
theorem oA_r {x : Option jm_Res} {t : Nat} {r : aR} {u : Nat × oE} (hr : r = .inr u) (h : ∃ w', x = some (.inl (some (.int (i3 (1)))), qM X v (RD w' b u.1) T c s) ∧ w' 8 5 = w 8 5 ∧ enW w' t u.2 ∧ kpT w' w t) : oA x X v w T c s b t r := by
  subst hr
  exact ⟨fun e he => (by cases he), fun u hu => (by cases hu; exact h)⟩
end PLB
