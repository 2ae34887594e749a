-- uses 24.zar 34.gen 38.mod 39.mo2
/-! Folding, pure: a sheet folded f times; bit k of x tells whether fold k halves the height. -/
def bt (x k : Nat) : Bool := x / 2 ^ k % 2 == 1
def rwX (x : Nat) : Nat → Int
  | 0 => 1
  | k + 1 => if bt x k = true then 2 * rwX x k else rwX x k
def clX (x : Nat) : Nat → Int
  | 0 => 1
  | k + 1 => if bt x k = true then clX x k else 2 * clX x k
def htX : Nat → Int
  | 0 => 1
  | k + 1 => 2 * htX k
def dnX (x f : Nat) : Nat → Int
  | 0 => rwX x f
  | k + 1 => if bt x k = true then dnX x f k / 2 else dnX x f k
def acX (x f : Nat) : Nat → Int
  | 0 => clX x f
  | k + 1 => if bt x k = true then acX x f k else acX x f k / 2
def xr (a : Int) : Int := if a % 2 = 0 then a + 1 else a - 1
/-- a cell followed: row, column, leaf, front up -/
def flX (x f : Nat) (r c : Int) : Nat → Int × Int × Int × Int
  | 0 => (r, c, 0, 1)
  | k + 1 =>
    if bt x k = true then (if dnX x f k / 2 ≤ (flX x f r c k).1 then (dnX x f k - 1 - (flX x f r c k).1, (flX x f r c k).2.1, htX k - 1 - (flX x f r c k).2.2.1, 1 - (flX x f r c k).2.2.2) else ((flX x f r c k).1, (flX x f r c k).2.1, (flX x f r c k).2.2.1 + htX k, (flX x f r c k).2.2.2))
    else (if acX x f k / 2 ≤ (flX x f r c k).2.1 then ((flX x f r c k).1, acX x f k - 1 - (flX x f r c k).2.1, htX k - 1 - (flX x f r c k).2.2.1, 1 - (flX x f r c k).2.2.2) else ((flX x f r c k).1, (flX x f r c k).2.1, (flX x f r c k).2.2.1 + htX k, (flX x f r c k).2.2.2))
def pgX (x f : Nat) (r c bk : Int) : Int := 2 * (flX x f r c f).2.2.1 + (if (flX x f r c f).2.2.2 = bk then 2 else 1)
/-- the pile at a place -/
def qX (x f : Nat) : Nat → Int → Int → Int → Int
  | 0, r, c, _ => 2 * (r * clX x f + c)
  | k + 1, r, c, t => if t < htX k then xr (if bt x k = true then qX x f k (dnX x f k - 1 - r) c (htX k - 1 - t) else qX x f k r (acX x f k - 1 - c) (htX k - 1 - t)) else qX x f k r c (t - htX k)
def pgI (x f : Nat) (j : Int) : Int := pgX x f (j / 2 / clX x f) (j / 2 % clX x f) (j % 2)
def alN : Nat → (Nat → Bool) → Bool
  | 0, _ => true
  | n + 1, p => alN n p && p n
theorem alN_a {n : Nat} {p : Nat → Bool} (h : alN n p = true) : ∀ k, k < n → p k = true := by
  induction n with
  | zero => intro k hk; omega
  | succ n ih =>
    intro k hk
    have h2 : (alN n p && p n) = true := h
    rw [Bool.and_eq_true] at h2
    by_cases q : k = n
    · rw [q]; exact h2.2
    · exact ih h2.1 k (by omega)
def exN : Nat → (Nat → Bool) → Bool
  | 0, _ => false
  | n + 1, p => exN n p || p n
theorem exN_a {n : Nat} {p : Nat → Bool} (h : exN n p = true) : ∃ k, k < n ∧ p k = true := by
  induction n with
  | zero => exact absurd h Bool.false_ne_true
  | succ n ih =>
    have h2 : (exN n p || p n) = true := h
    rw [Bool.or_eq_true] at h2
    rcases h2 with h2 | h2
    · obtain ⟨k, a, b⟩ := ih h2
      exact ⟨k, by omega, b⟩
    · exact ⟨n, by omega, h2⟩
def z1 (x f : Nat) : Prop := rwX x f * clX x f = htX f ∧ 1 ≤ rwX x f ∧ rwX x f ≤ 32 ∧ 1 ≤ clX x f ∧ clX x f ≤ 32 ∧ dnX x f f = 1 ∧ acX x f f = 1
def z1b (x f : Nat) : Bool := decide (rwX x f * clX x f = htX f ∧ 1 ≤ rwX x f ∧ rwX x f ≤ 32 ∧ 1 ≤ clX x f ∧ clX x f ≤ 32 ∧ dnX x f f = 1 ∧ acX x f f = 1)
theorem z1_o {x f : Nat} (h : z1b x f = true) : z1 x f := by
  unfold z1b at h
  unfold z1
  exact of_decide_eq_true h
def z2 (x f k : Nat) : Prop := (bt x k = true → dnX x f k = 2 * dnX x f (k + 1) ∧ acX x f k = acX x f (k + 1)) ∧ (bt x k = false → dnX x f k = dnX x f (k + 1) ∧ acX x f k = 2 * acX x f (k + 1))
def z2b (x f k : Nat) : Bool := decide ((bt x k = true → dnX x f k = 2 * dnX x f (k + 1) ∧ acX x f k = acX x f (k + 1)) ∧ (bt x k = false → dnX x f k = dnX x f (k + 1) ∧ acX x f k = 2 * acX x f (k + 1)))
theorem z2_o {x f k : Nat} (h : z2b x f k = true) : z2 x f k := by
  unfold z2b at h
  unfold z2
  exact of_decide_eq_true h
def z3 (x f k : Nat) : Prop := dnX x f k * acX x f k * htX k = htX f ∧ 1 ≤ dnX x f k ∧ dnX x f k ≤ rwX x f ∧ 1 ≤ acX x f k ∧ acX x f k ≤ clX x f
def z3b (x f k : Nat) : Bool := decide (dnX x f k * acX x f k * htX k = htX f ∧ 1 ≤ dnX x f k ∧ dnX x f k ≤ rwX x f ∧ 1 ≤ acX x f k ∧ acX x f k ≤ clX x f)
theorem z3_o {x f k : Nat} (h : z3b x f k = true) : z3 x f k := by
  unfold z3b at h
  unfold z3
  exact of_decide_eq_true h
def zh (k : Nat) : Prop := htX k = ((2 ^ k : Nat) : Int) ∧ 1 ≤ htX k ∧ htX k ≤ 32
def zhb (k : Nat) : Bool := decide (htX k = ((2 ^ k : Nat) : Int) ∧ 1 ≤ htX k ∧ htX k ≤ 32)
theorem zh_o {k : Nat} (h : zhb k = true) : zh k := by
  unfold zhb at h
  unfold zh
  exact of_decide_eq_true h
def z4a (x f k r c t : Nat) : Prop := 0 ≤ qX x f k r c t ∧ qX x f k r c t < 2 * htX f
def z4ab (x f k r c t : Nat) : Bool := decide (0 ≤ qX x f k r c t ∧ qX x f k r c t < 2 * htX f)
theorem z4a_o {x f k r c t : Nat} (h : z4ab x f k r c t = true) : z4a x f k r c t := by
  unfold z4ab at h
  unfold z4a
  exact of_decide_eq_true h
def z5 (x f l : Nat) : Prop := pgI x f (qX x f f 0 0 l) = 2 * (l : Int) + 1 ∧ pgI x f (xr (qX x f f 0 0 l)) = 2 * (l : Int) + 2 ∧ 0 ≤ xr (qX x f f 0 0 l) ∧ xr (qX x f f 0 0 l) < 2 * htX f
def z5b (x f l : Nat) : Bool := decide (pgI x f (qX x f f 0 0 l) = 2 * (l : Int) + 1 ∧ pgI x f (xr (qX x f f 0 0 l)) = 2 * (l : Int) + 2 ∧ 0 ≤ xr (qX x f f 0 0 l) ∧ xr (qX x f f 0 0 l) < 2 * htX f)
theorem z5_o {x f l : Nat} (h : z5b x f l = true) : z5 x f l := by
  unfold z5b at h
  unfold z5
  exact of_decide_eq_true h
def z6a (x f j l : Nat) : Prop := qX x f f 0 0 l = (j : Int) ∨ xr (qX x f f 0 0 l) = (j : Int)
def z6ab (x f j l : Nat) : Bool := decide (qX x f f 0 0 l = (j : Int) ∨ xr (qX x f f 0 0 l) = (j : Int))
theorem z6a_o {x f j l : Nat} (h : z6ab x f j l = true) : z6a x f j l := by
  unfold z6ab at h
  unfold z6a
  exact of_decide_eq_true h
def z7a (x f r c k : Nat) : Prop := pgI x f (2 * ((r : Int) * clX x f + c) + k) = pgX x f r c k ∧ 1 ≤ pgX x f r c k ∧ pgX x f r c k ≤ 2 * htX f
def z7ab (x f r c k : Nat) : Bool := decide (pgI x f (2 * ((r : Int) * clX x f + c) + k) = pgX x f r c k ∧ 1 ≤ pgX x f r c k ∧ pgX x f r c k ≤ 2 * htX f)
theorem z7a_o {x f r c k : Nat} (h : z7ab x f r c k = true) : z7a x f r c k := by
  unfold z7ab at h
  unfold z7a
  exact of_decide_eq_true h
def z8a (x f r c : Nat) : Prop := pgX x f r c 1 = if pgX x f r c 0 % 2 = 1 then pgX x f r c 0 + 1 else pgX x f r c 0 - 1
def z8ab (x f r c : Nat) : Bool := decide (pgX x f r c 1 = if pgX x f r c 0 % 2 = 1 then pgX x f r c 0 + 1 else pgX x f r c 0 - 1)
theorem z8a_o {x f r c : Nat} (h : z8ab x f r c = true) : z8a x f r c := by
  unfold z8ab at h
  unfold z8a
  exact of_decide_eq_true h
def z9a (x f r c k : Nat) : Prop := (0 ≤ (flX x f r c k).1 ∧ (flX x f r c k).1 < dnX x f k) ∧ (0 ≤ (flX x f r c k).2.1 ∧ (flX x f r c k).2.1 < acX x f k) ∧ (0 ≤ (flX x f r c k).2.2.1 ∧ (flX x f r c k).2.2.1 < htX k) ∧ ((flX x f r c k).2.2.2 = 0 ∨ (flX x f r c k).2.2.2 = 1)
def z9ab (x f r c k : Nat) : Bool := decide ((0 ≤ (flX x f r c k).1 ∧ (flX x f r c k).1 < dnX x f k) ∧ (0 ≤ (flX x f r c k).2.1 ∧ (flX x f r c k).2.1 < acX x f k) ∧ (0 ≤ (flX x f r c k).2.2.1 ∧ (flX x f r c k).2.2.1 < htX k) ∧ ((flX x f r c k).2.2.2 = 0 ∨ (flX x f r c k).2.2.2 = 1))
theorem z9a_o {x f r c k : Nat} (h : z9ab x f r c k = true) : z9a x f r c k := by
  unfold z9ab at h
  unfold z9a
  exact of_decide_eq_true h
def zaa (x f p r c : Nat) : Prop := pgX x f r c 0 = (p : Int) + 1 ∨ pgX x f r c 1 = (p : Int) + 1
def zaab (x f p r c : Nat) : Bool := decide (pgX x f r c 0 = (p : Int) + 1 ∨ pgX x f r c 1 = (p : Int) + 1)
theorem zaa_o {x f p r c : Nat} (h : zaab x f p r c = true) : zaa x f p r c := by
  unfold zaab at h
  unfold zaa
  exact of_decide_eq_true h
def zx (x k : Nat) (b0 b1 b2 b3 b4 : Bool) : Prop := bt x k = (match k with | 0 => b0 | 1 => b1 | 2 => b2 | 3 => b3 | _ => b4)
def zxb (x k : Nat) (b0 b1 b2 b3 b4 : Bool) : Bool := decide (bt x k = (match k with | 0 => b0 | 1 => b1 | 2 => b2 | 3 => b3 | _ => b4))
theorem zx_o {x k : Nat} {b0 b1 b2 b3 b4 : Bool} (h : zxb x k b0 b1 b2 b3 b4 = true) : zx x k b0 b1 b2 b3 b4 := by
  unfold zxb at h
  unfold zx
  exact of_decide_eq_true h
theorem fo_10 : (alN 6 fun f => alN (2 ^ f) fun x => z1b x f) = true := by decide +kernel
theorem fo_1 : ∀ f < 6, ∀ x < 2 ^ f, z1 x f := fun f hf x hx => z1_o (alN_a (alN_a fo_10 f hf) x hx)
theorem fo_20 : (alN 6 fun f => alN (2 ^ f) fun x => alN f fun k => z2b x f k) = true := by decide +kernel
theorem fo_2 : ∀ f < 6, ∀ x < 2 ^ f, ∀ k < f, z2 x f k := fun f hf x hx k hk => z2_o (alN_a (alN_a (alN_a fo_20 f hf) x hx) k hk)
theorem fo_30 : (alN 6 fun f => alN (2 ^ f) fun x => alN (f + 1) fun k => z3b x f k) = true := by decide +kernel
theorem fo_3 : ∀ f < 6, ∀ x < 2 ^ f, ∀ k < f + 1, z3 x f k := fun f hf x hx k hk => z3_o (alN_a (alN_a (alN_a fo_30 f hf) x hx) k hk)
theorem fo_h0 : (alN 6 fun k => zhb k) = true := by decide +kernel
theorem fo_h : ∀ k < 6, zh k := fun k hk => zh_o (alN_a fo_h0 k hk)
theorem fo_40 : (alN 6 fun f => alN (2 ^ f) fun x => alN (f + 1) fun k => alN (dnX x f k).toNat fun r => alN (acX x f k).toNat fun c => alN (2 ^ k) fun t => z4ab x f k r c t) = true := by decide +kernel
theorem fo_4 : ∀ f < 6, ∀ x < 2 ^ f, ∀ k < f + 1, ∀ r < (dnX x f k).toNat, ∀ c < (acX x f k).toNat, ∀ t < 2 ^ k, z4a x f k r c t := fun f hf x hx k hk r hr c hc t ht => z4a_o (alN_a (alN_a (alN_a (alN_a (alN_a (alN_a fo_40 f hf) x hx) k hk) r hr) c hc) t ht)
theorem fo_50 : (alN 6 fun f => alN (2 ^ f) fun x => alN (2 ^ f) fun l => z5b x f l) = true := by decide +kernel
theorem fo_5 : ∀ f < 6, ∀ x < 2 ^ f, ∀ l < 2 ^ f, z5 x f l := fun f hf x hx k hk => z5_o (alN_a (alN_a (alN_a fo_50 f hf) x hx) k hk)
theorem fo_60 : (alN 6 fun f => alN (2 ^ f) fun x => alN (2 * 2 ^ f) fun j => exN (2 ^ f) fun l => z6ab x f j l) = true := by decide +kernel
theorem fo_6 : ∀ f < 6, ∀ x < 2 ^ f, ∀ j < 2 * 2 ^ f, ∃ l, l < 2 ^ f ∧ z6a x f j l := fun f hf x hx j hj => let ⟨l, a, b⟩ := exN_a (alN_a (alN_a (alN_a fo_60 f hf) x hx) j hj); ⟨l, a, z6a_o b⟩
theorem fo_70 : (alN 6 fun f => alN (2 ^ f) fun x => alN (rwX x f).toNat fun r => alN (clX x f).toNat fun c => alN 2 fun k => z7ab x f r c k) = true := by decide +kernel
theorem fo_7 : ∀ f < 6, ∀ x < 2 ^ f, ∀ r < (rwX x f).toNat, ∀ c < (clX x f).toNat, ∀ k < 2, z7a x f r c k := fun f hf x hx r hr c hc k hk => z7a_o (alN_a (alN_a (alN_a (alN_a (alN_a fo_70 f hf) x hx) r hr) c hc) k hk)
theorem fo_80 : (alN 6 fun f => alN (2 ^ f) fun x => alN (rwX x f).toNat fun r => alN (clX x f).toNat fun c => z8ab x f r c) = true := by decide +kernel
theorem fo_8 : ∀ f < 6, ∀ x < 2 ^ f, ∀ r < (rwX x f).toNat, ∀ c < (clX x f).toNat, z8a x f r c := fun f hf x hx r hr c hc => z8a_o (alN_a (alN_a (alN_a (alN_a fo_80 f hf) x hx) r hr) c hc)
theorem fo_90 : (alN 6 fun f => alN (2 ^ f) fun x => alN (rwX x f).toNat fun r => alN (clX x f).toNat fun c => alN (f + 1) fun k => z9ab x f r c k) = true := by decide +kernel
theorem fo_9 : ∀ f < 6, ∀ x < 2 ^ f, ∀ r < (rwX x f).toNat, ∀ c < (clX x f).toNat, ∀ k < f + 1, z9a x f r c k := fun f hf x hx r hr c hc k hk => z9a_o (alN_a (alN_a (alN_a (alN_a (alN_a fo_90 f hf) x hx) r hr) c hc) k hk)
theorem fo_a0 : (alN 6 fun f => alN (2 ^ f) fun x => alN (2 * 2 ^ f) fun p => exN (rwX x f).toNat fun r => exN (clX x f).toNat fun c => zaab x f p r c) = true := by decide +kernel
theorem fo_a : ∀ f < 6, ∀ x < 2 ^ f, ∀ p < 2 * 2 ^ f, ∃ r, r < (rwX x f).toNat ∧ ∃ c, c < (clX x f).toNat ∧ zaa x f p r c := fun f hf x hx p hp => let ⟨r, a, b⟩ := exN_a (alN_a (alN_a (alN_a fo_a0 f hf) x hx) p hp); ⟨r, a, let ⟨c, a', b'⟩ := exN_a b; ⟨c, a', zaa_o b'⟩⟩
def bls : Nat → Bool × Bool × Bool × Bool × Bool := fun i => (i % 2 == 1, i / 2 % 2 == 1, i / 4 % 2 == 1, i / 8 % 2 == 1, i / 16 % 2 == 1)
theorem fo_x0 : (alN 6 fun f => alN 32 fun i => exN (2 ^ f) fun x => alN f fun k => zxb x k (bls i).1 (bls i).2.1 (bls i).2.2.1 (bls i).2.2.2.1 (bls i).2.2.2.2) = true := by decide +kernel
theorem bls_e (b0 b1 b2 b3 b4 : Bool) : ∃ i, i < 32 ∧ bls i = (b0, b1, b2, b3, b4) := by
  revert b0 b1 b2 b3 b4
  decide +kernel
theorem fo_x : ∀ f < 6, ∀ b0 b1 b2 b3 b4 : Bool, ∃ x, x < 2 ^ f ∧ ∀ k < f, zx x k b0 b1 b2 b3 b4 := fun f hf b0 b1 b2 b3 b4 => by
  obtain ⟨i, hi, he⟩ := bls_e b0 b1 b2 b3 b4
  obtain ⟨x, a, b⟩ := exN_a (alN_a (alN_a fo_x0 f hf) i hi)
  refine ⟨x, a, fun k hk => ?_⟩
  have h := zx_o (alN_a b k hk)
  rw [he] at h
  exact h
/-- any pattern has its number -/
theorem fo_p {P : Nat → Prop} [DecidablePred P] {f : Nat} (hf : f < 6) : ∃ x < 2 ^ f, ∀ k < f, (bt x k = true ↔ P k) := by
  obtain ⟨x, hx, h⟩ := fo_x f hf (decide (P 0)) (decide (P 1)) (decide (P 2)) (decide (P 3)) (decide (P 4))
  refine ⟨x, hx, fun k hk => ?_⟩
  have h' := h k hk
  unfold zx at h'
  rw [h']
  match k, hk with
  | 0, _ => exact decide_eq_true_iff
  | 1, _ => exact decide_eq_true_iff
  | 2, _ => exact decide_eq_true_iff
  | 3, _ => exact decide_eq_true_iff
  | 4, _ => exact decide_eq_true_iff
  | k + 5, hk => omega
/-- a loop that keeps something -/
theorem lpI {S α : Type} {L : Nat → S → α} {I : Nat → S → Prop} : ∀ (n k : Nat), (∀ j s, k ≤ j → j < k + n → I j s → ∃ s', L j s = L (j + 1) s' ∧ I (j + 1) s') → ∀ s, I k s → ∃ s', L k s = L (k + n) s' ∧ I (k + n) s' := by
  intro n
  induction n with
  | zero => intro k _ s hs; exact ⟨s, rfl, hs⟩
  | succ n ih =>
    intro k h s hs
    obtain ⟨s1, e1, i1⟩ := h k s (Nat.le_refl _) (by omega) hs
    obtain ⟨s2, e2, i2⟩ := ih (k + 1) (fun j s a b => h j s (by omega) (by omega)) s1 i1
    rw [show k + (n + 1) = k + 1 + n by omega]
    exact ⟨s2, e1.trans e2, i2⟩
/-- places in rows of rows -/
theorem pl_inj {a b r c t r' c' t' : Int} (c0 : 0 ≤ c) (c1 : c < a) (t0 : 0 ≤ t) (t1 : t < b) (c0' : 0 ≤ c') (c1' : c' < a) (t0' : 0 ≤ t') (t1' : t' < b) (h : (r * a + c) * b + t = (r' * a + c') * b + t') : r = r' ∧ c = c' ∧ t = t' := by
  have e1 : ∀ (r c t : Int), 0 ≤ c → c < a → 0 ≤ t → t < b → ((r * a + c) * b + t) / b = r * a + c ∧ (r * a + c) / a = r := by
    intro r c t c0 c1 t0 t1
    refine ⟨?_, ?_⟩
    · rw [Int.add_comm, Int.add_mul_ediv_right _ _ (by omega), Int.ediv_eq_zero_of_lt t0 t1, Int.zero_add]
    · rw [Int.add_comm, Int.add_mul_ediv_right _ _ (by omega), Int.ediv_eq_zero_of_lt c0 c1, Int.zero_add]
  obtain ⟨a1, a2⟩ := e1 r c t c0 c1 t0 t1
  obtain ⟨b1, b2⟩ := e1 r' c' t' c0' c1' t0' t1'
  have e2 : r * a + c = r' * a + c' := by rw [← a1, ← b1, h]
  have e3 : r = r' := by rw [← a2, ← b2, e2]
  rw [e2] at h
  subst e3
  omega
theorem pl_lt {a b n r c t : Int} (r0 : 0 ≤ r) (r1 : r < n) (c0 : 0 ≤ c) (c1 : c < a) (t0 : 0 ≤ t) (t1 : t < b) : 0 ≤ (r * a + c) * b + t ∧ (r * a + c) * b + t < n * a * b := by
  have h1 : 0 ≤ r * a := Int.mul_nonneg r0 (by omega)
  have h2 : 0 ≤ (r * a + c) * b := Int.mul_nonneg (by omega) (by omega)
  have h3 : r * a + c + 1 ≤ n * a := by
    have : (r + 1) * a ≤ n * a := Int.mul_le_mul_of_nonneg_right (by omega) (by omega)
    rw [Int.add_mul, Int.one_mul] at this
    omega
  have h4 : (r * a + c + 1) * b ≤ n * a * b := Int.mul_le_mul_of_nonneg_right h3 (by omega)
  rw [Int.add_mul, Int.one_mul] at h4
  omega
