-- uses 24.zar 34.gen 35.byt 41.bit
/-! Words, numbers and signs of a text: told by what lies in it alone. -/
/-- a text: what lies at each place; -1 outside -/
def okB (b : Int → Int) (n : Nat) : Prop := n ≤ 600 ∧ (∀ k : Int, 0 ≤ k → k < n → 0 ≤ b k ∧ b k ≤ 255) ∧ ∀ k : Int, (k < 0 ∨ (n : Int) ≤ k) → b k = -1
abbrev blB (z : Int) : Prop := z = 32 ∨ z = 10
abbrev smB (z : Int) : Prop := 97 ≤ z ∧ z ≤ 122
abbrev dgB (z : Int) : Prop := 48 ≤ z ∧ z ≤ 57
/-- the first place from k on, of the next r, where it ends -/
def skr (p : Int → Prop) [DecidablePred p] (b : Int → Int) : Nat → Nat → Nat
  | 0, k => k
  | r + 1, k => if p (b k) then skr p b r (k + 1) else k
def skp (p : Int → Prop) [DecidablePred p] (b : Int → Int) (k : Nat) : Nat := skr p b 601 k
section SKP
variable {b : Int → Int} {n : Nat}
theorem skr_s {p : Int → Prop} [DecidablePred p] (ho : okB b n) (hp : ¬ p (-1)) : ∀ (r k : Nat), k ≤ n → n < k + r → (k ≤ skr p b r k ∧ skr p b r k ≤ n) ∧ (∀ j : Nat, k ≤ j → j < skr p b r k → p (b j)) ∧ ¬ p (b (skr p b r k)) := by
  intro r
  induction r with
  | zero => intro k h1 h2; omega
  | succ r ih =>
    intro k h1 h2
    unfold skr
    by_cases q : p (b k)
    · rw [if_pos q]
      have hk : k < n := by
        by_cases g : k < n
        · exact g
        · rw [ho.2.2 k (by omega)] at q
          exact absurd q hp
      obtain ⟨⟨a1, a2⟩, a3, a4⟩ := ih (k + 1) (by omega) (by omega)
      refine ⟨⟨by omega, a2⟩, fun j h3 h4 => ?_, a4⟩
      by_cases e : j = k
      · rw [e]; exact q
      · exact a3 j (by omega) h4
    · rw [if_neg q]
      exact ⟨⟨Nat.le_refl _, h1⟩, fun j h3 h4 => by omega, q⟩
theorem skp_s {p : Int → Prop} [DecidablePred p] (ho : okB b n) (hp : ¬ p (-1)) {k : Nat} (hk : k ≤ n) : (k ≤ skp p b k ∧ skp p b k ≤ n) ∧ (∀ j : Nat, k ≤ j → j < skp p b k → p (b j)) ∧ ¬ p (b (skp p b k)) := skr_s ho hp 601 k hk (by have := ho.1; omega)
/-- nothing to go over -/
theorem skp_0 {p : Int → Prop} [DecidablePred p] {k : Nat} (h : ¬ p (b k)) : skp p b k = k := by
  unfold skp skr
  rw [if_neg h]
theorem skp_ch {α : Type} {p : Int → Prop} [DecidablePred p] (F : Nat → α) (ho : okB b n) (hp : ¬ p (-1)) {k : Nat} (hk : k ≤ n) (h : ∀ j : Nat, k ≤ j → j < skp p b k → p (b j) → F j = F (j + 1)) : F k = F (skp p b k) := by
  obtain ⟨⟨h1, h2⟩, h3, -⟩ := skp_s ho hp hk
  have : ∀ i, k + i ≤ skp p b k → F k = F (k + i) := by
    intro i
    induction i with
    | zero => intro _; rfl
    | succ i ih => intro hi; rw [ih (by omega), h (k + i) (by omega) (by omega) (h3 _ (by omega) (by omega))]; rfl
  have e := this (skp p b k - k) (by omega)
  rw [show k + (skp p b k - k) = skp p b k by omega] at e
  exact e
end SKP
/-- where a token begins, from k on -/
def sk (b : Int → Int) (k : Nat) : Nat := skp blB b k
/-- what kind of token begins at p: 0 the end, 1 a word, 2 a number, 3 a sign -/
def kd (b : Int → Int) (p : Nat) : Int := if b p = -1 then 0 else if smB (b p) then 1 else if dgB (b p) then 2 else 3
/-- where it ends -/
def en (b : Int → Int) (p : Nat) : Nat := if b p = -1 then p else if smB (b p) then skp smB b p else if dgB (b p) then skp dgB b p else p + 1
/-- the next one -/
def nx (b : Int → Int) (p : Nat) : Nat := sk b (en b p)
/-- a number, by i of its digits: no further than the reference goes, and the class -/
def nmR (b : Int → Int) (p : Nat) : Nat → Int
  | 0 => 0
  | i + 1 => if 999999 < nmR b p i then nmR b p i else 10 * nmR b p i + b ((p + i : Nat) : Int) - 48
def nmC (b : Int → Int) (p : Nat) : Nat → Int
  | 0 => 0
  | i + 1 => min 1000000 (10 * nmC b p i + b ((p + i : Nat) : Int) - 48)
def nv (b : Int → Int) (p : Nat) : Int := nmR b p (en b p - p)
def nc (b : Int → Int) (p : Nat) : Int := nmC b p (en b p - p)
/-- a word as a number, by its first twelve letters -/
def wd (b : Int → Int) (p : Nat) : Int := nk (fun k => b (p + k)) (min (en b p - p) 12)
section TOK
variable {b : Int → Int} {n : Nat}
theorem sk_s (ho : okB b n) {k : Nat} (hk : k ≤ n) : (k ≤ sk b k ∧ sk b k ≤ n) ∧ (∀ j : Nat, k ≤ j → j < sk b k → blB (b j)) ∧ ¬ blB (b (sk b k)) := skp_s ho (by decide) hk
theorem sk_sk (ho : okB b n) {k : Nat} (hk : k ≤ n) : sk b (sk b k) = sk b k := skp_0 (sk_s ho hk).2.2
theorem b_end (ho : okB b n) {p : Nat} (hp : p ≤ n) : b p = -1 ↔ p = n := by
  constructor
  · intro h
    by_cases g : p < n
    · have := ho.2.1 p (by omega) (by omega); omega
    · omega
  · rintro rfl
    exact ho.2.2 _ (by omega)
theorem b_b (ho : okB b n) (k : Int) : -1 ≤ b k ∧ b k ≤ 255 := by
  by_cases g : 0 ≤ k ∧ k < n
  · have := ho.2.1 k g.1 g.2; omega
  · rw [ho.2.2 k (by omega)]; omega
theorem kd_0 {p : Nat} (h : b p = -1) : kd b p = 0 := if_pos h
theorem kd_1 {p : Nat} (h : smB (b p)) : kd b p = 1 := by
  unfold kd
  rw [if_neg (by omega), if_pos h]
theorem kd_2 {p : Nat} (h : dgB (b p)) : kd b p = 2 := by
  unfold kd
  rw [if_neg (by omega), if_neg (by omega), if_pos h]
theorem kd_3 {p : Nat} (h0 : b p ≠ -1) (h1 : ¬ smB (b p)) (h2 : ¬ dgB (b p)) : kd b p = 3 := by
  unfold kd
  rw [if_neg h0, if_neg h1, if_neg h2]
theorem kd_c (b : Int → Int) (p : Nat) : (kd b p = 0 ∧ b p = -1) ∨ (kd b p = 1 ∧ smB (b p)) ∨ (kd b p = 2 ∧ dgB (b p)) ∨ (kd b p = 3 ∧ b p ≠ -1 ∧ ¬ smB (b p) ∧ ¬ dgB (b p)) := by
  by_cases h0 : b p = -1
  · exact Or.inl ⟨kd_0 h0, h0⟩
  · by_cases h1 : smB (b p)
    · exact Or.inr (Or.inl ⟨kd_1 h1, h1⟩)
    · by_cases h2 : dgB (b p)
      · exact Or.inr (Or.inr (Or.inl ⟨kd_2 h2, h2⟩))
      · exact Or.inr (Or.inr (Or.inr ⟨kd_3 h0 h1 h2, h0, h1, h2⟩))
theorem en_0 {p : Nat} (h : b p = -1) : en b p = p := if_pos h
theorem en_1 {p : Nat} (h : smB (b p)) : en b p = skp smB b p := by
  unfold en
  rw [if_neg (by omega), if_pos h]
theorem en_2 {p : Nat} (h : dgB (b p)) : en b p = skp dgB b p := by
  unfold en
  rw [if_neg (by omega), if_neg (by omega), if_pos h]
theorem en_3 {p : Nat} (h0 : b p ≠ -1) (h1 : ¬ smB (b p)) (h2 : ¬ dgB (b p)) : en b p = p + 1 := by
  unfold en
  rw [if_neg h0, if_neg h1, if_neg h2]
theorem en_b (ho : okB b n) {p : Nat} (hp : p ≤ n) : p ≤ en b p ∧ en b p ≤ n := by
  rcases kd_c b p with ⟨-, h⟩ | ⟨-, h⟩ | ⟨-, h⟩ | ⟨-, h, h1, h2⟩
  · rw [en_0 h]; omega
  · rw [en_1 h]; exact (skp_s ho (by decide) hp).1
  · rw [en_2 h]; exact (skp_s ho (by decide) hp).1
  · rw [en_3 h h1 h2]
    have : p ≠ n := fun e => h ((b_end ho hp).mpr e)
    omega
theorem nx_b (ho : okB b n) {p : Nat} (hp : p ≤ n) : p ≤ nx b p ∧ nx b p ≤ n := by
  have h1 := en_b ho hp
  have h2 := (sk_s ho h1.2).1
  unfold nx
  omega
theorem nx_sk (ho : okB b n) {p : Nat} (hp : p ≤ n) : sk b (nx b p) = nx b p := sk_sk ho (en_b ho hp).2
theorem wd_l (ho : okB b n) {p : Nat} (hp : p ≤ n) (h : kd b p = 1) : ∀ k : Int, 0 ≤ k → k < ((en b p - p : Nat) : Int) → smB (b (p + k)) := by
  intro k k0 k1
  have hs : smB (b p) := by rcases kd_c b p with ⟨h', -⟩ | ⟨-, h'⟩ | ⟨h', -⟩ | ⟨h', -⟩ <;> first | exact h' | omega
  rw [en_1 hs] at k1
  have := (skp_s ho (p := smB) (by decide) hp).2.1 (p + k.toNat) (by omega) (by omega)
  rw [show ((p + k.toNat : Nat) : Int) = (p : Int) + k by omega] at this
  exact this
theorem wd_n {p : Nat} (hp : p ≤ n) (ho : okB b n) (h : kd b p = 1) : 1 ≤ en b p - p := by
  have hs : smB (b p) := by rcases kd_c b p with ⟨h', -⟩ | ⟨-, h'⟩ | ⟨h', -⟩ | ⟨h', -⟩ <;> first | exact h' | omega
  have h2 := skp_s ho (p := smB) (by decide) hp
  rw [en_1 hs]
  by_cases g : skp smB b p = p
  · rw [g] at h2
    exact absurd hs h2.2.2
  · omega
theorem wd_ok (ho : okB b n) {p : Nat} (hp : p ≤ n) (h : kd b p = 1) {m : Nat} (hm : m ≤ en b p - p) : ltOk (fun k => b (p + k)) m := fun k k0 k1 => wd_l ho hp h k k0 (by omega)
theorem nv_d (ho : okB b n) {p : Nat} (hp : p ≤ n) (h : kd b p = 2) : ∀ i : Nat, i < en b p - p → dgB (b ((p + i : Nat) : Int)) := by
  intro i hi
  have hs : dgB (b p) := by rcases kd_c b p with ⟨h', -⟩ | ⟨h', -⟩ | ⟨-, h'⟩ | ⟨h', -⟩ <;> first | exact h' | omega
  rw [en_2 hs] at hi
  exact (skp_s ho (p := dgB) (by decide) hp).2.1 (p + i) (by omega) (by omega)
theorem nm_b {p : Nat} : ∀ i : Nat, (∀ j : Nat, j < i → dgB (b ((p + j : Nat) : Int))) → 0 ≤ nmR b p i ∧ nmR b p i ≤ 9999999 ∧ nmC b p i = min 1000000 (nmR b p i) := by
  intro i
  induction i with
  | zero => intro _; unfold nmR nmC; omega
  | succ i ih =>
    intro h
    obtain ⟨h1, h2, h3⟩ := ih (fun j hj => h j (by omega))
    have hd := h i (by omega)
    unfold nmR nmC
    rw [h3]
    split <;> omega
theorem nv_b (ho : okB b n) {p : Nat} (hp : p ≤ n) (h : kd b p = 2) : 0 ≤ nv b p ∧ nv b p ≤ 9999999 ∧ nc b p = min 1000000 (nv b p) := nm_b _ (nv_d ho hp h)
theorem wd_b (ho : okB b n) {p : Nat} (hp : p ≤ n) (h : kd b p = 1) : 0 ≤ wd b p ∧ wd b p < 1152921504606846976 := by
  obtain ⟨h1, h2, -⟩ := nk_b (wd_ok ho hp h (m := min (en b p - p) 12) (by omega))
  have : (32 : Int) ^ (min (en b p - p) 12) ≤ 1152921504606846976 := by
    have : ∀ n : Nat, n ≤ 12 → (32 : Int) ^ n ≤ 1152921504606846976 := by decide
    exact this _ (by omega)
  unfold wd
  omega
/-- the token is the word of this number -/
abbrev isW (b : Int → Int) (p : Nat) (W : Int) : Prop := kd b p = 1 ∧ en b p - p < 12 ∧ wd b p = W
/-- .. the sign -/
abbrev isG (b : Int → Int) (p : Nat) (z : Int) : Prop := kd b p = 3 ∧ b p = z
/-- .. the word with these letters -/
theorem isW_L (ho : okB b n) {p : Nat} (hp : p ≤ n) {f : Int → Int} {m : Nat} (hm : m < 12) (hf : ltOk f m) (h : kd b p = 1) : (((en b p - p : Nat) : Int) = m ∧ ∀ j : Nat, j < m → b (p + j) = f j) ↔ isW b p (nk f m) := by
  constructor
  · rintro ⟨h1, h2⟩
    refine ⟨h, by omega, ?_⟩
    unfold wd
    rw [show min (en b p - p) 12 = m by omega]
    have : ∀ k : Int, 0 ≤ k → k < m → b (p + k) = f k := fun k k0 k1 => by
      have := h2 k.toNat (by omega)
      rw [show ((k.toNat : Nat) : Int) = k by omega] at this
      exact this
    have e : ∀ j : Nat, j ≤ m → nk (fun k => b (p + k)) j = nk f j := by
      intro j
      induction j with
      | zero => intro _; rfl
      | succ j ih =>
        intro hj
        show 32 * nk (fun k => b (p + k)) j + (b (p + (j : Int)) - 96) = 32 * nk f j + (f j - 96)
        rw [ih (by omega), this j (by omega) (by omega)]
    exact e m (Nat.le_refl _)
  · rintro ⟨-, h1, h2⟩
    unfold wd at h2
    rw [show min (en b p - p) 12 = en b p - p by omega] at h2
    obtain ⟨h3, h4⟩ := nk_inj (wd_ok ho hp h (Nat.le_refl _)) hf h2
    refine ⟨by omega, fun j hj => h4 j (by omega) (by omega)⟩
end TOK
