-- uses 24.zar 34.gen 35.byt 38.mod 40.mo3 41.bit 51.moe 55.clc 75.wra 93.tka 97.srp g0.lwu
/-! Tokens of a text that is told by its letters. -/
/-- what lies in a text from p on -/
def sfx (b : Int → Int) (p : Nat) (B : List Int) : Prop := ∀ j : Nat, b ((p + j : Nat) : Int) = B.getD j (-1)
def hd (B : List Int) : Int := B.getD 0 (-1)
section LXC
variable {b : Int → Int} {p : Nat} {B C : List Int} {x z : Int}
theorem sfx_h (h : sfx b p B) : b p = hd B := h 0
theorem sfx_t (h : sfx b p (x :: B)) : sfx b (p + 1) B := fun j => by
  have := h (j + 1)
  rw [show p + (j + 1) = p + 1 + j by omega] at this
  exact this
theorem sfx_a : ∀ {A : List Int} {p : Nat}, sfx b p (A ++ B) → sfx b (p + A.length) B := by
  intro A
  induction A with
  | nil => intro p h; exact h
  | cons x A ih =>
    intro p h
    have := ih (sfx_t (x := x) (B := A ++ B) h)
    rw [show p + 1 + A.length = p + (A.length + 1) by omega] at this
    exact this
theorem skr_m {q : Int → Prop} [DecidablePred q] : ∀ (A : List Int) (r p : Nat), sfx b p (A ++ B) → (∀ x ∈ A, q x) → ¬ q (hd B) → A.length < r → skr q b r p = p + A.length := by
  intro A
  induction A with
  | nil =>
    intro r p h _ hB hr
    cases r with
    | zero => exact absurd hr (by simp)
    | succ r =>
      unfold skr
      rw [if_neg (by rw [sfx_h h]; exact hB)]
      rfl
  | cons x A ih =>
    intro r p h hA hB hr
    cases r with
    | zero => exact absurd hr (by simp)
    | succ r =>
      unfold skr
      have hx : b p = x := sfx_h h
      rw [if_pos (by rw [hx]; exact hA x List.mem_cons_self), ih r (p + 1) (sfx_t (x := x) (B := A ++ B) h) (fun y hy => hA y (List.mem_cons_of_mem _ hy)) hB (by simp at hr; omega)]
      show p + 1 + A.length = p + (A.length + 1)
      omega
theorem skp_m {q : Int → Prop} [DecidablePred q] {A : List Int} (h : sfx b p (A ++ B)) (hA : ∀ x ∈ A, q x) (hB : ¬ q (hd B)) (hl : A.length < 601) : skp q b p = p + A.length := skr_m A 601 p h hA hB hl
/-- blanks -/
theorem sk_0 (h : sfx b p B) (hB : ¬ blB (hd B)) : sk b p = p := skp_0 (by rw [sfx_h h]; exact hB)
theorem sk_1 (h : sfx b p (32 :: B)) (hB : ¬ blB (hd B)) : sk b p = p + 1 := skp_m (A := [32]) h (fun x hx => by rw [List.mem_singleton.mp hx]; exact Or.inl rfl) hB (by simp)
/-- a word -/
theorem tk_w {A : List Int} (h : sfx b p (A ++ B)) (hA : ∀ x ∈ A, smB x) (hn : A ≠ []) (hB : ¬ smB (hd B)) (hl : A.length < 601) : kd b p = 1 ∧ en b p = p + A.length := by
  obtain ⟨x, A', rfl⟩ : ∃ x A', A = x :: A' := by
    cases A with
    | nil => exact absurd rfl hn
    | cons x A' => exact ⟨x, A', rfl⟩
  have hx : smB (b p) := by
    rw [show b p = x from sfx_h h]
    exact hA x List.mem_cons_self
  exact ⟨kd_1 hx, by rw [en_1 hx, skp_m h hA hB hl]⟩
theorem nk_cg2 {f g : Int → Int} : ∀ n : Nat, (∀ k : Nat, k < n → f k = g k) → nk f n = nk g n := by
  intro n
  induction n with
  | zero => intro _; rfl
  | succ n ih =>
    intro h
    show 32 * nk f n + (f n - 96) = 32 * nk g n + (g n - 96)
    rw [ih fun k hk => h k (by omega), h n (by omega)]
theorem tk_wd {A : List Int} (h : sfx b p (A ++ B)) (hA : ∀ x ∈ A, smB x) (hn : A ≠ []) (hB : ¬ smB (hd B)) (hl : A.length ≤ 12) : wd b p = nk (fun k => A.getD k.toNat 0) A.length := by
  obtain ⟨-, h2⟩ := tk_w h hA hn hB (by omega)
  unfold wd
  rw [h2, show min (p + A.length - p) 12 = A.length by omega]
  refine nk_cg2 _ fun k hk => ?_
  have := h k
  show b ((p : Int) + (k : Int)) = A.getD (k : Int).toNat 0
  rw [show (p : Int) + (k : Int) = ((p + k : Nat) : Int) by omega, this, Int.toNat_natCast, List.getD_eq_getElem?_getD, List.getD_eq_getElem?_getD, List.getElem?_append_left hk, List.getElem?_eq_getElem hk]
  rfl
/-- no word -/
theorem kd_no (h : sfx b p B) (hB : ¬ smB (hd B)) : kd b p ≠ 1 := by
  have e := sfx_h h
  unfold kd
  rw [e]
  split
  · omega
  · split <;> omega
/-- a sign -/
theorem tk_s (h : sfx b p (59 :: B)) : kd b p = 3 ∧ b p = 59 ∧ en b p = p + 1 := by
  have e : b p = 59 := sfx_h h
  exact ⟨kd_3 (by rw [e]; decide) (by rw [e]; decide) (by rw [e]; decide), e, en_3 (by rw [e]; decide) (by rw [e]; decide) (by rw [e]; decide)⟩
theorem nm_0 : nmR b p 0 = 0 := rfl
theorem nm_s (i : Nat) : nmR b p (i + 1) = if 999999 < nmR b p i then nmR b p i else 10 * nmR b p i + b ((p + i : Nat) : Int) - 48 := rfl
theorem nm_t {i : Nat} {y w : Int} (h : nmR b p i = y) (hy : y ≤ 999999) (hb : b ((p + i : Nat) : Int) = w) : nmR b p (i + 1) = 10 * y + w - 48 := by
  rw [nm_s, h, hb, if_neg (by omega)]
/-- a number below a thousand -/
theorem tk_n (h : sfx b p (dg z ++ B)) (z0 : 0 ≤ z) (z1 : z < 1000) (hB : ¬ dgB (hd B)) : kd b p = 2 ∧ nv b p = z ∧ en b p = p + dL z := by
  have hL := dg_L z0 z1
  have h3 := dg_3 z0 z1
  have hA : ∀ x ∈ dg z, dgB x := by
    intro x hx
    rw [h3] at hx
    split at hx
    · rw [List.mem_singleton.mp hx]; show 48 ≤ _ ∧ _; omega
    · split at hx
      · simp only [List.mem_cons, List.not_mem_nil, or_false] at hx
        rcases hx with rfl | rfl
        · show 48 ≤ 48 + z / 10 % 10 ∧ 48 + z / 10 % 10 ≤ 57; omega
        · show 48 ≤ 48 + z % 10 ∧ 48 + z % 10 ≤ 57; omega
      · simp only [List.mem_cons, List.not_mem_nil, or_false] at hx
        rcases hx with rfl | rfl | rfl
        · show 48 ≤ 48 + z / 100 % 10 ∧ 48 + z / 100 % 10 ≤ 57; omega
        · show 48 ≤ 48 + z / 10 % 10 ∧ 48 + z / 10 % 10 ≤ 57; omega
        · show 48 ≤ 48 + z % 10 ∧ 48 + z % 10 ≤ 57; omega
  have hL1 : 1 ≤ dL z ∧ dL z ≤ 3 := by unfold dL; split; omega; split <;> omega
  have b0 : dgB (b p) := by
    rw [sfx_h h]
    have : hd (dg z ++ B) ∈ dg z := by
      cases hz : dg z with
      | nil => rw [hz] at hL; simp at hL; omega
      | cons y ys => exact List.mem_cons_self
    exact hA _ this
  have he : en b p = p + dL z := by rw [en_2 b0, skp_m h hA hB (by omega), hL]
  refine ⟨kd_2 b0, ?_, he⟩
  unfold nv
  rw [he, Nat.add_sub_cancel_left]
  have hj : ∀ j : Nat, j < dL z → b ((p + j : Nat) : Int) = (dg z).getD j 0 := fun j hj => by
    rw [h j, List.getD_eq_getElem?_getD, List.getD_eq_getElem?_getD, List.getElem?_append_left (by omega), List.getElem?_eq_getElem (by omega)]
    rfl
  by_cases g : z < 10
  · have e1 : dL z = 1 := if_pos g
    rw [if_pos g] at h3
    rw [e1]
    rw [nm_t (i := 0) nm_0 (by omega) (hj 0 (by omega)), h3]
    show 10 * 0 + (48 + z % 10) - 48 = z
    omega
  · by_cases g2 : z < 100
    · have e1 : dL z = 2 := by unfold dL; rw [if_neg g, if_pos g2]
      rw [if_neg g, if_pos g2] at h3
      have n1 : nmR b p 1 = z / 10 := by
        rw [nm_t (i := 0) nm_0 (by omega) (hj 0 (by omega)), h3]
        show 10 * 0 + (48 + z / 10 % 10) - 48 = _
        omega
      rw [e1]
      rw [nm_t n1 (by omega) (hj 1 (by omega)), h3]
      show 10 * (z / 10) + (48 + z % 10) - 48 = z
      omega
    · have e1 : dL z = 3 := by unfold dL; rw [if_neg g, if_neg g2]
      rw [if_neg g, if_neg g2] at h3
      have n1 : nmR b p 1 = z / 100 := by
        rw [nm_t (i := 0) nm_0 (by omega) (hj 0 (by omega)), h3]
        show 10 * 0 + (48 + z / 100 % 10) - 48 = _
        omega
      have n2 : nmR b p 2 = z / 10 := by
        rw [nm_t n1 (by omega) (hj 1 (by omega)), h3]
        show 10 * (z / 100) + (48 + z / 10 % 10) - 48 = _
        omega
      rw [e1]
      rw [nm_t n2 (by omega) (hj 2 (by omega)), h3]
      show 10 * (z / 10) + (48 + z % 10) - 48 = z
      omega
end LXC
