-- uses 24.zar 25.obj 26.ops 30.rd 31.re 34.gen 35.byt 41.bit 43.mo5 47.mo9 55.clc 58.clf 66.clm 73.clr d8.frm d9.frn e0.lwa e1.lwb e4.lwe f0.lwk f1.lwl g0.lwu g3.lwx
/-! A text handed to the class. -/
def TX (v : Nat → Int → Int) (n : Int) (T : Int → Int) : Prop := bOk v 1 ∧ v 1 1 = n ∧ ∀ k : Int, 0 ≤ k → k < n → v 2 k = T k
def txM (n : Int) (T : Int → Int) : Nat → Int → Int := fun a k => if a = 411 then n else T k
def apL (μ : Nat → Int → Int) : List Int → Nat → Int → Int
  | [] => μ
  | z :: l => apL (apV μ z) l
section LXA
variable {m m' : jm_Mem} {X : Nat × (Nat → Int32)} {v w μ : Nat → Int → Int} {d n s e : Nat} {T : Int → Int}
theorem TX_r {n : Int} (h : TX v n T) : TXr v (txM n T) := ⟨h.1, h.2.1, fun k k0 k1 => h.2.2 k k0 (by rw [← h.2.1]; exact k1)⟩
theorem apL_n : ∀ (l : List Int) (μ : Nat → Int → Int), apL μ l 411 16 = μ 411 16 + l.length := by
  intro l
  induction l with
  | nil => intro μ; show μ 411 16 = μ 411 16 + 0; omega
  | cons z l ih =>
    intro μ
    show apL (apV μ z) l 411 16 = μ 411 16 + ((l.length + 1 : Nat) : Int)
    rw [ih, apV_n]
    omega
theorem apL_k : ∀ (l : List Int) (μ : Nat → Int → Int) (k : Int), apL μ l 420 k = if μ 411 16 ≤ k ∧ k < μ 411 16 + l.length then l.getD (k - μ 411 16).toNat 0 else μ 420 k := by
  intro l
  induction l with
  | nil => intro μ k; rw [if_neg (by simp)]; rfl
  | cons z l ih =>
    intro μ k
    show apL (apV μ z) l 420 k = _
    rw [ih, apV_n]
    have e : apV μ z 420 k = if k = μ 411 16 then z else μ 420 k := by
      unfold apV
      rw [up_ne (by omega)]
      unfold up
      by_cases g : k = μ 411 16
      · rw [if_pos ⟨rfl, g⟩, if_pos g]
      · rw [if_neg (by omega), if_neg g]
    rw [e]
    have el : ((z :: l).length : Int) = l.length + 1 := by simp
    rw [el]
    by_cases g : k = μ 411 16
    · rw [if_neg (by omega), if_pos g, if_pos (by omega), show (k - μ 411 16).toNat = 0 by omega]
      rfl
    · by_cases g2 : μ 411 16 + 1 ≤ k ∧ k < μ 411 16 + 1 + l.length
      · rw [if_pos g2, if_pos (by omega), show (k - μ 411 16).toNat = (k - (μ 411 16 + 1)).toNat + 1 by omega]
        rfl
      · rw [if_neg g2, if_neg g, if_neg (by omega)]
/-- the bytes of five numbers -/
def b20 (a b e f g : Int) : List Int := [by8 a 24, by8 a 16, by8 a 8, by8 a 0, by8 b 24, by8 b 16, by8 b 8, by8 b 0, by8 e 24, by8 e 16, by8 e 8, by8 e 0, by8 f 24, by8 f 16, by8 f 8, by8 f 0, by8 g 24, by8 g 16, by8 g 8, by8 g 0]
theorem twV_L {a b e f g : Int} : twV μ a b e f g = apL μ (b20 a b e f g) := rfl
theorem cl_app {n : Int} (h : CR m X v w) (ht : TX v n T) (hn : n ≤ 580) (n0 : 0 ≤ n) {a b e f g : Int} : ∃ m' v' w', jm_env (d + 4) 96 [.ref 0, .int (i3 a), .int (i3 b), .int (i3 e), .int (i3 f), .int (i3 g)] m = some (.inl (some (.int (i3 (n + 20)))), m') ∧ CR m' X v' w' ∧ TX v' (n + 20) (fun k => if n ≤ k then (b20 a b e f g).getD (k - n).toNat 0 else T k) ∧ (∀ k : Nat, k ≠ 1 → k ≠ 2 → v' k = v k) ∧ frC m m' := by
  have hm : txM n T 411 16 = n := rfl
  obtain ⟨m', v', w', e1, c1, ⟨q1, q2⟩, f1⟩ := cr_W h (fS_R (Or.inl (by omega)) (fS_I (fS_I (fS_I (fS_I (fS_I fS_0)))))) (cX11_append (d := d) (a := a) (b := b) (e := e) (f := f) (g := g) (TX_r ht)) (cd1_t (by rw [hm]; exact hn))
  rw [hm] at e1
  rw [twV_L] at q1
  obtain ⟨t1, t2, t3⟩ := q1
  rw [apL_n, hm] at t2
  have t2 : v' 1 1 = n + 20 := t2
  refine ⟨m', v', w', e1, c1, ⟨t1, t2, fun k k0 k1 => ?_⟩, q2, f1⟩
  rw [t3 k k0 (by omega), apL_k, hm]
  dsimp only
  by_cases c : n ≤ k
  · rw [if_pos ⟨c, k1⟩, if_pos c]
  · rw [if_neg (fun t => c t.1), if_neg c]
    rfl
theorem cl_trunc {n k : Int} (h : CR m X v w) (ht : TX v n T) (k0 : 0 ≤ k) (k1 : k ≤ n) (hn : n ≤ 600) : ∃ m' v' w', jm_env (d + 3) 97 [.ref 0, .int (i3 k)] m = some (.inl (some (.int (i3 k))), m') ∧ CR m' X v' w' ∧ TX v' k T ∧ (∀ j : Nat, j ≠ 1 → v' j = v j) ∧ frC m m' := by
  have hm : txM n T 411 16 = n := rfl
  obtain ⟨m', v', w', e1, c1, ⟨q1, q2⟩, f1⟩ := cr_W h (fS_R (Or.inl (by omega)) (fS_I fS_0)) (cX11_truncate (d := d) (k := k) (TX_r ht) ⟨by omega, by omega⟩) (cd1_t (by rw [hm]; exact ⟨k0, k1⟩))
  obtain ⟨t1, t2, t3⟩ := q1
  rw [up_eq] at t2
  refine ⟨m', v', w', e1, c1, ⟨t1, t2, fun j j0 j1 => ?_⟩, q2, f1⟩
  rw [t3 j j0 (by omega), up_ne (by omega)]
  rfl
theorem i3_l8 (a : Int) : i3 a <<< (i3 8 &&& 31) = i3 (a * 256) := by
  have h : i3 8 &&& 31 = 8 := by decide
  rw [h]
  apply Int32.toBitVec_inj.1
  show (BitVec.ofInt 32 a) <<< 8 = BitVec.ofInt 32 (a * 256)
  apply BitVec.eq_of_toNat_eq
  rw [BitVec.toNat_shiftLeft, Nat.shiftLeft_eq, BitVec.toNat_ofInt, BitVec.toNat_ofInt]
  omega
theorem i3_or8 (a : Int) {c : Int} (c0 : 0 ≤ c) (c1 : c < 256) : i3 (a * 256) ||| i3 c = i3 (a * 256 + c) := by
  apply Int32.toBitVec_inj.1
  show BitVec.ofInt 32 (a * 256) ||| BitVec.ofInt 32 c = BitVec.ofInt 32 (a * 256 + c)
  apply BitVec.eq_of_toNat_eq
  rw [BitVec.toNat_or, BitVec.toNat_ofInt, BitVec.toNat_ofInt, BitVec.toNat_ofInt]
  have e1 : (a * 256 % ((2 ^ 32 : Nat) : Int)).toNat = 2 ^ 8 * (a % 16777216).toNat := by omega
  have e2 : (c % ((2 ^ 32 : Nat) : Int)).toNat = c.toNat := by omega
  have e3 : ((a * 256 + c) % ((2 ^ 32 : Nat) : Int)).toNat = 2 ^ 8 * (a % 16777216).toNat + c.toNat := by omega
  rw [e1, e2, e3, Nat.two_pow_add_eq_or_of_lt (by omega)]
/-- four letters in one number -/
def pk (c : Nat → Int) (j : Nat) : Int → Int := match j with
  | 0 => fun _ => 0
  | j + 1 => st1 (pk c j) ((j / 4 : Nat) : Int) (pk c j ((j / 4 : Nat) : Int) * 256 + c j)
theorem pk_b {c : Nat → Int} (hc : ∀ j, j < 20 → 0 ≤ c j ∧ c j < 256) : ∀ j, j < 20 → (b20 (pk c 20 0) (pk c 20 1) (pk c 20 2) (pk c 20 3) (pk c 20 4)).getD j 0 = c j := by
  have h0 : pk c 20 0 = (((0 * 256 + c 0) * 256 + c 1) * 256 + c 2) * 256 + c 3 := rfl
  have h1 : pk c 20 1 = (((0 * 256 + c 4) * 256 + c 5) * 256 + c 6) * 256 + c 7 := rfl
  have h2 : pk c 20 2 = (((0 * 256 + c 8) * 256 + c 9) * 256 + c 10) * 256 + c 11 := rfl
  have h3 : pk c 20 3 = (((0 * 256 + c 12) * 256 + c 13) * 256 + c 14) * 256 + c 15 := rfl
  have h4 : pk c 20 4 = (((0 * 256 + c 16) * 256 + c 17) * 256 + c 18) * 256 + c 19 := rfl
  have aux : ∀ a b e f : Int, (0 ≤ a ∧ a < 256) → (0 ≤ b ∧ b < 256) → (0 ≤ e ∧ e < 256) → (0 ≤ f ∧ f < 256) → by8 ((((0 * 256 + a) * 256 + b) * 256 + e) * 256 + f) 24 = a ∧ by8 ((((0 * 256 + a) * 256 + b) * 256 + e) * 256 + f) 16 = b ∧ by8 ((((0 * 256 + a) * 256 + b) * 256 + e) * 256 + f) 8 = e ∧ by8 ((((0 * 256 + a) * 256 + b) * 256 + e) * 256 + f) 0 = f := by
    intro a b e f ha hb he hf
    unfold by8
    omega
  rw [h0, h1, h2, h3, h4]
  obtain ⟨a1, a2, a3, a4⟩ := aux _ _ _ _ (hc 0 (by omega)) (hc 1 (by omega)) (hc 2 (by omega)) (hc 3 (by omega))
  obtain ⟨b1, b2, b3, b4⟩ := aux _ _ _ _ (hc 4 (by omega)) (hc 5 (by omega)) (hc 6 (by omega)) (hc 7 (by omega))
  obtain ⟨c1, c2, c3, c4⟩ := aux _ _ _ _ (hc 8 (by omega)) (hc 9 (by omega)) (hc 10 (by omega)) (hc 11 (by omega))
  obtain ⟨d1, d2, d3, d4⟩ := aux _ _ _ _ (hc 12 (by omega)) (hc 13 (by omega)) (hc 14 (by omega)) (hc 15 (by omega))
  obtain ⟨e1, e2, e3, e4⟩ := aux _ _ _ _ (hc 16 (by omega)) (hc 17 (by omega)) (hc 18 (by omega)) (hc 19 (by omega))
  unfold b20
  rw [a1, a2, a3, a4, b1, b2, b3, b4, c1, c2, c3, c4, d1, d2, d3, d4, e1, e2, e3, e4]
  intro j hj
  match j, hj with
  | 0, _ => rfl
  | 1, _ => rfl
  | 2, _ => rfl
  | 3, _ => rfl
  | 4, _ => rfl
  | 5, _ => rfl
  | 6, _ => rfl
  | 7, _ => rfl
  | 8, _ => rfl
  | 9, _ => rfl
  | 10, _ => rfl
  | 11, _ => rfl
  | 12, _ => rfl
  | 13, _ => rfl
  | 14, _ => rfl
  | 15, _ => rfl
  | 16, _ => rfl
  | 17, _ => rfl
  | 18, _ => rfl
  | 19, _ => rfl
  | j + 20, h => omega
end LXA
