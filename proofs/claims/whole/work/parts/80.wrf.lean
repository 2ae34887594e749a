-- uses 24.zar 25.obj 26.ops 27.ra 29.rc 30.rd 31.re 34.gen 35.byt 36.ser 37.lnd 38.mod 39.mo2 40.mo3 41.bit 42.mo4 43.mo5 44.mo6 53.cla 75.wra 76.wrb 77.wrc 78.wrd 79.wre
/-! Both write the same stacks. -/
theorem fo_mapi {α β : Type} {g : α → Nat → α} {g' : β → Nat → β} {R : Nat → α → β → Prop} {a : α} {b : β} (n : Nat) (h0 : R 0 a b) (hs : ∀ k x y, k < n → R k x y → R (k + 1) (g x k) (g' y k)) : R n (fo g a n) (fo g' b n) := by
  induction n with
  | zero => exact h0
  | succ n ih => exact hs n _ _ (by omega) (ih (fun k x y hk hx => hs k x y (by omega) hx))
/-- the written texts are alike -/
def WR (v μ : Nat → Int → Int) : Prop := v 3 1 = μ 411 43 ∧ (0 ≤ v 3 1 ∧ v 3 1 ≤ 650) ∧ ∀ k : Int, 0 ≤ k → k < v 3 1 → v 4 k = μ 428 k ∧ 0 ≤ v 4 k ∧ v 4 k ≤ 255
theorem WR.ok {v μ : Nat → Int → Int} (h : WR v μ) : bOk v 3 := ⟨h.2.1.1, h.2.1.2, fun k k0 k1 => (h.2.2 k k0 k1).2⟩
theorem WR_1 {v μ : Nat → Int → Int} {z : Int} (h : WR v μ) (hl : v 3 1 ≤ 649) (z0 : 0 ≤ z) (z1 : z ≤ 255) : WR (bputV v 3 z) (wpV μ z) ∧ bputV v 3 z 3 1 = v 3 1 + 1 := by
  obtain ⟨h1, ⟨h2, h3⟩, h4⟩ := h
  have hc : (bcap 3 : Int) = 650 := rfl
  unfold bputV
  rw [if_pos (by omega)]
  have e : up (up v (3 + 1) (v 3 1) z) 3 1 (v 3 1 + 1) 3 1 = v 3 1 + 1 := up_eq
  refine ⟨⟨?_, ⟨by omega, by omega⟩, fun k k0 k1 => ?_⟩, e⟩
  · rw [e, wpV_n, h1]
  · rw [e] at k1
    have e1 : up (up v (3 + 1) (v 3 1) z) 3 1 (v 3 1 + 1) 4 k = up v 4 (v 3 1) z 4 k := up_ne (by omega)
    have e2 : wpV μ z 428 k = up μ 428 (μ 411 43) z 428 k := up_ne (by omega)
    rw [e1, e2, ← h1]
    by_cases g : k = v 3 1
    · rw [g, up_eq, up_eq]; omega
    · rw [up_ne (by omega), up_ne (by omega)]; exact h4 k k0 (by omega)
theorem WR_L : ∀ {l : List Int} {v μ : Nat → Int → Int}, WR v μ → v 3 1 + l.length ≤ 650 → (∀ z ∈ l, 0 ≤ z ∧ z ≤ 255) → WR (ptL v 3 l) (wpL μ l) := by
  intro l
  induction l with
  | nil => intro v μ h _ _; exact h
  | cons z l ih =>
    intro v μ h hl hz
    rw [List.length_cons] at hl
    have hz0 := hz z List.mem_cons_self
    obtain ⟨e1, e2⟩ := WR_1 h (by omega) hz0.1 hz0.2
    exact ih e1 (by show bputV v 3 z 3 1 + _ ≤ _; rw [e2]; omega) (fun y hy => hz y (List.mem_cons_of_mem z hy))
theorem dg_by {z : Int} (z0 : 0 ≤ z) : ∀ y ∈ dg z, 0 ≤ y ∧ y ≤ 255 := by
  intro y hy
  unfold dg at hy
  rw [List.mem_append, List.mem_append, List.mem_append] at hy
  have k : ∀ (p : Prop) [Decidable p] (x : Int), y ∈ (if p then [x] else []) → y = x := fun p _ x h => by
    split at h
    · exact List.mem_singleton.mp h
    · cases h
  rcases hy with h | h | h | h
  · have := k _ _ h; omega
  · have := k _ _ h; omega
  · have := k _ _ h; omega
  · have := List.mem_singleton.mp h; omega
theorem skL_by {f : Int → Int} {n : Nat} {z k len : Int} (hf : ltOk f n) (z0 : 0 ≤ z) (k0 : 0 ≤ k) : ∀ y ∈ skL f n z k len, 0 ≤ y ∧ y ≤ 255 := by
  intro y hy
  unfold skL at hy
  rw [List.mem_append, List.mem_append, List.mem_append, List.mem_append] at hy
  rcases hy with h | h | h | h | h
  · split at h
    · cases h
    · have := List.mem_singleton.mp h; omega
  · unfold ltL at h
    obtain ⟨j, hj, e⟩ := List.mem_map.mp h
    have := hf j (by omega) (by have := List.mem_range.mp hj; omega)
    omega
  · exact dg_by z0 y h
  · have := List.mem_singleton.mp h; omega
  · exact dg_by k0 y h
section WRF
variable {v μ : Nat → Int → Int}
theorem WR_all (h : LO v 14 μ) {c' : Nat} (hc : μ 412 0 = c') : WR (waC v c') (waM μ (fun i => v (14 + 7 + 5 * i + 1)) (fun i => (v (14 + 7 + 5 * i) 1).toNat) c') := by
  have hg := h.2.2.1
  have hc5 := hg.2.1
  have key := fo_mapi (g := fun u i => wsC u (14 + 7 + 5 * i)) (g' := fun u i => wsM u (v (14 + 7 + 5 * i + 1)) (v (14 + 7 + 5 * i) 1).toNat i) (a := up v 3 1 0) (b := up μ 411 43 0) (R := fun i x y => (∀ k : Nat, k ≠ 3 → k ≠ 4 → x k = v k) ∧ frW y μ ∧ WR x y ∧ x 3 1 ≤ 130 * i) c' ⟨fun k h3 _ => up_b h3, fun k j h3 h4 => up_ne (by omega), ⟨by rw [up_eq, up_eq], by rw [up_eq]; omega, fun k k0 k1 => by rw [up_eq] at k1; omega⟩, by rw [up_eq]; omega⟩ (fun i x y hi hR => by
    obtain ⟨r0, r1, r2, r3⟩ := h.zn (i := i) (by omega)
    have hs := h.zr (i := i) (by omega)
    have key2 := fo_mapi (g := fun u (n : Nat) => wrC u (14 + 7 + 5 * i) n) (g' := fun u (n : Nat) => wrM u (v (14 + 7 + 5 * i + 1)) (v (14 + 7 + 5 * i) 1).toNat i n) (a := x) (b := y) (R := fun n x y => (∀ k : Nat, k ≠ 3 → k ≠ 4 → x k = v k) ∧ frW y μ ∧ WR x y ∧ x 3 1 ≤ 130 * i + 13 * n) 10 ⟨hR.1, hR.2.1, hR.2.2.1, by have := hR.2.2.2; omega⟩ (fun n x y hn hq => by
      obtain ⟨q1, q2, q3, q4⟩ := hq
      have e1 : x (14 + 7 + 5 * i) = v (14 + 7 + 5 * i) := q1 _ (by omega) (by omega)
      have e2 : x (14 + 7 + 5 * i + 1) = v (14 + 7 + 5 * i + 1) := q1 _ (by omega) (by omega)
      have e3 : x (14 + 7 + 5 * i + 4) n = kM μ i n := by rw [q1 _ (by omega) (by omega)]; exact (hs n (by omega) (by omega)).2.2
      have e4 : kM y i n = kM μ i n := q2 412 _ (by omega) (Or.inl (by omega))
      have hk := (hg.2.2.2.2 i (by omega) (by omega)).2 n (by omega) (by omega)
      refine ⟨fun k h3 h4 => (wrC_o h3 h4).trans (q1 k h3 h4), wrM_f q2, ?_⟩
      unfold wrC wrM
      rw [e3, e4]
      by_cases g : kM μ i n = 0
      · rw [if_pos g, if_pos (by omega)]
        exact ⟨q3, by omega⟩
      · rw [if_neg g, if_neg (by omega), e1, e2, ← q3.1]
        have hlen := skL_len (f := v (14 + 7 + 5 * i + 1)) (n := (v (14 + 7 + 5 * i) 1).toNat) (z := n) (k := kM μ i n) (len := x 3 1) (by omega) (by omega) hk.2
        have hw := WR_L q3 (l := skL (v (14 + 7 + 5 * i + 1)) (v (14 + 7 + 5 * i) 1).toNat n (kM μ i n) (x 3 1)) (by omega) (skL_by r2 (by omega) hk.1)
        refine ⟨hw, ?_⟩
        rw [hw.1, wpL_n, ← q3.1]
        omega)
    exact ⟨key2.1, key2.2.1, key2.2.2.1, by have := key2.2.2.2; unfold wsC; omega⟩)
  exact key.2.2.1
end WRF
