-- uses 24.zar 25.obj 26.ops 30.rd 31.re 32.rf 34.gen 35.byt 38.mod 41.bit 43.mo5 51.moe 93.tka 97.srp a2.rfa
/-! The reference's reading: what must be, goes on, words, signs, numbers. -/
section RFB
variable {d : Nat} {X : Nat × (Nat → Int32)} {v w : Nat → Int → Int} {T c s : Nat}
variable {b : Int → Int} {n : Nat}
theorem SC_u {p : Nat} {k z : Int} (h : SC w b n p) (hk : k = 22 ∨ k = 23) : SC (up w 411 k z) b n p := by
  obtain ⟨a, b, c, d, e, f, g, i⟩ := h
  refine ⟨txW_u a (by omega), b, ?_, ?_, ?_, ?_, ?_, ?_⟩
  all_goals rw [up_ne (by omega)]; assumption
theorem frT_u {k z : Int} (h : 18 ≤ k ∧ k ≤ 23) : frT (up w 411 k z) w := fun m j hj => up_ne (by omega)
theorem BD_b {cd : Int} {q : Nat} (h : BD w b n cd q) : w 411 22 = cd ∧ 1 ≤ cd ∧ cd ≤ 4 := ⟨h.2.1, h.2.2.2⟩
theorem BD_mk {z : Int} {p : Nat} (h : SC w b n p) (z1 : 1 ≤ z) (z4 : z ≤ 4) : BD (up (up w 411 22 z) 411 23 p) b n z p ∧ frT (up (up w 411 22 z) 411 23 p) w := by
  refine ⟨⟨⟨p, SC_u (SC_u h (Or.inl rfl)) (Or.inr rfl)⟩, by rw [up_ne (by omega), up_eq], up_eq, z1, z4⟩, frT_tr (frT_u (by omega)) (frT_u (by omega))⟩
end RFB
