-- uses 24.zar 25.obj 26.ops 30.rd 31.re 34.gen 38.mod 39.mo2 40.mo3 41.bit 42.mo4 43.mo5 44.mo6 45.mo7 46.mo8 47.mo9 48.moa 49.mob
/-! The reference: an order filled. -/
theorem szM_flo {v : Nat → Int → Int} {i n m : Int} {g : Int → Int} : szM (flo v 412 (12 + 13 * i + 3) g m) i n = szM v i n := by
  unfold szM
  rw [flo_ne (by omega), flo_ne (by omega)]
theorem oM_flo {v : Nat → Int → Int} {i m : Int} {g : Int → Int} (h : oM v i) : oM (flo v 412 (12 + 13 * i + 3) g m) i := by
  unfold oM at h ⊢
  rw [flo_ne (by omega), flo_ne (by omega)]
  exact h
theorem aM_flo {v : Nat → Int → Int} {i n m : Int} {g : Int → Int} : aM (flo v 412 (12 + 13 * i + 3) g m) i n = aM v i n := by
  unfold aM
  rw [szM_flo]
theorem ex_tr {α β : Type} {x y : α} (h : x = y) {f : β → α} {P : β → Prop} (g : ∃ w', y = f w' ∧ P w') : ∃ w', x = f w' ∧ P w' := by rw [h]; exact g
section MOC
variable {d : Nat} {X : Nat × (Nat → Int32)} {v w : Nat → Int → Int} {T c s : Nat}
end MOC
