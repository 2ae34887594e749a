-- uses 24.zar 25.obj 26.ops 30.rd 31.re 32.rf 34.gen 38.mod 39.mo2 41.bit 42.mo4 43.mo5 44.mo6 46.mo8 53.cla 58.clf c0.foa c1.fob c2.foc c3.fod c4.foe c5.fof
/-! The reference folds a sheet. -/
/-- the two sides known to the reference -/
def lW (w : Nat → Int → Int) (x f : Nat) : Prop := w 411 34 = rwX x f ∧ w 411 35 = clX x f ∧ ∀ k : Int, 0 ≤ k → k < f → w 424 k = if bt x k.toNat = true then 1 else 0
/-- only where a cell was followed to -/
def fr78 (w' w : Nat → Int → Int) : Prop := ∀ (m : Nat) (k : Int), (m ≠ 411 ∨ (k ≠ 37 ∧ k ≠ 38)) → w' m k = w m k
theorem fr78_id {w : Nat → Int → Int} : fr78 w w := fun _ _ _ => rfl
theorem fr78_tr {w w' w'' : Nat → Int → Int} (h : fr78 w'' w') (g : fr78 w' w) : fr78 w'' w := fun m k a => (h m k a).trans (g m k a)
theorem lW_fr {w w' : Nat → Int → Int} {x f : Nat} (h : lW w x f) (g : fr78 w' w) : lW w' x f := ⟨(g 411 34 (by omega)).trans h.1, (g 411 35 (by omega)).trans h.2.1, fun k k0 k1 => (g 424 k (by omega)).trans (h.2.2 k k0 k1)⟩
section FOG
variable {d : Nat} {X : Nat × (Nat → Int32)} {v w : Nat → Int → Int} {T c s : Nat}
end FOG
