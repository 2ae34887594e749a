-- uses 24.zar 25.obj 26.ops 30.rd 31.re 32.rf 34.gen 38.mod 39.mo2 41.bit 42.mo4 43.mo5 44.mo6 46.mo8 53.cla 58.clf c0.foa c1.fob c2.foc c3.fod c4.foe c5.fof c6.fog
/-! The reference's calls on a folded sheet. -/
theorem upS {w : Nat → Int → Int} {a : Nat} {k z : Int} (h : w a k = z) : up w a k z = w := by
  funext m j
  by_cases g : m = a ∧ j = k
  · rw [g.1, g.2, up_eq, h]
  · exact up_ne (by omega)
section FOH
variable {d : Nat} {X : Nat × (Nat → Int32)} {v w : Nat → Int → Int} {T c s : Nat}
end FOH
