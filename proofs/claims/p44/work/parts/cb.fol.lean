-- uses 24.zar 25.obj 26.ops 30.rd 31.re 32.rf 34.gen 38.mod 39.mo2 41.bit 42.mo4 43.mo5 44.mo6 46.mo8 53.cla 58.clf 62.clj 65.cll 72.clq 73.clr 80.wrf 88.ovr 89.rsa c0.foa c1.fob c2.foc c3.fod c4.foe c5.fof c6.fog c7.foh c8.foi c9.foj ca.fok
/-! The reference folds all: the machine. -/
section FOL
variable {d : Nat} {X : Nat × (Nat → Int32)} {v w : Nat → Int → Int} {T c s : Nat}
theorem lW_g {w w' : Nat → Int → Int} {x f : Nat} (h : lW w x f) (g : ∀ (m : Nat) (j : Int), m ≠ 425 → m ≠ 426 → m ≠ 427 → w' m j = w m j) : lW w' x f := ⟨(g 411 34 (by omega) (by omega) (by omega)).trans h.1, (g 411 35 (by omega) (by omega) (by omega)).trans h.2.1, fun k k0 k1 => (g 424 k (by omega) (by omega) (by omega)).trans (h.2.2 k k0 k1)⟩
end FOL
