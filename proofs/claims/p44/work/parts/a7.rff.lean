-- uses 24.zar 25.obj 26.ops 30.rd 31.re 32.rf 34.gen 35.byt 38.mod 39.mo2 40.mo3 41.bit 43.mo5 44.mo6 46.mo8 51.moe 53.cla 55.clc 62.clj 64.okm 74.cls 93.tka 97.srp a1.srs a2.rfa a3.rfb a4.rfc a5.rfd a6.rfe
/-! The reference: load. -/
section RFF
variable {d : Nat} {X : Nat × (Nat → Int32)} {v w : Nat → Int → Int} {T c s : Nat}
variable {b : Int → Int} {n : Nat}
/-- the numbers that a setup is read into -/
def ldZ (v : Nat → Int → Int) : Nat → Int → Int := fil (up v 411 16 0) 412 (fun _ => 0) 167
theorem ldZ_0 : ∀ k : Int, 0 ≤ k → k < 167 → ldZ v 412 k = 0 := fun k k0 k1 => fil_in k0 k1
/-- what load leaves, when a setup is none, and when it is one -/
def ldE (v' v : Nat → Int → Int) (e : Int × Nat) : Prop := eqS v' v ∧ v' 411 16 = 0 ∧ v' 411 24 = e.1 ∧ v' 411 25 = e.2 ∧ (∀ m : Nat, m ≠ 411 → m ≠ 412 → v' m = v m) ∧ ∀ k : Int, k ≠ 16 → k ≠ 24 → k ≠ 25 → v' 411 k = v 411 k
def ldO (v' v : Nat → Int → Int) (u : Nat → Int → Int) : Prop := eqS v' (arU u) ∧ v' 411 16 = 0 ∧ v' 411 24 = 0 ∧ v' 411 25 = -1 ∧ v' 411 7 = 0 ∧ (v' 417 0 = 0 ∧ v' 417 1 = 0) ∧ (∀ k : Int, 0 ≤ k → k < 6 → v' 418 k = 0) ∧ (∀ m : Nat, m ≠ 411 → m ≠ 412 → m ≠ 417 → m ≠ 418 → v' m = v m) ∧ ∀ k : Int, k ≠ 7 → k ≠ 16 → k ≠ 24 → k ≠ 25 → v' 411 k = v 411 k
end RFF
