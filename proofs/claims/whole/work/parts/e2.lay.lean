-- uses 24.zar 25.obj 26.ops 32.rf 34.gen e0.law
/-! The law: the script's numbers. -/
section LAY
variable {X : Nat × (Nat → Int32)} {v w : Nat → Int → Int} {T c s : Nat}
theorem xZ_b {k : Nat} : isI (xZ X k) := ⟨by have := (X.2 k).le_toInt; unfold xZ; omega, by have := (X.2 k).toInt_lt; unfold xZ; omega⟩
theorem scr_at {k : Nat} (hT : T < 1000000000) (hk : k < X.1) (hL : X.1 < 10000) : jm_aI (qM X v w T c s) jm_scr (i3 (k : Nat)) = some (i3 (xZ X k)) := by
  have e1 : (i3 (k : Int)).toNatClampNeg = k := by rw [i3_nat (by omega) (by omega)]; omega
  have z : ¬ (i3 (k : Int) < 0) := by
    have h : (i3 (k : Int) < (0 : Int32)) = ((k : Int) < 0) := i3_lt (b := 0) (by omega) (by omega) (by omega) (by omega)
    rw [h]; omega
  have ei : jm_ix (i3 (k : Int)) X.1 = some k := by
    unfold jm_ix
    rw [if_neg (by rw [e1]; exact fun q => q.elim z (by omega)), e1]
  unfold jm_aI
  rw [scr_e hT, ← xZ_e]
  show (jm_ix (i3 (k : Int)) X.1).map X.2 = _
  rw [ei]
  rfl
end LAY
