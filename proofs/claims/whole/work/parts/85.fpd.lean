-- uses 24.zar 25.obj 26.ops 27.ra 81.fpa 83.fpb 84.fpc
/-! The class: the bits of a share. -/
theorem cv_gt : Op.cmpValue (some .gt) .g = i3 1 := by decide +kernel
theorem cv_lt : Op.cmpValue (some .lt) .g = i3 (-1) := by decide +kernel
theorem cv_eq : Op.cmpValue (some .eq) .g = i3 0 := by decide +kernel
theorem i3_shl23 : ∀ k : Nat, k < 128 → (i3 (k : Int)) <<< ((i3 23) &&& 31) = i3 ((k : Int) * 8388608) := by decide +kernel
section FPD
variable {d : Nat} {m : jm_Mem}
theorem sX11_bits_s {c k a2 : Nat} {x : UInt32} (c0 : 8388608 ≤ c) (c1 : c < 16777216) (k0 : 1 ≤ k) (k1 : k ≤ 126) (a0 : 2 ≤ a2) (a1 : a2 ≤ 127) :
    jm_R (jm_env d) jmM_X11_bitsOfShare 13 [some (.float x), some (.float (nb c k)), some (.int (i3 a2))] [] m = jm_R (jm_env d) jmM_X11_bitsOfShare 13 [some (.float x), some (.float (nb c (k + 1))), some (.int (i3 (a2 - 1 : Nat)))] [] m := by
  have e1 := fp_lt1 c0 c1 k0 k1
  have e2 := fp_dbl c0 c1 k0 (by omega)
  have h1 : (i3 0 ≤ i3 (-1)) = False := by decide +kernel
  have h2 : (i3 (a2 : Int) ≤ i3 1) = False := by rw [i3_le (by omega) (by omega) (by omega) (by omega)]; exact eq_false (by omega)
  have h3 : i3 (a2 : Int) + i3 (-1) = i3 ((a2 - 1 : Nat) : Int) := by rw [i3_add, show (a2 : Int) + -1 = ((a2 - 1 : Nat) : Int) by omega]
  rw [bX11_bitsOfShare_13, e1, cv_lt]
  simp only [h1, if_false]
  rw [bX11_bitsOfShare_19]
  simp only [h2, if_false]
  rw [bX11_bitsOfShare_24, e2, fp_n32 (nb_le c0 c1 (by omega)), h3]
theorem sX11_bits_e {c a2 : Nat} {x : UInt32} (c0 : 8388608 ≤ c) (c1 : c < 16777216) (a1 : a2 ≤ 127) :
    jm_R (jm_env d) jmM_X11_bitsOfShare 13 [some (.float x), some (.float (nb c 127)), some (.int (i3 a2))] [] m = some (.inl (some (.int (i3 ((a2 : Int) * 8388608 + ((c : Int) - 8388608))))), m) := by
  obtain ⟨f1, f2, f3⟩ := fp_frac c0 c1
  have h1 : (i3 0 ≤ Op.cmpValue (FP.fcmp (nb c 127) FP.fconst1) .g) = True := by
    rcases fp_ge1 c0 c1 with e | e
    · rw [e, cv_eq]; decide +kernel
    · rw [e, cv_gt]; decide +kernel
  rw [bX11_bitsOfShare_13]
  simp only [h1, if_true]
  rw [bX11_bitsOfShare_34, fp_n32 f1, fp_n32 f2, f3, i3_shl23 a2 (by omega), i3_add]
theorem sX11_bitsOfShare {c k : Nat} (c0 : 8388608 ≤ c) (c1 : c < 16777216) (k0 : 1 ≤ k) (k1 : k ≤ 127) :
    jm_env (d + 1) 160 [.float (nb c k)] m = some (.inl (some (.int (i3 ((k : Int) * 8388608 + ((c : Int) - 8388608))))), m) := by
  have hl : ∀ r, k + r ≤ 127 → jm_R (jm_env d) jmM_X11_bitsOfShare 13 [some (.float (nb c k)), some (.float (nb c k)), some (.int (i3 (127 : Nat)))] [] m = jm_R (jm_env d) jmM_X11_bitsOfShare 13 [some (.float (nb c k)), some (.float (nb c (k + r))), some (.int (i3 (127 - r : Nat)))] [] m := by
    intro r
    induction r with
    | zero => intro _; rfl
    | succ r ih =>
      intro hr
      rw [ih (by omega), sX11_bits_s c0 c1 (by omega) (by omega) (by omega) (by omega)]
      rfl
  have h1 : (i3 0 < i3 1) = True := by decide +kernel
  rw [eX11_bitsOfShare, bX11_bitsOfShare_0, fp_gt0 c0 c1 k0 (by omega), cv_gt]
  simp only [h1, if_true]
  rw [bX11_bitsOfShare_8]
  refine Eq.trans ?_ ((hl (127 - k) (by omega)).trans ?_)
  · rfl
  · rw [show k + (127 - k) = 127 by omega, show 127 - (127 - k) = k by omega]
    exact sX11_bits_e c0 c1 (by omega)
theorem sX11_bitsOfShare_0 : jm_env (d + 1) 160 [.float 0] m = some (.inl (some (.int (i3 (0)))), m) := by
  have h1 : (i3 0 < Op.cmpValue (FP.fcmp 0 FP.fconst0) .g) = False := by decide +kernel
  rw [eX11_bitsOfShare, bX11_bitsOfShare_0]
  simp only [h1, if_false]
  rw [bX11_bitsOfShare_6]
end FPD
