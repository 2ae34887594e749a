-- uses 24.zar 25.obj 26.ops 30.rd 31.re 32.rf 34.gen 35.byt 38.mod 39.mo2 40.mo3 41.bit 43.mo5 46.mo8 51.moe 53.cla 55.clc 62.clj 64.okm 74.cls 93.tka 97.srp a2.rfa a3.rfb
/-! The reference: a setup's text. -/
/-- only the reading, and the two sides found last, changed -/
def frS (w' w : Nat → Int → Int) : Prop := ∀ (m : Nat) (k : Int), (m ≠ 411 ∨ (k ≠ 9 ∧ k ≠ 10 ∧ (k < 18 ∨ (23 < k ∧ k ≠ 26)))) → w' m k = w m k
theorem frS_id {w : Nat → Int → Int} : frS w w := fun _ _ _ => rfl
theorem frS_tr {w w' w'' : Nat → Int → Int} (h : frS w'' w') (g : frS w' w) : frS w'' w := fun m k hk => (h m k hk).trans (g m k hk)
theorem frT.s {w w' : Nat → Int → Int} (h : frT w' w) : frS w' w := fun m k hk => h m k (by omega)
theorem frS_fw {w : Nat → Int → Int} {p : Int × Int} : frS (fw w p) w := fun m k hk => fw_ne (by omega)
theorem SC_fw {w : Nat → Int → Int} {b : Int → Int} {n q : Nat} {p : Int × Int} (h : SC w b n q) : SC (fw w p) b n q := by
  obtain ⟨⟨a1, a2, a3⟩, b, c, d, e, f, g, i⟩ := h
  refine ⟨⟨a1, by rw [fw_ne (by omega)]; exact a2, fun k k0 k1 => by rw [fw_ne (by omega)]; exact a3 k k0 k1⟩, b, ?_, ?_, ?_, ?_, ?_, ?_⟩
  all_goals rw [fw_ne (by omega)]; assumption
theorem GD_fw {w : Nat → Int → Int} {b : Int → Int} {n q : Nat} {p : Int × Int} (h : GD w b n q) : GD (fw w p) b n q := ⟨SC_fw h.1, by rw [fw_ne (by omega)]; exact h.2⟩
theorem BD_fw {w : Nat → Int → Int} {b : Int → Int} {n q : Nat} {z : Int} {p : Int × Int} (h : BD w b n z q) : BD (fw w p) b n z q := by
  obtain ⟨⟨r, h1⟩, h2, h3, h4⟩ := h
  exact ⟨⟨r, SC_fw h1⟩, by rw [fw_ne (by omega)]; exact h2, by rw [fw_ne (by omega)]; exact h3, h4⟩
theorem hi_sh {n : Nat} (h : 431 ≤ n) : pl_sh n = .inl (1, 10, []) := if_neg (by omega)
theorem hi_sc {n : Nat} (h : 431 ≤ n) (k : Int) : pl_scr n k = true := by
  unfold pl_scr
  rw [if_neg (by omega), if_neg (by omega), if_neg (by omega), if_neg (by omega)]
section RFC
variable {d : Nat} {X : Nat × (Nat → Int32)} {v w : Nat → Int → Int} {T c s : Nat}
variable {b : Int → Int} {n : Nat}
theorem hi_a {a : Nat} {z : Int} (h0 : 431 ≤ a) (h1 : a < 411 + T) (z0 : 0 ≤ z) (z1 : z < 10) : jm_aZ (qM X v w T c s) a (i3 z) = some (i3 (w a z)) := (a_Z h1 (hi_sh h0) (by decide) z0 z1).trans (by rw [qq_w (hi_sc h0 z)])
theorem hi_w {a : Nat} {z y : Int} (h0 : 431 ≤ a) (h1 : a < 411 + T) (z0 : 0 ≤ z) (z1 : z < 10) (hy : y = 0 ∨ y = 1) : jm_wZ (qM X v w T c s) a (i3 z) (i3 y) = some (qM X v (up w a z y) T c s) := w_z h1 (hi_sh h0) (by decide) (hi_sc h0) z0 z1 hy
/-- ten flags made -/
theorem hi_mk {f : jm_Mem → Option jm_Res} (h0 : 20 ≤ T) (h1 : T < 900000) : jm_mk (qM X v w T c s) (.inl (1, 10, .inl fun _ => 0)) 10 f = f (qM X v (ov w (411 + T) (fun _ => 0)) (T + 1) (c + 1) (s + 10)) := by
  unfold jm_mk
  rw [if_pos (show (qM X v w T c s).1 < 1000000 by show 411 + T < 1000000; omega)]
  congr 1
  show (411 + T + 1, va_up (pl_H X v w (411 + T)) (411 + T) _, c + 1, s + 10) = (411 + (T + 1), pl_H X v (ov w (411 + T) (fun _ => 0)) (411 + (T + 1)), c + 1, s + 10)
  rw [show 411 + (T + 1) = 411 + T + 1 by omega]
  congr 2
  funext m
  unfold va_up pl_H
  by_cases g : m = 411 + T
  · rw [if_pos g, if_pos (by omega), g, hi_sh (by omega)]
    show Sum.inl (1, 10, Sum.inl fun _ => 0) = Sum.inl (1, 10, Sum.inl fun k : Nat => i3 (pl_q v (ov w (411 + T) fun _ => 0) (411 + T) k))
    congr 4
    funext k
    rw [qq_w (hi_sc (by omega) _), ov_in]
    rfl
  · rw [if_neg g]
    by_cases g2 : m < 411 + T
    · rw [if_pos g2, if_pos (by omega)]
      congr 1
      funext k
      unfold pl_q
      rw [ov_b g]
    · rw [if_neg g2, if_neg (by omega)]
end RFC
