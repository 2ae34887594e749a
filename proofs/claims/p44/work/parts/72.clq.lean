-- uses 24.zar 25.obj 26.ops 27.ra 29.rc 34.gen 35.byt 36.ser 37.lnd 38.mod 39.mo2 40.mo3 44.mo6 45.mo7 46.mo8 47.mo9 48.moa 53.cla 58.clf 61.cli 62.clj 63.clk 64.okm 65.cll 66.clm
/-! The class: undo, saved states. -/
def sl3 (μ : Nat → Int → Int) (j : Int) : Nat → Int → Int := fun _ k => μ 416 (167 * j + k)
def SLr (v μ : Nat → Int → Int) (n : Int) : Prop := ∀ j : Int, 0 ≤ j → j < 2 → v 337 j = μ 417 j ∧ (μ 417 j = 0 ∨ μ 417 j = 1) ∧ (μ 417 j = 1 → lr v (347 + 32 * j.toNat) (sl3 μ j) ∧ okM (sl3 μ j) n)
section CLQ
variable {d : Nat} {X : Nat × (Nat → Int32)} {v w : Nat → Int → Int} {T c s : Nat}
variable {μ : Nat → Int → Int} {m : Int}
theorem SLr_fr {v' μ' : Nat → Int → Int} (h : SLr v μ m) (hf : ∀ k : Nat, 337 ≤ k → k ≠ 338 → k < 411 → (k < 339 ∨ 347 ≤ k) → v' k = v k) (h6 : μ' 416 = μ 416) (h7 : μ' 417 = μ 417) {m' : Int} (hm : m ≤ m') : SLr v' μ' m' := by
  intro j j0 j1
  obtain ⟨a, b, c⟩ := h j j0 j1
  have e : sl3 μ' j = sl3 μ j := by unfold sl3; rw [h6]
  rw [hf 337 (by omega) (by omega) (by omega) (by omega), h7, e]
  refine ⟨a, b, fun g => ?_⟩
  obtain ⟨hl, ho⟩ := c g
  exact ⟨lr_fr (fun n n0 n1 => hf n (by omega) (by omega) (by omega) (by omega)) ho.1.2.1 hl, okM_le ho hm⟩
end CLQ
