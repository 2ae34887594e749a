-- uses 24.zar 25.obj 26.ops 27.ra 28.rb 29.rc 33.rg 34.gen 35.byt 36.ser 53.cla 62.clj 75.wra 76.wrb 93.tka 94.tkb 96.srd 97.srp a0.srr a1.srs c0.foa d0.ina d1.inb d2.inc d3.ind d4.ine d5.inf d6.ing
/-! The class's constructor. -/
def bF (k : Int) : Int := if 0 ≤ k ∧ k < (fsZ.length : Int) then fsZ.getD k.toNat 0 else -1
theorem v1F_1 : v1F 1 1 = fsZ.length ∧ ∀ k : Nat, k < fsZ.length → v1F 2 k = fsZ.getD k 0 := by
  have hcap : (bcap 1 : Int) = 600 := rfl
  have hb := fsZ_b
  have e0 : z0 1 1 = 0 := by decide
  obtain ⟨a1, a2, -⟩ := ptL_at (a := 1) fsZ z0 (by decide) (by rw [e0]; omega)
  rw [e0, Int.zero_add] at a1
  refine ⟨a1, fun k hk => ?_⟩
  have h := a2 k (fsZ[k]'hk) (List.getElem?_eq_getElem hk)
  rw [e0, Int.zero_add] at h
  rw [List.getD_eq_getElem?_getD, List.getElem?_eq_getElem hk]
  exact h
theorem bF_e : bat v1F 1 = bF := by
  obtain ⟨h1, h2⟩ := v1F_1
  funext k
  unfold bat bF
  rw [h1]
  by_cases g : 0 ≤ k ∧ k < (fsZ.length : Int)
  · rw [if_pos g, if_pos g]
    have h := h2 k.toNat (by omega)
    rw [Int.toNat_of_nonneg g.1] at h
    exact h
  · rw [if_neg g, if_neg g]
theorem TB_F : TB v1F bF fsZ.length := by
  obtain ⟨h1, h2⟩ := v1F_1
  have hb := fsZ_b
  have hcap : (bcap 1 : Int) = 600 := rfl
  refine ⟨bF_e, h1, by omega, by omega, fun k k0 k1 => ?_⟩
  have h := h2 k.toNat (by omega)
  rw [Int.toNat_of_nonneg k0] at h
  show 0 ≤ v1F 2 k ∧ v1F 2 k ≤ 255
  rw [h, List.getD_eq_getElem?_getD, List.getElem?_eq_getElem (by omega)]
  exact hb.2 _ (List.getElem_mem _)
/-- the numbers of the first setup -/
def mF : Nat → Int → Int := up (up (up (up (up (up (up (up (up (up (up (up (fun _ _ => 0) 412 1 3) 412 2 50) 412 0 1) 412 12 19391532) 412 13 100) 412 14 141) 412 0 2) 412 25 409031) 412 26 60) 412 27 200) 412 15 10) 412 17 3 |> fun v => up v 412 28 4
theorem suF_0 : (match suP bF (fun _ _ => 0) with | .inl _ => false | .inr u => alN 167 (fun k => decide (u.1 412 k = mF 412 k))) = true := by decide +kernel
theorem suF : ∃ u, suP bF (fun _ _ => 0) = .inr u ∧ eqS u.1 mF := by
  have h := suF_0
  rcases e : suP bF (fun _ _ => 0) with x | u
  · rw [e] at h; exact absurd h Bool.false_ne_true
  · rw [e] at h
    refine ⟨u, rfl, fun k k0 k1 => ?_⟩
    have := of_decide_eq_true (alN_a h k.toNat (by omega))
    rw [Int.toNat_of_nonneg k0] at this
    exact this
section INM
variable {X : Nat × (Nat → Int32)} {c s d : Nat}
end INM
