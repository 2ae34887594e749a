-- uses 24.zar 25.obj 26.ops 27.ra 28.rb 29.rc 33.rg 34.gen 35.byt 36.ser 53.cla 62.clj 75.wra 76.wrb 93.tka 94.tkb 96.srd 97.srp a0.srr a1.srs c0.foa d0.ina d1.inb d2.inc d3.ind d4.ine d5.inf d6.ing
/-! The class's constructor. -/
def bF (k : Int) : Int := if 0 ≤ k ∧ k < (fsZ.length : Int) then fsZ.getD k.toNat 0 else -1
theorem v1F_1 : v1F 1 1 = fsZ.length ∧ ∀ k : Nat, k < fsZ.length → v1F 2 k = fsZ.getD k 0 := by
  have hcap : (bcap 1 : Int) = 600 := rfl
  have hb := fsZ_b
  have e0 : z0 1 1 = 0 := by decide
  obtain ⟨a1, a2, -⟩ := ptL_at (a := 1) fsZ z0 (by decide) (by rw [e0]; omega)
  rw [e0, Int.zero_add] at a1
  refine ⟨a1, fun k hk => ?_⟩
  have h := a2 k (fsZ[k]'hk) (List.getElem?_eq_getElem hk)
  rw [e0, Int.zero_add] at h
  rw [List.getD_eq_getElem?_getD, List.getElem?_eq_getElem hk]
  exact h
theorem bF_e : bat v1F 1 = bF := by
  obtain ⟨h1, h2⟩ := v1F_1
  funext k
  unfold bat bF
  rw [h1]
  by_cases g : 0 ≤ k ∧ k < (fsZ.length : Int)
  · rw [if_pos g, if_pos g]
    have h := h2 k.toNat (by omega)
    rw [Int.toNat_of_nonneg g.1] at h
    exact h
  · rw [if_neg g, if_neg g]
theorem TB_F : TB v1F bF fsZ.length := by
  obtain ⟨h1, h2⟩ := v1F_1
  have hb := fsZ_b
  have hcap : (bcap 1 : Int) = 600 := rfl
  refine ⟨bF_e, h1, by omega, by omega, fun k k0 k1 => ?_⟩
  have h := h2 k.toNat (by omega)
  rw [Int.toNat_of_nonneg k0] at h
  show 0 ≤ v1F 2 k ∧ v1F 2 k ≤ 255
  rw [h, List.getD_eq_getElem?_getD, List.getElem?_eq_getElem (by omega)]
  exact hb.2 _ (List.getElem_mem _)
/-- the numbers of the first setup -/
def mF : Nat → Int → Int := up (up (up (up (up (up (up (up (up (up (up (up (fun _ _ => 0) 412 1 3) 412 2 50) 412 0 1) 412 12 19391532) 412 13 100) 412 14 141) 412 0 2) 412 25 409031) 412 26 60) 412 27 200) 412 15 10) 412 17 3 |> fun v => up v 412 28 4
theorem suF_0 : (match suP bF (fun _ _ => 0) with | .inl _ => false | .inr u => alN 167 (fun k => decide (u.1 412 k = mF 412 k))) = true := by decide +kernel
theorem suF : ∃ u, suP bF (fun _ _ => 0) = .inr u ∧ eqS u.1 mF := by
  have h := suF_0
  rcases e : suP bF (fun _ _ => 0) with x | u
  · rw [e] at h; exact absurd h Bool.false_ne_true
  · rw [e] at h
    refine ⟨u, rfl, fun k k0 k1 => ?_⟩
    have := of_decide_eq_true (alN_a h k.toNat (by omega))
    rw [Int.toNat_of_nonneg k0] at this
    exact this
section INM
variable {X : Nat × (Nat → Int32)} {c s d : Nat}
theorem iX11 : ∃ v w u, jm_env (d + 12) 95 [.ref 0] (lM X [.inr (11, [.null, .null, .null, .null, .null, .null, .null, .null, .null, .null, .null, .null, .null, .int 0])] c s) = some (.inl none, qM X v w 0 (c + 410) (s + 5429)) ∧ suP bF (fun _ _ => 0) = .inr u ∧ eqS u.1 mF ∧ v 5 5 = 0 ∧ v 5 6 = -1 ∧ v 1 1 = 0 ∧ ldQ v v1F (arU u.1) ∧ frE v v1F := by
  obtain ⟨u, e, hE⟩ := suF
  obtain ⟨-, h⟩ := tX11_readSetup (d := d + 1) (X := X) (v := v1F) (w := z0) (T := 0) (c := c + 410) (s := s + 5429) (μ := fun _ _ => 0) TB_F (fun _ _ _ => rfl) (by omega)
  obtain ⟨v, w, x1, x2, x3, x4, x5, x6⟩ := h u e
  refine ⟨v, w, u, ?_, e, hE, x2, x3, x4, x5, x6⟩
  have hC : jm_isC (lM X [.inr (11, [.null, .null, .null, .null, .null, .null, .null, .null, .null, .null, .null, .null, .null, .int 0])] c s) 0 11 = true := lM_C rfl
  rw [eX11_init _ _ _ hC]
  have h1 := iX11_b (X := X) (c := c) (s := s) (d := d + 7)
  refine Eq.trans h1 ?_
  rw [cL_qM]
  refine Eq.trans (iX11_t (d := d + 9)) ?_
  rw [bX11_init_207]
  have x1' : jm_env (d + 11) 100 [.ref 0] (qM X v1F z0 0 (c + 410) (s + 5429)) = some (.inl (some (.int (i3 (1)))), qM X v w 0 (c + 410) (s + 5429)) := x1
  rw [x1']
  simp only [ob_s, bI_v]
end INM
