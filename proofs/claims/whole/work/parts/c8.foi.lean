-- uses 24.zar 25.obj 26.ops 34.gen 38.mod 39.mo2 42.mo4 43.mo5 44.mo6 53.cla 58.clf 62.clj 65.cll 72.clq 73.clr 80.wrf 88.ovr 89.rsa c0.foa c1.fob c2.foc c3.fod c4.foe c5.fof c6.fog c7.foh
/-! Folding, both sides. -/
theorem ptn_x (μ : Nat → Int → Int) (i n f : Int) : ∃ x : Nat, ((0 ≤ i ∧ i < μ 412 0) ∧ 0 ≤ n ∧ n < 10) → (0 ≤ f ∧ f ≤ fdM μ i n) → x < 2 ^ f.toNat ∧ ptn μ i n x f.toNat := by
  have hb := fdM_b (v := μ) (i := i) (n := n)
  by_cases g : f.toNat < 6
  · obtain ⟨x, a, b⟩ := ptn_e μ i n (f := f.toNat) g
    exact ⟨x, fun _ _ => ⟨a, b⟩⟩
  · exact ⟨0, fun _ h => by omega⟩
theorem cdP_c {A B C : Prop} [Decidable A] [Decidable B] [Decidable C] {E1 E2 : String} (h : E1 ≠ E2 := by decide) : cdP A B C = 0 ∨ cdP A B C = 1 ∨ (cdP A B C = 2 ∧ E1 ≠ E2) := by
  have : cdP A B C = 0 ∨ cdP A B C = 1 ∨ cdP A B C = 2 := by unfold cdP; (repeat' split) <;> omega
  rcases this with q | q | q
  · exact Or.inl q
  · exact Or.inr (Or.inl q)
  · exact Or.inr (Or.inr ⟨q, h⟩)
section FOI
variable {d : Nat} {X : Nat × (Nat → Int32)} {v : Nat → Int → Int} {T : Nat} {n : Int}
theorem rp_grid {i k f z : Int} (hR : RS v n) (hT : 18 ≤ T) (hi : isI i) (hk : isI k) (hf : isI f) (hz : z = 0 ∨ z = 1) : sIp (fun m => jm_env (d + 10) 162 [.ref 0, .int (i3 i), .int (i3 k), .int (i3 f), .int (i3 z)] m) (fun m => jm_env (d + 11) 317 [.ref 411, .int (i3 i), .int (i3 k), .int (i3 f), .int (i3 z)] m) eIB eIA X v T n := by
  obtain ⟨x, hx⟩ := ptn_x v i k f
  exact sIp_ask (fun _ _ _ => cX11_grid (d := d + 4) hR.1.lo hi hk hf hz hx) (fun _ _ _ => mX12_grid (d := d + 4) hT hR.1.2.1.1 hi hk hf hz hx) cd2_c hR
theorem rp_page {i k f r cc z : Int} (hR : RS v n) (hT : 18 ≤ T) (hi : isI i) (hk : isI k) (hf : isI f) (hr : isI r) (hc : isI cc) (hz : z = 0 ∨ z = 1) : sIp (fun m => jm_env (d + 10) 163 [.ref 0, .int (i3 i), .int (i3 k), .int (i3 f), .int (i3 r), .int (i3 cc), .int (i3 z)] m) (fun m => jm_env (d + 11) 320 [.ref 411, .int (i3 i), .int (i3 k), .int (i3 f), .int (i3 r), .int (i3 cc), .int (i3 z)] m) eIB eIA X v T n := by
  obtain ⟨x, hx⟩ := ptn_x v i k f
  exact sIp_ask (fun _ _ _ => cX11_page (d := d + 4) hR.1.lo hi hk hf hr hc hz hx) (fun _ _ _ => mX12_page (d := d + 4) hT hR.1.2.1.1 hi hk hf hr hc hz hx) cdP_c hR
theorem rp_cellOf {i k f p : Int} (hR : RS v n) (hT : 18 ≤ T) (hi : isI i) (hk : isI k) (hf : isI f) (hp : isI p) : sIp (fun m => jm_env (d + 10) 164 [.ref 0, .int (i3 i), .int (i3 k), .int (i3 f), .int (i3 p)] m) (fun m => jm_env (d + 11) 322 [.ref 411, .int (i3 i), .int (i3 k), .int (i3 f), .int (i3 p)] m) eIB eIA X v T n := by
  obtain ⟨x, hx⟩ := ptn_x v i k f
  exact sIp_ask (fun _ _ _ => cX11_cellOf (d := d + 4) hR.1.lo hi hk hf hp hx) (fun _ _ _ => mX12_cellOf (d := d + 4) hT hR.1.2.1.1 hi hk hf hp hx) cdP_c hR
end FOI
