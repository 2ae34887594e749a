-- uses 24.zar 25.obj 26.ops 30.rd 31.re 32.rf 34.gen 35.byt 38.mod 39.mo2 40.mo3 41.bit 43.mo5 44.mo6 46.mo8 51.moe 53.cla 55.clc 62.clj 64.okm 74.cls 93.tka 97.srp a1.srs a2.rfa a3.rfb a4.rfc a5.rfd
/-! The reference: a setup, load. -/
theorem cmV_nm {v : Nat → Int → Int} {x a b : Int} (h : nmOk v) (c0 : 0 ≤ v 412 0) (x0 : 0 ≤ x) (x1 : x < 2147483648) : nmOk (cmV v x a b) := by
  intro k k0 k1
  rw [cm_0 c0] at k1
  by_cases g : k = v 412 0
  · rw [g, cm_x c0]; exact ⟨x0, x1⟩
  · rw [cm_o (by omega) (by omega)]
    exact h k k0 (by omega)
theorem szP_nm {b : Int → Int} {i : Int} (i0 : 0 ≤ i) : ∀ (f : Nat) (μ : Nat → Int → Int) (to : Int → Int) (p : Nat), μ 412 0 ≤ 5 → i < 5 → nmOk μ → ∀ (μ' : Nat → Int → Int) (p' : Nat), szP b i f μ to p = .inr (μ', p') → nmOk μ' := by
  intro f
  induction f with
  | zero =>
    intro μ to p hc i1 hs μ' p' h
    obtain ⟨rfl, rfl⟩ := Prod.mk.inj (Sum.inr.inj h)
    exact hs
  | succ f ih =>
    intro μ to p hc i1 hs μ' p' h
    unfold szP at h
    split at h
    · split at h
      · next q2 =>
        split at h
        · exact absurd h (by simp)
        · split at h
          · have n0 := q2.2.1
            have n1 := q2.2.2
            refine ih _ _ _ (by rw [up_ne (by omega)]; exact hc) i1 (fun k k0 k1 => ?_) μ' p' h
            rw [up_ne (by omega)] at k1
            rw [up_ne (by omega)]
            exact hs k k0 k1
          · exact absurd h (by simp)
      · exact absurd h (by simp)
    · obtain ⟨rfl, rfl⟩ := Prod.mk.inj (Sum.inr.inj h)
      exact hs
theorem seP_nm {b : Int → Int} {n : Nat} (ho : okB b n) {μ : Nat → Int → Int} {p : Nat} (hp : p ≤ n) (hs : suM μ) (hn : nmOk μ) {μ' : Nat → Int → Int} {p' : Nat} (h : seP b μ p = .inr (μ', p')) : nmOk μ' := by
  have b1 := (nx_b ho hp).2
  have c0 := hs.1.1
  unfold seP at h
  split at h
  · split at h
    · exact absurd h (by simp)
    · split at h
      · next q3 =>
        split at h
        · exact absurd h (by simp)
        · split at h
          · split at h
            · obtain ⟨w0, w1⟩ := wd_6 ho b1 q3
              exact szP_nm c0 11 _ _ _ (by rw [cm_0 c0]; omega) (by omega) (cmV_nm hn c0 w0 (by omega)) μ' p' h
            · exact absurd h (by simp)
          · exact absurd h (by simp)
      · exact absurd h (by simp)
  · exact absurd h (by simp)
section RFE
variable {d : Nat} {X : Nat × (Nat → Int32)} {v w : Nat → Int → Int} {T c s : Nat}
variable {b : Int → Int} {n : Nat}
end RFE
