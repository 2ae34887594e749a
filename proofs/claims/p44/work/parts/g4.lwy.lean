-- uses 24.zar 25.obj 26.ops 30.rd 31.re 34.gen 55.clc e0.lwa e1.lwb e2.lwc e3.lwd e4.lwe f7.lwr
/-! A new series, a new land of the law. -/
section LWY
variable {m m' : jm_Mem} {d s w h t : Nat} {W H K : Int → Int}
theorem isS_1 {W' H' K' : Int → Int} {a : Nat} (hs : isS m s w h t W H K) (f : fr1 m m' a) (hd : s ≠ a) (hw : (a = w ∧ isA m' w 10 W') ∨ (a ≠ w ∧ W' = W)) (hh : (a = h ∧ isA m' h 10 H') ∨ (a ≠ h ∧ H' = H)) (ht : (a = t ∧ isA m' t 10 K') ∨ (a ≠ t ∧ K' = K)) : isS m' s w h t W' H' K' := by
  obtain ⟨s1, s2, s3, s4⟩ := hs
  refine ⟨isO_fr s1 (f.2.2 _ hd), ?_, ?_, ?_⟩
  · rcases hw with ⟨-, q⟩ | ⟨q, rfl⟩
    · exact q
    · exact isA_fr s2 (f.2.2 _ fun u => q u.symm)
  · rcases hh with ⟨-, q⟩ | ⟨q, rfl⟩
    · exact q
    · exact isA_fr s3 (f.2.2 _ fun u => q u.symm)
  · rcases ht with ⟨-, q⟩ | ⟨q, rfl⟩
    · exact q
    · exact isA_fr s4 (f.2.2 _ fun u => q u.symm)
theorem iX12_s {n a1 a2 : Int} {x4 x5 x6 : Option Value} (hs : isS m s w h t W H K) (hd : (w ≠ h ∧ w ≠ t ∧ h ≠ t) ∧ s ≠ w ∧ s ≠ h ∧ s ≠ t) (n0 : 1 ≤ n) (n1 : n < 10) (hb : (0 ≤ W (n - 1) ∧ W (n - 1) ≤ 2000) ∧ 0 ≤ H (n - 1) ∧ H (n - 1) ≤ 2000) : ∃ m' y4 y5 y6, jm_R (jm_env d) jmM_X12_init 44 [some (.ref s), some (.int (i3 a1)), some (.int (i3 a2)), some (.int (i3 n)), x4, x5, x6] [] m = jm_R (jm_env d) jmM_X12_init 44 [some (.ref s), some (.int (i3 a1)), some (.int (i3 a2)), some (.int (i3 (n + 1))), y4, y5, y6] [] m' ∧ isS m' s w h t (st1 W n (hf (W (n - 1), H (n - 1))).1) (st1 H n (hf (W (n - 1), H (n - 1))).2) K ∧ frK m m' (fun j => j = w ∨ j = h) 0 := by
  obtain ⟨⟨d1, d2, d3⟩, d4, d5, d6⟩ := hd
  have rW := q_aI hs.2.1 (z := n - 1) (by omega) (by omega) (by omega)
  have rH := q_aI hs.2.2.1 (z := n - 1) (by omega) (by omega) (by omega)
  have gW := q_gR hs.1 (k := 0) (x := w) rfl
  have gH := q_gR hs.1 (k := 1) (x := h) rfl
  generalize hW : W (n - 1) = u at *
  generalize hH : H (n - 1) = v at *
  obtain ⟨fl, A, B, hflat, h1⟩ : ∃ (fl A B : Int), ((fl = 0 ∧ u ≤ v) ∨ (fl = 1 ∧ v < u)) ∧ hf1 (u, v) = (A, B) := by
    by_cases g : u ≤ v
    · exact ⟨0, _, _, Or.inl ⟨rfl, g⟩, rfl⟩
    · exact ⟨1, _, _, Or.inr ⟨rfl, by omega⟩, rfl⟩
  have hAB : (A = if fl = 0 then u else u / 2) ∧ B = if fl = 0 then v / 2 else v := by
    unfold hf1 at h1
    dsimp only at h1
    rcases hflat with ⟨rfl, g⟩ | ⟨rfl, g⟩
    · rw [if_pos g] at h1; cases h1; exact ⟨rfl, rfl⟩
    · rw [if_neg (by omega)] at h1; cases h1; exact ⟨rfl, rfl⟩
  have bA : 0 ≤ A ∧ A ≤ 2000 ∧ 0 ≤ B ∧ B ≤ 2000 := by
    obtain ⟨p1, p2⟩ := hAB
    rcases hflat with ⟨rfl, g⟩ | ⟨rfl, g⟩
    · rw [if_pos rfl] at p1 p2; omega
    · rw [if_neg (by omega)] at p1 p2; omega
  have hhf : hf (u, v) = if min A B = 0 then (0, 0) else (A, B) := by
    unfold hf
    rw [h1]
    dsimp only
    by_cases g : min A B = 0
    · rw [if_pos g, if_pos (by omega)]
    · rw [if_neg g, if_neg (by omega)]
  obtain ⟨m1, e1, a1', f1⟩ := q_wI (z := n) (y := if min A B = 0 then 0 else A) hs.2.1 (by omega) (by omega) (by omega)
  have hs1 : isS m1 s w h t (st1 W n (if min A B = 0 then 0 else A)) H K := isS_1 hs f1 d4 (Or.inl ⟨rfl, a1'⟩) (Or.inr ⟨d1, rfl⟩) (Or.inr ⟨d2, rfl⟩)
  obtain ⟨m2, e2, a2', f2⟩ := q_wI (z := n) (y := if min A B = 0 then 0 else B) hs1.2.2.1 (by omega) (by omega) (by omega)
  have hs2 := isS_1 (W' := st1 W n (if min A B = 0 then 0 else A)) (K' := K) hs1 f2 d5 (Or.inr ⟨fun q => d1 q.symm, rfl⟩) (Or.inl ⟨rfl, a2'⟩) (Or.inr ⟨d3, rfl⟩)
  refine ⟨m2, some (.int (i3 fl)), some (.int (i3 A)), some (.int (i3 B)), ?_, ?_, fr1_S f1 (fr1_1 f2 (Or.inr rfl)) (Or.inl rfl)⟩
  · have e74 : jm_R (jm_env d) jmM_X12_init 44 [some (.ref s), some (.int (i3 a1)), some (.int (i3 a2)), some (.int (i3 n)), x4, x5, x6] [] m = jm_R (jm_env d) jmM_X12_init 74 [some (.ref s), some (.int (i3 a1)), some (.int (i3 a2)), some (.int (i3 n)), x4, x5, x6] [.int (i3 fl)] m := by
      rw [bX12_init_44, ie_le (by omega) (by omega) (by omega) (by omega), if_neg (by omega), bX12_init_50, gW, ob_s, i3_sub, rW, ob_s, gH, ob_s, rH, ob_s, ie_le (by omega) (by omega) (by omega) (by omega)]
      rcases hflat with ⟨q1, g⟩ | ⟨q1, g⟩
      · rw [if_pos g, bX12_init_73, q1]
      · rw [if_neg (by omega), bX12_init_69, q1]
    have e102 : jm_R (jm_env d) jmM_X12_init 74 [some (.ref s), some (.int (i3 a1)), some (.int (i3 a2)), some (.int (i3 n)), x4, x5, x6] [.int (i3 fl)] m = jm_R (jm_env d) jmM_X12_init 130 [some (.ref s), some (.int (i3 a1)), some (.int (i3 a2)), some (.int (i3 n)), some (.int (i3 fl)), some (.int (i3 A)), x6] [.int (i3 B)] m := by
      rw [bX12_init_74]
      obtain ⟨p1, p2⟩ := hAB
      rcases hflat with ⟨q1, g⟩ | ⟨q1, g⟩
      · rw [if_pos q1] at p1 p2
        rw [q1, if_pos rfl, bX12_init_94, gW, ob_s, i3_sub, rW, ob_s, bX12_init_102, if_pos rfl, bX12_init_120, gH, ob_s, i3_sub, rH, ob_s, i3_div (by omega) (by omega) (by omega) (by omega), p1, p2]
      · rw [if_neg (by omega)] at p1 p2
        rw [q1, ie_eq (by omega) (by omega) (by omega) (by omega), if_neg (by omega), bX12_init_81, gW, ob_s, i3_sub, rW, ob_s, i3_div (by omega) (by omega) (by omega) (by omega), bX12_init_102, ie_eq (by omega) (by omega) (by omega) (by omega), if_neg (by omega), bX12_init_109, gH, ob_s, i3_sub, rH, ob_s, p1, p2]
    have e153 : jm_R (jm_env d) jmM_X12_init 130 [some (.ref s), some (.int (i3 a1)), some (.int (i3 a2)), some (.int (i3 n)), some (.int (i3 fl)), some (.int (i3 A)), x6] [.int (i3 B)] m = jm_R (jm_env d) jmM_X12_init 153 [some (.ref s), some (.int (i3 a1)), some (.int (i3 a2)), some (.int (i3 n)), some (.int (i3 fl)), some (.int (i3 A)), some (.int (i3 B))] [.int (i3 (if min A B = 0 then 0 else A)), .int (i3 n), .ref w] m := by
      rw [bX12_init_130, gW, ob_s, ie_lt (by omega) (by omega) (by omega) (by omega), i3_ite, ie_eq (by split <;> omega) (by split <;> omega) (by omega) (by omega)]
      by_cases g : min A B = 0
      · rw [if_pos g, if_pos (by split <;> omega), bX12_init_147]
      · rw [if_neg g, if_neg (by split <;> omega), bX12_init_151]
    rw [e74, e102, e153, bX12_init_153, e1, ob_s, q_gR hs1.1 (k := 1) rfl, ob_s, ie_lt (by omega) (by omega) (by omega) (by omega), i3_ite, ie_eq (by split <;> omega) (by split <;> omega) (by omega) (by omega)]
    by_cases g : min A B = 0
    · rw [if_pos (by split <;> omega), bX12_init_169, bX12_init_175]
      rw [if_pos g] at e2
      rw [e2, ob_s, i3_add]
    · rw [if_neg (by split <;> omega), bX12_init_173, bX12_init_175]
      rw [if_neg g] at e2
      rw [e2, ob_s, i3_add]
  · rw [hhf]
    by_cases g : min A B = 0
    · rw [if_pos g] at hs2 ⊢
      rw [if_pos g] at hs2
      exact hs2
    · rw [if_neg g] at hs2 ⊢
      rw [if_neg g] at hs2
      exact hs2
end LWY
