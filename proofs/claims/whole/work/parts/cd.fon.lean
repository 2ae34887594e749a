-- uses 24.zar 25.obj 26.ops 27.ra 28.rb 29.rc 30.rd 31.re 32.rf 34.gen 35.byt 38.mod 39.mo2 41.bit 42.mo4 43.mo5 44.mo6 46.mo8 53.cla 58.clf 59.clg 62.clj 65.cll 72.clq 73.clr 75.wra 76.wrb 77.wrc 78.wrd 79.wre 80.wrf 88.ovr 89.rsa a8.ldp c0.foa c1.fob c2.foc c3.fod c4.foe c5.fof c6.fog c7.foh c8.foi
/-! A sheet written, both sides. -/
/-- the first columns of a row -/
def rwL (x f : Nat) (k : Int) (r : Nat) : Nat → List Int
  | 0 => []
  | c + 1 => rwL x f k r c ++ ((if 0 < c then [32] else []) ++ dg (pgX x f r c k))
def shL (x f : Nat) (k : Int) : Nat → List Int
  | 0 => []
  | r + 1 => shL x f k r ++ (rwL x f k r (clX x f).toNat ++ [10])
theorem rwL_n {x f : Nat} {k : Int} (hf : f < 6) (hx : x < 2 ^ f) (hk : k = 0 ∨ k = 1) {r : Nat} (hr : r < (rwX x f).toNat) : ∀ c : Nat, c ≤ (clX x f).toNat → (c = 0 ∧ (rwL x f k r c).length = 0 ∨ 1 ≤ c ∧ (rwL x f k r c).length + 1 ≤ 3 * c) ∧ ∀ z ∈ rwL x f k r c, 0 ≤ z ∧ z ≤ 255 := by
  intro c
  induction c with
  | zero => intro _; exact ⟨Or.inl ⟨rfl, rfl⟩, fun z hz => absurd hz (by simp [rwL])⟩
  | succ c ih =>
    intro hc
    obtain ⟨i1, i2⟩ := ih (by omega)
    have hin : inC x f (r : Int) (c : Int) := ⟨by omega, by omega⟩
    obtain ⟨-, b2, b3, -⟩ := pgX_b (k := k) hf hx hin hk
    have h3 := (fo_h f hf).2.2
    have hl := dg_len (z := pgX x f r c k) (by omega)
    rw [if_neg (by omega), if_neg (by omega)] at hl
    have hl2 : (dg (pgX x f r c k)).length ≤ 2 := by
      split at hl <;> omega
    unfold rwL
    refine ⟨Or.inr ⟨by omega, ?_⟩, fun z hz => ?_⟩
    · rw [List.length_append, List.length_append]
      by_cases g : 0 < c
      · rw [if_pos g]
        simp only [List.length_cons, List.length_nil]
        omega
      · rw [if_neg g]
        simp only [List.length_nil]
        omega
    · rcases List.mem_append.mp hz with hz | hz
      · exact i2 z hz
      · rcases List.mem_append.mp hz with hz | hz
        · by_cases g : 0 < c
          · rw [if_pos g] at hz
            rw [List.mem_singleton.mp hz]
            omega
          · rw [if_neg g] at hz; exact absurd hz (by simp)
        · exact dg_by (by omega) z hz
theorem shL_n {x f : Nat} {k : Int} (hf : f < 6) (hx : x < 2 ^ f) (hk : k = 0 ∨ k = 1) : ∀ r : Nat, r ≤ (rwX x f).toNat → (shL x f k r).length ≤ 3 * ((clX x f).toNat * r) ∧ ∀ z ∈ shL x f k r, 0 ≤ z ∧ z ≤ 255 := by
  intro r
  induction r with
  | zero => intro _; exact ⟨Nat.zero_le _, fun z hz => absurd hz (by simp [shL])⟩
  | succ r ih =>
    intro hr
    obtain ⟨i1, i2⟩ := ih (by omega)
    obtain ⟨n1, n2⟩ := rwL_n hf hx hk (r := r) (by omega) (clX x f).toNat (Nat.le_refl _)
    have h1 := (fo_1 f hf x hx).2.2.2.1
    unfold shL
    refine ⟨?_, fun z hz => ?_⟩
    · rw [List.length_append, List.length_append, List.length_singleton, Nat.mul_succ]
      omega
    · rcases List.mem_append.mp hz with hz | hz
      · exact i2 z hz
      · rcases List.mem_append.mp hz with hz | hz
        · exact n2 z hz
        · rw [List.mem_singleton.mp hz]; omega
theorem shL_b {x f : Nat} {k : Int} (hf : f < 6) (hx : x < 2 ^ f) (hk : k = 0 ∨ k = 1) {r : Nat} (hr : r ≤ (rwX x f).toNat) : (shL x f k r).length ≤ 96 := by
  have h := (shL_n hf hx hk r hr).1
  obtain ⟨z1, z2, z3, z4, z5, -⟩ := fo_1 f hf x hx
  have h3 := (fo_h f hf).2.2
  have h4 : (clX x f).toNat * r ≤ (clX x f).toNat * (rwX x f).toNat := Nat.mul_le_mul_left _ hr
  have h5 : (((clX x f).toNat * (rwX x f).toNat : Nat) : Int) = htX f := by
    rw [Int.natCast_mul, Int.toNat_of_nonneg (by omega), Int.toNat_of_nonneg (by omega), Int.mul_comm]
    exact z1
  omega
theorem gM_cg {v u : Nat → Int → Int} (e : u 412 = v 412) (h : gM v) : gM u := by
  unfold gM oM kM at h ⊢
  rw [e]; exact h
theorem szM_cg {v u : Nat → Int → Int} (e : u 412 = v 412) (i n : Int) : szM u i n = szM v i n := by
  unfold szM
  rw [e]
theorem ptn_cg {v u : Nat → Int → Int} {i n : Int} {x f : Nat} (e : u 412 = v 412) (h : ptn v i n x f) : ptn u i n x f := fun k hk => by
  rw [szM_cg e]; exact h k hk
theorem fdM_cg {v u : Nat → Int → Int} {i n : Int} (e : u 412 = v 412) : fdM u i n = fdM v i n := by
  have ea : ∀ n, aM u i n = aM v i n := fun n => by
    unfold aM
    rw [szM_cg e]
  unfold fdM
  rw [ea]
  split
  · rfl
  · exact fnd_congr _ _ (fun j _ _ => by rw [ea]) (fun _ _ _ => rfl)
section FON
variable {d : Nat} {X : Nat × (Nat → Int32)} {v w : Nat → Int → Int} {T c s : Nat}
theorem tX11_writeSheet {x f : Nat} {i n k : Int} (hf : f < 6) (hx : x < 2 ^ f) (hk : k = 0 ∨ k = 1) (hw : FU w x f) (h0 : v 3 1 = 0) : jm_R (jm_env (d + 3)) jmM_X11_writeSheet 18 [some (.ref 0), some (.int (i3 i)), some (.int (i3 n)), some (.int (i3 (f : Nat))), some (.int (i3 k)), some (.int (i3 0)), none] [] (qM X v w T c s) = some (.inl (some (.int (i3 (ptL v 3 (shL x f k (rwX x f).toNat) 3 1)))), qM X (ptL v 3 (shL x f k (rwX x f).toNat)) w T c s) := by
  obtain ⟨z1, z2, z3, z4, z5, z6, z7⟩ := fo_1 f hf x hx
  have h3 := (fo_h f hf).2.2
  have o3 := oByt_3
  have hcap : (bcap 3 : Int) = 650 := rfl
  have hb : ∀ l : List Int, 0 ≤ ptL v 3 l 3 1 ∧ ptL v 3 l 3 1 ≤ bcap 3 := fun l => ptL_b (by omega) (by omega)
  have cols : ∀ (r : Nat), r < (rwX x f).toNat → jm_R (jm_env (d + 3)) jmM_X11_writeSheet 33 [some (.ref 0), some (.int (i3 i)), some (.int (i3 n)), some (.int (i3 (f : Nat))), some (.int (i3 k)), some (.int (i3 (r : Nat))), some (.int (i3 ((0 : Nat) : Int)))] [] (qM X (ptL v 3 (shL x f k r)) w T c s) = jm_R (jm_env (d + 3)) jmM_X11_writeSheet 33 [some (.ref 0), some (.int (i3 i)), some (.int (i3 n)), some (.int (i3 (f : Nat))), some (.int (i3 k)), some (.int (i3 (r : Nat))), some (.int (i3 ((clX x f).toNat : Nat)))] [] (qM X (ptL v 3 (shL x f k r ++ rwL x f k r (clX x f).toNat)) w T c s) := by
    intro r hr
    have hl := ch_n (fun j : Nat => jm_R (jm_env (d + 3)) jmM_X11_writeSheet 33 [some (.ref 0), some (.int (i3 i)), some (.int (i3 n)), some (.int (i3 (f : Nat))), some (.int (i3 k)), some (.int (i3 (r : Nat))), some (.int (i3 (j : Nat)))] [] (qM X (ptL v 3 (shL x f k r ++ rwL x f k r j)) w T c s)) (clX x f).toNat (fun j hj => by
      have q : (clX x f ≤ (j : Int)) = False := eq_false (by omega)
      have hin : inC x f (r : Int) (j : Int) := ⟨by omega, by omega⟩
      obtain ⟨-, b2, b3, -⟩ := pgX_b (k := k) hf hx hin hk
      have hc : ((j + 1 : Nat) : Int) = (j : Int) + 1 := by omega
      have e1 : ∀ (u : Nat → Int → Int), jm_env (d + 3) 51 [.ref 342, .int (i3 r), .int (i3 j), .int (i3 k)] (qM X u w T c s) = some (.inl (some (.int (i3 (pgX x f r j k)))), qM X u w T c s) := fun u => tX2_pageAt (d := d + 1) hf hx hw hin hk
      show jm_R _ _ 33 [_, _, _, _, _, _, some (.int (i3 (j : Nat)))] _ _ = jm_R _ _ 33 [_, _, _, _, _, _, some (.int (i3 ((j + 1 : Nat))))] _ _
      rw [hc, bX11_writeSheet_33]
      conv => rhs; unfold rwL
      by_cases g : 0 < j
      · have g' : ((j : Int) ≤ 0) = False := eq_false (by omega)
        rw [if_pos g, ← List.append_assoc, ← List.append_assoc, ptL_app (l := shL x f k r ++ rwL x f k r j ++ [32]), ptL_app (l := shL x f k r ++ rwL x f k r j) (l' := [32])]
        generalize hu : ptL v 3 (shL x f k r ++ rwL x f k r j) = u
        have ub := hb (shL x f k r ++ rwL x f k r j)
        rw [hu] at ub
        have e2 := sX0_put (d := d + 1) (X := X) (v := u) (w := w) (T := T) (c := c) (s := s) (a := 3) (z := 32) o3 ub.1 ub.2
        rw [ptL_1] at e2
        have ub2 : 0 ≤ ptL u 3 [32] 3 1 ∧ ptL u 3 [32] 3 1 ≤ bcap 3 := ptL_b ub.1 ub.2
        have e3 := sX0_putNumber (d := d) (X := X) (v := ptL u 3 [32]) (w := w) (T := T) (c := c) (s := s) (a := 3) (z := pgX x f r j k) o3 ub2.1 ub2.2 (by omega) (by omega)
        simp (disch := first | assumption | omega) only [↓reduceIte, i3_add, i3_sub, i3_mul, i3_neg, i6_add, i6_sub, i6_mul, i6_neg, i3_lt, i3_le, i3_eq, i6_lt, i6_eq, i3_div, i6_div, i6_i3, i3_i6, c6_lt, c6_ge, c6_gt, c6_le, c6_eq, i3_ite, i6_ite, ib_0, ib_z, ite_not, i1_0, i0_0, jB_1, jB_0, jB_ib, bI_v, bL_v, bD_v, bV_v, ob_s, ob_i, i3_ofNat, jx_e, bI_e, bL_e, bD_e, bV_e, i3_eq0, i6_eq0, if_mx, if_mn, if_true, if_false, not_true_eq_false, not_false_eq_true, Int.reduceEq, Int.reduceLT, Int.reduceLE, r11_12, g2_1, hw.1.2.1, q, bX11_writeSheet_45, g', bX11_writeSheet_50, r11_1, e2, bX11_writeSheet_59, e1, e3]
      · have g' : ((j : Int) ≤ 0) = True := eq_true (by omega)
        rw [if_neg g, List.nil_append, ← List.append_assoc, ptL_app (l := shL x f k r ++ rwL x f k r j)]
        generalize hu : ptL v 3 (shL x f k r ++ rwL x f k r j) = u
        have ub := hb (shL x f k r ++ rwL x f k r j)
        rw [hu] at ub
        have e3 := sX0_putNumber (d := d) (X := X) (v := u) (w := w) (T := T) (c := c) (s := s) (a := 3) (z := pgX x f r j k) o3 ub.1 ub.2 (by omega) (by omega)
        simp (disch := first | assumption | omega) only [↓reduceIte, i3_add, i3_sub, i3_mul, i3_neg, i6_add, i6_sub, i6_mul, i6_neg, i3_lt, i3_le, i3_eq, i6_lt, i6_eq, i3_div, i6_div, i6_i3, i3_i6, c6_lt, c6_ge, c6_gt, c6_le, c6_eq, i3_ite, i6_ite, ib_0, ib_z, ite_not, i1_0, i0_0, jB_1, jB_0, jB_ib, bI_v, bL_v, bD_v, bV_v, ob_s, ob_i, i3_ofNat, jx_e, bI_e, bL_e, bD_e, bV_e, i3_eq0, i6_eq0, if_mx, if_mn, if_true, if_false, not_true_eq_false, not_false_eq_true, Int.reduceEq, Int.reduceLT, Int.reduceLE, r11_12, g2_1, hw.1.2.1, q, bX11_writeSheet_45, g', r11_1, bX11_writeSheet_59, e1, e3])
    have e0 : shL x f k r ++ rwL x f k r 0 = shL x f k r := List.append_nil _
    rw [e0] at hl
    exact hl
  have hl := lpI (S := Option Value) (L := fun j o => jm_R (jm_env (d + 3)) jmM_X11_writeSheet 18 [some (.ref 0), some (.int (i3 i)), some (.int (i3 n)), some (.int (i3 (f : Nat))), some (.int (i3 k)), some (.int (i3 (j : Nat))), o] [] (qM X (ptL v 3 (shL x f k j)) w T c s)) (I := fun _ _ => True) (rwX x f).toNat 0 (fun j o _ hj _ => by
    have q : (rwX x f ≤ (j : Int)) = False := eq_false (by omega)
    have q2 : (clX x f ≤ ((clX x f).toNat : Int)) = True := eq_true (by omega)
    have hc : ((j + 1 : Nat) : Int) = (j : Int) + 1 := by omega
    have e := cols j (by omega)
    refine ⟨some (.int (i3 ((clX x f).toNat : Nat))), ?_, trivial⟩
    have eS : shL x f k (j + 1) = shL x f k j ++ rwL x f k j (clX x f).toNat ++ [10] := (List.append_assoc _ _ _).symm
    rw [hc, eS, ptL_app (l := shL x f k j ++ rwL x f k j (clX x f).toNat), bX11_writeSheet_18]
    have ub := hb (shL x f k j ++ rwL x f k j (clX x f).toNat)
    generalize ptL v 3 (shL x f k j ++ rwL x f k j (clX x f).toNat) = u at *
    have e2 := sX0_put (d := d + 1) (X := X) (v := u) (w := w) (T := T) (c := c) (s := s) (a := 3) (z := 10) o3 ub.1 ub.2
    rw [ptL_1] at e2
    have e' : jm_R (jm_env (d + 3)) jmM_X11_writeSheet 33 [some (.ref 0), some (.int (i3 i)), some (.int (i3 n)), some (.int (i3 (f : Nat))), some (.int (i3 k)), some (.int (i3 (j : Nat))), some (.int (i3 0))] [] (qM X (ptL v 3 (shL x f k j)) w T c s) = _ := e
    simp (disch := first | assumption | omega) only [↓reduceIte, i3_add, i3_sub, i3_mul, i3_neg, i6_add, i6_sub, i6_mul, i6_neg, i3_lt, i3_le, i3_eq, i6_lt, i6_eq, i3_div, i6_div, i6_i3, i3_i6, c6_lt, c6_ge, c6_gt, c6_le, c6_eq, i3_ite, i6_ite, ib_0, ib_z, ite_not, i1_0, i0_0, jB_1, jB_0, jB_ib, bI_v, bL_v, bD_v, bV_v, ob_s, ob_i, i3_ofNat, jx_e, bI_e, bL_e, bD_e, bV_e, i3_eq0, i6_eq0, if_mx, if_mn, if_true, if_false, not_true_eq_false, not_false_eq_true, Int.reduceEq, Int.reduceLT, Int.reduceLE, r11_12, g2_0, hw.1.1, q, bX11_writeSheet_30, e']
    rw [bX11_writeSheet_33]
    simp (disch := first | assumption | omega) only [↓reduceIte, i3_add, i3_sub, i3_mul, i3_neg, i6_add, i6_sub, i6_mul, i6_neg, i3_lt, i3_le, i3_eq, i6_lt, i6_eq, i3_div, i6_div, i6_i3, i3_i6, c6_lt, c6_ge, c6_gt, c6_le, c6_eq, i3_ite, i6_ite, ib_0, ib_z, ite_not, i1_0, i0_0, jB_1, jB_0, jB_ib, bI_v, bL_v, bD_v, bV_v, ob_s, ob_i, i3_ofNat, jx_e, bI_e, bL_e, bD_e, bV_e, i3_eq0, i6_eq0, if_mx, if_mn, if_true, if_false, not_true_eq_false, not_false_eq_true, Int.reduceEq, Int.reduceLT, Int.reduceLE, r11_12, g2_1, hw.1.2.1, q2, bX11_writeSheet_85, r11_1, e2]) none trivial
  obtain ⟨o, e, -⟩ := hl
  rw [Nat.zero_add] at e
  have q : (rwX x f ≤ ((rwX x f).toNat : Int)) = True := eq_true (by omega)
  refine Eq.trans e ?_
  rw [bX11_writeSheet_18]
  simp (disch := first | assumption | omega) only [↓reduceIte, i3_add, i3_sub, i3_mul, i3_neg, i6_add, i6_sub, i6_mul, i6_neg, i3_lt, i3_le, i3_eq, i6_lt, i6_eq, i3_div, i6_div, i6_i3, i3_i6, c6_lt, c6_ge, c6_gt, c6_le, c6_eq, i3_ite, i6_ite, ib_0, ib_z, ite_not, i1_0, i0_0, jB_1, jB_0, jB_ib, bI_v, bL_v, bD_v, bV_v, ob_s, ob_i, i3_ofNat, jx_e, bI_e, bL_e, bD_e, bV_e, i3_eq0, i6_eq0, if_mx, if_mn, if_true, if_false, not_true_eq_false, not_false_eq_true, Int.reduceEq, Int.reduceLT, Int.reduceLE, r11_12, g2_0, hw.1.1, q, bX11_writeSheet_100, r11_1, r11_1, r11_12, g2_0, g2_1, g0_1]
theorem sX12_writeSheet {x f : Nat} {i n k : Int} (hT : 18 ≤ T) (hf : f < 6) (hx : x < 2 ^ f) (hk : k = 0 ∨ k = 1) (hw : lW w x f) (h0 : v 411 43 = 0) : ∃ w', jm_R (jm_env (d + 4)) jmM_X12_writeSheet 32 [some (.ref 411), some (.int (i3 i)), some (.int (i3 n)), some (.int (i3 (f : Nat))), some (.int (i3 k)), some (.int (i3 0)), none] [] (qM X v w T c s) = some (.inl (some (.int (i3 (wpL v (shL x f k (rwX x f).toNat) 411 43)))), qM X (wpL v (shL x f k (rwX x f).toNat)) w' T c s) ∧ fr78 w' w := by
  obtain ⟨z1, z2, z3, z4, z5, z6, z7⟩ := fo_1 f hf x hx
  have h3 := (fo_h f hf).2.2
  have hb : ∀ l : List Int, wpL v l 411 43 = l.length := fun l => by rw [wpL_n, h0]; omega
  have cols : ∀ (r : Nat), r < (rwX x f).toNat → ∀ u0, fr78 u0 w → ∃ u1, jm_R (jm_env (d + 4)) jmM_X12_writeSheet 44 [some (.ref 411), some (.int (i3 i)), some (.int (i3 n)), some (.int (i3 (f : Nat))), some (.int (i3 k)), some (.int (i3 (r : Nat))), some (.int (i3 0))] [] (qM X (wpL v (shL x f k r)) u0 T c s) = jm_R (jm_env (d + 4)) jmM_X12_writeSheet 44 [some (.ref 411), some (.int (i3 i)), some (.int (i3 n)), some (.int (i3 (f : Nat))), some (.int (i3 k)), some (.int (i3 (r : Nat))), some (.int (i3 ((clX x f).toNat : Nat)))] [] (qM X (wpL v (shL x f k r ++ rwL x f k r (clX x f).toNat)) u1 T c s) ∧ fr78 u1 w := by
    intro r hr u0 hu0
    have hl := lpI (S := Nat → Int → Int) (L := fun j y => jm_R (jm_env (d + 4)) jmM_X12_writeSheet 44 [some (.ref 411), some (.int (i3 i)), some (.int (i3 n)), some (.int (i3 (f : Nat))), some (.int (i3 k)), some (.int (i3 (r : Nat))), some (.int (i3 (j : Nat)))] [] (qM X (wpL v (shL x f k r ++ rwL x f k r j)) y T c s)) (I := fun _ y => fr78 y w) (clX x f).toNat 0 (fun j y _ hj hy => by
      have q : (clX x f ≤ (j : Int)) = False := eq_false (by omega)
      have hin : inC x f (r : Int) (j : Int) := ⟨by omega, by omega⟩
      obtain ⟨-, b2, b3, -⟩ := pgX_b (k := k) hf hx hin hk
      have hc : ((j + 1 : Nat) : Int) = (j : Int) + 1 := by omega
      have hyw := lW_fr hw hy
      have n1 := shL_b (k := k) (r := r) hf hx hk (by omega)
      obtain ⟨n2, -⟩ := rwL_n hf hx hk hr j (by omega)
      have hl2 := dg_len (z := pgX x f r j k) (by omega)
      rw [if_neg (by omega), if_neg (by omega)] at hl2
      have hl3 : (dg (pgX x f r j k)).length ≤ 2 := by split at hl2 <;> omega
      have ub := hb (shL x f k r ++ rwL x f k r j)
      rw [List.length_append] at ub
      by_cases g : 0 < j
      · have g' : ((j : Int) ≤ 0) = False := eq_false (by omega)
        have eS : wpL v (shL x f k r ++ rwL x f k r (j + 1)) = wpL (wpL (wpL v (shL x f k r ++ rwL x f k r j)) [32]) (dg (pgX x f r j k)) := by
          conv => lhs; unfold rwL
          rw [if_pos g, ← List.append_assoc, ← List.append_assoc, wpL_app (l := shL x f k r ++ rwL x f k r j ++ [32]), wpL_app (l := shL x f k r ++ rwL x f k r j) (l' := [32])]
        generalize wpL v (shL x f k r ++ rwL x f k r j) = u at *
        have e2 := sX12_writes (d := d + 3) (X := X) (v := u) (w := y) (T := T) (c := c) (s := s) (z := 32) hT (by omega) (by omega)
        rw [wpL_1] at e2
        have ub2 : wpL u [32] 411 43 = u 411 43 + 1 := by rw [wpL_n]; rfl
        obtain ⟨y2, e1, f2⟩ := sX12_pageOf (d := d + 2) (X := X) (v := wpL u [32]) (w := y) (T := T) (c := c) (s := s) hT hf hx hyw hin hk
        have e3 := sX12_writesNumber (d := d + 2) (X := X) (v := wpL u [32]) (w := y2) (T := T) (c := c) (s := s) (z := pgX x f r j k) hT (by omega) (by omega) (by omega) (by omega)
        refine ⟨y2, ?_, fr78_tr f2 hy⟩
        rw [hc, eS, bX12_writeSheet_44]
        simp (disch := first | assumption | omega) only [↓reduceIte, i3_add, i3_sub, i3_mul, i3_neg, i6_add, i6_sub, i6_mul, i6_neg, i3_lt, i3_le, i3_eq, i6_lt, i6_eq, i3_div, i6_div, i6_i3, i3_i6, c6_lt, c6_ge, c6_gt, c6_le, c6_eq, i3_ite, i6_ite, ib_0, ib_z, ite_not, i1_0, i0_0, jB_1, jB_0, jB_ib, bI_v, bL_v, bD_v, bV_v, ob_s, ob_i, i3_ofNat, jx_e, bI_e, bL_e, bD_e, bV_e, i3_eq0, i6_eq0, if_mx, if_mn, if_true, if_false, not_true_eq_false, not_false_eq_true, Int.reduceEq, Int.reduceLT, Int.reduceLE, g12_35, hyw.2.1, q, bX12_writeSheet_53, g', bX12_writeSheet_58, e2, bX12_writeSheet_64, e1, e3]
      · have g' : ((j : Int) ≤ 0) = True := eq_true (by omega)
        have eS : wpL v (shL x f k r ++ rwL x f k r (j + 1)) = wpL (wpL v (shL x f k r ++ rwL x f k r j)) (dg (pgX x f r j k)) := by
          conv => lhs; unfold rwL
          rw [if_neg g, List.nil_append, ← List.append_assoc, wpL_app (l := shL x f k r ++ rwL x f k r j)]
        generalize wpL v (shL x f k r ++ rwL x f k r j) = u at *
        obtain ⟨y2, e1, f2⟩ := sX12_pageOf (d := d + 2) (X := X) (v := u) (w := y) (T := T) (c := c) (s := s) hT hf hx hyw hin hk
        have e3 := sX12_writesNumber (d := d + 2) (X := X) (v := u) (w := y2) (T := T) (c := c) (s := s) (z := pgX x f r j k) hT (by omega) (by omega) (by omega) (by omega)
        refine ⟨y2, ?_, fr78_tr f2 hy⟩
        rw [hc, eS, bX12_writeSheet_44]
        simp (disch := first | assumption | omega) only [↓reduceIte, i3_add, i3_sub, i3_mul, i3_neg, i6_add, i6_sub, i6_mul, i6_neg, i3_lt, i3_le, i3_eq, i6_lt, i6_eq, i3_div, i6_div, i6_i3, i3_i6, c6_lt, c6_ge, c6_gt, c6_le, c6_eq, i3_ite, i6_ite, ib_0, ib_z, ite_not, i1_0, i0_0, jB_1, jB_0, jB_ib, bI_v, bL_v, bD_v, bV_v, ob_s, ob_i, i3_ofNat, jx_e, bI_e, bL_e, bD_e, bV_e, i3_eq0, i6_eq0, if_mx, if_mn, if_true, if_false, not_true_eq_false, not_false_eq_true, Int.reduceEq, Int.reduceLT, Int.reduceLE, g12_35, hyw.2.1, q, bX12_writeSheet_53, g', bX12_writeSheet_64, e1, e3]) u0 hu0
    obtain ⟨u1, e, hu1⟩ := hl
    rw [Nat.zero_add] at e
    have e0 : shL x f k r ++ rwL x f k r 0 = shL x f k r := List.append_nil _
    rw [e0] at e
    exact ⟨u1, e, hu1⟩
  have hl := lpI (S := (Nat → Int → Int) × Option Value) (L := fun j o => jm_R (jm_env (d + 4)) jmM_X12_writeSheet 32 [some (.ref 411), some (.int (i3 i)), some (.int (i3 n)), some (.int (i3 (f : Nat))), some (.int (i3 k)), some (.int (i3 (j : Nat))), o.2] [] (qM X (wpL v (shL x f k j)) o.1 T c s)) (I := fun _ o => fr78 o.1 w) (rwX x f).toNat 0 (fun j o _ hj ho => by
    have q : (rwX x f ≤ (j : Int)) = False := eq_false (by omega)
    have q2 : (clX x f ≤ ((clX x f).toNat : Int)) = True := eq_true (by omega)
    have hc : ((j + 1 : Nat) : Int) = (j : Int) + 1 := by omega
    obtain ⟨u1, e, hu1⟩ := cols j (by omega) o.1 ho
    have how := lW_fr hw ho
    have hu1w := lW_fr hw hu1
    have n1 := shL_b (k := k) (r := j) hf hx hk (by omega)
    obtain ⟨n2, -⟩ := rwL_n hf hx hk (r := j) (by omega) (clX x f).toNat (Nat.le_refl _)
    have ub := hb (shL x f k j ++ rwL x f k j (clX x f).toNat)
    rw [List.length_append] at ub
    refine ⟨(u1, some (.int (i3 ((clX x f).toNat : Nat)))), ?_, hu1⟩
    have eS : shL x f k (j + 1) = shL x f k j ++ rwL x f k j (clX x f).toNat ++ [10] := (List.append_assoc _ _ _).symm
    show jm_R _ _ 32 [_, _, _, _, _, some (.int (i3 (j : Nat))), _] [] _ = jm_R _ _ 32 [_, _, _, _, _, some (.int (i3 ((j + 1 : Nat)))), some (.int (i3 ((clX x f).toNat : Nat)))] [] (qM X (wpL v (shL x f k (j + 1))) u1 T c s)
    rw [hc, eS, wpL_app (l := shL x f k j ++ rwL x f k j (clX x f).toNat), bX12_writeSheet_32]
    generalize wpL v (shL x f k j ++ rwL x f k j (clX x f).toNat) = u at *
    have e2 := sX12_writes (d := d + 3) (X := X) (v := u) (w := u1) (T := T) (c := c) (s := s) (z := 10) hT (by omega) (by omega)
    rw [wpL_1] at e2
    simp (disch := first | assumption | omega) only [↓reduceIte, i3_add, i3_sub, i3_mul, i3_neg, i6_add, i6_sub, i6_mul, i6_neg, i3_lt, i3_le, i3_eq, i6_lt, i6_eq, i3_div, i6_div, i6_i3, i3_i6, c6_lt, c6_ge, c6_gt, c6_le, c6_eq, i3_ite, i6_ite, ib_0, ib_z, ite_not, i1_0, i0_0, jB_1, jB_0, jB_ib, bI_v, bL_v, bD_v, bV_v, ob_s, ob_i, i3_ofNat, jx_e, bI_e, bL_e, bD_e, bV_e, i3_eq0, i6_eq0, if_mx, if_mn, if_true, if_false, not_true_eq_false, not_false_eq_true, Int.reduceEq, Int.reduceLT, Int.reduceLE, g12_34, how.1, q, bX12_writeSheet_41, e]
    rw [bX12_writeSheet_44]
    simp (disch := first | assumption | omega) only [↓reduceIte, i3_add, i3_sub, i3_mul, i3_neg, i6_add, i6_sub, i6_mul, i6_neg, i3_lt, i3_le, i3_eq, i6_lt, i6_eq, i3_div, i6_div, i6_i3, i3_i6, c6_lt, c6_ge, c6_gt, c6_le, c6_eq, i3_ite, i6_ite, ib_0, ib_z, ite_not, i1_0, i0_0, jB_1, jB_0, jB_ib, bI_v, bL_v, bD_v, bV_v, ob_s, ob_i, i3_ofNat, jx_e, bI_e, bL_e, bD_e, bV_e, i3_eq0, i6_eq0, if_mx, if_mn, if_true, if_false, not_true_eq_false, not_false_eq_true, Int.reduceEq, Int.reduceLT, Int.reduceLE, g12_35, hu1w.2.1, q2, bX12_writeSheet_85, e2]) (w, none) fr78_id
  obtain ⟨o, e, ho⟩ := hl
  rw [Nat.zero_add] at e
  have how := lW_fr hw ho
  have q : (rwX x f ≤ ((rwX x f).toNat : Int)) = True := eq_true (by omega)
  refine ⟨o.1, Eq.trans e ?_, ho⟩
  rw [bX12_writeSheet_32]
  simp (disch := first | assumption | omega) only [↓reduceIte, i3_add, i3_sub, i3_mul, i3_neg, i6_add, i6_sub, i6_mul, i6_neg, i3_lt, i3_le, i3_eq, i6_lt, i6_eq, i3_div, i6_div, i6_i3, i3_i6, c6_lt, c6_ge, c6_gt, c6_le, c6_eq, i3_ite, i6_ite, ib_0, ib_z, ite_not, i1_0, i0_0, jB_1, jB_0, jB_ib, bI_v, bL_v, bD_v, bV_v, ob_s, ob_i, i3_ofNat, jx_e, bI_e, bL_e, bD_e, bV_e, i3_eq0, i6_eq0, if_mx, if_mn, if_true, if_false, not_true_eq_false, not_false_eq_true, Int.reduceEq, Int.reduceLT, Int.reduceLE, g12_34, how.1, q, bX12_writeSheet_97, g12_43]
end FON
section FON2
variable {d : Nat} {X : Nat × (Nat → Int32)} {v : Nat → Int → Int} {T : Nat} {n : Int}
theorem rp_writeSheet {i k f z : Int} (hR : RS v n) (hT : 18 ≤ T) (hi : isI i) (hk : isI k) (hf : isI f) (hz : z = 0 ∨ z = 1) : sIp (fun m => jm_env (d + 10) 186 [.ref 0, .int (i3 i), .int (i3 k), .int (i3 f), .int (i3 z)] m) (fun m => jm_env (d + 11) 338 [.ref 411, .int (i3 i), .int (i3 k), .int (i3 f), .int (i3 z)] m) eIB eIA X v T n := by
  obtain ⟨x, hx⟩ := ptn_x v i k f
  have hg := hR.1.2.1.1
  have hlo := hR.1.lo
  have q10 : ((1 : Int) = 0) = False := by decide
  have hb := fdM_b (v := v) (i := i) (n := k)
  refine sIp_chg (cd := cd2 ((0 ≤ i ∧ i < v 412 0) ∧ 0 ≤ k ∧ k < 10) (0 ≤ f ∧ f ≤ fdM v i k)) (z := ptL (up v 3 1 0) 3 (shL x f.toNat z (rwX x f.toNat).toNat) 3 1) (Q := fun v1 => v1 = ptL (up v 3 1 0) 3 (shL x f.toNat z (rwX x f.toNat).toNat)) (fun w c s => ?_) (fun v1 h0 h1 => ?_) cd2_c
  · by_cases gA : (0 ≤ i ∧ i < v 412 0) ∧ 0 ≤ k ∧ k < 10
    · by_cases gB : 0 ≤ f ∧ f ≤ fdM v i k
      · rw [cd2_0 gA gB]
        obtain ⟨x0, x1⟩ := hx gA gB
        obtain ⟨w', e, hu⟩ := tX11_foldSheet_0 (d := d + 4) (X := X) (w := w) (T := T) (c := c) (s := s) (f := f.toNat) hlo gA (by omega) x0 x1
        have e2 := tX11_writeSheet (d := d + 6) (X := X) (v := up v 3 1 0) (w := w') (T := T) (c := c) (s := s) (i := i) (n := k) (k := z) (by omega) x0 hz hu up_eq
        rw [Int.toNat_of_nonneg gB.1] at e e2
        have o3 := oByt_3
        apply cW_0
        refine ⟨_, w', ?_, rfl⟩
        show jm_env (d + 9 + 1) 186 _ (qM X v w T c s) = _
        rw [eX11_writeSheet, bX11_writeSheet_0]
        simp (disch := first | assumption | omega) only [↓reduceIte, i3_add, i3_sub, i3_mul, i3_neg, i6_add, i6_sub, i6_mul, i6_neg, i3_lt, i3_le, i3_eq, i6_lt, i6_eq, i3_div, i6_div, i6_i3, i3_i6, c6_lt, c6_ge, c6_gt, c6_le, c6_eq, i3_ite, i6_ite, ib_0, ib_z, ite_not, i1_0, i0_0, jB_1, jB_0, jB_ib, bI_v, bL_v, bD_v, bV_v, ob_s, ob_i, i3_ofNat, jx_e, bI_e, bL_e, bD_e, bV_e, i3_eq0, i6_eq0, if_mx, if_mn, if_true, if_false, not_true_eq_false, not_false_eq_true, Int.reduceEq, Int.reduceLT, Int.reduceLE, e, r11_1, sX0_shorten]
        exact e2
      · rw [cd2_2 gA gB]
        apply cW_2
        have e := tX11_foldSheet_2 (d := d + 4) (X := X) (w := w) (T := T) (c := c) (s := s) hlo hf gA gB
        refine ⟨w, ?_⟩
        show jm_env (d + 9 + 1) 186 _ (qM X v w T c s) = _
        rw [eX11_writeSheet, bX11_writeSheet_0]
        simp (disch := first | assumption | omega) only [i3_add, i3_sub, i3_mul, i3_neg, i6_add, i6_sub, i6_mul, i6_neg, i3_lt, i3_le, i3_eq, i6_lt, i6_eq, i3_div, i6_div, i6_i3, i3_i6, c6_lt, c6_ge, c6_gt, c6_le, c6_eq, i3_ite, i6_ite, ib_0, ib_z, ite_not, i1_0, i0_0, jB_1, jB_0, jB_ib, bI_v, bL_v, bD_v, bV_v, ob_s, ob_i, i3_ofNat, jx_e, bI_e, bL_e, bD_e, bV_e, i3_eq0, i6_eq0, if_mx, if_mn, if_true, if_false, not_true_eq_false, not_false_eq_true, Int.reduceEq, Int.reduceLT, Int.reduceLE, e]
        rfl
    · rw [cd2_1 gA]
      apply cW_1
      have e := tX11_foldSheet_1 (d := d + 4) (X := X) (w := w) (T := T) (c := c) (s := s) (f := f) hlo hi hk gA
      refine ⟨w, ?_⟩
      show jm_env (d + 9 + 1) 186 _ (qM X v w T c s) = _
      rw [eX11_writeSheet, bX11_writeSheet_0]
      simp (disch := first | assumption | omega) only [i3_add, i3_sub, i3_mul, i3_neg, i6_add, i6_sub, i6_mul, i6_neg, i3_lt, i3_le, i3_eq, i6_lt, i6_eq, i3_div, i6_div, i6_i3, i3_i6, c6_lt, c6_ge, c6_gt, c6_le, c6_eq, i3_ite, i6_ite, ib_0, ib_z, ite_not, i1_0, i0_0, jB_1, jB_0, jB_ib, bI_v, bL_v, bD_v, bV_v, ob_s, ob_i, i3_ofNat, jx_e, bI_e, bL_e, bD_e, bV_e, i3_eq0, i6_eq0, if_mx, if_mn, if_true, if_false, not_true_eq_false, not_false_eq_true, Int.reduceEq, Int.reduceLT, Int.reduceLE, e]
      rfl
  · by_cases gA : (0 ≤ i ∧ i < v 412 0) ∧ 0 ≤ k ∧ k < 10
    · by_cases gB : 0 ≤ f ∧ f ≤ fdM v i k
      · rw [cd2_0 gA gB] at h0 ⊢
        obtain ⟨x0, x1⟩ := hx gA gB
        have ev1 := h0 rfl
        have f6 : f.toNat < 6 := by omega
        obtain ⟨n1, n2⟩ := shL_n f6 x0 hz (rwX x f.toNat).toNat (Nat.le_refl _)
        have n3 := shL_b f6 x0 hz (r := (rwX x f.toNat).toNat) (Nat.le_refl _)
        generalize hL : shL x f.toNat z (rwX x f.toNat).toNat = L at *
        have f1 : ∀ m : Nat, m ≠ 3 → m ≠ 4 → v1 m = v m := fun m m3 m4 => by rw [ev1, ptL_o m3 m4, up_b m3]
        have hWR : WR v1 (wpL (up v1 411 43 0) L) := by
          have h := WR_L (l := L) (v := up v 3 1 0) (μ := up v1 411 43 0) ⟨by rw [up_eq, up_eq], by rw [up_eq]; omega, fun k k0 k1 => by rw [up_eq] at k1; omega⟩ (by rw [up_eq]; omega) n2
          rw [← ev1] at h
          exact h
        obtain ⟨hq, ht, -, ⟨g1, g2⟩, hs⟩ := hR
        have f3 : ∀ m : Nat, m ≠ 3 → m ≠ 4 → m ≠ 428 → m ≠ 411 → wpL (up v1 411 43 0) L m = v m := fun m m3 m4 m5 m6 => by
          funext j
          rw [wpL_o m5 (Or.inl m6), up_ne (by omega), f1 m m3 m4]
        have f4 : ∀ j : Int, j ≠ 43 → wpL (up v1 411 43 0) L 411 j = v 411 j := fun j hj => by
          rw [wpL_o (by omega) (Or.inr hj), up_ne (by omega), f1 411 (by omega) (by omega)]
        have f5 : ∀ m : Nat, m ≠ 428 → m ≠ 411 → wpL (up v1 411 43 0) L m = v1 m := fun m m5 m6 => by
          funext j
          rw [wpL_o m5 (Or.inl m6), up_ne (by omega)]
        refine ⟨wpL (up v1 411 43 0) L, ⟨LQ_cg hq (fun j hj => f3 j (by omega) (by omega) (by omega) (by omega)) (fun j _ _ => by rw [f3 412 (by omega) (by omega) (by omega) (by omega)]) (f4 7 (by omega)) (f3 _ (by omega) (by omega) (by omega) (by omega)) (f3 _ (by omega) (by omega) (by omega) (by omega)), ?_, WR_cg hWR (f5 3 (by omega) (by omega)) (f5 4 (by omega) (by omega)) rfl rfl, ⟨?_, ?_⟩, SLr_fr hs (fun j j0 j1 j2 j3 => f3 j (by omega) (by omega) (by omega) (by omega)) (f3 _ (by omega) (by omega) (by omega) (by omega)) (f3 _ (by omega) (by omega) (by omega) (by omega)) (Int.le_refl _)⟩, fun w c s => ?_⟩
        · unfold TXr bOk at ht ⊢
          rw [f3 1 (by omega) (by omega) (by omega) (by omega), f3 2 (by omega) (by omega) (by omega) (by omega), f3 420 (by omega) (by omega) (by omega) (by omega), f4 16 (by omega)]
          exact ht
        · rw [f3 5 (by omega) (by omega) (by omega) (by omega), f4 24 (by omega)]; exact g1
        · rw [f3 5 (by omega) (by omega) (by omega) (by omega), f4 25 (by omega)]; exact g2
        · have e412 : v1 412 = v 412 := f1 412 (by omega) (by omega)
          have hg1 : gM v1 := gM_cg e412 hg
          have hx1 : ptn v1 i k x f.toNat := ptn_cg e412 x1
          have hfd : fdM v1 i k = fdM v i k := fdM_cg e412
          obtain ⟨w1, w2, e1, e2, hw, h8⟩ := sX12_ready (d := d + 4) (X := X) (v := v1) (w := w) (T := T) (c := c) (s := s) hT hg1 (by rw [e412]; exact gA) (by rw [hfd]; exact gB) hx1
          obtain ⟨w3, e3, f78⟩ := sX12_writeSheet (d := d + 6) (X := X) (v := up v1 411 43 0) (w := w2) (T := T) (c := c) (s := s) (i := i) (n := k) (k := z) hT f6 x0 hz hw up_eq
          rw [Int.toNat_of_nonneg gB.1] at e3
          rw [hL] at e3
          rw [← hWR.1, ev1] at e3
          apply mR_0
          refine ⟨w3, ?_, (f78 411 8 (by omega)).trans h8⟩
          show jm_env (d + 10 + 1) 338 _ (qM X v1 w T c s) = _
          rw [eX12_writeSheet (h := hT), bX12_writeSheet_0]
          rw [ev1] at e1 e2 ⊢
          simp (disch := first | assumption | omega) only [↓reduceIte, i3_add, i3_sub, i3_mul, i3_neg, i6_add, i6_sub, i6_mul, i6_neg, i3_lt, i3_le, i3_eq, i6_lt, i6_eq, i3_div, i6_div, i6_i3, i3_i6, c6_lt, c6_ge, c6_gt, c6_le, c6_eq, i3_ite, i6_ite, ib_0, ib_z, ite_not, i1_0, i0_0, jB_1, jB_0, jB_ib, bI_v, bL_v, bD_v, bV_v, ob_s, ob_i, i3_ofNat, jx_e, bI_e, bL_e, bD_e, bV_e, i3_eq0, i6_eq0, if_mx, if_mn, if_true, if_false, not_true_eq_false, not_false_eq_true, Int.reduceEq, Int.reduceLT, Int.reduceLE, p12_8, e1, bX12_writeSheet_17, e2, p12_43]
          exact e3
      · have c2 := cd2_2 gA gB
        rw [c2] at h1 ⊢
        have e1 := h1 (by decide)
        subst e1
        refine ⟨v1, hR, fun w c s => ?_⟩
        obtain ⟨w1, e1, h1⟩ := sX12_noFolds_2 (d := d + 4) (X := X) (w := w) (T := T) (c := c) (s := s) hT hg hf gA gB
        apply mR_1 (by decide)
        refine ⟨w1, 0, ?_, h1⟩
        show jm_env (d + 10 + 1) 338 _ (qM X v1 w T c s) = _
        rw [eX12_writeSheet (h := hT), bX12_writeSheet_0]
        simp (disch := first | assumption | omega) only [↓reduceIte, i3_add, i3_sub, i3_mul, i3_neg, i6_add, i6_sub, i6_mul, i6_neg, i3_lt, i3_le, i3_eq, i6_lt, i6_eq, i3_div, i6_div, i6_i3, i3_i6, c6_lt, c6_ge, c6_gt, c6_le, c6_eq, i3_ite, i6_ite, ib_0, ib_z, ite_not, i1_0, i0_0, jB_1, jB_0, jB_ib, bI_v, bL_v, bD_v, bV_v, ob_s, ob_i, i3_ofNat, jx_e, bI_e, bL_e, bD_e, bV_e, i3_eq0, i6_eq0, if_mx, if_mn, if_true, if_false, not_true_eq_false, not_false_eq_true, Int.reduceEq, Int.reduceLT, Int.reduceLE, p12_8, e1, q10, bX12_writeSheet_15]
    · have c2 : cd2 ((0 ≤ i ∧ i < v 412 0) ∧ 0 ≤ k ∧ k < 10) (0 ≤ f ∧ f ≤ fdM v i k) = 1 := cd2_1 gA
      rw [c2] at h1 ⊢
      have e1 := h1 (by decide)
      subst e1
      refine ⟨v1, hR, fun w c s => ?_⟩
      obtain ⟨w1, e1, h1⟩ := sX12_noFolds_1 (d := d + 4) (X := X) (w := w) (T := T) (c := c) (s := s) (f := f) hT hg hi hk gA
      apply mR_1 (by decide)
      refine ⟨w1, 0, ?_, h1⟩
      show jm_env (d + 10 + 1) 338 _ (qM X v1 w T c s) = _
      rw [eX12_writeSheet (h := hT), bX12_writeSheet_0]
      simp (disch := first | assumption | omega) only [↓reduceIte, i3_add, i3_sub, i3_mul, i3_neg, i6_add, i6_sub, i6_mul, i6_neg, i3_lt, i3_le, i3_eq, i6_lt, i6_eq, i3_div, i6_div, i6_i3, i3_i6, c6_lt, c6_ge, c6_gt, c6_le, c6_eq, i3_ite, i6_ite, ib_0, ib_z, ite_not, i1_0, i0_0, jB_1, jB_0, jB_ib, bI_v, bL_v, bD_v, bV_v, ob_s, ob_i, i3_ofNat, jx_e, bI_e, bL_e, bD_e, bV_e, i3_eq0, i6_eq0, if_mx, if_mn, if_true, if_false, not_true_eq_false, not_false_eq_true, Int.reduceEq, Int.reduceLT, Int.reduceLE, p12_8, e1, q10, bX12_writeSheet_15]
end FON2
