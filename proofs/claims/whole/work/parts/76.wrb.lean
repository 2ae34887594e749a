-- uses 24.zar 25.obj 26.ops 27.ra 29.rc 34.gen 35.byt 36.ser 37.lnd 75.wra
/-! The class: the stacks written. -/
theorem bput_o {v : Nat → Int → Int} {a n : Nat} {z : Int} (h : n ≠ a) (h2 : n ≠ a + 1) : bputV v a z n = v n := by
  unfold bputV
  split
  · rw [up_b h, up_b h2]
  · rfl
theorem ptL_o {a n : Nat} (h : n ≠ a) (h2 : n ≠ a + 1) : ∀ {l : List Int} {v : Nat → Int → Int}, ptL v a l n = v n := by
  intro l
  induction l with
  | nil => intro v; rfl
  | cons z l ih => intro v; exact (ih (v := bputV v a z)).trans (bput_o h h2)
theorem ptL_1 {v : Nat → Int → Int} {a : Nat} {z : Int} : bputV v a z = ptL v a [z] := rfl
/-- the letters of a name -/
def ltL (f : Int → Int) (n : Nat) : List Int := (List.range n).map (fun k : Nat => f k)
theorem ltL_s {f : Int → Int} {n : Nat} : ltL f (n + 1) = ltL f n ++ [f n] := by
  unfold ltL
  rw [List.range_succ, List.map_append]
  rfl
/-- a stack's text -/
def skL (f : Int → Int) (n : Nat) (z k len : Int) : List Int := (if len ≤ 0 then [] else [32]) ++ (ltL f n ++ (dg z ++ ([58] ++ dg k)))
def wrC (v : Nat → Int → Int) (a : Nat) (n : Int) : Nat → Int → Int := if v (a + 4) n ≤ 0 then v else ptL v 3 (skL (v (a + 1)) (v a 1).toNat n (v (a + 4) n) (v 3 1))
section WRB
variable {d : Nat} {X : Nat × (Nat → Int32)} {v w : Nat → Int → Int} {T c s : Nat}
theorem wrC_o {a k : Nat} {n : Int} (h : k ≠ 3) (h2 : k ≠ 4) : wrC v a n k = v k := by
  unfold wrC
  split
  · rfl
  · exact ptL_o h h2
theorem wrC_b {a : Nat} {n : Int} (h0 : 0 ≤ v 3 1) (h1 : v 3 1 ≤ 650) : 0 ≤ wrC v a n 3 1 ∧ wrC v a n 3 1 ≤ 650 := by
  unfold wrC
  split
  · exact ⟨h0, h1⟩
  · exact ptL_b (a := 3) h0 h1
theorem sX9_letters {a : Nat} {n : Int} {u : Nat → Int → Int} (h : oSer a) (ha : 14 ≤ a) (hc0 : 0 ≤ u a 1) (hc1 : u a 1 ≤ 6) (b0 : 0 ≤ u 3 1) (b1 : u 3 1 ≤ 650) :
    jm_R (jm_env (d + 2)) jmM_X9_writeTo 32 [some (.ref a), some (.ref 3), some (.int (i3 n)), some (.int (i3 0))] [] (qM X u w T c s) = jm_R (jm_env (d + 2)) jmM_X9_writeTo 55 [some (.ref a), some (.ref 3), some (.int (i3 n)), some (.int (i3 (u a 1)))] [] (qM X (ptL u 3 (ltL (u (a + 1)) (u a 1).toNat)) w T c s) := by
  have o3 := oByt_3
  have hcap : (bcap 3 : Int) = 650 := rfl
  have hl := ch_n (fun k : Nat => jm_R (jm_env (d + 2)) jmM_X9_writeTo 32 [some (.ref a), some (.ref 3), some (.int (i3 n)), some (.int (i3 k))] [] (qM X (ptL u 3 (ltL (u (a + 1)) k)) w T c s)) (u a 1).toNat (fun k hk => by
    have e1 : ptL u 3 (ltL (u (a + 1)) k) a = u a := ptL_o (by omega) (by omega)
    have e2 : ptL u 3 (ltL (u (a + 1)) k) (a + 1) = u (a + 1) := ptL_o (by omega) (by omega)
    have e3 := ptL_b (a := 3) (l := ltL (u (a + 1)) k) b0 b1
    have e4 : 0 ≤ ptL u 3 (ltL (u (a + 1)) k) a 1 := by rw [e1]; exact hc0
    have e5 : ptL u 3 (ltL (u (a + 1)) k) a 1 ≤ 6 := by rw [e1]; exact hc1
    rw [bX9_writeTo_32]
    simp (disch := first | assumption | omega) only [eX9_writeTo, bX9_writeTo_0, bX9_writeTo_8, bX9_writeTo_17, bX9_writeTo_24, bX9_writeTo_30, bX9_writeTo_40, bX9_writeTo_55, bX9_writeTo_76, bX9_writeTo_82, r9_4, a9_4, w9_4, n9_4, g0_1, g9_1, i3_add, i3_sub, i3_mul, i3_neg, i6_add, i6_sub, i6_mul, i6_neg, i3_lt, i3_le, i3_eq, i6_lt, i6_eq, i3_div, i6_div, i6_i3, i3_i6, c6_lt, c6_ge, c6_gt, c6_le, c6_eq, i3_ite, i6_ite, ib_0, ib_z, ite_not, i1_0, i0_0, jB_1, jB_0, jB_ib, bI_v, bL_v, bD_v, bV_v, ob_s, ob_i, i3_ofNat, jx_e, bI_e, bL_e, bD_e, bV_e, i3_eq0, i6_eq0, if_mx, if_mn, if_true, if_false, not_true_eq_false, not_false_eq_true, Int.reduceEq, Int.reduceLT, Int.reduceLE, sX0_put, sX9_letterAt, e1, e2]
    rw [if_neg (by omega), if_pos (by omega), ltL_s, ptL_app]
    rfl)
  rw [show ((0 : Nat) : Int) = 0 from rfl, show ltL (u (a + 1)) 0 = [] from rfl, show ptL u 3 [] = u from rfl] at hl
  refine hl.trans ?_
  have e1 : ptL u 3 (ltL (u (a + 1)) (u a 1).toNat) a = u a := ptL_o (by omega) (by omega)
  rw [bX9_writeTo_32, show (((u a 1).toNat : Nat) : Int) = u a 1 by omega]
  simp (disch := first | assumption | omega) only [eX9_writeTo, bX9_writeTo_0, bX9_writeTo_8, bX9_writeTo_17, bX9_writeTo_24, bX9_writeTo_30, bX9_writeTo_40, bX9_writeTo_55, bX9_writeTo_76, bX9_writeTo_82, r9_4, a9_4, w9_4, n9_4, g0_1, g9_1, i3_add, i3_sub, i3_mul, i3_neg, i6_add, i6_sub, i6_mul, i6_neg, i3_lt, i3_le, i3_eq, i6_lt, i6_eq, i3_div, i6_div, i6_i3, i3_i6, c6_lt, c6_ge, c6_gt, c6_le, c6_eq, i3_ite, i6_ite, ib_0, ib_z, ite_not, i1_0, i0_0, jB_1, jB_0, jB_ib, bI_v, bL_v, bD_v, bV_v, ob_s, ob_i, i3_ofNat, jx_e, bI_e, bL_e, bD_e, bV_e, i3_eq0, i6_eq0, if_mx, if_mn, if_true, if_false, not_true_eq_false, not_false_eq_true, Int.reduceEq, Int.reduceLT, Int.reduceLE, e1]
  rw [if_pos (by omega)]
theorem sX9_writeTo_s {a n : Nat} {u : Nat → Int → Int} {x : Option Value} (h : oSer a) (ha : 14 ≤ a) (hc0 : 0 ≤ u a 1) (hc1 : u a 1 ≤ 6) (hn : n < 10) (k0 : 0 ≤ u (a + 4) n) (k1 : u (a + 4) n ≤ 9999) (b0 : 0 ≤ u 3 1) (b1 : u 3 1 ≤ 650) :
    ∃ y, jm_R (jm_env (d + 3)) jmM_X9_writeTo 2 [some (.ref a), some (.ref 3), some (.int (i3 n)), x] [] (qM X u w T c s) = jm_R (jm_env (d + 3)) jmM_X9_writeTo 2 [some (.ref a), some (.ref 3), some (.int (i3 (n + 1 : Nat))), y] [] (qM X (wrC u a n) w T c s) := by
  have o3 := oByt_3
  have hcap : (bcap 3 : Int) = 650 := rfl
  by_cases g : u (a + 4) n ≤ 0
  · refine ⟨x, ?_⟩
    unfold wrC
    rw [if_pos g, bX9_writeTo_2]
    simp (disch := first | assumption | omega) only [eX9_writeTo, bX9_writeTo_0, bX9_writeTo_8, bX9_writeTo_17, bX9_writeTo_24, bX9_writeTo_30, bX9_writeTo_40, bX9_writeTo_55, bX9_writeTo_76, bX9_writeTo_82, r9_4, a9_4, w9_4, n9_4, g0_1, g9_1, i3_add, i3_sub, i3_mul, i3_neg, i6_add, i6_sub, i6_mul, i6_neg, i3_lt, i3_le, i3_eq, i6_lt, i6_eq, i3_div, i6_div, i6_i3, i3_i6, c6_lt, c6_ge, c6_gt, c6_le, c6_eq, i3_ite, i6_ite, ib_0, ib_z, ite_not, i1_0, i0_0, jB_1, jB_0, jB_ib, bI_v, bL_v, bD_v, bV_v, ob_s, ob_i, i3_ofNat, jx_e, bI_e, bL_e, bD_e, bV_e, i3_eq0, i6_eq0, if_mx, if_mn, if_true, if_false, not_true_eq_false, not_false_eq_true, Int.reduceEq, Int.reduceLT, Int.reduceLE]
    rw [if_neg (by omega), if_pos g]
    rfl
  · have key : ∀ u' : Nat → Int → Int, (∀ k : Nat, k ≠ 3 → k ≠ 4 → u' k = u k) → 0 ≤ u' 3 1 → u' 3 1 ≤ 650 → jm_R (jm_env (d + 3)) jmM_X9_writeTo 30 [some (.ref a), some (.ref 3), some (.int (i3 n)), x] [] (qM X u' w T c s) = jm_R (jm_env (d + 3)) jmM_X9_writeTo 2 [some (.ref a), some (.ref 3), some (.int (i3 (n + 1 : Nat))), some (.int (i3 (u a 1)))] [] (qM X (ptL u' 3 (ltL (u (a + 1)) (u a 1).toNat ++ (dg n ++ ([58] ++ dg (u (a + 4) n))))) w T c s) := fun u' hu h0 h1 => by
      have e1 : u' a = u a := hu a (by omega) (by omega)
      have e2 : u' (a + 1) = u (a + 1) := hu _ (by omega) (by omega)
      have e3 := sX9_letters (d := d + 1) (X := X) (w := w) (T := T) (c := c) (s := s) (n := n) (u := u') h ha (by rw [e1]; exact hc0) (by rw [e1]; exact hc1) h0 h1
      rw [e1, e2, show d + 1 + 2 = d + 3 from rfl] at e3
      have p1 := ptL_b (a := 3) (l := ltL (u (a + 1)) (u a 1).toNat) h0 h1
      have p2 := ptL_b (a := 3) (l := dg n) p1.1 p1.2
      have p3 := ptL_b (a := 3) (l := [58]) p2.1 p2.2
      have e4 : ptL (ptL (ptL u' 3 (ltL (u (a + 1)) (u a 1).toNat)) 3 (dg n)) 3 [58] (a + 4) = u (a + 4) := by rw [ptL_o (by omega) (by omega), ptL_o (by omega) (by omega), ptL_o (by omega) (by omega), hu _ (by omega) (by omega)]
      rw [ptL_app, ptL_app, ptL_app]
      have q1 := sX0_putNumber (d := d) (X := X) (w := w) (T := T) (c := c) (s := s) (z := n) o3 p1.1 p1.2 (by omega) (by omega)
      have q2 := sX0_putNumber (d := d) (X := X) (w := w) (T := T) (c := c) (s := s) (z := u (a + 4) n) o3 p3.1 p3.2 (by omega) k1
      rw [bX9_writeTo_30]
      refine Eq.trans (by rfl) (e3.trans ?_)
      rw [bX9_writeTo_55]
      simp (disch := first | assumption | omega) only [eX9_writeTo, bX9_writeTo_0, bX9_writeTo_8, bX9_writeTo_17, bX9_writeTo_24, bX9_writeTo_30, bX9_writeTo_40, bX9_writeTo_55, bX9_writeTo_76, bX9_writeTo_82, r9_4, a9_4, w9_4, n9_4, g0_1, g9_1, i3_add, i3_sub, i3_mul, i3_neg, i6_add, i6_sub, i6_mul, i6_neg, i3_lt, i3_le, i3_eq, i6_lt, i6_eq, i3_div, i6_div, i6_i3, i3_i6, c6_lt, c6_ge, c6_gt, c6_le, c6_eq, i3_ite, i6_ite, ib_0, ib_z, ite_not, i1_0, i0_0, jB_1, jB_0, jB_ib, bI_v, bL_v, bD_v, bV_v, ob_s, ob_i, i3_ofNat, jx_e, bI_e, bL_e, bD_e, bV_e, i3_eq0, i6_eq0, if_mx, if_mn, if_true, if_false, not_true_eq_false, not_false_eq_true, Int.reduceEq, Int.reduceLT, Int.reduceLE, q1, sX0_put, ptL_1, e4, q2]
      rfl
    unfold wrC skL
    rw [if_neg g]
    by_cases g2 : u 3 1 ≤ 0
    · refine ⟨some (.int (i3 (u a 1))), ?_⟩
      rw [if_pos g2, List.nil_append, bX9_writeTo_2]
      simp (disch := first | assumption | omega) only [i3_add, i3_sub, i3_mul, i3_neg, i6_add, i6_sub, i6_mul, i6_neg, i3_lt, i3_le, i3_eq, i6_lt, i6_eq, i3_div, i6_div, i6_i3, i3_i6, c6_lt, c6_ge, c6_gt, c6_le, c6_eq, i3_ite, i6_ite, ib_0, ib_z, ite_not, i1_0, i0_0, jB_1, jB_0, jB_ib, bI_v, bL_v, bD_v, bV_v, ob_s, ob_i, i3_ofNat, jx_e, bI_e, bL_e, bD_e, bV_e, i3_eq0, i6_eq0, if_mx, if_mn, if_true, if_false, not_true_eq_false, not_false_eq_true, Int.reduceEq, Int.reduceLT, Int.reduceLE, bX9_writeTo_8, bX9_writeTo_17, r9_4, a9_4, w9_4, n9_4, g0_1, g9_1]
      rw [if_neg (by omega), if_neg g, if_pos g2]
      exact key u (fun _ _ _ => rfl) b0 b1
    · refine ⟨some (.int (i3 (u a 1))), ?_⟩
      have hb := ptL_b (a := 3) (l := [32]) b0 b1
      rw [if_neg g2, ptL_app, bX9_writeTo_2]
      simp (disch := first | assumption | omega) only [i3_add, i3_sub, i3_mul, i3_neg, i6_add, i6_sub, i6_mul, i6_neg, i3_lt, i3_le, i3_eq, i6_lt, i6_eq, i3_div, i6_div, i6_i3, i3_i6, c6_lt, c6_ge, c6_gt, c6_le, c6_eq, i3_ite, i6_ite, ib_0, ib_z, ite_not, i1_0, i0_0, jB_1, jB_0, jB_ib, bI_v, bL_v, bD_v, bV_v, ob_s, ob_i, i3_ofNat, jx_e, bI_e, bL_e, bD_e, bV_e, i3_eq0, i6_eq0, if_mx, if_mn, if_true, if_false, not_true_eq_false, not_false_eq_true, Int.reduceEq, Int.reduceLT, Int.reduceLE, bX9_writeTo_8, bX9_writeTo_17, bX9_writeTo_24, r9_4, a9_4, w9_4, n9_4, g0_1, g9_1, sX0_put, ptL_1]
      rw [if_neg (by omega), if_neg g, if_neg g2]
      exact key (ptL u 3 [32]) (fun k h3 h4 => ptL_o h3 h4) hb.1 hb.2
/-- a series written -/
def wsC (v : Nat → Int → Int) (a : Nat) : Nat → Int → Int := fo (fun u n => wrC u a n) v 10
theorem sX9_writeTo {a : Nat} (h : oSer a) (ha : 14 ≤ a) (hc0 : 0 ≤ v a 1) (hc1 : v a 1 ≤ 6) (hk : ∀ n : Int, 0 ≤ n → n < 10 → 0 ≤ v (a + 4) n ∧ v (a + 4) n ≤ 9999) (b0 : 0 ≤ v 3 1) (b1 : v 3 1 ≤ 650) :
    jm_env (d + 4) 129 [.ref a, .ref 3] (qM X v w T c s) = some (.inl none, qM X (wsC v a) w T c s) ∧ (∀ k : Nat, k ≠ 3 → k ≠ 4 → wsC v a k = v k) ∧ 0 ≤ wsC v a 3 1 ∧ wsC v a 3 1 ≤ 650 := by
  obtain ⟨⟨x, e⟩, hP⟩ := lq1 (P := fun (_ : Nat) (u : Nat → Int → Int) => (∀ k : Nat, k ≠ 3 → k ≠ 4 → u k = v k) ∧ 0 ≤ u 3 1 ∧ u 3 1 ≤ 650) (A := fun (n : Nat) (u : Nat → Int → Int) (x : Option Value) => jm_R (jm_env (d + 3)) jmM_X9_writeTo 2 [some (.ref a), some (.ref 3), some (.int (i3 n)), x] [] (qM X u w T c s)) (g := fun u n => wrC u a n) 10 (fun n u x hn hu => by
    have e1 : u a = v a := hu.1 a (by omega) (by omega)
    have e2 : u (a + 4) = v (a + 4) := hu.1 _ (by omega) (by omega)
    have hk' := hk n (by omega) (by omega)
    exact sX9_writeTo_s h ha (by rw [e1]; exact hc0) (by rw [e1]; exact hc1) hn (by rw [e2]; exact hk'.1) (by rw [e2]; exact hk'.2) hu.2.1 hu.2.2) (fun n u hn hu => ⟨fun k h3 h4 => (wrC_o h3 h4).trans (hu.1 k h3 h4), wrC_b hu.2.1 hu.2.2⟩) v none ⟨fun _ _ _ => rfl, b0, b1⟩
  refine ⟨?_, hP⟩
  simp (disch := first | assumption | omega) only [eX9_writeTo, bX9_writeTo_0, bX9_writeTo_8, bX9_writeTo_17, bX9_writeTo_24, bX9_writeTo_30, bX9_writeTo_40, bX9_writeTo_55, bX9_writeTo_76, bX9_writeTo_82, i3_add, i3_sub, i3_mul, i3_neg, i6_add, i6_sub, i6_mul, i6_neg, i3_lt, i3_le, i3_eq, i6_lt, i6_eq, i3_div, i6_div, i6_i3, i3_i6, c6_lt, c6_ge, c6_gt, c6_le, c6_eq, i3_ite, i6_ite, ib_0, ib_z, ite_not, i1_0, i0_0, jB_1, jB_0, jB_ib, bI_v, bL_v, bD_v, bV_v, ob_s, ob_i, i3_ofNat, jx_e, bI_e, bL_e, bD_e, bV_e, i3_eq0, i6_eq0, if_mx, if_mn, if_true, if_false, not_true_eq_false, not_false_eq_true, Int.reduceEq, Int.reduceLT, Int.reduceLE]
  refine Eq.trans ?_ (e.trans ?_)
  · rfl
  · rw [bX9_writeTo_2]
    simp (disch := first | assumption | omega) only [eX9_writeTo, bX9_writeTo_0, bX9_writeTo_8, bX9_writeTo_17, bX9_writeTo_24, bX9_writeTo_30, bX9_writeTo_40, bX9_writeTo_55, bX9_writeTo_76, bX9_writeTo_82, i3_add, i3_sub, i3_mul, i3_neg, i6_add, i6_sub, i6_mul, i6_neg, i3_lt, i3_le, i3_eq, i6_lt, i6_eq, i3_div, i6_div, i6_i3, i3_i6, c6_lt, c6_ge, c6_gt, c6_le, c6_eq, i3_ite, i6_ite, ib_0, ib_z, ite_not, i1_0, i0_0, jB_1, jB_0, jB_ib, bI_v, bL_v, bD_v, bV_v, ob_s, ob_i, i3_ofNat, jx_e, bI_e, bL_e, bD_e, bV_e, i3_eq0, i6_eq0, if_mx, if_mn, if_true, if_false, not_true_eq_false, not_false_eq_true, Int.reduceEq, Int.reduceLT, Int.reduceLE]
    rw [if_pos (by omega)]
    rfl
/-- all stacks written -/
def waC (v : Nat → Int → Int) (c' : Nat) : Nat → Int → Int := fo (fun u i => wsC u (14 + 7 + 5 * i)) (up v 3 1 0) c'
theorem sX11_writeStacks {c' : Nat} (h2 : v 14 2 = c') (hc : c' ≤ 5) (hn : ∀ i : Nat, i < c' → 0 ≤ v (14 + 7 + 5 * i) 1 ∧ v (14 + 7 + 5 * i) 1 ≤ 6) (hk : ∀ (i : Nat) (n : Int), i < c' → 0 ≤ n → n < 10 → 0 ≤ v (14 + 7 + 5 * i + 4) n ∧ v (14 + 7 + 5 * i + 4) n ≤ 9999) :
    jm_env (d + 5) 185 [.ref 0] (qM X v w T c s) = some (.inl (some (.int (i3 (waC v c' 3 1)))), qM X (waC v c') w T c s) ∧ (∀ k : Nat, k ≠ 3 → k ≠ 4 → waC v c' k = v k) ∧ 0 ≤ waC v c' 3 1 ∧ waC v c' 3 1 ≤ 650 := by
  have o3 := oByt_3
  have o14 := oLnd_14
  obtain ⟨⟨x, e⟩, hP⟩ := lq1 (P := fun (_ : Nat) (u : Nat → Int → Int) => (∀ k : Nat, k ≠ 3 → k ≠ 4 → u k = v k) ∧ 0 ≤ u 3 1 ∧ u 3 1 ≤ 650) (A := fun (i : Nat) (u : Nat → Int → Int) (_ : Unit) => jm_R (jm_env (d + 4)) jmM_X11_writeStacks 10 [some (.ref 0), some (.int (i3 i))] [] (qM X u w T c s)) (g := fun u i => wsC u (14 + 7 + 5 * i)) c' (fun i u _ hi hu => ⟨(), by
    have e0 : u 14 = v 14 := hu.1 14 (by omega) (by omega)
    have e1 : u (14 + 7 + 5 * i) = v (14 + 7 + 5 * i) := hu.1 _ (by omega) (by omega)
    have e2 : u (14 + 7 + 5 * i + 4) = v (14 + 7 + 5 * i + 4) := hu.1 _ (by omega) (by omega)
    have e3 := (sX9_writeTo (d := d) (X := X) (w := w) (T := T) (c := c) (s := s) (a := 14 + 7 + 5 * i) (v := u) (oSer_of o14 (by omega)) (by omega) (by rw [e1]; exact (hn i hi).1) (by rw [e1]; exact (hn i hi).2) (fun n n0 n1 => by rw [e2]; exact hk i n hi n0 n1) hu.2.1 hu.2.2).1
    show jm_R _ _ _ _ _ _ = jm_R _ _ _ _ _ _
    rw [bX11_writeStacks_10]
    simp (disch := first | assumption | omega) only [eX11_writeStacks, bX11_writeStacks_0, bX11_writeStacks_15, bX11_writeStacks_26, bX11_writeStacks_48, r11_1, r11_5, g4_2, r4_3, q4_3, g0_1, i3_add, i3_sub, i3_mul, i3_neg, i6_add, i6_sub, i6_mul, i6_neg, i3_lt, i3_le, i3_eq, i6_lt, i6_eq, i3_div, i6_div, i6_i3, i3_i6, c6_lt, c6_ge, c6_gt, c6_le, c6_eq, i3_ite, i6_ite, ib_0, ib_z, ite_not, i1_0, i0_0, jB_1, jB_0, jB_ib, bI_v, bL_v, bD_v, bV_v, ob_s, ob_i, i3_ofNat, jx_e, bI_e, bL_e, bD_e, bV_e, i3_eq0, i6_eq0, if_mx, if_mn, if_true, if_false, not_true_eq_false, not_false_eq_true, Int.reduceEq, Int.reduceLT, Int.reduceLE, e0, h2, Int.toNat_natCast, e3]
    rw [if_neg (by omega), if_neg (by omega)]
    rfl⟩) (fun i u hi hu => by
    have e1 : u (14 + 7 + 5 * i) = v (14 + 7 + 5 * i) := hu.1 _ (by omega) (by omega)
    have e2 : u (14 + 7 + 5 * i + 4) = v (14 + 7 + 5 * i + 4) := hu.1 _ (by omega) (by omega)
    have e3 := (sX9_writeTo (d := 0) (X := X) (w := w) (T := T) (c := c) (s := s) (a := 14 + 7 + 5 * i) (v := u) (oSer_of o14 (by omega)) (by omega) (by rw [e1]; exact (hn i hi).1) (by rw [e1]; exact (hn i hi).2) (fun n n0 n1 => by rw [e2]; exact hk i n hi n0 n1) hu.2.1 hu.2.2).2
    exact ⟨fun k h3 h4 => (e3.1 k h3 h4).trans (hu.1 k h3 h4), e3.2⟩) (up v 3 1 0) () ⟨fun k h3 _ => up_b h3, by rw [up_eq]; omega, by rw [up_eq]; omega⟩
  refine ⟨?_, hP⟩
  have e0 : waC v c' 14 = v 14 := hP.1 14 (by omega) (by omega)
  simp (disch := first | assumption | omega) only [eX11_writeStacks, bX11_writeStacks_0, bX11_writeStacks_15, bX11_writeStacks_26, bX11_writeStacks_48, i3_add, i3_sub, i3_mul, i3_neg, i6_add, i6_sub, i6_mul, i6_neg, i3_lt, i3_le, i3_eq, i6_lt, i6_eq, i3_div, i6_div, i6_i3, i3_i6, c6_lt, c6_ge, c6_gt, c6_le, c6_eq, i3_ite, i6_ite, ib_0, ib_z, ite_not, i1_0, i0_0, jB_1, jB_0, jB_ib, bI_v, bL_v, bD_v, bV_v, ob_s, ob_i, i3_ofNat, jx_e, bI_e, bL_e, bD_e, bV_e, i3_eq0, i6_eq0, if_mx, if_mn, if_true, if_false, not_true_eq_false, not_false_eq_true, Int.reduceEq, Int.reduceLT, Int.reduceLE, r11_1, r11_5, g4_2, r4_3, q4_3, g0_1, sX0_shorten]
  refine Eq.trans ?_ (e.trans ?_)
  · rfl
  · show jm_R (jm_env (d + 4)) jmM_X11_writeStacks 10 [some (.ref 0), some (.int (i3 c'))] [] (qM X (waC v c') w T c s) = _
    rw [bX11_writeStacks_10]
    simp (disch := first | assumption | omega) only [eX11_writeStacks, bX11_writeStacks_0, bX11_writeStacks_15, bX11_writeStacks_26, bX11_writeStacks_48, r11_1, r11_5, g4_2, r4_3, q4_3, g0_1, i3_add, i3_sub, i3_mul, i3_neg, i6_add, i6_sub, i6_mul, i6_neg, i3_lt, i3_le, i3_eq, i6_lt, i6_eq, i3_div, i6_div, i6_i3, i3_i6, c6_lt, c6_ge, c6_gt, c6_le, c6_eq, i3_ite, i6_ite, ib_0, ib_z, ite_not, i1_0, i0_0, jB_1, jB_0, jB_ib, bI_v, bL_v, bD_v, bV_v, ob_s, ob_i, i3_ofNat, jx_e, bI_e, bL_e, bD_e, bV_e, i3_eq0, i6_eq0, if_mx, if_mn, if_true, if_false, not_true_eq_false, not_false_eq_true, Int.reduceEq, Int.reduceLT, Int.reduceLE, e0, h2]
    rw [ite2 (by omega)]
end WRB
