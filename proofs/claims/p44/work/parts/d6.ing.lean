-- uses 24.zar 25.obj 26.ops 27.ra 28.rb 29.rc 33.rg 34.gen 35.byt 36.ser 53.cla 75.wra 76.wrb 94.tkb 96.srd d0.ina d1.inb d2.inc d3.ind d4.ine d5.inf
/-! The first setup's text is put. -/
theorem ptL_at {a : Nat} : ∀ (l : List Int) (v : Nat → Int → Int), 0 ≤ v a 1 → v a 1 + l.length ≤ bcap a → ptL v a l a 1 = v a 1 + l.length ∧ (∀ (k : Nat) (z : Int), l[k]? = some z → ptL v a l (a + 1) (v a 1 + k) = z) ∧ (∀ j : Int, j < v a 1 → ptL v a l (a + 1) j = v (a + 1) j) := by
  intro l
  induction l with
  | nil => intro v _ _; exact ⟨by show v a 1 = v a 1 + ((0 : Nat) : Int); omega, fun k z h => absurd h (by simp), fun _ _ => rfl⟩
  | cons z l ih =>
    intro v h0 h1
    rw [List.length_cons] at h1
    have e : bputV v a z = up (up v (a + 1) (v a 1) z) a 1 (v a 1 + 1) := if_pos (by omega)
    have e1 : bputV v a z a 1 = v a 1 + 1 := by rw [e, up_eq]
    obtain ⟨i1, i2, i3'⟩ := ih (bputV v a z) (by rw [e1]; omega) (by rw [e1]; omega)
    rw [e1] at i1 i2 i3'
    have hz : ∀ j, j < v a 1 + 1 → ptL v a (z :: l) (a + 1) j = up (up v (a + 1) (v a 1) z) a 1 (v a 1 + 1) (a + 1) j := fun j hj => by
      show ptL (bputV v a z) a l (a + 1) j = _
      rw [i3' j hj, e]
    refine ⟨?_, fun k y hk => ?_, fun j hj => ?_⟩
    · show ptL (bputV v a z) a l a 1 = _
      rw [i1, List.length_cons]; omega
    · cases k with
      | zero =>
        have : z = y := by simpa using hk
        rw [hz _ (by omega), up_ne (by omega), show v a 1 + ((0 : Nat) : Int) = v a 1 by omega, up_eq]
        exact this
      | succ k =>
        have h := i2 k y (by simpa using hk)
        show ptL (bputV v a z) a l (a + 1) _ = y
        rw [show v a 1 + ((k + 1 : Nat) : Int) = v a 1 + 1 + k by omega]
        exact h
    · rw [hz _ (by omega), up_ne (by omega), up_ne (by omega)]
/-- the first setup's text -/
def fsI : List Int32 := jm_strT.getD 0 []
def fsZ : List Int := fsI.map Int32.toInt
theorem fsZ_b : fsZ.length ≤ 200 ∧ ∀ z ∈ fsZ, 0 ≤ z ∧ z ≤ 255 := by decide +kernel
theorem fsI_n : fsZ.length = fsI.length := List.length_map _
def v1F : Nat → Int → Int := ptL z0 1 fsZ
section ING2
variable {X : Nat × (Nat → Int32)} {c s d : Nat}
theorem iX11_t : jm_R (jm_env (d + 2)) jmM_X11_init 179 [some (.ref 0), some (.int (i3 0))] [] (qM X z0 z0 0 c s) = jm_R (jm_env (d + 2)) jmM_X11_init 207 [some (.ref 0), some (.int (i3 (fsI.length : Nat)))] [] (qM X v1F z0 0 c s) := by
  have hb := fsZ_b
  have hn := fsI_n
  have g1 : ∀ v w, jm_gS (qM X v w 0 c s) 1099511627776 = some (fsI.length, fun i => fsI.getD i 0) := fun v w => gS_k (k := 0) (by omega) (by omega)
  have o1 := oByt_1
  have hcap : (bcap 1 : Int) = 600 := rfl
  have hl := ch_n (fun k : Nat => jm_R (jm_env (d + 2)) jmM_X11_init 179 [some (.ref 0), some (.int (i3 (k : Nat)))] [] (qM X (ptL z0 1 (fsZ.take k)) z0 0 c s)) fsI.length (fun k hk => by
    show jm_R _ _ 179 [_, some (.int (i3 (k : Nat)))] _ _ = jm_R _ _ 179 [_, some (.int (i3 ((k + 1 : Nat))))] _ _
    have q : ((fsI.length : Int) ≤ (k : Int)) = False := eq_false (by omega)
    have hc : ((k + 1 : Nat) : Int) = (k : Int) + 1 := by omega
    have eL : (Int32.ofNat fsI.length) = i3 (fsI.length : Int) := rfl
    have ub := ptL_b (a := 1) (l := fsZ.take k) (v := z0) (by decide) (by decide)
    have ek : fsI.getD k 0 = i3 (fsI[k]'hk).toInt := by
      rw [List.getD_eq_getElem?_getD, List.getElem?_eq_getElem hk]
      show fsI[k] = Int32.ofInt (fsI[k]).toInt
      rw [Int32.ofInt_toInt]
    have e1 : (i3 (k : Int)).toNatClampNeg = k := by rw [i3_nat (by omega) (by omega)]; omega
    have z : ¬ (i3 (k : Int) < 0) := by
      have h : (i3 (k : Int) < (0 : Int32)) = ((k : Int) < 0) := i3_lt (b := 0) (by omega) (by omega) (by omega) (by omega)
      rw [h]; omega
    have ei : jm_ix (i3 (k : Int)) fsI.length = some k := by
      unfold jm_ix
      rw [if_neg (by rw [e1]; exact fun q => q.elim z (by omega)), e1]
    have e2 := sX0_put (d := d) (X := X) (v := ptL z0 1 (fsZ.take k)) (w := z0) (T := 0) (c := c) (s := s) (a := 1) (z := (fsI[k]'hk).toInt) o1 ub.1 ub.2
    have eT : ptL z0 1 (fsZ.take (k + 1)) = bputV (ptL z0 1 (fsZ.take k)) 1 (fsI[k]'hk).toInt := by
      rw [List.take_add_one, ptL_app, ptL_1]
      have : fsZ[k]? = some (fsI[k]'hk).toInt := by
        unfold fsZ
        rw [List.getElem?_map, List.getElem?_eq_getElem hk]
        rfl
      rw [this]
      rfl
    rw [hc, eT, bX11_init_179]
    simp only [g1, ob_s, eL, i3_le (a := (fsI.length : Int)) (b := (k : Int)) (by omega) (by omega) (by omega) (by omega), q, if_false, bX11_init_188, r11_0, ei, ek, e2, bV_v, i3_add])
  have e0 : jm_R (jm_env (d + 2)) jmM_X11_init 179 [some (.ref 0), some (.int (i3 0))] [] (qM X z0 z0 0 c s) = jm_R (jm_env (d + 2)) jmM_X11_init 179 [some (.ref 0), some (.int (i3 (fsI.length : Nat)))] [] (qM X (ptL z0 1 (fsZ.take fsI.length)) z0 0 c s) := hl
  have eL : (Int32.ofNat fsI.length) = i3 (fsI.length : Int) := rfl
  have q : ((fsI.length : Int) ≤ (fsI.length : Int)) = True := eq_true (Int.le_refl _)
  rw [e0, ← hn, List.take_length, hn, bX11_init_179]
  simp only [g1, ob_s, eL, i3_le (a := (fsI.length : Int)) (b := (fsI.length : Int)) (by omega) (by omega) (by omega) (by omega), q, if_true]
  rfl
end ING2
