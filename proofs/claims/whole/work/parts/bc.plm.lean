-- uses 24.zar 25.obj 26.ops 31.re 34.gen 38.mod 39.mo2 40.mo3 44.mo6 46.mo8 53.cla 62.clj 64.okm 93.tka 96.srd 97.srp a2.rfa a3.rfb a4.rfc a5.rfd b0.pla b7.plh b8.pli b9.plj ba.plk bb.pll
/-! The reference goes through a script for the first time. -/
/-- where the first going through stands -/
def sP (w : Nat → Int → Int) (dep tot : Nat) : Prop := w 411 27 = 0 ∧ w 411 28 = 0 ∧ w 411 29 = (tot : Int) ∧ w 411 30 = (dep : Int) ∧ w 411 31 = 0
theorem sP_T {w w' : Nat → Int → Int} {dep tot : Nat} (h : sP w dep tot) (hf : frT w' w) : sP w' dep tot := ⟨(hf 411 27 (by omega)).trans h.1, (hf 411 28 (by omega)).trans h.2.1, (hf 411 29 (by omega)).trans h.2.2.1, (hf 411 30 (by omega)).trans h.2.2.2.1, (hf 411 31 (by omega)).trans h.2.2.2.2⟩
theorem pO_kd {b : Int → Int} {p : Nat} (h : kw b p ≠ -1) : kd b p = 1 := by
  unfold kw at h
  split at h
  · next q => exact q.1
  · split at h
    · next q => exact q.1
    · split at h
      · next q => exact q.1
      · split at h
        · next q => exact q.1
        · split at h
          · next q => exact q.1
          · split at h
            · next q => exact q.1
            · exact absurd rfl h
section PLM
variable {d : Nat} {X : Nat × (Nat → Int32)} {v : Nat → Int → Int} {T c s : Nat}
variable {b : Int → Int} {n : Nat}
/-- the loop of the first going through -/
noncomputable def lpP (d : Nat) (X : Nat × (Nat → Int32)) (v w : Nat → Int → Int) (T c s : Nat) : Option jm_Res := jm_R (jm_env (d + 11)) jmM_X12_goesThrough 29 [some (.ref 411), some (.int (i3 0))] [] (qM X v w T c s)
def oP (d : Nat) (X : Nat × (Nat → Int32)) (v w : Nat → Int → Int) (T c s : Nat) (b : Int → Int) (n dep tot : Nat) (r : oR) : Prop :=
  (∀ e, r = .inl e → ∃ w', lpP d X v w T c s = some (.inl none, qM X v w' T c s) ∧ BD w' b n e.1 e.2 ∧ frP w' w) ∧
  (∀ u, r = .inr u → ∃ w', lpP d X v w T c s = lpP d X v w' T c s ∧ GD w' b n u.1 ∧ sP w' dep (tot + u.2.length) ∧ frP w' w)
theorem oP_l {w : Nat → Int → Int} {dep tot : Nat} {cd : Int} {q : Nat} (h : ∃ w', lpP d X v w T c s = some (.inl none, qM X v w' T c s) ∧ BD w' b n cd q ∧ frP w' w) : oP d X v w T c s b n dep tot (.inl (cd, q)) := ⟨fun e he => (by cases he; exact h), fun u hu => (by cases hu)⟩
theorem oP_r {w : Nat → Int → Int} {dep tot : Nat} {u : Nat × List oE} (h : ∃ w', lpP d X v w T c s = lpP d X v w' T c s ∧ GD w' b n u.1 ∧ sP w' dep (tot + u.2.length) ∧ frP w' w) : oP d X v w T c s b n dep tot (.inr u) := ⟨fun e he => (by cases he), fun u hu => (by cases hu; exact h)⟩
/-- an order that is wrong ends the loop -/
theorem oP_bad {w w1 : Nat → Int → Int} {cd : Int} {q : Nat} (hT : 18 ≤ T) (h : lpP d X v w T c s = lpP d X v w1 T c s) (hb : BD w1 b n cd q) (h28 : w1 411 28 = 0) (hf : frP w1 w) : ∃ w', lpP d X v w T c s = some (.inl none, qM X v w' T c s) ∧ BD w' b n cd q ∧ frP w' w :=
  ⟨w1, h.trans (sX12_loop_bad (d := d + 10) hT hb h28), hb, hf⟩
theorem sX12_first {m : Int} (hT : 18 ≤ T) (ho : okM v m) (hnm : nmOk v) : ∀ (f dep tot p : Nat) (w : Nat → Int → Int), GD w b n p → sP w dep tot → dep ≤ 3 → tot ≤ 30 → 31 ≤ f + tot → oP d X v w T c s b n dep tot (pO b (nmF v) f dep tot p) := by
  intro f
  induction f with
  | zero => intro dep tot p w h hs hd ht hf; omega
  | succ f ih =>
    intro dep tot p w h hs hd ht hf
    obtain ⟨h27, h28, h29, h30, h31⟩ := hs
    have hok := h.1.1.1
    have hpn := h.1.2.1
    have b1 := (nx_b hok hpn).2
    have b2 := (nx_b hok b1).2
    have b3 := (nx_b hok b2).2
    have hkb := kw_b b p
    unfold pO
    by_cases q0 : (dep = 0 ∧ kd b p = 0) ∨ (dep ≠ 0 ∧ isG b p 41)
    · rw [if_pos q0]
      exact oP_r ⟨w, rfl, h, ⟨h27, h28, h29, h30, h31⟩, frP_id⟩
    rw [if_neg q0]
    by_cases q1 : kw b p = -1
    · rw [if_pos q1]
      apply oP_l
      by_cases q2 : kd b p = 0
      · obtain ⟨w', x1, x2, x3⟩ := (sX12_loop_end (d := d + 10) (X := X) (v := v) (T := T) (c := c) (s := s) (g := 0) hT h h28 h30 (by omega) (by omega) q2).2 (by omega)
        exact ⟨w', x1, x2, x3.p⟩
      · by_cases q3 : isG b p 41
        · have hd0 : dep = 0 := Classical.byContradiction fun q => q0 (Or.inr ⟨q, q3⟩)
          obtain ⟨w', x1, x2, x3⟩ := sX12_closes_0 (d := d + 5) (X := X) (v := v) (T := T) (c := c) (s := s) hT h (by rw [h30, hd0]; rfl)
          exact oP_bad hT (sX12_loop_c (d := d + 10) hT h h28 q3 x1) x2 ((x3 411 28 (by omega)).trans h28) x3.p
        · obtain ⟨w', x1, x2, x3⟩ := sX12_orderText_e (d := d + 1) (X := X) (v := v) (T := T) (c := c) (s := s) hT h h27 h29 h30 (by omega) (by omega) (by omega) (by omega) q1
          exact oP_bad hT (sX12_loop_o (d := d + 10) hT h h28 q3 q2 x1) x2 ((x3 411 28 (by omega) (by omega) (by omega)).trans h28) x3
    rw [if_neg q1]
    have hkd := pO_kd q1
    have n41 : ¬ isG b p 41 := fun q => by have := q.1; omega
    have n0 : kd b p ≠ 0 := by omega
    by_cases q2 : 30 ≤ tot ∨ (kw b p = 5 ∧ 3 ≤ dep)
    · rw [if_pos q2]
      apply oP_l
      obtain ⟨w', x1, x2, x3⟩ := sX12_orderText_f (d := d + 1) (X := X) (v := v) (T := T) (c := c) (s := s) hT h h27 h29 h30 (by omega) (by omega) (by omega) (by omega) q1 (by omega)
      exact oP_bad hT (sX12_loop_o (d := d + 10) hT h h28 n41 n0 x1) x2 ((x3 411 28 (by omega) (by omega) (by omega)).trans h28) x3
    rw [if_neg q2]
    have hh := sX12_orderText_h (d := d + 1) (X := X) (v := v) (T := T) (c := c) (s := s) hT h (Or.inl rfl) h27 (fun _ => h29) h30 (by omega) (by omega) (by omega) (by omega) q1 ⟨fun _ => by omega, fun q => by omega⟩
    rw [if_pos rfl] at hh
    have g1 : GD (up w 411 29 ((tot : Int) + 1)) b n p := GD_u h (by omega)
    have u27 : up w 411 29 ((tot : Int) + 1) 411 27 = 0 := by rw [up_ne (by omega)]; exact h27
    have u28 : up w 411 29 ((tot : Int) + 1) 411 28 = 0 := by rw [up_ne (by omega)]; exact h28
    have u30 : up w 411 29 ((tot : Int) + 1) 411 30 = dep := by rw [up_ne (by omega)]; exact h30
    have u31 : up w 411 29 ((tot : Int) + 1) 411 31 = 0 := by rw [up_ne (by omega)]; exact h31
    have u29 : up w 411 29 ((tot : Int) + 1) 411 29 = ((tot + 1 : Nat) : Int) := by rw [up_eq]; omega
    have fu : frP (up w 411 29 ((tot : Int) + 1)) w := frP_u (by omega)
    generalize up w 411 29 ((tot : Int) + 1) = w0 at *
    by_cases q5 : kw b p = 5
    · rw [if_pos q5]
      rw [if_pos q5] at hh
      obtain ⟨a1, a2, a3⟩ := sX12_orderText_a (d := d + 1) (X := X) (v := v) (T := T) (c := c) (s := s) hT g1 u30 (by omega) (by omega)
      by_cases q6 : isN b (nx b p) 1 20
      · rw [if_pos q6]
        by_cases q7 : isG b (nx b (nx b p)) 40
        · rw [if_pos q7]
          obtain ⟨w1, x1, x2, x3⟩ := a3 q6 q7
          have gi : GD (up (up (up w1 411 30 ((dep : Int) + 1)) 422 dep (nx b (nx b (nx b p)) : Nat)) 423 dep (nv b (nx b p))) b n (nx b (nx b (nx b p))) := GD_a (GD_a (GD_u x2 (by omega)) (Or.inl rfl)) (Or.inr rfl)
          have si : sP (up (up (up w1 411 30 ((dep : Int) + 1)) 422 dep (nx b (nx b (nx b p)) : Nat)) 423 dep (nv b (nx b p))) (dep + 1) (tot + 1) := by
            refine ⟨?_, ?_, ?_, ?_, ?_⟩
            · rw [up_ne (by omega), up_ne (by omega), up_ne (by omega), x3 411 27 (by omega)]; exact u27
            · rw [up_ne (by omega), up_ne (by omega), up_ne (by omega), x3 411 28 (by omega)]; exact u28
            · rw [up_ne (by omega), up_ne (by omega), up_ne (by omega), x3 411 29 (by omega)]; exact u29
            · rw [up_ne (by omega), up_ne (by omega), up_eq]; omega
            · rw [up_ne (by omega), up_ne (by omega), up_ne (by omega), x3 411 31 (by omega)]; exact u31
          have fi : frP (up (up (up w1 411 30 ((dep : Int) + 1)) 422 dep (nx b (nx b (nx b p)) : Nat)) 423 dep (nv b (nx b p))) w := fun m k m1 m2 hk => by
            rw [up_ne (by omega), up_ne (by omega), up_ne (by omega), x3 m k (by omega)]
            exact fu m k m1 m2 hk
          have hl := sX12_loop_o (d := d + 10) (g := 0) hT h h28 n41 n0 (hh.trans x1)
          generalize up (up (up w1 411 30 ((dep : Int) + 1)) 422 dep (nx b (nx b (nx b p)) : Nat)) 423 dep (nv b (nx b p)) = wi at *
          have hi := ih (dep + 1) (tot + 1) _ wi gi si (by omega) (by omega) (by omega)
          rcases e1 : pO b (nmF v) f (dep + 1) (tot + 1) (nx b (nx b (nx b p))) with e | r
          · dsimp only
            obtain ⟨w', y1, y2, y3⟩ := hi.1 e e1
            exact oP_l ⟨w', hl.trans y1, y2, frP_tr y3 fi⟩
          · dsimp only
            obtain ⟨w', y1, y2, y3, y4⟩ := hi.2 r e1
            obtain ⟨z1, z2, z3, z4⟩ := pO_s hok (nmF_c ho.1.1) _ _ _ _ _ b3 (by omega) e1
            have z5 : isG b r.1 41 := by
              rcases z4 with ⟨q, -⟩ | ⟨-, q⟩
              · omega
              · exact q
            obtain ⟨s27, s28, s29, s30, s31⟩ := y3
            obtain ⟨c1, c2⟩ := sX12_closes_1 (d := d + 5) (X := X) (v := v) (T := T) (c := c) (s := s) (dep := dep) hT y2 (Or.inl rfl) s27 (by rw [s30]; omega) (by omega) (by omega) (fun q => by omega)
            have fd : ∀ w3 : Nat → Int → Int, frT w3 (up (up w' 423 dep (w' 423 dep - 1)) 411 30 dep) → frP w3 w := fun w3 hw m k m1 m2 hk => by
              rw [hw m k (by omega), up_ne (by omega), up_ne (by omega), y4 m k m1 m2 hk]
              exact fi m k m1 m2 hk
            by_cases q8 : isG b (nx b r.1) 59
            · rw [if_pos q8]
              obtain ⟨w3, t1, t2, t3⟩ := c1 q8
              have sn : sP w3 dep (tot + 1 + r.2.length) := by
                refine ⟨?_, ?_, ?_, ?_, ?_⟩
                · rw [t3 411 27 (by omega), up_ne (by omega), up_ne (by omega)]; exact s27
                · rw [t3 411 28 (by omega), up_ne (by omega), up_ne (by omega)]; exact s28
                · rw [t3 411 29 (by omega), up_ne (by omega), up_ne (by omega)]; exact s29
                · rw [t3 411 30 (by omega), up_eq]
                · rw [t3 411 31 (by omega), up_ne (by omega), up_ne (by omega)]; exact s31
              have hl2 := hl.trans (y1.trans (sX12_loop_c (d := d + 10) (g := 0) hT y2 s28 z5 t1))
              have hi2 := ih dep (tot + 1 + r.2.length) _ w3 t2 sn hd (by omega) (by omega)
              rcases e2 : pO b (nmF v) f dep (tot + 1 + r.2.length) (nx b (nx b r.1)) with e | t
              · dsimp only
                obtain ⟨w4, k1, k2, k3⟩ := hi2.1 e e2
                exact oP_l ⟨w4, hl2.trans k1, k2, frP_tr k3 (fd w3 t3)⟩
              · dsimp only
                obtain ⟨w4, k1, k2, k3, k4⟩ := hi2.2 t e2
                refine oP_r ⟨w4, hl2.trans k1, k2, ?_, frP_tr k4 (fd w3 t3)⟩
                simp only [List.length_cons, List.length_append]
                rw [show tot + (r.2.length + t.2.length + 1) = tot + 1 + r.2.length + t.2.length by omega]
                exact k3
            · rw [if_neg q8]
              obtain ⟨w3, t1, t2, t3⟩ := c2 q8
              refine oP_l (oP_bad hT (hl.trans (y1.trans (sX12_loop_c (d := d + 10) (g := 0) hT y2 s28 z5 t1))) t2 ?_ (fd w3 t3))
              rw [t3 411 28 (by omega), up_ne (by omega), up_ne (by omega)]; exact s28
        · rw [if_neg q7]
          obtain ⟨w1, x1, x2, x3⟩ := a2 q6 q7
          exact oP_l (oP_bad hT (sX12_loop_o (d := d + 10) (g := 0) hT h h28 n41 n0 (hh.trans x1)) x2 ((x3 411 28 (by omega)).trans u28) (frP_tr x3.p fu))
      · rw [if_neg q6]
        obtain ⟨w1, x1, x2, x3⟩ := a1 q6
        exact oP_l (oP_bad hT (sX12_loop_o (d := d + 10) (g := 0) hT h h28 n41 n0 (hh.trans x1)) x2 ((x3 411 28 (by omega)).trans u28) (frP_tr x3.p fu))
    · rw [if_neg q5]
      rw [if_neg q5] at hh
      have hO := sX12_orderText_o (d := d) (X := X) (v := v) (T := T) (c := c) (s := s) (D := 0) hT g1 ho hnm (Or.inl rfl) u27 u28 u31 (by omega) (by omega) (by omega) (by omega) (fun q => by omega)
      have hl := fun (m' : jm_Mem) (hm' : jm_R (jm_env (d + 10)) jmM_X12_orderText 83 [some (.ref 411), some (.int (i3 0)), none, none] [] (qM X v w0 T c s) = some (.inl none, m')) => sX12_loop_o (d := d + 10) (g := 0) hT h h28 n41 n0 (hh.trans hm')
      rcases e1 : aO b (nmF v) (kw b p) (nx b p) with e | r
      · rw [e1] at hO
        obtain ⟨w1, x1, x2, x3⟩ := hO.1 e rfl
        exact oP_l (oP_bad hT (hl _ x1) x2 ((x3 411 28 (by omega)).trans u28) (frP_tr x3.p fu))
      · rw [e1] at hO
        dsimp only
        by_cases q8 : isG b r.1 59
        · rw [if_pos q8]
          obtain ⟨w1, x1, x2, x3⟩ := hO.2.1 (nx b r.1, r.2) (if_pos q8) rfl
          have sn : sP w1 dep (tot + 1) := sP_T ⟨u27, u28, u29, u30, u31⟩ x3
          have hi2 := ih dep (tot + 1) _ w1 x2 sn hd (by omega) (by omega)
          rcases e2 : pO b (nmF v) f dep (tot + 1) (nx b r.1) with e | t
          · dsimp only
            obtain ⟨w4, k1, k2, k3⟩ := hi2.1 e e2
            exact oP_l ⟨w4, (hl _ x1).trans k1, k2, frP_tr k3 (frP_tr x3.p fu)⟩
          · dsimp only
            obtain ⟨w4, k1, k2, k3, k4⟩ := hi2.2 t e2
            refine oP_r ⟨w4, (hl _ x1).trans k1, k2, ?_, frP_tr k4 (frP_tr x3.p fu)⟩
            simp only [List.length_cons]
            rw [show tot + (t.2.length + 1) = tot + 1 + t.2.length by omega]
            exact k3
        · rw [if_neg q8]
          obtain ⟨w1, x1, x2, x3⟩ := hO.1 (1, r.1) (if_neg q8)
          exact oP_l (oP_bad hT (hl _ x1) x2 ((x3 411 28 (by omega)).trans u28) (frP_tr x3.p fu))
end PLM
