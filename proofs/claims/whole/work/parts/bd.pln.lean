-- uses 24.zar 25.obj 26.ops 31.re 34.gen 38.mod 39.mo2 40.mo3 44.mo6 46.mo8 53.cla 62.clj 64.okm 93.tka 96.srd 97.srp a2.rfa a3.rfb a4.rfc a5.rfd b0.pla b7.plh b8.pli b9.plj ba.plk bb.pll bc.plm
/-! The reference goes through a script for the second time, and does it. -/
theorem rnL_5 {f dep : Nat} {k : Int} {M R : List oE} (hd : dep < 3) (st : oSt) : rnL (f + 1) dep ((5, k, 0, 0, M.length) :: (M ++ R)) st = if (itL (rnL f (dep + 1) M) k.toNat st).2 = true then rnL f dep R (itL (rnL f (dep + 1) M) k.toNat st).1 else itL (rnL f (dep + 1) M) k.toNat st := by
  conv => lhs; unfold rnL
  rw [if_pos (show ((5, k, 0, 0, M.length) : oE).1 = 5 from rfl)]
  show (if 3 ≤ dep ∨ ∀ x ∈ (M ++ R).take M.length, x.1 = 5 then rnL f dep ((M ++ R).drop M.length) st else if (itL (rnL f (dep + 1) ((M ++ R).take M.length)) k.toNat st).2 = true then rnL f dep ((M ++ R).drop M.length) (itL (rnL f (dep + 1) ((M ++ R).take M.length)) k.toNat st).1 else itL (rnL f (dep + 1) ((M ++ R).take M.length)) k.toNat st) = _
  rw [List.take_left, List.drop_left]
  by_cases g : ∀ x ∈ M, x.1 = 5
  · rw [if_pos (Or.inr g), itL_id (fun st => rnL_id f (dep + 1) M g st), if_pos rfl]
  · rw [if_neg (by
      rintro (q | q)
      · omega
      · exact g q)]
theorem rnL_o {f dep : Nat} {e : oE} {l : List oE} (h5 : e.1 ≠ 5) (h0 : e.2.2.2.2 = 0) (st : oSt) : rnL (f + 1) dep (e :: l) st = if (oV st.1 e).1 < -1 then (((oV st.1 e).2, st.2), false) else if 40 ≤ st.2 + 1 then (((oV st.1 e).2, st.2 + 1), false) else rnL f dep l ((oV st.1 e).2, st.2 + 1) := by
  conv => lhs; unfold rnL
  rw [if_neg h5, h0, List.drop_zero]
/-- where the second going through stands -/
def sQ (w : Nat → Int → Int) (dep : Nat) (D : Int) : Prop := w 411 27 = 1 ∧ w 411 28 = 0 ∧ w 411 30 = (dep : Int) ∧ w 411 31 = D
def frR (dep : Nat) (w' w : Nat → Int → Int) : Prop := (∀ (m : Nat) (k : Int), m ≠ 419 → m ≠ 422 → m ≠ 423 → (m ≠ 411 ∨ k < 9 ∨ (12 < k ∧ k < 18) ∨ (23 < k ∧ k ≠ 26 ∧ k ≠ 28 ∧ k ≠ 30 ∧ k ≠ 31)) → w' m k = w m k) ∧ ∀ k : Int, k < dep → w' 422 k = w 422 k ∧ w' 423 k = w 423 k
theorem frR_id {dep : Nat} {w : Nat → Int → Int} : frR dep w w := ⟨fun _ _ _ _ _ _ => rfl, fun _ _ => ⟨rfl, rfl⟩⟩
theorem frR_tr {dep dep' : Nat} {w w' w'' : Nat → Int → Int} (h : frR dep' w'' w') (g : frR dep w' w) (hd : dep ≤ dep') : frR dep w'' w := ⟨fun m k a b c e => (h.1 m k a b c e).trans (g.1 m k a b c e), fun k hk => ⟨((h.2 k (by omega)).1).trans (g.2 k hk).1, ((h.2 k (by omega)).2).trans (g.2 k hk).2⟩⟩
theorem frC.r {dep : Nat} {w w' : Nat → Int → Int} (h : frC w' w) : frR dep w' w := ⟨fun m k a _ _ e => h m k a (by omega), fun k _ => ⟨h 422 k (by omega) (by omega), h 423 k (by omega) (by omega)⟩⟩
section PLN
variable {d : Nat} {X : Nat × (Nat → Int32)} {T c s : Nat}
variable {b : Int → Int} {n : Nat}
noncomputable def lpQ (d : Nat) (X : Nat × (Nat → Int32)) (v w : Nat → Int → Int) (T c s : Nat) : Option jm_Res := jm_R (jm_env (d + 11)) jmM_X12_goesThrough 29 [some (.ref 411), some (.int (i3 1))] [] (qM X v w T c s)
def oQ (d : Nat) (X : Nat × (Nat → Int32)) (v w : Nat → Int → Int) (T c s : Nat) (b : Int → Int) (n dep p' : Nat) (B c0 : Int) (N : Int → Int) (r : oSt × Bool) : Prop :=
  (r.2 = true → ∃ w', lpQ d X v w T c s = lpQ d X r.1.1 w' T c s ∧ GD w' b n p' ∧ sQ w' dep r.1.2 ∧ 0 ≤ r.1.2 ∧ r.1.2 < 40 ∧ oI r.1.1 (B + r.1.2) c0 N ∧ frR dep w' w) ∧
  (r.2 = false → ∃ w', lpQ d X v w T c s = some (.inl none, qM X r.1.1 w' T c s) ∧ w' 411 31 = r.1.2 ∧ frR dep w' w)
theorem oQ_tr {v w v1 w1 : Nat → Int → Int} {dep p' : Nat} {B c0 : Int} {N : Int → Int} {r : oSt × Bool} (h : lpQ d X v w T c s = lpQ d X v1 w1 T c s) (hf : frR dep w1 w) (g : oQ d X v1 w1 T c s b n dep p' B c0 N r) : oQ d X v w T c s b n dep p' B c0 N r := by
  refine ⟨fun q => ?_, fun q => ?_⟩
  · obtain ⟨w', a1, a2, a3, a4, a5, a6, a7⟩ := g.1 q
    exact ⟨w', h.trans a1, a2, a3, a4, a5, a6, frR_tr a7 hf (Nat.le_refl _)⟩
  · obtain ⟨w', a1, a2, a3⟩ := g.2 q
    exact ⟨w', h.trans a1, a2, frR_tr a3 hf (Nat.le_refl _)⟩
theorem sX12_second {B c0 : Int} {N : Int → Int} (hT : 18 ≤ T) (hB : 0 ≤ B) : ∀ (f dep tot p : Nat) (u : Nat × List oE), pO b N f dep tot p = .inr u → tot ≤ 30 → dep ≤ 3 → ∀ (v w : Nat → Int → Int) (D : Int), GD w b n p → sQ w dep D → 0 ≤ D → D < 40 → oI v (B + D) c0 N → oQ d X v w T c s b n dep u.1 B c0 N (rnL f dep u.2 (v, D)) := by
  intro f
  induction f with
  | zero => intro dep tot p u hu; exact absurd hu (by simp [pO])
  | succ f ih =>
    intro dep tot p u hu ht hd v w D h hs D0 D1 hI
    obtain ⟨h27, h28, h30, h31⟩ := id hs
    obtain ⟨hI1, hI2, hI3, hI4⟩ := id hI
    have hok := h.1.1.1
    have hpn := h.1.2.1
    have b1 := (nx_b hok hpn).2
    have b2 := (nx_b hok b1).2
    have b3 := (nx_b hok b2).2
    have hkb := kw_b b p
    have hN : ∀ x, N x = -1 ∨ (0 ≤ N x ∧ N x < c0) := fun x => by
      rw [← hI4, ← hI2]
      exact nmF_c hI1.1.1 x
    unfold pO at hu
    by_cases q0 : (dep = 0 ∧ kd b p = 0) ∨ (dep ≠ 0 ∧ isG b p 41)
    · rw [if_pos q0] at hu
      cases hu
      exact ⟨fun _ => ⟨w, rfl, h, hs, D0, D1, hI, frR_id⟩, fun q => absurd q (by simp [rnL])⟩
    rw [if_neg q0] at hu
    by_cases q1 : kw b p = -1
    · rw [if_pos q1] at hu; exact absurd hu (by simp)
    rw [if_neg q1] at hu
    have hkd := pO_kd q1
    have n41 : ¬ isG b p 41 := fun q => by have := q.1; omega
    have n0 : kd b p ≠ 0 := by omega
    by_cases q2 : 30 ≤ tot ∨ (kw b p = 5 ∧ 3 ≤ dep)
    · rw [if_pos q2] at hu; exact absurd hu (by simp)
    rw [if_neg q2] at hu
    have hh := sX12_orderText_h (d := d + 1) (X := X) (v := v) (w := w) (T := T) (c := c) (s := s) (tot := 0) hT h (Or.inr rfl) h27 (fun q => absurd q (by decide)) h30 (by omega) (by omega) (by omega) (by omega) q1 ⟨fun q => by omega, fun q => by omega⟩
    rw [if_neg (by decide : ¬ (1 : Int) = 0)] at hh
    by_cases q5 : kw b p = 5
    · rw [if_pos q5] at hu hh
      have hd3 : dep < 3 := by omega
      by_cases q6 : isN b (nx b p) 1 20
      · rw [if_pos q6] at hu
        by_cases q7 : isG b (nx b (nx b p)) 40
        · rw [if_pos q7] at hu
          rcases e1 : pO b N f (dep + 1) (tot + 1) (nx b (nx b (nx b p))) with e | r
          · rw [e1] at hu; exact absurd hu (by simp)
          · rw [e1] at hu
            dsimp only at hu
            obtain ⟨z1, z2, z3, z4⟩ := pO_s hok hN _ _ _ _ _ b3 (by omega) e1
            have z5 : isG b r.1 41 := by
              rcases z4 with ⟨q, -⟩ | ⟨-, q⟩
              · omega
              · exact q
            by_cases q8 : isG b (nx b r.1) 59
            · rw [if_pos q8] at hu
              rcases e2 : pO b N f dep (tot + 1 + r.2.length) (nx b (nx b r.1)) with e | t
              · rw [e2] at hu; exact absurd hu (by simp)
              · rw [e2] at hu
                dsimp only at hu
                cases hu
                dsimp only
                rw [rnL_5 hd3]
                have hq0n := b3
                have hq0s : sk b (nx b (nx b (nx b p))) = nx b (nx b (nx b p)) := nx_sk hok b2
                obtain ⟨-, -, a3⟩ := sX12_orderText_a (d := d + 1) (X := X) (v := v) (w := w) (T := T) (c := c) (s := s) (dep := dep) hT h h30 (by omega) (by omega)
                obtain ⟨w1, x1, x2, x3⟩ := a3 q6 q7
                have hl := sX12_loop_o (d := d + 10) (g := 1) hT h h28 n41 n0 (hh.trans x1)
                have hnv := q6.2
                generalize hq : nx b (nx b (nx b p)) = q0' at *
                have inner : ∀ (j : Nat), 1 ≤ j → j ≤ 20 → ∀ (v w : Nat → Int → Int) (D : Int), GD w b n q0' → sQ w (dep + 1) D → 0 ≤ D → D < 40 → oI v (B + D) c0 N → w 422 dep = (q0' : Int) → w 423 dep = (j : Int) → oQ d X v w T c s b n dep (nx b (nx b r.1)) B c0 N (itL (rnL f (dep + 1) r.2) j (v, D)) := by
                  intro j
                  induction j with
                  | zero => intro j1; omega
                  | succ j jh =>
                    intro _ j20 v w D h hs D0 D1 hI h422 h423
                    have hi := ih (dep + 1) (tot + 1) q0' r e1 (by omega) (by omega) v w D h hs D0 D1 hI
                    unfold itL
                    by_cases gg : (rnL f (dep + 1) r.2 (v, D)).2 = true
                    · rw [if_pos gg]
                      obtain ⟨w2, y1, y2, ⟨s27, s28, s30, s31⟩, y4, y5, y6, y7⟩ := hi.1 gg
                      have u422 : w2 422 dep = q0' := ((y7.2 dep (by omega)).1).trans h422
                      have u423 : w2 423 dep = ((j + 1 : Nat) : Int) := ((y7.2 dep (by omega)).2).trans h423
                      have s30' : w2 411 30 = (dep : Int) + 1 := by rw [s30]; omega
                      generalize rnL f (dep + 1) r.2 (v, D) = rr at *
                      by_cases j0 : j = 0
                      · subst j0
                        obtain ⟨c1, -⟩ := sX12_closes_1 (d := d + 5) (X := X) (v := rr.1.1) (T := T) (c := c) (s := s) (dep := dep) hT y2 (Or.inr rfl) s27 s30' (by omega) (by omega) (fun _ => u423)
                        obtain ⟨w3, t1, t2, t3⟩ := c1 q8
                        have f3 : frR dep w3 w2 := ⟨fun m k a1 a2 a3 a4 => by rw [t3 m k (by omega), up_ne (by omega), up_ne (by omega)], fun k hk => ⟨by rw [t3 422 k (by omega), up_ne (by omega), up_ne (by omega)], by rw [t3 423 k (by omega), up_ne (by omega), up_ne (by omega)]⟩⟩
                        have hl2 := y1.trans (sX12_loop_c (d := d + 10) (g := 1) hT y2 s28 z5 t1)
                        refine ⟨fun _ => ⟨w3, hl2, t2, ⟨?_, ?_, ?_, ?_⟩, y4, y5, y6, frR_tr f3 ⟨y7.1, fun k hk => y7.2 k (by omega)⟩ (Nat.le_refl _)⟩, fun q => absurd q (by simp [itL])⟩
                        · rw [t3 411 27 (by omega), up_ne (by omega), up_ne (by omega)]; exact s27
                        · rw [t3 411 28 (by omega), up_ne (by omega), up_ne (by omega)]; exact s28
                        · rw [t3 411 30 (by omega), up_eq]
                        · rw [t3 411 31 (by omega), up_ne (by omega), up_ne (by omega)]; exact s31
                      · obtain ⟨w3, t1, t2, t3⟩ := sX12_closes_2 (d := d + 5) (X := X) (v := rr.1.1) (T := T) (c := c) (s := s) (dep := dep) (j := ((j + 1 : Nat) : Int)) hT y2 s27 s30' (by omega) (by omega) u423 (by omega) (by omega) u422 hq0n hq0s
                        have hl2 := y1.trans (sX12_loop_c (d := d + 10) (g := 1) hT y2 s28 z5 t1)
                        have f3 : frR dep w3 w2 := ⟨fun m k a1 a2 a3 a4 => by rw [t3 m k (by omega), up_ne (by omega)], fun k hk => ⟨by rw [t3 422 k (by omega), up_ne (by omega)], by rw [t3 423 k (by omega), up_ne (by omega)]⟩⟩
                        refine oQ_tr hl2 (frR_tr f3 ⟨y7.1, fun k hk => y7.2 k (by omega)⟩ (Nat.le_refl _)) (jh (by omega) (by omega) rr.1.1 w3 rr.1.2 t2 ⟨?_, ?_, ?_, ?_⟩ y4 y5 y6 ?_ ?_)
                        · rw [t3 411 27 (by omega), up_ne (by omega)]; exact s27
                        · rw [t3 411 28 (by omega), up_ne (by omega)]; exact s28
                        · rw [t3 411 30 (by omega), up_ne (by omega)]; exact s30
                        · rw [t3 411 31 (by omega), up_ne (by omega)]; exact s31
                        · rw [t3 422 dep (by omega), up_ne (by omega)]; exact u422
                        · rw [t3 423 dep (by omega), up_eq]; omega
                    · rw [if_neg gg]
                      have gf : (rnL f (dep + 1) r.2 (v, D)).2 = false := by
                        cases hx : (rnL f (dep + 1) r.2 (v, D)).2
                        · rfl
                        · exact absurd hx gg
                      obtain ⟨w2, y1, y2, y3⟩ := hi.2 gf
                      exact ⟨fun q => absurd q gg, fun _ => ⟨w2, y1, y2, y3.1, fun k hk => y3.2 k (by omega)⟩⟩
                have gi : GD (up (up (up w1 411 30 ((dep : Int) + 1)) 422 dep (q0' : Int)) 423 dep (nv b (nx b p))) b n q0' := GD_a (GD_a (GD_u x2 (by omega)) (Or.inl rfl)) (Or.inr rfl)
                have si : sQ (up (up (up w1 411 30 ((dep : Int) + 1)) 422 dep (q0' : Int)) 423 dep (nv b (nx b p))) (dep + 1) D := by
                  refine ⟨?_, ?_, ?_, ?_⟩
                  · rw [up_ne (by omega), up_ne (by omega), up_ne (by omega), x3 411 27 (by omega)]; exact h27
                  · rw [up_ne (by omega), up_ne (by omega), up_ne (by omega), x3 411 28 (by omega)]; exact h28
                  · rw [up_ne (by omega), up_ne (by omega), up_eq]; omega
                  · rw [up_ne (by omega), up_ne (by omega), up_ne (by omega), x3 411 31 (by omega)]; exact h31
                have fi : frR dep (up (up (up w1 411 30 ((dep : Int) + 1)) 422 dep (q0' : Int)) 423 dep (nv b (nx b p))) w := ⟨fun m k m1 m2 m3 hk => by
                  rw [up_ne (by omega), up_ne (by omega), up_ne (by omega), x3 m k (by omega)], fun k hk => ⟨by
                  rw [up_ne (by omega), up_ne (by omega), up_ne (by omega), x3 422 k (by omega)], by
                  rw [up_ne (by omega), up_ne (by omega), up_ne (by omega), x3 423 k (by omega)]⟩⟩
                have hnn : (((nv b (nx b p)).toNat : Nat) : Int) = nv b (nx b p) := by omega
                have hin := oQ_tr hl fi (inner (nv b (nx b p)).toNat (by omega) (by omega) v _ D gi si D0 D1 hI (by rw [up_ne (by omega), up_eq]) (by rw [up_eq]; omega))
                by_cases gg : (itL (rnL f (dep + 1) r.2) (nv b (nx b p)).toNat (v, D)).2 = true
                · rw [if_pos gg]
                  obtain ⟨w3, y1, y2, y3, y4, y5, y6, y7⟩ := hin.1 gg
                  exact oQ_tr y1 y7 (ih dep (tot + 1 + r.2.length) _ t e2 (by omega) hd _ w3 _ y2 y3 y4 y5 y6)
                · rw [if_neg gg]
                  exact ⟨fun q => absurd q gg, hin.2⟩
            · rw [if_neg q8] at hu; exact absurd hu (by simp)
        · rw [if_neg q7] at hu; exact absurd hu (by simp)
      · rw [if_neg q6] at hu; exact absurd hu (by simp)
    · rw [if_neg q5] at hu hh
      rcases e1 : aO b N (kw b p) (nx b p) with e | r
      · rw [e1] at hu; exact absurd hu (by simp)
      · rw [e1] at hu
        dsimp only at hu
        obtain ⟨a1, a2, a3, a4⟩ := aO_s hok hN b1 (by omega) (by omega) e1
        by_cases q8 : isG b r.1 59
        · rw [if_pos q8] at hu
          rcases e2 : pO b N f dep (tot + 1) (nx b r.1) with e | t
          · rw [e2] at hu; exact absurd hu (by simp)
          · rw [e2] at hu
            dsimp only at hu
            cases hu
            dsimp only
            have e1' : aO b (nmF v) (kw b p) (nx b p) = .inr r := by rw [hI4]; exact e1
            have hsg : sgO b (aO b (nmF v) (kw b p) (nx b p)) = .inr (nx b r.1, r.2) := by rw [e1']; exact if_pos q8
            have hO := sX12_orderText_o (d := d) (X := X) (v := v) (w := w) (T := T) (c := c) (s := s) hT h hI1 hI3 (Or.inr rfl) h27 h28 h31 D0 D1 (by omega) (by omega) (fun _ e q => by rw [hsg] at q; cases q)
            rw [hsg] at hO
            obtain ⟨w1, x1, x2, x3, x4, x5⟩ := hO.2.2 (nx b r.1, r.2) rfl rfl
            dsimp only at x1 x2 x4 x5
            have g5 : r.2.1 ≠ 5 := by rw [a3]; exact q5
            have hl := sX12_loop_o (d := d + 10) (g := 1) hT h h28 n41 n0 (hh.trans x1)
            have w27 := (x3 411 27 (by omega) (by omega)).trans h27
            have w30 := (x3 411 30 (by omega) (by omega)).trans h30
            rw [rnL_o g5 a4]
            dsimp only
            by_cases g6 : (oV v r.2).1 < -1
            · rw [if_pos g6]
              rw [if_pos (Or.inl g6)] at x4
              rw [if_pos g6] at x5
              exact ⟨fun q => absurd q Bool.false_ne_true, fun _ => ⟨w1, hl.trans (sX12_loop_over (d := d + 10) hT x2 x4), x5, x3.r⟩⟩
            · rw [if_neg g6]
              rw [if_neg g6] at x5
              by_cases g7 : 40 ≤ D + 1
              · rw [if_pos g7]
                rw [if_pos (Or.inr g7)] at x4
                exact ⟨fun q => absurd q Bool.false_ne_true, fun _ => ⟨w1, hl.trans (sX12_loop_over (d := d + 10) hT x2 x4), x5, x3.r⟩⟩
              · rw [if_neg g7]
                rw [if_neg (by omega)] at x4
                have hI' : oI (oV v r.2).2 (B + (D + 1)) c0 N := by
                  rw [← Int.add_assoc]
                  exact oI_oV hI (by omega) a2 g5
                exact oQ_tr hl x3.r (ih dep (tot + 1) _ t e2 (by omega) hd _ w1 (D + 1) x2 ⟨w27, x4, w30, x5⟩ (by omega) (by omega) hI')
        · rw [if_neg q8] at hu; exact absurd hu (by simp)
end PLN
