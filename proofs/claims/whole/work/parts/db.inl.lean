-- uses 24.zar 25.obj 26.ops 27.ra 28.rb 29.rc 30.rd 31.re 32.rf 33.rg 34.gen 35.byt 36.ser 37.lnd 38.mod 39.mo2 40.mo3 44.mo6 45.mo7 46.mo8 51.moe 53.cla 62.clj 64.okm 65.cll 72.clq 73.clr 75.wra 76.wrb 80.wrf 88.ovr 89.rsa 93.tka 94.tkb 96.srd 97.srp a0.srr a1.srs a8.ldp c0.foa d0.ina d1.inb d2.inc d3.ind d4.ine d5.inf d6.ing d7.inh d8.ini d9.inj da.ink
/-! Where the law begins. -/
theorem mk_qM {X : Nat × (Nat → Int32)} {v w : Nat → Int → Int} {T c s k : Nat} {f : jm_Mem → Option jm_Res} (h : pl_q v w (411 + T) = fun _ => 0) (hT : T < 1000) : jm_mk (qM X v w T c s) (pl_e (pl_sh (411 + T)) (fun _ => 0)) k f = f (qM X v w (T + 1) (c + 1) (s + k)) := by
  unfold jm_mk
  rw [if_pos (show (qM X v w T c s).1 < 1000000 from (by show 411 + T < 1000000; omega))]
  have e : va_up (pl_H X v w (411 + T)) (411 + T) (pl_e (pl_sh (411 + T)) (fun _ => 0)) = pl_H X v w (411 + (T + 1)) := by
    funext n
    unfold va_up pl_H
    by_cases g : n = 411 + T
    · subst g
      rw [if_pos rfl, if_pos (by omega), h]
    · rw [if_neg g]
      by_cases g2 : n < 411 + T
      · rw [if_pos g2, if_pos (by omega)]
      · rw [if_neg g2, if_neg (by omega)]
  show f (411 + T + 1, va_up (pl_H X v w (411 + T)) (411 + T) (pl_e (pl_sh (411 + T)) (fun _ => 0)), c + 1, s + k) = _
  rw [e]
  rfl
theorem fw_q {v w : Nat → Int → Int} {p : Int × Int} {n : Nat} (h : n ≠ 411) : pl_q v (fw w p) n = pl_q v w n := by
  funext k
  unfold pl_q
  rw [fw_ne (by omega)]
theorem arU_b {u : Nat → Int → Int} {m : Nat} (h : m ≠ 412) : arU u m = u m := by unfold arU; rw [up_b h]
theorem v12_lt {v : Nat → Int → Int} {m : Nat} (h : m < 411) : v12 v m = v m := by
  funext k
  exact if_pos h
theorem v12_ge {v : Nat → Int → Int} {m : Nat} (h : 411 ≤ m) : v12 v m = zz1 m := by
  funext k
  exact if_neg (by omega)
theorem zz1_b {m : Nat} (h : m ≠ 411) : zz1 m = fun _ => 0 := by
  funext k
  exact if_neg (by omega)
theorem start {v : Nat → Int → Int} {u : (Nat → Int → Int) × Nat} (e : suP bF (fun _ _ => 0) = .inr u) (hE : eqS u.1 mF) (h55 : v 5 5 = 0) (h56 : v 5 6 = -1) (h11 : v 1 1 = 0) (hL : ldQ v v1F (arU u.1)) (hF : frE v v1F) : gM (yF (v12 v)) ∧ RS (arU (yF (v12 v))) 2 := by
  have hok := TB_F.ok
  obtain ⟨hs, -⟩ := suP_s hok (fun _ _ _ => rfl) (show suP bF (fun _ _ => 0) = .inr (u.1, u.2) from e)
  have h412 : v12 v 412 = fun _ => 0 := by rw [v12_ge (by omega), zz1_b (by omega)]
  have hS : eqS (yF (v12 v)) u.1 := fun k k0 k1 => (yF_S h412 k k0 k1).trans (hE k k0 k1).symm
  have hg : gM (yF (v12 v)) := eqS_g hS hs.1
  refine ⟨hg, ?_⟩
  have hA : eqS (arU (yF (v12 v))) (arU u.1) := fun k k0 k1 => by
    unfold arU
    have e0 := hS 0 (by omega) (by omega)
    have c5 := hs.1.2.1
    by_cases g : k = 4
    · rw [g, up_eq, up_eq, e0, hS.area (by omega)]
    · rw [up_ne (by omega), up_ne (by omega)]
      exact hS k k0 k1
  have hok2 := okM_ar (m := 2) hs (Int.le_refl _)
  obtain ⟨l1, l2, l3, l4, l5⟩ := hL
  have b : ∀ m : Nat, m < 411 → arU (yF (v12 v)) m = v m := fun m hm => by rw [arU_b (by omega), yF_b (by omega), v12_lt hm]
  have z : ∀ m : Nat, 411 < m → m ≠ 412 → arU (yF (v12 v)) m = fun _ => 0 := fun m hm h4 => by rw [arU_b h4, yF_b h4, v12_ge (by omega), zz1_b (by omega)]
  have z11 : ∀ k : Int, arU (yF (v12 v)) 411 k = if k = 25 then -1 else 0 := fun k => by
    rw [arU_b (by omega), yF_b (by omega), v12_ge (by omega)]
    unfold zz1
    by_cases g : k = 25
    · rw [if_pos ⟨rfl, g⟩, if_pos g]
    · rw [if_neg (fun q => g q.2), if_neg g]
  have e78 : v1F 78 1 = 0 := by
    have : v1F 78 = z0 78 := ptL_o (by omega) (by omega)
    rw [this]
    rfl
  have e3 : v 3 1 = 0 := by
    rw [hF 3 (by omega) (by omega) (by omega) (by omega) (by omega)]
    have : v1F 3 = z0 3 := ptL_o (by omega) (by omega)
    rw [this]
    rfl
  have a7 : arU (yF (v12 v)) 411 7 = 0 := by rw [z11, if_neg (by omega)]
  refine ⟨⟨?_, hA.ok hok2, ⟨⟨?_, ?_, ?_, ?_, ?_⟩, fun j j0 j1 => ?_⟩, fun k k0 k1 => ?_⟩, TXr_0 ?_ ?_, ⟨?_, ?_, fun k k0 k1 => ?_⟩, ⟨?_, ?_⟩, fun j j0 j1 => ⟨?_, ?_, fun q => ?_⟩⟩
  · exact hA.lr hok2.1.2.1 hok2.2.2.2.1.2.1 (lr_fr (fun n n0 n1 => b n (by omega)) hok2.1.2.1 l1)
  · rw [b 78 (by omega), l2, a7]
  · omega
  · omega
  · rw [b 78 (by omega), l3, e78]; omega
  · rw [b 78 (by omega), l3, e78]; omega
  · rw [a7] at j1; omega
  · rw [b 338 (by omega), l4 k k0 k1, z 418 (by omega) (by omega)]
  · rw [b 1 (by omega)]; exact h11
  · rw [z11, if_neg (by omega)]
  · rw [b 3 (by omega), e3, z11, if_neg (by omega)]
  · rw [b 3 (by omega), e3]; omega
  · rw [b 3 (by omega), e3] at k1; omega
  · rw [b 5 (by omega), h55, z11, if_neg (by omega)]
  · rw [b 5 (by omega), h56, z11, if_pos rfl]
  · rw [b 337 (by omega), l5 j j0 j1, z 417 (by omega) (by omega)]
  · rw [z 417 (by omega) (by omega)]; exact Or.inl rfl
  · rw [z 417 (by omega) (by omega)] at q; exact absurd (show (0 : Int) = 1 from q) (by decide)
theorem law_start {L : Nat} {xs : Nat → Int32} : ∃ v w, RS v 2 ∧ jm_env 60 0 [.ref jm_scr] (0, fun n => if n = jm_scr then .inl (8, L, .inl xs) else if jm_str ≤ n ∧ n < jm_str + 10 then jm_sE (n - jm_str) else jm_bad, 0, 0) = jm_R (jm_env 59) jmM_L_law 28 [some (.ref jm_scr), some (.ref 0), some (.ref 411), some (.ref 429), some (.ref 430), some (.int (i3 0)), none, none, none] [] (qM (L, xs) v w 20 431 10779) := by
  obtain ⟨v, w, u, x1, x2, x3, x4, x5, x6, x7, x8⟩ := iX11 (X := (L, xs)) (c := 1) (s := 14) (d := 47)
  obtain ⟨hg, hR⟩ := start x2 x3 x4 x5 x6 x7 x8
  obtain ⟨p, e2⟩ := iX12_b (X := (L, xs)) (u := v12 v) (w := w12 w) (c := 1 + 410 + 1 + 17) (s := 14 + 5429 + 44 + 5290) (d := 54) (by rw [v12_ge (by omega), zz1_b (by omega)]) hg
  refine ⟨arU (yF (v12 v)), fw (w12 w) p, hR, ?_⟩
  have hq : ∀ n : Nat, 412 < n → pl_q (arU (yF (v12 v))) (fw (w12 w) p) n = fun _ => 0 := fun n hn => by
    rw [fw_q (by omega)]
    have : pl_q (arU (yF (v12 v))) (w12 w) n = pl_q (v12 v) (w12 w) n := by
      funext k
      unfold pl_q
      rw [arU_b (by omega), yF_b (by omega)]
    rw [this, v12_q (by omega), zz1_b (by omega)]
  have m1 := fun (f : jm_Mem → Option jm_Res) => mk_qM (X := (L, xs)) (v := arU (yF (v12 v))) (w := fw (w12 w) p) (T := 18) (c := 1 + 410 + 1 + 17) (s := 14 + 5429 + 44 + 5290) (k := 1) (f := f) (hq 429 (by omega)) (by omega)
  have m2 := fun (f : jm_Mem → Option jm_Res) => mk_qM (X := (L, xs)) (v := arU (yF (v12 v))) (w := fw (w12 w) p) (T := 19) (c := 1 + 410 + 1 + 17 + 1) (s := 14 + 5429 + 44 + 5290 + 1) (k := 1) (f := f) (hq 430 (by omega)) (by omega)
  have m1' : ∀ f, jm_mk (qM (L, xs) (arU (yF (v12 v))) (fw (w12 w) p) 18 (1 + 410 + 1 + 17) (14 + 5429 + 44 + 5290)) (.inl (2, 1, .inr (.inl fun _ => 0))) 1 f = f (qM (L, xs) (arU (yF (v12 v))) (fw (w12 w) p) 19 (1 + 410 + 1 + 17 + 1) (14 + 5429 + 44 + 5290 + 1)) := m1
  have m2' : ∀ f, jm_mk (qM (L, xs) (arU (yF (v12 v))) (fw (w12 w) p) 19 (1 + 410 + 1 + 17 + 1) (14 + 5429 + 44 + 5290 + 1)) (.inl (3, 1, .inr (.inr (.inr (.inl fun _ => 0))))) 1 f = f (qM (L, xs) (arU (yF (v12 v))) (fw (w12 w) p) 20 (1 + 410 + 1 + 17 + 1 + 1) (14 + 5429 + 44 + 5290 + 1 + 1)) := m2
  show jm_env (59 + 1) 0 [.ref jm_scr] (lM (L, xs) [] 0 0) = _
  rw [eL_law, bL_law_0, lM_mk (by simp)]
  have n0 : (lM (L, xs) [] 0 0).1 = 0 := rfl
  have x1' : jm_env 59 136 [.ref 0] (lM (L, xs) ([] ++ [.inr (11, [.null, .null, .null, .null, .null, .null, .null, .null, .null, .null, .null, .null, .null, .int 0])]) (0 + 1) (0 + 14)) = some (.inl none, lM (L, xs) (lRm v w) (1 + 410) (14 + 5429)) := by
    rw [← qM_lR]
    exact x1
  rw [n0, x1']
  simp only [ob_s, bV_v]
  rw [lM_mk (by rw [lRm_n]; omega)]
  have n1 : (lM (L, xs) (lRm v w) (1 + 410) (14 + 5429)).1 = 411 := lRm_n
  have y1 := iX12_a (X := (L, xs)) (l := lRm v w) (c := 1 + 410 + 1) (s := 14 + 5429 + 44) (d := 58) lRm_n
  rw [two_qM] at y1
  have y2 := y1.trans e2
  have y2' : jm_env 59 204 [.ref 411] (lM (L, xs) (lRm v w ++ [.inr (12, [.null, .null, .null, .null, .null, .null, .null, .int 0, .int 0, .int 0, .int 0, .int 0, .int 0, .null, .null, .null, .int 0, .int 0, .int 0, .int 0, .int 0, .int 0, .int 0, .int 0, .int 0, .int 0, .long 0, .int 0, .int 0, .int 0, .int 0, .int 0, .null, .null, .int 0, .int 0, .null, .int 0, .int 0, .null, .null, .null, .null, .int 0])]) (1 + 410 + 1) (14 + 5429 + 44)) = some (.inl none, qM (L, xs) (arU (yF (v12 v))) (fw (w12 w) p) 18 (1 + 410 + 1 + 17) (14 + 5429 + 44 + 5290)) := y2
  rw [n1, y2']
  simp only [ob_s, bV_v]
  rw [m1', m2']
  rfl
