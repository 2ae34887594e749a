-- uses 24.zar 25.obj 26.ops 30.rd 31.re 34.gen 35.byt 38.mod 39.mo2 40.mo3 41.bit 42.mo4 43.mo5 44.mo6 45.mo7 46.mo8 47.mo9 48.moa 49.mob 50.moc 51.moe 52.mof 53.cla 54.clb 58.clf 59.clg 60.clh 61.cli 62.clj 63.clk 64.okm 65.cll 66.clm 72.clq 73.clr 80.wrf 87.lst 88.ovr 89.rsa
/-! Both sides: what only asks. -/
theorem cR_an {x : Option jm_Res} {X : Nat × (Nat → Int32)} {v : Nat → Int → Int} {T c s : Nat} {E1 E2 : String} {cd a b : Int} (h : cR x X v T c s E1 E2 cd a) (e : cd = 0 → a = b) : cR x X v T c s E1 E2 cd b :=
  ⟨fun q => by rw [← e q]; exact h.1 q, h.2.1, h.2.2⟩
theorem cd1_p {P : Prop} [Decidable P] (h : cd1 P = 0) : P := by
  unfold cd1 at h
  split at h
  · assumption
  · omega
section RSB
variable {d : Nat} {X : Nat × (Nat → Int32)} {v : Nat → Int → Int} {T : Nat} {n : Int}
theorem rp_count {q : Int} (hR : RS v n) (hT : 18 ≤ T) (hq : isI q) : sIp (fun m => jm_env (d + 10) 148 [.ref 0, .int (i3 q)] m) (fun m => jm_env (d + 11) 296 [.ref 411, .int (i3 q)] m) eIA eIA X v T n :=
  sIp_ask (fun _ _ _ => cX11_count (d := d + 7) hR.1.lo hR.1.2.2.1.1.1 hq) (fun _ _ _ => mX12_count (d := d + 8) hT hR.1.2.1.1 hq) cd1_c hR
theorem rp_letter {i k : Int} (hR : RS v n) (hT : 18 ≤ T) (hi : isI i) (hk : isI k) : sIp (fun m => jm_env (d + 10) 149 [.ref 0, .int (i3 i), .int (i3 k)] m) (fun m => jm_env (d + 11) 299 [.ref 411, .int (i3 i), .int (i3 k)] m) eIB eIB X v T n := by
  have hlo := hR.1.lo
  have hg := hR.1.2.1.1
  refine sIp_ask (cd := cd1 (0 ≤ i ∧ i < v 412 0)) (z := if 0 ≤ k ∧ k < ((v (14 + 7 + 5 * i.toNat) 1).toNat : Int) then v (14 + 7 + 5 * i.toNat + 1) k else -1) (fun _ _ _ => cR_an (cX11_letter (d := d + 7) hlo hi hk) ?_) (fun _ _ _ => mX12_letter (d := d + 8) (f := v (14 + 7 + 5 * i.toNat + 1)) (n := (v (14 + 7 + 5 * i.toNat) 1).toNat) hT hg.1 hg.2.1 hi hk ?_) cd1_c hR
  · intro q
    obtain ⟨g1, g2⟩ := cd1_p q
    obtain ⟨r0, r1, -⟩ := hlo.zn (i := i.toNat) (by omega)
    rw [show ((v (14 + 7 + 5 * i.toNat) 1).toNat : Int) = v (14 + 7 + 5 * i.toNat) 1 by omega]
  · rintro ⟨g1, g2⟩
    obtain ⟨r0, r1, r2, r3⟩ := hlo.zn (i := i.toNat) (by omega)
    rw [Int.toNat_of_nonneg g1] at r3
    exact ⟨r2, by omega, r3⟩
theorem rp_size {i k q : Int} (hR : RS v n) (hT : 18 ≤ T) (hi : isI i) (hk : isI k) (hq : isI q) : sIp (fun m => jm_env (d + 10) 150 [.ref 0, .int (i3 i), .int (i3 k), .int (i3 q)] m) (fun m => jm_env (d + 11) 301 [.ref 411, .int (i3 i), .int (i3 k), .int (i3 q)] m) eIB eIA X v T n :=
  sIp_ask (fun _ _ _ => cX11_size (d := d + 5) hR.1.lo hR.1.2.1.2.1 hi hk hq) (fun _ _ _ => mX12_size (d := d + 3) hT hR.1.2.1.1 hR.1.2.1.2.1 hi hk hq) cd2_c hR
theorem rp_sizes {i : Int} (hR : RS v n) (hT : 18 ≤ T) (hi : isI i) : sIp (fun m => jm_env (d + 10) 151 [.ref 0, .int (i3 i)] m) (fun m => jm_env (d + 11) 302 [.ref 411, .int (i3 i)] m) eIB eIB X v T n :=
  sIp_ask (fun _ _ _ => cR_an (cX11_sizes (d := d + 7) hR.1.lo hi) (fun q => by
    obtain ⟨g1, g2⟩ := cd1_p q
    exact sizes_eq hR.1.2.1.2.2.1 g1 g2)) (fun _ _ _ => mX12_sizes (d := d + 5) hT hR.1.2.1.1 hi) cd1_c hR
theorem rp_isAlike {i k j l : Int} (hR : RS v n) (hT : 18 ≤ T) (hi : isI i) (hk : isI k) (hj : isI j) (hl : isI l) : sIp (fun m => jm_env (d + 10) 152 [.ref 0, .int (i3 i), .int (i3 k), .int (i3 j), .int (i3 l)] m) (fun m => jm_env (d + 11) 305 [.ref 411, .int (i3 i), .int (i3 k), .int (i3 j), .int (i3 l)] m) eIB eIB X v T n :=
  sIp_ask (fun _ _ _ => cX11_isAlike (d := d + 6) hR.1.lo hi hk hj hl) (fun _ _ _ => mX12_isAlike (d := d + 6) hT hR.1.2.1.1 hi hk hj hl) cd1_c hR
theorem rp_ordered {a b : Int} (hR : RS v n) (hn : n ≤ 1000000) (hT : 18 ≤ T) (ha : isI a) (hb : isI b) : sIp (fun m => jm_env (d + 10) 154 [.ref 0, .int (i3 a), .int (i3 b)] m) (fun m => jm_env (d + 11) 307 [.ref 411, .int (i3 a), .int (i3 b)] m) eIA eIA X v T n :=
  sIp_ask (fun _ _ _ => cX11_ordered (d := d + 6) hR.1.lo hR.1.2.1.2.2.2.1 ha hb (fun j j0 j1 => by have := hR.1.2.1.2.2.2.2.1 j j0 j1; omega)) (fun _ _ _ => mX12_ordered (d := d + 8) hT hR.1.2.1.2.2.2.1 ha hb) cd1_c hR
theorem rp_print {a q : Int} (hR : RS v n) (hT : 18 ≤ T) (ha : isI a) (hq : isI q) : sIp (fun m => jm_env (d + 10) 155 [.ref 0, .int (i3 a), .int (i3 q)] m) (fun m => jm_env (d + 11) 308 [.ref 411, .int (i3 a), .int (i3 q)] m) eIA eIA X v T n :=
  sIp_ask (fun _ _ _ => cX11_print (d := d + 7) hR.1.lo hR.1.2.1.2.2.2.1 ha hq) (fun _ _ _ => mX12_print (d := d + 8) hT hR.1.2.1.2.2.2.1 ha hq) cd1_c hR
theorem rp_account {q : Int} (hR : RS v n) (hn : n ≤ 1000000) (hT : 18 ≤ T) (hq : isI q) : sIp (fun m => jm_env (d + 10) 156 [.ref 0, .int (i3 q)] m) (fun m => jm_env (d + 11) 309 [.ref 411, .int (i3 q)] m) eIA eIA X v T n :=
  sIp_ask (fun _ _ _ => cX11_account (d := d + 7) hR.1.lo hR.1.2.1.2.2.2.2.2.1 (by omega) hq) (fun _ _ _ => mX12_account (d := d + 8) hT hR.1.2.1.2.2.2.2.2.1 (by omega) hq) cd1_c hR
theorem rp_refused {q : Int} (hR : RS v n) (hT : 18 ≤ T) (hq : isI q) : sIp (fun m => jm_env (d + 10) 157 [.ref 0, .int (i3 q)] m) (fun m => jm_env (d + 11) 310 [.ref 411, .int (i3 q)] m) eIA eIA X v T n :=
  sIp_ask (fun _ _ _ => cR_an (cX11_refused (d := d + 8) hq) (fun g => by
    obtain ⟨g1, g2⟩ := cd1_p g
    rw [hR.1.2.2.2 _ (by omega) (by omega), show 5 - (-2 - q) = q + 7 by omega])) (fun _ _ _ => mX12_refused (d := d + 8) hT hq) cd1_c hR
theorem rp_mostFolds {i k : Int} (hR : RS v n) (hT : 18 ≤ T) (hi : isI i) (hk : isI k) : sIp (fun m => jm_env (d + 10) 161 [.ref 0, .int (i3 i), .int (i3 k)] m) (fun m => jm_env (d + 11) 314 [.ref 411, .int (i3 i), .int (i3 k)] m) eIB eIB X v T n :=
  sIp_ask (fun _ _ _ => cX11_mostFolds (d := d + 7) hR.1.lo hi hk) (fun _ _ _ => mX12_mostFolds (d := d + 5) hT hR.1.2.1.1 hi hk) cd1_c hR
theorem rp_fitting {a b : Int} (hR : RS v n) (hT : 18 ≤ T) (ha : isI a) (hb : isI b) : sIp (fun m => jm_env (d + 10) 167 [.ref 0, .int (i3 a), .int (i3 b)] m) (fun m => jm_env (d + 11) 326 [.ref 411, .int (i3 a), .int (i3 b)] m) eIA eIA X v T n :=
  sIp_ask (fun _ _ _ => cX11_fitting (d := d + 5) hR.1.lo ha hb) (fun _ _ _ => mX12_fitting (d := d + 6) hT hR.1.2.1.1 ha hb) cd1_c hR
theorem rp_nearest {a b q : Int} (hR : RS v n) (hT : 18 ≤ T) (ha : isI a) (hb : isI b) (hq : isI q) : sIp (fun m => jm_env (d + 10) 168 [.ref 0, .int (i3 a), .int (i3 b), .int (i3 q)] m) (fun m => jm_env (d + 11) 327 [.ref 411, .int (i3 a), .int (i3 b), .int (i3 q)] m) eIA eIA X v T n :=
  sIp_ask (fun _ _ _ => cX11_nearest (d := d + 5) hR.1.lo ha hb hq) (fun _ _ _ => mX12_nearest (d := d + 4) hT hR.1.2.1.1 ha hb hq) cd1_c hR
theorem rp_whyNot {a b q z : Int} (hR : RS v n) (hT : 18 ≤ T) (ha : isI a) (hb : isI b) (hq : isI q) (hz : isI z) : sIp (fun m => jm_env (d + 10) 169 [.ref 0, .int (i3 a), .int (i3 b), .int (i3 q), .int (i3 z)] m) (fun m => jm_env (d + 11) 329 [.ref 411, .int (i3 a), .int (i3 b), .int (i3 q), .int (i3 z)] m) eIA eIA X v T n :=
  sIp_ask (fun _ _ _ => cX11_whyNot (d := d + 5) hR.1.lo ha hb hq hz) (fun _ _ _ => mX12_whyNot (d := d + 3) hT hR.1.2.1.1 ha hb hq hz) cd1_c hR
theorem rp_ifOrder {a b q z : Int} (hR : RS v n) (hT : 18 ≤ T) (ha : isI a) (hb : isI b) (hq : isI q) (hz : isI z) : sIp (fun m => jm_env (d + 10) 170 [.ref 0, .int (i3 a), .int (i3 b), .int (i3 q), .int (i3 z)] m) (fun m => jm_env (d + 11) 331 [.ref 411, .int (i3 a), .int (i3 b), .int (i3 q), .int (i3 z)] m) eIA eIA X v T n :=
  sIp_ask (fun _ _ _ => cX11_ifOrder (d := d + 5) hR.1.lo ha hb hq hz) (fun _ _ _ => mX12_ifOrder (d := d + 3) hT hR.1.2.1.1 ha hb hq hz) cd1_c hR
theorem rp_mostOf {a b : Int} (hR : RS v n) (hT : 18 ≤ T) (ha : isI a) (hb : isI b) : sIp (fun m => jm_env (d + 10) 171 [.ref 0, .int (i3 a), .int (i3 b)] m) (fun m => jm_env (d + 11) 332 [.ref 411, .int (i3 a), .int (i3 b)] m) eIA eIA X v T n :=
  sIp_ask (fun _ _ _ => cX11_mostOf (d := d + 5) hR.1.lo ha hb) (fun _ _ _ => mX12_mostOf (d := d + 4) hT hR.1.2.1.1 ha hb) cd1_c hR
theorem rp_cutsFor {i k q : Int} (hR : RS v n) (hT : 18 ≤ T) (hi : isI i) (hk : isI k) (hq : isI q) : sIp (fun m => jm_env (d + 10) 172 [.ref 0, .int (i3 i), .int (i3 k), .int (i3 q)] m) (fun m => jm_env (d + 11) 333 [.ref 411, .int (i3 i), .int (i3 k), .int (i3 q)] m) eIB eIA X v T n :=
  sIp_ask (fun _ _ _ => cX11_cutsFor (d := d + 6) hR.1.lo hi hk hq) (fun _ _ _ => mX12_cutsFor (d := d + 5) hT hR.1.2.1.1 hi hk hq) cd2_c hR
theorem rp_gap (hR : RS v n) (hn : n ≤ 1000000) (hT : 18 ≤ T) : sNp (fun z => .long (i6 z)) (fun m => jm_env (d + 10) 158 [.ref 0] m) (fun m => jm_env (d + 10) 311 [.ref 411] m) X v T n := fun w c s =>
  ⟨_, v, w, cX11_gap (d := d + 7) hR.1.lo hR.1.2.1.2.2.2.2.2.1 (by omega), fun w' c' s' => by
    obtain ⟨w2, e⟩ := mX12_gap (d := d + 5) (X := X) (T := T) (c := c') (s := s') (w := w') hT hR.1.2.1.1 hR.1.2.1.2.2.2.2.2.1 (by omega)
    exact ⟨v, w2, e, hR⟩⟩
theorem rp_lostBits (hR : RS v n) (hn : n ≤ 1000000) (hT : 18 ≤ T) : sNp (fun z => .int (i3 z)) (fun m => jm_env (d + 10) 159 [.ref 0] m) (fun m => jm_env (d + 10) 312 [.ref 411] m) X v T n := fun w c s => by
  obtain ⟨h4, h6, h7, hs⟩ := okM_lost hR.1.2.1 (by omega)
  obtain ⟨w1, e1⟩ := (cX11_lostBits (d := d + 8) (X := X) (T := T) (c := c) (s := s) (w := w) hR.1.lo h4 h6 h7 hs).1 rfl
  refine ⟨_, v, w1, e1, fun w' c' s' => ?_⟩
  obtain ⟨w2, b, e, -, eb⟩ := mX12_lostBits (d := d + 9) (X := X) (T := T) (c := c') (s := s') (w := w') hT h4 h6 h7 hs
  rw [eb rfl] at e
  exact ⟨v, w2, e, hR⟩
theorem rp_errorCode (hR : RS v n) (hT : 18 ≤ T) : sNp (fun z => .int (i3 z)) (fun m => jm_env (d + 10) 141 [.ref 0] m) (fun m => jm_env (d + 10) 274 [.ref 411] m) X v T n := fun w c s =>
  ⟨_, v, w, cX11_errorCode (d := d + 9), fun w' c' s' => by
    obtain ⟨w2, e⟩ := mX12_errorCode (d := d + 9) (X := X) (T := T) (c := c') (s := s') (v := v) (w := w') hT
    rw [hR.2.2.2.1.1]
    exact ⟨v, w2, e, hR⟩⟩
theorem rp_errorPosition (hR : RS v n) (hT : 18 ≤ T) : sNp (fun z => .int (i3 z)) (fun m => jm_env (d + 10) 142 [.ref 0] m) (fun m => jm_env (d + 10) 275 [.ref 411] m) X v T n := fun w c s =>
  ⟨_, v, w, cX11_errorPosition (d := d + 9), fun w' c' s' => by
    obtain ⟨w2, e⟩ := mX12_errorPosition (d := d + 9) (X := X) (T := T) (c := c') (s := s') (v := v) (w := w') hT
    rw [hR.2.2.2.1.2]
    exact ⟨v, w2, e, hR⟩⟩
theorem rp_outputByte {k : Int} (hR : RS v n) (hT : 18 ≤ T) (hk : isI k) : sNp (fun z => .int (i3 z)) (fun m => jm_env (d + 10) 187 [.ref 0, .int (i3 k)] m) (fun m => jm_env (d + 10) 339 [.ref 411, .int (i3 k)] m) X v T n := fun w c s =>
  ⟨_, v, w, cX11_outputByte (d := d + 8) hR.2.2.1.ok hk, fun w' c' s' => by
    obtain ⟨q1, q2, q3⟩ := hR.2.2.1
    obtain ⟨w2, e⟩ := mX12_outputByte (d := d + 8) (X := X) (T := T) (c := c') (s := s') (v := v) (w := w') hT hk (by omega) (by omega)
    refine ⟨v, w2, ?_, hR⟩
    have eb : bat v 3 k = if 0 ≤ k ∧ k < v 411 43 then v 428 k else -1 := by
      unfold bat
      rw [← q1]
      by_cases g : 0 ≤ k ∧ k < v 3 1
      · rw [if_pos g, if_pos g]
        exact (q3 k g.1 g.2).1
      · rw [if_neg g, if_neg g]
    rw [eb]
    exact e⟩
end RSB
