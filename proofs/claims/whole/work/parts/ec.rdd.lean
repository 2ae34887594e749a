-- uses 24.zar 25.obj 26.ops 32.rf 34.gen 65.cll 72.clq 73.clr 80.wrf 89.rsa db.inl e0.law e1.lax e2.lay e7.rda e8.rda e9.rda ea.rdb eb.rdc
/-! The law: all rounds. -/
section RDD
variable {X : Nat × (Nat → Int32)} {v w : Nat → Int → Int} {T c s : Nat} {n : Int}
theorem i3_a63 (a : Int) : ∃ u : Nat, u < 64 ∧ i3 a &&& i3 63 = i3 (u : Int) := by
  have h : ((i3 a &&& i3 63).toBitVec.toNat) ≤ 63 := by
    rw [Int32.toBitVec_and, BitVec.toNat_and]
    exact Nat.and_le_right
  refine ⟨(i3 a &&& i3 63).toBitVec.toNat, by omega, ?_⟩
  have e : (i3 a &&& i3 63).toInt = ((i3 a &&& i3 63).toBitVec.toNat : Int) := by
    show (i3 a &&& i3 63).toBitVec.toInt = _
    rw [BitVec.toInt_eq_toNat_of_lt (by omega)]
  rw [← e]
  show _ = Int32.ofInt (i3 a &&& i3 63).toInt
  rw [Int32.ofInt_toInt]
theorem rd_45 {i : Nat} {o6 o7 o8 : Option Value} {u : Nat} (hu : u < 64) (hR : RS v n) (hn0 : 0 ≤ n) (hn : n ≤ 1000000) (hT : 20 ≤ T) (hT2 : T < 800000) (hi : i + 7 ≤ X.1) (hL : X.1 < 10000) : rdO (jm_R (jm_env 59) jmM_L_law 45 [some (.ref jm_scr), some (.ref 0), some (.ref 411), some (.ref 429), some (.ref 430), some (.int (i3 (i : Nat))), o6, o7, o8] [.int (i3 (u : Int))] (qM X v w T c s)) X T c s n i := by
  by_cases h40 : 40 < u
  · refine ⟨v, w, 0, c, s, o6, o7, o8, ?_, RS_le hR (by omega), by omega, by omega, by omega⟩
    rw [bL_law_45_d (h0 := by omega) (h1 := by omega) (h := Or.inr (by omega))] <;> rfl
  · by_cases h0 : u = 0
    · subst h0
      have e : jm_R (jm_env 59) jmM_L_law 45 [some (.ref jm_scr), some (.ref 0), some (.ref 411), some (.ref 429), some (.ref 430), some (.int (i3 (i : Nat))), o6, o7, o8] [.int (i3 ((0 : Nat) : Int))] (qM X v w T c s) = _ := bL_law_45_0 (jm_env 59) jm_scr 0 411 429 430 (i : Nat) o6 o7 o8 (qM X v w T c s)
      rw [e]
      exact rd_append hR hn0 hn hT hT2 hi hL
    by_cases h1 : u = 1
    · subst h1
      have e : jm_R (jm_env 59) jmM_L_law 45 [some (.ref jm_scr), some (.ref 0), some (.ref 411), some (.ref 429), some (.ref 430), some (.int (i3 (i : Nat))), o6, o7, o8] [.int (i3 ((1 : Nat) : Int))] (qM X v w T c s) = _ := bL_law_45_1 (jm_env 59) jm_scr 0 411 429 430 (i : Nat) o6 o7 o8 (qM X v w T c s)
      rw [e]
      exact rd_truncate hR hn0 hn hT hT2 hi hL
    by_cases h2 : u = 2
    · subst h2
      have e : jm_R (jm_env 59) jmM_L_law 45 [some (.ref jm_scr), some (.ref 0), some (.ref 411), some (.ref 429), some (.ref 430), some (.int (i3 (i : Nat))), o6, o7, o8] [.int (i3 ((2 : Nat) : Int))] (qM X v w T c s) = _ := bL_law_45_2 (jm_env 59) jm_scr 0 411 429 430 (i : Nat) o6 o7 o8 (qM X v w T c s)
      rw [e]
      exact rd_load hR hn0 hT hT2
    by_cases h3 : u = 3
    · subst h3
      have e : jm_R (jm_env 59) jmM_L_law 45 [some (.ref jm_scr), some (.ref 0), some (.ref 411), some (.ref 429), some (.ref 430), some (.int (i3 (i : Nat))), o6, o7, o8] [.int (i3 ((3 : Nat) : Int))] (qM X v w T c s) = _ := bL_law_45_3 (jm_env 59) jm_scr 0 411 429 430 (i : Nat) o6 o7 o8 (qM X v w T c s)
      rw [e]
      exact rd_play hR hn0 hT hT2
    by_cases h4 : u = 4
    · subst h4
      have e : jm_R (jm_env 59) jmM_L_law 45 [some (.ref jm_scr), some (.ref 0), some (.ref 411), some (.ref 429), some (.ref 430), some (.int (i3 (i : Nat))), o6, o7, o8] [.int (i3 ((4 : Nat) : Int))] (qM X v w T c s) = _ := bL_law_45_4 (jm_env 59) jm_scr 0 411 429 430 (i : Nat) o6 o7 o8 (qM X v w T c s)
      rw [e]
      exact rd_errorCode hR hn hT
    by_cases h5 : u = 5
    · subst h5
      have e : jm_R (jm_env 59) jmM_L_law 45 [some (.ref jm_scr), some (.ref 0), some (.ref 411), some (.ref 429), some (.ref 430), some (.int (i3 (i : Nat))), o6, o7, o8] [.int (i3 ((5 : Nat) : Int))] (qM X v w T c s) = _ := bL_law_45_5 (jm_env 59) jm_scr 0 411 429 430 (i : Nat) o6 o7 o8 (qM X v w T c s)
      rw [e]
      exact rd_errorPosition hR hn hT
    by_cases h6 : u = 6
    · subst h6
      have e : jm_R (jm_env 59) jmM_L_law 45 [some (.ref jm_scr), some (.ref 0), some (.ref 411), some (.ref 429), some (.ref 430), some (.int (i3 (i : Nat))), o6, o7, o8] [.int (i3 ((6 : Nat) : Int))] (qM X v w T c s) = _ := bL_law_45_6 (jm_env 59) jm_scr 0 411 429 430 (i : Nat) o6 o7 o8 (qM X v w T c s)
      rw [e]
      exact rd_count hR hn0 hn hT hT2 hi hL
    by_cases h7 : u = 7
    · subst h7
      have e : jm_R (jm_env 59) jmM_L_law 45 [some (.ref jm_scr), some (.ref 0), some (.ref 411), some (.ref 429), some (.ref 430), some (.int (i3 (i : Nat))), o6, o7, o8] [.int (i3 ((7 : Nat) : Int))] (qM X v w T c s) = _ := bL_law_45_7 (jm_env 59) jm_scr 0 411 429 430 (i : Nat) o6 o7 o8 (qM X v w T c s)
      rw [e]
      exact rd_letter hR hn0 hn hT hT2 hi hL
    by_cases h8 : u = 8
    · subst h8
      have e : jm_R (jm_env 59) jmM_L_law 45 [some (.ref jm_scr), some (.ref 0), some (.ref 411), some (.ref 429), some (.ref 430), some (.int (i3 (i : Nat))), o6, o7, o8] [.int (i3 ((8 : Nat) : Int))] (qM X v w T c s) = _ := bL_law_45_8 (jm_env 59) jm_scr 0 411 429 430 (i : Nat) o6 o7 o8 (qM X v w T c s)
      rw [e]
      exact rd_size hR hn0 hn hT hT2 hi hL
    by_cases h9 : u = 9
    · subst h9
      have e : jm_R (jm_env 59) jmM_L_law 45 [some (.ref jm_scr), some (.ref 0), some (.ref 411), some (.ref 429), some (.ref 430), some (.int (i3 (i : Nat))), o6, o7, o8] [.int (i3 ((9 : Nat) : Int))] (qM X v w T c s) = _ := bL_law_45_9 (jm_env 59) jm_scr 0 411 429 430 (i : Nat) o6 o7 o8 (qM X v w T c s)
      rw [e]
      exact rd_sizes hR hn0 hn hT hT2 hi hL
    by_cases h10 : u = 10
    · subst h10
      have e : jm_R (jm_env 59) jmM_L_law 45 [some (.ref jm_scr), some (.ref 0), some (.ref 411), some (.ref 429), some (.ref 430), some (.int (i3 (i : Nat))), o6, o7, o8] [.int (i3 ((10 : Nat) : Int))] (qM X v w T c s) = _ := bL_law_45_10 (jm_env 59) jm_scr 0 411 429 430 (i : Nat) o6 o7 o8 (qM X v w T c s)
      rw [e]
      exact rd_isAlike hR hn0 hn hT hT2 hi hL
    by_cases h11 : u = 11
    · subst h11
      have e : jm_R (jm_env 59) jmM_L_law 45 [some (.ref jm_scr), some (.ref 0), some (.ref 411), some (.ref 429), some (.ref 430), some (.int (i3 (i : Nat))), o6, o7, o8] [.int (i3 ((11 : Nat) : Int))] (qM X v w T c s) = _ := bL_law_45_11 (jm_env 59) jm_scr 0 411 429 430 (i : Nat) o6 o7 o8 (qM X v w T c s)
      rw [e]
      exact rd_ratio hR hn0 hn hT hT2 hi hL
    by_cases h12 : u = 12
    · subst h12
      have e : jm_R (jm_env 59) jmM_L_law 45 [some (.ref jm_scr), some (.ref 0), some (.ref 411), some (.ref 429), some (.ref 430), some (.int (i3 (i : Nat))), o6, o7, o8] [.int (i3 ((12 : Nat) : Int))] (qM X v w T c s) = _ := bL_law_45_12 (jm_env 59) jm_scr 0 411 429 430 (i : Nat) o6 o7 o8 (qM X v w T c s)
      rw [e]
      exact rd_ordered hR hn0 hn hT hT2 hi hL
    by_cases h13 : u = 13
    · subst h13
      have e : jm_R (jm_env 59) jmM_L_law 45 [some (.ref jm_scr), some (.ref 0), some (.ref 411), some (.ref 429), some (.ref 430), some (.int (i3 (i : Nat))), o6, o7, o8] [.int (i3 ((13 : Nat) : Int))] (qM X v w T c s) = _ := bL_law_45_13 (jm_env 59) jm_scr 0 411 429 430 (i : Nat) o6 o7 o8 (qM X v w T c s)
      rw [e]
      exact rd_print hR hn0 hn hT hT2 hi hL
    by_cases h14 : u = 14
    · subst h14
      have e : jm_R (jm_env 59) jmM_L_law 45 [some (.ref jm_scr), some (.ref 0), some (.ref 411), some (.ref 429), some (.ref 430), some (.int (i3 (i : Nat))), o6, o7, o8] [.int (i3 ((14 : Nat) : Int))] (qM X v w T c s) = _ := bL_law_45_14 (jm_env 59) jm_scr 0 411 429 430 (i : Nat) o6 o7 o8 (qM X v w T c s)
      rw [e]
      exact rd_account hR hn0 hn hT hT2 hi hL
    by_cases h15 : u = 15
    · subst h15
      have e : jm_R (jm_env 59) jmM_L_law 45 [some (.ref jm_scr), some (.ref 0), some (.ref 411), some (.ref 429), some (.ref 430), some (.int (i3 (i : Nat))), o6, o7, o8] [.int (i3 ((15 : Nat) : Int))] (qM X v w T c s) = _ := bL_law_45_15 (jm_env 59) jm_scr 0 411 429 430 (i : Nat) o6 o7 o8 (qM X v w T c s)
      rw [e]
      exact rd_refused hR hn0 hn hT hT2 hi hL
    by_cases h16 : u = 16
    · subst h16
      have e : jm_R (jm_env 59) jmM_L_law 45 [some (.ref jm_scr), some (.ref 0), some (.ref 411), some (.ref 429), some (.ref 430), some (.int (i3 (i : Nat))), o6, o7, o8] [.int (i3 ((16 : Nat) : Int))] (qM X v w T c s) = _ := bL_law_45_16 (jm_env 59) jm_scr 0 411 429 430 (i : Nat) o6 o7 o8 (qM X v w T c s)
      rw [e]
      exact rd_gap hR hn hT
    by_cases h17 : u = 17
    · subst h17
      have e : jm_R (jm_env 59) jmM_L_law 45 [some (.ref jm_scr), some (.ref 0), some (.ref 411), some (.ref 429), some (.ref 430), some (.int (i3 (i : Nat))), o6, o7, o8] [.int (i3 ((17 : Nat) : Int))] (qM X v w T c s) = _ := bL_law_45_17 (jm_env 59) jm_scr 0 411 429 430 (i : Nat) o6 o7 o8 (qM X v w T c s)
      rw [e]
      exact rd_lostBits hR hn hT
    by_cases h18 : u = 18
    · subst h18
      have e : jm_R (jm_env 59) jmM_L_law 45 [some (.ref jm_scr), some (.ref 0), some (.ref 411), some (.ref 429), some (.ref 430), some (.int (i3 (i : Nat))), o6, o7, o8] [.int (i3 ((18 : Nat) : Int))] (qM X v w T c s) = _ := bL_law_45_18 (jm_env 59) jm_scr 0 411 429 430 (i : Nat) o6 o7 o8 (qM X v w T c s)
      rw [e]
      exact rd_mostFolds hR hn0 hn hT hT2 hi hL
    by_cases h19 : u = 19
    · subst h19
      have e : jm_R (jm_env 59) jmM_L_law 45 [some (.ref jm_scr), some (.ref 0), some (.ref 411), some (.ref 429), some (.ref 430), some (.int (i3 (i : Nat))), o6, o7, o8] [.int (i3 ((19 : Nat) : Int))] (qM X v w T c s) = _ := bL_law_45_19 (jm_env 59) jm_scr 0 411 429 430 (i : Nat) o6 o7 o8 (qM X v w T c s)
      rw [e]
      exact rd_grid hR hn0 hn hT hT2 hi hL
    by_cases h20 : u = 20
    · subst h20
      have e : jm_R (jm_env 59) jmM_L_law 45 [some (.ref jm_scr), some (.ref 0), some (.ref 411), some (.ref 429), some (.ref 430), some (.int (i3 (i : Nat))), o6, o7, o8] [.int (i3 ((20 : Nat) : Int))] (qM X v w T c s) = _ := bL_law_45_20 (jm_env 59) jm_scr 0 411 429 430 (i : Nat) o6 o7 o8 (qM X v w T c s)
      rw [e]
      exact rd_page hR hn0 hn hT hT2 hi hL
    by_cases h21 : u = 21
    · subst h21
      have e : jm_R (jm_env 59) jmM_L_law 45 [some (.ref jm_scr), some (.ref 0), some (.ref 411), some (.ref 429), some (.ref 430), some (.int (i3 (i : Nat))), o6, o7, o8] [.int (i3 ((21 : Nat) : Int))] (qM X v w T c s) = _ := bL_law_45_21 (jm_env 59) jm_scr 0 411 429 430 (i : Nat) o6 o7 o8 (qM X v w T c s)
      rw [e]
      exact rd_cellOf hR hn0 hn hT hT2 hi hL
    by_cases h22 : u = 22
    · subst h22
      have e : jm_R (jm_env 59) jmM_L_law 45 [some (.ref jm_scr), some (.ref 0), some (.ref 411), some (.ref 429), some (.ref 430), some (.int (i3 (i : Nat))), o6, o7, o8] [.int (i3 ((22 : Nat) : Int))] (qM X v w T c s) = _ := bL_law_45_22 (jm_env 59) jm_scr 0 411 429 430 (i : Nat) o6 o7 o8 (qM X v w T c s)
      rw [e]
      exact rd_pageGap hR hn0 hn hT hT2 hi hL
    by_cases h23 : u = 23
    · subst h23
      have e : jm_R (jm_env 59) jmM_L_law 45 [some (.ref jm_scr), some (.ref 0), some (.ref 411), some (.ref 429), some (.ref 430), some (.int (i3 (i : Nat))), o6, o7, o8] [.int (i3 ((23 : Nat) : Int))] (qM X v w T c s) = _ := bL_law_45_23 (jm_env 59) jm_scr 0 411 429 430 (i : Nat) o6 o7 o8 (qM X v w T c s)
      rw [e]
      exact rd_fitting hR hn0 hn hT hT2 hi hL
    by_cases h24 : u = 24
    · subst h24
      have e : jm_R (jm_env 59) jmM_L_law 45 [some (.ref jm_scr), some (.ref 0), some (.ref 411), some (.ref 429), some (.ref 430), some (.int (i3 (i : Nat))), o6, o7, o8] [.int (i3 ((24 : Nat) : Int))] (qM X v w T c s) = _ := bL_law_45_24 (jm_env 59) jm_scr 0 411 429 430 (i : Nat) o6 o7 o8 (qM X v w T c s)
      rw [e]
      exact rd_nearest hR hn0 hn hT hT2 hi hL
    by_cases h25 : u = 25
    · subst h25
      have e : jm_R (jm_env 59) jmM_L_law 45 [some (.ref jm_scr), some (.ref 0), some (.ref 411), some (.ref 429), some (.ref 430), some (.int (i3 (i : Nat))), o6, o7, o8] [.int (i3 ((25 : Nat) : Int))] (qM X v w T c s) = _ := bL_law_45_25 (jm_env 59) jm_scr 0 411 429 430 (i : Nat) o6 o7 o8 (qM X v w T c s)
      rw [e]
      exact rd_whyNot hR hn0 hn hT hT2 hi hL
    by_cases h26 : u = 26
    · subst h26
      have e : jm_R (jm_env 59) jmM_L_law 45 [some (.ref jm_scr), some (.ref 0), some (.ref 411), some (.ref 429), some (.ref 430), some (.int (i3 (i : Nat))), o6, o7, o8] [.int (i3 ((26 : Nat) : Int))] (qM X v w T c s) = _ := bL_law_45_26 (jm_env 59) jm_scr 0 411 429 430 (i : Nat) o6 o7 o8 (qM X v w T c s)
      rw [e]
      exact rd_ifOrder hR hn0 hn hT hT2 hi hL
    by_cases h27 : u = 27
    · subst h27
      have e : jm_R (jm_env 59) jmM_L_law 45 [some (.ref jm_scr), some (.ref 0), some (.ref 411), some (.ref 429), some (.ref 430), some (.int (i3 (i : Nat))), o6, o7, o8] [.int (i3 ((27 : Nat) : Int))] (qM X v w T c s) = _ := bL_law_45_27 (jm_env 59) jm_scr 0 411 429 430 (i : Nat) o6 o7 o8 (qM X v w T c s)
      rw [e]
      exact rd_mostOf hR hn0 hn hT hT2 hi hL
    by_cases h28 : u = 28
    · subst h28
      have e : jm_R (jm_env 59) jmM_L_law 45 [some (.ref jm_scr), some (.ref 0), some (.ref 411), some (.ref 429), some (.ref 430), some (.int (i3 (i : Nat))), o6, o7, o8] [.int (i3 ((28 : Nat) : Int))] (qM X v w T c s) = _ := bL_law_45_28 (jm_env 59) jm_scr 0 411 429 430 (i : Nat) o6 o7 o8 (qM X v w T c s)
      rw [e]
      exact rd_cutsFor hR hn0 hn hT hT2 hi hL
    by_cases h29 : u = 29
    · subst h29
      have e : jm_R (jm_env 59) jmM_L_law 45 [some (.ref jm_scr), some (.ref 0), some (.ref 411), some (.ref 429), some (.ref 430), some (.int (i3 (i : Nat))), o6, o7, o8] [.int (i3 ((29 : Nat) : Int))] (qM X v w T c s) = _ := bL_law_45_29 (jm_env 59) jm_scr 0 411 429 430 (i : Nat) o6 o7 o8 (qM X v w T c s)
      rw [e]
      exact rd_found hR hn0 hn hT hT2 hi hL
    by_cases h30 : u = 30
    · subst h30
      have e : jm_R (jm_env 59) jmM_L_law 45 [some (.ref jm_scr), some (.ref 0), some (.ref 411), some (.ref 429), some (.ref 430), some (.int (i3 (i : Nat))), o6, o7, o8] [.int (i3 ((30 : Nat) : Int))] (qM X v w T c s) = _ := bL_law_45_30 (jm_env 59) jm_scr 0 411 429 430 (i : Nat) o6 o7 o8 (qM X v w T c s)
      rw [e]
      exact rd_buy hR hn0 hn hT hT2 hi hL
    by_cases h31 : u = 31
    · subst h31
      have e : jm_R (jm_env 59) jmM_L_law 45 [some (.ref jm_scr), some (.ref 0), some (.ref 411), some (.ref 429), some (.ref 430), some (.int (i3 (i : Nat))), o6, o7, o8] [.int (i3 ((31 : Nat) : Int))] (qM X v w T c s) = _ := bL_law_45_31 (jm_env 59) jm_scr 0 411 429 430 (i : Nat) o6 o7 o8 (qM X v w T c s)
      rw [e]
      exact rd_cut hR hn0 hn hT hT2 hi hL
    by_cases h32 : u = 32
    · subst h32
      have e : jm_R (jm_env 59) jmM_L_law 45 [some (.ref jm_scr), some (.ref 0), some (.ref 411), some (.ref 429), some (.ref 430), some (.int (i3 (i : Nat))), o6, o7, o8] [.int (i3 ((32 : Nat) : Int))] (qM X v w T c s) = _ := bL_law_45_32 (jm_env 59) jm_scr 0 411 429 430 (i : Nat) o6 o7 o8 (qM X v w T c s)
      rw [e]
      exact rd_order hR hn0 hn hT hT2 hi hL
    by_cases h33 : u = 33
    · subst h33
      have e : jm_R (jm_env 59) jmM_L_law 45 [some (.ref jm_scr), some (.ref 0), some (.ref 411), some (.ref 429), some (.ref 430), some (.int (i3 (i : Nat))), o6, o7, o8] [.int (i3 ((33 : Nat) : Int))] (qM X v w T c s) = _ := bL_law_45_33 (jm_env 59) jm_scr 0 411 429 430 (i : Nat) o6 o7 o8 (qM X v w T c s)
      rw [e]
      exact rd_setEdge hR hn0 hn hT hT2 hi hL
    by_cases h34 : u = 34
    · subst h34
      have e : jm_R (jm_env 59) jmM_L_law 45 [some (.ref jm_scr), some (.ref 0), some (.ref 411), some (.ref 429), some (.ref 430), some (.int (i3 (i : Nat))), o6, o7, o8] [.int (i3 ((34 : Nat) : Int))] (qM X v w T c s) = _ := bL_law_45_34 (jm_env 59) jm_scr 0 411 429 430 (i : Nat) o6 o7 o8 (qM X v w T c s)
      rw [e]
      exact rd_setReam hR hn0 hn hT hT2 hi hL
    by_cases h35 : u = 35
    · subst h35
      have e : jm_R (jm_env 59) jmM_L_law 45 [some (.ref jm_scr), some (.ref 0), some (.ref 411), some (.ref 429), some (.ref 430), some (.int (i3 (i : Nat))), o6, o7, o8] [.int (i3 ((35 : Nat) : Int))] (qM X v w T c s) = _ := bL_law_45_35 (jm_env 59) jm_scr 0 411 429 430 (i : Nat) o6 o7 o8 (qM X v w T c s)
      rw [e]
      exact rd_writeStacks hR hn hT
    by_cases h36 : u = 36
    · subst h36
      have e : jm_R (jm_env 59) jmM_L_law 45 [some (.ref jm_scr), some (.ref 0), some (.ref 411), some (.ref 429), some (.ref 430), some (.int (i3 (i : Nat))), o6, o7, o8] [.int (i3 ((36 : Nat) : Int))] (qM X v w T c s) = _ := bL_law_45_36 (jm_env 59) jm_scr 0 411 429 430 (i : Nat) o6 o7 o8 (qM X v w T c s)
      rw [e]
      exact rd_writeSheet hR hn0 hn hT hT2 hi hL
    by_cases h37 : u = 37
    · subst h37
      have e : jm_R (jm_env 59) jmM_L_law 45 [some (.ref jm_scr), some (.ref 0), some (.ref 411), some (.ref 429), some (.ref 430), some (.int (i3 (i : Nat))), o6, o7, o8] [.int (i3 ((37 : Nat) : Int))] (qM X v w T c s) = _ := bL_law_45_37 (jm_env 59) jm_scr 0 411 429 430 (i : Nat) o6 o7 o8 (qM X v w T c s)
      rw [e]
      exact rd_outputByte hR hn0 hn hT hT2 hi hL
    by_cases h38 : u = 38
    · subst h38
      have e : jm_R (jm_env 59) jmM_L_law 45 [some (.ref jm_scr), some (.ref 0), some (.ref 411), some (.ref 429), some (.ref 430), some (.int (i3 (i : Nat))), o6, o7, o8] [.int (i3 ((38 : Nat) : Int))] (qM X v w T c s) = _ := bL_law_45_38 (jm_env 59) jm_scr 0 411 429 430 (i : Nat) o6 o7 o8 (qM X v w T c s)
      rw [e]
      exact rd_undo hR hn hT
    by_cases h39 : u = 39
    · subst h39
      have e : jm_R (jm_env 59) jmM_L_law 45 [some (.ref jm_scr), some (.ref 0), some (.ref 411), some (.ref 429), some (.ref 430), some (.int (i3 (i : Nat))), o6, o7, o8] [.int (i3 ((39 : Nat) : Int))] (qM X v w T c s) = _ := bL_law_45_39 (jm_env 59) jm_scr 0 411 429 430 (i : Nat) o6 o7 o8 (qM X v w T c s)
      rw [e]
      exact rd_save hR hn0 hn hT hT2 hi hL
    by_cases h40 : u = 40
    · subst h40
      have e : jm_R (jm_env 59) jmM_L_law 45 [some (.ref jm_scr), some (.ref 0), some (.ref 411), some (.ref 429), some (.ref 430), some (.int (i3 (i : Nat))), o6, o7, o8] [.int (i3 ((40 : Nat) : Int))] (qM X v w T c s) = _ := bL_law_45_40 (jm_env 59) jm_scr 0 411 429 430 (i : Nat) o6 o7 o8 (qM X v w T c s)
      rw [e]
      exact rd_restore hR hn0 hn hT hT2 hi hL
    exact absurd hu (by omega)
theorem rd_all {i : Nat} {o6 o7 o8 : Option Value} (hR : RS v n) (hn0 : 0 ≤ n) (hn : n ≤ 1000000) (hT : 20 ≤ T) (hT2 : T < 800000) (hi : i + 7 ≤ X.1) (hL : X.1 < 10000) : rdO (jm_R (jm_env 59) jmM_L_law 38 [some (.ref jm_scr), some (.ref 0), some (.ref 411), some (.ref 429), some (.ref 430), some (.int (i3 (i : Nat))), o6, o7, o8] [] (qM X v w T c s)) X T c s n i := by
  obtain ⟨u, hu, e⟩ := i3_a63 (xZ X i)
  rw [bL_law_38, scr_at (by omega) (by omega) hL, ob_s, e]
  exact rd_45 hu hR hn0 hn hT hT2 hi hL
theorem len_e {a : Nat} : Int32.ofNat a = i3 (a : Int) := rfl
theorem law_loop (hL : X.1 < 10000) : ∀ (r i : Nat) (v w : Nat → Int → Int) (T c s : Nat) (n : Int) (o6 o7 o8 : Option Value), RS v n → 0 ≤ n → n + 50 * (r : Int) ≤ 1000000 → 20 ≤ T → T + 6 * r < 800000 → X.1 < i + 7 * r + 7 → i ≤ X.1 →
    ∃ m', jm_R (jm_env 59) jmM_L_law 28 [some (.ref jm_scr), some (.ref 0), some (.ref 411), some (.ref 429), some (.ref 430), some (.int (i3 (i : Nat))), o6, o7, o8] [] (qM X v w T c s) = some (.inl (some (.int (i3 1))), m') ∧ m'.2.2.1 ≤ c + 10 * r ∧ m'.2.2.2 ≤ s + 100 * r := by
  intro r
  induction r with
  | zero =>
    intro i v w T c s n o6 o7 o8 hR hn0 hn hT hT2 hX hi
    refine ⟨qM X v w T c s, ?_, Nat.le_refl _, Nat.le_refl _⟩
    rw [bL_law_28, scr_len (by omega), ob_s, len_e, i3_sub, if_pos, bL_law_2818]
    rw [i3_lt (by omega) (by omega) (by omega) (by omega)]
    omega
  | succ r ih =>
    intro i v w T c s n o6 o7 o8 hR hn0 hn hT hT2 hX hi
    by_cases q : i + 7 ≤ X.1
    · obtain ⟨v', w', k, c', s', p6, p7, p8, e, hR2, hk, hc, hs⟩ := rd_all (o6 := o6) (o7 := o7) (o8 := o8) (w := w) (c := c) (s := s) hR hn0 (by omega) hT (by omega) q hL
      obtain ⟨m', e2, h1, h2⟩ := ih (i + 7) v' w' (T + k) c' s' (n + 50) p6 p7 p8 hR2 (by omega) (by omega) (by omega) (by omega) (by omega) q
      refine ⟨m', ?_, by omega, by omega⟩
      rw [bL_law_28, scr_len (by omega), ob_s, len_e, i3_sub, if_neg, e, bL_law_2812, i3_add]
      · exact e2
      · rw [i3_lt (by omega) (by omega) (by omega) (by omega)]
        omega
    · refine ⟨qM X v w T c s, ?_, Nat.le_add_right c _, Nat.le_add_right s _⟩
      rw [bL_law_28, scr_len (by omega), ob_s, len_e, i3_sub, if_pos, bL_law_2818]
      rw [i3_lt (by omega) (by omega) (by omega) (by omega)]
      omega
theorem law_all {L : Nat} {xs : Nat → Int32} (hL : L ≤ 3584) : ∃ m', jm_env 60 0 [.ref jm_scr] (0, fun n => if n = jm_scr then .inl (8, L, .inl xs) else if jm_str ≤ n ∧ n < jm_str + 10 then jm_sE (n - jm_str) else jm_bad, 0, 0) = some (.inl (some (.int 1)), m') ∧ m'.2.2.1 ≤ 601024 ∧ m'.2.2.2 ≤ 7293034 := by
  obtain ⟨v, w, hR, e⟩ := law_start (L := L) (xs := xs)
  obtain ⟨m', e2, h1, h2⟩ := law_loop (X := (L, xs)) (show L < 10000 by omega) 512 0 v w 20 431 10779 2 none none none hR (by omega) (by decide) (by omega) (by omega) (show L < 0 + 7 * 512 + 7 by omega) (Nat.zero_le _)
  exact ⟨m', e.trans e2, by omega, by omega⟩
end RDD
