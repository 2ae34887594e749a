/-! The law's start, out of what the Statement says of it. -/
def R_law : String := "PaperLandLaw"
def lw_P (b : Addr) (xs : List Int32) (args : Array Value) (s : State) : Prop := args = #[.ref b] ∧ s.IntsAt b xs ∧ xs.length ≤ 260 ∧ (Jvm.Cond.and given_1 narrow_1).before args s = true
def lw_Q (_ : Array Value) (s : State) (o : Outcome) (t : State) : Prop := o = .returned (some (.int 1)) ∧ Framed s o t [] 611489 7267304
def lw_Z (below : List Frame) (a : Array Value) (s : State) : State → Prop := fun t => ∃ o, t.status = .running ∧ Ended t below o ∧ lw_Q a s o t
/-- what holds at the law's entry -/
def lw_At (p : Program) (s : State) (m : MethodId) (meth : Method) (c : Code) (b L : Nat) (xs : Nat → Int32) : Prop :=
  p.tables.exec = Jvm.exec ∧ c.code = code ∧ meth.sig.returnType = ret ∧ c.maxLocals = 7 ∧ s.vm.findClass R_law = some m.cls ∧ (∀ w ∈ lw_tbl, w.before #[Value.ref b] s = true) ∧ va_X b L xs s s.heap ∧ b < s.heap.size ∧ meth.locks = false ∧ (Jvm.Cond.and given_1 narrow_1).before #[Value.ref b] s = true ∧ meth.name = "law" ∧ c.exceptionTable.toList = []
theorem lw_ret {p : Program} {l : Launch} {e : Env} {s : State} {m : MethodId} {below : List Frame} {meth : Method} {c : Code} {b : Nat} (hx : p.tables.exec = Jvm.exec) (hb : c.code = code) (hr : meth.sig.returnType = ret) (hlocks : meth.locks = false) {pc : Nat} {H : Heap} {ls : Array Slot} (hdg : decode code pc = .ok (.ireturn, 1)) : W p l e room_1 s m #[Value.ref b] below meth c H [] 611489 7267304 (lw_Z below #[Value.ref b] s) (F0 m pc ls [.int 1]) := by
  intro T hT X
  obtain ⟨fs, hret, hrun, hended, hW, hframe⟩ := X.leave (v := some (.int 1)) (hlocks := hlocks) (fun h => by rw [hr] at h; cases h)
  have hmeth' : T.vm.method? m = some meth := X.method'
  refine ⟨T.setFrames fs, ?_, .returned (some (.int 1)), hrun, hended, rfl, ⟨_, rfl⟩, hW, hframe⟩
  jvm_step X.here [X.here.top, hx, hb, hdg, hmeth', hr, ret, narrow_b1]
  (try refine ⟨rfl, ?_⟩); (try refine ⟨rfl, ?_⟩)
  first | (intro acts; rw [hret _ acts rfl rfl rfl]) | rw [hret _ _ rfl rfl rfl]
  exact Steps.refl _
def tp_ex : List Nat := [269, 352, 361, 373, 384, 397, 414, 430, 469, 504, 537, 573]
def tp_co : List Nat := [270, 353, 362, 374, 385, 398, 415, 431, 470, 505, 538, 574]
def tp_ar : List Nat := [271, 354, 363, 375, 386, 399, 416, 432, 471, 506, 539, 575]
def tp_le : List Nat := [272, 355, 364, 376, 387, 400, 417, 433, 472, 507, 540, 576]
def tp_el : List (List Nat) := [[273, 274, 275, 276, 277, 278, 279, 280, 281, 282, 283, 284, 285, 286, 287, 288, 289, 290, 291, 292, 293, 294, 295, 296, 297, 298, 299, 300, 301, 302, 303, 304, 305, 306, 307, 308, 309, 310, 311, 312, 313, 314, 315, 316, 317, 318, 319, 320, 321, 322, 323, 324, 325, 326, 327, 328, 329, 330, 331, 332, 333, 334, 335, 336, 337, 338, 339, 340, 341, 342, 343, 344, 345, 346, 347, 348, 349, 350, 351], [356, 357, 358, 359], [365, 366, 367, 368, 369, 370], [377, 378, 379, 380], [388, 389, 390, 391, 392], [401, 402, 403, 404, 405, 406, 407, 408], [418, 419, 420, 421, 422, 423], [434, 435, 436, 437, 438, 439, 440, 441, 442, 443, 444, 445, 446, 447, 448, 449, 450, 451, 452, 453, 454, 455, 456, 457, 458, 459, 460, 461], [473, 474, 475, 476, 477, 478, 479, 480, 481, 482, 483, 484, 485, 486, 487, 488, 489, 490, 491, 492, 493, 494, 495], [508, 509, 510, 511, 512, 513, 514, 515, 516, 517, 518, 519, 520, 521, 522, 523, 524, 525, 526, 527], [541, 542, 543, 544, 545, 546, 547, 548, 549, 550, 551, 552, 553, 554, 555, 556, 557, 558, 559, 560, 561, 562], [577, 578, 579, 580, 581, 582, 583, 584, 585, 586, 587, 588]]
def tp_ne : List (List Nat) := [[0, 360, 371, 381, 393, 409, 424, 462, 496, 528, 563, 589], [360, 0, 372, 382, 394, 410, 425, 463, 497, 529, 564, 590], [371, 372, 0, 383, 395, 411, 426, 464, 498, 530, 565, 591], [381, 382, 383, 0, 396, 412, 427, 465, 499, 531, 566, 592], [393, 394, 395, 396, 0, 413, 428, 466, 500, 532, 567, 593], [409, 410, 411, 412, 413, 0, 429, 467, 501, 533, 568, 594], [424, 425, 426, 427, 428, 429, 0, 468, 502, 534, 569, 595], [462, 463, 464, 465, 466, 467, 468, 0, 503, 535, 570, 596], [496, 497, 498, 499, 500, 501, 502, 503, 0, 536, 571, 597], [528, 529, 530, 531, 532, 533, 534, 535, 536, 0, 572, 598], [563, 564, 565, 566, 567, 568, 569, 570, 571, 572, 0, 599], [589, 590, 591, 592, 593, 594, 595, 596, 597, 598, 599, 0]]
abbrev tp_T : Cond := Jvm.Cond.and given_1 narrow_1
abbrev tp_tm (i : Nat) : Term := Term.string (jm_sO i).1 (jm_sO i).2.1
abbrev tp_val (i : Nat) : Term := .field (tp_tm i) "java/lang/String" "value" "[B"
set_option maxRecDepth 100000 in
theorem tp_exq : ∀ i, i < 12 → (flatC tp_T)[tp_ex.getD i 0]? = some (Cond.exactly (tp_tm i) "java/lang/String") := by decide +kernel
set_option maxRecDepth 100000 in
theorem tp_coq : ∀ i, i < 12 → (flatC tp_T)[tp_co.getD i 0]? = some (Cond.eq (.field (tp_tm i) "java/lang/String" "coder" "B") (.int 0)) := by decide +kernel
set_option maxRecDepth 100000 in
theorem tp_arq : ∀ i, i < 12 → (flatC tp_T)[tp_ar.getD i 0]? = some (Cond.arrayOf (tp_val i) .byte) := by decide +kernel
set_option maxRecDepth 100000 in
theorem tp_leq : ∀ i, i < 12 → (flatC tp_T)[tp_le.getD i 0]? = some (Cond.eq (.length (tp_val i)) (.int (Int32.ofNat (jm_sL.getD i 0)))) := by decide +kernel
set_option maxRecDepth 100000 in
theorem tp_elq : ∀ i, i < 12 → ∀ j, j < jm_sL.getD i 0 → (flatC tp_T)[(tp_el.getD i []).getD j 0]? = some (Cond.eq (.elem (tp_val i) (.int (Int32.ofNat j))) (.int ((jm_sB.getD i []).getD j 0))) := by decide +kernel
set_option maxRecDepth 100000 in
theorem tp_neq : ∀ i, i < 12 → ∀ j, j < 12 → i ≠ j → (flatC tp_T)[(tp_ne.getD i []).getD j 0]? = some (Cond.not (Cond.eq (tp_tm i) (tp_tm j))) ∨ (flatC tp_T)[(tp_ne.getD i []).getD j 0]? = some (Cond.not (Cond.eq (tp_tm j) (tp_tm i))) := by decide +kernel
abbrev tp_D (n : String) : Term := .static "java/lang/Integer" n "[B"
abbrev tp_IC : Term := .static "java/lang/Integer$IntegerCache" "cache" "[Ljava/lang/Integer;"
abbrev tp_E : Term := .static "java/util/ArrayList" "DEFAULTCAPACITY_EMPTY_ELEMENTDATA" "[Ljava/lang/Object;"
set_option maxRecDepth 100000 in
theorem tp_ones : ∀ j, j < 100 → (flatC tp_T)[16 + j]? = some (Cond.eq (.elem (tp_D "DigitOnes") (.int (Int32.ofNat j))) (.int (Int32.ofNat (48 + j % 10)))) := by decide +kernel
set_option maxRecDepth 100000 in
theorem tp_tens : ∀ j, j < 100 → (flatC tp_T)[119 + j]? = some (Cond.eq (.elem (tp_D "DigitTens") (.int (Int32.ofNat j))) (.int (Int32.ofNat (48 + j / 10)))) := by decide +kernel
/-- the law's memory at its entry -/
def jm_m0 (L : Nat) (xs : Nat → Int32) : jm_Mem := (0, fun n => pl_sp (L, xs) n, 0, 0)
/-- what is wanted of the small machine -/
def jm_lawOk : Prop := ∀ (L : Nat) (xs : Nat → Int32), L ≤ 260 → ∃ m', jm_env 20 0 [.ref jm_scr] (jm_m0 L xs) = some (.inl (some (.int 1)), m') ∧ m'.2.2.1 ≤ 600000 ∧ m'.2.2.2 ≤ 7000000
theorem jm_m0_b {L : Nat} {xs : Nat → Int32} {b : Nat} {adK : Nat → Nat} (n : Nat) : (jm_m0 L xs).2.1 n = jm_bad ∨ jm_spE (b, L, xs, adK) n ((jm_m0 L xs).2.1 n) := by
  show pl_sp (L, xs) n = _ ∨ jm_spE _ n (pl_sp (L, xs) n)
  unfold pl_sp
  by_cases h1 : n = jm_scr
  · rw [if_pos h1]; exact Or.inr (Or.inl ⟨h1, rfl⟩)
  · rw [if_neg h1]
    by_cases h2 : jm_str ≤ n ∧ n < jm_str + 7
    · rw [if_pos h2]
      exact Or.inr (Or.inr (Or.inl ⟨n - jm_str, by omega, by omega, rfl⟩))
    · rw [if_neg h2]
      by_cases h3 : n = jm_dcp
      · rw [if_pos h3]; exact Or.inr (Or.inr (Or.inr (Or.inl ⟨h3, rfl⟩)))
      · rw [if_neg h3]
        by_cases h4 : n = jm_dgt
        · rw [if_pos h4]; exact Or.inr (Or.inr (Or.inr (Or.inr (Or.inl ⟨h4, rfl⟩))))
        · rw [if_neg h4]
          by_cases h5 : n = jm_dgo
          · rw [if_pos h5]; exact Or.inr (Or.inr (Or.inr (Or.inr (Or.inr ⟨h5, rfl⟩))))
          · rw [if_neg h5]; exact Or.inl rfl
/-- the names of what was there before -/
def tp_S (adK adI : Nat → Nat) (tE tT tO : Nat) : Nat → Nat := fun k => if k < 1000 then adK k else if k < 2000 then adI (k - 1000) else if k = 2000 then tE else if k = 2001 then tT else tO
def tp_rho (b : Nat) (S4 : Nat → Nat) : Nat → Nat := fun n => if n = jm_scr then b else if n < jm_scr then S4 (n - jm_str) else if n < jm_dcp then S4 (1000 + (n - jm_int)) else if n = jm_dcp then S4 2000 else if n = jm_dgt then S4 2001 else S4 2002
theorem tp_rhoR {b L : Nat} {xs : Nat → Int32} {S4 : Nat → Nat} : jm_spR (b, L, xs, S4) (tp_rho b S4) := by
  refine ⟨if_pos rfl, fun k hk => ?_, fun k hk => ?_, ?_, ?_, ?_⟩
  · show (if jm_str + k = jm_scr then b else if jm_str + k < jm_scr then S4 (jm_str + k - jm_str) else _) = S4 k
    rw [if_neg (by unfold jm_str jm_scr; omega), if_pos (by unfold jm_str jm_scr; omega), Nat.add_sub_cancel_left]
  · show (if jm_int + k = jm_scr then b else if jm_int + k < jm_scr then _ else if jm_int + k < jm_dcp then S4 (1000 + (jm_int + k - jm_int)) else _) = S4 (1000 + k)
    rw [if_neg (by unfold jm_int jm_scr; omega), if_neg (by unfold jm_int jm_scr; omega), if_pos (by unfold jm_int jm_dcp; omega), Nat.add_sub_cancel_left]
  · show (if jm_dcp = jm_scr then b else if jm_dcp < jm_scr then _ else if jm_dcp < jm_dcp then _ else if jm_dcp = jm_dcp then S4 2000 else _) = S4 2000
    rw [if_neg (by decide), if_neg (by decide), if_neg (by decide), if_pos rfl]
  · show (if jm_dgt = jm_scr then b else if jm_dgt < jm_scr then _ else if jm_dgt < jm_dcp then _ else if jm_dgt = jm_dcp then _ else if jm_dgt = jm_dgt then S4 2001 else _) = S4 2001
    rw [if_neg (by decide), if_neg (by decide), if_neg (by decide), if_neg (by decide), if_pos rfl]
  · show (if jm_dgo = jm_scr then b else if jm_dgo < jm_scr then _ else if jm_dgo < jm_dcp then _ else if jm_dgo = jm_dcp then _ else if jm_dgo = jm_dgt then _ else S4 2002) = S4 2002
    rw [if_neg (by decide), if_neg (by decide), if_neg (by decide), if_neg (by decide), if_neg (by decide)]
theorem tp_cA {s : State} {args : Array Value} {ty : FieldType} (h : (Cond.arrayClass ty).before args s = true) (hp : ∀ cA, s.vm.findClass ("[" ++ ty.toString) = some cA → va_RA s cA ty) : ∃ cA, ArrOfT s cA ty ∧ va_RA s cA ty := by
  obtain ⟨cA, k, comp, h1, h2, h3⟩ := Cond.arrayClass_spec h
  exact ⟨cA, fun N z => ⟨fun k h => (by cases h), k, h2, comp, h3⟩, hp cA h1⟩
theorem tp_cO {s : State} {args : Array Value} {C : String} (h : (Cond.arrayOver (.object C)).before args s = true) : ∃ cA, ArrOfT s cA (.object C) ∧ va_RA s cA (.object C) := by
  obtain ⟨comp, cA, k, h1, h2, h3, h4, h5⟩ := Cond.arrayOver_spec h
  exact ⟨cA, fun N z => ⟨fun k h => (by cases h), k, h3, comp, h4⟩, k, comp, h3, h4, h1, h5⟩
theorem tp_K {s : State} {args : Array Value} (hts : ∀ w ∈ lw_tbl, w.before args s = true) : ∃ (D : va_G) (tys : List (ClassId × FieldType)), jm_tyOk tys ∧ va_K D vwCl tys s := by
  have hW : ∀ w ∈ jm_WW, w.before args s = true := fun w h => jm_hts hts w (List.mem_filter.mp h).1
  have hN : ∀ w ∈ jm_NW, w.before args s = true := fun w h => hts w (List.mem_filter.mp h).1
  have h1 : ∀ k : Nat, ∃ z : ClassId × (Nat → Nat), ∀ q : vw_C, vwCl[k]? = some q → u_Kn s q.1 q.2.1 q.2.2 z.1 z.2 := by
    intro k
    cases hq : vwCl[k]? with
    | none => exact ⟨(0, fun _ => 0), fun q h => by cases h⟩
    | some q =>
      obtain ⟨hcn, hin, ⟨ty0, hty⟩, hnm, hinst, hini⟩ := jm_clOk hq
      obtain ⟨cC, iS, hk⟩ := u_known hW hin (hW _ hinst)
      exact ⟨(cC, iS), fun q2 h => by cases h; exact hk⟩
  obtain ⟨c0, a0, r0⟩ := tp_cA (hW _ ja_I) (fun cA h => h)
  obtain ⟨c1, a1, r1⟩ := tp_cA (hW _ ja_Z) (fun cA h => h)
  obtain ⟨c2, a2, r2⟩ := tp_cA (hW _ ja_J) (fun cA h => h)
  obtain ⟨c9, a9, r9⟩ := tp_cA (hW _ ja_B) (fun cA h => h)
  obtain ⟨c4, a4, r4⟩ := tp_cO (hN _ jo_S)
  obtain ⟨c5, a5, r5⟩ := tp_cO (hN _ jo_L)
  obtain ⟨c6, a6, r6⟩ := tp_cO (hN _ jo_O)
  refine ⟨(fun k => (Classical.choose (h1 k)).1, fun k => (Classical.choose (h1 k)).2), [(c0, .int), (c1, .boolean), (c2, .long), (c0, .int), (c4, .object "PaperLand$Series"), (c5, .object "PaperLand$Land"), (c6, .object "java/lang/Object"), (c0, .int), (c0, .int), (c9, .byte)], rfl, fun k q hq => Classical.choose_spec (h1 k) q hq, ?_⟩
  intro k q hq
  match k, hq with
  | 0, hq => cases hq; exact ⟨a0, r0⟩
  | 1, hq => cases hq; exact ⟨a1, r1⟩
  | 2, hq => cases hq; exact ⟨a2, r2⟩
  | 3, hq => cases hq; exact ⟨a0, r0⟩
  | 4, hq => cases hq; exact ⟨a4, r4⟩
  | 5, hq => cases hq; exact ⟨a5, r5⟩
  | 6, hq => cases hq; exact ⟨a6, r6⟩
  | 7, hq => cases hq; exact ⟨a0, r0⟩
  | 8, hq => cases hq; exact ⟨a0, r0⟩
  | 9, hq => cases hq; exact ⟨a9, r9⟩
  | k + 10, hq => simp at hq
theorem tp_ao {s : State} {args : Array Value} {ty : FieldType} (hn : jm_isN (.arrayOver ty) = true) (h : (Cond.arrayOver ty).before args s = true) : va_Nw (.arrayOver ty) s := by
  cases ty <;> first | exact va_AO.of h | cases hn
theorem tp_nw {s : State} {args : Array Value} {w : Cond} (hw : w ∈ jm_NW) (h : w.before args s = true) : va_Nw w s := by
  have hn : jm_isN w = true := (List.mem_filter.mp hw).2
  cases w <;> first | exact va_Nw.of rfl h | (exact absurd hn (by decide)) | exact tp_ao hn h | (simp [jm_isN] at hn)
theorem jm_stOf {l : Launch} (h : l.flags = flags0) : l.stackTraces = false := by
  unfold Launch.stackTraces
  rw [h]
  decide +kernel
/-- what lies there before: the cache of Integers, the empty row, the digits -/
theorem tp_kl {s : State} {b : Nat} {A : Nat → Prop} {L : Nat} {xs : Nat → Int32} {adK : Nat → Nat} (hts : ∀ w ∈ lw_tbl, w.before #[Value.ref b] s = true) (hfl : ∀ {i : Nat} {w : Cond}, (flatC tp_T)[i]? = some w → w.before #[Value.ref b] s = true) (hA : ∀ a : Nat, a < s.heap.size → ¬ A a) :
    ∃ (adI : Nat → Nat) (tE tT tO : Nat), jm_Kl (b, L, xs, tp_S adK adI tE tT tO) A s s.heap := by
  obtain ⟨adI, hC, hel⟩ := vb_Cof (A := A) (st := tp_IC) rfl (va_eqt (hfl (i := 224) (by decide +kernel))) (hfl (i := 225) (by decide +kernel)) hA
  obtain ⟨tC, hc1, hc2⟩ := va_Tof (A := A) (tm := tp_IC) (ty := .object "java/lang/Integer") (N := 256) (f := fun j => .ref (adI j)) (by decide) (hfl (i := 223) (by decide +kernel)) (va_eqt (hfl (i := 224) (by decide +kernel))) hel hA
  obtain ⟨tE, he1, he2⟩ := va_Tof (A := A) (tm := tp_E) (ty := .object "java/lang/Object") (N := 0) (f := fun _ => .null) (by decide) (hfl (i := 10) (by decide +kernel)) (va_eqt (hfl (i := 12) (by decide +kernel))) (fun j h => absurd h (Nat.not_lt_zero j)) hA
  obtain ⟨tT, ht1, ht2⟩ := va_Tof (A := A) (tm := tp_D "DigitTens") (ty := .byte) (N := 100) (f := fun j => .int (Int32.ofNat (48 + j / 10))) (by decide) (hfl (i := 117) (by decide +kernel)) (va_eqt (hfl (i := 118) (by decide +kernel))) (fun j h => va_eqt (hfl (tp_tens j h))) hA
  obtain ⟨tO, ho1, ho2⟩ := va_Tof (A := A) (tm := tp_D "DigitOnes") (ty := .byte) (N := 100) (f := fun j => .int (Int32.ofNat (48 + j % 10))) (by decide) (hfl (i := 14) (by decide +kernel)) (va_eqt (hfl (i := 15) (by decide +kernel))) (fun j h => va_eqt (hfl (tp_ones j h))) hA
  obtain ⟨mi, hmi⟩ := va_Mi.of (hfl (i := 268) (w := Cond.isRef (.mirror "[Ljava/lang/Object;")) (by decide +kernel))
  have eI : ∀ k, k < 256 → tp_S adK adI tE tT tO (1000 + k) = adI k := by
    intro k hk
    unfold tp_S
    rw [if_neg (by omega), if_pos (by omega), Nat.add_sub_cancel_left]
  have eE : tp_S adK adI tE tT tO 2000 = tE := rfl
  have eT : tp_S adK adI tE tT tO 2001 = tT := rfl
  have eO : tp_S adK adI tE tT tO 2002 = tO := rfl
  have hC2 : vb_C (fun k => tp_S adK adI tE tT tO (1000 + k)) A s s.heap := by
    refine ⟨fun k hk => ?_, fun k hk => ?_⟩
    · show va_O "java/lang/Integer" (tp_S adK adI tE tT tO (1000 + k)) A s s.heap
      rw [eI k hk]; exact hC.1 k hk
    · have := hC.2 k hk
      dsimp only at this ⊢
      rw [eI k hk]; exact this
  have hT2 : va_T (.object "java/lang/Integer") tC 256 (fun j => .ref (tp_S adK adI tE tT tO (1000 + j))) A s s.heap := by
    obtain ⟨cell, q1, q2, q3, q4, q5, q6, q7⟩ := hc2
    refine ⟨cell, q1, q2, q3, q4, q5, fun j hj => ?_, q7⟩
    rw [q6 j hj]
    show some (Value.ref (adI j)) = some (Value.ref (tp_S adK adI tE tT tO (1000 + j)))
    rw [eI j hj]
  refine ⟨adI, tE, tT, tO, hC2, ⟨?_, tC, ?_, hT2⟩, ⟨?_, he2⟩, ⟨?_, ht2⟩, ⟨?_, ho2⟩, ⟨?_, ?_, ?_⟩, mi, hmi⟩
  · exact va_Zof (hts _ (jm_t6 (i := 122) (by decide +kernel))) (hts _ (jm_t1 (i := 36) (by decide +kernel))) (va_eqt (hfl (i := 221) (by decide +kernel))) hA
  · exact va_Zof (hts _ (jm_t6 (i := 124) (by decide +kernel))) (hts _ (jm_t1 (i := 36) (by decide +kernel))) hc1 hA
  · exact va_Zof (hts _ (jm_t3 (i := 141) (by decide +kernel))) (hts _ (jm_t1 (i := 21) (by decide +kernel))) he1 hA
  · exact va_Zof (hts _ (jm_t4 (i := 80) (by decide +kernel))) (hts _ (jm_t1 (i := 27) (by decide +kernel))) ht1 hA
  · exact va_Zof (hts _ (jm_t4 (i := 78) (by decide +kernel))) (hts _ (jm_t1 (i := 27) (by decide +kernel))) ho1 hA
  · exact va_Fw.of (hts _ (jm_t4 (i := 130) (by decide +kernel))) (hts _ (jm_t4 (i := 129) (by decide +kernel))) (hts _ (jm_t4 (i := 135) (by decide +kernel))) (hts _ (jm_t4 (i := 133) (by decide +kernel))) (hts _ (jm_t4 (i := 131) (by decide +kernel)))
  · exact va_Fw.of (hts _ (jm_t4 (i := 145) (by decide +kernel))) (hts _ (jm_t4 (i := 144) (by decide +kernel))) (hts _ (jm_t4 (i := 149) (by decide +kernel))) (hts _ (jm_t4 (i := 147) (by decide +kernel))) (hts _ (jm_t4 (i := 131) (by decide +kernel)))
  · exact va_Fw.of (hts _ (jm_t4 (i := 207) (by decide +kernel))) (hts _ (jm_t4 (i := 206) (by decide +kernel))) (hts _ (jm_t4 (i := 211) (by decide +kernel))) (hts _ (jm_t4 (i := 209) (by decide +kernel))) (hts _ (jm_t4 (i := 131) (by decide +kernel)))
theorem tp_sk {S4 adK adV : Nat → Nat} {A : Nat → Prop} {U : State} {H : Heap} (e : ∀ i, i < 12 → S4 i = adK i) (h : vk_S 12 jm_sL jm_sB adK adV A U H) : vk_S 12 jm_sL jm_sB S4 adV A U H := by
  refine ⟨fun i hi => ?_, fun i j hi hj hij => ?_⟩
  · rw [e i hi]; exact h.1 i hi
  · rw [e i hi, e j hj] at hij; exact h.2 i j hi hj hij

/-- from the entry, for every script of at most 260 ints, the law comes to its end with true -/
theorem whole_start (hdec : ∀ k M, jm_M k = some M → jm_dcs (jm_mC M) 0 (jm_mI M)) (hlaw : jm_lawOk) {p : Program} {e : Env} {s : State} {m : MethodId} {below : List Frame} {meth : Method} {c : Code} (l : Launch) (hflags : l.flags = flags0) {b L : Nat} {xs : Nat → Int32} (hL : L ≤ 260) (C0 : lw_At p s m meth c b L xs) : W p l e room_1 s m #[Value.ref b] below meth c s.heap [] 0 0 (lw_Z below #[Value.ref b] s) (entryFrame m ([Value.ref b] : List Value).toArray 7) := by
  obtain ⟨hx, hb, hr, hml, hown, hts, hX, hbl, hlocks, hgv, hnm, htab⟩ := id C0
  have hA : ∀ a : Nat, a < s.heap.size → ¬ (fun q : Nat => s.heap.size ≤ q) a := fun a h => Nat.not_le.mpr h
  have hW : ∀ w ∈ jm_WW, w.before #[Value.ref b] s = true := fun w h => jm_hts hts w (List.mem_filter.mp h).1
  have hN : ∀ w ∈ jm_NW, w.before #[Value.ref b] s = true := fun w h => hts w (List.mem_filter.mp h).1
  have hfl : ∀ {i : Nat} {w : Cond}, (flatC tp_T)[i]? = some w → w.before #[Value.ref b] s = true := fun h => flat_of_before _ hgv _ (List.mem_of_getElem? h)
  obtain ⟨D, tys, hty, hK⟩ := tp_K hts
  obtain ⟨adK, adV, hSt, hev⟩ := vk_Sof (tm := tp_tm) (N := 12) (len := jm_sL) (byt := jm_sB) (A := fun q : Nat => s.heap.size ≤ q) (fun i hi => (jk_all i hi).2.1) (fun i hi => hfl (tp_exq i hi)) (fun i hi => hfl (tp_coq i hi)) (fun i hi => hfl (tp_arq i hi)) (fun i hi => hfl (tp_leq i hi)) (fun i hi j hj => hfl (tp_elq i hi j hj)) (fun i j hi hj hij => (tp_neq i hi j hj hij).imp (fun h => hfl h) (fun h => hfl h)) hA
  obtain ⟨adI, tE, tT, tO, hKl⟩ := tp_kl (L := L) (xs := xs) (adK := adK) hts hfl hA
  have eK : ∀ i, i < 12 → tp_S adK adI tE tT tO i = adK i := fun i hi => if_pos (by omega)
  have hSt2 : vk_S 12 jm_sL jm_sB (tp_S adK adI tE tT tO) adV (fun q : Nat => s.heap.size ≤ q) s s.heap := tp_sk eK hSt
  have hKn : jm_Kn D tys (fun q : Nat => s.heap.size ≤ q) (b, L, xs, tp_S adK adI tE tT tO) s s.heap := by
    refine ⟨hK, ⟨hX, hbl, hA b hbl⟩, ⟨adV, hSt2⟩, fun i hi => ?_, ?_, ?_, ?_, fun w hw => tp_nw hw (hN w hw), fun q h => h, ?_, hKl⟩
    · show vk_R _ _ _ (tp_S adK adI tE tT tO i) s
      rw [eK i hi]
      exact vk_R.of (hts _ (jm_srfs i hi)) (hev i hi)
    · exact vx_Zqof (hts _ (jm_t5 (i := 75) (by decide +kernel))) (hts _ (jm_t1 (i := 30) (by decide +kernel))) (hfl (i := 219) (by decide +kernel)) hA
    · exact vx_Zqof (hts _ (jm_t5 (i := 77) (by decide +kernel))) (hts _ (jm_t1 (i := 30) (by decide +kernel))) (hfl (i := 220) (by decide +kernel)) hA
    · exact va_Zof (hts _ (jm_t2 (i := 103) (by decide +kernel))) (hW _ jb_str) (va_eqt (hfl (i := 4) (by decide +kernel))) hA
    · exact va_Zqof (hts _ (jm_t2 (i := 119) (by decide +kernel))) (hW _ jb_pre) (hfl (i := 5) (by decide +kernel)) hA
  obtain ⟨m', hrun, hcl, hsl⟩ := hlaw L xs hL
  have h0 : jm_M 0 = some jmM_L_law := rfl
  have hen : jm_env 20 0 [.ref jm_scr] (jm_m0 L xs) = jm_R (jm_env 19) jmM_L_law 0 (jm_en jmM_L_law [.ref jm_scr]) [] (jm_m0 L xs) := jm_env_i h0 rfl (Nat.le_of_ble_eq_true rfl)
  rw [hen] at hrun
  obtain ⟨n, hn⟩ := jm_R_iff.mp hrun
  have X : jm_Fx p s m #[Value.ref b] meth c D tys (fun q : Nat => s.heap.size ≤ q) (b, L, xs, tp_S adK adI tE tT tO) jmM_L_law := ⟨hx, hb, hr, hml, hown, hW, hlocks, hnm, htab, hKn, hty, hdec 0 _ h0, Nat.le_of_ble_eq_true rfl⟩
  have hR : jm_Rk 19 room_1 := ⟨Nat.le_of_ble_eq_true rfl, Nat.le_of_ble_eq_true rfl⟩
  have hE : jm_En p l e room_1 s m #[Value.ref b] below meth c D tys (fun q : Nat => s.heap.size ≤ q) (b, L, xs, tp_S adK adI tE tT tO) 0 0 (tp_rho b (tp_S adK adI tE tT tO)) 0 jmM_L_law (lw_Z below #[Value.ref b] s) (.inl (some (.int 1)), m') := by
    refine ⟨?_, ?_, ?_, ?_, ?_, ?_⟩
    · intro pc lc x m2 h9 _ hdg H locs cells slots ls ρ hr9 _ _ _ _
      have e1 := hr9.2.2.2.2.2.2.2.1
      have e2 := hr9.2.2.2.2.2.2.2.2
      cases h9
      refine W.widen (k := 611489) (n := 7267304) (by omega) (by omega) ?_
      refine va_forget (fun q hq => hr9.2.2.1.2.2 q hq) ?_
      exact lw_ret hx hb hr hlocks hdg
    · intro pc lc x m2 h9; cases h9
    · intro pc lc x m2 h9; cases h9
    · intro pc lc m2 h9; cases h9
    · intro pc lc st E m2 h9; cases h9
    · intro E pc lc m2 h9; cases h9
  have hst : l.stackTraces = false := jm_stOf hflags
  have hat := sim_run (l := l) (e := e) (below := below) X hR rfl (jm_cs_env hst hty hdec 19) (mo_env 19) hE (by show m'.2.2.1 ≤ 0 + 611489 ∧ m'.2.2.2 ≤ 0 + 7267304; omega) n 0 (jm_en jmM_L_law [.ref jm_scr]) [] (jm_m0 L xs) hn
  rw [lg_entry_eq]
  refine hat s.heap [] 0 0 _ (tp_rho b (tp_S adK adI tE tT tO)) ⟨?_, ?_, va_S.rf, fun n hn => absurd hn (Nat.not_lt_zero n), fun n _ => jm_m0_b n, Nat.zero_le _, tp_rhoR, rfl, rfl⟩ (en_LV (M := jmM_L_law) (as := [.ref jm_scr]) (ρ := tp_rho b (tp_S adK adI tE tT tO)) (N := 0) (Nat.le_of_ble_eq_true rfl) ?_) (fun v hv => by cases hv) jm_ag.rf (Nat.le_refl _)
  · intro k q h; cases h
  · exact ⟨fun i j p q h => (by cases h), fun k q h => (by cases h)⟩
  · intro v hv
    rcases List.mem_singleton.mp hv with rfl
    exact Or.inr (Or.inl rfl)
set_option maxHeartbeats 4000000 in
theorem lw_walk (hdec : ∀ k M, jm_M k = some M → jm_dcs (jm_mC M) 0 (jm_mI M)) (hlaw : jm_lawOk) (l : Launch) (hflags : l.flags = flags0) (b : Addr) (xs : List Int32) : MetFree l x (headSpec (Jvm.Cond.code x code maxLocals ret :: tables_1) room_1) (lw_P b xs) (fun _ _ _ _ _ => True) lw_Q := by
  refine MetFree.of_bodyS (code := code) (maxLocals := maxLocals) (ret := ret) (by decide) ?_ ?_
  · intro args s m h hn
    obtain ⟨meth, c, h1, h2, h3, h4, h5, h6, -, -⟩ := Cond.code_spec hn (atoms_spec (ws := Jvm.Cond.code x code maxLocals ret :: tables_1) h _ List.mem_cons_self)
    exact ⟨meth, c, h1, h2, h3, h4, h5, h6⟩
  · intro p e s m args below meth c s₁ B hml0 hP _
    obtain ⟨rfl, hx, hbd, hgv⟩ := hP
    obtain ⟨scr, harrAt, hlist, hof, hsmall⟩ := hx
    obtain ⟨hcb, hkn, -, -⟩ := State.arrayAt?_spec harrAt
    have hown : s.vm.findClass R_law = some m.cls := findClass_of_methodNamed B.named
    have hts0 : ∀ c ∈ (Jvm.Cond.code x code maxLocals ret :: tables_1), c.before #[Value.ref b] s = true := atoms_spec (ws := Jvm.Cond.code x code maxLocals ret :: tables_1) B.pre
    have hts : ∀ w ∈ lw_tbl, w.before #[Value.ref b] s = true := k2_hts_sels lw_privs (fun w hw => hts0 w (List.mem_cons_of_mem _ hw)) lw_privs_ok
    have hml : c.maxLocals = 7 := B.maxLocals_eq (hts0 _ List.mem_cons_self)
    have htb : c.exceptionTable.toList = [] := by
      obtain ⟨meth9, c9, h1, h2, -, -, -, -, h7, -⟩ := Cond.code_spec B.named (hts0 _ List.mem_cons_self)
      cases Option.some.inj (h1.symm.trans B.method)
      cases Option.some.inj (h2.symm.trans (Stand.of_body B).code)
      rw [Array.isEmpty_iff.mp h7]
    have X₀ : Stand p l e room_1 s m #[Value.ref b] below meth c s₁ [] 0 0 := Stand.of_body B
    have hh0 : s₁.heap = s.heap := by rw [B.state]; rfl
    have hsz : scr.slots.size = xs.length := by rw [← Array.length_toList, hlist, List.length_map]
    have hval : ∀ j : Nat, j < xs.length → scr.slots[j]? = some (.int (xs.getD j 0)) := fun j hj => by
      rw [← Array.getElem?_toList, hlist]
      simp [hj]
    have hbl : b < s.heap.size := (Array.getElem?_eq_some_iff.mp hcb).1
    have hX : va_X b xs.length (fun j => xs.getD j 0) s s.heap := ⟨scr, hcb, hof, hkn, hsz, hval⟩
    have K : W p l e room_1 s m #[Value.ref b] below meth c s₁.heap [] 0 0 (lw_Z below #[Value.ref b] s) (entryFrame m ([Value.ref b] : List Value).toArray 7) := by
      rw [hh0]
      exact whole_start hdec hlaw l hflags hbd ⟨B.exec, B.bytes, B.returns, hml, hown, hts, hX, hbl, B.notSynchronized, hgv, (name_of_methodNamed B.named B.method).1, htb⟩
    obtain ⟨t, a1, o, b1, b2, b3⟩ := K s₁ rfl X₀
    exact ⟨t, o, a1, b1, b2, b3⟩
theorem lw_pre_spec {args : Array Value} {s : State} (h : (Jvm.Cond.and given_1 narrow_1).before args s = true) (hr : rest_1_c.before args s = true) : ∃ (b : Addr) (xs : List Int32), lw_P b xs args s := by
  have hs := flat_of_before _ h
  have hq := flat_of_before _ hr
  have hc : (Cond.count 1).before args s = true := hs _ (by decide +kernel)
  have harr : (Cond.arrayOf (.arg 0) .int).before args s = true := hs _ (by decide +kernel)
  have hle : (Cond.le (.length (.arg 0)) (.int 260)).before args s = true := hs _ (by decide +kernel)
  have hlen : (Cond.isInt (.length (.arg 0))).before args s = true := hq _ (by decide +kernel)
  have hall : (Cond.all (.arg 0) (.isInt (.elem (.arg 0) (.index 0)))).before args s = true := hq _ (by decide +kernel)
  obtain ⟨b, xs, hb, hx⟩ := State.ints_of_pre rfl harr hlen hall
  have hsm : xs.length < 2 ^ 31 := hx.choose_spec.2.2.2
  have hev : (Term.length (.arg 0)).eval args s none [] s = some (.int xs.length.toInt32) := hx.length_eval hb
  have hv := Cond.le_ints hev (show (Term.int 260).eval args s none [] s = some (.int 260) from rfl)
  have hd : xs.length.toInt32 ≤ 260 := by
    simpa [Cond.before, Cond.holds, hv] using hle
  have hN : xs.length ≤ 260 := (Int32.ofNat_le_ofNat hsm (by decide)).mp (show Int32.ofNat xs.length ≤ Int32.ofNat 260 from hd)
  exact ⟨b, xs, Cond.one_arg hc (show args[0]? = some (.ref b) from hb), hx, hN, h⟩
theorem lw_comes (hdec : ∀ k M, jm_M k = some M → jm_dcs (jm_mC M) 0 (jm_mI M)) (hlaw : jm_lawOk) (l : Launch) (hflags : l.flags = flags0) : Comes l x (Jvm.Cond.code x code maxLocals ret :: tables_1) room_1 (fun tb e args s => Calls_1 tb e args s ∧ rest_1 tb e args s ∧ Pre_1 tb e args s)
    (fun _ _ args s o t => lw_Q args s o t) := by
  intro p e ha hc hk s m args below hf hfit hheap happ hpre
  obtain ⟨b, xs, hP⟩ := lw_pre_spec hpre.2.2 hpre.2.1
  obtain ⟨k, o, h1, h2, h3, hQ⟩ := lw_walk hdec hlaw l hflags b xs p e ha hc hk s m args below hf ((Spec.applies_iff_loose hf).mp happ).1 hP trivial
  exact ⟨k, o, h1, h2, h3, hQ⟩
theorem lw_frame {s t : State} {o : Outcome} {args : Array Value} (h : Framed s o t [] 611489 7267304) :
    Framed s o t (fieldLocs frame_1_writes args s ++ arrayLocs frame_1_arrays args s ++ staticLocs frame_1_statics s) 611489 7267304 := h
theorem lw_limb (hdec : ∀ k M, jm_M k = some M → jm_dcs (jm_mC M) 0 (jm_mI M)) (hlaw : jm_lawOk) (L : Cond) (hL : ∀ (args : Array Value) (s t : State), L.after args s (.returned (some (.int 1))) t = true) :
    ArmFor flags0 classFile x code maxLocals ret World_1 tables_1 room_1 Calls_1 rest_1 Pre_1
      (fun tb e a s o t => postC L tb e a s o t ∧ Framed s o t (fieldLocs frame_1_writes a s ++ arrayLocs frame_1_arrays a s ++ staticLocs frame_1_statics s) 611489 7267304) := by
  intro l hflags _ _ p e ha hc hk s m args below hf hfit hheap happ hpre
  obtain ⟨k, o, h1, h2, h3, rfl, hF⟩ := lw_comes hdec hlaw l hflags p e ha hc hk s m args below hf hfit hheap happ hpre
  exact ⟨k, _, h1, h2, h3, hL args s _, lw_frame hF⟩
theorem i_vc_of (hdec : ∀ k M, jm_M k = some M → jm_dcs (jm_mC M) 0 (jm_mI M)) (hlaw : jm_lawOk) : Claimed_1_1 ∧ Claimed_1_2 := ⟨lw_limb hdec hlaw limb_1_1 (fun args s t => by simp [limb_1_1, Cond.after, Cond.holds, Cond.value]), lw_limb hdec hlaw limb_1_2 (fun args s t => Cond.after_iff.mpr (by
  first | (rw [show limb_1_2 = Cond.eq .result (.int 1) from rfl, Cond.eq_ints (x := 1) (y := 1) rfl rfl]; simp; done) | (simp [limb_1_2, Cond.value, Term.eval]; done)))⟩
