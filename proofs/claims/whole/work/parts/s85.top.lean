/-! THE CLAIM OUT OF ONE WALK OF THE LAW'S BODY. Your part is whole_start (and what it stands on); all else here is the same for every law, but numbers. -/
def R_law : String := "PaperLandLaw"
def lw_P (b : Addr) (xs : List Int32) (args : Array Value) (s : State) : Prop := args = #[.ref b] ∧ s.IntsAt b xs ∧ xs.length ≤ 3584 ∧ (Jvm.Cond.and given_1 narrow_1).before args s = true
/-- what a walk over the start with the record d0 says of its end, said of the start itself -/
theorem lw_closed {s t : State} {o : Outcome} {d0 : Drawn} {L : List Loc} {k n : Nat} (hd0 : s.drawn.sameBut d0 lw_cs) (hv : ∃ v, o = .returned v) (hW : (s.setDrawn d0).WarmedH t.vm) (hs : (s.setDrawn d0).sameButNew ({ t with vm := s.vm } : State) L k n) : State.butDraws s t lw_cs (fun t1 => Framed s o t1 L k n) := by
  have h2 : t.drawn = d0 := congrArg State.drawn hs.1
  refine ⟨⟨hv, hW, State.sameButNew.setDrawn hs s.drawn⟩, ?_, by decide⟩
  rw [h2]
  exact hd0
def lw_Q (_ : Array Value) (s : State) (o : Outcome) (t : State) : Prop := o = .returned (some (.int 1)) ∧ State.butDraws s t lw_cs (fun t1 => Framed s o t1 [] 601024 7293034)
def lw_Z (below : List Frame) (a : Array Value) (s : State) : State → Prop := fun t => ∃ o, t.status = .running ∧ Ended t below o ∧ lw_Q a s o t
/-- the law's own end, with 1 on the stack, nothing written that was there before, its room as the claim has it; d0: the record of draws at this point (at the entry s.drawn: begin with 'refine W.base ?_' and 'have hd0 := Drawn.sameBut.refl s.drawn lw_cs') -/
theorem lw_ret {p : Program} {l : Launch} {e : Env} {s : State} {m : MethodId} {below : List Frame} {meth : Method} {c : Code} {b : Nat} {d0 : Drawn} (hd0 : s.drawn.sameBut d0 lw_cs) (hx : p.tables.exec = Jvm.exec) (hb : c.code = code) (hr : meth.sig.returnType = ret) (hlocks : meth.locks = false) {pc : Nat} {H : Heap} {ls : Array Slot} (hdg : decode code pc = .ok (.ireturn, 1)) : W p l e room_1 (s.setDrawn d0) m #[Value.ref b] below meth c H [] 601024 7293034 (lw_Z below #[Value.ref b] s) (F0 m pc ls [.int 1]) := by
  intro T hT X
  obtain ⟨fs, hret, hrun, hended, hW, hframe⟩ := X.leave (v := some (.int 1)) (hlocks := hlocks) (fun h => by rw [hr] at h; cases h)
  have hmeth' : T.vm.method? m = some meth := X.method'
  refine ⟨T.setFrames fs, ?_, .returned (some (.int 1)), hrun, hended, rfl, lw_closed hd0 ⟨_, rfl⟩ hW hframe⟩
  jvm_step X.here [X.here.top, hx, hb, hdg, hmeth', hr, ret, narrow_b1]
  (try refine ⟨rfl, ?_⟩); (try refine ⟨rfl, ?_⟩)
  first | (intro acts; rw [hret _ acts rfl rfl rfl]) | rw [hret _ _ rfl rfl rfl]
  exact Steps.refl _
/-- what holds at the law's entry -/
def lw_At (p : Program) (s : State) (m : MethodId) (meth : Method) (c : Code) (b L : Nat) (xs : Nat → Int32) : Prop :=
  p.tables.exec = Jvm.exec ∧ c.code = code ∧ meth.sig.returnType = ret ∧ c.maxLocals = 9 ∧ s.vm.findClass R_law = some m.cls ∧ (∀ w ∈ lw_tbl, w.before #[Value.ref b] s = true) ∧ va_X b L xs s s.heap ∧ b < s.heap.size ∧ meth.locks = false ∧ (Jvm.Cond.and given_1 narrow_1).before #[Value.ref b] s = true ∧ meth.name = "law" ∧ c.exceptionTable.toList = []
def tp_ex : List Nat := [90, 173, 182, 194, 205, 216, 228, 243, 258, 274, 292, 329, 372, 408, 439, 479, 510, 542, 575]
def tp_co : List Nat := [91, 174, 183, 195, 206, 217, 229, 244, 259, 275, 293, 330, 373, 409, 440, 480, 511, 543, 576]
def tp_ar : List Nat := [92, 175, 184, 196, 207, 218, 230, 245, 260, 276, 294, 331, 374, 410, 441, 481, 512, 544, 577]
def tp_le : List Nat := [93, 176, 185, 197, 208, 219, 231, 246, 261, 277, 295, 332, 375, 411, 442, 482, 513, 545, 578]
def tp_el : List (List Nat) := [[94, 95, 96, 97, 98, 99, 100, 101, 102, 103, 104, 105, 106, 107, 108, 109, 110, 111, 112, 113, 114, 115, 116, 117, 118, 119, 120, 121, 122, 123, 124, 125, 126, 127, 128, 129, 130, 131, 132, 133, 134, 135, 136, 137, 138, 139, 140, 141, 142, 143, 144, 145, 146, 147, 148, 149, 150, 151, 152, 153, 154, 155, 156, 157, 158, 159, 160, 161, 162, 163, 164, 165, 166, 167, 168, 169, 170, 171, 172], [177, 178, 179, 180], [186, 187, 188, 189, 190, 191], [198, 199, 200, 201], [209, 210, 211], [220, 221, 222], [232, 233, 234, 235, 236], [247, 248, 249, 250], [262, 263, 264, 265], [278, 279, 280, 281, 282], [296, 297, 298, 299, 300, 301, 302, 303, 304, 305, 306, 307, 308, 309, 310, 311, 312, 313, 314, 315, 316, 317, 318], [333, 334, 335, 336, 337, 338, 339, 340, 341, 342, 343, 344, 345, 346, 347, 348, 349, 350, 351, 352, 353, 354, 355, 356, 357, 358, 359, 360], [376, 377, 378, 379, 380, 381, 382, 383, 384, 385, 386, 387, 388, 389, 390, 391, 392, 393, 394, 395], [412, 413, 414, 415, 416, 417, 418, 419, 420, 421, 422, 423, 424, 425], [443, 444, 445, 446, 447, 448, 449, 450, 451, 452, 453, 454, 455, 456, 457, 458, 459, 460, 461, 462, 463, 464], [483, 484, 485, 486, 487, 488, 489, 490, 491, 492, 493, 494], [514, 515, 516, 517, 518, 519, 520, 521, 522, 523, 524, 525], [546, 547, 548, 549, 550, 551, 552, 553, 554, 555, 556, 557], [579, 580, 581, 582, 583, 584, 585, 586, 587, 588, 589, 590, 591, 592, 593, 594, 595, 596, 597, 598, 599, 600, 601]]
def tp_ne : List (List Nat) := [[0, 181, 192, 202, 212, 223, 237, 251, 266, 283, 319, 361, 396, 426, 465, 495, 526, 558, 602], [181, 0, 193, 203, 213, 224, 238, 252, 267, 284, 320, 362, 397, 427, 466, 496, 527, 559, 603], [192, 193, 0, 204, 214, 225, 239, 253, 268, 285, 321, 363, 398, 428, 467, 497, 528, 560, 604], [202, 203, 204, 0, 215, 226, 240, 254, 269, 286, 322, 364, 399, 429, 468, 498, 529, 561, 605], [212, 213, 214, 215, 0, 227, 241, 255, 270, 287, 323, 365, 400, 430, 469, 499, 530, 562, 606], [223, 224, 225, 226, 227, 0, 242, 256, 271, 288, 324, 366, 401, 431, 470, 500, 531, 563, 607], [237, 238, 239, 240, 241, 242, 0, 257, 272, 289, 325, 367, 402, 432, 471, 501, 532, 564, 608], [251, 252, 253, 254, 255, 256, 257, 0, 273, 290, 326, 368, 403, 433, 472, 502, 533, 565, 609], [266, 267, 268, 269, 270, 271, 272, 273, 0, 291, 327, 369, 404, 434, 473, 503, 534, 566, 610], [283, 284, 285, 286, 287, 288, 289, 290, 291, 0, 328, 370, 405, 435, 474, 504, 535, 567, 611], [319, 320, 321, 322, 323, 324, 325, 326, 327, 328, 0, 371, 406, 436, 475, 505, 536, 568, 612], [361, 362, 363, 364, 365, 366, 367, 368, 369, 370, 371, 0, 407, 437, 476, 506, 537, 569, 613], [396, 397, 398, 399, 400, 401, 402, 403, 404, 405, 406, 407, 0, 438, 477, 507, 538, 570, 614], [426, 427, 428, 429, 430, 431, 432, 433, 434, 435, 436, 437, 438, 0, 478, 508, 539, 571, 615], [465, 466, 467, 468, 469, 470, 471, 472, 473, 474, 475, 476, 477, 478, 0, 509, 540, 572, 616], [495, 496, 497, 498, 499, 500, 501, 502, 503, 504, 505, 506, 507, 508, 509, 0, 541, 573, 617], [526, 527, 528, 529, 530, 531, 532, 533, 534, 535, 536, 537, 538, 539, 540, 541, 0, 574, 618], [558, 559, 560, 561, 562, 563, 564, 565, 566, 567, 568, 569, 570, 571, 572, 573, 574, 0, 619], [602, 603, 604, 605, 606, 607, 608, 609, 610, 611, 612, 613, 614, 615, 616, 617, 618, 619, 0]]
abbrev tp_T : Cond := Jvm.Cond.and given_1 narrow_1
abbrev tp_tm (i : Nat) : Term := Term.string (jm_sO i).1 (jm_sO i).2.1
abbrev tp_val (i : Nat) : Term := .field (tp_tm i) "java/lang/String" "value" "[B"
set_option maxRecDepth 100000 in
theorem tp_exq : ∀ i, i < 19 → (flatC tp_T)[tp_ex.getD i 0]? = some (Cond.exactly (tp_tm i) "java/lang/String") := by decide +kernel
set_option maxRecDepth 100000 in
theorem tp_coq : ∀ i, i < 19 → (flatC tp_T)[tp_co.getD i 0]? = some (Cond.eq (.field (tp_tm i) "java/lang/String" "coder" "B") (.int 0)) := by decide +kernel
set_option maxRecDepth 100000 in
theorem tp_arq : ∀ i, i < 19 → (flatC tp_T)[tp_ar.getD i 0]? = some (Cond.arrayOf (tp_val i) .byte) := by decide +kernel
set_option maxRecDepth 100000 in
theorem tp_leq : ∀ i, i < 19 → (flatC tp_T)[tp_le.getD i 0]? = some (Cond.eq (.length (tp_val i)) (.int (Int32.ofNat (jm_sL.getD i 0)))) := by decide +kernel
set_option maxRecDepth 100000 in
theorem tp_elq : ∀ i, i < 19 → ∀ j, j < jm_sL.getD i 0 → (flatC tp_T)[(tp_el.getD i []).getD j 0]? = some (Cond.eq (.elem (tp_val i) (.int (Int32.ofNat j))) (.int ((jm_sB.getD i []).getD j 0))) := by decide +kernel
set_option maxRecDepth 100000 in
theorem tp_neq : ∀ i, i < 19 → ∀ j, j < 19 → i ≠ j → (flatC tp_T)[(tp_ne.getD i []).getD j 0]? = some (Cond.not (Cond.eq (tp_tm i) (tp_tm j))) ∨ (flatC tp_T)[(tp_ne.getD i []).getD j 0]? = some (Cond.not (Cond.eq (tp_tm j) (tp_tm i))) := by decide +kernel
/-- the law's memory at its entry -/
def jm_m0 (L : Nat) (xs : Nat → Int32) : jm_Mem := (0, fun n => if n = jm_scr then .inl (8, L, .inl xs) else if jm_str ≤ n ∧ n < jm_str + 10 then jm_sE (n - jm_str) else jm_bad, 0, 0)
/-- what is wanted of the small machine -/
def jm_lawOk : Prop := ∀ (L : Nat) (xs : Nat → Int32), L ≤ 3584 → ∃ m', jm_env 60 0 [.ref jm_scr] (jm_m0 L xs) = some (.inl (some (.int 1)), m') ∧ m'.2.2.1 ≤ 601024 ∧ m'.2.2.2 ≤ 7293034
theorem jm_m0_b {L : Nat} {xs : Nat → Int32} {b : Nat} {adK : Nat → Nat} (n : Nat) : (jm_m0 L xs).2.1 n = jm_bad ∨ jm_spE (b, L, xs, adK) n ((jm_m0 L xs).2.1 n) := by
  show (if n = jm_scr then _ else _) = _ ∨ jm_spE _ n (if n = jm_scr then _ else _)
  by_cases h1 : n = jm_scr
  · rw [if_pos h1]; exact Or.inr (Or.inl ⟨h1, rfl⟩)
  · rw [if_neg h1]
    by_cases h2 : jm_str ≤ n ∧ n < jm_str + 10
    · rw [if_pos h2]
      exact Or.inr (Or.inr ⟨n - jm_str, by omega, by omega, rfl⟩)
    · rw [if_neg h2]; exact Or.inl rfl
theorem tp_cA {s : State} {args : Array Value} {ty : FieldType} (h : (Cond.arrayClass ty).before args s = true) (hp : ∀ cA, s.vm.findClass ("[" ++ ty.toString) = some cA → va_RA s cA ty) : ∃ cA, ArrOfT s cA ty ∧ va_RA s cA ty := by
  obtain ⟨cA, k, comp, h1, h2, h3⟩ := Cond.arrayClass_spec h
  exact ⟨cA, fun N z => ⟨fun k h => (by cases h), k, h2, comp, h3⟩, hp cA h1⟩
theorem tp_cO {s : State} {args : Array Value} {C : String} (h : (Cond.arrayOver (.object C)).before args s = true) : ∃ cA, ArrOfT s cA (.object C) ∧ va_RA s cA (.object C) := by
  obtain ⟨comp, cA, k, h1, h2, h3, h4, h5⟩ := Cond.arrayOver_spec h
  exact ⟨cA, fun N z => ⟨fun k h => (by cases h), k, h3, comp, h4⟩, k, comp, h3, h4, h1, h5⟩
theorem tp_K {s : State} {args : Array Value} (hts : ∀ w ∈ lw_tbl, w.before args s = true) : ∃ (D : va_G) (tys : List (ClassId × FieldType)), jm_tyOk tys ∧ va_K D vwCl tys s := by
  have hW : ∀ w ∈ jm_WW, w.before args s = true := fun w h => hts w (List.mem_filter.mp h).1
  have hN : ∀ w ∈ jm_NW, w.before args s = true := fun w h => hts w (List.mem_filter.mp h).1
  have h1 : ∀ k : Nat, ∃ z : ClassId × (Nat → Nat), ∀ q : vw_C, vwCl[k]? = some q → u_Kn s q.1 q.2.1 q.2.2 z.1 z.2 := by
    intro k
    cases hq : vwCl[k]? with
    | none => exact ⟨(0, fun _ => 0), fun q h => by cases h⟩
    | some q =>
      obtain ⟨hcn, hin, ⟨ty0, hty⟩, hnm, hinst, hini⟩ := jm_clOk hq
      obtain ⟨cC, iS, hk⟩ := u_known hW hin (hW _ hinst)
      exact ⟨(cC, iS), fun q2 h => by cases h; exact hk⟩
  obtain ⟨c0, a0, r0⟩ := tp_cA (hW _ ja_I) (fun cA h => h)
  obtain ⟨c1, a1, r1⟩ := tp_cA (hW _ ja_Z) (fun cA h => h)
  obtain ⟨c2, a2, r2⟩ := tp_cA (hW _ ja_J) (fun cA h => h)
  obtain ⟨c3, a3, r3⟩ := tp_cA (hW _ ja_D) (fun cA h => h)
  obtain ⟨c4, a4, r4⟩ := tp_cO (hN _ jo_S)
  obtain ⟨c5, a5, r5⟩ := tp_cO (hN _ jo_L)
  refine ⟨(fun k => (Classical.choose (h1 k)).1, fun k => (Classical.choose (h1 k)).2), [(c0, .int), (c1, .boolean), (c2, .long), (c3, .double), (c4, .object "PaperLand$Series"), (c5, .object "PaperLand$Land")], rfl, fun k q hq => Classical.choose_spec (h1 k) q hq, ?_⟩
  intro k q hq
  match k, hq with
  | 0, hq => cases hq; exact ⟨a0, r0⟩
  | 1, hq => cases hq; exact ⟨a1, r1⟩
  | 2, hq => cases hq; exact ⟨a2, r2⟩
  | 3, hq => cases hq; exact ⟨a3, r3⟩
  | 4, hq => cases hq; exact ⟨a4, r4⟩
  | 5, hq => cases hq; exact ⟨a5, r5⟩
  | k + 6, hq => simp at hq
theorem tp_ao {s : State} {args : Array Value} {ty : FieldType} (hn : jm_isN (.arrayOver ty) = true) (h : (Cond.arrayOver ty).before args s = true) : va_Nw (.arrayOver ty) s := by
  cases ty <;> first | exact va_AO.of h | cases hn
theorem tp_nw {s : State} {args : Array Value} {w : Cond} (hw : w ∈ jm_NW) (h : w.before args s = true) : va_Nw w s := by
  have hn : jm_isN w = true := (List.mem_filter.mp hw).2
  cases w <;> first | exact va_Nw.of rfl h | (exact absurd hn (by decide)) | exact tp_ao hn h | (simp [jm_isN] at hn)
theorem jm_stOf {l : Launch} (h : l.flags = flags0) : l.stackTraces = false := by
  unfold Launch.stackTraces
  rw [h]
  decide +kernel
/-- from the entry, for every script of at most 3584 ints, the law comes to its end with true -/
theorem whole_start (hdec : ∀ k M, jm_M k = some M → jm_dcs (jm_mC M) 0 (jm_mI M)) (hlaw : jm_lawOk) {p : Program} {e : Env} {s : State} {m : MethodId} {below : List Frame} {meth : Method} {c : Code} (l : Launch) (hflags : l.flags = flags0) {b L : Nat} {xs : Nat → Int32} (hL : L ≤ 3584) (C0 : lw_At p s m meth c b L xs) : W p l e room_1 s m #[Value.ref b] below meth c s.heap [] 0 0 (lw_Z below #[Value.ref b] s) (entryFrame m ([Value.ref b] : List Value).toArray 9) := by
  obtain ⟨hx, hb, hr, hml, hown, hts, hX, hbl, hlocks, hgv, hnm, htab⟩ := id C0
  have hA : ∀ a : Nat, a < s.heap.size → ¬ (fun q : Nat => s.heap.size ≤ q) a := fun a h => Nat.not_le.mpr h
  have hW : ∀ w ∈ jm_WW, w.before #[Value.ref b] s = true := fun w h => hts w (List.mem_filter.mp h).1
  have hN : ∀ w ∈ jm_NW, w.before #[Value.ref b] s = true := fun w h => hts w (List.mem_filter.mp h).1
  have hfl : ∀ {i : Nat} {w : Cond}, (flatC tp_T)[i]? = some w → w.before #[Value.ref b] s = true := fun h => flat_of_before _ hgv _ (List.mem_of_getElem? h)
  obtain ⟨D, tys, hty, hK⟩ := tp_K hts
  obtain ⟨adK, adV, hSt, hev⟩ := vk_Sof (tm := tp_tm) (N := 19) (len := jm_sL) (byt := jm_sB) (A := fun q : Nat => s.heap.size ≤ q) (fun i hi => (jk_all i hi).2.1) (fun i hi => hfl (tp_exq i hi)) (fun i hi => hfl (tp_coq i hi)) (fun i hi => hfl (tp_arq i hi)) (fun i hi => hfl (tp_leq i hi)) (fun i hi j hj => hfl (tp_elq i hi j hj)) (fun i j hi hj hij => (tp_neq i hi j hj hij).imp (fun h => hfl h) (fun h => hfl h)) hA
  have hKn : jm_Kn D tys (fun q : Nat => s.heap.size ≤ q) (b, L, xs, adK) s s.heap := by
    refine ⟨hK, ⟨hX, hbl, hA b hbl⟩, ⟨adV, hSt⟩, fun i hi => vk_R.of (hts _ (jm_srfs i hi)) (hev i hi), ?_, ?_, ?_, ?_, ?_, fun w hw => tp_nw hw (hN w hw), fun q h => h, ?_⟩
    · exact vx_Zqof (hts _ (jm_t4 (i := 201) (by decide +kernel))) (hts _ (jm_t1 (i := 20) (by decide +kernel))) (hfl (i := 9) (by decide +kernel)) hA
    · exact vx_Zqof (hts _ (jm_t4 (i := 203) (by decide +kernel))) (hts _ (jm_t1 (i := 20) (by decide +kernel))) (hfl (i := 10) (by decide +kernel)) hA
    · exact va_Zof (hts _ (jm_t2 (i := 109) (by decide +kernel))) (hW _ jb_str) (va_eqt (hfl (i := 4) (by decide +kernel))) hA
    · exact va_Nc.of (hfl (i := 55) (by decide +kernel))
    · exact va_Nc.of (hfl (i := 54) (by decide +kernel))
    · exact va_Zqof (hts _ (jm_t2 (i := 125) (by decide +kernel))) (hW _ jb_pre) (hfl (i := 5) (by decide +kernel)) hA
  obtain ⟨m', hrun, hcl, hsl⟩ := hlaw L xs hL
  have h0 : jm_M 0 = some jmM_L_law := rfl
  have hen : jm_env 60 0 [.ref jm_scr] (jm_m0 L xs) = jm_R (jm_env 59) jmM_L_law 0 (jm_en jmM_L_law [.ref jm_scr]) [] (jm_m0 L xs) := jm_env_i h0 rfl (Nat.le_of_ble_eq_true rfl)
  rw [hen] at hrun
  obtain ⟨n, hn⟩ := jm_R_iff.mp hrun
  have X : jm_Fx p s m #[Value.ref b] meth c D tys (fun q : Nat => s.heap.size ≤ q) (b, L, xs, adK) jmM_L_law := ⟨hx, hb, hr, hml, hown, hW, hlocks, hnm, ⟨[], trivial, htab⟩, hKn, hty, hdec 0 _ h0, Nat.le_of_ble_eq_true rfl⟩
  have hR : jm_Rk 59 room_1 := ⟨Nat.le_of_ble_eq_true rfl, Nat.le_of_ble_eq_true rfl⟩
  have hE : jm_En p l e room_1 s m #[Value.ref b] below meth c D tys (fun q : Nat => s.heap.size ≤ q) (b, L, xs, adK) 0 0 (fun n => if n = jm_scr then b else adK (n - jm_str)) 0 jmM_L_law (lw_Z below #[Value.ref b] s) (.inl (some (.int 1)), m') := by
    refine ⟨?_, ?_, ?_, ?_, ?_, ?_⟩
    · intro pc lc x m2 h9 _ hdg H locs cells slots ls ρ hr9 _ _ _ _
      have e1 := hr9.2.2.2.2.2.2.2.1
      have e2 := hr9.2.2.2.2.2.2.2.2
      cases h9
      refine W.base ?_
      refine W.widen (k := 601024) (n := 7293034) (by omega) (by omega) ?_
      refine va_forget (fun q hq => hr9.2.2.1.2.2 q hq) ?_
      exact lw_ret (Drawn.sameBut.refl s.drawn lw_cs) hx hb hr hlocks hdg
    · intro pc lc x m2 h9; cases h9
    · intro pc lc x m2 h9; cases h9
    · intro pc lc m2 h9; cases h9
    · intro pc lc st E m2 h9; cases h9
    · intro E pc lc m2 _ h9; cases h9
  have hst : l.stackTraces = false := jm_stOf hflags
  have hat := sim_run (l := l) (e := e) (below := below) X hR trivial (jm_cs_env hst hty hdec 59) (mo_env 59) hE (by show m'.2.2.1 ≤ 0 + 601024 ∧ m'.2.2.2 ≤ 0 + 7293034; omega) n 0 (jm_en jmM_L_law [.ref jm_scr]) [] (jm_m0 L xs) hn
  rw [lg_entry_eq]
  refine hat s.heap [] 0 0 _ (fun n => if n = jm_scr then b else adK (n - jm_str)) ⟨?_, ?_, va_S.rf, fun n hn => absurd hn (Nat.not_lt_zero n), fun n _ => jm_m0_b n, Nat.zero_le _, ⟨if_pos rfl, ?_⟩, rfl, rfl⟩ (en_LV (M := jmM_L_law) (as := [.ref jm_scr]) (ρ := fun n => if n = jm_scr then b else adK (n - jm_str)) (N := 0) (Nat.le_of_ble_eq_true rfl) ?_) (fun v hv => by cases hv) jm_ag.rf (Nat.le_refl _)
  · intro k q h; cases h
  · exact ⟨fun i j p q h => (by cases h), fun k q h => (by cases h)⟩
  · intro k hk
    show (if jm_str + k = jm_scr then b else adK (jm_str + k - jm_str)) = adK k
    rw [if_neg (by unfold jm_str jm_scr; omega), Nat.add_sub_cancel_left]
  · intro v hv
    rcases List.mem_singleton.mp hv with rfl
    exact Or.inr (Or.inl rfl)
set_option maxHeartbeats 4000000 in
theorem lw_walk (hdec : ∀ k M, jm_M k = some M → jm_dcs (jm_mC M) 0 (jm_mI M)) (hlaw : jm_lawOk) (l : Launch) (hflags : l.flags = flags0) (b : Addr) (xs : List Int32) : MetFree l x (headSpec (Jvm.Cond.code x code maxLocals ret :: tables_1) room_1) (lw_P b xs) (fun _ _ _ _ _ => True) lw_Q := by
  refine MetFree.of_bodyS (code := code) (maxLocals := maxLocals) (ret := ret) (by decide) ?_ ?_
  · intro args s m h hn
    obtain ⟨meth, c, h1, h2, h3, h4, h5, h6, -, -⟩ := Cond.code_spec hn (atoms_spec (ws := Jvm.Cond.code x code maxLocals ret :: tables_1) h _ List.mem_cons_self)
    exact ⟨meth, c, h1, h2, h3, h4, h5, h6⟩
  · intro p e s m args below meth c s₁ B hml0 hP _
    obtain ⟨rfl, hx, hbd, hgv⟩ := hP
    obtain ⟨scr, harrAt, hlist, hof, hsmall⟩ := hx
    obtain ⟨hcb, hkn, -, -⟩ := State.arrayAt?_spec harrAt
    have hown : s.vm.findClass R_law = some m.cls := findClass_of_methodNamed B.named
    have hts0 : ∀ c ∈ (Jvm.Cond.code x code maxLocals ret :: tables_1), c.before #[Value.ref b] s = true := atoms_spec (ws := Jvm.Cond.code x code maxLocals ret :: tables_1) B.pre
    have hts : ∀ w ∈ lw_tbl, w.before #[Value.ref b] s = true := k2_hts_sels lw_privs (fun w hw => hts0 w (List.mem_cons_of_mem _ hw)) lw_privs_ok
    have hml : c.maxLocals = 9 := B.maxLocals_eq (hts0 _ List.mem_cons_self)
    have htb : c.exceptionTable.toList = [] := by
      obtain ⟨meth9, c9, h1, h2, -, -, -, -, h7, -⟩ := Cond.code_spec B.named (hts0 _ List.mem_cons_self)
      cases Option.some.inj (h1.symm.trans B.method)
      cases Option.some.inj (h2.symm.trans (Stand.of_body B).code)
      rw [Array.isEmpty_iff.mp h7]
    have X₀ : Stand p l e room_1 s m #[Value.ref b] below meth c s₁ [] 0 0 := Stand.of_body B
    have hh0 : s₁.heap = s.heap := by rw [B.state]; rfl
    have hsz : scr.slots.size = xs.length := by rw [← Array.length_toList, hlist, List.length_map]
    have hval : ∀ j : Nat, j < xs.length → scr.slots[j]? = some (.int (xs.getD j 0)) := fun j hj => by
      rw [← Array.getElem?_toList, hlist]
      simp [hj]
    have hbl : b < s.heap.size := (Array.getElem?_eq_some_iff.mp hcb).1
    have hX : va_X b xs.length (fun j => xs.getD j 0) s s.heap := ⟨scr, hcb, hof, hkn, hsz, hval⟩
    have K : W p l e room_1 s m #[Value.ref b] below meth c s₁.heap [] 0 0 (lw_Z below #[Value.ref b] s) (entryFrame m ([Value.ref b] : List Value).toArray 9) := by
      rw [hh0]
      exact whole_start hdec hlaw l hflags hbd ⟨B.exec, B.bytes, B.returns, hml, hown, hts, hX, hbl, B.notSynchronized, hgv, (name_of_methodNamed B.named B.method).1, htb⟩
    obtain ⟨t, a1, o, b1, b2, b3⟩ := K s₁ rfl X₀
    exact ⟨t, o, a1, b1, b2, b3⟩
theorem lw_pre_spec {args : Array Value} {s : State} (h : (Jvm.Cond.and given_1 narrow_1).before args s = true) (hr : rest_1_c.before args s = true) : ∃ (b : Addr) (xs : List Int32), lw_P b xs args s := by
  have hs := flat_of_before _ h
  have hq := flat_of_before _ hr
  have hc : (Cond.count 1).before args s = true := hs _ (by decide +kernel)
  have harr : (Cond.arrayOf (.arg 0) .int).before args s = true := hs _ (by decide +kernel)
  have hle : (Cond.le (.length (.arg 0)) (.int 3584)).before args s = true := hs _ (by decide +kernel)
  have hlen : (Cond.isInt (.length (.arg 0))).before args s = true := hq _ (by decide +kernel)
  have hall : (Cond.all (.arg 0) (.isInt (.elem (.arg 0) (.index 0)))).before args s = true := hq _ (by decide +kernel)
  obtain ⟨b, xs, hb, hx⟩ := State.ints_of_pre rfl harr hlen hall
  have hsm : xs.length < 2 ^ 31 := hx.choose_spec.2.2.2
  have hev : (Term.length (.arg 0)).eval args s none [] s = some (.int xs.length.toInt32) := hx.length_eval hb
  have hv := Cond.le_ints hev (show (Term.int 3584).eval args s none [] s = some (.int 3584) from rfl)
  have hd : xs.length.toInt32 ≤ 3584 := by
    simpa [Cond.before, Cond.holds, hv] using hle
  have hN : xs.length ≤ 3584 := (Int32.ofNat_le_ofNat hsm (by decide)).mp (show Int32.ofNat xs.length ≤ Int32.ofNat 3584 from hd)
  exact ⟨b, xs, Cond.one_arg hc (show args[0]? = some (.ref b) from hb), hx, hN, h⟩
theorem lw_comes (hdec : ∀ k M, jm_M k = some M → jm_dcs (jm_mC M) 0 (jm_mI M)) (hlaw : jm_lawOk) (l : Launch) (hflags : l.flags = flags0) : Comes l x (Jvm.Cond.code x code maxLocals ret :: tables_1) room_1 (fun tb e args s => Calls_1 tb e args s ∧ rest_1 tb e args s ∧ Pre_1 tb e args s)
    (fun _ _ args s o t => lw_Q args s o t) := by
  intro p e ha hc hk s m args below hf hfit hheap happ hpre
  obtain ⟨b, xs, hP⟩ := lw_pre_spec hpre.2.2 hpre.2.1
  obtain ⟨k, o, h1, h2, h3, hQ⟩ := lw_walk hdec hlaw l hflags b xs p e ha hc hk s m args below hf ((Spec.applies_iff_loose hf).mp happ).1 hP trivial
  exact ⟨k, o, h1, h2, h3, hQ⟩
theorem lw_frame {s t : State} {o : Outcome} {args : Array Value} (h : State.butDraws s t lw_cs (fun t1 => Framed s o t1 [] 601024 7293034)) :
    State.butDraws s t [Jvm.Choice.named "NaN.bits"] (fun t1 => Framed s o t1 (fieldLocs frame_1_writes args s ++ arrayLocs frame_1_arrays args s ++ staticLocs frame_1_statics s) 601024 7293034) := h
theorem lw_limb (hdec : ∀ k M, jm_M k = some M → jm_dcs (jm_mC M) 0 (jm_mI M)) (hlaw : jm_lawOk) (L : Cond) (hL : ∀ (args : Array Value) (s t : State), L.after args s (.returned (some (.int 1))) t = true) :
    ArmFor flags0 classFile x code maxLocals ret World_1 tables_1 room_1 Calls_1 rest_1 Pre_1
      (fun tb e a s o t => postC L tb e a s o t ∧ State.butDraws s t [Jvm.Choice.named "NaN.bits"] (fun t1 => Framed s o t1 (fieldLocs frame_1_writes a s ++ arrayLocs frame_1_arrays a s ++ staticLocs frame_1_statics s) 601024 7293034)) := by
  intro l hflags _ _ p e ha hc hk s m args below hf hfit hheap happ hpre
  obtain ⟨k, o, h1, h2, h3, rfl, hF⟩ := lw_comes hdec hlaw l hflags p e ha hc hk s m args below hf hfit hheap happ hpre
  exact ⟨k, _, h1, h2, h3, hL args s _, lw_frame hF⟩
theorem i_vc_of (hdec : ∀ k M, jm_M k = some M → jm_dcs (jm_mC M) 0 (jm_mI M)) (hlaw : jm_lawOk) : Claimed_1_1 ∧ Claimed_1_2 := ⟨lw_limb hdec hlaw limb_1_1 (fun args s t => by simp [limb_1_1, Cond.after, Cond.holds, Cond.value]), lw_limb hdec hlaw limb_1_2 (fun args s t => Cond.after_iff.mpr (by
  first | (rw [show limb_1_2 = Cond.eq .result (.int 1) from rfl, Cond.eq_ints (x := 1) (y := 1) rfl rfl]; simp; done) | (simp [limb_1_2, Cond.value, Term.eval]; done)))⟩
