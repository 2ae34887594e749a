section
-- ===== PART A: goes FIRST, ahead of the names: the tables' words, and 'selects' of the private methods out of them =====
/-- a private method of a class that the tables say can be made, by its rows of tables_1 -/
def lw_okq (q : MethodName × Nat) : Prop := (q.1.cls ≠ "java/lang/invoke/MethodHandle" ∧ q.1.cls ≠ "java/lang/invoke/VarHandle") ∧ Cond.instantiable q.1.cls q.2 ∈ tables_1 ∧ Cond.privateMethod q.1 ∈ tables_1 ∧ Cond.instanceMethod q.1 ∈ tables_1
theorem lw_p0 : lw_okq (⟨"PaperLand", "readSetup", "()Z"⟩, 14) := ⟨⟨by decide +kernel, by decide +kernel⟩, List.mem_of_getElem? (i := 38) (by decide +kernel), List.mem_of_getElem? (i := 394) (by decide +kernel), List.mem_of_getElem? (i := 395) (by decide +kernel)⟩
theorem lw_p1 : lw_okq (⟨"PaperLand$SetupReader", "readHead", "(LPaperLand$Land;)Z"⟩, 2) := ⟨⟨by decide +kernel, by decide +kernel⟩, List.mem_of_getElem? (i := 99) (by decide +kernel), List.mem_of_getElem? (i := 435) (by decide +kernel), List.mem_of_getElem? (i := 436) (by decide +kernel)⟩
theorem lw_p2 : lw_okq (⟨"PaperLand$SetupReader", "readSeries", "(LPaperLand$Land;)Z"⟩, 2) := ⟨⟨by decide +kernel, by decide +kernel⟩, List.mem_of_getElem? (i := 99) (by decide +kernel), List.mem_of_getElem? (i := 464) (by decide +kernel), List.mem_of_getElem? (i := 465) (by decide +kernel)⟩
theorem lw_p3 : lw_okq (⟨"PaperLand$SetupReader", "readSizes", "(LPaperLand$Series;)Z"⟩, 2) := ⟨⟨by decide +kernel, by decide +kernel⟩, List.mem_of_getElem? (i := 99) (by decide +kernel), List.mem_of_getElem? (i := 499) (by decide +kernel), List.mem_of_getElem? (i := 500) (by decide +kernel)⟩
theorem lw_p4 : lw_okq (⟨"PaperLand$SetupReader", "readStack", "(LPaperLand$Series;)Z"⟩, 2) := ⟨⟨by decide +kernel, by decide +kernel⟩, List.mem_of_getElem? (i := 99) (by decide +kernel), List.mem_of_getElem? (i := 504) (by decide +kernel), List.mem_of_getElem? (i := 505) (by decide +kernel)⟩
theorem lw_p5 : lw_okq (⟨"PaperLand", "forgetSlotsAndRefusals", "()V"⟩, 14) := ⟨⟨by decide +kernel, by decide +kernel⟩, List.mem_of_getElem? (i := 38) (by decide +kernel), List.mem_of_getElem? (i := 553) (by decide +kernel), List.mem_of_getElem? (i := 554) (by decide +kernel)⟩
theorem lw_p6 : lw_okq (⟨"java/util/ArrayList", "add", "(Ljava/lang/Object;[Ljava/lang/Object;I)V"⟩, 3) := ⟨⟨by decide +kernel, by decide +kernel⟩, List.mem_of_getElem? (i := 609) (by decide +kernel), List.mem_of_getElem? (i := 872) (by decide +kernel), List.mem_of_getElem? (i := 873) (by decide +kernel)⟩
theorem lw_p7 : lw_okq (⟨"java/util/ArrayList", "grow", "()[Ljava/lang/Object;"⟩, 3) := ⟨⟨by decide +kernel, by decide +kernel⟩, List.mem_of_getElem? (i := 609) (by decide +kernel), List.mem_of_getElem? (i := 876) (by decide +kernel), List.mem_of_getElem? (i := 877) (by decide +kernel)⟩
theorem lw_p8 : lw_okq (⟨"java/util/ArrayList", "grow", "(I)[Ljava/lang/Object;"⟩, 3) := ⟨⟨by decide +kernel, by decide +kernel⟩, List.mem_of_getElem? (i := 609) (by decide +kernel), List.mem_of_getElem? (i := 880) (by decide +kernel), List.mem_of_getElem? (i := 881) (by decide +kernel)⟩
theorem lw_p9 : lw_okq (⟨"PaperLandLaw", "paper", "()J"⟩, 4) := ⟨⟨by decide +kernel, by decide +kernel⟩, List.mem_of_getElem? (i := 603) (by decide +kernel), List.mem_of_getElem? (i := 921) (by decide +kernel), List.mem_of_getElem? (i := 922) (by decide +kernel)⟩
theorem lw_p10 : lw_okq (⟨"java/lang/Throwable", "fillInStackTrace", "(I)Ljava/lang/Throwable;"⟩, 6) := ⟨⟨by decide +kernel, by decide +kernel⟩, List.mem_of_getElem? (i := 1047) (by decide +kernel), List.mem_of_getElem? (i := 1045) (by decide +kernel), List.mem_of_getElem? (i := 1046) (by decide +kernel)⟩
theorem lw_p11 : lw_okq (⟨"PaperLand", "requireSize", "(II)V"⟩, 14) := ⟨⟨by decide +kernel, by decide +kernel⟩, List.mem_of_getElem? (i := 38) (by decide +kernel), List.mem_of_getElem? (i := 1143) (by decide +kernel), List.mem_of_getElem? (i := 1144) (by decide +kernel)⟩
theorem lw_p12 : lw_okq (⟨"PaperLand$Plan", "weighSeries", "(ILPaperLand$Series;I)V"⟩, 10) := ⟨⟨by decide +kernel, by decide +kernel⟩, List.mem_of_getElem? (i := 240) (by decide +kernel), List.mem_of_getElem? (i := 1225) (by decide +kernel), List.mem_of_getElem? (i := 1226) (by decide +kernel)⟩
theorem lw_p13 : lw_okq (⟨"PaperLand$Plan", "isNearer", "(II)Z"⟩, 10) := ⟨⟨by decide +kernel, by decide +kernel⟩, List.mem_of_getElem? (i := 240) (by decide +kernel), List.mem_of_getElem? (i := 1239) (by decide +kernel), List.mem_of_getElem? (i := 1240) (by decide +kernel)⟩
theorem lw_p14 : lw_okq (⟨"PaperLandLaw", "nearest", "(III)I"⟩, 4) := ⟨⟨by decide +kernel, by decide +kernel⟩, List.mem_of_getElem? (i := 603) (by decide +kernel), List.mem_of_getElem? (i := 1256) (by decide +kernel), List.mem_of_getElem? (i := 1257) (by decide +kernel)⟩
theorem lw_p15 : lw_okq (⟨"PaperLandLaw", "fitting", "(II)I"⟩, 4) := ⟨⟨by decide +kernel, by decide +kernel⟩, List.mem_of_getElem? (i := 603) (by decide +kernel), List.mem_of_getElem? (i := 1270) (by decide +kernel), List.mem_of_getElem? (i := 1271) (by decide +kernel)⟩
def lw_privs_1 : List (MethodName × Nat) := [(⟨"PaperLand", "readSetup", "()Z"⟩, 14), (⟨"PaperLand$SetupReader", "readHead", "(LPaperLand$Land;)Z"⟩, 2), (⟨"PaperLand$SetupReader", "readSeries", "(LPaperLand$Land;)Z"⟩, 2), (⟨"PaperLand$SetupReader", "readSizes", "(LPaperLand$Series;)Z"⟩, 2), (⟨"PaperLand$SetupReader", "readStack", "(LPaperLand$Series;)Z"⟩, 2), (⟨"PaperLand", "forgetSlotsAndRefusals", "()V"⟩, 14), (⟨"java/util/ArrayList", "add", "(Ljava/lang/Object;[Ljava/lang/Object;I)V"⟩, 3), (⟨"java/util/ArrayList", "grow", "()[Ljava/lang/Object;"⟩, 3), (⟨"java/util/ArrayList", "grow", "(I)[Ljava/lang/Object;"⟩, 3), (⟨"PaperLandLaw", "paper", "()J"⟩, 4), (⟨"java/lang/Throwable", "fillInStackTrace", "(I)Ljava/lang/Throwable;"⟩, 6), (⟨"PaperLand", "requireSize", "(II)V"⟩, 14), (⟨"PaperLand$Plan", "weighSeries", "(ILPaperLand$Series;I)V"⟩, 10), (⟨"PaperLand$Plan", "isNearer", "(II)Z"⟩, 10), (⟨"PaperLandLaw", "nearest", "(III)I"⟩, 4), (⟨"PaperLandLaw", "fitting", "(II)I"⟩, 4)]
theorem lw_r1 : ∀ q ∈ lw_privs_1, lw_okq q := List.forall_mem_cons.mpr ⟨lw_p0, List.forall_mem_cons.mpr ⟨lw_p1, List.forall_mem_cons.mpr ⟨lw_p2, List.forall_mem_cons.mpr ⟨lw_p3, List.forall_mem_cons.mpr ⟨lw_p4, List.forall_mem_cons.mpr ⟨lw_p5, List.forall_mem_cons.mpr ⟨lw_p6, List.forall_mem_cons.mpr ⟨lw_p7, List.forall_mem_cons.mpr ⟨lw_p8, List.forall_mem_cons.mpr ⟨lw_p9, List.forall_mem_cons.mpr ⟨lw_p10, List.forall_mem_cons.mpr ⟨lw_p11, List.forall_mem_cons.mpr ⟨lw_p12, List.forall_mem_cons.mpr ⟨lw_p13, List.forall_mem_cons.mpr ⟨lw_p14, List.forall_mem_cons.mpr ⟨lw_p15, fun _ h => absurd h List.not_mem_nil⟩⟩⟩⟩⟩⟩⟩⟩⟩⟩⟩⟩⟩⟩⟩⟩
theorem lw_p16 : lw_okq (⟨"PaperLand", "foldSheet", "(III)V"⟩, 14) := ⟨⟨by decide +kernel, by decide +kernel⟩, List.mem_of_getElem? (i := 38) (by decide +kernel), List.mem_of_getElem? (i := 1289) (by decide +kernel), List.mem_of_getElem? (i := 1290) (by decide +kernel)⟩
theorem lw_p17 : lw_okq (⟨"PaperLand$Folding", "pileUp", "()V"⟩, 7) := ⟨⟨by decide +kernel, by decide +kernel⟩, List.mem_of_getElem? (i := 304) (by decide +kernel), List.mem_of_getElem? (i := 1301) (by decide +kernel), List.mem_of_getElem? (i := 1302) (by decide +kernel)⟩
theorem lw_p18 : lw_okq (⟨"PaperLand$Folding", "layPlace", "(IIIIIZ)V"⟩, 7) := ⟨⟨by decide +kernel, by decide +kernel⟩, List.mem_of_getElem? (i := 304) (by decide +kernel), List.mem_of_getElem? (i := 1306) (by decide +kernel), List.mem_of_getElem? (i := 1307) (by decide +kernel)⟩
theorem lw_p19 : lw_okq (⟨"PaperLand$Folding", "numberPages", "()V"⟩, 7) := ⟨⟨by decide +kernel, by decide +kernel⟩, List.mem_of_getElem? (i := 304) (by decide +kernel), List.mem_of_getElem? (i := 1312) (by decide +kernel), List.mem_of_getElem? (i := 1313) (by decide +kernel)⟩
theorem lw_p20 : lw_okq (⟨"PaperLand$Folding", "frontPageByItself", "(II)I"⟩, 7) := ⟨⟨by decide +kernel, by decide +kernel⟩, List.mem_of_getElem? (i := 304) (by decide +kernel), List.mem_of_getElem? (i := 1366) (by decide +kernel), List.mem_of_getElem? (i := 1367) (by decide +kernel)⟩
theorem lw_p21 : lw_okq (⟨"PaperLand", "doBuy", "(IIIZ)I"⟩, 14) := ⟨⟨by decide +kernel, by decide +kernel⟩, List.mem_of_getElem? (i := 38) (by decide +kernel), List.mem_of_getElem? (i := 1378) (by decide +kernel), List.mem_of_getElem? (i := 1379) (by decide +kernel)⟩
theorem lw_p22 : lw_okq (⟨"PaperLand", "refuse", "(I)I"⟩, 14) := ⟨⟨by decide +kernel, by decide +kernel⟩, List.mem_of_getElem? (i := 38) (by decide +kernel), List.mem_of_getElem? (i := 1387) (by decide +kernel), List.mem_of_getElem? (i := 1388) (by decide +kernel)⟩
theorem lw_p23 : lw_okq (⟨"PaperLandLaw", "buys", "(LPaperLandLaw$Series;II)I"⟩, 4) := ⟨⟨by decide +kernel, by decide +kernel⟩, List.mem_of_getElem? (i := 603) (by decide +kernel), List.mem_of_getElem? (i := 1405) (by decide +kernel), List.mem_of_getElem? (i := 1406) (by decide +kernel)⟩
theorem lw_p24 : lw_okq (⟨"PaperLand", "doCut", "(IIIZ)I"⟩, 14) := ⟨⟨by decide +kernel, by decide +kernel⟩, List.mem_of_getElem? (i := 38) (by decide +kernel), List.mem_of_getElem? (i := 1413) (by decide +kernel), List.mem_of_getElem? (i := 1414) (by decide +kernel)⟩
theorem lw_p25 : lw_okq (⟨"PaperLandLaw", "cuts", "(LPaperLandLaw$Series;II)I"⟩, 4) := ⟨⟨by decide +kernel, by decide +kernel⟩, List.mem_of_getElem? (i := 603) (by decide +kernel), List.mem_of_getElem? (i := 1426) (by decide +kernel), List.mem_of_getElem? (i := 1427) (by decide +kernel)⟩
theorem lw_p26 : lw_okq (⟨"PaperLandLaw", "cutsOne", "(LPaperLandLaw$Series;I)V"⟩, 4) := ⟨⟨by decide +kernel, by decide +kernel⟩, List.mem_of_getElem? (i := 603) (by decide +kernel), List.mem_of_getElem? (i := 1434) (by decide +kernel), List.mem_of_getElem? (i := 1435) (by decide +kernel)⟩
theorem lw_p27 : lw_okq (⟨"PaperLand", "doSetEdge", "(IZ)I"⟩, 14) := ⟨⟨by decide +kernel, by decide +kernel⟩, List.mem_of_getElem? (i := 38) (by decide +kernel), List.mem_of_getElem? (i := 1443) (by decide +kernel), List.mem_of_getElem? (i := 1444) (by decide +kernel)⟩
theorem lw_p28 : lw_okq (⟨"PaperLand", "doPrintOrder", "(IIIZ)I"⟩, 14) := ⟨⟨by decide +kernel, by decide +kernel⟩, List.mem_of_getElem? (i := 38) (by decide +kernel), List.mem_of_getElem? (i := 1451) (by decide +kernel), List.mem_of_getElem? (i := 1452) (by decide +kernel)⟩
theorem lw_p29 : lw_okq (⟨"PaperLandLaw", "orders", "(III)I"⟩, 4) := ⟨⟨by decide +kernel, by decide +kernel⟩, List.mem_of_getElem? (i := 603) (by decide +kernel), List.mem_of_getElem? (i := 1478) (by decide +kernel), List.mem_of_getElem? (i := 1479) (by decide +kernel)⟩
def lw_privs_2 : List (MethodName × Nat) := [(⟨"PaperLand", "foldSheet", "(III)V"⟩, 14), (⟨"PaperLand$Folding", "pileUp", "()V"⟩, 7), (⟨"PaperLand$Folding", "layPlace", "(IIIIIZ)V"⟩, 7), (⟨"PaperLand$Folding", "numberPages", "()V"⟩, 7), (⟨"PaperLand$Folding", "frontPageByItself", "(II)I"⟩, 7), (⟨"PaperLand", "doBuy", "(IIIZ)I"⟩, 14), (⟨"PaperLand", "refuse", "(I)I"⟩, 14), (⟨"PaperLandLaw", "buys", "(LPaperLandLaw$Series;II)I"⟩, 4), (⟨"PaperLand", "doCut", "(IIIZ)I"⟩, 14), (⟨"PaperLandLaw", "cuts", "(LPaperLandLaw$Series;II)I"⟩, 4), (⟨"PaperLandLaw", "cutsOne", "(LPaperLandLaw$Series;I)V"⟩, 4), (⟨"PaperLand", "doSetEdge", "(IZ)I"⟩, 14), (⟨"PaperLand", "doPrintOrder", "(IIIZ)I"⟩, 14), (⟨"PaperLandLaw", "orders", "(III)I"⟩, 4)]
theorem lw_r2 : ∀ q ∈ lw_privs_2, lw_okq q := List.forall_mem_cons.mpr ⟨lw_p16, List.forall_mem_cons.mpr ⟨lw_p17, List.forall_mem_cons.mpr ⟨lw_p18, List.forall_mem_cons.mpr ⟨lw_p19, List.forall_mem_cons.mpr ⟨lw_p20, List.forall_mem_cons.mpr ⟨lw_p21, List.forall_mem_cons.mpr ⟨lw_p22, List.forall_mem_cons.mpr ⟨lw_p23, List.forall_mem_cons.mpr ⟨lw_p24, List.forall_mem_cons.mpr ⟨lw_p25, List.forall_mem_cons.mpr ⟨lw_p26, List.forall_mem_cons.mpr ⟨lw_p27, List.forall_mem_cons.mpr ⟨lw_p28, List.forall_mem_cons.mpr ⟨lw_p29, fun _ h => absurd h List.not_mem_nil⟩⟩⟩⟩⟩⟩⟩⟩⟩⟩⟩⟩⟩⟩
def lw_privs : List (MethodName × Nat) := lw_privs_1 ++ (lw_privs_2)
def lw_tbl : List Cond := k2_sels lw_privs ++ tables_1
theorem lw_privs_ok : ∀ q ∈ lw_privs, lw_okq q := by
  show ∀ q ∈ lw_privs_1 ++ (lw_privs_2), lw_okq q
  exact List.forall_mem_append.mpr ⟨lw_r1, lw_r2⟩

/-! ===== BEGIN words of one list among another's, by their places ===== -/
theorem goodIn_r {big : List Cond} (ws : List Cond) (ps : List Nat) (hp : ws = ps.filterMap (fun i => big[i]?)) (h : ws.all goodWord = true) : GoodIn big ws := by
  intro w hw
  have h1 := List.all_eq_true.mp h w hw
  rw [hp] at hw
  obtain ⟨i, -, hi⟩ := List.mem_filterMap.mp hw
  have hm : w ∈ big := by first | exact List.mem_of_getElem? hi | exact List.getElem?_mem hi
  exact ⟨hm, good_of_word h1⟩
theorem goodIn_app {big a b : List Cond} (ha : GoodIn big a) (hb : GoodIn big b) : GoodIn big (a ++ b) := fun w h => (List.mem_append.mp h).elim (ha w) (hb w)
theorem goodIn_ca {big a b : List Cond} {c : Cond} (ha : GoodIn big (c :: a)) (hb : GoodIn big b) : GoodIn big (c :: (a ++ b)) := fun w h => (List.mem_cons.mp h).elim (fun e => ha w (List.mem_cons.mpr (Or.inl e))) (fun h => (List.mem_append.mp h).elim (fun h => ha w (List.mem_cons.mpr (Or.inr h))) (hb w))
theorem goodIn_sub {big ws : List Cond} (hm : ∀ w ∈ ws, w ∈ big) (h : ws.all goodWord = true) : GoodIn big ws := fun w hw => ⟨hm w hw, good_of_word (List.all_eq_true.mp h w hw)⟩
/-! ===== END ===== -/

/-! ===== BEGIN exceptions that leave a method, and their catching by the caller (launches without stack traces) ===== -/
section VXA
/-! The laws vx_back, vx_callV, vx_callS, vx_callSW, vx_throw0, vx_throwS follow proofs of the library, with one case more: JvmDerived/Free/Laws.lean (Back.of_free), Shelf42/LK1.lean (callV, callS), Shelf/KitTraced.lean (throwNew0V, throwNewS). -/
/-- where a method has thrown q: the class by its name, the cell, what was written, the world -/
def vx_T (XC : String → State → State → Prop) (st : State) (q : Addr) (t : State) (mc ms : Nat) (free : Addr → Prop) : Prop :=
  ∃ (E : String) (ce : Cell) (L : List Loc), XC E st t ∧ t.heap[q]? = some ce ∧ ce.vm = .none ∧ st.vm.findClass E = some ce.cls ∧ st.WarmedH t.vm ∧ st.sameButNew ({ t with vm := st.vm } : State) L mc ms ∧ ∀ z ∈ L, free z.base
def vx_Q (Qc : Array Value → State → Outcome → State → Prop) (XC : String → State → State → Prop) (mc ms : Nat) (free : Addr → Prop) : Array Value → State → Outcome → State → Prop := fun a st o t =>
  (Qc a st o t ∧ ∃ L, FrameEnd st o t L mc ms ∧ ∀ q ∈ L, free q.base) ∨ ∃ q, o = .threw q ∧ vx_T XC st q t mc ms free
/-- a callee that returns or throws -/
def vx_Met (l : Launch) (y : MethodName) (ws : List Cond) (rm : Room) (Pc : Array Value → State → Prop) (Qc : Array Value → State → Outcome → State → Prop) (XC : String → State → State → Prop) (mc ms : Nat) (free : Addr → Prop) : Prop :=
  MetFree l y (headSpec ws rm) Pc (fun _ _ _ _ _ => True) (vx_Q Qc XC mc ms free)
def vx_Post (XC : String → State → State → Prop) (mc ms : Nat) (free : Addr → Prop) : Pt → Array Value → Addr → Pt → Prop := fun A a q B =>
  ∃ (g : JFrame) (mk : MethodId) (t : State) (L : List Loc) (E : String) (ce : Cell), B.U.heap = t.heap ∧ B.U.vm = t.vm ∧ XC E (A.U.calling g mk a) t ∧ t.heap[q]? = some ce ∧ ce.vm = .none ∧ A.U.vm.findClass E = some ce.cls ∧ B.locs = A.locs ++ L ∧ (∀ z ∈ L, free z.base) ∧ B.cells = A.cells + mc ∧ B.slots = A.slots + ms
def vx_Back (l : Launch) (R : Room) (p : Program) (e : Env) (below : List Frame) (s : State) (sargs : Array Value) (y : MethodName) (len W9 : Nat)
    (Pre : Pt → Array Value → Prop) (Post : Pt → Array Value → Option Value → Pt → Prop) (PostX : Pt → Array Value → Addr → Pt → Prop) : Prop :=
  ∀ (m : MethodId) (meth : Method) (c : Code) (A : Pt) (g : JFrame) (ig : Instr) (mk : MethodId) (a : Array Value),
    Stand p l e R s m sargs below meth c A.U A.locs A.cells A.slots → g.method = m → g.locals.size = c.maxLocals → decode c.code g.pc = .ok (ig, len) →
    2 * g.monitorRoom + (g.stack.map fun v => v.category).sum ≤ W9 → A.U.methodNamed? y = some mk → Pre A a →
    (∃ (v : Option Value) (B : Pt), Stand p l e R s m sargs below meth c B.U B.locs B.cells B.slots ∧ Post A a v B ∧
      Steps p.tables e below (doInvoke e (A.U.setTop g) [] mk a).1 (B.U.setTop { g with pc := g.pc + len, stack := v.toList ++ g.stack })) ∨
    (∃ (q : Addr) (B : Pt), Stand p l e R s m sargs below meth c B.U B.locs B.cells B.slots ∧ PostX A a q B ∧
      Steps p.tables e below (doInvoke e (A.U.setTop g) [] mk a).1 ((B.U.setTop g).pushFrame (.throwing q)))
section Payer
variable {l : Launch} {R : Room} {p : Program} {e : Env} {below : List Frame} {s : State} {sargs : Array Value} {y : MethodName} {len W9 : Nat}
theorem vx_back {ws : List Cond} {rm : Room} {Pc : Array Value → State → Prop} {Qc : Array Value → State → Outcome → State → Prop} {XC : String → State → State → Prop} {mc ms : Nat} {free : Addr → Prop} {bytes : ByteArray} {maxL : Nat} {ret : Option FieldType}
    (hM : vx_Met l y ws rm Pc Qc XC mc ms free) (hblind : FrameBlind Pc) (hrc : rm.cells = mc) (hrs : rm.slots = ms)
    (hframes : rm.frames + 1 ≤ R.frames) (hlocals : W9 + (maxL + 11) + rm.locals ≤ R.locals)
    (hws : ∀ w ∈ ws, ∀ a' U, s.WarmedH U.vm → w.before a' U = true) (hcode : Cond.code y bytes maxL ret ∈ ws) (hinit : ∀ a' U, s.WarmedH U.vm → (Cond.initialized y.cls).before a' U = true) :
    vx_Back l R p e below s sargs y len W9 (PreOf R mc ms Pc) (PostOf Qc mc ms free) (vx_Post XC mc ms free) := by
  intro m meth c A g ig mk a X hg hsize hdg hW hn hp
  have h1 : (headSpec ws rm).pre.before a A.U = true := atoms_intro fun w hw => hws w hw _ _ X.warmed
  have h2 : (Cond.code y bytes maxL ret).before a A.U = true := hws _ hcode _ _ X.warmed
  have h3 : (Cond.initialized y.cls).before a A.U = true := hinit _ _ X.warmed
  have h4 : A.cells + (headSpec ws rm).room.cells ≤ R.cells := by rw [show (headSpec ws rm).room.cells = mc from hrc]; exact hp.1
  have h5 : A.slots + (headSpec ws rm).room.slots ≤ R.slots := by rw [show (headSpec ws rm).room.slots = ms from hrs]; exact hp.2.1
  have hPc : Pc a (A.U.calling g mk a) := hblind _ _ _ _ hp.2.2
  obtain ⟨U, Ls, c0, s0⟩ := A
  dsimp only [Pt.U, Pt.locs, Pt.cells, Pt.slots] at h1 h2 h3 h4 h5 X hn hPc ⊢
  obtain ⟨methY, cY, hmY, hcY, -, hlY, -, -, -, -⟩ := Cond.code_spec hn h2
  obtain ⟨kY, hkY, -⟩ := className_of_methodNamed hn
  have hinitY : kY.init = .initialized := Cond.initialized_spec (findClass_of_methodNamed hn) hkY h3
  have h : At U g.method c below := by rw [hg]; exact X.here
  have hlocals9 : W9 + (maxL + 11) + (headSpec ws rm).room.locals ≤ R.locals := hlocals
  have happ : (headSpec ws rm).appliesLoose y e.platform (U.calling g mk a) = true :=
    Spec.appliesLoose_calling (g := g) h hdg hn hkY hinitY
      (X.room_calling (g := g) (R' := (headSpec ws rm).room) hsize hmY hcY hframes (by rw [hlY]; omega) h4 h5) h1
  obtain ⟨mid, hmid⟩ := h.above
  have hfr : (U.setTop g).frames = (.java g :: mid) ++ below := by rw [State.frames_setTop' g h.top, hmid]; rfl
  obtain ⟨o, s₂, hsteps, -, hend, hq⟩ := Steps.callFree hM p X.admits X.cas X.clock (acts := []) hfr happ hPc trivial
  have hq' : vx_Q Qc XC mc ms free a (U.calling g mk a) o s₂ := hq
  rw [State.frames_setTop' g h.top] at hend
  obtain ⟨g₀, hg0⟩ := Option.isSome_iff_exists.mp h.top
  obtain ⟨r, hr⟩ := State.topJava?_eq_some.mp hg0
  have hr' : (({ U with heap := s₂.heap, slotsUsed := s₂.slotsUsed } : State).setVm s₂.vm).frames = .java g₀ :: r := hr
  rcases hq' with ⟨hqc, L, hfe, hL⟩ | ⟨q, rfl, E, ce, L, hx, hce, hcv, hcl, hW₂, hsm, hL⟩
  · obtain ⟨⟨v, rfl⟩, hW₂, e2, q2, q3, q4, q5, q6⟩ := id hfe
    have e3 : s₂ = ({ (U.calling g mk a).setFrames s₂.frames with heap := s₂.heap, slotsUsed := s₂.slotsUsed } : State).setVm s₂.vm := by
      have : s₂ = ({ s₂ with vm := (U.calling g mk a).vm } : State).setVm s₂.vm := rfl
      rw [e2] at this
      exact this
    obtain ⟨c₂, i₂, len₂, hc₂, hd₂, hf₂⟩ := hend
    have hW' : U.WarmedH s₂.vm := hW₂
    have hcc : c₂ = c := by
      have h1 : s₂.code? g.method = U.code? g.method := by
        rw [State.code?_eq, State.code?_eq, hW'.alike.method?]
      exact Option.some.inj (hc₂.symm.trans (h1.trans h.code))
    subst hcc
    have hlen : len₂ = len := by rw [hdg] at hd₂; cases hd₂; rfl
    subst hlen
    have hs₂ : s₂ = (({ U with heap := s₂.heap, slotsUsed := s₂.slotsUsed } : State).setVm s₂.vm).setTop { g with pc := g.pc + len₂, stack := v.toList ++ g.stack } := by
      refine e3.trans ?_
      rw [hf₂, State.calling_eq h.top, State.setFrames_setFrames, State.setTop_of_frames _ hr', hr]
      rfl
    have hsame : U.sameButNew ({ U with heap := s₂.heap, slotsUsed := s₂.slotsUsed } : State) L mc ms := by
      refine ⟨?_, q2, q3, q4, q5, q6⟩
      obtain ⟨t, ht, -⟩ := State.frames_cons hr
      show ({ U with heap := s₂.heap, slotsUsed := s₂.slotsUsed } : State) = { U.setFrames U.frames with heap := s₂.heap, slotsUsed := s₂.slotsUsed }
      rw [State.setFrames_self ht]
    subst hg
    refine Or.inl ⟨v, ⟨(({ U with heap := s₂.heap, slotsUsed := s₂.slotsUsed } : State).setVm s₂.vm), Ls ++ L, c0 + mc, s0 + ms⟩,
      ⟨X.admits, X.cas, X.clock, X.frames, X.room, X.hears, X.method, X.code, (X.here.setHeapUsed s₂.heap s₂.slotsUsed).setVm hW'.alike, X.tail, State.WarmedH.trans X.warmed hW', X.limits, X.bytes, X.same.trans (hsame.setVm s.vm)⟩,
      ⟨g, mk, s₂, L, rfl, rfl, hqc, rfl, hL, rfl, rfl⟩, ?_⟩
    show Steps p.tables e below _ ((({ U with heap := s₂.heap, slotsUsed := s₂.slotsUsed } : State).setVm s₂.vm).setTop { g with pc := g.pc + len₂, stack := v.toList ++ g.stack })
    rw [← hs₂]
    exact hsteps
  · obtain ⟨e2, q2, q3, q4, q5, q6⟩ := id hsm
    have e3 : s₂ = ({ (U.calling g mk a).setFrames s₂.frames with heap := s₂.heap, slotsUsed := s₂.slotsUsed } : State).setVm s₂.vm := by
      have : s₂ = ({ s₂ with vm := (U.calling g mk a).vm } : State).setVm s₂.vm := rfl
      rw [e2] at this
      exact this
    have hf₂ : s₂.frames = .throwing q :: .java g :: U.frames.tail := hend
    have hW' : U.WarmedH s₂.vm := hW₂
    have hs₂ : s₂ = ((({ U with heap := s₂.heap, slotsUsed := s₂.slotsUsed } : State).setVm s₂.vm).setTop g).pushFrame (.throwing q) := by
      refine e3.trans ?_
      rw [hf₂, State.calling_eq h.top, State.setFrames_setFrames, State.pushFrame, State.frames_setTop _ hr', State.setTop_of_frames _ hr', State.setFrames_setFrames, hr]
      rfl
    have hsame : U.sameButNew ({ U with heap := s₂.heap, slotsUsed := s₂.slotsUsed } : State) L mc ms := by
      refine ⟨?_, q2, q3, q4, q5, q6⟩
      obtain ⟨t, ht, -⟩ := State.frames_cons hr
      show ({ U with heap := s₂.heap, slotsUsed := s₂.slotsUsed } : State) = { U.setFrames U.frames with heap := s₂.heap, slotsUsed := s₂.slotsUsed }
      rw [State.setFrames_self ht]
    subst hg
    refine Or.inr ⟨q, ⟨(({ U with heap := s₂.heap, slotsUsed := s₂.slotsUsed } : State).setVm s₂.vm), Ls ++ L, c0 + mc, s0 + ms⟩,
      ⟨X.admits, X.cas, X.clock, X.frames, X.room, X.hears, X.method, X.code, (X.here.setHeapUsed s₂.heap s₂.slotsUsed).setVm hW'.alike, X.tail, State.WarmedH.trans X.warmed hW', X.limits, X.bytes, X.same.trans (hsame.setVm s.vm)⟩,
      ⟨g, mk, s₂, L, E, ce, rfl, rfl, hx, hce, hcv, hcl, rfl, hL, rfl, rfl⟩, ?_⟩
    show Steps p.tables e below _ (((({ U with heap := s₂.heap, slotsUsed := s₂.slotsUsed } : State).setVm s₂.vm).setTop g).pushFrame (.throwing q))
    rw [← hs₂]
    exact hsteps
end Payer
section Calls
variable {p : Program} {l : Launch} {e : Env} {R : Room} {s : State} {m : MethodId} {args : Array Value} {below : List Frame} {meth : Method} {c : Code} {T : State} {locs : List Loc} {cells slots : Nat}
theorem vx_callV (X : Stand p l e R s m args below meth c T locs cells slots) (hexec : p.tables.exec = Jvm.exec) {own C : String} {index : Nat} {y : MethodName} {bytes : ByteArray} {maxL : Nat} {ret : Option FieldType}
    (hown : s.vm.findClass own = some m.cls) (hlink : (Cond.methodLink own index y).before args s = true) (hinst : (Cond.instanceMethod y).before args s = true) (hsel : (Cond.selects C y y).before args s = true)
    (hcode : (Cond.code y bytes maxL ret).before args s = true) (hy : y.cls ≠ "java/lang/invoke/MethodHandle" ∧ y.cls ≠ "java/lang/invoke/VarHandle")
    {W9 : Nat} {Pre : Pt → Array Value → Prop} {Post : Pt → Array Value → Option Value → Pt → Prop} {PostX : Pt → Array Value → Addr → Pt → Prop} (hK : vx_Back l R p e below s args y 3 W9 Pre Post PostX)
    {b : Addr} {cellB : Cell} (hcell : T.heap[b]? = some cellB) (hobj : cellB.vm.isStatics = false) (hcls : s.vm.findClass C = some cellB.cls)
    {g : JFrame} (hg : g.method = m) (hsize : g.locals.size = c.maxLocals) {argsL rest : List Value} (hlen : ∀ sig, parseMethodDescriptor y.desc = some sig → argsL.length = sig.parameters.length)
    (hstack : g.stack = argsL.reverse ++ .ref b :: rest) (hW : 2 * g.monitorRoom + (rest.map fun v => v.category).sum ≤ W9) (hdg : decode c.code g.pc = .ok (.invokevirtual index, 3))
    (hpre : ∀ vm₁, s.WarmedH vm₁ → Pre ⟨T.setVm vm₁, locs, cells, slots⟩ (Value.ref b :: argsL).toArray) :
    (∃ (v : Option Value) (vm₁ : Vm) (B : Pt), s.WarmedH vm₁ ∧ Stand p l e R s m args below meth c B.U B.locs B.cells B.slots ∧ Post ⟨T.setVm vm₁, locs, cells, slots⟩ (Value.ref b :: argsL).toArray v B ∧
      ∀ target, Steps p.tables e below (B.U.setTop { g with pc := g.pc + 3, stack := v.toList ++ rest }) target → Steps p.tables e below (T.setTop g) target) ∨
    (∃ (q : Addr) (vm₁ : Vm) (B : Pt), s.WarmedH vm₁ ∧ Stand p l e R s m args below meth c B.U B.locs B.cells B.slots ∧ PostX ⟨T.setVm vm₁, locs, cells, slots⟩ (Value.ref b :: argsL).toArray q B ∧
      Steps p.tables e below (T.setTop g) ((B.U.setTop { g with stack := rest }).pushFrame (.throwing q))) := by
  obtain ⟨mk, methM, hnamed, hmethM, hstM, habM⟩ := Cond.instanceMethod_spec hinst
  obtain ⟨methM', cM, hmethM', -, -, -, -, -, -, hsigM⟩ := Cond.code_spec hnamed hcode
  cases hmethM.symm.trans hmethM'
  obtain ⟨c2, r2, m2, q1, q2, q3, q4, kP, hkP, hkPi⟩ := Cond.selects_spec hsel
  cases hcls.symm.trans q1
  cases (State.methodFound?_of_named hnamed hy).symm.trans q2
  cases hnamed.symm.trans q3
  have hselP : selectMethod e.platform s.vm cellB.cls mk = .method mk := by rw [Launch.admits_selectMethod X.admits]; exact q4
  obtain ⟨vm₁, X₁, hstep₁⟩ := X.invokevirtual hexec hown hlink hnamed hmethM hstM hkP hkPi hy (a := b) (cell := cellB) hcell
    (fun z h => by rw [h] at hobj; cases hobj) hselP hmethM habM hkP hkPi (g := g) hg (argsL := argsL) (rest := rest) (hlen _ hsigM) hstack hdg
  rcases hK m meth c ⟨T.setVm vm₁, locs, cells, slots⟩ { g with stack := rest } (.invokevirtual index) mk (Value.ref b :: argsL).toArray X₁ hg hsize hdg hW (X₁.named hnamed) (hpre vm₁ X₁.warmed) with ⟨v, B, X', hpost, hsteps⟩ | ⟨q, B, X', hpost, hsteps⟩
  · exact Or.inl ⟨v, vm₁, B, X₁.warmed, X', hpost, fun target h => hstep₁ _ fun acts => by rw [doInvoke_state]; exact hsteps.trans h⟩
  · exact Or.inr ⟨q, vm₁, B, X₁.warmed, X', hpost, hstep₁ _ fun acts => by rw [doInvoke_state]; exact hsteps⟩
theorem vx_callS (X : Stand p l e R s m args below meth c T locs cells slots) (hexec : p.tables.exec = Jvm.exec) {own : String} {index : Nat} {y : MethodName} {bytes : ByteArray} {maxL : Nat} {ret : Option FieldType}
    (hown : s.vm.findClass own = some m.cls) (hlink : (Cond.methodLink own index y).before args s = true) (hstat : (Cond.static y).before args s = true) (hinit : (Cond.initialized y.cls).before args s = true)
    (hcode : (Cond.code y bytes maxL ret).before args s = true) (hy : y.cls ≠ "java/lang/invoke/MethodHandle" ∧ y.cls ≠ "java/lang/invoke/VarHandle")
    {W9 : Nat} {Pre : Pt → Array Value → Prop} {Post : Pt → Array Value → Option Value → Pt → Prop} {PostX : Pt → Array Value → Addr → Pt → Prop} (hK : vx_Back l R p e below s args y 3 W9 Pre Post PostX)
    {g : JFrame} (hg : g.method = m) (hsize : g.locals.size = c.maxLocals) {argsL rest : List Value} (hlen : ∀ sig, parseMethodDescriptor y.desc = some sig → argsL.length = sig.parameters.length)
    (hstack : g.stack = argsL.reverse ++ rest) (hW : 2 * g.monitorRoom + (rest.map fun v => v.category).sum ≤ W9) (hdg : decode c.code g.pc = .ok (.invokestatic index, 3))
    (hpre : ∀ vm₁, s.WarmedH vm₁ → Pre ⟨T.setVm vm₁, locs, cells, slots⟩ argsL.toArray) :
    (∃ (v : Option Value) (vm₁ : Vm) (B : Pt), s.WarmedH vm₁ ∧ Stand p l e R s m args below meth c B.U B.locs B.cells B.slots ∧ Post ⟨T.setVm vm₁, locs, cells, slots⟩ argsL.toArray v B ∧
      ∀ target, Steps p.tables e below (B.U.setTop { g with pc := g.pc + 3, stack := v.toList ++ rest }) target → Steps p.tables e below (T.setTop g) target) ∨
    (∃ (q : Addr) (vm₁ : Vm) (B : Pt), s.WarmedH vm₁ ∧ Stand p l e R s m args below meth c B.U B.locs B.cells B.slots ∧ PostX ⟨T.setVm vm₁, locs, cells, slots⟩ argsL.toArray q B ∧
      Steps p.tables e below (T.setTop g) ((B.U.setTop { g with stack := rest }).pushFrame (.throwing q))) := by
  obtain ⟨mk, hnamed⟩ := Cond.code_named hcode
  obtain ⟨methM, cM, hmethM, -, -, -, -, -, -, hsigM⟩ := Cond.code_spec hnamed hcode
  have hstatic : methM.isStatic = true := Cond.static_spec hnamed hmethM hstat
  obtain ⟨kP, hkP, -⟩ := className_of_methodNamed hnamed
  have hinitP : kP.init = .initialized := Cond.initialized_spec (findClass_of_methodNamed hnamed) hkP hinit
  obtain ⟨vm₁, X₁, hstep₁⟩ := X.invokestatic hexec hown hlink hnamed hmethM hstatic hkP hinitP hy (g := g) hg (argsL := argsL) (rest := rest) (hlen _ hsigM) hstack hdg
  rcases hK m meth c ⟨T.setVm vm₁, locs, cells, slots⟩ { g with stack := rest } (.invokestatic index) mk argsL.toArray X₁ hg hsize hdg hW (X₁.named hnamed) (hpre vm₁ X₁.warmed) with ⟨v, B, X', hpost, hsteps⟩ | ⟨q, B, X', hpost, hsteps⟩
  · exact Or.inl ⟨v, vm₁, B, X₁.warmed, X', hpost, fun target h => hstep₁ _ fun acts => by rw [doInvoke_state]; exact hsteps.trans h⟩
  · exact Or.inr ⟨q, vm₁, B, X₁.warmed, X', hpost, hstep₁ _ fun acts => by rw [doInvoke_state]; exact hsteps⟩
end Calls
theorem vx_cls {s : State} {T : State} {vm₁ : Vm} {E : String} {k : ClassId} (hW : s.WarmedH vm₁) (h : (T.setVm vm₁).vm.findClass E = some k) : s.vm.findClass E = some k := by
  have h1 : vm₁.findClass E = some k := h
  rw [hW.alike.findClass] at h1
  exact h1
/-- the method's frame g, with q thrown over it -/
def vx_W (p : Program) (l : Launch) (e : Env) (R : Room) (s : State) (m : MethodId) (args : Array Value) (below : List Frame) (meth : Method) (c : Code) (H : Heap) (locs : List Loc) (cells slots : Nat) (Q : State → Prop) (g : JFrame) (q : Addr) : Prop :=
  ∀ T : State, T.heap = H → Stand p l e R s m args below meth c T locs cells slots → ∃ t, Steps p.tables e below ((T.setTop g).pushFrame (.throwing q)) t ∧ Q t
def vx_Run (p : Program) (l : Launch) (e : Env) (R : Room) (s : State) (m : MethodId) (args : Array Value) (below : List Frame) (meth : Method) (c : Code) (H : Heap) (locs : List Loc) (cells slots mc ms : Nat) (g : JFrame) (rest : List Value) (Qa : State → Outcome → State → Prop) (XC : String → State → State → Prop) (free : Addr → Prop) : Prop :=
  ∀ T : State, T.heap = H → Stand p l e R s m args below meth c T locs cells slots →
    (∃ (v : Option Value) (st₀ t T' : State) (L : List Loc), st₀.heap = H ∧ Stand p l e R s m args below meth c T' (locs ++ L) (cells + mc) (slots + ms) ∧ (∀ q ∈ L, free q.base) ∧ T'.heap = t.heap ∧ T'.vm = t.vm ∧ Qa st₀ (.returned v) t ∧
      Goes p e below T g T' { g with pc := g.pc + 3, stack := v.toList ++ rest }) ∨
    (∃ (q : Addr) (st₀ t T' : State) (L : List Loc) (E : String) (ce : Cell), st₀.heap = H ∧ Stand p l e R s m args below meth c T' (locs ++ L) (cells + mc) (slots + ms) ∧ (∀ z ∈ L, free z.base) ∧ T'.heap = t.heap ∧ T'.vm = t.vm ∧ XC E st₀ t ∧ t.heap[q]? = some ce ∧ ce.vm = .none ∧ s.vm.findClass E = some ce.cls ∧
      Steps p.tables e below (T.setTop g) ((T'.setTop { g with stack := rest }).pushFrame (.throwing q)))
def vx_X {S : Type} (px : S → Prop) (B : String → S → State → Prop) (A : Nat → Prop) : String → State → State → Prop := fun E st t => ∃ u : S, px u ∧ B E u t ∧ va_F A st t
section Runs
variable {p : Program} {l : Launch} {e : Env} {R : Room} {s : State} {m : MethodId} {args : Array Value} {below : List Frame} {meth : Method} {c : Code} {H : Heap} {locs : List Loc} {cells slots : Nat}
variable {y : MethodName} {bytes cc : ByteArray} {maxL nL mc ms n index : Nat} {ret : Option FieldType} {ws : List Cond} {rm : Room} {Pc : Array Value → State → Prop} {Qc : Array Value → State → Outcome → State → Prop} {XC : String → State → State → Prop} {free : Addr → Prop} {Ts : List Cond} {own C : String} {b : Addr} {As rest : List Value} {g : JFrame}
theorem vx_callBack (cb : CallB R s args own index y bytes maxL ret ws rm mc ms n) (hM : vx_Met l y ws rm Pc Qc XC mc ms free) (hbl : FrameBlind Pc) : vx_Back l R p e below s args y 3 8 (PreOf R mc ms Pc) (PostOf Qc mc ms free) (vx_Post XC mc ms free) := by
  obtain ⟨hrc, hrs, hfr, hlo, hws, hcw, -, hini, -⟩ := cb
  exact vx_back (bytes := bytes) (maxL := maxL) (ret := ret) hM hbl hrc hrs hfr hlo hws hcw (fun a' U hW => word_at hW (Or.inl (by first | rfl | simp [Cond.onTables, Cond.keeps, Cond.steady])) hini)
theorem vx_runV (S : CallFix p m c cc nL s args Ts own) (hM : vx_Met l y ws rm Pc Qc XC mc ms free) (cw : CallW R s args own C index y bytes maxL ret ws rm mc ms n) (hp : PreV s H C b Pc As)
    (hg : g.method = m) (hn : As.length = n) (hsize : g.locals.size = nL) (hstack : g.stack = As.reverse ++ .ref b :: rest) (hW : 2 * g.monitorRoom + (rest.map fun v => v.category).sum ≤ 8) (hdg : decode cc g.pc = .ok (.invokevirtual index, 3)) (hf : cells + mc ≤ R.cells ∧ slots + ms ≤ R.slots) :
    vx_Run p l e R s m args below meth c H locs cells slots mc ms g rest (Qc (Value.ref b :: As).toArray) XC free := by
  have hK : vx_Back l R p e below s args y 3 8 (PreOf R mc ms Pc) (PostOf Qc mc ms free) (vx_Post XC mc ms free) := vx_callBack cw.1 hM hp.1
  obtain ⟨⟨-, -, -, -, -, -, hcode, -, hy, hlen, hl⟩, hin, hse⟩ := cw
  obtain ⟨hx, hb, hml, ho, -⟩ := S
  obtain ⟨-, ⟨cellB, hcB, hoB, hclB⟩, hPc⟩ := hp
  intro T hT X
  rcases vx_callV X hx (C := C) (bytes := bytes) (maxL := maxL) (ret := ret) ho hl hin hse hcode hy hK (by rw [hT]; exact hcB) hoB hclB hg (hsize.trans hml.symm) (argsL := As) (rest := rest) (fun sig h => hn.trans (hlen sig h)) hstack hW (by rw [hb]; exact hdg)
    (fun vm₁ hW₁ => ⟨hf.1, hf.2, hPc (T.setVm vm₁) hT hW₁⟩) with ⟨v, vm₁, ⟨U', l2, c2, s2⟩, hW₁, X', ⟨g', mk, t, L, e1, e2, hq, h1, hL, h2, h3⟩, st⟩ | ⟨q, vm₁, ⟨U', l2, c2, s2⟩, hW₁, X', ⟨g', mk, t, L, E, ce, e1, e2, hq, hce, hcv, hcl, h1, hL, h2, h3⟩, st⟩
  · dsimp only [Pt.U, Pt.locs, Pt.cells, Pt.slots] at X' e1 e2 h1 h2 h3 st
    subst h1; subst h2; subst h3
    exact Or.inl ⟨v, (T.setVm vm₁).calling g' mk (Value.ref b :: As).toArray, t, U', L, hT, X', hL, e1, e2, hq, st⟩
  · dsimp only [Pt.U, Pt.locs, Pt.cells, Pt.slots] at X' e1 e2 h1 h2 h3 st hcl
    subst h1; subst h2; subst h3
    exact Or.inr ⟨q, (T.setVm vm₁).calling g' mk (Value.ref b :: As).toArray, t, U', L, E, ce, hT, X', hL, e1, e2, hq, hce, hcv, vx_cls hW₁ hcl, st⟩
theorem vx_runS (S : CallFix p m c cc nL s args Ts own) (hM : vx_Met l y ws rm Pc Qc XC mc ms free) (cw : CallB R s args own index y bytes maxL ret ws rm mc ms n ∧ (Cond.static y).before args s = true) (hp : PreS s H Pc As)
    (hg : g.method = m) (hn : As.length = n) (hsize : g.locals.size = nL) (hstack : g.stack = As.reverse ++ rest) (hW : 2 * g.monitorRoom + (rest.map fun v => v.category).sum ≤ 8) (hdg : decode cc g.pc = .ok (.invokestatic index, 3)) (hf : cells + mc ≤ R.cells ∧ slots + ms ≤ R.slots) :
    vx_Run p l e R s m args below meth c H locs cells slots mc ms g rest (Qc As.toArray) XC free := by
  have hK : vx_Back l R p e below s args y 3 8 (PreOf R mc ms Pc) (PostOf Qc mc ms free) (vx_Post XC mc ms free) := vx_callBack cw.1 hM hp.1
  obtain ⟨⟨-, -, -, -, -, -, hcode, hini, hy, hlen, hl⟩, hstt⟩ := cw
  obtain ⟨hx, hb, hml, ho, -⟩ := S
  intro T hT X
  rcases vx_callS X hx (bytes := bytes) (maxL := maxL) (ret := ret) ho hl hstt hini hcode hy hK hg (hsize.trans hml.symm) (argsL := As) (rest := rest) (fun sig h => hn.trans (hlen sig h)) hstack hW (by rw [hb]; exact hdg)
    (fun vm₁ hW₁ => ⟨hf.1, hf.2, hp.2 (T.setVm vm₁) hT hW₁⟩) with ⟨v, vm₁, ⟨U', l2, c2, s2⟩, hW₁, X', ⟨g', mk, t, L, e1, e2, hq, h1, hL, h2, h3⟩, st⟩ | ⟨q, vm₁, ⟨U', l2, c2, s2⟩, hW₁, X', ⟨g', mk, t, L, E, ce, e1, e2, hq, hce, hcv, hcl, h1, hL, h2, h3⟩, st⟩
  · dsimp only [Pt.U, Pt.locs, Pt.cells, Pt.slots] at X' e1 e2 h1 h2 h3 st
    subst h1; subst h2; subst h3
    exact Or.inl ⟨v, (T.setVm vm₁).calling g' mk As.toArray, t, U', L, hT, X', hL, e1, e2, hq, st⟩
  · dsimp only [Pt.U, Pt.locs, Pt.cells, Pt.slots] at X' e1 e2 h1 h2 h3 st hcl
    subst h1; subst h2; subst h3
    exact Or.inr ⟨q, (T.setVm vm₁).calling g' mk As.toArray, t, U', L, E, ce, hT, X', hL, e1, e2, hq, hce, hcv, vx_cls hW₁ hcl, st⟩
end Runs
section Rows
variable {p : Program} {l : Launch} {e : Env} {R : Room} {s : State} {m : MethodId} {args : Array Value} {below : List Frame} {meth : Method} {c : Code} {H : Heap} {locs : List Loc} {cells slots : Nat} {Q : State → Prop}
variable {mc ms : Nat} {free : Addr → Prop} {A0 A1 : Nat → Prop} {H0 : Heap} {a : Array Value} {pc : Nat} {ls : Array Slot} {st0 rest : List Value}
theorem vx_keep {st₀ t T' : State} {L : List Loc} (h0 : st₀.heap = H) (e1 : T'.heap = t.heap) (hS : va_S A0 H0 H locs) (hA : ∀ q, q < H.size → A1 q → A0 q) (hf : ∀ q, free q → A0 q) (hL : ∀ q ∈ L, free q.base) (hF : va_F A1 st₀ t) :
    H.size ≤ T'.heap.size ∧ (∀ q : Nat, q < H.size → ¬ A1 q → T'.heap[q]? = H[q]?) ∧ va_S A0 H0 T'.heap (locs ++ L) := by
  obtain ⟨hz, hk⟩ := hF
  rw [h0] at hz hk
  exact ⟨by rw [e1]; exact hz, fun q h1 h2 => by rw [e1]; exact hk q h1 h2,
    ⟨Nat.le_trans hS.1 (by rw [e1]; exact hz), fun q h1 h2 => by rw [e1, hk q (Nat.lt_of_lt_of_le h1 hS.1) (fun z => h2 (hA q (Nat.lt_of_lt_of_le h1 hS.1) z))]; exact hS.2.1 q h1 h2, fun q hq => by
      rcases List.mem_append.mp hq with h | h
      · exact hS.2.2 q h
      · exact hf _ (hL q h)⟩⟩
theorem vx_calli {S SX : Type} {post : Int32 → S → Prop} {px : SX → Prop} {B : S → State → Prop} {BX : String → SX → State → Prop} {AX : Nat → Prop} (hr : vx_Run p l e R s m args below meth c H locs cells slots mc ms (F0 m pc ls st0) rest (va_Qi post B A1 a) (vx_X px BX AX) free) (hS : va_S A0 H0 H locs) (hA : ∀ q, q < H.size → A1 q → A0 q) (hf : ∀ q, free q → A0 q) (hAX : ∀ q, q < H.size → AX q → A0 q)
    (kx : ∀ (E : String) (ce : Cell) (q9 : Addr) (u : SX) (t : State) (H1 : Heap) (locs1 : List Loc), t.heap = H1 → s.vm.Alike t.vm → px u → BX E u t → H.size ≤ H1.size → (∀ q : Nat, q < H.size → ¬ AX q → H1[q]? = H[q]?) → va_S A0 H0 H1 locs1 → H1[q9]? = some ce → ce.vm = .none → s.vm.findClass E = some ce.cls → vx_W p l e R s m args below meth c H1 locs1 (cells + mc) (slots + ms) Q (F0 m pc ls rest) q9)
    (kk : ∀ (r : Int32) (u : S) (t : State) (H1 : Heap) (locs1 : List Loc), t.heap = H1 → s.vm.Alike t.vm → post r u → B u t → H.size ≤ H1.size → (∀ q : Nat, q < H.size → ¬ A1 q → H1[q]? = H[q]?) → va_S A0 H0 H1 locs1 → W p l e R s m args below meth c H1 locs1 (cells + mc) (slots + ms) Q (F0 m (pc + 3) ls (.int r :: rest))) : W p l e R s m args below meth c H locs cells slots Q (F0 m pc ls st0) := by
  intro T hT X
  rcases hr T hT X with ⟨v, st₀, t, T', L, h0, X', hL, e1, e2, ⟨⟨r, u, hv, hp, hb⟩, hF⟩, st⟩ | ⟨q, st₀, t, T', L, E, ce, h0, X', hL, e1, e2, ⟨u, hp, hb, hF⟩, hce, hcv, hcl, st⟩
  · cases hv
    obtain ⟨k1, k2, k3⟩ := vx_keep h0 e1 hS hA hf hL hF
    obtain ⟨t2, a1, b1⟩ := kk r u t T'.heap (locs ++ L) e1.symm (by rw [← e2]; exact X'.warmed.alike) hp hb k1 k2 k3 T' rfl X'
    exact ⟨t2, st t2 a1, b1⟩
  · obtain ⟨k1, k2, k3⟩ := vx_keep h0 e1 hS hAX hf hL hF
    obtain ⟨t2, a1, b1⟩ := kx E ce q u t T'.heap (locs ++ L) e1.symm (by rw [← e2]; exact X'.warmed.alike) hp hb k1 k2 k3 (by rw [e1]; exact hce) hcv hcl T' rfl X'
    exact ⟨t2, st.trans a1, b1⟩
theorem vx_calll {S SX : Type} {post : Int64 → S → Prop} {px : SX → Prop} {B : S → State → Prop} {BX : String → SX → State → Prop} {AX : Nat → Prop} (hr : vx_Run p l e R s m args below meth c H locs cells slots mc ms (F0 m pc ls st0) rest (va_Ql post B A1 a) (vx_X px BX AX) free) (hS : va_S A0 H0 H locs) (hA : ∀ q, q < H.size → A1 q → A0 q) (hf : ∀ q, free q → A0 q) (hAX : ∀ q, q < H.size → AX q → A0 q)
    (kx : ∀ (E : String) (ce : Cell) (q9 : Addr) (u : SX) (t : State) (H1 : Heap) (locs1 : List Loc), t.heap = H1 → s.vm.Alike t.vm → px u → BX E u t → H.size ≤ H1.size → (∀ q : Nat, q < H.size → ¬ AX q → H1[q]? = H[q]?) → va_S A0 H0 H1 locs1 → H1[q9]? = some ce → ce.vm = .none → s.vm.findClass E = some ce.cls → vx_W p l e R s m args below meth c H1 locs1 (cells + mc) (slots + ms) Q (F0 m pc ls rest) q9)
    (kk : ∀ (r : Int64) (u : S) (t : State) (H1 : Heap) (locs1 : List Loc), t.heap = H1 → s.vm.Alike t.vm → post r u → B u t → H.size ≤ H1.size → (∀ q : Nat, q < H.size → ¬ A1 q → H1[q]? = H[q]?) → va_S A0 H0 H1 locs1 → W p l e R s m args below meth c H1 locs1 (cells + mc) (slots + ms) Q (F0 m (pc + 3) ls (.long r :: rest))) : W p l e R s m args below meth c H locs cells slots Q (F0 m pc ls st0) := by
  intro T hT X
  rcases hr T hT X with ⟨v, st₀, t, T', L, h0, X', hL, e1, e2, ⟨⟨r, u, hv, hp, hb⟩, hF⟩, st⟩ | ⟨q, st₀, t, T', L, E, ce, h0, X', hL, e1, e2, ⟨u, hp, hb, hF⟩, hce, hcv, hcl, st⟩
  · cases hv
    obtain ⟨k1, k2, k3⟩ := vx_keep h0 e1 hS hA hf hL hF
    obtain ⟨t2, a1, b1⟩ := kk r u t T'.heap (locs ++ L) e1.symm (by rw [← e2]; exact X'.warmed.alike) hp hb k1 k2 k3 T' rfl X'
    exact ⟨t2, st t2 a1, b1⟩
  · obtain ⟨k1, k2, k3⟩ := vx_keep h0 e1 hS hAX hf hL hF
    obtain ⟨t2, a1, b1⟩ := kx E ce q u t T'.heap (locs ++ L) e1.symm (by rw [← e2]; exact X'.warmed.alike) hp hb k1 k2 k3 (by rw [e1]; exact hce) hcv hcl T' rfl X'
    exact ⟨t2, st.trans a1, b1⟩
theorem vx_callf {S SX : Type} {post : UInt32 → S → Prop} {px : SX → Prop} {B : S → State → Prop} {BX : String → SX → State → Prop} {AX : Nat → Prop} (hr : vx_Run p l e R s m args below meth c H locs cells slots mc ms (F0 m pc ls st0) rest (va_Qf post B A1 a) (vx_X px BX AX) free) (hS : va_S A0 H0 H locs) (hA : ∀ q, q < H.size → A1 q → A0 q) (hf : ∀ q, free q → A0 q) (hAX : ∀ q, q < H.size → AX q → A0 q)
    (kx : ∀ (E : String) (ce : Cell) (q9 : Addr) (u : SX) (t : State) (H1 : Heap) (locs1 : List Loc), t.heap = H1 → s.vm.Alike t.vm → px u → BX E u t → H.size ≤ H1.size → (∀ q : Nat, q < H.size → ¬ AX q → H1[q]? = H[q]?) → va_S A0 H0 H1 locs1 → H1[q9]? = some ce → ce.vm = .none → s.vm.findClass E = some ce.cls → vx_W p l e R s m args below meth c H1 locs1 (cells + mc) (slots + ms) Q (F0 m pc ls rest) q9)
    (kk : ∀ (r : UInt32) (u : S) (t : State) (H1 : Heap) (locs1 : List Loc), t.heap = H1 → s.vm.Alike t.vm → post r u → B u t → H.size ≤ H1.size → (∀ q : Nat, q < H.size → ¬ A1 q → H1[q]? = H[q]?) → va_S A0 H0 H1 locs1 → W p l e R s m args below meth c H1 locs1 (cells + mc) (slots + ms) Q (F0 m (pc + 3) ls (.float r :: rest))) : W p l e R s m args below meth c H locs cells slots Q (F0 m pc ls st0) := by
  intro T hT X
  rcases hr T hT X with ⟨v, st₀, t, T', L, h0, X', hL, e1, e2, ⟨⟨r, u, hv, hp, hb⟩, hF⟩, st⟩ | ⟨q, st₀, t, T', L, E, ce, h0, X', hL, e1, e2, ⟨u, hp, hb, hF⟩, hce, hcv, hcl, st⟩
  · cases hv
    obtain ⟨k1, k2, k3⟩ := vx_keep h0 e1 hS hA hf hL hF
    obtain ⟨t2, a1, b1⟩ := kk r u t T'.heap (locs ++ L) e1.symm (by rw [← e2]; exact X'.warmed.alike) hp hb k1 k2 k3 T' rfl X'
    exact ⟨t2, st t2 a1, b1⟩
  · obtain ⟨k1, k2, k3⟩ := vx_keep h0 e1 hS hAX hf hL hF
    obtain ⟨t2, a1, b1⟩ := kx E ce q u t T'.heap (locs ++ L) e1.symm (by rw [← e2]; exact X'.warmed.alike) hp hb k1 k2 k3 (by rw [e1]; exact hce) hcv hcl T' rfl X'
    exact ⟨t2, st.trans a1, b1⟩
theorem vx_calld {S SX : Type} {post : UInt64 → S → Prop} {px : SX → Prop} {B : S → State → Prop} {BX : String → SX → State → Prop} {AX : Nat → Prop} (hr : vx_Run p l e R s m args below meth c H locs cells slots mc ms (F0 m pc ls st0) rest (va_Qd post B A1 a) (vx_X px BX AX) free) (hS : va_S A0 H0 H locs) (hA : ∀ q, q < H.size → A1 q → A0 q) (hf : ∀ q, free q → A0 q) (hAX : ∀ q, q < H.size → AX q → A0 q)
    (kx : ∀ (E : String) (ce : Cell) (q9 : Addr) (u : SX) (t : State) (H1 : Heap) (locs1 : List Loc), t.heap = H1 → s.vm.Alike t.vm → px u → BX E u t → H.size ≤ H1.size → (∀ q : Nat, q < H.size → ¬ AX q → H1[q]? = H[q]?) → va_S A0 H0 H1 locs1 → H1[q9]? = some ce → ce.vm = .none → s.vm.findClass E = some ce.cls → vx_W p l e R s m args below meth c H1 locs1 (cells + mc) (slots + ms) Q (F0 m pc ls rest) q9)
    (kk : ∀ (r : UInt64) (u : S) (t : State) (H1 : Heap) (locs1 : List Loc), t.heap = H1 → s.vm.Alike t.vm → post r u → B u t → H.size ≤ H1.size → (∀ q : Nat, q < H.size → ¬ A1 q → H1[q]? = H[q]?) → va_S A0 H0 H1 locs1 → W p l e R s m args below meth c H1 locs1 (cells + mc) (slots + ms) Q (F0 m (pc + 3) ls (.double r :: rest))) : W p l e R s m args below meth c H locs cells slots Q (F0 m pc ls st0) := by
  intro T hT X
  rcases hr T hT X with ⟨v, st₀, t, T', L, h0, X', hL, e1, e2, ⟨⟨r, u, hv, hp, hb⟩, hF⟩, st⟩ | ⟨q, st₀, t, T', L, E, ce, h0, X', hL, e1, e2, ⟨u, hp, hb, hF⟩, hce, hcv, hcl, st⟩
  · cases hv
    obtain ⟨k1, k2, k3⟩ := vx_keep h0 e1 hS hA hf hL hF
    obtain ⟨t2, a1, b1⟩ := kk r u t T'.heap (locs ++ L) e1.symm (by rw [← e2]; exact X'.warmed.alike) hp hb k1 k2 k3 T' rfl X'
    exact ⟨t2, st t2 a1, b1⟩
  · obtain ⟨k1, k2, k3⟩ := vx_keep h0 e1 hS hAX hf hL hF
    obtain ⟨t2, a1, b1⟩ := kx E ce q u t T'.heap (locs ++ L) e1.symm (by rw [← e2]; exact X'.warmed.alike) hp hb k1 k2 k3 (by rw [e1]; exact hce) hcv hcl T' rfl X'
    exact ⟨t2, st.trans a1, b1⟩
theorem vx_callv {S SX : Type} {post : S → Prop} {px : SX → Prop} {B : S → State → Prop} {BX : String → SX → State → Prop} {AX : Nat → Prop} (hr : vx_Run p l e R s m args below meth c H locs cells slots mc ms (F0 m pc ls st0) rest (va_Qv post B A1 a) (vx_X px BX AX) free) (hS : va_S A0 H0 H locs) (hA : ∀ q, q < H.size → A1 q → A0 q) (hf : ∀ q, free q → A0 q) (hAX : ∀ q, q < H.size → AX q → A0 q)
    (kx : ∀ (E : String) (ce : Cell) (q9 : Addr) (u : SX) (t : State) (H1 : Heap) (locs1 : List Loc), t.heap = H1 → s.vm.Alike t.vm → px u → BX E u t → H.size ≤ H1.size → (∀ q : Nat, q < H.size → ¬ AX q → H1[q]? = H[q]?) → va_S A0 H0 H1 locs1 → H1[q9]? = some ce → ce.vm = .none → s.vm.findClass E = some ce.cls → vx_W p l e R s m args below meth c H1 locs1 (cells + mc) (slots + ms) Q (F0 m pc ls rest) q9)
    (kk : ∀ (u : S) (t : State) (H1 : Heap) (locs1 : List Loc), t.heap = H1 → s.vm.Alike t.vm → post u → B u t → H.size ≤ H1.size → (∀ q : Nat, q < H.size → ¬ A1 q → H1[q]? = H[q]?) → va_S A0 H0 H1 locs1 → W p l e R s m args below meth c H1 locs1 (cells + mc) (slots + ms) Q (F0 m (pc + 3) ls (rest))) : W p l e R s m args below meth c H locs cells slots Q (F0 m pc ls st0) := by
  intro T hT X
  rcases hr T hT X with ⟨v, st₀, t, T', L, h0, X', hL, e1, e2, ⟨⟨u, hv, hp, hb⟩, hF⟩, st⟩ | ⟨q, st₀, t, T', L, E, ce, h0, X', hL, e1, e2, ⟨u, hp, hb, hF⟩, hce, hcv, hcl, st⟩
  · cases hv
    obtain ⟨k1, k2, k3⟩ := vx_keep h0 e1 hS hA hf hL hF
    obtain ⟨t2, a1, b1⟩ := kk u t T'.heap (locs ++ L) e1.symm (by rw [← e2]; exact X'.warmed.alike) hp hb k1 k2 k3 T' rfl X'
    exact ⟨t2, st t2 a1, b1⟩
  · obtain ⟨k1, k2, k3⟩ := vx_keep h0 e1 hS hAX hf hL hF
    obtain ⟨t2, a1, b1⟩ := kx E ce q u t T'.heap (locs ++ L) e1.symm (by rw [← e2]; exact X'.warmed.alike) hp hb k1 k2 k3 (by rw [e1]; exact hce) hcv hcl T' rfl X'
    exact ⟨t2, st.trans a1, b1⟩
/-- caught by the row x of this method's table; the rows ahead don't take it -/
theorem vx_catch {own name : String} {E : String} {ce : Cell} {q : Addr} (hown : s.vm.findClass own = some m.cls) (pre : List ExceptionTableEntry) (x : ExceptionTableEntry) (suf : List ExceptionTableEntry) (hsplit : c.exceptionTable.toList = pre ++ x :: suf)
    (hpass : ∀ z ∈ pre, covers z pc = false ∨ (z.catchType ≠ 0 ∧ ∃ nm : String, (Cond.classLink own z.catchType nm).before args s = true ∧ va_Nc E nm s)) (hx : covers x pc = true) (h0 : x.catchType ≠ 0)
    (hlink : (Cond.classLink own x.catchType name).before args s = true) (hcast : (Cond.castable E name).before args s = true) (hcell : H[q]? = some ce) (hv : ce.vm = .none) (hcl : s.vm.findClass E = some ce.cls)
    (kk : W p l e R s m args below meth c H locs cells slots Q (F0 m x.handlerPc ls [.ref q])) : vx_W p l e R s m args below meth c H locs cells slots Q (F0 m pc ls rest) q := by
  intro T hT X
  have hpl : e.platform.magicAccessors = ({} : Platform).magicAccessors := by rw [X.admits.platform]
  obtain ⟨c3, c4, hc3, hc4, hasg⟩ := Cond.castable_spec hcast
  cases Option.some.inj (hc3.symm.trans hcl)
  obtain ⟨c5, hc5, hcl5⟩ := Cond.classLink_spec hown hlink e.platform hpl
  cases Option.some.inj (hc4.symm.trans hc5)
  obtain ⟨vm', X', st⟩ := X.thenCaughtThrough q (g := F0 m pc ls rest) rfl (Steps.refl _) (by rw [hT]; exact hcell) (by rw [hv]; rfl) (by obtain ⟨k9, h9, -⟩ := Vm.findClass_spec hcl; exact ⟨k9, h9⟩) pre x suf hsplit
    (fun z hz => by
      rcases hpass z hz with h | ⟨hz0, nm, hl1, hn1⟩
      · exact Or.inl h
      · obtain ⟨c6, hc6, hcl6⟩ := Cond.classLink_spec hown hl1 e.platform hpl
        obtain ⟨a8, b8, h1, h2, h3⟩ := hn1
        cases Option.some.inj (h1.symm.trans hcl)
        cases Option.some.inj (h2.symm.trans hc6)
        exact Or.inr ⟨hz0, _, hcl6, h3⟩) hx (Or.inr ⟨h0, c4, hcl5, hasg⟩)
  obtain ⟨t, a1, b1⟩ := kk (T.setVm vm') hT X'
  exact ⟨t, st.trans a1, b1⟩
end Rows
section Ends
variable {p : Program} {l : Launch} {e : Env} {R : Room} {s : State} {m : MethodId} {args : Array Value} {below : List Frame} {meth : Method} {c : Code} {H : Heap} {locs : List Loc} {cells slots : Nat} {Q : State → Prop}
variable {mc ms : Nat} {free : Addr → Prop} {A0 A1 : Nat → Prop} {H0 : Heap} {a : Array Value} {ls : Array Slot} {st0 rest : List Value}
variable {Qc : Array Value → State → Outcome → State → Prop} {XC : String → State → State → Prop}
/-- what a body that may throw owes at its end -/
def vx_MQ (below : List Frame) (Qc : Array Value → State → Outcome → State → Prop) (XC : String → State → State → Prop) (a : Array Value) (s : State) (mc ms : Nat) (free : Addr → Prop) : State → Prop := fun t =>
  ∃ o, t.status = .running ∧ Ended t below o ∧ vx_Q Qc XC mc ms free a s o t
theorem vx_ret {g : JFrame} {mc ms : Nat} (k : W p l e R s m args below meth c H locs cells slots (MQ below Qc args s mc ms free) g) : W p l e R s m args below meth c H locs cells slots (vx_MQ below Qc XC args s mc ms free) g := by
  intro T hT X
  obtain ⟨t, a1, o, b1, b2, b3, b4⟩ := k T hT X
  exact ⟨t, a1, o, b1, b2, Or.inl ⟨b3, b4⟩⟩
/-- not caught here: it goes on to the caller -/
theorem vx_widen {g : JFrame} {q : Addr} {k n : Nat} (h1 : cells ≤ k) (h2 : slots ≤ n) (kk : vx_W p l e R s m args below meth c H locs k n Q g q) : vx_W p l e R s m args below meth c H locs cells slots Q g q := fun T hT X => kk T hT (stand_widen X h1 h2)
theorem vx_out {pc : Nat} {E : String} {ce : Cell} {q : Addr} {mc ms : Nat} (hout : ∀ x ∈ c.exceptionTable.toList, covers x pc = false) (hlocks : meth.locks = false) (hcell : H[q]? = some ce) (hv : ce.vm = .none) (hcl : s.vm.findClass E = some ce.cls)
    (hx : ∀ t : State, t.heap = H → s.vm.Alike t.vm → XC E s t) (hf : ∀ z ∈ locs, free z.base) (hc : cells ≤ mc) (hs : slots ≤ ms) :
    vx_W p l e R s m args below meth c H locs cells slots (vx_MQ below Qc XC args s mc ms free) (F0 m pc ls rest) q := by
  intro T hT X
  obtain ⟨st1, hrun, hend, hW, hsm⟩ := X.leaveThrown q (g := F0 m pc ls rest) rfl rfl rfl hout hlocks
  have hcell9 : (T.setFrames (.throwing q :: below)).heap[q]? = some ce := by
    show T.heap[q]? = some ce
    rw [hT]; exact hcell
  exact ⟨_, st1, .threw q, hrun, hend, Or.inr ⟨q, rfl, E, ce, locs, hx _ hT hW.alike, hcell9, hv, hcl, hW, hsm.mono hc hs, hf⟩⟩
theorem vx_frame {U : State} {k n : Nat} (h : s.sameButNew ({ U with vm := s.vm } : State) locs k n) : s.heap.size ≤ U.heap.size ∧ ∀ q : Nat, q < s.heap.size → (∀ z ∈ locs, z.base ≠ q) → U.heap[q]? = s.heap[q]? := by
  obtain ⟨-, h2, -, -, -, h6⟩ := h
  refine ⟨h2, fun q hq hz => ?_⟩
  obtain ⟨c9, e1, e2, e3, e4⟩ := h6 q _ (Array.getElem?_eq_getElem hq)
  have hs : c9.slots = (s.heap[q]).slots := Array.ext_getElem? fun i => e4 i fun hm => hz _ hm rfl
  have h9 : c9 = s.heap[q] := by
    rw [hs] at e2
    exact e2
  have e5 : U.heap[q]? = some c9 := e1
  rw [e5, h9, Array.getElem?_eq_getElem hq]
/-- the words of a throw but the four that speak of the heap -/
def vx_no (w : Cond) : Bool := decide (w ≠ .isRef (.static Bundle.tN "UNASSIGNED_STACK" Bundle.steD)) && decide (w ≠ .isRef (.static Bundle.tN "SUPPRESSED_SENTINEL" Bundle.listD)) && decide (w ≠ .laysStatic Bundle.tN "UNASSIGNED_STACK" Bundle.steD) && decide (w ≠ .laysStatic Bundle.tN "SUPPRESSED_SENTINEL" Bundle.listD)
def vx_at0 (own : String) (ic : Nat) (X : String) (names : List String) : List Cond := (Bundle.ownAtoms0 own ic X names).filter vx_no
def vx_atS (own : String) (ic : Nat) (X : String) (names : List String) : List Cond := (Bundle.ownAtoms own ic X names).filter vx_no
/-- a word that the tables alone decide, or a good one -/
def vx_ot (w : Cond) : Bool := w.onTables || goodWord w
theorem vx_ot_at {args a' : Array Value} {s U : State} {w : Cond} (hW : s.WarmedH U.vm) (hvm : s.vm = U.vm) (hg : vx_ot w = true) (h : w.before args s = true) : w.before a' U = true := by
  simp only [vx_ot, Bool.or_eq_true] at hg
  rcases hg with hg | hg
  · exact va_tabs hg hvm h
  · exact word_at hW (good_of_word hg) h
/-- a list's words: the good ones out of the method's own list, the others by premises of their own -/
theorem vx_hat {args : Array Value} {s : State} {L B : List Cond} (h1 : ∀ w ∈ L.filter goodWord, w.before args s = true) (h2 : ∀ w ∈ L.filter (fun w => !goodWord w), w ∈ B) (h3 : ∀ w ∈ B, w.before args s = true) : ∀ w ∈ L, w.before args s = true := by
  intro w hw
  by_cases g : goodWord w = true
  · exact h1 w (List.mem_filter.mpr ⟨hw, g⟩)
  · refine h3 w (h2 w (List.mem_filter.mpr ⟨hw, ?_⟩))
    show (!goodWord w) = true
    cases hgw : goodWord w
    · rfl
    · exact absurd hgw g
theorem vx_c {args : Array Value} {s : State} {w : Cond} {B : List Cond} (h : w.before args s = true) (t : ∀ w ∈ B, w.before args s = true) : ∀ w' ∈ w :: B, w'.before args s = true := fun w' h' => (List.mem_cons.mp h').elim (fun e => by rw [e]; exact h) (t w')
theorem vx_n {args : Array Value} {s : State} : ∀ w ∈ ([] : List Cond), w.before args s = true := fun _ h => nomatch h
theorem vx_own {args : Array Value} {s : State} {L : List Cond} (h1 : ∀ w ∈ L.filter vx_no, w.before args s = true)
    (hU : (Cond.isRef (.static Bundle.tN "UNASSIGNED_STACK" Bundle.steD)).before args s = true) (hN : (Cond.isRef (.static Bundle.tN "SUPPRESSED_SENTINEL" Bundle.listD)).before args s = true)
    (lU : (Cond.laysStatic Bundle.tN "UNASSIGNED_STACK" Bundle.steD).before args s = true) (lN : (Cond.laysStatic Bundle.tN "SUPPRESSED_SENTINEL" Bundle.listD).before args s = true) : ∀ w ∈ L, w.before args s = true := by
  intro w hw
  by_cases e1 : w = .isRef (.static Bundle.tN "UNASSIGNED_STACK" Bundle.steD)
  · rw [e1]; exact hU
  · by_cases e2 : w = .isRef (.static Bundle.tN "SUPPRESSED_SENTINEL" Bundle.listD)
    · rw [e2]; exact hN
    · by_cases e3 : w = .laysStatic Bundle.tN "UNASSIGNED_STACK" Bundle.steD
      · rw [e3]; exact lU
      · by_cases e4 : w = .laysStatic Bundle.tN "SUPPRESSED_SENTINEL" Bundle.listD
        · rw [e4]; exact lN
        · exact h1 w (List.mem_filter.mpr ⟨hw, by unfold vx_no; rw [decide_eq_true e1, decide_eq_true e2, decide_eq_true e3, decide_eq_true e4]; rfl⟩)
/-- where a static field lies, its class's statics cell in H -/
def vx_L (C n d : String) (A : Nat → Prop) (U : State) (H : Heap) : Prop := ∃ (c : ClassId) (k : Class) (i : Nat) (f : Field) (a : Nat) (cell : Cell), U.vm.findClass C = some c ∧ U.fieldFound? C n d = some (c, k, i, f) ∧ f.isStatic = true ∧ k.statics = some a ∧ H[a]? = some cell ∧ cell.vm.isStatics = true ∧ cell.cls = c ∧ f.slot < cell.slots.size ∧ k.staticTypes[f.slot]? = some f.type ∧ ¬ A a
theorem vx_L.moved {C n d : String} {A : Nat → Prop} {u U : State} {H : Heap} (hvm : u.vm.Alike U.vm) (h : vx_L C n d A u H) : vx_L C n d A U H := by
  obtain ⟨c, k, i, f, a, cell, h1, h2, h3, h4, h5, h6, h7, h8, h9, h10⟩ := h
  obtain ⟨k', hi', he⟩ := State.fieldFound?_setVm hvm h2
  exact ⟨c, k', i, f, a, cell, by rw [hvm.findClass]; exact h1, hi', h3, by rw [he]; exact h4, h5, h6, h7, h8, by rw [he]; exact h9, h10⟩
theorem vx_L.kept {C n d : String} {A : Nat → Prop} {U : State} {H H1 : Heap} (h : vx_L C n d A U H) (hq : ∀ a : Nat, a < H.size → ¬ A a → H1[a]? = H[a]?) : vx_L C n d A U H1 := by
  obtain ⟨c, k, i, f, a, cell, h1, h2, h3, h4, h5, h6, h7, h8, h9, h10⟩ := h
  exact ⟨c, k, i, f, a, cell, h1, h2, h3, h4, by rw [hq a (Array.getElem?_eq_some_iff.mp h5).1 h10]; exact h5, h6, h7, h8, h9, h10⟩
theorem vx_L.narrow {C n d : String} {A B : Nat → Prop} {U : State} {H : Heap} (h : vx_L C n d A U H) (hAB : ∀ q, B q → A q) : vx_L C n d B U H := by
  obtain ⟨c, k, i, f, a, cell, h1, h2, h3, h4, h5, h6, h7, h8, h9, h10⟩ := h
  exact ⟨c, k, i, f, a, cell, h1, h2, h3, h4, h5, h6, h7, h8, h9, fun z => h10 (hAB _ z)⟩
theorem vx_L.word {C n d : String} {A : Nat → Prop} {s : State} {args : Array Value} (h : vx_L C n d A s s.heap) : (Cond.laysStatic C n d).before args s = true := by
  obtain ⟨c, k, i, f, a, cell, h1, h2, h3, h4, h5, h6, h7, h8, h9, -⟩ := h
  show (Cond.laysStatic C n d).holds args s none s [] = true
  exact Cond.laysStatic_of h1 h2 h3 h4 h5 h6 h7 h8 h9
/-- .. and what it holds: null or some reference -/
def vx_Zq (C n d : String) (A : Nat → Prop) (U : State) (H : Heap) : Prop := va_Zq C n d A U H ∧ vx_L C n d A U H
theorem vx_Zq.moved {C n d : String} {A : Nat → Prop} {u U : State} {H : Heap} (hvm : u.vm.Alike U.vm) (h : vx_Zq C n d A u H) : vx_Zq C n d A U H := ⟨va_Zq.moved hvm h.1, vx_L.moved hvm h.2⟩
theorem vx_Zq.kept {C n d : String} {A : Nat → Prop} {U : State} {H H1 : Heap} (h : vx_Zq C n d A U H) (hq : ∀ a : Nat, a < H.size → ¬ A a → H1[a]? = H[a]?) : vx_Zq C n d A U H1 := ⟨va_Zq.kept h.1 hq, vx_L.kept h.2 hq⟩
theorem vx_Zq.narrow {C n d : String} {A B : Nat → Prop} {U : State} {H : Heap} (h : vx_Zq C n d A U H) (hAB : ∀ q, B q → A q) : vx_Zq C n d B U H := ⟨va_Zq.narrow h.1 hAB, vx_L.narrow h.2 hAB⟩
theorem vx_Zqof {args : Array Value} {s : State} {C n d : String} {A : Nat → Prop} (hl : (Cond.laysStatic C n d).before args s = true) (hini : (Cond.initialized C).before args s = true) (h : (Cond.isRef (.static C n d)).before args s = true) (hA : ∀ a : Nat, a < s.heap.size → ¬ A a) : vx_Zq C n d A s s.heap := by
  refine ⟨va_Zqof hl hini h hA, ?_⟩
  obtain ⟨c, k, i, f, a, cell, h1, h2, h3, h4, h5, h6, h7, h8, h9⟩ := Cond.laysStatic_spec hl
  exact ⟨c, k, i, f, a, cell, h1, h2, h3, h4, h5, h6, h7, h8, h9, hA a (Array.getElem?_eq_some_iff.mp h5).1⟩
theorem vx_isRef {C n d : String} {v : Value} {A : Nat → Prop} {s : State} {args : Array Value} (h : va_Z C n d v A s s.heap) (hv : v.isRef = true) : (Cond.isRef (.static C n d)).before args s = true := by
  obtain ⟨cf, kf, fi, f, a, cell, h1, h2, h3, h4, h5, h6, h7, -⟩ := h
  have he : (Term.static C n d).eval args s none [] s = some v := by
    simp [Term.eval, State.fieldNamed?, h1, h2, h4, h5, h6, h7]
  simp only [Cond.before, Cond.holds, Cond.value, he]
  cases v <;> simp_all [Value.isRef]
theorem vx_isRefq {C n d : String} {A : Nat → Prop} {s : State} {args : Array Value} (h : va_Zq C n d A s s.heap) : (Cond.isRef (.static C n d)).before args s = true := by
  rcases h with h | ⟨t, h⟩
  · exact vx_isRef h rfl
  · exact vx_isRef h rfl
/-- the same frame, seen from here: as if the method were called anew in this heap -/
theorem vx_rebase {T : State} (X : Stand p l e R s m args below meth c T locs cells slots) {R' : Room} (hf : R'.frames ≤ R.frames) (hl : R'.locals ≤ R.locals) (hc : cells + R'.cells ≤ R.cells) (hs : slots + R'.slots ≤ R.slots) :
    Stand p l e R' ((T.setVm s.vm).setFrames (.invoking m args :: below)) m args below meth c T [] 0 0 := by
  have htop : (T.setVm s.vm).topJava?.isSome := X.here.top
  have hF : ((T.setVm s.vm).setFrames (.invoking m args :: below)).frames = .invoking m args :: below := State.frames_setFrames _ (State.cur_lt_of_top htop)
  obtain ⟨g₀, hg0⟩ := Option.isSome_iff_exists.mp htop
  obtain ⟨r, hr⟩ := State.topJava?_eq_some.mp hg0
  have hl9 : e.platform.stackLimits (T.setVm s.vm).me = e.platform.stackLimits s.me := X.limits
  have hb9 : (T.setVm s.vm).me.stackBytes = s.me.stackBytes := X.bytes
  refine ⟨X.admits, X.cas, X.clock, hF, ?_, X.hears, X.method, X.code, X.here, X.tail, X.warmed, ?_, ?_, ?_⟩
  · have h := X.room
    have hU : ((T.setVm s.vm).setFrames (.invoking m args :: below)).localsInUse = s.localsInUse := by
      rw [State.localsInUse_invoking hF (meth := meth) (c := c) X.method X.code, State.localsInUse_invoking X.frames X.method X.code]
    simp only [State.hasRoom, Bool.and_eq_true, decide_eq_true_eq] at h ⊢
    obtain ⟨⟨⟨⟨h1, h2, h3, h4, h5, h6⟩, h7⟩, h8⟩, h9⟩ := h
    rw [X.frames, List.length_cons] at h2 h3
    have q1 := X.heapSize
    have q2 := X.used
    simp only [hF, hU, List.length_cons, State.stackLimits_setFrames, State.stackBytes_setFrames, hl9, hb9]
    refine ⟨⟨⟨⟨by omega, by omega, by omega, by omega, by omega, h6⟩, ?_⟩, ?_⟩, X.book⟩
    · show T.heap.size + R'.cells ≤ e.platform.maxCells
      omega
    · show T.slotsUsed + R'.slots ≤ e.platform.maxSlots
      omega
  · rw [State.stackLimits_setFrames]; rfl
  · rw [State.stackBytes_setFrames]; rfl
  · refine ⟨?_, Nat.le_refl _, Nat.le_refl _, ?_, ?_, fun a c9 h9 => ⟨c9, h9, rfl, rfl, fun _ _ => rfl⟩⟩
    · obtain ⟨t, ht, -⟩ := State.frames_cons hr
      show T.setVm s.vm = { ((T.setVm s.vm).setFrames (.invoking m args :: below)).setFrames (T.setVm s.vm).frames with heap := T.heap, slotsUsed := T.slotsUsed }
      rw [State.setFrames_setFrames, State.setFrames_self ht]
      rfl
    · show T.slotsUsed = T.slotsUsed + ((T.heap.toList.drop T.heap.size).map (·.slots.size)).sum
      rw [List.drop_eq_nil_of_le (Nat.le_of_eq Array.length_toList)]
      rfl
    · show ((T.heap.toList.drop T.heap.size).map (·.slots.size)).sum ≤ 0
      rw [List.drop_eq_nil_of_le (Nat.le_of_eq Array.length_toList)]
      exact Nat.le_refl _
/-- 'throw new E()': new; dup; invokespecial; athrow -/
theorem vx_throw0 {cc : ByteArray} {pc : Nat} (hexec : p.tables.exec = Jvm.exec) (hb : c.code = cc) (hl : l.stackTraces = false) {own cls : String} {names : List String} {ik ic mc ms : Nat} {A : Nat → Prop}
    (hown : s.vm.findClass own = some m.cls) (hcls : Bundle.fit cls = true) (hnames : ∀ n ∈ names, Bundle.fit n = true)
    (hk : (Cond.classLink own ik cls).before args s = true) (hini : (Cond.initialized cls).before args s = true) (hat : ∀ w ∈ vx_at0 own ic cls names, w.before args s = true)
    (hgood : ∀ w ∈ Cond.classLink own ik cls :: Cond.initialized cls :: vx_at0 own ic cls names, vx_ot w = true)
    (hU : vx_Zq Bundle.tN "UNASSIGNED_STACK" Bundle.steD A s s.heap) (hN : vx_Zq Bundle.tN "SUPPRESSED_SENTINEL" Bundle.listD A s s.heap) (hS : va_S A s.heap H locs) (hsize : ls.size = c.maxLocals)
    (d0 : decode cc pc = .ok (.new ik, 3)) (d3 : decode cc (pc + 3) = .ok (.dup, 1)) (d4 : decode cc (pc + 4) = .ok (.invokespecial ic, 3)) (d7 : decode cc (pc + 7) = .ok (.athrow, 1))
    (hout : ∀ x ∈ c.exceptionTable.toList, covers x (pc + 7) = false)
    (hRframes : names.length + 3 < R.frames) (hRlocals : (rest.map fun v => v.category).sum + (13 * (names.length + 1) + 42) ≤ R.locals) (hRcells : cells + 1 ≤ R.cells) (hRslots : slots + 6 ≤ R.slots) (hlocks : meth.locks = false)
    (hx : ∀ t : State, s.vm.Alike t.vm → H.size ≤ t.heap.size → (∀ q : Nat, q < H.size → t.heap[q]? = H[q]?) → XC cls s t)
    (hf : ∀ z ∈ locs, free z.base) (hc : cells + 1 ≤ mc) (hs : slots + 6 ≤ ms) :
    W p l e R s m args below meth c H locs cells slots (vx_MQ below Qc XC args s mc ms free) (F0 m pc ls rest) := by
  intro T hT X
  have htr : e.platform.stackTraces = false := (show e.platform.stackTraces = l.stackTraces by rw [X.admits.platform]).trans hl
  have Y := vx_rebase X (R' := { frames := R.frames, locals := R.locals, cells := 1, slots := 6 }) (Nat.le_refl _) (Nat.le_refl _) hRcells hRslots
  obtain ⟨s', hA⟩ : ∃ z, z = (T.setVm s.vm).setFrames (.invoking m args :: below) := ⟨_, rfl⟩
  rw [← hA] at Y
  have hvm : s'.vm = s.vm := by rw [hA]; rfl
  have hhp : s'.heap = H := by rw [hA]; exact hT
  have hW0 : s.WarmedH s'.vm := by rw [hvm]; exact State.WarmedH.refl s
  have hat' : ∀ w ∈ vx_at0 own ic cls names, w.before args s' = true := fun w hw => vx_ot_at hW0 hvm.symm (hgood w (List.mem_cons_of_mem _ (List.mem_cons_of_mem _ hw))) (hat w hw)
  have hk' : (Cond.classLink own ik cls).before args s' = true := vx_ot_at hW0 hvm.symm (hgood _ List.mem_cons_self) hk
  have hini' : (Cond.initialized cls).before args s' = true := vx_ot_at hW0 hvm.symm (hgood _ (List.mem_cons_of_mem _ List.mem_cons_self)) hini
  have hU' : vx_Zq Bundle.tN "UNASSIGNED_STACK" Bundle.steD A s' s'.heap := by rw [hhp]; exact vx_Zq.moved hW0.alike (hU.kept hS.2.1)
  have hN' : vx_Zq Bundle.tN "SUPPRESSED_SENTINEL" Bundle.listD A s' s'.heap := by rw [hhp]; exact vx_Zq.moved hW0.alike (hN.kept hS.2.1)
  have h : ∀ w ∈ Bundle.ownAtoms0 own ic cls names, w.before args s' = true := vx_own hat' (vx_isRefq hU'.1) (vx_isRefq hN'.1) hU'.2.word hN'.2.word
  have hown' : s'.vm.findClass own = some m.cls := by rw [hvm]; exact hown
  have hins : (Cond.instantiable cls 6).before args s' = true := h _ (by simp [Bundle.ownAtoms0])
  obtain ⟨vm₁, cX, kX, hfX, hkX, -, -, X₁, st1⟩ := Y.newCold hexec (own := own) (C := cls) (index := ik) (n := 6) hown' hk' hins hini'
    (g := F0 m pc ls rest) rfl (by rw [hb]; exact d0) (Nat.le_refl _) (Nat.le_refl _)
  generalize hT1 : (T.setVm vm₁).pushCell { cls := cX, slots := kX.instanceTypes.map defaultValue, vm := .none } = T1 at X₁ st1
  have hcat : (Value.ref T.heap.size).category = 1 := rfl
  have hcellA : T1.heap[T.heap.size]? = some (freshCell cX kX) := by rw [← hT1]; exact State.heap_pushCell_size _ _
  have d3' : decode c.code (pc + 3) = .ok (.dup, 1) := by rw [hb]; exact d3
  obtain ⟨U, hsteps, hrun, hend, hW, hsame, ce, hce, hO⟩ := X₁.ctorThrow0 hexec htr (own := own) (cls := cls) (names := names) (ic := ic) hown' hcls hnames h (fun x hx => nomatch hx) hfX hkX hcellA (by rw [hhp, hT]; exact Nat.le_refl _)
    (g := { method := m, pc := pc + 4, locals := ls, stack := .ref T.heap.size :: .ref T.heap.size :: rest, locked := none }) rfl hsize rfl rfl (rest := rest) rfl
    (by rw [hb]; exact d4) (by rw [hb]; exact d7) hout hRframes (by simp only [List.map_cons, List.sum_cons, hcat]; omega) hlocks
  obtain ⟨f1, f2⟩ := vx_frame hsame
  rw [hhp] at f1 f2
  have hWs : s.WarmedH U.vm := State.WarmedH.trans hW0 hW
  have hcl : s.vm.findClass cls = some ce.cls := by
    have h9 := hO.cls
    rw [hvm] at h9
    exact h9
  have hall : s.sameButNew ({ U with vm := s.vm } : State) locs mc ms := by
    subst hA
    obtain ⟨e1, e2⟩ := hsame
    rw [State.setFrames_setFrames] at e1
    have h2 : (T.setVm s.vm).sameButNew ({ U with vm := s.vm } : State) [] (0 + 1) (0 + 6) := ⟨e1, e2⟩
    have h3 := X.same.trans h2
    rw [List.append_nil] at h3
    exact h3.mono hc hs
  refine ⟨U, ?_, .threw T.heap.size, hrun, hend, Or.inr ⟨T.heap.size, rfl, cls, ce, locs, hx U hWs.alike f1 (fun q hq => f2 q hq (fun z hz => nomatch hz)), hce, hO.vm, hcl, hWs, hall, hf⟩⟩
  refine st1 _ ?_
  show Steps p.tables e below (T1.setTop { method := m, pc := pc + 3, locals := ls, stack := .ref T.heap.size :: rest, locked := none }) _
  jvm_step X₁.here [X₁.here.top, hexec, d3', Value.category]
  exact hsteps
/-- 'throw new E("text")': new; dup; ldc; invokespecial; athrow -/
theorem vx_throwS {cc : ByteArray} {pc : Nat} (hexec : p.tables.exec = Jvm.exec) (hb : c.code = cc) (hl : l.stackTraces = false) {own cls text : String} {names : List String} {ik is ic mc ms sa : Nat} {A : Nat → Prop}
    (hown : s.vm.findClass own = some m.cls) (hcls : Bundle.fit cls = true) (hnames : ∀ n ∈ names, Bundle.fit n = true)
    (hk : (Cond.classLink own ik cls).before args s = true) (hini : (Cond.initialized cls).before args s = true) (hstr : vk_R own is text sa s) (hat : ∀ w ∈ vx_atS own ic cls names, w.before args s = true)
    (hgood : ∀ w ∈ Cond.classLink own ik cls :: Cond.initialized cls :: vx_atS own ic cls names, vx_ot w = true)
    (hU : vx_Zq Bundle.tN "UNASSIGNED_STACK" Bundle.steD A s s.heap) (hN : vx_Zq Bundle.tN "SUPPRESSED_SENTINEL" Bundle.listD A s s.heap) (hS : va_S A s.heap H locs) (hsize : ls.size = c.maxLocals)
    (d0 : decode cc pc = .ok (.new ik, 3)) (d3 : decode cc (pc + 3) = .ok (.dup, 1)) (d4 : decode cc (pc + 4) = .ok (.ldc is, 2)) (d6 : decode cc (pc + 6) = .ok (.invokespecial ic, 3)) (d9 : decode cc (pc + 9) = .ok (.athrow, 1))
    (hout : ∀ x ∈ c.exceptionTable.toList, covers x (pc + 9) = false)
    (hRframes : names.length + 3 < R.frames) (hRlocals : (rest.map fun v => v.category).sum + (13 * (names.length + 1) + 43) ≤ R.locals) (hRcells : cells + 1 ≤ R.cells) (hRslots : slots + 6 ≤ R.slots) (hlocks : meth.locks = false)
    (hx : ∀ t : State, s.vm.Alike t.vm → H.size ≤ t.heap.size → (∀ q : Nat, q < H.size → t.heap[q]? = H[q]?) → XC cls s t)
    (hf : ∀ z ∈ locs, free z.base) (hc : cells + 1 ≤ mc) (hs : slots + 6 ≤ ms) :
    W p l e R s m args below meth c H locs cells slots (vx_MQ below Qc XC args s mc ms free) (F0 m pc ls rest) := by
  intro T hT X
  have htr : e.platform.stackTraces = false := (show e.platform.stackTraces = l.stackTraces by rw [X.admits.platform]).trans hl
  have Y := vx_rebase X (R' := { frames := R.frames, locals := R.locals, cells := 1, slots := 6 }) (Nat.le_refl _) (Nat.le_refl _) hRcells hRslots
  obtain ⟨s', hA⟩ : ∃ z, z = (T.setVm s.vm).setFrames (.invoking m args :: below) := ⟨_, rfl⟩
  rw [← hA] at Y
  have hvm : s'.vm = s.vm := by rw [hA]; rfl
  have hhp : s'.heap = H := by rw [hA]; exact hT
  have hW0 : s.WarmedH s'.vm := by rw [hvm]; exact State.WarmedH.refl s
  have hat' : ∀ w ∈ vx_atS own ic cls names, w.before args s' = true := fun w hw => vx_ot_at hW0 hvm.symm (hgood w (List.mem_cons_of_mem _ (List.mem_cons_of_mem _ hw))) (hat w hw)
  have hk' : (Cond.classLink own ik cls).before args s' = true := vx_ot_at hW0 hvm.symm (hgood _ List.mem_cons_self) hk
  have hini' : (Cond.initialized cls).before args s' = true := vx_ot_at hW0 hvm.symm (hgood _ (List.mem_cons_of_mem _ List.mem_cons_self)) hini
  have hU' : vx_Zq Bundle.tN "UNASSIGNED_STACK" Bundle.steD A s' s'.heap := by rw [hhp]; exact vx_Zq.moved hW0.alike (hU.kept hS.2.1)
  have hN' : vx_Zq Bundle.tN "SUPPRESSED_SENTINEL" Bundle.listD A s' s'.heap := by rw [hhp]; exact vx_Zq.moved hW0.alike (hN.kept hS.2.1)
  have h : ∀ w ∈ Bundle.ownAtoms own ic cls names, w.before args s' = true := vx_own hat' (vx_isRefq hU'.1) (vx_isRefq hN'.1) hU'.2.word hN'.2.word
  have hown' : s'.vm.findClass own = some m.cls := by rw [hvm]; exact hown
  have hins : (Cond.instantiable cls 6).before args s' = true := h _ (by simp [Bundle.ownAtoms])
  obtain ⟨vm₁, cX, kX, hfX, hkX, -, -, X₁, st1⟩ := Y.newCold hexec (own := own) (C := cls) (index := ik) (n := 6) hown' hk' hins hini'
    (g := F0 m pc ls rest) rfl (by rw [hb]; exact d0) (Nat.le_refl _) (Nat.le_refl _)
  generalize hT1 : (T.setVm vm₁).pushCell { cls := cX, slots := kX.instanceTypes.map defaultValue, vm := .none } = T1 at X₁ st1
  have hcat : (Value.ref T.heap.size).category = 1 := rfl
  have hcellA : T1.heap[T.heap.size]? = some (freshCell cX kX) := by rw [← hT1]; exact State.heap_pushCell_size _ _
  have d3' : decode c.code (pc + 3) = .ok (.dup, 1) := by rw [hb]; exact d3
  have d4' : decode c.code (pc + 4) = .ok (.ldc is, 2) := by rw [hb]; exact d4
  have hstr' : vk_R own is text sa s' := vk_R.warm hW0 hstr
  obtain ⟨U, hsteps, hrun, hend, hW, hsame, ce, hce, hO⟩ := X₁.ctorThrowS hexec htr (own := own) (cls := cls) (names := names) (ic := ic) hown' hcls hnames h (fun x hx => nomatch hx) hfX hkX hcellA (by rw [hhp, hT]; exact Nat.le_refl _) (msg := .ref sa) rfl
    (g := { method := m, pc := pc + 6, locals := ls, stack := .ref sa :: .ref T.heap.size :: .ref T.heap.size :: rest, locked := none }) rfl hsize rfl rfl (rest := rest) rfl
    (by rw [hb]; exact d6) (by rw [hb]; exact d9) hout hRframes (by simp only [List.map_cons, List.sum_cons, hcat]; omega) hlocks
  obtain ⟨f1, f2⟩ := vx_frame hsame
  rw [hhp] at f1 f2
  have hWs : s.WarmedH U.vm := State.WarmedH.trans hW0 hW
  have hcl : s.vm.findClass cls = some ce.cls := by
    have h9 := hO.cls
    rw [hvm] at h9
    exact h9
  have hall : s.sameButNew ({ U with vm := s.vm } : State) locs mc ms := by
    subst hA
    obtain ⟨e1, e2⟩ := hsame
    rw [State.setFrames_setFrames] at e1
    have h2 : (T.setVm s.vm).sameButNew ({ U with vm := s.vm } : State) [] (0 + 1) (0 + 6) := ⟨e1, e2⟩
    have h3 := X.same.trans h2
    rw [List.append_nil] at h3
    exact h3.mono hc hs
  refine ⟨U, ?_, .threw T.heap.size, hrun, hend, Or.inr ⟨T.heap.size, rfl, cls, ce, locs, hx U hWs.alike f1 (fun q hq => f2 q hq (fun z hz => nomatch hz)), hce, hO.vm, hcl, hWs, hall, hf⟩⟩
  refine st1 _ ?_
  show Steps p.tables e below (T1.setTop { method := m, pc := pc + 3, locals := ls, stack := .ref T.heap.size :: rest, locked := none }) _
  jvm_step X₁.here [X₁.here.top, hexec, d3', Value.category]
  exact X₁.ldcString hexec (own := own) (text := text) (index := is) (a := sa) hown' hstr'.1 hstr'.2
    (g := { method := m, pc := pc + 4, locals := ls, stack := .ref T.heap.size :: .ref T.heap.size :: rest, locked := none }) rfl d4' _ hsteps
/-- 'throw new E("text")', the text by a wide index -/
theorem vx_throwSW {cc : ByteArray} {pc : Nat} (hexec : p.tables.exec = Jvm.exec) (hb : c.code = cc) (hl : l.stackTraces = false) {own cls text : String} {names : List String} {ik is ic mc ms sa : Nat} {A : Nat → Prop}
    (hown : s.vm.findClass own = some m.cls) (hcls : Bundle.fit cls = true) (hnames : ∀ n ∈ names, Bundle.fit n = true)
    (hk : (Cond.classLink own ik cls).before args s = true) (hini : (Cond.initialized cls).before args s = true) (hstr : vk_R own is text sa s) (hat : ∀ w ∈ vx_atS own ic cls names, w.before args s = true)
    (hgood : ∀ w ∈ Cond.classLink own ik cls :: Cond.initialized cls :: vx_atS own ic cls names, vx_ot w = true)
    (hU : vx_Zq Bundle.tN "UNASSIGNED_STACK" Bundle.steD A s s.heap) (hN : vx_Zq Bundle.tN "SUPPRESSED_SENTINEL" Bundle.listD A s s.heap) (hS : va_S A s.heap H locs) (hsize : ls.size = c.maxLocals)
    (d0 : decode cc pc = .ok (.new ik, 3)) (d3 : decode cc (pc + 3) = .ok (.dup, 1)) (d4 : decode cc (pc + 4) = .ok (.ldc_w is, 3)) (d7 : decode cc (pc + 7) = .ok (.invokespecial ic, 3)) (d10 : decode cc (pc + 10) = .ok (.athrow, 1))
    (hout : ∀ x ∈ c.exceptionTable.toList, covers x (pc + 10) = false)
    (hRframes : names.length + 3 < R.frames) (hRlocals : (rest.map fun v => v.category).sum + (13 * (names.length + 1) + 43) ≤ R.locals) (hRcells : cells + 1 ≤ R.cells) (hRslots : slots + 6 ≤ R.slots) (hlocks : meth.locks = false)
    (hx : ∀ t : State, s.vm.Alike t.vm → H.size ≤ t.heap.size → (∀ q : Nat, q < H.size → t.heap[q]? = H[q]?) → XC cls s t)
    (hf : ∀ z ∈ locs, free z.base) (hc : cells + 1 ≤ mc) (hs : slots + 6 ≤ ms) :
    W p l e R s m args below meth c H locs cells slots (vx_MQ below Qc XC args s mc ms free) (F0 m pc ls rest) := by
  intro T hT X
  have htr : e.platform.stackTraces = false := (show e.platform.stackTraces = l.stackTraces by rw [X.admits.platform]).trans hl
  have Y := vx_rebase X (R' := { frames := R.frames, locals := R.locals, cells := 1, slots := 6 }) (Nat.le_refl _) (Nat.le_refl _) hRcells hRslots
  obtain ⟨s', hA⟩ : ∃ z, z = (T.setVm s.vm).setFrames (.invoking m args :: below) := ⟨_, rfl⟩
  rw [← hA] at Y
  have hvm : s'.vm = s.vm := by rw [hA]; rfl
  have hhp : s'.heap = H := by rw [hA]; exact hT
  have hW0 : s.WarmedH s'.vm := by rw [hvm]; exact State.WarmedH.refl s
  have hat' : ∀ w ∈ vx_atS own ic cls names, w.before args s' = true := fun w hw => vx_ot_at hW0 hvm.symm (hgood w (List.mem_cons_of_mem _ (List.mem_cons_of_mem _ hw))) (hat w hw)
  have hk' : (Cond.classLink own ik cls).before args s' = true := vx_ot_at hW0 hvm.symm (hgood _ List.mem_cons_self) hk
  have hini' : (Cond.initialized cls).before args s' = true := vx_ot_at hW0 hvm.symm (hgood _ (List.mem_cons_of_mem _ List.mem_cons_self)) hini
  have hU' : vx_Zq Bundle.tN "UNASSIGNED_STACK" Bundle.steD A s' s'.heap := by rw [hhp]; exact vx_Zq.moved hW0.alike (hU.kept hS.2.1)
  have hN' : vx_Zq Bundle.tN "SUPPRESSED_SENTINEL" Bundle.listD A s' s'.heap := by rw [hhp]; exact vx_Zq.moved hW0.alike (hN.kept hS.2.1)
  have h : ∀ w ∈ Bundle.ownAtoms own ic cls names, w.before args s' = true := vx_own hat' (vx_isRefq hU'.1) (vx_isRefq hN'.1) hU'.2.word hN'.2.word
  have hown' : s'.vm.findClass own = some m.cls := by rw [hvm]; exact hown
  have hins : (Cond.instantiable cls 6).before args s' = true := h _ (by simp [Bundle.ownAtoms])
  obtain ⟨vm₁, cX, kX, hfX, hkX, -, -, X₁, st1⟩ := Y.newCold hexec (own := own) (C := cls) (index := ik) (n := 6) hown' hk' hins hini'
    (g := F0 m pc ls rest) rfl (by rw [hb]; exact d0) (Nat.le_refl _) (Nat.le_refl _)
  generalize hT1 : (T.setVm vm₁).pushCell { cls := cX, slots := kX.instanceTypes.map defaultValue, vm := .none } = T1 at X₁ st1
  have hcat : (Value.ref T.heap.size).category = 1 := rfl
  have hcellA : T1.heap[T.heap.size]? = some (freshCell cX kX) := by rw [← hT1]; exact State.heap_pushCell_size _ _
  have d3' : decode c.code (pc + 3) = .ok (.dup, 1) := by rw [hb]; exact d3
  have d4' : decode c.code (pc + 4) = .ok (.ldc_w is, 3) := by rw [hb]; exact d4
  have hstr' : vk_R own is text sa s' := vk_R.warm hW0 hstr
  obtain ⟨U, hsteps, hrun, hend, hW, hsame, ce, hce, hO⟩ := X₁.ctorThrowS hexec htr (own := own) (cls := cls) (names := names) (ic := ic) hown' hcls hnames h (fun x hx => nomatch hx) hfX hkX hcellA (by rw [hhp, hT]; exact Nat.le_refl _) (msg := .ref sa) rfl
    (g := { method := m, pc := pc + 7, locals := ls, stack := .ref sa :: .ref T.heap.size :: .ref T.heap.size :: rest, locked := none }) rfl hsize rfl rfl (rest := rest) rfl
    (by rw [hb]; exact d7) (by rw [hb]; exact d10) hout hRframes (by simp only [List.map_cons, List.sum_cons, hcat]; omega) hlocks
  obtain ⟨f1, f2⟩ := vx_frame hsame
  rw [hhp] at f1 f2
  have hWs : s.WarmedH U.vm := State.WarmedH.trans hW0 hW
  have hcl : s.vm.findClass cls = some ce.cls := by
    have h9 := hO.cls
    rw [hvm] at h9
    exact h9
  have hall : s.sameButNew ({ U with vm := s.vm } : State) locs mc ms := by
    subst hA
    obtain ⟨e1, e2⟩ := hsame
    rw [State.setFrames_setFrames] at e1
    have h2 : (T.setVm s.vm).sameButNew ({ U with vm := s.vm } : State) [] (0 + 1) (0 + 6) := ⟨e1, e2⟩
    have h3 := X.same.trans h2
    rw [List.append_nil] at h3
    exact h3.mono hc hs
  refine ⟨U, ?_, .threw T.heap.size, hrun, hend, Or.inr ⟨T.heap.size, rfl, cls, ce, locs, hx U hWs.alike f1 (fun q hq => f2 q hq (fun z hz => nomatch hz)), hce, hO.vm, hcl, hWs, hall, hf⟩⟩
  refine st1 _ ?_
  show Steps p.tables e below (T1.setTop { method := m, pc := pc + 3, locals := ls, stack := .ref T.heap.size :: rest, locked := none }) _
  jvm_step X₁.here [X₁.here.top, hexec, d3', Value.category]
  exact X₁.ldcStringW hexec (own := own) (text := text) (index := is) (a := sa) hown' hstr'.1 hstr'.2
    (g := { method := m, pc := pc + 4, locals := ls, stack := .ref T.heap.size :: .ref T.heap.size :: rest, locked := none }) rfl d4' _ hsteps
end Ends
section Bodies
variable {l : Launch}
theorem vx_ofW {y : MethodName} {ws ws' : List Cond} {rm : Room} {Pc : Array Value → State → Prop} {Qc : Array Value → State → Outcome → State → Prop} {XC : String → State → State → Prop} {mc ms : Nat} {free : Addr → Prop} {cc : ByteArray} {maxL : Nat} {ret : Option FieldType}
    (hy : plainName y.cls = true) (hw : ws = Cond.code y cc maxL ret :: ws')
    (body : ∀ p e s m args below meth c s₁, BodyLoose p l y (headSpec ws rm) cc maxL ret e s m args below meth c s₁ → c.maxLocals = maxL → (∀ x ∈ c.exceptionTable.toList, False) → Pc args s →
      W p l e (headSpec ws rm).room s m args below meth c s.heap [] 0 0 (vx_MQ below Qc XC args s mc ms free) (entryFrame m args maxL)) : vx_Met l y ws rm Pc Qc XC mc ms free := by
  refine MetFree.of_bodyS (code := cc) (maxLocals := maxL) (ret := ret) hy ?_ ?_
  · intro args s m h hn
    obtain ⟨meth, c, h1, h2, h3, h4, h5, h6, -, -⟩ := Cond.code_spec hn (atoms_spec (ws := ws) h _ (by rw [hw]; exact List.mem_cons_self))
    exact ⟨meth, c, h1, h2, h3, h4, h5, h6⟩
  · intro p e s m args below meth c s₁ B hml hP _
    have hh0 : s₁.heap = s.heap := by rw [B.state]; rfl
    have ht : ∀ x ∈ c.exceptionTable.toList, False := by
      obtain ⟨meth9, c9, h1, h2, -, -, -, -, h7, -⟩ := Cond.code_spec B.named (atoms_spec (ws := ws) B.pre _ (by rw [hw]; exact List.mem_cons_self))
      cases Option.some.inj (h1.symm.trans B.method)
      cases Option.some.inj (h2.symm.trans (Stand.of_body B).code)
      intro x hx
      rw [Array.isEmpty_iff.mp h7] at hx
      cases hx
    obtain ⟨t, a1, o, b1, b2, b3⟩ := body p e s m args below meth c s₁ B hml ht hP s₁ hh0 (Stand.of_body B)
    exact ⟨t, o, a1, b1, b2, b3⟩
/-- the table of a body with handlers -/
theorem vx_table {p : Program} {x y : MethodName} {S : Spec} {cc bytes : ByteArray} {maxL maxL' : Nat} {ret ret' : Option FieldType} {e : Env} {s s₁ : State} {m : MethodId} {args : Array Value} {below : List Frame} {meth : Method} {c : Code} {hh : List (Nat × Nat × Nat × Nat)}
    (B : BodyLoose p l y S cc maxL ret e s m args below meth c s₁) (h : (Cond.codeWith y bytes maxL' ret' hh).before args s = true) : c.exceptionTable.toList = tableOf hh := by
  obtain ⟨m9, meth9, c9, hn9, h1, h2, -, -, h6, -⟩ := Cond.codeWith_spec h
  cases Option.some.inj (hn9.symm.trans B.named)
  cases Option.some.inj (h1.symm.trans B.method)
  cases Option.some.inj (h2.symm.trans (Stand.of_body B).code)
  rw [← h6, table_eq]
end Bodies
end VXA
/-! ===== END ===== -/
/-! ===== BEGIN a static call of a method with an exception table ===== -/
section VXS
variable {p : Program} {l : Launch} {e : Env} {R : Room} {s : State} {m : MethodId} {args : Array Value} {below : List Frame} {meth : Method} {c : Code} {T : State} {H : Heap} {locs : List Loc} {cells slots : Nat}
abbrev vx_CSW (R : Room) (s : State) (args : Array Value) (own : String) (index : Nat) (y : MethodName) (bytes : ByteArray) (maxL : Nat) (ret : Option FieldType) (hh : List (Nat × Nat × Nat × Nat)) (ws : List Cond) (rm : Room) (mc ms n : Nat) : Prop :=
  (rm.cells = mc ∧ rm.slots = ms ∧ rm.frames + 1 ≤ R.frames ∧ 8 + (maxL + 11) + rm.locals ≤ R.locals ∧ (∀ w ∈ ws, ∀ (a' : Array Value) (U : State), s.WarmedH U.vm → w.before a' U = true) ∧ Cond.codeWith y bytes maxL ret hh ∈ ws) ∧
  (Cond.codeWith y bytes maxL ret hh).before args s = true ∧ (Cond.initialized y.cls).before args s = true ∧ (y.cls ≠ "java/lang/invoke/MethodHandle" ∧ y.cls ≠ "java/lang/invoke/VarHandle") ∧
  (∀ sig, parseMethodDescriptor y.desc = some sig → n = sig.parameters.length) ∧ (Cond.methodLink own index y).before args s = true ∧ (Cond.static y).before args s = true
theorem vx_cwSW {own : String} {index maxL mc ms : Nat} {y : MethodName} {bytes : ByteArray} {ret : Option FieldType} {hh : List (Nat × Nat × Nat × Nat)} {Ts ws ws' : List Cond} {rm : Room} (n : Nat) (ht : ∀ w ∈ Ts, w.before args s = true) (hT : GoodIn Ts (va_wsS own index y ws)) (hw : ws = Cond.codeWith y bytes maxL ret hh :: ws') (hrc : rm.cells = mc) (hrs : rm.slots = ms)
    (hd : y.cls ≠ "java/lang/invoke/MethodHandle" ∧ y.cls ≠ "java/lang/invoke/VarHandle" ∧ (parseMethodDescriptor y.desc).map (fun d => d.parameters.length) = some n) (hR : rm.frames + 1 ≤ R.frames ∧ 8 + (maxL + 11) + rm.locals ≤ R.locals) :
    vx_CSW R s args own index y bytes maxL ret hh ws rm mc ms n := by
  have ok : ∀ w ∈ va_wsS own index y ws, w.before args s = true := fun w h => ht w (hT w h).1
  have hG : GoodIn Ts ws := fun w h => hT w (by unfold va_wsS; exact List.mem_append_right _ h)
  have hc : Cond.codeWith y bytes maxL ret hh ∈ ws := by rw [hw]; exact List.mem_cons_self
  refine ⟨⟨hrc, hrs, hR.1, hR.2, pay_in ht hG, hc⟩, ht _ (hG _ hc).1, ok _ (by simp [va_wsS]), ⟨hd.1, hd.2.1⟩, fun sig h => ?_, ok _ (by simp [va_wsS]), ok _ (by simp [va_wsS])⟩
  have h2 := hd.2.2
  rw [h] at h2
  exact (Option.some.inj h2).symm
theorem vx_callSW (X : Stand p l e R s m args below meth c T locs cells slots) (hexec : p.tables.exec = Jvm.exec) {own : String} {index : Nat} {y : MethodName} {bytes : ByteArray} {maxL : Nat} {ret : Option FieldType} {hh : List (Nat × Nat × Nat × Nat)}
    (hown : s.vm.findClass own = some m.cls) (hlink : (Cond.methodLink own index y).before args s = true) (hstat : (Cond.static y).before args s = true) (hinit : (Cond.initialized y.cls).before args s = true)
    (hcode : (Cond.codeWith y bytes maxL ret hh).before args s = true) (hy : y.cls ≠ "java/lang/invoke/MethodHandle" ∧ y.cls ≠ "java/lang/invoke/VarHandle")
    {W9 : Nat} {Pre : Pt → Array Value → Prop} {Post : Pt → Array Value → Option Value → Pt → Prop} (hK : Back l R p e below s args y 3 W9 Pre Post)
    {g : JFrame} (hg : g.method = m) (hsize : g.locals.size = c.maxLocals) {argsL rest : List Value} (hlen : ∀ sig, parseMethodDescriptor y.desc = some sig → argsL.length = sig.parameters.length)
    (hstack : g.stack = argsL.reverse ++ rest) (hW : 2 * g.monitorRoom + (rest.map fun v => v.category).sum ≤ W9) (hdg : decode c.code g.pc = .ok (.invokestatic index, 3))
    (hpre : ∀ vm₁, s.WarmedH vm₁ → Pre ⟨T.setVm vm₁, locs, cells, slots⟩ argsL.toArray) :
    ∃ (v : Option Value) (vm₁ : Vm) (B : Pt), s.WarmedH vm₁ ∧ Stand p l e R s m args below meth c B.U B.locs B.cells B.slots ∧ Post ⟨T.setVm vm₁, locs, cells, slots⟩ argsL.toArray v B ∧
      ∀ target, Steps p.tables e below (B.U.setTop { g with pc := g.pc + 3, stack := v.toList ++ rest }) target → Steps p.tables e below (T.setTop g) target := by
  obtain ⟨mk, methM, cM, hnamed, hmethM, -, -, -, -, -, -, hsigM⟩ := Cond.codeWith_spec hcode
  have hstatic : methM.isStatic = true := Cond.static_spec hnamed hmethM hstat
  obtain ⟨kP, hkP, -⟩ := className_of_methodNamed hnamed
  have hinitP : kP.init = .initialized := Cond.initialized_spec (findClass_of_methodNamed hnamed) hkP hinit
  obtain ⟨vm₁, X₁, hstep₁⟩ := X.invokestatic hexec hown hlink hnamed hmethM hstatic hkP hinitP hy (g := g) hg (argsL := argsL) (rest := rest) (hlen _ hsigM) hstack hdg
  obtain ⟨v, B, X', hpost, hsteps⟩ := hK m meth c ⟨T.setVm vm₁, locs, cells, slots⟩ { g with stack := rest } (.invokestatic index) mk argsL.toArray X₁ hg hsize hdg hW (X₁.named hnamed) (hpre vm₁ X₁.warmed)
  exact ⟨v, vm₁, B, X₁.warmed, X', hpost, fun target h => hstep₁ _ fun acts => by rw [doInvoke_state]; exact hsteps.trans h⟩
theorem vx_runSW {y : MethodName} {bytes cc : ByteArray} {maxL nL mc ms n index : Nat} {ret : Option FieldType} {hh : List (Nat × Nat × Nat × Nat)} {ws : List Cond} {rm : Room} {Pc : Array Value → State → Prop} {Qc : Array Value → State → Outcome → State → Prop} {free : Addr → Prop} {Ts : List Cond} {own : String} {As rest : List Value} {g : JFrame}
    (S : CallFix p m c cc nL s args Ts own) (hM : Met l y ws rm Pc Qc mc ms free) (cw : vx_CSW R s args own index y bytes maxL ret hh ws rm mc ms n) (hp : PreS s H Pc As)
    (hg : g.method = m) (hn : As.length = n) (hsize : g.locals.size = nL) (hstack : g.stack = As.reverse ++ rest) (hW : 2 * g.monitorRoom + (rest.map fun v => v.category).sum ≤ 8) (hdg : decode cc g.pc = .ok (.invokestatic index, 3)) (hf : cells + mc ≤ R.cells ∧ slots + ms ≤ R.slots) :
    va_Run p l e R s m args below meth c H locs cells slots mc ms g rest (Qc As.toArray) (free) := by
  obtain ⟨⟨hrc, hrs, hfr, hlo, hws, hcw⟩, hcode, hini, hy, hlen, hl, hstt⟩ := cw
  have hK : Back l R p e below s args y 3 8 (PreOf R mc ms Pc) (PostOf Qc mc ms free) := va_backW (hh := hh) (bytes := bytes) (maxL := maxL) (ret := ret) hM hp.1 hrc hrs hfr hlo hws hcw (fun a' U hW => word_at hW (Or.inl (by first | rfl | simp [Cond.onTables, Cond.keeps, Cond.steady])) hini)
  obtain ⟨hx, hb, hml, ho, -⟩ := S
  intro T hT X
  obtain ⟨v, vm₁, ⟨U', l2, c2, s2⟩, hW₁, X', ⟨g', mk, t, L, e1, e2, hq, h1, hL, h2, h3⟩, st⟩ := vx_callSW X hx (hh := hh) (bytes := bytes) (maxL := maxL) (ret := ret) ho hl hstt hini hcode hy hK hg (hsize.trans hml.symm) (argsL := As) (rest := rest) (fun sig h => hn.trans (hlen sig h)) hstack hW (by rw [hb]; exact hdg)
    (fun vm₁ hW₁ => ⟨hf.1, hf.2, hp.2 (T.setVm vm₁) hT hW₁⟩)
  dsimp only [Pt.U, Pt.locs, Pt.cells, Pt.slots] at X' e1 e2 h1 h2 h3 st
  subst h1; subst h2; subst h3
  exact ⟨v, (T.setVm vm₁).calling g' mk As.toArray, t, U', L, hT, X', hL, e1, e2, hq, st⟩
/-- not caught here, past rows that name other classes: it goes on to the caller -/
theorem vx_outP {p : Program} {l : Launch} {e : Env} {R : Room} {s : State} {m : MethodId} {args : Array Value} {below : List Frame} {meth : Method} {c : Code} {H : Heap} {locs : List Loc} {cells slots : Nat} {free : Addr → Prop} {ls : Array Slot} {rest : List Value} {Qc : Array Value → State → Outcome → State → Prop} {XC : String → State → State → Prop}
    {pc : Nat} {own E : String} {ce : Cell} {q : Addr} {mc ms : Nat} (hown : s.vm.findClass own = some m.cls) (hlocks : meth.locks = false)
    (hpass : ∀ z ∈ c.exceptionTable.toList, covers z pc = false ∨ (z.catchType ≠ 0 ∧ ∃ nm : String, (Cond.classLink own z.catchType nm).before args s = true ∧ va_Nc E nm s)) (hcell : H[q]? = some ce) (hv : ce.vm = .none) (hcl : s.vm.findClass E = some ce.cls)
    (hx : ∀ t : State, t.heap = H → s.vm.Alike t.vm → XC E s t) (hf : ∀ z ∈ locs, free z.base) (hc : cells ≤ mc) (hs : slots ≤ ms) :
    vx_W p l e R s m args below meth c H locs cells slots (vx_MQ below Qc XC args s mc ms free) (F0 m pc ls rest) q := by
  intro T hT X
  have hpl : e.platform.magicAccessors = ({} : Platform).magicAccessors := by rw [X.admits.platform]
  obtain ⟨vm', hW', X', st⟩ := X.outThrough hlocks q (g := F0 m pc ls rest) rfl rfl rfl (cell := ce) (by rw [hT]; exact hcell) (by rw [hv]; rfl)
    (by obtain ⟨k9, h9, -⟩ := Vm.findClass_spec hcl; exact ⟨k9, h9⟩) (fun z hz => by
      rcases hpass z hz with h | ⟨hz0, nm, hl1, hn1⟩
      · exact Or.inl h
      · obtain ⟨c6, hc6, hcl6⟩ := Cond.classLink_spec hown hl1 e.platform hpl
        obtain ⟨a8, b8, h1, h2, h3⟩ := hn1
        cases Option.some.inj (h1.symm.trans hcl)
        cases Option.some.inj (h2.symm.trans hc6)
        exact Or.inr ⟨hz0, _, hcl6, h3⟩)
  obtain ⟨g₀, hfr⟩ := X'.frames_eq
  have hcell9 : ((T.setVm vm').setFrames (.throwing q :: below)).heap[q]? = some ce := by
    show T.heap[q]? = some ce
    rw [hT]; exact hcell
  have hend : Ended ((T.setVm vm').setFrames (.throwing q :: below)) below (.threw q) := State.frames_setFrames _ (State.cur_lt_of_frames hfr)
  refine ⟨(T.setVm vm').setFrames (.throwing q :: below), ?_, .threw q, X'.here.running, hend, Or.inr ⟨q, rfl, E, ce, locs, hx _ hT (X'.ends _).1.alike, hcell9, hv, hcl, (X'.ends _).1, (X'.ends _).2.mono hc hs, hf⟩⟩
  rw [X.pushThrowing_eq]
  exact st
/-- a thing of a world lies in the heap -/
theorem vx_lt {D : va_G} {cl : List vw_C} {ws : va_W} {H1 : Heap} (h : va_P D cl ws H1) {k : Nat} {q : Nat × va_E} (hk : ws[k]? = some q) : q.1 < H1.size := (h k q hk).lt
end VXS
/-! ===== END ===== -/
/-! ===== BEGIN methods with a table of their own: called by a name, returning or throwing ===== -/
section VXH
/-! vx_backW, vx_callVX, vx_callSX, vx_callVW, vx_runVW, vx_runVX, vx_runSX, vx_ofWH follow the same proofs as their sisters above (Free/Laws.lean, Shelf42/LK1.lean); vx_outP calls Shelf42/NT130.lean (outThrough). -/
section
variable {l : Launch} {R : Room} {p : Program} {e : Env} {below : List Frame} {s : State} {sargs : Array Value} {y : MethodName} {len W9 : Nat}
theorem vx_backW {ws : List Cond} {rm : Room} {Pc : Array Value → State → Prop} {Qc : Array Value → State → Outcome → State → Prop} {XC : String → State → State → Prop} {mc ms : Nat} {free : Addr → Prop} {bytes : ByteArray} {maxL : Nat} {ret : Option FieldType} {hh : List (Nat × Nat × Nat × Nat)}
    (hM : vx_Met l y ws rm Pc Qc XC mc ms free) (hblind : FrameBlind Pc) (hrc : rm.cells = mc) (hrs : rm.slots = ms)
    (hframes : rm.frames + 1 ≤ R.frames) (hlocals : W9 + (maxL + 11) + rm.locals ≤ R.locals)
    (hws : ∀ w ∈ ws, ∀ a' U, s.WarmedH U.vm → w.before a' U = true) (hcode : Cond.codeWith y bytes maxL ret hh ∈ ws) (hinit : ∀ a' U, s.WarmedH U.vm → (Cond.initialized y.cls).before a' U = true) :
    vx_Back l R p e below s sargs y len W9 (PreOf R mc ms Pc) (PostOf Qc mc ms free) (vx_Post XC mc ms free) := by
  intro m meth c A g ig mk a X hg hsize hdg hW hn hp
  have h1 : (headSpec ws rm).pre.before a A.U = true := atoms_intro fun w hw => hws w hw _ _ X.warmed
  have h2 : (Cond.codeWith y bytes maxL ret hh).before a A.U = true := hws _ hcode _ _ X.warmed
  have h3 : (Cond.initialized y.cls).before a A.U = true := hinit _ _ X.warmed
  have h4 : A.cells + (headSpec ws rm).room.cells ≤ R.cells := by rw [show (headSpec ws rm).room.cells = mc from hrc]; exact hp.1
  have h5 : A.slots + (headSpec ws rm).room.slots ≤ R.slots := by rw [show (headSpec ws rm).room.slots = ms from hrs]; exact hp.2.1
  have hPc : Pc a (A.U.calling g mk a) := hblind _ _ _ _ hp.2.2
  obtain ⟨U, Ls, c0, s0⟩ := A
  dsimp only [Pt.U, Pt.locs, Pt.cells, Pt.slots] at h1 h2 h3 h4 h5 X hn hPc ⊢
  obtain ⟨m9, methY, cY, hn9, hmY, hcY, -, hlY, -⟩ := Cond.codeWith_spec h2
  cases Option.some.inj (hn9.symm.trans hn)
  obtain ⟨kY, hkY, -⟩ := className_of_methodNamed hn
  have hinitY : kY.init = .initialized := Cond.initialized_spec (findClass_of_methodNamed hn) hkY h3
  have h : At U g.method c below := by rw [hg]; exact X.here
  have hlocals9 : W9 + (maxL + 11) + (headSpec ws rm).room.locals ≤ R.locals := hlocals
  have happ : (headSpec ws rm).appliesLoose y e.platform (U.calling g mk a) = true :=
    Spec.appliesLoose_calling (g := g) h hdg hn hkY hinitY
      (X.room_calling (g := g) (R' := (headSpec ws rm).room) hsize hmY hcY hframes (by rw [hlY]; omega) h4 h5) h1
  obtain ⟨mid, hmid⟩ := h.above
  have hfr : (U.setTop g).frames = (.java g :: mid) ++ below := by rw [State.frames_setTop' g h.top, hmid]; rfl
  obtain ⟨o, s₂, hsteps, -, hend, hq⟩ := Steps.callFree hM p X.admits X.cas X.clock (acts := []) hfr happ hPc trivial
  have hq' : vx_Q Qc XC mc ms free a (U.calling g mk a) o s₂ := hq
  rw [State.frames_setTop' g h.top] at hend
  obtain ⟨g₀, hg0⟩ := Option.isSome_iff_exists.mp h.top
  obtain ⟨r, hr⟩ := State.topJava?_eq_some.mp hg0
  have hr' : (({ U with heap := s₂.heap, slotsUsed := s₂.slotsUsed } : State).setVm s₂.vm).frames = .java g₀ :: r := hr
  rcases hq' with ⟨hqc, L, hfe, hL⟩ | ⟨q, rfl, E, ce, L, hx, hce, hcv, hcl, hW₂, hsm, hL⟩
  · obtain ⟨⟨v, rfl⟩, hW₂, e2, q2, q3, q4, q5, q6⟩ := id hfe
    have e3 : s₂ = ({ (U.calling g mk a).setFrames s₂.frames with heap := s₂.heap, slotsUsed := s₂.slotsUsed } : State).setVm s₂.vm := by
      have : s₂ = ({ s₂ with vm := (U.calling g mk a).vm } : State).setVm s₂.vm := rfl
      rw [e2] at this
      exact this
    obtain ⟨c₂, i₂, len₂, hc₂, hd₂, hf₂⟩ := hend
    have hW' : U.WarmedH s₂.vm := hW₂
    have hcc : c₂ = c := by
      have h1 : s₂.code? g.method = U.code? g.method := by
        rw [State.code?_eq, State.code?_eq, hW'.alike.method?]
      exact Option.some.inj (hc₂.symm.trans (h1.trans h.code))
    subst hcc
    have hlen : len₂ = len := by rw [hdg] at hd₂; cases hd₂; rfl
    subst hlen
    have hs₂ : s₂ = (({ U with heap := s₂.heap, slotsUsed := s₂.slotsUsed } : State).setVm s₂.vm).setTop { g with pc := g.pc + len₂, stack := v.toList ++ g.stack } := by
      refine e3.trans ?_
      rw [hf₂, State.calling_eq h.top, State.setFrames_setFrames, State.setTop_of_frames _ hr', hr]
      rfl
    have hsame : U.sameButNew ({ U with heap := s₂.heap, slotsUsed := s₂.slotsUsed } : State) L mc ms := by
      refine ⟨?_, q2, q3, q4, q5, q6⟩
      obtain ⟨t, ht, -⟩ := State.frames_cons hr
      show ({ U with heap := s₂.heap, slotsUsed := s₂.slotsUsed } : State) = { U.setFrames U.frames with heap := s₂.heap, slotsUsed := s₂.slotsUsed }
      rw [State.setFrames_self ht]
    subst hg
    refine Or.inl ⟨v, ⟨(({ U with heap := s₂.heap, slotsUsed := s₂.slotsUsed } : State).setVm s₂.vm), Ls ++ L, c0 + mc, s0 + ms⟩,
      ⟨X.admits, X.cas, X.clock, X.frames, X.room, X.hears, X.method, X.code, (X.here.setHeapUsed s₂.heap s₂.slotsUsed).setVm hW'.alike, X.tail, State.WarmedH.trans X.warmed hW', X.limits, X.bytes, X.same.trans (hsame.setVm s.vm)⟩,
      ⟨g, mk, s₂, L, rfl, rfl, hqc, rfl, hL, rfl, rfl⟩, ?_⟩
    show Steps p.tables e below _ ((({ U with heap := s₂.heap, slotsUsed := s₂.slotsUsed } : State).setVm s₂.vm).setTop { g with pc := g.pc + len₂, stack := v.toList ++ g.stack })
    rw [← hs₂]
    exact hsteps
  · obtain ⟨e2, q2, q3, q4, q5, q6⟩ := id hsm
    have e3 : s₂ = ({ (U.calling g mk a).setFrames s₂.frames with heap := s₂.heap, slotsUsed := s₂.slotsUsed } : State).setVm s₂.vm := by
      have : s₂ = ({ s₂ with vm := (U.calling g mk a).vm } : State).setVm s₂.vm := rfl
      rw [e2] at this
      exact this
    have hf₂ : s₂.frames = .throwing q :: .java g :: U.frames.tail := hend
    have hW' : U.WarmedH s₂.vm := hW₂
    have hs₂ : s₂ = ((({ U with heap := s₂.heap, slotsUsed := s₂.slotsUsed } : State).setVm s₂.vm).setTop g).pushFrame (.throwing q) := by
      refine e3.trans ?_
      rw [hf₂, State.calling_eq h.top, State.setFrames_setFrames, State.pushFrame, State.frames_setTop _ hr', State.setTop_of_frames _ hr', State.setFrames_setFrames, hr]
      rfl
    have hsame : U.sameButNew ({ U with heap := s₂.heap, slotsUsed := s₂.slotsUsed } : State) L mc ms := by
      refine ⟨?_, q2, q3, q4, q5, q6⟩
      obtain ⟨t, ht, -⟩ := State.frames_cons hr
      show ({ U with heap := s₂.heap, slotsUsed := s₂.slotsUsed } : State) = { U.setFrames U.frames with heap := s₂.heap, slotsUsed := s₂.slotsUsed }
      rw [State.setFrames_self ht]
    subst hg
    refine Or.inr ⟨q, ⟨(({ U with heap := s₂.heap, slotsUsed := s₂.slotsUsed } : State).setVm s₂.vm), Ls ++ L, c0 + mc, s0 + ms⟩,
      ⟨X.admits, X.cas, X.clock, X.frames, X.room, X.hears, X.method, X.code, (X.here.setHeapUsed s₂.heap s₂.slotsUsed).setVm hW'.alike, X.tail, State.WarmedH.trans X.warmed hW', X.limits, X.bytes, X.same.trans (hsame.setVm s.vm)⟩,
      ⟨g, mk, s₂, L, E, ce, rfl, rfl, hx, hce, hcv, hcl, rfl, hL, rfl, rfl⟩, ?_⟩
    show Steps p.tables e below _ (((({ U with heap := s₂.heap, slotsUsed := s₂.slotsUsed } : State).setVm s₂.vm).setTop g).pushFrame (.throwing q))
    rw [← hs₂]
    exact hsteps
end
variable {p : Program} {l : Launch} {e : Env} {R : Room} {s : State} {m : MethodId} {args : Array Value} {below : List Frame} {meth : Method} {c : Code} {T : State} {H : Heap} {locs : List Loc} {cells slots : Nat}
theorem vx_callVX (X : Stand p l e R s m args below meth c T locs cells slots) (hexec : p.tables.exec = Jvm.exec) {own C : String} {index : Nat} {y : MethodName} {bytes : ByteArray} {maxL : Nat} {ret : Option FieldType} {hh : List (Nat × Nat × Nat × Nat)}
    (hown : s.vm.findClass own = some m.cls) (hlink : (Cond.methodLink own index y).before args s = true) (hinst : (Cond.instanceMethod y).before args s = true) (hsel : (Cond.selects C y y).before args s = true)
    (hcode : (Cond.codeWith y bytes maxL ret hh).before args s = true) (hy : y.cls ≠ "java/lang/invoke/MethodHandle" ∧ y.cls ≠ "java/lang/invoke/VarHandle")
    {W9 : Nat} {Pre : Pt → Array Value → Prop} {Post : Pt → Array Value → Option Value → Pt → Prop} {PostX : Pt → Array Value → Addr → Pt → Prop} (hK : vx_Back l R p e below s args y 3 W9 Pre Post PostX)
    {b : Addr} {cellB : Cell} (hcell : T.heap[b]? = some cellB) (hobj : cellB.vm.isStatics = false) (hcls : s.vm.findClass C = some cellB.cls)
    {g : JFrame} (hg : g.method = m) (hsize : g.locals.size = c.maxLocals) {argsL rest : List Value} (hlen : ∀ sig, parseMethodDescriptor y.desc = some sig → argsL.length = sig.parameters.length)
    (hstack : g.stack = argsL.reverse ++ .ref b :: rest) (hW : 2 * g.monitorRoom + (rest.map fun v => v.category).sum ≤ W9) (hdg : decode c.code g.pc = .ok (.invokevirtual index, 3))
    (hpre : ∀ vm₁, s.WarmedH vm₁ → Pre ⟨T.setVm vm₁, locs, cells, slots⟩ (Value.ref b :: argsL).toArray) :
    (∃ (v : Option Value) (vm₁ : Vm) (B : Pt), s.WarmedH vm₁ ∧ Stand p l e R s m args below meth c B.U B.locs B.cells B.slots ∧ Post ⟨T.setVm vm₁, locs, cells, slots⟩ (Value.ref b :: argsL).toArray v B ∧
      ∀ target, Steps p.tables e below (B.U.setTop { g with pc := g.pc + 3, stack := v.toList ++ rest }) target → Steps p.tables e below (T.setTop g) target) ∨
    (∃ (q : Addr) (vm₁ : Vm) (B : Pt), s.WarmedH vm₁ ∧ Stand p l e R s m args below meth c B.U B.locs B.cells B.slots ∧ PostX ⟨T.setVm vm₁, locs, cells, slots⟩ (Value.ref b :: argsL).toArray q B ∧
      Steps p.tables e below (T.setTop g) ((B.U.setTop { g with stack := rest }).pushFrame (.throwing q))) := by
  obtain ⟨mk, methM, hnamed, hmethM, hstM, habM⟩ := Cond.instanceMethod_spec hinst
  obtain ⟨m8, methM', cM, hn8, hmethM', -, -, -, -, -, -, hsigM⟩ := Cond.codeWith_spec hcode
  cases Option.some.inj (hn8.symm.trans hnamed)
  cases hmethM.symm.trans hmethM'
  obtain ⟨c2, r2, m2, q1, q2, q3, q4, kP, hkP, hkPi⟩ := Cond.selects_spec hsel
  cases hcls.symm.trans q1
  cases (State.methodFound?_of_named hnamed hy).symm.trans q2
  cases hnamed.symm.trans q3
  have hselP : selectMethod e.platform s.vm cellB.cls mk = .method mk := by rw [Launch.admits_selectMethod X.admits]; exact q4
  obtain ⟨vm₁, X₁, hstep₁⟩ := X.invokevirtual hexec hown hlink hnamed hmethM hstM hkP hkPi hy (a := b) (cell := cellB) hcell
    (fun z h => by rw [h] at hobj; cases hobj) hselP hmethM habM hkP hkPi (g := g) hg (argsL := argsL) (rest := rest) (hlen _ hsigM) hstack hdg
  rcases hK m meth c ⟨T.setVm vm₁, locs, cells, slots⟩ { g with stack := rest } (.invokevirtual index) mk (Value.ref b :: argsL).toArray X₁ hg hsize hdg hW (X₁.named hnamed) (hpre vm₁ X₁.warmed) with ⟨v, B, X', hpost, hsteps⟩ | ⟨q, B, X', hpost, hsteps⟩
  · exact Or.inl ⟨v, vm₁, B, X₁.warmed, X', hpost, fun target h => hstep₁ _ fun acts => by rw [doInvoke_state]; exact hsteps.trans h⟩
  · exact Or.inr ⟨q, vm₁, B, X₁.warmed, X', hpost, hstep₁ _ fun acts => by rw [doInvoke_state]; exact hsteps⟩
theorem vx_callSX (X : Stand p l e R s m args below meth c T locs cells slots) (hexec : p.tables.exec = Jvm.exec) {own : String} {index : Nat} {y : MethodName} {bytes : ByteArray} {maxL : Nat} {ret : Option FieldType} {hh : List (Nat × Nat × Nat × Nat)}
    (hown : s.vm.findClass own = some m.cls) (hlink : (Cond.methodLink own index y).before args s = true) (hstat : (Cond.static y).before args s = true) (hinit : (Cond.initialized y.cls).before args s = true)
    (hcode : (Cond.codeWith y bytes maxL ret hh).before args s = true) (hy : y.cls ≠ "java/lang/invoke/MethodHandle" ∧ y.cls ≠ "java/lang/invoke/VarHandle")
    {W9 : Nat} {Pre : Pt → Array Value → Prop} {Post : Pt → Array Value → Option Value → Pt → Prop} {PostX : Pt → Array Value → Addr → Pt → Prop} (hK : vx_Back l R p e below s args y 3 W9 Pre Post PostX)
    {g : JFrame} (hg : g.method = m) (hsize : g.locals.size = c.maxLocals) {argsL rest : List Value} (hlen : ∀ sig, parseMethodDescriptor y.desc = some sig → argsL.length = sig.parameters.length)
    (hstack : g.stack = argsL.reverse ++ rest) (hW : 2 * g.monitorRoom + (rest.map fun v => v.category).sum ≤ W9) (hdg : decode c.code g.pc = .ok (.invokestatic index, 3))
    (hpre : ∀ vm₁, s.WarmedH vm₁ → Pre ⟨T.setVm vm₁, locs, cells, slots⟩ argsL.toArray) :
    (∃ (v : Option Value) (vm₁ : Vm) (B : Pt), s.WarmedH vm₁ ∧ Stand p l e R s m args below meth c B.U B.locs B.cells B.slots ∧ Post ⟨T.setVm vm₁, locs, cells, slots⟩ argsL.toArray v B ∧
      ∀ target, Steps p.tables e below (B.U.setTop { g with pc := g.pc + 3, stack := v.toList ++ rest }) target → Steps p.tables e below (T.setTop g) target) ∨
    (∃ (q : Addr) (vm₁ : Vm) (B : Pt), s.WarmedH vm₁ ∧ Stand p l e R s m args below meth c B.U B.locs B.cells B.slots ∧ PostX ⟨T.setVm vm₁, locs, cells, slots⟩ argsL.toArray q B ∧
      Steps p.tables e below (T.setTop g) ((B.U.setTop { g with stack := rest }).pushFrame (.throwing q))) := by
  obtain ⟨mk, methM, cM, hnamed, hmethM, -, -, -, -, -, -, hsigM⟩ := Cond.codeWith_spec hcode
  have hstatic : methM.isStatic = true := Cond.static_spec hnamed hmethM hstat
  obtain ⟨kP, hkP, -⟩ := className_of_methodNamed hnamed
  have hinitP : kP.init = .initialized := Cond.initialized_spec (findClass_of_methodNamed hnamed) hkP hinit
  obtain ⟨vm₁, X₁, hstep₁⟩ := X.invokestatic hexec hown hlink hnamed hmethM hstatic hkP hinitP hy (g := g) hg (argsL := argsL) (rest := rest) (hlen _ hsigM) hstack hdg
  rcases hK m meth c ⟨T.setVm vm₁, locs, cells, slots⟩ { g with stack := rest } (.invokestatic index) mk argsL.toArray X₁ hg hsize hdg hW (X₁.named hnamed) (hpre vm₁ X₁.warmed) with ⟨v, B, X', hpost, hsteps⟩ | ⟨q, B, X', hpost, hsteps⟩
  · exact Or.inl ⟨v, vm₁, B, X₁.warmed, X', hpost, fun target h => hstep₁ _ fun acts => by rw [doInvoke_state]; exact hsteps.trans h⟩
  · exact Or.inr ⟨q, vm₁, B, X₁.warmed, X', hpost, hstep₁ _ fun acts => by rw [doInvoke_state]; exact hsteps⟩
theorem vx_callVW (X : Stand p l e R s m args below meth c T locs cells slots) (hexec : p.tables.exec = Jvm.exec) {own C : String} {index : Nat} {y : MethodName} {bytes : ByteArray} {maxL : Nat} {ret : Option FieldType} {hh : List (Nat × Nat × Nat × Nat)}
    (hown : s.vm.findClass own = some m.cls) (hlink : (Cond.methodLink own index y).before args s = true) (hinst : (Cond.instanceMethod y).before args s = true) (hsel : (Cond.selects C y y).before args s = true)
    (hcode : (Cond.codeWith y bytes maxL ret hh).before args s = true) (hy : y.cls ≠ "java/lang/invoke/MethodHandle" ∧ y.cls ≠ "java/lang/invoke/VarHandle")
    {W9 : Nat} {Pre : Pt → Array Value → Prop} {Post : Pt → Array Value → Option Value → Pt → Prop} (hK : Back l R p e below s args y 3 W9 Pre Post)
    {b : Addr} {cellB : Cell} (hcell : T.heap[b]? = some cellB) (hobj : cellB.vm.isStatics = false) (hcls : s.vm.findClass C = some cellB.cls)
    {g : JFrame} (hg : g.method = m) (hsize : g.locals.size = c.maxLocals) {argsL rest : List Value} (hlen : ∀ sig, parseMethodDescriptor y.desc = some sig → argsL.length = sig.parameters.length)
    (hstack : g.stack = argsL.reverse ++ .ref b :: rest) (hW : 2 * g.monitorRoom + (rest.map fun v => v.category).sum ≤ W9) (hdg : decode c.code g.pc = .ok (.invokevirtual index, 3))
    (hpre : ∀ vm₁, s.WarmedH vm₁ → Pre ⟨T.setVm vm₁, locs, cells, slots⟩ (Value.ref b :: argsL).toArray) :
    ∃ (v : Option Value) (vm₁ : Vm) (B : Pt), s.WarmedH vm₁ ∧ Stand p l e R s m args below meth c B.U B.locs B.cells B.slots ∧ Post ⟨T.setVm vm₁, locs, cells, slots⟩ (Value.ref b :: argsL).toArray v B ∧
      ∀ target, Steps p.tables e below (B.U.setTop { g with pc := g.pc + 3, stack := v.toList ++ rest }) target → Steps p.tables e below (T.setTop g) target := by
  obtain ⟨mk, methM, hnamed, hmethM, hstM, habM⟩ := Cond.instanceMethod_spec hinst
  obtain ⟨m8, methM', cM, hn8, hmethM', -, -, -, -, -, -, hsigM⟩ := Cond.codeWith_spec hcode
  cases Option.some.inj (hn8.symm.trans hnamed)
  cases hmethM.symm.trans hmethM'
  obtain ⟨c2, r2, m2, q1, q2, q3, q4, kP, hkP, hkPi⟩ := Cond.selects_spec hsel
  cases hcls.symm.trans q1
  cases (State.methodFound?_of_named hnamed hy).symm.trans q2
  cases hnamed.symm.trans q3
  have hselP : selectMethod e.platform s.vm cellB.cls mk = .method mk := by rw [Launch.admits_selectMethod X.admits]; exact q4
  obtain ⟨vm₁, X₁, hstep₁⟩ := X.invokevirtual hexec hown hlink hnamed hmethM hstM hkP hkPi hy (a := b) (cell := cellB) hcell
    (fun z h => by rw [h] at hobj; cases hobj) hselP hmethM habM hkP hkPi (g := g) hg (argsL := argsL) (rest := rest) (hlen _ hsigM) hstack hdg
  obtain ⟨v, B, X', hpost, hsteps⟩ := hK m meth c ⟨T.setVm vm₁, locs, cells, slots⟩ { g with stack := rest } (.invokevirtual index) mk (Value.ref b :: argsL).toArray X₁ hg hsize hdg hW (X₁.named hnamed) (hpre vm₁ X₁.warmed)
  exact ⟨v, vm₁, B, X₁.warmed, X', hpost, fun target h => hstep₁ _ fun acts => by rw [doInvoke_state]; exact hsteps.trans h⟩
abbrev vx_CVW (R : Room) (s : State) (args : Array Value) (own C : String) (index : Nat) (y : MethodName) (bytes : ByteArray) (maxL : Nat) (ret : Option FieldType) (hh : List (Nat × Nat × Nat × Nat)) (ws : List Cond) (rm : Room) (mc ms n : Nat) : Prop :=
  (rm.cells = mc ∧ rm.slots = ms ∧ rm.frames + 1 ≤ R.frames ∧ 8 + (maxL + 11) + rm.locals ≤ R.locals ∧ (∀ w ∈ ws, ∀ (a' : Array Value) (U : State), s.WarmedH U.vm → w.before a' U = true) ∧ Cond.codeWith y bytes maxL ret hh ∈ ws) ∧
  (Cond.codeWith y bytes maxL ret hh).before args s = true ∧ (Cond.initialized y.cls).before args s = true ∧ (y.cls ≠ "java/lang/invoke/MethodHandle" ∧ y.cls ≠ "java/lang/invoke/VarHandle") ∧
  (∀ sig, parseMethodDescriptor y.desc = some sig → n = sig.parameters.length) ∧ (Cond.methodLink own index y).before args s = true ∧ (Cond.instanceMethod y).before args s = true ∧ (Cond.selects C y y).before args s = true
theorem vx_cwVW {own C : String} {index maxL mc ms : Nat} {y : MethodName} {bytes : ByteArray} {ret : Option FieldType} {hh : List (Nat × Nat × Nat × Nat)} {Ts ws ws' : List Cond} {rm : Room} (n : Nat) (ht : ∀ w ∈ Ts, w.before args s = true) (hT : GoodIn Ts (wsV own index C y ws)) (hw : ws = Cond.codeWith y bytes maxL ret hh :: ws') (hrc : rm.cells = mc) (hrs : rm.slots = ms)
    (hd : y.cls = C ∧ y.cls ≠ "java/lang/invoke/MethodHandle" ∧ y.cls ≠ "java/lang/invoke/VarHandle" ∧ (parseMethodDescriptor y.desc).map (fun d => d.parameters.length) = some n) (hR : rm.frames + 1 ≤ R.frames ∧ 8 + (maxL + 11) + rm.locals ≤ R.locals) :
    vx_CVW R s args own C index y bytes maxL ret hh ws rm mc ms n := by
  obtain ⟨hC, hd⟩ := hd
  subst hC
  have ok : ∀ w ∈ wsV own index y.cls y ws, w.before args s = true := fun w h => ht w (hT w h).1
  have hG : GoodIn Ts ws := fun w h => hT w (by unfold wsV; exact List.mem_append_right _ h)
  have hc : Cond.codeWith y bytes maxL ret hh ∈ ws := by rw [hw]; exact List.mem_cons_self
  refine ⟨⟨hrc, hrs, hR.1, hR.2, pay_in ht hG, hc⟩, ht _ (hG _ hc).1, ok _ (by simp [wsV]), ⟨hd.1, hd.2.1⟩, fun sig h => ?_, ok _ (by simp [wsV]), ok _ (by simp [wsV]), ok _ (by simp [wsV])⟩
  have h2 := hd.2.2
  rw [h] at h2
  exact (Option.some.inj h2).symm
theorem vx_runVW {y : MethodName} {bytes cc : ByteArray} {maxL nL mc ms n index : Nat} {ret : Option FieldType} {hh : List (Nat × Nat × Nat × Nat)} {ws : List Cond} {rm : Room} {Pc : Array Value → State → Prop} {Qc : Array Value → State → Outcome → State → Prop} {free : Addr → Prop} {Ts : List Cond} {own C : String} {b : Addr} {As rest : List Value} {g : JFrame}
    (S : CallFix p m c cc nL s args Ts own) (hM : Met l y ws rm Pc Qc mc ms free) (cw : vx_CVW R s args own C index y bytes maxL ret hh ws rm mc ms n) (hp : PreV s H C b Pc As)
    (hg : g.method = m) (hn : As.length = n) (hsize : g.locals.size = nL) (hstack : g.stack = As.reverse ++ .ref b :: rest) (hW : 2 * g.monitorRoom + (rest.map fun v => v.category).sum ≤ 8) (hdg : decode cc g.pc = .ok (.invokevirtual index, 3)) (hf : cells + mc ≤ R.cells ∧ slots + ms ≤ R.slots) :
    va_Run p l e R s m args below meth c H locs cells slots mc ms g rest (Qc (Value.ref b :: As).toArray) free := by
  obtain ⟨⟨hrc, hrs, hfr, hlo, hws, hcw⟩, hcode, hini, hy, hlen, hl, hin, hse⟩ := cw
  have hK : Back l R p e below s args y 3 8 (PreOf R mc ms Pc) (PostOf Qc mc ms free) := va_backW (hh := hh) (bytes := bytes) (maxL := maxL) (ret := ret) hM hp.1 hrc hrs hfr hlo hws hcw (fun a' U hW => word_at hW (Or.inl (by first | rfl | simp [Cond.onTables, Cond.keeps, Cond.steady])) hini)
  obtain ⟨hx, hb, hml, ho, -⟩ := S
  obtain ⟨-, ⟨cellB, hcB, hoB, hclB⟩, hPc⟩ := hp
  intro T hT X
  obtain ⟨v, vm₁, ⟨U', l2, c2, s2⟩, hW₁, X', ⟨g', mk, t, L, e1, e2, hq, h1, hL, h2, h3⟩, st⟩ := vx_callVW X hx (C := C) (hh := hh) (bytes := bytes) (maxL := maxL) (ret := ret) ho hl hin hse hcode hy hK (by rw [hT]; exact hcB) hoB hclB hg (hsize.trans hml.symm) (argsL := As) (rest := rest) (fun sig h => hn.trans (hlen sig h)) hstack hW (by rw [hb]; exact hdg)
    (fun vm₁ hW₁ => ⟨hf.1, hf.2, hPc (T.setVm vm₁) hT hW₁⟩)
  dsimp only [Pt.U, Pt.locs, Pt.cells, Pt.slots] at X' e1 e2 h1 h2 h3 st
  subst h1; subst h2; subst h3
  exact ⟨v, (T.setVm vm₁).calling g' mk (Value.ref b :: As).toArray, t, U', L, hT, X', hL, e1, e2, hq, st⟩
section
variable {y : MethodName} {bytes cc : ByteArray} {maxL nL mc ms n index : Nat} {ret : Option FieldType} {ws : List Cond} {rm : Room} {Pc : Array Value → State → Prop} {Qc : Array Value → State → Outcome → State → Prop} {XC : String → State → State → Prop} {free : Addr → Prop} {Ts : List Cond} {own C : String} {b : Addr} {As rest : List Value} {g : JFrame}
theorem vx_runVX {hh : List (Nat × Nat × Nat × Nat)} (S : CallFix p m c cc nL s args Ts own) (hM : vx_Met l y ws rm Pc Qc XC mc ms free) (cw : vx_CVW R s args own C index y bytes maxL ret hh ws rm mc ms n) (hp : PreV s H C b Pc As)
    (hg : g.method = m) (hn : As.length = n) (hsize : g.locals.size = nL) (hstack : g.stack = As.reverse ++ .ref b :: rest) (hW : 2 * g.monitorRoom + (rest.map fun v => v.category).sum ≤ 8) (hdg : decode cc g.pc = .ok (.invokevirtual index, 3)) (hf : cells + mc ≤ R.cells ∧ slots + ms ≤ R.slots) :
    vx_Run p l e R s m args below meth c H locs cells slots mc ms g rest (Qc (Value.ref b :: As).toArray) XC free := by
  obtain ⟨⟨hrc, hrs, hfr, hlo, hws, hcw⟩, hcode, hini, hy, hlen, hl, hin, hse⟩ := cw
  have hK : vx_Back l R p e below s args y 3 8 (PreOf R mc ms Pc) (PostOf Qc mc ms free) (vx_Post XC mc ms free) := vx_backW (hh := hh) (bytes := bytes) (maxL := maxL) (ret := ret) hM hp.1 hrc hrs hfr hlo hws hcw (fun a' U hW => word_at hW (Or.inl (by first | rfl | simp [Cond.onTables, Cond.keeps, Cond.steady])) hini)
  obtain ⟨hx, hb, hml, ho, -⟩ := S
  obtain ⟨-, ⟨cellB, hcB, hoB, hclB⟩, hPc⟩ := hp
  intro T hT X
  rcases vx_callVX X hx (C := C) (hh := hh) (bytes := bytes) (maxL := maxL) (ret := ret) ho hl hin hse hcode hy hK (by rw [hT]; exact hcB) hoB hclB hg (hsize.trans hml.symm) (argsL := As) (rest := rest) (fun sig h => hn.trans (hlen sig h)) hstack hW (by rw [hb]; exact hdg)
    (fun vm₁ hW₁ => ⟨hf.1, hf.2, hPc (T.setVm vm₁) hT hW₁⟩) with ⟨v, vm₁, ⟨U', l2, c2, s2⟩, hW₁, X', ⟨g', mk, t, L, e1, e2, hq, h1, hL, h2, h3⟩, st⟩ | ⟨q, vm₁, ⟨U', l2, c2, s2⟩, hW₁, X', ⟨g', mk, t, L, E, ce, e1, e2, hq, hce, hcv, hcl, h1, hL, h2, h3⟩, st⟩
  · dsimp only [Pt.U, Pt.locs, Pt.cells, Pt.slots] at X' e1 e2 h1 h2 h3 st
    subst h1; subst h2; subst h3
    exact Or.inl ⟨v, (T.setVm vm₁).calling g' mk (Value.ref b :: As).toArray, t, U', L, hT, X', hL, e1, e2, hq, st⟩
  · dsimp only [Pt.U, Pt.locs, Pt.cells, Pt.slots] at X' e1 e2 h1 h2 h3 st hcl
    subst h1; subst h2; subst h3
    exact Or.inr ⟨q, (T.setVm vm₁).calling g' mk (Value.ref b :: As).toArray, t, U', L, E, ce, hT, X', hL, e1, e2, hq, hce, hcv, vx_cls hW₁ hcl, st⟩
theorem vx_runSX {hh : List (Nat × Nat × Nat × Nat)} (S : CallFix p m c cc nL s args Ts own) (hM : vx_Met l y ws rm Pc Qc XC mc ms free) (cw : vx_CSW R s args own index y bytes maxL ret hh ws rm mc ms n) (hp : PreS s H Pc As)
    (hg : g.method = m) (hn : As.length = n) (hsize : g.locals.size = nL) (hstack : g.stack = As.reverse ++ rest) (hW : 2 * g.monitorRoom + (rest.map fun v => v.category).sum ≤ 8) (hdg : decode cc g.pc = .ok (.invokestatic index, 3)) (hf : cells + mc ≤ R.cells ∧ slots + ms ≤ R.slots) :
    vx_Run p l e R s m args below meth c H locs cells slots mc ms g rest (Qc As.toArray) XC free := by
  obtain ⟨⟨hrc, hrs, hfr, hlo, hws, hcw⟩, hcode, hini, hy, hlen, hl, hstt⟩ := cw
  have hK : vx_Back l R p e below s args y 3 8 (PreOf R mc ms Pc) (PostOf Qc mc ms free) (vx_Post XC mc ms free) := vx_backW (hh := hh) (bytes := bytes) (maxL := maxL) (ret := ret) hM hp.1 hrc hrs hfr hlo hws hcw (fun a' U hW => word_at hW (Or.inl (by first | rfl | simp [Cond.onTables, Cond.keeps, Cond.steady])) hini)
  obtain ⟨hx, hb, hml, ho, -⟩ := S
  intro T hT X
  rcases vx_callSX X hx (hh := hh) (bytes := bytes) (maxL := maxL) (ret := ret) ho hl hstt hini hcode hy hK hg (hsize.trans hml.symm) (argsL := As) (rest := rest) (fun sig h => hn.trans (hlen sig h)) hstack hW (by rw [hb]; exact hdg)
    (fun vm₁ hW₁ => ⟨hf.1, hf.2, hp.2 (T.setVm vm₁) hT hW₁⟩) with ⟨v, vm₁, ⟨U', l2, c2, s2⟩, hW₁, X', ⟨g', mk, t, L, e1, e2, hq, h1, hL, h2, h3⟩, st⟩ | ⟨q, vm₁, ⟨U', l2, c2, s2⟩, hW₁, X', ⟨g', mk, t, L, E, ce, e1, e2, hq, hce, hcv, hcl, h1, hL, h2, h3⟩, st⟩
  · dsimp only [Pt.U, Pt.locs, Pt.cells, Pt.slots] at X' e1 e2 h1 h2 h3 st
    subst h1; subst h2; subst h3
    exact Or.inl ⟨v, (T.setVm vm₁).calling g' mk As.toArray, t, U', L, hT, X', hL, e1, e2, hq, st⟩
  · dsimp only [Pt.U, Pt.locs, Pt.cells, Pt.slots] at X' e1 e2 h1 h2 h3 st hcl
    subst h1; subst h2; subst h3
    exact Or.inr ⟨q, (T.setVm vm₁).calling g' mk As.toArray, t, U', L, E, ce, hT, X', hL, e1, e2, hq, hce, hcv, vx_cls hW₁ hcl, st⟩
end
end VXH
theorem vx_ofWH {l : Launch} {y : MethodName} {ws ws' : List Cond} {rm : Room} {Pc : Array Value → State → Prop} {Qc : Array Value → State → Outcome → State → Prop} {XC : String → State → State → Prop} {mc ms : Nat} {free : Addr → Prop} {cc : ByteArray} {maxL : Nat} {ret : Option FieldType} {hh : List (Nat × Nat × Nat × Nat)}
    (hy : plainName y.cls = true) (hw : ws = Cond.codeWith y cc maxL ret hh :: ws')
    (body : ∀ p e s m args below meth c s₁, BodyLoose p l y (headSpec ws rm) cc maxL ret e s m args below meth c s₁ → c.maxLocals = maxL → Pc args s →
      W p l e (headSpec ws rm).room s m args below meth c s.heap [] 0 0 (vx_MQ below Qc XC args s mc ms free) (entryFrame m args maxL)) : vx_Met l y ws rm Pc Qc XC mc ms free := by
  refine MetFree.of_bodyS (code := cc) (maxLocals := maxL) (ret := ret) hy ?_ ?_
  · intro args s m h hn
    obtain ⟨m9, meth, c, hn9, h1, h2, h3, h4, -, h5, h6, -⟩ := Cond.codeWith_spec (atoms_spec (ws := ws) h _ (by rw [hw]; exact List.mem_cons_self))
    cases hn.symm.trans hn9
    exact ⟨meth, c, h1, h2, h3, h4, h5, h6⟩
  · intro p e s m args below meth c s₁ B hml hP _
    have hh0 : s₁.heap = s.heap := by rw [B.state]; rfl
    obtain ⟨t, a1, o, b1, b2, b3⟩ := body p e s m args below meth c s₁ B hml hP s₁ hh0 (Stand.of_body B)
    exact ⟨t, o, a1, b1, b2, b3⟩
/-! ===== END ===== -/
end
section
/-! The tables of the program, by program (wip/whole/gen_data.py) out of the printed names and tables. -/
def RX0 : String := "PaperLand$Bytes"
def TX0 : u_T := fun k => match k with
  | 0 => ("PaperLand$Bytes", "bytes", "[I", true)
  | _ => ("PaperLand$Bytes", "length", "I", false)
def tyX0 : Nat → FieldType := fun k => match k with
  | 0 => .array .int
  | _ => .int
theorem nmX0 : ∀ a, a < 2 → ∀ b, b < 2 → a ≠ b → (TX0 a).2.1 ≠ (TX0 b).2.1 := by decide +kernel
theorem tyX0_ok : ∀ k, k < 2 → parseFieldDescriptor (TX0 k).2.2.1 = some (tyX0 k) := by decide +kernel
def RX1 : String := "PaperLand$Cuts"
def TX1 : u_T := fun k => match k with
  | 0 => ("PaperLand$Cuts", "cutOf", "[I", true)
  | 1 => ("PaperLand$Cuts", "total", "I", false)
  | _ => ("PaperLand$Cuts", "strips", "J", false)
def tyX1 : Nat → FieldType := fun k => match k with
  | 0 => .array .int
  | 1 => .int
  | _ => .long
theorem nmX1 : ∀ a, a < 3 → ∀ b, b < 3 → a ≠ b → (TX1 a).2.1 ≠ (TX1 b).2.1 := by decide +kernel
theorem tyX1_ok : ∀ k, k < 3 → parseFieldDescriptor (TX1 k).2.2.1 = some (tyX1 k) := by decide +kernel
def RX2 : String := "PaperLand$Folding"
def TX2 : u_T := fun k => match k with
  | 0 => ("PaperLand$Folding", "rows", "I", false)
  | 1 => ("PaperLand$Folding", "columns", "I", false)
  | 2 => ("PaperLand$Folding", "folds", "I", false)
  | 3 => ("PaperLand$Folding", "isHighFold", "[Z", true)
  | 4 => ("PaperLand$Folding", "pile", "[I", true)
  | 5 => ("PaperLand$Folding", "laid", "[I", true)
  | _ => ("PaperLand$Folding", "pages", "[I", true)
def tyX2 : Nat → FieldType := fun k => match k with
  | 0 => .int
  | 1 => .int
  | 2 => .int
  | 3 => .array .boolean
  | 4 => .array .int
  | 5 => .array .int
  | _ => .array .int
theorem nmX2 : ∀ a, a < 7 → ∀ b, b < 7 → a ≠ b → (TX2 a).2.1 ≠ (TX2 b).2.1 := by decide +kernel
theorem tyX2_ok : ∀ k, k < 7 → parseFieldDescriptor (TX2 k).2.2.1 = some (tyX2 k) := by decide +kernel
def RX3 : String := "PaperLand$History"
def TX3 : u_T := fun k => match k with
  | 0 => ("PaperLand$History", "lands", "[LPaperLand$Land;", true)
  | 1 => ("PaperLand$History", "next", "I", false)
  | _ => ("PaperLand$History", "held", "I", false)
def tyX3 : Nat → FieldType := fun k => match k with
  | 0 => .array (.object "PaperLand$Land")
  | 1 => .int
  | _ => .int
theorem nmX3 : ∀ a, a < 3 → ∀ b, b < 3 → a ≠ b → (TX3 a).2.1 ≠ (TX3 b).2.1 := by decide +kernel
theorem tyX3_ok : ∀ k, k < 3 → parseFieldDescriptor (TX3 k).2.2.1 = some (tyX3 k) := by decide +kernel
def RX4 : String := "PaperLand$Land"
def TX4 : u_T := fun k => match k with
  | 0 => ("PaperLand$Land", "edge", "I", false)
  | 1 => ("PaperLand$Land", "ream", "I", false)
  | 2 => ("PaperLand$Land", "seriesCount", "I", false)
  | 3 => ("PaperLand$Land", "series", "[LPaperLand$Series;", true)
  | 4 => ("PaperLand$Land", "prints", "LPaperLand$Prints;", true)
  | _ => ("PaperLand$Land", "accounts", "[J", true)
def tyX4 : Nat → FieldType := fun k => match k with
  | 0 => .int
  | 1 => .int
  | 2 => .int
  | 3 => .array (.object "PaperLand$Series")
  | 4 => .object "PaperLand$Prints"
  | _ => .array .long
theorem nmX4 : ∀ a, a < 6 → ∀ b, b < 6 → a ≠ b → (TX4 a).2.1 ≠ (TX4 b).2.1 := by decide +kernel
theorem tyX4_ok : ∀ k, k < 6 → parseFieldDescriptor (TX4 k).2.2.1 = some (tyX4 k) := by decide +kernel
def RX5 : String := "PaperLand$Plan"
def TX5 : u_T := fun k => match k with
  | 0 => ("PaperLand$Plan", "cuts", "LPaperLand$Cuts;", true)
  | 1 => ("PaperLand$Plan", "w", "I", false)
  | 2 => ("PaperLand$Plan", "h", "I", false)
  | 3 => ("PaperLand$Plan", "number", "I", false)
  | 4 => ("PaperLand$Plan", "reason", "I", false)
  | 5 => ("PaperLand$Plan", "series", "I", false)
  | 6 => ("PaperLand$Plan", "n", "I", false)
  | 7 => ("PaperLand$Plan", "left", "I", false)
  | 8 => ("PaperLand$Plan", "sizesThatFit", "I", false)
  | _ => ("PaperLand$Plan", "greatestSupply", "I", false)
def tyX5 : Nat → FieldType := fun k => match k with
  | 0 => .object "PaperLand$Cuts"
  | 1 => .int
  | 2 => .int
  | 3 => .int
  | 4 => .int
  | 5 => .int
  | 6 => .int
  | 7 => .int
  | 8 => .int
  | _ => .int
theorem nmX5 : ∀ a, a < 10 → ∀ b, b < 10 → a ≠ b → (TX5 a).2.1 ≠ (TX5 b).2.1 := by decide +kernel
theorem tyX5_ok : ∀ k, k < 10 → parseFieldDescriptor (TX5 k).2.2.1 = some (tyX5 k) := by decide +kernel
def RX6 : String := "PaperLand$Prints"
def TX6 : u_T := fun k => match k with
  | 0 => ("PaperLand$Prints", "ws", "[I", true)
  | 1 => ("PaperLand$Prints", "hs", "[I", true)
  | 2 => ("PaperLand$Prints", "numbers", "[I", true)
  | _ => ("PaperLand$Prints", "kept", "I", false)
def tyX6 : Nat → FieldType := fun k => match k with
  | 0 => .array .int
  | 1 => .array .int
  | 2 => .array .int
  | _ => .int
theorem nmX6 : ∀ a, a < 4 → ∀ b, b < 4 → a ≠ b → (TX6 a).2.1 ≠ (TX6 b).2.1 := by decide +kernel
theorem tyX6_ok : ∀ k, k < 4 → parseFieldDescriptor (TX6 k).2.2.1 = some (tyX6 k) := by decide +kernel
def RX7 : String := "PaperLand$Reader"
def TX7 : u_T := fun k => match k with
  | 0 => ("PaperLand$Reader", "text", "LPaperLand$Bytes;", true)
  | 1 => ("PaperLand$Reader", "kind", "I", false)
  | 2 => ("PaperLand$Reader", "start", "I", false)
  | 3 => ("PaperLand$Reader", "end", "I", false)
  | 4 => ("PaperLand$Reader", "value", "I", false)
  | 5 => ("PaperLand$Reader", "faultCode", "I", false)
  | _ => ("PaperLand$Reader", "faultPosition", "I", false)
def tyX7 : Nat → FieldType := fun k => match k with
  | 0 => .object "PaperLand$Bytes"
  | 1 => .int
  | 2 => .int
  | 3 => .int
  | 4 => .int
  | 5 => .int
  | _ => .int
theorem nmX7 : ∀ a, a < 7 → ∀ b, b < 7 → a ≠ b → (TX7 a).2.1 ≠ (TX7 b).2.1 := by decide +kernel
theorem tyX7_ok : ∀ k, k < 7 → parseFieldDescriptor (TX7 k).2.2.1 = some (tyX7 k) := by decide +kernel
def RX8 : String := "PaperLand$Script"
def TX8 : u_T := fun k => match k with
  | 0 => ("PaperLand$Script", "kinds", "[I", true)
  | 1 => ("PaperLand$Script", "firsts", "[I", true)
  | 2 => ("PaperLand$Script", "seconds", "[I", true)
  | 3 => ("PaperLand$Script", "thirds", "[I", true)
  | 4 => ("PaperLand$Script", "ends", "[I", true)
  | _ => ("PaperLand$Script", "total", "I", false)
def tyX8 : Nat → FieldType := fun k => match k with
  | 0 => .array .int
  | 1 => .array .int
  | 2 => .array .int
  | 3 => .array .int
  | 4 => .array .int
  | _ => .int
theorem nmX8 : ∀ a, a < 6 → ∀ b, b < 6 → a ≠ b → (TX8 a).2.1 ≠ (TX8 b).2.1 := by decide +kernel
theorem tyX8_ok : ∀ k, k < 6 → parseFieldDescriptor (TX8 k).2.2.1 = some (tyX8 k) := by decide +kernel
def RX9 : String := "PaperLand$Series"
def TX9 : u_T := fun k => match k with
  | 0 => ("PaperLand$Series", "letters", "[I", true)
  | 1 => ("PaperLand$Series", "letterCount", "I", false)
  | 2 => ("PaperLand$Series", "wides", "[I", true)
  | 3 => ("PaperLand$Series", "highs", "[I", true)
  | _ => ("PaperLand$Series", "stacks", "[I", true)
def tyX9 : Nat → FieldType := fun k => match k with
  | 0 => .array .int
  | 1 => .int
  | 2 => .array .int
  | 3 => .array .int
  | _ => .array .int
theorem nmX9 : ∀ a, a < 5 → ∀ b, b < 5 → a ≠ b → (TX9 a).2.1 ≠ (TX9 b).2.1 := by decide +kernel
theorem tyX9_ok : ∀ k, k < 5 → parseFieldDescriptor (TX9 k).2.2.1 = some (tyX9 k) := by decide +kernel
def RX10 : String := "PaperLand$SetupReader"
def TX10 : u_T := fun k => match k with
  | 0 => ("PaperLand$SetupReader", "reader", "LPaperLand$Reader;", true)
  | _ => ("PaperLand$SetupReader", "isTold", "[Z", true)
def tyX10 : Nat → FieldType := fun k => match k with
  | 0 => .object "PaperLand$Reader"
  | _ => .array .boolean
theorem nmX10 : ∀ a, a < 2 → ∀ b, b < 2 → a ≠ b → (TX10 a).2.1 ≠ (TX10 b).2.1 := by decide +kernel
theorem tyX10_ok : ∀ k, k < 2 → parseFieldDescriptor (TX10 k).2.2.1 = some (tyX10 k) := by decide +kernel
def RX11 : String := "PaperLand"
def TX11 : u_T := fun k => match k with
  | 0 => ("PaperLand", "text", "LPaperLand$Bytes;", true)
  | 1 => ("PaperLand", "written", "LPaperLand$Bytes;", true)
  | 2 => ("PaperLand", "reader", "LPaperLand$Reader;", true)
  | 3 => ("PaperLand", "setupReader", "LPaperLand$SetupReader;", true)
  | 4 => ("PaperLand", "script", "LPaperLand$Script;", true)
  | 5 => ("PaperLand", "land", "LPaperLand$Land;", true)
  | 6 => ("PaperLand", "draft", "LPaperLand$Land;", true)
  | 7 => ("PaperLand", "history", "LPaperLand$History;", true)
  | 8 => ("PaperLand", "slots", "[LPaperLand$Land;", true)
  | 9 => ("PaperLand", "isSaved", "[Z", true)
  | 10 => ("PaperLand", "refusals", "[I", true)
  | 11 => ("PaperLand", "plan", "LPaperLand$Plan;", true)
  | 12 => ("PaperLand", "folding", "LPaperLand$Folding;", true)
  | _ => ("PaperLand", "scriptDone", "I", false)
def tyX11 : Nat → FieldType := fun k => match k with
  | 0 => .object "PaperLand$Bytes"
  | 1 => .object "PaperLand$Bytes"
  | 2 => .object "PaperLand$Reader"
  | 3 => .object "PaperLand$SetupReader"
  | 4 => .object "PaperLand$Script"
  | 5 => .object "PaperLand$Land"
  | 6 => .object "PaperLand$Land"
  | 7 => .object "PaperLand$History"
  | 8 => .array (.object "PaperLand$Land")
  | 9 => .array .boolean
  | 10 => .array .int
  | 11 => .object "PaperLand$Plan"
  | 12 => .object "PaperLand$Folding"
  | _ => .int
theorem nmX11 : ∀ a, a < 14 → ∀ b, b < 14 → a ≠ b → (TX11 a).2.1 ≠ (TX11 b).2.1 := by decide +kernel
theorem tyX11_ok : ∀ k, k < 14 → parseFieldDescriptor (TX11 k).2.2.1 = some (tyX11 k) := by decide +kernel
def RX12 : String := "PaperLandLaw$Series"
def TX12 : u_T := fun k => match k with
  | 0 => ("PaperLandLaw$Series", "wide", "[I", true)
  | 1 => ("PaperLandLaw$Series", "high", "[I", true)
  | _ => ("PaperLandLaw$Series", "sheets", "[I", true)
def tyX12 : Nat → FieldType := fun k => match k with
  | 0 => .array .int
  | 1 => .array .int
  | _ => .array .int
theorem nmX12 : ∀ a, a < 3 → ∀ b, b < 3 → a ≠ b → (TX12 a).2.1 ≠ (TX12 b).2.1 := by decide +kernel
theorem tyX12_ok : ∀ k, k < 3 → parseFieldDescriptor (TX12 k).2.2.1 = some (tyX12 k) := by decide +kernel
def RJ5 : String := "java/lang/AbstractStringBuilder"
def RJ6 : String := "java/lang/Integer"
def TJ6 : u_T := fun k => match k with
  | _ => ("java/lang/Integer", "value", "I", true)
def tyJ6 : Nat → FieldType := fun k => match k with
  | _ => .int
theorem nmJ6 : ∀ a, a < 1 → ∀ b, b < 1 → a ≠ b → (TJ6 a).2.1 ≠ (TJ6 b).2.1 := by decide +kernel
theorem tyJ6_ok : ∀ k, k < 1 → parseFieldDescriptor (TJ6 k).2.2.1 = some (tyJ6 k) := by decide +kernel
def RJ0 : String := "java/lang/String"
def TJ0 : u_T := fun k => match k with
  | 0 => ("java/lang/String", "value", "[B", true)
  | 1 => ("java/lang/String", "coder", "B", true)
  | 2 => ("java/lang/String", "hash", "I", false)
  | _ => ("java/lang/String", "hashIsZero", "Z", false)
def tyJ0 : Nat → FieldType := fun k => match k with
  | 0 => .array .byte
  | 1 => .byte
  | 2 => .int
  | _ => .boolean
theorem nmJ0 : ∀ a, a < 4 → ∀ b, b < 4 → a ≠ b → (TJ0 a).2.1 ≠ (TJ0 b).2.1 := by decide +kernel
theorem tyJ0_ok : ∀ k, k < 4 → parseFieldDescriptor (TJ0 k).2.2.1 = some (tyJ0 k) := by decide +kernel
def RJ4 : String := "java/lang/StringBuilder"
def TJ4 : u_T := fun k => match k with
  | 0 => ("java/lang/AbstractStringBuilder", "value", "[B", false)
  | 1 => ("java/lang/AbstractStringBuilder", "coder", "B", false)
  | 2 => ("java/lang/AbstractStringBuilder", "maybeLatin1", "Z", false)
  | _ => ("java/lang/AbstractStringBuilder", "count", "I", false)
def tyJ4 : Nat → FieldType := fun k => match k with
  | 0 => .array .byte
  | 1 => .byte
  | 2 => .boolean
  | _ => .int
theorem nmJ4 : ∀ a, a < 4 → ∀ b, b < 4 → a ≠ b → (TJ4 a).2.1 ≠ (TJ4 b).2.1 := by decide +kernel
theorem tyJ4_ok : ∀ k, k < 4 → parseFieldDescriptor (TJ4 k).2.2.1 = some (tyJ4 k) := by decide +kernel
def RJ1 : String := "java/lang/StringLatin1"
def RJxa1e45 : String := "java/util/AbstractCollection"
def RJxc12de : String := "java/util/AbstractList"
def RJx4a65c : String := "java/util/ArrayList"
def TJx4a65c : u_T := fun k => match k with
  | 0 => ("java/util/AbstractList", "modCount", "I", false)
  | 1 => ("java/util/ArrayList", "elementData", "[Ljava/lang/Object;", false)
  | _ => ("java/util/ArrayList", "size", "I", false)
def tyJx4a65c : Nat → FieldType := fun k => match k with
  | 0 => .int
  | 1 => .array (.object "java/lang/Object")
  | _ => .int
theorem nmJx4a65c : ∀ a, a < 3 → ∀ b, b < 3 → a ≠ b → (TJx4a65c a).2.1 ≠ (TJx4a65c b).2.1 := by decide +kernel
theorem tyJx4a65c_ok : ∀ k, k < 3 → parseFieldDescriptor (TJx4a65c k).2.2.1 = some (tyJx4a65c k) := by decide +kernel
def RJ7 : String := "java/util/Arrays"
def RJ15 : String := "java/util/Objects"
def RJ8 : String := "jdk/internal/util/ArraysSupport"
def RJ3 : String := "jdk/internal/util/Preconditions"
def RL : String := "PaperLandLaw"
def TL : u_T := fun k => match k with
  | 0 => ("PaperLandLaw", "all", "Ljava/util/List;", true)
  | 1 => ("PaperLandLaw", "accounts", "[J", true)
  | 2 => ("PaperLandLaw", "edge", "I", false)
  | _ => ("PaperLandLaw", "ream", "I", false)
def tyL : Nat → FieldType := fun k => match k with
  | 0 => .object "java/util/List"
  | 1 => .array .long
  | 2 => .int
  | _ => .int
theorem nmL : ∀ a, a < 4 → ∀ b, b < 4 → a ≠ b → (TL a).2.1 ≠ (TL b).2.1 := by decide +kernel
theorem tyL_ok : ∀ k, k < 4 → parseFieldDescriptor (TL k).2.2.1 = some (tyL k) := by decide +kernel
/-- the classes of objects, the class's own first -/
abbrev vwCl : List vw_C := [(RX0, TX0, 2), (RX1, TX1, 3), (RX2, TX2, 7), (RX3, TX3, 3), (RX4, TX4, 6), (RX5, TX5, 10), (RX6, TX6, 4), (RX7, TX7, 7), (RX8, TX8, 6), (RX9, TX9, 5), (RX10, TX10, 2), (RX11, TX11, 14), (RX12, TX12, 3), (RL, TL, 4), (RJ0, TJ0, 4), (RJ4, TJ4, 4), (RJ6, TJ6, 1), (RJx4a65c, TJx4a65c, 3)]
abbrev jm_Ins : Type := List (List (Option (Instr × Nat)))
abbrev jm_Meth : Type := MethodName × ByteArray × Nat × Option FieldType × Nat × Bool × jm_Ins × List (Nat × String) × List (Nat × Nat × Nat × String)
def jmI_L_law : jm_Ins := [[some (.new 21, 3), none, none, some (.dup, 1), some (.invokespecial 97, 3), none, none, some (.astore_n 1, 1), some (.aload_n 0, 1), some (.arraylength, 1), some (.istore_n 2, 1), some (.iconst 0, 1), some (.istore_n 3, 1), some (.iload_n 3, 1), some (.iload_n 2, 1), some (.if_icmp .ge 93, 3), none, none, some (.iload_n 3, 1), some (.iconst 2, 1), some (.if_icmp .ge 88, 3), none, none, some (.iconst 1, 1), some (.newarray .int, 2), none, some (.dup, 1), some (.iconst 0, 1), some (.aload_n 0, 1), some (.iload_n 3, 1), some (.iaload, 1), some (.iastore, 1)],
  [some (.astore 4, 2), none, some (.aload_n 1, 1), some (.aload 4, 2), none, some (.invokestatic 98, 3), none, none, some (.astore 5, 2), none, some (.aload 5, 2), none, some (.ifnonnull 5, 3), none, none, some (.iconst 0, 1), some (.ireturn, 1), some (.iconst 0, 1), some (.istore 6, 2), none, some (.iload 6, 2), none, some (.bipush 16, 2), none, some (.if_icmp .ge 33, 3), none, none, some (.aload_n 1, 1), some (.aload 5, 2), none, some (.aload 4, 2), none],
  [some (.invokestatic 102, 3), none, none, some (.ifCond .eq 14, 3), none, none, some (.aload_n 1, 1), some (.aload 5, 2), none, some (.aload 4, 2), none, some (.invokestatic 106, 3), none, none, some (.ifCond .ne 5, 3), none, none, some (.iconst 0, 1), some (.ireturn, 1), some (.iinc 6 1, 3), none, none, some (.goto (-34), 3), none, none, some (.aload_n 1, 1), some (.aload 5, 2), none, some (.aload 4, 2), none, some (.invokestatic 102, 3), none],
  [none, some (.ifCond .ne 5, 3), none, none, some (.iconst 0, 1), some (.ireturn, 1), some (.iinc 3 1, 3), none, none, some (.goto (-92), 3), none, none, some (.iconst 1, 1), some (.ireturn, 1)]]
def jmM_L_law : jm_Meth := (⟨"PaperLandLaw", "law", "([I)Z"⟩, code, 9, some .boolean, 13, true, jmI_L_law, [], [])
def jmI_L_init : jm_Ins := [[some (.aload_n 0, 1), some (.invokespecial 1, 3), none, none, some (.aload_n 0, 1), some (.new 7, 3), none, none, some (.dup, 1), some (.invokespecial 9, 3), none, none, some (.putfield 10, 3), none, none, some (.aload_n 0, 1), some (.bipush 8, 2), none, some (.newarray .long, 2), none, some (.putfield 16, 3), none, none, some (.return_, 1)]]
def jmM_L_init : jm_Meth := (⟨"PaperLandLaw", "<init>", "()V"⟩, method_1_code, 1, none, 13, false, jmI_L_init, [], [])
def jmI_L_feeds : jm_Ins := [[some (.aload_n 0, 1), some (.iconst 0, 1), some (.invokevirtual 20, 3), none, none, some (.istore_n 2, 1), some (.iconst 0, 1), some (.istore_n 3, 1), some (.iload_n 3, 1), some (.aload_n 1, 1), some (.invokevirtual 26, 3), none, none, some (.if_icmp .ge 105, 3), none, none, some (.iconst 5, 1), some (.newarray .int, 2), none, some (.astore 4, 2), none, some (.iconst 0, 1), some (.istore 5, 2), none, some (.iload 5, 2), none, some (.bipush 20, 2), none, some (.if_icmp .ge 51, 3), none, none, some (.aload 4, 2)],
  [none, some (.iload 5, 2), none, some (.iconst 4, 1), some (.idiv, 1), some (.aload 4, 2), none, some (.iload 5, 2), none, some (.iconst 4, 1), some (.idiv, 1), some (.iaload, 1), some (.bipush 8, 2), none, some (.ishl, 1), some (.iload_n 3, 1), some (.iload 5, 2), none, some (.iadd, 1), some (.aload_n 1, 1), some (.invokevirtual 26, 3), none, none, some (.if_icmp .ge 14, 3), none, none, some (.aload_n 1, 1), some (.iload_n 3, 1), some (.iload 5, 2), none, some (.iadd, 1), some (.invokevirtual 32, 3)],
  [none, none, some (.goto 5, 3), none, none, some (.bipush 32, 2), none, some (.ior, 1), some (.iastore, 1), some (.iinc 5 1, 3), none, none, some (.goto (-52), 3), none, none, some (.aload_n 0, 1), some (.aload 4, 2), none, some (.iconst 0, 1), some (.iaload, 1), some (.aload 4, 2), none, some (.iconst 1, 1), some (.iaload, 1), some (.aload 4, 2), none, some (.iconst 2, 1), some (.iaload, 1), some (.aload 4, 2), none, some (.iconst 3, 1), some (.iaload, 1)],
  [some (.aload 4, 2), none, some (.iconst 4, 1), some (.iaload, 1), some (.invokevirtual 36, 3), none, none, some (.iload_n 3, 1), some (.bipush 20, 2), none, some (.iadd, 1), some (.if_icmp .eq 5, 3), none, none, some (.iconst 0, 1), some (.ireturn, 1), some (.iinc 3 20, 3), none, none, some (.goto (-107), 3), none, none, some (.iload_n 2, 1), some (.ifCond .ne 22, 3), none, none, some (.aload_n 0, 1), some (.aload_n 1, 1), some (.invokevirtual 26, 3), none, none, some (.invokevirtual 20, 3)],
  [none, none, some (.aload_n 1, 1), some (.invokevirtual 26, 3), none, none, some (.if_icmp .ne 7, 3), none, none, some (.iconst 1, 1), some (.goto 4, 3), none, none, some (.iconst 0, 1), some (.ireturn, 1)]]
def jmM_L_feeds : jm_Meth := (⟨"PaperLandLaw", "feeds", "(LPaperLand;Ljava/lang/String;)Z"⟩, method_2_code, 6, some .boolean, 13, true, jmI_L_feeds, [], [])
def jmI_L_draw : jm_Ins := [[some (.aload_n 0, 1), some (.iconst 0, 1), some (.aload_n 0, 1), some (.iconst 0, 1), some (.iaload, 1), some (.ldc 40, 2), none, some (.imul, 1), some (.ldc 41, 2), none, some (.iadd, 1), some (.iastore, 1), some (.aload_n 0, 1), some (.iconst 0, 1), some (.iaload, 1), some (.bipush 8, 2), none, some (.iushr, 1), some (.iload_n 1, 1), some (.irem, 1), some (.ireturn, 1)]]
def jmM_L_draw : jm_Meth := (⟨"PaperLandLaw", "draw", "([II)I"⟩, method_3_code, 2, some .int, 13, true, jmI_L_draw, [], [])
def jmI_L_paper : jm_Ins := [[some (.lconst 0, 1), some (.lstore_n 1, 1), some (.iconst 0, 1), some (.istore_n 3, 1), some (.iload_n 3, 1), some (.aload_n 0, 1), some (.getfield 10, 3), none, none, some (.invokeinterface 42 1, 5), none, none, none, none, some (.if_icmp .ge 67, 3), none, none, some (.iconst 0, 1), some (.istore 4, 2), none, some (.iload 4, 2), none, some (.bipush 10, 2), none, some (.if_icmp .ge 51, 3), none, none, some (.lload_n 1, 1), some (.aload_n 0, 1), some (.getfield 10, 3), none, none],
  [some (.iload_n 3, 1), some (.invokeinterface 47 2, 5), none, none, none, none, some (.checkcast 51, 3), none, none, some (.getfield 53, 3), none, none, some (.iload 4, 2), none, some (.iaload, 1), some (.i2l, 1), some (.aload_n 0, 1), some (.getfield 10, 3), none, none, some (.iload_n 3, 1), some (.invokeinterface 47 2, 5), none, none, none, none, some (.checkcast 51, 3), none, none, some (.iload 4, 2), none, some (.invokevirtual 57, 3)],
  [none, none, some (.lmul, 1), some (.ladd, 1), some (.lstore_n 1, 1), some (.iinc 4 1, 3), none, none, some (.goto (-52), 3), none, none, some (.iinc 3 1, 3), none, none, some (.goto (-74), 3), none, none, some (.lload_n 1, 1), some (.lreturn, 1)]]
def jmM_L_paper : jm_Meth := (⟨"PaperLandLaw", "paper", "()J"⟩, method_4_code, 5, some .long, 13, false, jmI_L_paper, [], [])
def jmI_L_nearest : jm_Ins := [[some (.iconst (-1), 1), some (.istore 4, 2), none, some (.ldc2_w 63, 3), none, none, some (.lstore 5, 2), none, some (.iconst 0, 1), some (.istore 7, 2), none, some (.iload 7, 2), none, some (.aload_n 0, 1), some (.getfield 10, 3), none, none, some (.invokeinterface 42 1, 5), none, none, none, none, some (.if_icmp .ge 102, 3), none, none, some (.bipush 9, 2), none, some (.istore 8, 2), none, some (.iload 8, 2), none, some (.ifCond .lt 87, 3)],
  [none, none, some (.aload_n 0, 1), some (.getfield 10, 3), none, none, some (.iload 7, 2), none, some (.invokeinterface 47 2, 5), none, none, none, none, some (.checkcast 51, 3), none, none, some (.astore 9, 2), none, some (.aload 9, 2), none, some (.iload 8, 2), none, some (.aload_n 0, 1), some (.getfield 65, 3), none, none, some (.iload_n 1, 1), some (.iload_n 2, 1), some (.invokevirtual 69, 3), none, none, some (.ifCond .eq 49, 3)],
  [none, none, some (.aload 9, 2), none, some (.iload 8, 2), none, some (.invokevirtual 73, 3), none, none, some (.iload_n 3, 1), some (.if_icmp .lt 38, 3), none, none, some (.aload 9, 2), none, some (.iload 8, 2), none, some (.invokevirtual 57, 3), none, none, some (.lload 5, 2), none, some (.lcmp, 1), some (.ifCond .lt 6, 3), none, none, some (.goto 22, 3), none, none, some (.aload 9, 2), none, some (.iload 8, 2)],
  [none, some (.invokevirtual 57, 3), none, none, some (.lstore 5, 2), none, some (.bipush 100, 2), none, some (.iload 7, 2), none, some (.imul, 1), some (.iload 8, 2), none, some (.iadd, 1), some (.istore 4, 2), none, some (.iinc 8 (-1), 3), none, none, some (.goto (-86), 3), none, none, some (.iinc 7 1, 3), none, none, some (.goto (-110), 3), none, none, some (.iload 4, 2), none, some (.ireturn, 1)]]
def jmM_L_nearest : jm_Meth := (⟨"PaperLandLaw", "nearest", "(III)I"⟩, method_5_code, 10, some .int, 13, false, jmI_L_nearest, [], [])
def jmI_L_fitting : jm_Ins := [[some (.iconst 0, 1), some (.istore_n 3, 1), some (.iconst 0, 1), some (.istore 4, 2), none, some (.iload 4, 2), none, some (.aload_n 0, 1), some (.getfield 10, 3), none, none, some (.invokeinterface 42 1, 5), none, none, none, none, some (.if_icmp .ge 61, 3), none, none, some (.iconst 0, 1), some (.istore 5, 2), none, some (.iload 5, 2), none, some (.bipush 10, 2), none, some (.if_icmp .ge 45, 3), none, none, some (.iload_n 3, 1), some (.aload_n 0, 1), some (.getfield 10, 3)],
  [none, none, some (.iload 4, 2), none, some (.invokeinterface 47 2, 5), none, none, none, none, some (.checkcast 51, 3), none, none, some (.iload 5, 2), none, some (.aload_n 0, 1), some (.getfield 65, 3), none, none, some (.iload_n 1, 1), some (.iload_n 2, 1), some (.invokevirtual 69, 3), none, none, some (.ifCond .eq 7, 3), none, none, some (.iconst 1, 1), some (.goto 4, 3), none, none, some (.iconst 0, 1), some (.iadd, 1)],
  [some (.istore_n 3, 1), some (.iinc 5 1, 3), none, none, some (.goto (-46), 3), none, none, some (.iinc 4 1, 3), none, none, some (.goto (-69), 3), none, none, some (.iload_n 3, 1), some (.ireturn, 1)]]
def jmM_L_fitting : jm_Meth := (⟨"PaperLandLaw", "fitting", "(II)I"⟩, method_6_code, 6, some .int, 13, false, jmI_L_fitting, [], [])
def jmI_L_cutsOne : jm_Ins := [[some (.aload_n 1, 1), some (.getfield 53, 3), none, none, some (.iload_n 2, 1), some (.iaload, 1), some (.ifCond .ne 11, 3), none, none, some (.aload_n 0, 1), some (.aload_n 1, 1), some (.iload_n 2, 1), some (.iconst 1, 1), some (.isub, 1), some (.invokevirtual 76, 3), none, none, some (.aload_n 1, 1), some (.getfield 53, 3), none, none, some (.iload_n 2, 1), some (.dup2, 1), some (.iaload, 1), some (.iconst 1, 1), some (.isub, 1), some (.iastore, 1), some (.aload_n 1, 1), some (.getfield 53, 3), none, none, some (.iload_n 2, 1)],
  [some (.iconst 1, 1), some (.iadd, 1), some (.dup2, 1), some (.iaload, 1), some (.iconst 2, 1), some (.iadd, 1), some (.iastore, 1), some (.aload_n 0, 1), some (.getfield 16, 3), none, none, some (.iconst 3, 1), some (.dup2, 1), some (.laload, 1), some (.aload_n 1, 1), some (.iload_n 2, 1), some (.invokevirtual 57, 3), none, none, some (.ldc2_w 80, 3), none, none, some (.aload_n 1, 1), some (.iload_n 2, 1), some (.iconst 1, 1), some (.iadd, 1), some (.invokevirtual 57, 3), none, none, some (.lmul, 1), some (.lsub, 1), some (.ladd, 1)],
  [some (.lastore, 1), some (.aload_n 0, 1), some (.getfield 16, 3), none, none, some (.iconst 4, 1), some (.dup2, 1), some (.laload, 1), some (.lconst 1, 1), some (.ladd, 1), some (.lastore, 1), some (.return_, 1)]]
def jmM_L_cutsOne : jm_Meth := (⟨"PaperLandLaw", "cutsOne", "(LPaperLandLaw$Series;I)V"⟩, method_7_code, 3, none, 13, false, jmI_L_cutsOne, [], [])
def jmI_L_orders : jm_Ins := [[some (.aload_n 0, 1), some (.iload_n 1, 1), some (.iload_n 2, 1), some (.iload_n 3, 1), some (.invokevirtual 82, 3), none, none, some (.istore 4, 2), none, some (.iload 4, 2), none, some (.ifCond .ge 20, 3), none, none, some (.aload_n 0, 1), some (.iload_n 1, 1), some (.iload_n 2, 1), some (.invokevirtual 86, 3), none, none, some (.ifCond .ne 8, 3), none, none, some (.bipush (-6), 2), none, some (.goto 5, 3), none, none, some (.bipush (-7), 2), none, some (.ireturn, 1), some (.aload_n 0, 1)],
  [some (.getfield 10, 3), none, none, some (.iload 4, 2), none, some (.bipush 100, 2), none, some (.idiv, 1), some (.invokeinterface 47 2, 5), none, none, none, none, some (.checkcast 51, 3), none, none, some (.astore 5, 2), none, some (.iload 4, 2), none, some (.bipush 100, 2), none, some (.irem, 1), some (.istore 6, 2), none, some (.aload 5, 2), none, some (.getfield 53, 3), none, none, some (.iload 6, 2), none],
  [some (.iaload, 1), some (.iload_n 3, 1), some (.if_icmp .ge 16, 3), none, none, some (.aload_n 0, 1), some (.aload 5, 2), none, some (.iload 6, 2), none, some (.iconst 1, 1), some (.isub, 1), some (.invokevirtual 76, 3), none, none, some (.goto (-22), 3), none, none, some (.aload 5, 2), none, some (.getfield 53, 3), none, none, some (.iload 6, 2), none, some (.dup2, 1), some (.iaload, 1), some (.iload_n 3, 1), some (.isub, 1), some (.iastore, 1), some (.aload_n 0, 1), some (.getfield 16, 3)],
  [none, none, some (.iconst 1, 1), some (.dup2, 1), some (.laload, 1), some (.iload_n 1, 1), some (.i2l, 1), some (.iload_n 2, 1), some (.i2l, 1), some (.lmul, 1), some (.iload_n 3, 1), some (.i2l, 1), some (.lmul, 1), some (.ladd, 1), some (.lastore, 1), some (.aload_n 0, 1), some (.getfield 16, 3), none, none, some (.iconst 2, 1), some (.dup2, 1), some (.laload, 1), some (.aload 5, 2), none, some (.iload 6, 2), none, some (.invokevirtual 57, 3), none, none, some (.iload_n 1, 1), some (.i2l, 1), some (.iload_n 2, 1)],
  [some (.i2l, 1), some (.lmul, 1), some (.lsub, 1), some (.iload_n 3, 1), some (.i2l, 1), some (.lmul, 1), some (.ladd, 1), some (.lastore, 1), some (.aload_n 0, 1), some (.getfield 16, 3), none, none, some (.iconst 5, 1), some (.dup2, 1), some (.laload, 1), some (.lconst 1, 1), some (.ladd, 1), some (.lastore, 1), some (.aload_n 0, 1), some (.getfield 16, 3), none, none, some (.bipush 6, 2), none, some (.dup2, 1), some (.laload, 1), some (.iload_n 3, 1), some (.i2l, 1), some (.ladd, 1), some (.lastore, 1), some (.iload 4, 2), none],
  [some (.ireturn, 1)]]
def jmM_L_orders : jm_Meth := (⟨"PaperLandLaw", "orders", "(III)I"⟩, method_8_code, 7, some .int, 13, false, jmI_L_orders, [], [])
def jmI_L_buys : jm_Ins := [[some (.aload_n 1, 1), some (.iload_n 2, 1), some (.invokevirtual 57, 3), none, none, some (.lconst 0, 1), some (.lcmp, 1), some (.ifCond .ne 6, 3), none, none, some (.bipush (-3), 2), none, some (.ireturn, 1), some (.aload_n 1, 1), some (.getfield 53, 3), none, none, some (.iload_n 2, 1), some (.iaload, 1), some (.iload_n 3, 1), some (.aload_n 0, 1), some (.getfield 90, 3), none, none, some (.imul, 1), some (.iadd, 1), some (.sipush 9999, 3), none, none, some (.if_icmp .le 6, 3), none, none],
  [some (.bipush (-5), 2), none, some (.ireturn, 1), some (.aload_n 1, 1), some (.getfield 53, 3), none, none, some (.iload_n 2, 1), some (.dup2, 1), some (.iaload, 1), some (.iload_n 3, 1), some (.aload_n 0, 1), some (.getfield 90, 3), none, none, some (.imul, 1), some (.iadd, 1), some (.iastore, 1), some (.aload_n 0, 1), some (.getfield 16, 3), none, none, some (.iconst 0, 1), some (.dup2, 1), some (.laload, 1), some (.aload_n 1, 1), some (.iload_n 2, 1), some (.invokevirtual 57, 3), none, none, some (.iload_n 3, 1), some (.i2l, 1)],
  [some (.lmul, 1), some (.aload_n 0, 1), some (.getfield 90, 3), none, none, some (.i2l, 1), some (.lmul, 1), some (.ladd, 1), some (.lastore, 1), some (.aload_n 0, 1), some (.getfield 16, 3), none, none, some (.bipush 7, 2), none, some (.dup2, 1), some (.laload, 1), some (.iload_n 3, 1), some (.i2l, 1), some (.ladd, 1), some (.lastore, 1), some (.aload_n 1, 1), some (.getfield 53, 3), none, none, some (.iload_n 2, 1), some (.iaload, 1), some (.ireturn, 1)]]
def jmM_L_buys : jm_Meth := (⟨"PaperLandLaw", "buys", "(LPaperLandLaw$Series;II)I"⟩, method_9_code, 4, some .int, 13, false, jmI_L_buys, [], [])
def jmI_L_cuts : jm_Ins := [[some (.aload_n 1, 1), some (.iload_n 2, 1), some (.invokevirtual 57, 3), none, none, some (.lconst 0, 1), some (.lcmp, 1), some (.ifCond .eq 11, 3), none, none, some (.aload_n 1, 1), some (.iload_n 2, 1), some (.invokevirtual 93, 3), none, none, some (.ifCond .ne 6, 3), none, none, some (.bipush (-3), 2), none, some (.ireturn, 1), some (.aload_n 1, 1), some (.getfield 53, 3), none, none, some (.iload_n 2, 1), some (.iaload, 1), some (.iload_n 3, 1), some (.if_icmp .ge 6, 3), none, none, some (.bipush (-4), 2)],
  [none, some (.ireturn, 1), some (.aload_n 1, 1), some (.getfield 53, 3), none, none, some (.iload_n 2, 1), some (.iconst 1, 1), some (.iadd, 1), some (.iaload, 1), some (.iconst 2, 1), some (.iload_n 3, 1), some (.imul, 1), some (.iadd, 1), some (.sipush 9999, 3), none, none, some (.if_icmp .le 6, 3), none, none, some (.bipush (-5), 2), none, some (.ireturn, 1), some (.iconst 0, 1), some (.istore 4, 2), none, some (.iload 4, 2), none, some (.iload_n 3, 1), some (.if_icmp .ge 15, 3), none, none],
  [some (.aload_n 0, 1), some (.aload_n 1, 1), some (.iload_n 2, 1), some (.invokevirtual 76, 3), none, none, some (.iinc 4 1, 3), none, none, some (.goto (-15), 3), none, none, some (.aload_n 1, 1), some (.getfield 53, 3), none, none, some (.iload_n 2, 1), some (.iconst 1, 1), some (.iadd, 1), some (.iaload, 1), some (.ireturn, 1)]]
def jmM_L_cuts : jm_Meth := (⟨"PaperLandLaw", "cuts", "(LPaperLandLaw$Series;II)I"⟩, method_10_code, 5, some .int, 13, false, jmI_L_cuts, [], [])
def jmI_L_side : jm_Ins := [[some (.aload_n 0, 1), some (.iconst 4, 1), some (.invokestatic 109, 3), none, none, some (.ifCond .ne 14, 3), none, none, some (.iconst 1, 1), some (.aload_n 0, 1), some (.bipush 9, 2), none, some (.invokestatic 109, 3), none, none, some (.iadd, 1), some (.goto 12, 3), none, none, some (.iconst 1, 1), some (.aload_n 0, 1), some (.sipush 240, 3), none, none, some (.invokestatic 109, 3), none, none, some (.iadd, 1), some (.ireturn, 1)]]
def jmM_L_side : jm_Meth := (⟨"PaperLandLaw", "side", "([I)I"⟩, method_12_code, 1, some .int, 13, true, jmI_L_side, [], [])
def jmI_L_begins : jm_Ins := [[some (.new 11, 3), none, none, some (.dup, 1), some (.invokespecial 113, 3), none, none, some (.astore_n 2, 1), some (.aload_n 2, 1), some (.aload_n 1, 1), some (.bipush 6, 2), none, some (.invokestatic 109, 3), none, none, some (.putfield 65, 3), none, none, some (.aload_n 2, 1), some (.iconst 1, 1), some (.aload_n 1, 1), some (.bipush 40, 2), none, some (.invokestatic 109, 3), none, none, some (.iadd, 1), some (.putfield 90, 3), none, none, some (.new 114, 3), none],
  [none, some (.dup, 1), some (.ldc 116, 2), none, some (.invokespecial 118, 3), none, none, some (.aload_n 2, 1), some (.getfield 65, 3), none, none, some (.invokevirtual 121, 3), none, none, some (.bipush 32, 2), none, some (.invokevirtual 124, 3), none, none, some (.aload_n 2, 1), some (.getfield 90, 3), none, none, some (.invokevirtual 121, 3), none, none, some (.astore_n 3, 1), some (.iconst 1, 1), some (.aload_n 1, 1), some (.iconst 3, 1), some (.invokestatic 109, 3), none],
  [none, some (.iadd, 1), some (.istore 4, 2), none, some (.iload 4, 2), none, some (.ifCond .le 173, 3), none, none, some (.new 51, 3), none, none, some (.dup, 1), some (.aload_n 1, 1), some (.invokestatic 127, 3), none, none, some (.aload_n 1, 1), some (.invokestatic 127, 3), none, none, some (.invokespecial 131, 3), none, none, some (.astore 5, 2), none, some (.aload_n 3, 1), some (.ldc 134, 2), none, some (.invokevirtual 136, 3), none, none],
  [some (.bipush 97, 2), none, some (.aload_n 2, 1), some (.getfield 10, 3), none, none, some (.invokeinterface 42 1, 5), none, none, none, none, some (.iadd, 1), some (.i2c, 1), some (.invokevirtual 124, 3), none, none, some (.bipush 32, 2), none, some (.invokevirtual 124, 3), none, none, some (.aload 5, 2), none, some (.getfield 139, 3), none, none, some (.iconst 0, 1), some (.iaload, 1), some (.invokevirtual 121, 3), none, none, some (.bipush 32, 2)],
  [none, some (.invokevirtual 124, 3), none, none, some (.aload 5, 2), none, some (.getfield 142, 3), none, none, some (.iconst 0, 1), some (.iaload, 1), some (.invokevirtual 121, 3), none, none, some (.pop, 1), some (.iconst 0, 1), some (.istore 6, 2), none, some (.iload 6, 2), none, some (.bipush 10, 2), none, some (.if_icmp .ge 74, 3), none, none, some (.aload 5, 2), none, some (.iload 6, 2), none, some (.invokevirtual 57, 3), none, none],
  [some (.lconst 0, 1), some (.lcmp, 1), some (.ifCond .eq 56, 3), none, none, some (.aload_n 1, 1), some (.iconst 3, 1), some (.invokestatic 109, 3), none, none, some (.ifCond .le 6, 3), none, none, some (.goto 45, 3), none, none, some (.aload 5, 2), none, some (.getfield 53, 3), none, none, some (.iload 6, 2), none, some (.aload_n 1, 1), some (.bipush 30, 2), none, some (.invokestatic 109, 3), none, none, some (.iastore, 1), some (.aload_n 3, 1), some (.ldc 145, 2)],
  [none, some (.invokevirtual 136, 3), none, none, some (.iload 6, 2), none, some (.invokevirtual 121, 3), none, none, some (.bipush 32, 2), none, some (.invokevirtual 124, 3), none, none, some (.aload 5, 2), none, some (.getfield 53, 3), none, none, some (.iload 6, 2), none, some (.iaload, 1), some (.invokevirtual 121, 3), none, none, some (.pop, 1), some (.iinc 6 1, 3), none, none, some (.goto (-75), 3), none, none],
  [some (.aload_n 2, 1), some (.getfield 10, 3), none, none, some (.aload 5, 2), none, some (.invokeinterface 147 2, 5), none, none, none, none, some (.istore 6, 2), none, some (.iinc 4 (-1), 3), none, none, some (.goto (-172), 3), none, none, some (.aload_n 2, 1), some (.getfield 16, 3), none, none, some (.iconst 0, 1), some (.aload_n 2, 1), some (.invokevirtual 151, 3), none, none, some (.lastore, 1), some (.aload_n 0, 1), some (.aload_n 3, 1), some (.invokevirtual 155, 3)],
  [none, none, some (.invokestatic 159, 3), none, none, some (.ifCond .eq 30, 3), none, none, some (.aload_n 0, 1), some (.invokevirtual 163, 3), none, none, some (.aload_n 2, 1), some (.getfield 10, 3), none, none, some (.invokeinterface 42 1, 5), none, none, none, none, some (.if_icmp .ne 14, 3), none, none, some (.aload_n 0, 1), some (.invokevirtual 166, 3), none, none, some (.ifCond .ne 7, 3), none, none, some (.aload_n 2, 1)],
  [some (.goto 4, 3), none, none, some (.aconst_null, 1), some (.areturn, 1)]]
def jmM_L_begins : jm_Meth := (⟨"PaperLandLaw", "begins", "(LPaperLand;[I)LPaperLandLaw;"⟩, method_13_code, 7, some (.object "PaperLandLaw"), 13, true, jmI_L_begins, [], [])
def jmI_L_leaves : jm_Ins := [[some (.new 7, 3), none, none, some (.dup, 1), some (.invokespecial 9, 3), none, none, some (.astore 5, 2), none, some (.iconst 0, 1), some (.istore 6, 2), none, some (.iload 6, 2), none, some (.iload_n 3, 1), some (.iload 4, 2), none, some (.imul, 1), some (.if_icmp .ge 54, 3), none, none, some (.new 7, 3), none, none, some (.dup, 1), some (.invokespecial 9, 3), none, none, some (.astore 7, 2), none, some (.aload 7, 2), none],
  [some (.iconst 2, 1), some (.iload 6, 2), none, some (.imul, 1), some (.invokestatic 169, 3), none, none, some (.invokeinterface 147 2, 5), none, none, none, none, some (.ifCond .eq 19, 3), none, none, some (.aload 5, 2), none, some (.aload 7, 2), none, some (.invokeinterface 147 2, 5), none, none, none, none, some (.ifCond .eq 7, 3), none, none, some (.iconst 1, 1), some (.goto 4, 3), none, none, some (.iconst 0, 1)],
  [some (.istore 8, 2), none, some (.iinc 6 1, 3), none, none, some (.goto (-57), 3), none, none, some (.iload_n 3, 1), some (.istore 6, 2), none, some (.iload 4, 2), none, some (.istore 7, 2), none, some (.iconst 0, 1), some (.istore 8, 2), none, some (.iload 8, 2), none, some (.iload_n 2, 1), some (.if_icmp .ge 304, 3), none, none, some (.aload_n 0, 1), some (.getfield 139, 3), none, none, some (.iload_n 1, 1), some (.iload 8, 2), none, some (.iadd, 1)],
  [some (.iaload, 1), some (.aload_n 0, 1), some (.getfield 142, 3), none, none, some (.iload_n 1, 1), some (.iload 8, 2), none, some (.iadd, 1), some (.iaload, 1), some (.if_icmp .gt 7, 3), none, none, some (.iconst 1, 1), some (.goto 4, 3), none, none, some (.iconst 0, 1), some (.istore 9, 2), none, some (.new 7, 3), none, none, some (.dup, 1), some (.invokespecial 9, 3), none, none, some (.astore 10, 2), none, some (.iload 9, 2), none, some (.ifCond .eq 10, 3)],
  [none, none, some (.iload 6, 2), none, some (.iconst 2, 1), some (.idiv, 1), some (.goto 5, 3), none, none, some (.iload 6, 2), none, some (.istore 11, 2), none, some (.iload 9, 2), none, some (.ifCond .eq 8, 3), none, none, some (.iload 7, 2), none, some (.goto 7, 3), none, none, some (.iload 7, 2), none, some (.iconst 2, 1), some (.idiv, 1), some (.istore 12, 2), none, some (.iconst 0, 1), some (.istore 13, 2), none],
  [some (.iload 13, 2), none, some (.iload 11, 2), none, some (.if_icmp .ge 207, 3), none, none, some (.iconst 0, 1), some (.istore 14, 2), none, some (.iload 14, 2), none, some (.iload 12, 2), none, some (.if_icmp .ge 191, 3), none, none, some (.aload 5, 2), none, some (.iload 9, 2), none, some (.ifCond .eq 19, 3), none, none, some (.iload 6, 2), none, some (.iconst 1, 1), some (.isub, 1), some (.iload 13, 2), none, some (.isub, 1), some (.iload 7, 2)],
  [none, some (.imul, 1), some (.iload 14, 2), none, some (.iadd, 1), some (.goto 16, 3), none, none, some (.iload 13, 2), none, some (.iload 7, 2), none, some (.imul, 1), some (.iload 7, 2), none, some (.iadd, 1), some (.iconst 1, 1), some (.isub, 1), some (.iload 14, 2), none, some (.isub, 1), some (.invokeinterface 47 2, 5), none, none, none, none, some (.checkcast 43, 3), none, none, some (.astore 15, 2), none, some (.new 7, 3)],
  [none, none, some (.dup, 1), some (.invokespecial 9, 3), none, none, some (.astore 16, 2), none, some (.iconst 1, 1), some (.istore 17, 2), none, some (.aload 15, 2), none, some (.invokeinterface 42 1, 5), none, none, none, none, some (.iconst 1, 1), some (.isub, 1), some (.istore 18, 2), none, some (.iload 18, 2), none, some (.ifCond .lt 38, 3), none, none, some (.aload 16, 2), none, some (.aload 15, 2), none, some (.iload 18, 2)],
  [none, some (.invokeinterface 47 2, 5), none, none, none, none, some (.checkcast 170, 3), none, none, some (.invokevirtual 175, 3), none, none, some (.iconst 1, 1), some (.ixor, 1), some (.invokestatic 169, 3), none, none, some (.invokeinterface 147 2, 5), none, none, none, none, some (.istore 17, 2), none, some (.iinc 18 (-1), 3), none, none, some (.goto (-37), 3), none, none, some (.aload 5, 2), none],
  [some (.iload 13, 2), none, some (.iload 7, 2), none, some (.imul, 1), some (.iload 14, 2), none, some (.iadd, 1), some (.invokeinterface 47 2, 5), none, none, none, none, some (.checkcast 43, 3), none, none, some (.astore 18, 2), none, some (.iconst 0, 1), some (.istore 19, 2), none, some (.iload 19, 2), none, some (.aload 18, 2), none, some (.invokeinterface 42 1, 5), none, none, none, none, some (.if_icmp .ge 30, 3), none],
  [none, some (.aload 16, 2), none, some (.aload 18, 2), none, some (.iload 19, 2), none, some (.invokeinterface 47 2, 5), none, none, none, none, some (.checkcast 170, 3), none, none, some (.invokeinterface 147 2, 5), none, none, none, none, some (.istore 17, 2), none, some (.iinc 19 1, 3), none, none, some (.goto (-36), 3), none, none, some (.aload 10, 2), none, some (.aload 16, 2), none],
  [some (.invokeinterface 147 2, 5), none, none, none, none, some (.istore 17, 2), none, some (.iinc 14 1, 3), none, none, some (.goto (-192), 3), none, none, some (.iinc 13 1, 3), none, none, some (.goto (-208), 3), none, none, some (.aload 10, 2), none, some (.astore 5, 2), none, some (.iload 11, 2), none, some (.istore 6, 2), none, some (.iload 12, 2), none, some (.istore 7, 2), none, some (.iinc 8 1, 3)],
  [none, none, some (.goto (-304), 3), none, none, some (.aload 5, 2), none, some (.iconst 0, 1), some (.invokeinterface 47 2, 5), none, none, none, none, some (.checkcast 43, 3), none, none, some (.areturn, 1)]]
def jmM_L_leaves : jm_Meth := (⟨"PaperLandLaw", "leaves", "(LPaperLandLaw$Series;IIII)Ljava/util/List;"⟩, method_14_code, 20, some (.object "java/util/List"), 13, true, jmI_L_leaves, [], [])
def jmI_L_isFolded : jm_Ins := [[some (.aload_n 0, 1), some (.iload_n 2, 1), some (.iload_n 3, 1), some (.iload 4, 2), none, some (.iconst 0, 1), some (.invokevirtual 178, 3), none, none, some (.istore 5, 2), none, some (.aload_n 0, 1), some (.iload_n 2, 1), some (.iload_n 3, 1), some (.iload 4, 2), none, some (.iconst 1, 1), some (.invokevirtual 178, 3), none, none, some (.istore 6, 2), none, some (.aload_n 1, 1), some (.iload_n 3, 1), some (.iload 4, 2), none, some (.iload 5, 2), none, some (.iload 6, 2), none, some (.invokestatic 182, 3), none],
  [none, some (.astore 7, 2), none, some (.iconst 0, 1), some (.istore 8, 2), none, some (.iload 8, 2), none, some (.aload 7, 2), none, some (.invokeinterface 42 1, 5), none, none, none, none, some (.if_icmp .ge 124, 3), none, none, some (.aload 7, 2), none, some (.iload 8, 2), none, some (.invokeinterface 47 2, 5), none, none, none, none, some (.checkcast 170, 3), none, none, some (.invokevirtual 175, 3), none],
  [none, some (.iconst 2, 1), some (.idiv, 1), some (.istore 9, 2), none, some (.aload 7, 2), none, some (.iload 8, 2), none, some (.invokeinterface 47 2, 5), none, none, none, none, some (.checkcast 170, 3), none, none, some (.invokevirtual 175, 3), none, none, some (.iconst 2, 1), some (.irem, 1), some (.iconst 1, 1), some (.if_icmp .ne 7, 3), none, none, some (.iconst 1, 1), some (.goto 4, 3), none, none, some (.iconst 0, 1), some (.istore 10, 2)],
  [none, some (.aload_n 0, 1), some (.iload_n 2, 1), some (.iload_n 3, 1), some (.iload 4, 2), none, some (.iload 9, 2), none, some (.iload 6, 2), none, some (.idiv, 1), some (.iload 9, 2), none, some (.iload 6, 2), none, some (.irem, 1), some (.iload 10, 2), none, some (.invokevirtual 186, 3), none, none, some (.iconst 2, 1), some (.iload 8, 2), none, some (.imul, 1), some (.iconst 1, 1), some (.iadd, 1), some (.if_icmp .ne 40, 3), none, none, some (.aload_n 0, 1), some (.iload_n 2, 1)],
  [some (.iload_n 3, 1), some (.iload 4, 2), none, some (.iload 9, 2), none, some (.iload 6, 2), none, some (.idiv, 1), some (.iload 9, 2), none, some (.iload 6, 2), none, some (.irem, 1), some (.iload 10, 2), none, some (.ifCond .ne 7, 3), none, none, some (.iconst 1, 1), some (.goto 4, 3), none, none, some (.iconst 0, 1), some (.invokevirtual 186, 3), none, none, some (.iconst 2, 1), some (.iload 8, 2), none, some (.imul, 1), some (.iconst 2, 1), some (.iadd, 1)],
  [some (.if_icmp .eq 5, 3), none, none, some (.iconst 0, 1), some (.ireturn, 1), some (.iinc 8 1, 3), none, none, some (.goto (-130), 3), none, none, some (.aload_n 0, 1), some (.iload_n 2, 1), some (.iload_n 3, 1), some (.iload 4, 2), none, some (.invokevirtual 190, 3), none, none, some (.ifCond .ne 7, 3), none, none, some (.iconst 1, 1), some (.goto 4, 3), none, none, some (.iconst 0, 1), some (.ireturn, 1)]]
def jmM_L_isFolded : jm_Meth := (⟨"PaperLandLaw", "isFolded", "(LPaperLand;LPaperLandLaw$Series;III)Z"⟩, method_15_code, 11, some .boolean, 13, true, jmI_L_isFolded, [], [])
def jmI_L_isSeries : jm_Ins := [[some (.aload_n 1, 1), some (.getfield 10, 3), none, none, some (.iload_n 2, 1), some (.invokeinterface 47 2, 5), none, none, none, none, some (.checkcast 51, 3), none, none, some (.astore_n 3, 1), some (.iconst 0, 1), some (.istore 4, 2), none, some (.iload 4, 2), none, some (.bipush 10, 2), none, some (.if_icmp .ge 83, 3), none, none, some (.aload_n 0, 1), some (.iload_n 2, 1), some (.iload 4, 2), none, some (.iconst 0, 1), some (.invokevirtual 193, 3), none, none],
  [some (.aload_n 3, 1), some (.getfield 139, 3), none, none, some (.iload 4, 2), none, some (.iaload, 1), some (.if_icmp .ne 57, 3), none, none, some (.aload_n 0, 1), some (.iload_n 2, 1), some (.iload 4, 2), none, some (.iconst 1, 1), some (.invokevirtual 193, 3), none, none, some (.aload_n 3, 1), some (.getfield 142, 3), none, none, some (.iload 4, 2), none, some (.iaload, 1), some (.if_icmp .ne 39, 3), none, none, some (.aload_n 0, 1), some (.iload_n 2, 1), some (.iload 4, 2), none],
  [some (.iconst 3, 1), some (.invokevirtual 193, 3), none, none, some (.aload_n 3, 1), some (.getfield 53, 3), none, none, some (.iload 4, 2), none, some (.iaload, 1), some (.if_icmp .ne 21, 3), none, none, some (.aload_n 0, 1), some (.iload_n 2, 1), some (.iload 4, 2), none, some (.bipush 8, 2), none, some (.invokevirtual 193, 3), none, none, some (.aload_n 3, 1), some (.iload 4, 2), none, some (.invokevirtual 73, 3), none, none, some (.if_icmp .eq 5, 3), none, none],
  [some (.iconst 0, 1), some (.ireturn, 1), some (.iinc 4 1, 3), none, none, some (.goto (-84), 3), none, none, some (.iconst 1, 1), some (.ireturn, 1)]]
def jmM_L_isSeries : jm_Meth := (⟨"PaperLandLaw", "isSeries", "(LPaperLand;LPaperLandLaw;I)Z"⟩, method_16_code, 5, some .boolean, 13, true, jmI_L_isSeries, [], [])
def jmI_L_still : jm_Ins := [[some (.aload_n 0, 1), some (.invokevirtual 195, 3), none, none, some (.lconst 0, 1), some (.lcmp, 1), some (.ifCond .ne 20, 3), none, none, some (.aload_n 0, 1), some (.iconst 0, 1), some (.invokevirtual 198, 3), none, none, some (.aload_n 1, 1), some (.getfield 10, 3), none, none, some (.invokeinterface 42 1, 5), none, none, none, none, some (.if_icmp .eq 5, 3), none, none, some (.iconst 0, 1), some (.ireturn, 1), some (.iconst 0, 1), some (.istore_n 3, 1), some (.iload_n 3, 1), some (.aload_n 1, 1)],
  [some (.getfield 10, 3), none, none, some (.invokeinterface 42 1, 5), none, none, none, none, some (.if_icmp .ge 20, 3), none, none, some (.aload_n 0, 1), some (.aload_n 1, 1), some (.iload_n 3, 1), some (.invokestatic 201, 3), none, none, some (.ifCond .ne 5, 3), none, none, some (.iconst 0, 1), some (.ireturn, 1), some (.iinc 3 1, 3), none, none, some (.goto (-27), 3), none, none, some (.iconst 0, 1), some (.istore_n 3, 1), some (.iload_n 3, 1), some (.bipush 8, 2)],
  [none, some (.if_icmp .ge 32, 3), none, none, some (.aload_n 0, 1), some (.iload_n 3, 1), some (.invokevirtual 205, 3), none, none, some (.ldc2_w 208, 3), none, none, some (.aload_n 1, 1), some (.getfield 16, 3), none, none, some (.iload_n 3, 1), some (.laload, 1), some (.invokestatic 210, 3), none, none, some (.l2i, 1), some (.if_icmp .eq 5, 3), none, none, some (.iconst 0, 1), some (.ireturn, 1), some (.iinc 3 1, 3), none, none, some (.goto (-32), 3), none],
  [none, some (.aload_n 2, 1), some (.invokestatic 127, 3), none, none, some (.istore_n 3, 1), some (.aload_n 2, 1), some (.invokestatic 127, 3), none, none, some (.istore 4, 2), none, some (.iconst 1, 1), some (.aload_n 2, 1), some (.bipush 40, 2), none, some (.invokestatic 109, 3), none, none, some (.iadd, 1), some (.istore 5, 2), none, some (.aload_n 0, 1), some (.iload_n 3, 1), some (.iload 4, 2), none, some (.iload 5, 2), none, some (.invokevirtual 216, 3), none, none, some (.aload_n 1, 1)],
  [some (.iload_n 3, 1), some (.iload 4, 2), none, some (.iload 5, 2), none, some (.invokevirtual 82, 3), none, none, some (.if_icmp .ne 20, 3), none, none, some (.aload_n 0, 1), some (.iload_n 3, 1), some (.iload 4, 2), none, some (.invokevirtual 217, 3), none, none, some (.aload_n 1, 1), some (.iload_n 3, 1), some (.iload 4, 2), none, some (.invokevirtual 86, 3), none, none, some (.if_icmp .eq 5, 3), none, none, some (.iconst 0, 1), some (.ireturn, 1), some (.aload_n 2, 1), some (.aload_n 1, 1)],
  [some (.getfield 10, 3), none, none, some (.invokeinterface 42 1, 5), none, none, none, none, some (.invokestatic 109, 3), none, none, some (.istore 6, 2), none, some (.aload_n 2, 1), some (.bipush 10, 2), none, some (.invokestatic 109, 3), none, none, some (.istore 7, 2), none, some (.aload_n 0, 1), some (.iload 6, 2), none, some (.iload 7, 2), none, some (.invokevirtual 218, 3), none, none, some (.istore 8, 2), none, some (.iload 8, 2)],
  [none, some (.ifCond .lt 36, 3), none, none, some (.aload_n 0, 1), some (.aload_n 1, 1), some (.getfield 10, 3), none, none, some (.iload 6, 2), none, some (.invokeinterface 47 2, 5), none, none, none, none, some (.checkcast 51, 3), none, none, some (.iload 6, 2), none, some (.iload 7, 2), none, some (.aload_n 2, 1), some (.iload 8, 2), none, some (.iconst 1, 1), some (.iadd, 1), some (.invokestatic 109, 3), none, none, some (.invokestatic 221, 3)],
  [none, none, some (.ifCond .eq 7, 3), none, none, some (.iconst 1, 1), some (.goto 4, 3), none, none, some (.iconst 0, 1), some (.ireturn, 1)]]
def jmM_L_still : jm_Meth := (⟨"PaperLandLaw", "still", "(LPaperLand;LPaperLandLaw;[I)Z"⟩, method_17_code, 9, some .boolean, 13, true, jmI_L_still, [], [])
def jmI_L_act : jm_Ins := [[some (.aload_n 2, 1), some (.aload_n 1, 1), some (.getfield 10, 3), none, none, some (.invokeinterface 42 1, 5), none, none, none, none, some (.invokestatic 109, 3), none, none, some (.istore_n 3, 1), some (.aload_n 1, 1), some (.getfield 10, 3), none, none, some (.iload_n 3, 1), some (.invokeinterface 47 2, 5), none, none, none, none, some (.checkcast 51, 3), none, none, some (.astore 4, 2), none, some (.aload_n 2, 1), some (.bipush 10, 2), none],
  [some (.invokestatic 109, 3), none, none, some (.istore 5, 2), none, some (.aload_n 2, 1), some (.bipush 10, 2), none, some (.invokestatic 109, 3), none, none, some (.tableswitch 143 0 4 #[33, 33, 70, 70, 108], 33), none, none, none, none, none, none, none, none, none, none, none, none, none, none, none, none, none, none, none, none],
  [none, none, none, none, none, none, none, none, none, none, none, none, some (.iconst 1, 1), some (.aload_n 2, 1), some (.iconst 4, 1), some (.invokestatic 109, 3), none, none, some (.iadd, 1), some (.istore 6, 2), none, some (.aload_n 0, 1), some (.iload_n 3, 1), some (.iload 5, 2), none, some (.iload 6, 2), none, some (.invokevirtual 225, 3), none, none, some (.aload_n 1, 1), some (.aload 4, 2)],
  [none, some (.iload 5, 2), none, some (.iload 6, 2), none, some (.invokevirtual 228, 3), none, none, some (.if_icmp .ne 7, 3), none, none, some (.iconst 1, 1), some (.goto 4, 3), none, none, some (.iconst 0, 1), some (.ireturn, 1), some (.iconst 1, 1), some (.aload_n 2, 1), some (.bipush 12, 2), none, some (.invokestatic 109, 3), none, none, some (.iadd, 1), some (.istore 6, 2), none, some (.aload_n 0, 1), some (.iload_n 3, 1), some (.iload 5, 2), none, some (.iload 6, 2)],
  [none, some (.invokevirtual 232, 3), none, none, some (.aload_n 1, 1), some (.aload 4, 2), none, some (.iload 5, 2), none, some (.iload 6, 2), none, some (.invokevirtual 235, 3), none, none, some (.if_icmp .ne 7, 3), none, none, some (.iconst 1, 1), some (.goto 4, 3), none, none, some (.iconst 0, 1), some (.ireturn, 1), some (.aload_n 1, 1), some (.getfield 65, 3), none, none, some (.istore 6, 2), none, some (.aload_n 1, 1), some (.aload_n 2, 1), some (.bipush 8, 2)],
  [none, some (.invokestatic 109, 3), none, none, some (.putfield 65, 3), none, none, some (.aload_n 0, 1), some (.aload_n 1, 1), some (.getfield 65, 3), none, none, some (.invokevirtual 238, 3), none, none, some (.iload 6, 2), none, some (.if_icmp .ne 7, 3), none, none, some (.iconst 1, 1), some (.goto 4, 3), none, none, some (.iconst 0, 1), some (.ireturn, 1), some (.aload_n 2, 1), some (.invokestatic 127, 3), none, none, some (.istore 6, 2), none],
  [some (.aload_n 2, 1), some (.invokestatic 127, 3), none, none, some (.istore 7, 2), none, some (.iconst 1, 1), some (.aload_n 2, 1), some (.bipush 30, 2), none, some (.invokestatic 109, 3), none, none, some (.iadd, 1), some (.istore 8, 2), none, some (.aload_n 0, 1), some (.iload 6, 2), none, some (.iload 7, 2), none, some (.iload 8, 2), none, some (.invokevirtual 241, 3), none, none, some (.aload_n 1, 1), some (.iload 6, 2), none, some (.iload 7, 2), none, some (.iload 8, 2)],
  [none, some (.invokevirtual 244, 3), none, none, some (.if_icmp .ne 7, 3), none, none, some (.iconst 1, 1), some (.goto 4, 3), none, none, some (.iconst 0, 1), some (.ireturn, 1)]]
def jmM_L_act : jm_Meth := (⟨"PaperLandLaw", "act", "(LPaperLand;LPaperLandLaw;[I)Z"⟩, method_18_code, 9, some .boolean, 13, true, jmI_L_act, [], [])
def jmI_X0_init : jm_Ins := [[some (.aload_n 0, 1), some (.invokespecial 3, 3), none, none, some (.aload_n 0, 1), some (.iconst 0, 1), some (.iload_n 1, 1), some (.invokestatic 9, 3), none, none, some (.newarray .int, 2), none, some (.putfield 15, 3), none, none, some (.return_, 1)]]
def jmM_X0_init : jm_Meth := (⟨"PaperLand$Bytes", "<init>", "(I)V"⟩, prog_2_method_1_code, 2, none, 0, false, jmI_X0_init, [], [])
def jmI_X0_hasRoom : jm_Ins := [[some (.aload_n 0, 1), some (.getfield 21, 3), none, none, some (.iload_n 1, 1), some (.iadd, 1), some (.aload_n 0, 1), some (.getfield 15, 3), none, none, some (.arraylength, 1), some (.if_icmp .gt 7, 3), none, none, some (.iconst 1, 1), some (.goto 4, 3), none, none, some (.iconst 0, 1), some (.ireturn, 1)]]
def jmM_X0_hasRoom : jm_Meth := (⟨"PaperLand$Bytes", "hasRoom", "(I)Z"⟩, prog_2_method_2_code, 2, some .boolean, 0, false, jmI_X0_hasRoom, [], [])
def jmI_X0_put : jm_Ins := [[some (.aload_n 0, 1), some (.iconst 1, 1), some (.invokevirtual 25, 3), none, none, some (.ifCond .eq 25, 3), none, none, some (.aload_n 0, 1), some (.getfield 15, 3), none, none, some (.aload_n 0, 1), some (.getfield 21, 3), none, none, some (.iload_n 1, 1), some (.invokestatic 29, 3), none, none, some (.aload_n 0, 1), some (.dup, 1), some (.getfield 21, 3), none, none, some (.iconst 1, 1), some (.iadd, 1), some (.putfield 21, 3), none, none, some (.return_, 1)]]
def jmM_X0_put : jm_Meth := (⟨"PaperLand$Bytes", "put", "(I)V"⟩, prog_2_method_3_code, 2, none, 0, false, jmI_X0_put, [], [])
def jmI_X0_putFour : jm_Ins := [[some (.aload_n 0, 1), some (.iload_n 1, 1), some (.bipush 24, 2), none, some (.iushr, 1), some (.invokevirtual 33, 3), none, none, some (.aload_n 0, 1), some (.iload_n 1, 1), some (.bipush 16, 2), none, some (.iushr, 1), some (.sipush 255, 3), none, none, some (.iand, 1), some (.invokevirtual 33, 3), none, none, some (.aload_n 0, 1), some (.iload_n 1, 1), some (.bipush 8, 2), none, some (.iushr, 1), some (.sipush 255, 3), none, none, some (.iand, 1), some (.invokevirtual 33, 3), none, none],
  [some (.aload_n 0, 1), some (.iload_n 1, 1), some (.sipush 255, 3), none, none, some (.iand, 1), some (.invokevirtual 33, 3), none, none, some (.return_, 1)]]
def jmM_X0_putFour : jm_Meth := (⟨"PaperLand$Bytes", "putFour", "(I)V"⟩, prog_2_method_4_code, 2, none, 0, false, jmI_X0_putFour, [], [])
def jmI_X0_shorten : jm_Ins := [[some (.aload_n 0, 1), some (.iload_n 1, 1), some (.putfield 21, 3), none, none, some (.return_, 1)]]
def jmM_X0_shorten : jm_Meth := (⟨"PaperLand$Bytes", "shorten", "(I)V"⟩, prog_2_method_6_code, 2, none, 0, false, jmI_X0_shorten, [], [])
def jmI_X0_byteAt : jm_Ins := [[some (.iload_n 1, 1), some (.ifCond .lt 29, 3), none, none, some (.iload_n 1, 1), some (.aload_n 0, 1), some (.getfield 21, 3), none, none, some (.if_icmp .ge 21, 3), none, none, some (.iload_n 1, 1), some (.aload_n 0, 1), some (.getfield 15, 3), none, none, some (.arraylength, 1), some (.if_icmp .ge 12, 3), none, none, some (.aload_n 0, 1), some (.getfield 15, 3), none, none, some (.iload_n 1, 1), some (.iaload, 1), some (.goto 4, 3), none, none, some (.iconst (-1), 1), some (.ireturn, 1)]]
def jmM_X0_byteAt : jm_Meth := (⟨"PaperLand$Bytes", "byteAt", "(I)I"⟩, prog_2_method_7_code, 2, some .int, 0, false, jmI_X0_byteAt, [], [])
def jmI_X1_init : jm_Ins := [[some (.aload_n 0, 1), some (.invokespecial 3, 3), none, none, some (.aload_n 0, 1), some (.bipush 10, 2), none, some (.newarray .int, 2), none, some (.putfield 9, 3), none, none, some (.return_, 1)]]
def jmM_X1_init : jm_Meth := (⟨"PaperLand$Cuts", "<init>", "()V"⟩, prog_3_method_1_code, 1, none, 1, false, jmI_X1_init, [], [])
def jmI_X1_make : jm_Ins := [[some (.aload_n 0, 1), some (.iconst 0, 1), some (.putfield 15, 3), none, none, some (.aload_n 0, 1), some (.lconst 0, 1), some (.putfield 19, 3), none, none, some (.iconst 0, 1), some (.istore 4, 2), none, some (.iload 4, 2), none, some (.bipush 10, 2), none, some (.if_icmp .ge 17, 3), none, none, some (.aload_n 0, 1), some (.getfield 9, 3), none, none, some (.iload 4, 2), none, some (.iconst 0, 1), some (.iastore, 1), some (.iinc 4 1, 3), none, none, some (.goto (-18), 3)],
  [none, none, some (.iload_n 3, 1), some (.istore 4, 2), none, some (.iload_n 2, 1), some (.bipush 9, 2), none, some (.invokestatic 23, 3), none, none, some (.istore 5, 2), none, some (.iload 5, 2), none, some (.ifCond .le 72, 3), none, none, some (.iconst 0, 1), some (.iload 4, 2), none, some (.aload_n 1, 1), some (.iload 5, 2), none, some (.invokevirtual 29, 3), none, none, some (.isub, 1), some (.invokestatic 35, 3), none, none, some (.iconst 1, 1)],
  [some (.iadd, 1), some (.iconst 2, 1), some (.idiv, 1), some (.istore 4, 2), none, some (.aload_n 0, 1), some (.getfield 9, 3), none, none, some (.iload 5, 2), none, some (.iconst 1, 1), some (.isub, 1), some (.iload 4, 2), none, some (.iastore, 1), some (.aload_n 0, 1), some (.dup, 1), some (.getfield 15, 3), none, none, some (.iload 4, 2), none, some (.iadd, 1), some (.putfield 15, 3), none, none, some (.aload_n 0, 1), some (.dup, 1), some (.getfield 19, 3), none, none],
  [some (.aload_n 1, 1), some (.iload 5, 2), none, some (.iconst 1, 1), some (.isub, 1), some (.invokevirtual 38, 3), none, none, some (.i2l, 1), some (.iload 4, 2), none, some (.i2l, 1), some (.lmul, 1), some (.ladd, 1), some (.putfield 19, 3), none, none, some (.iinc 5 (-1), 3), none, none, some (.goto (-71), 3), none, none, some (.return_, 1)]]
def jmM_X1_make : jm_Meth := (⟨"PaperLand$Cuts", "make", "(LPaperLand$Series;II)V"⟩, prog_3_method_2_code, 6, none, 1, false, jmI_X1_make, [], [])
def jmI_X1_halvesOf : jm_Ins := [[some (.iload_n 1, 1), some (.ifCond .le 22, 3), none, none, some (.iload_n 1, 1), some (.bipush 10, 2), none, some (.if_icmp .gt 16, 3), none, none, some (.iconst 2, 1), some (.aload_n 0, 1), some (.getfield 9, 3), none, none, some (.iload_n 1, 1), some (.iconst 1, 1), some (.isub, 1), some (.iaload, 1), some (.imul, 1), some (.goto 4, 3), none, none, some (.iconst 0, 1), some (.ireturn, 1)]]
def jmM_X1_halvesOf : jm_Meth := (⟨"PaperLand$Cuts", "halvesOf", "(I)I"⟩, prog_3_method_3_code, 2, some .int, 1, false, jmI_X1_halvesOf, [], [])
def jmI_X1_doWith : jm_Ins := [[some (.iconst 0, 1), some (.istore_n 2, 1), some (.iload_n 2, 1), some (.bipush 10, 2), none, some (.if_icmp .ge 26, 3), none, none, some (.aload_n 1, 1), some (.iload_n 2, 1), some (.aload_n 0, 1), some (.iload_n 2, 1), some (.invokevirtual 41, 3), none, none, some (.aload_n 0, 1), some (.getfield 9, 3), none, none, some (.iload_n 2, 1), some (.iaload, 1), some (.isub, 1), some (.invokevirtual 44, 3), none, none, some (.iinc 2 1, 3), none, none, some (.goto (-26), 3), none, none, some (.return_, 1)]]
def jmM_X1_doWith : jm_Meth := (⟨"PaperLand$Cuts", "doWith", "(LPaperLand$Series;)V"⟩, prog_3_method_4_code, 3, none, 1, false, jmI_X1_doWith, [], [])
def jmI_X2_init : jm_Ins := [[some (.aload_n 0, 1), some (.invokespecial 3, 3), none, none, some (.aload_n 0, 1), some (.iconst 5, 1), some (.newarray .boolean, 2), none, some (.putfield 9, 3), none, none, some (.aload_n 0, 1), some (.bipush 32, 2), none, some (.newarray .int, 2), none, some (.putfield 15, 3), none, none, some (.aload_n 0, 1), some (.bipush 32, 2), none, some (.newarray .int, 2), none, some (.putfield 19, 3), none, none, some (.aload_n 0, 1), some (.bipush 64, 2), none, some (.newarray .int, 2), none],
  [some (.putfield 22, 3), none, none, some (.return_, 1)]]
def jmM_X2_init : jm_Meth := (⟨"PaperLand$Folding", "<init>", "()V"⟩, prog_4_method_1_code, 1, none, 2, false, jmI_X2_init, [], [])
def jmI_X2_foldUp : jm_Ins := [[some (.aload_n 0, 1), some (.iconst 0, 1), some (.iconst 5, 1), some (.iload_n 3, 1), some (.invokestatic 25, 3), none, none, some (.invokestatic 31, 3), none, none, some (.putfield 34, 3), none, none, some (.aload_n 0, 1), some (.iconst 1, 1), some (.putfield 38, 3), none, none, some (.aload_n 0, 1), some (.iconst 1, 1), some (.putfield 41, 3), none, none, some (.iconst 0, 1), some (.istore 4, 2), none, some (.iload 4, 2), none, some (.aload_n 0, 1), some (.getfield 34, 3), none, none],
  [some (.if_icmp .ge 73, 3), none, none, some (.aload_n 0, 1), some (.getfield 9, 3), none, none, some (.iload 4, 2), none, some (.aload_n 1, 1), some (.iload_n 2, 1), some (.iload 4, 2), none, some (.iadd, 1), some (.invokevirtual 44, 3), none, none, some (.aload_n 1, 1), some (.iload_n 2, 1), some (.iload 4, 2), none, some (.iadd, 1), some (.invokevirtual 50, 3), none, none, some (.if_icmp .lt 7, 3), none, none, some (.iconst 1, 1), some (.goto 4, 3), none, none],
  [some (.iconst 0, 1), some (.bastore, 1), some (.aload_n 0, 1), some (.getfield 9, 3), none, none, some (.iload 4, 2), none, some (.baload, 1), some (.ifCond .eq 16, 3), none, none, some (.aload_n 0, 1), some (.iconst 2, 1), some (.aload_n 0, 1), some (.getfield 38, 3), none, none, some (.imul, 1), some (.putfield 38, 3), none, none, some (.goto 13, 3), none, none, some (.aload_n 0, 1), some (.iconst 2, 1), some (.aload_n 0, 1), some (.getfield 41, 3), none, none, some (.imul, 1)],
  [some (.putfield 41, 3), none, none, some (.iinc 4 1, 3), none, none, some (.goto (-76), 3), none, none, some (.aload_n 0, 1), some (.invokevirtual 53, 3), none, none, some (.aload_n 0, 1), some (.invokevirtual 56, 3), none, none, some (.return_, 1)]]
def jmM_X2_foldUp : jm_Meth := (⟨"PaperLand$Folding", "foldUp", "(LPaperLand$Series;II)V"⟩, prog_4_method_2_code, 5, none, 2, false, jmI_X2_foldUp, [], [])
def jmI_X2_pileUp : jm_Ins := [[some (.iconst 0, 1), some (.istore_n 1, 1), some (.iload_n 1, 1), some (.aload_n 0, 1), some (.getfield 38, 3), none, none, some (.aload_n 0, 1), some (.getfield 41, 3), none, none, some (.imul, 1), some (.if_icmp .ge 20, 3), none, none, some (.aload_n 0, 1), some (.getfield 15, 3), none, none, some (.iload_n 1, 1), some (.iconst 2, 1), some (.iload_n 1, 1), some (.imul, 1), some (.invokestatic 59, 3), none, none, some (.iinc 1 1, 3), none, none, some (.goto (-27), 3), none, none],
  [some (.aload_n 0, 1), some (.getfield 38, 3), none, none, some (.istore_n 1, 1), some (.aload_n 0, 1), some (.getfield 41, 3), none, none, some (.istore_n 2, 1), some (.iconst 1, 1), some (.istore_n 3, 1), some (.iconst 0, 1), some (.istore 4, 2), none, some (.iload 4, 2), none, some (.iconst 5, 1), some (.if_icmp .ge 106, 3), none, none, some (.iload 4, 2), none, some (.aload_n 0, 1), some (.getfield 34, 3), none, none, some (.if_icmp .ge 97, 3), none, none, some (.aload_n 0, 1), some (.getfield 9, 3)],
  [none, none, some (.iload 4, 2), none, some (.baload, 1), some (.ifCond .eq 10, 3), none, none, some (.iload_n 1, 1), some (.iconst 2, 1), some (.idiv, 1), some (.istore_n 1, 1), some (.goto 7, 3), none, none, some (.iload_n 2, 1), some (.iconst 2, 1), some (.idiv, 1), some (.istore_n 2, 1), some (.iconst 0, 1), some (.istore 5, 2), none, some (.iload 5, 2), none, some (.iload_n 1, 1), some (.if_icmp .ge 42, 3), none, none, some (.iconst 0, 1), some (.istore 6, 2), none, some (.iload 6, 2)],
  [none, some (.iload_n 2, 1), some (.if_icmp .ge 27, 3), none, none, some (.aload_n 0, 1), some (.iload 5, 2), none, some (.iload 6, 2), none, some (.iload_n 1, 1), some (.iload_n 2, 1), some (.iload_n 3, 1), some (.aload_n 0, 1), some (.getfield 9, 3), none, none, some (.iload 4, 2), none, some (.baload, 1), some (.invokevirtual 63, 3), none, none, some (.iinc 6 1, 3), none, none, some (.goto (-27), 3), none, none, some (.iinc 5 1, 3), none, none],
  [some (.goto (-42), 3), none, none, some (.iconst 2, 1), some (.iload_n 3, 1), some (.imul, 1), some (.istore_n 3, 1), some (.aload_n 0, 1), some (.getfield 19, 3), none, none, some (.iconst 0, 1), some (.aload_n 0, 1), some (.getfield 15, 3), none, none, some (.iconst 0, 1), some (.bipush 32, 2), none, some (.invokestatic 67, 3), none, none, some (.iinc 4 1, 3), none, none, some (.goto (-106), 3), none, none, some (.return_, 1)]]
def jmM_X2_pileUp : jm_Meth := (⟨"PaperLand$Folding", "pileUp", "()V"⟩, prog_4_method_3_code, 7, none, 2, false, jmI_X2_pileUp, [], [])
def jmI_X2_layPlace : jm_Ins := [[some (.iload 6, 2), none, some (.ifCond .eq 8, 3), none, none, some (.iload 4, 2), none, some (.goto 7, 3), none, none, some (.iconst 2, 1), some (.iload 4, 2), none, some (.imul, 1), some (.istore 7, 2), none, some (.iload_n 1, 1), some (.iload 7, 2), none, some (.imul, 1), some (.iload_n 2, 1), some (.iadd, 1), some (.iload 5, 2), none, some (.imul, 1), some (.istore 8, 2), none, some (.iload 6, 2), none, some (.ifCond .eq 21, 3), none, none],
  [some (.iconst 2, 1), some (.iload_n 3, 1), some (.imul, 1), some (.iconst 1, 1), some (.isub, 1), some (.iload_n 1, 1), some (.isub, 1), some (.iload 7, 2), none, some (.imul, 1), some (.iload_n 2, 1), some (.iadd, 1), some (.iload 5, 2), none, some (.imul, 1), some (.goto 17, 3), none, none, some (.iload_n 1, 1), some (.iload 7, 2), none, some (.imul, 1), some (.iload 7, 2), none, some (.iadd, 1), some (.iconst 1, 1), some (.isub, 1), some (.iload_n 2, 1), some (.isub, 1), some (.iload 5, 2), none, some (.imul, 1)],
  [some (.istore 9, 2), none, some (.iload_n 1, 1), some (.iload 4, 2), none, some (.imul, 1), some (.iload_n 2, 1), some (.iadd, 1), some (.iconst 2, 1), some (.imul, 1), some (.iload 5, 2), none, some (.imul, 1), some (.istore 10, 2), none, some (.iconst 0, 1), some (.istore 11, 2), none, some (.iload 11, 2), none, some (.iload 5, 2), none, some (.if_icmp .ge 67, 3), none, none, some (.aload_n 0, 1), some (.getfield 19, 3), none, none, some (.iload 10, 2), none, some (.iload 11, 2)],
  [none, some (.iadd, 1), some (.aload_n 0, 1), some (.getfield 15, 3), none, none, some (.iload 9, 2), none, some (.iload 5, 2), none, some (.iadd, 1), some (.iconst 1, 1), some (.isub, 1), some (.iload 11, 2), none, some (.isub, 1), some (.invokestatic 73, 3), none, none, some (.iconst 1, 1), some (.ixor, 1), some (.invokestatic 59, 3), none, none, some (.aload_n 0, 1), some (.getfield 19, 3), none, none, some (.iload 10, 2), none, some (.iload 5, 2), none],
  [some (.iadd, 1), some (.iload 11, 2), none, some (.iadd, 1), some (.aload_n 0, 1), some (.getfield 15, 3), none, none, some (.iload 8, 2), none, some (.iload 11, 2), none, some (.iadd, 1), some (.invokestatic 73, 3), none, none, some (.invokestatic 59, 3), none, none, some (.iinc 11 1, 3), none, none, some (.goto (-68), 3), none, none, some (.return_, 1)]]
def jmM_X2_layPlace : jm_Meth := (⟨"PaperLand$Folding", "layPlace", "(IIIIIZ)V"⟩, prog_4_method_4_code, 12, none, 2, false, jmI_X2_layPlace, [], [])
def jmI_X2_numberPages : jm_Ins := [[some (.iconst 0, 1), some (.istore_n 1, 1), some (.iload_n 1, 1), some (.aload_n 0, 1), some (.getfield 38, 3), none, none, some (.aload_n 0, 1), some (.getfield 41, 3), none, none, some (.imul, 1), some (.if_icmp .ge 46, 3), none, none, some (.aload_n 0, 1), some (.getfield 15, 3), none, none, some (.iload_n 1, 1), some (.invokestatic 73, 3), none, none, some (.istore_n 2, 1), some (.aload_n 0, 1), some (.getfield 22, 3), none, none, some (.iload_n 2, 1), some (.iconst 2, 1), some (.iload_n 1, 1), some (.imul, 1)],
  [some (.iconst 1, 1), some (.iadd, 1), some (.invokestatic 59, 3), none, none, some (.aload_n 0, 1), some (.getfield 22, 3), none, none, some (.iload_n 2, 1), some (.iconst 1, 1), some (.ixor, 1), some (.iconst 2, 1), some (.iload_n 1, 1), some (.imul, 1), some (.iconst 2, 1), some (.iadd, 1), some (.invokestatic 59, 3), none, none, some (.iinc 1 1, 3), none, none, some (.goto (-53), 3), none, none, some (.return_, 1)]]
def jmM_X2_numberPages : jm_Meth := (⟨"PaperLand$Folding", "numberPages", "()V"⟩, prog_4_method_5_code, 3, none, 2, false, jmI_X2_numberPages, [], [])
def jmI_X2_hasCell : jm_Ins := [[some (.iload_n 1, 1), some (.ifCond .lt 27, 3), none, none, some (.iload_n 1, 1), some (.aload_n 0, 1), some (.getfield 38, 3), none, none, some (.if_icmp .ge 19, 3), none, none, some (.iload_n 2, 1), some (.ifCond .lt 15, 3), none, none, some (.iload_n 2, 1), some (.aload_n 0, 1), some (.getfield 41, 3), none, none, some (.if_icmp .ge 7, 3), none, none, some (.iconst 1, 1), some (.goto 4, 3), none, none, some (.iconst 0, 1), some (.ireturn, 1)]]
def jmM_X2_hasCell : jm_Meth := (⟨"PaperLand$Folding", "hasCell", "(II)Z"⟩, prog_4_method_6_code, 3, some .boolean, 2, false, jmI_X2_hasCell, [], [])
def jmI_X2_pageAt : jm_Ins := [[some (.aload_n 0, 1), some (.getfield 22, 3), none, none, some (.iconst 2, 1), some (.iload_n 1, 1), some (.aload_n 0, 1), some (.getfield 41, 3), none, none, some (.imul, 1), some (.iload_n 2, 1), some (.iadd, 1), some (.imul, 1), some (.iload_n 3, 1), some (.ifCond .eq 7, 3), none, none, some (.iconst 1, 1), some (.goto 4, 3), none, none, some (.iconst 0, 1), some (.iadd, 1), some (.invokestatic 73, 3), none, none, some (.ireturn, 1)]]
def jmM_X2_pageAt : jm_Meth := (⟨"PaperLand$Folding", "pageAt", "(IIZ)I"⟩, prog_4_method_7_code, 4, some .int, 2, false, jmI_X2_pageAt, [], [])
def jmI_X2_cellsWithOtherPages : jm_Ins := [[some (.iconst 0, 1), some (.istore_n 1, 1), some (.iconst 0, 1), some (.istore_n 2, 1), some (.iload_n 2, 1), some (.aload_n 0, 1), some (.getfield 38, 3), none, none, some (.if_icmp .ge 81, 3), none, none, some (.iconst 0, 1), some (.istore_n 3, 1), some (.iload_n 3, 1), some (.aload_n 0, 1), some (.getfield 41, 3), none, none, some (.if_icmp .ge 65, 3), none, none, some (.aload_n 0, 1), some (.iload_n 2, 1), some (.iload_n 3, 1), some (.invokevirtual 81, 3), none, none, some (.istore 4, 2), none, some (.iload 4, 2), none],
  [some (.iconst 2, 1), some (.irem, 1), some (.iconst 1, 1), some (.if_icmp .ne 10, 3), none, none, some (.iload 4, 2), none, some (.iconst 1, 1), some (.iadd, 1), some (.goto 7, 3), none, none, some (.iload 4, 2), none, some (.iconst 1, 1), some (.isub, 1), some (.istore 5, 2), none, some (.aload_n 0, 1), some (.iload_n 2, 1), some (.iload_n 3, 1), some (.iconst 0, 1), some (.invokevirtual 77, 3), none, none, some (.iload 4, 2), none, some (.if_icmp .ne 15, 3), none, none, some (.aload_n 0, 1)],
  [some (.iload_n 2, 1), some (.iload_n 3, 1), some (.iconst 1, 1), some (.invokevirtual 77, 3), none, none, some (.iload 5, 2), none, some (.if_icmp .eq 6, 3), none, none, some (.iinc 1 1, 3), none, none, some (.iinc 3 1, 3), none, none, some (.goto (-67), 3), none, none, some (.iinc 2 1, 3), none, none, some (.goto (-83), 3), none, none, some (.iload_n 1, 1), some (.ireturn, 1)]]
def jmM_X2_cellsWithOtherPages : jm_Meth := (⟨"PaperLand$Folding", "cellsWithOtherPages", "()I"⟩, prog_4_method_9_code, 6, some .int, 2, false, jmI_X2_cellsWithOtherPages, [], [])
def jmI_X2_frontPageByItself : jm_Ins := [[some (.iload_n 1, 1), some (.istore_n 3, 1), some (.iload_n 2, 1), some (.istore 4, 2), none, some (.aload_n 0, 1), some (.getfield 38, 3), none, none, some (.istore 5, 2), none, some (.aload_n 0, 1), some (.getfield 41, 3), none, none, some (.istore 6, 2), none, some (.iconst 1, 1), some (.istore 7, 2), none, some (.iconst 0, 1), some (.istore 8, 2), none, some (.iconst 1, 1), some (.istore 9, 2), none, some (.iconst 0, 1), some (.istore 10, 2), none, some (.iload 10, 2), none, some (.iconst 5, 1)],
  [some (.if_icmp .ge 151, 3), none, none, some (.iload 10, 2), none, some (.aload_n 0, 1), some (.getfield 34, 3), none, none, some (.if_icmp .ge 142, 3), none, none, some (.aload_n 0, 1), some (.getfield 9, 3), none, none, some (.iload 10, 2), none, some (.baload, 1), some (.ifCond .eq 43, 3), none, none, some (.iload_n 3, 1), some (.iload 5, 2), none, some (.iconst 2, 1), some (.idiv, 1), some (.if_icmp .lt 7, 3), none, none, some (.iconst 1, 1), some (.goto 4, 3)],
  [none, none, some (.iconst 0, 1), some (.istore 11, 2), none, some (.iload 11, 2), none, some (.ifCond .eq 12, 3), none, none, some (.iload 5, 2), none, some (.iconst 1, 1), some (.isub, 1), some (.iload_n 3, 1), some (.isub, 1), some (.goto 4, 3), none, none, some (.iload_n 3, 1), some (.istore_n 3, 1), some (.iload 5, 2), none, some (.iconst 2, 1), some (.idiv, 1), some (.istore 5, 2), none, some (.goto 44, 3), none, none, some (.iload 4, 2), none],
  [some (.iload 6, 2), none, some (.iconst 2, 1), some (.idiv, 1), some (.if_icmp .lt 7, 3), none, none, some (.iconst 1, 1), some (.goto 4, 3), none, none, some (.iconst 0, 1), some (.istore 11, 2), none, some (.iload 11, 2), none, some (.ifCond .eq 13, 3), none, none, some (.iload 6, 2), none, some (.iconst 1, 1), some (.isub, 1), some (.iload 4, 2), none, some (.isub, 1), some (.goto 5, 3), none, none, some (.iload 4, 2), none, some (.istore 4, 2)],
  [none, some (.iload 6, 2), none, some (.iconst 2, 1), some (.idiv, 1), some (.istore 6, 2), none, some (.iload 11, 2), none, some (.ifCond .eq 13, 3), none, none, some (.iload 7, 2), none, some (.iconst 1, 1), some (.isub, 1), some (.iload 8, 2), none, some (.isub, 1), some (.goto 8, 3), none, none, some (.iload 7, 2), none, some (.iload 8, 2), none, some (.iadd, 1), some (.istore 8, 2), none, some (.iload 9, 2), none, some (.iload 11, 2)],
  [none, some (.if_icmp .eq 7, 3), none, none, some (.iconst 1, 1), some (.goto 4, 3), none, none, some (.iconst 0, 1), some (.istore 9, 2), none, some (.iconst 2, 1), some (.iload 7, 2), none, some (.imul, 1), some (.istore 7, 2), none, some (.iinc 10 1, 3), none, none, some (.goto (-151), 3), none, none, some (.iload 9, 2), none, some (.ifCond .eq 12, 3), none, none, some (.iconst 2, 1), some (.iload 8, 2), none, some (.imul, 1)],
  [some (.iconst 1, 1), some (.iadd, 1), some (.goto 9, 3), none, none, some (.iconst 2, 1), some (.iload 8, 2), none, some (.imul, 1), some (.iconst 2, 1), some (.iadd, 1), some (.ireturn, 1)]]
def jmM_X2_frontPageByItself : jm_Meth := (⟨"PaperLand$Folding", "frontPageByItself", "(II)I"⟩, prog_4_method_10_code, 12, some .int, 2, false, jmI_X2_frontPageByItself, [], [])
def jmI_X3_init : jm_Ins := [[some (.aload_n 0, 1), some (.invokespecial 3, 3), none, none, some (.aload_n 0, 1), some (.bipush 8, 2), none, some (.anewarray 9, 3), none, none, some (.putfield 11, 3), none, none, some (.iconst 0, 1), some (.istore_n 1, 1), some (.iload_n 1, 1), some (.bipush 8, 2), none, some (.if_icmp .ge 22, 3), none, none, some (.aload_n 0, 1), some (.getfield 11, 3), none, none, some (.iload_n 1, 1), some (.new 9, 3), none, none, some (.dup, 1), some (.invokespecial 17, 3), none],
  [none, some (.aastore, 1), some (.iinc 1 1, 3), none, none, some (.goto (-22), 3), none, none, some (.return_, 1)]]
def jmM_X3_init : jm_Meth := (⟨"PaperLand$History", "<init>", "()V"⟩, prog_5_method_1_code, 2, none, 3, false, jmI_X3_init, [], [])
def jmI_X3_keep : jm_Ins := [[some (.aload_n 0, 1), some (.getfield 18, 3), none, none, some (.bipush 8, 2), none, some (.invokestatic 22, 3), none, none, some (.istore_n 2, 1), some (.aload_n 0, 1), some (.getfield 11, 3), none, none, some (.iload_n 2, 1), some (.aaload, 1), some (.aload_n 1, 1), some (.invokevirtual 28, 3), none, none, some (.aload_n 0, 1), some (.iload_n 2, 1), some (.iconst 1, 1), some (.iadd, 1), some (.putfield 18, 3), none, none, some (.aload_n 0, 1), some (.bipush 8, 2), none, some (.aload_n 0, 1), some (.getfield 32, 3)],
  [none, none, some (.iconst 1, 1), some (.iadd, 1), some (.invokestatic 35, 3), none, none, some (.putfield 32, 3), none, none, some (.return_, 1)]]
def jmM_X3_keep : jm_Meth := (⟨"PaperLand$History", "keep", "(LPaperLand$Land;)V"⟩, prog_5_method_2_code, 3, none, 3, false, jmI_X3_keep, [], [])
def jmI_X3_forget : jm_Ins := [[some (.aload_n 0, 1), some (.iconst 0, 1), some (.putfield 32, 3), none, none, some (.return_, 1)]]
def jmM_X3_forget : jm_Meth := (⟨"PaperLand$History", "forget", "()V"⟩, prog_5_method_4_code, 1, none, 3, false, jmI_X3_forget, [], [])
def jmI_X4_init : jm_Ins := [[some (.aload_n 0, 1), some (.invokespecial 3, 3), none, none, some (.aload_n 0, 1), some (.iconst 5, 1), some (.anewarray 9, 3), none, none, some (.putfield 11, 3), none, none, some (.aload_n 0, 1), some (.new 17, 3), none, none, some (.dup, 1), some (.invokespecial 19, 3), none, none, some (.putfield 20, 3), none, none, some (.aload_n 0, 1), some (.bipush 8, 2), none, some (.newarray .long, 2), none, some (.putfield 24, 3), none, none, some (.iconst 0, 1)],
  [some (.istore_n 1, 1), some (.iload_n 1, 1), some (.iconst 5, 1), some (.if_icmp .ge 22, 3), none, none, some (.aload_n 0, 1), some (.getfield 11, 3), none, none, some (.iload_n 1, 1), some (.new 9, 3), none, none, some (.dup, 1), some (.invokespecial 28, 3), none, none, some (.aastore, 1), some (.iinc 1 1, 3), none, none, some (.goto (-21), 3), none, none, some (.return_, 1)]]
def jmM_X4_init : jm_Meth := (⟨"PaperLand$Land", "<init>", "()V"⟩, prog_6_method_1_code, 2, none, 4, false, jmI_X4_init, [], [])
def jmI_X4_copyFrom : jm_Ins := [[some (.aload_n 0, 1), some (.aload_n 1, 1), some (.getfield 29, 3), none, none, some (.putfield 29, 3), none, none, some (.aload_n 0, 1), some (.aload_n 1, 1), some (.getfield 33, 3), none, none, some (.putfield 33, 3), none, none, some (.aload_n 0, 1), some (.aload_n 1, 1), some (.getfield 36, 3), none, none, some (.putfield 36, 3), none, none, some (.iconst 0, 1), some (.istore_n 2, 1), some (.iload_n 2, 1), some (.iconst 5, 1), some (.if_icmp .ge 32, 3), none, none, some (.iload_n 2, 1)],
  [some (.aload_n 1, 1), some (.getfield 36, 3), none, none, some (.if_icmp .ge 24, 3), none, none, some (.aload_n 0, 1), some (.getfield 11, 3), none, none, some (.iload_n 2, 1), some (.aaload, 1), some (.aload_n 1, 1), some (.getfield 11, 3), none, none, some (.iload_n 2, 1), some (.aaload, 1), some (.invokevirtual 39, 3), none, none, some (.iinc 2 1, 3), none, none, some (.goto (-31), 3), none, none, some (.aload_n 0, 1), some (.getfield 20, 3), none, none],
  [some (.aload_n 1, 1), some (.getfield 20, 3), none, none, some (.invokevirtual 43, 3), none, none, some (.aload_n 1, 1), some (.getfield 24, 3), none, none, some (.iconst 0, 1), some (.aload_n 0, 1), some (.getfield 24, 3), none, none, some (.iconst 0, 1), some (.bipush 8, 2), none, some (.invokestatic 46, 3), none, none, some (.return_, 1)]]
def jmM_X4_copyFrom : jm_Meth := (⟨"PaperLand$Land", "copyFrom", "(LPaperLand$Land;)V"⟩, prog_6_method_2_code, 3, none, 4, false, jmI_X4_copyFrom, [], [])
def jmI_X4_begin : jm_Ins := [[some (.aload_n 0, 1), some (.iconst 0, 1), some (.putfield 36, 3), none, none, some (.aload_n 0, 1), some (.getfield 20, 3), none, none, some (.invokevirtual 52, 3), none, none, some (.iconst 0, 1), some (.istore_n 1, 1), some (.iload_n 1, 1), some (.bipush 8, 2), none, some (.if_icmp .ge 16, 3), none, none, some (.aload_n 0, 1), some (.getfield 24, 3), none, none, some (.iload_n 1, 1), some (.lconst 0, 1), some (.lastore, 1), some (.iinc 1 1, 3), none, none, some (.goto (-16), 3), none],
  [none, some (.return_, 1)]]
def jmM_X4_begin : jm_Meth := (⟨"PaperLand$Land", "begin", "()V"⟩, prog_6_method_3_code, 2, none, 4, false, jmI_X4_begin, [], [])
def jmI_X4_hasSeries : jm_Ins := [[some (.iload_n 1, 1), some (.ifCond .lt 20, 3), none, none, some (.iload_n 1, 1), some (.aload_n 0, 1), some (.getfield 36, 3), none, none, some (.if_icmp .ge 12, 3), none, none, some (.iload_n 1, 1), some (.iconst 5, 1), some (.if_icmp .ge 7, 3), none, none, some (.iconst 1, 1), some (.goto 4, 3), none, none, some (.iconst 0, 1), some (.ireturn, 1)]]
def jmM_X4_hasSeries : jm_Meth := (⟨"PaperLand$Land", "hasSeries", "(I)Z"⟩, prog_6_method_4_code, 2, some .boolean, 4, false, jmI_X4_hasSeries, [], [])
def jmI_X4_seriesNamed : jm_Ins := [[some (.iconst 0, 1), some (.istore 4, 2), none, some (.iload 4, 2), none, some (.iconst 5, 1), some (.if_icmp .ge 37, 3), none, none, some (.iload 4, 2), none, some (.aload_n 0, 1), some (.getfield 36, 3), none, none, some (.if_icmp .ge 28, 3), none, none, some (.aload_n 0, 1), some (.getfield 11, 3), none, none, some (.iload 4, 2), none, some (.aaload, 1), some (.aload_n 1, 1), some (.iload_n 2, 1), some (.iload_n 3, 1), some (.invokevirtual 55, 3), none, none, some (.ifCond .eq 6, 3)],
  [none, none, some (.iload 4, 2), none, some (.ireturn, 1), some (.iinc 4 1, 3), none, none, some (.goto (-37), 3), none, none, some (.iconst (-1), 1), some (.ireturn, 1)]]
def jmM_X4_seriesNamed : jm_Meth := (⟨"PaperLand$Land", "seriesNamed", "(LPaperLand$Bytes;II)I"⟩, prog_6_method_5_code, 5, some .int, 4, false, jmI_X4_seriesNamed, [], [])
def jmI_X4_addSeries : jm_Ins := [[some (.aload_n 0, 1), some (.getfield 36, 3), none, none, some (.iconst 5, 1), some (.if_icmp .ge 44, 3), none, none, some (.aload_n 0, 1), some (.getfield 11, 3), none, none, some (.aload_n 0, 1), some (.getfield 36, 3), none, none, some (.aaload, 1), some (.aload_n 1, 1), some (.iload_n 2, 1), some (.iload_n 3, 1), some (.invokevirtual 59, 3), none, none, some (.aload_n 0, 1), some (.getfield 11, 3), none, none, some (.aload_n 0, 1), some (.getfield 36, 3), none, none, some (.aaload, 1)],
  [some (.iload 4, 2), none, some (.iload 5, 2), none, some (.invokevirtual 63, 3), none, none, some (.aload_n 0, 1), some (.dup, 1), some (.getfield 36, 3), none, none, some (.iconst 1, 1), some (.iadd, 1), some (.putfield 36, 3), none, none, some (.return_, 1)]]
def jmM_X4_addSeries : jm_Meth := (⟨"PaperLand$Land", "addSeries", "(LPaperLand$Bytes;IIII)V"⟩, prog_6_method_6_code, 6, none, 4, false, jmI_X4_addSeries, [], [])
def jmI_X4_sheetsInAll : jm_Ins := [[some (.iconst 0, 1), some (.istore_n 1, 1), some (.iconst 0, 1), some (.istore_n 2, 1), some (.iload_n 2, 1), some (.iconst 5, 1), some (.if_icmp .ge 44, 3), none, none, some (.iload_n 2, 1), some (.aload_n 0, 1), some (.getfield 36, 3), none, none, some (.if_icmp .ge 36, 3), none, none, some (.iconst 0, 1), some (.istore_n 3, 1), some (.iload_n 3, 1), some (.bipush 10, 2), none, some (.if_icmp .ge 22, 3), none, none, some (.iload_n 1, 1), some (.aload_n 0, 1), some (.getfield 11, 3), none, none, some (.iload_n 2, 1), some (.aaload, 1)],
  [some (.iload_n 3, 1), some (.invokevirtual 67, 3), none, none, some (.iadd, 1), some (.istore_n 1, 1), some (.iinc 3 1, 3), none, none, some (.goto (-22), 3), none, none, some (.iinc 2 1, 3), none, none, some (.goto (-43), 3), none, none, some (.iload_n 1, 1), some (.ireturn, 1)]]
def jmM_X4_sheetsInAll : jm_Meth := (⟨"PaperLand$Land", "sheetsInAll", "()I"⟩, prog_6_method_7_code, 4, some .int, 4, false, jmI_X4_sheetsInAll, [], [])
def jmI_X4_stacksInAll : jm_Ins := [[some (.iconst 0, 1), some (.istore_n 1, 1), some (.iconst 0, 1), some (.istore_n 2, 1), some (.iload_n 2, 1), some (.iconst 5, 1), some (.if_icmp .ge 52, 3), none, none, some (.iload_n 2, 1), some (.aload_n 0, 1), some (.getfield 36, 3), none, none, some (.if_icmp .ge 44, 3), none, none, some (.iconst 0, 1), some (.istore_n 3, 1), some (.iload_n 3, 1), some (.bipush 10, 2), none, some (.if_icmp .ge 30, 3), none, none, some (.iload_n 1, 1), some (.aload_n 0, 1), some (.getfield 11, 3), none, none, some (.iload_n 2, 1), some (.aaload, 1)],
  [some (.iload_n 3, 1), some (.invokevirtual 67, 3), none, none, some (.ifCond .le 7, 3), none, none, some (.iconst 1, 1), some (.goto 4, 3), none, none, some (.iconst 0, 1), some (.iadd, 1), some (.istore_n 1, 1), some (.iinc 3 1, 3), none, none, some (.goto (-30), 3), none, none, some (.iinc 2 1, 3), none, none, some (.goto (-51), 3), none, none, some (.iload_n 1, 1), some (.ireturn, 1)]]
def jmM_X4_stacksInAll : jm_Meth := (⟨"PaperLand$Land", "stacksInAll", "()I"⟩, prog_6_method_8_code, 4, some .int, 4, false, jmI_X4_stacksInAll, [], [])
def jmI_X4_areaInAll : jm_Ins := [[some (.lconst 0, 1), some (.lstore_n 1, 1), some (.iconst 0, 1), some (.istore_n 3, 1), some (.iload_n 3, 1), some (.iconst 5, 1), some (.if_icmp .ge 61, 3), none, none, some (.iload_n 3, 1), some (.aload_n 0, 1), some (.getfield 36, 3), none, none, some (.if_icmp .ge 53, 3), none, none, some (.iconst 0, 1), some (.istore 4, 2), none, some (.iload 4, 2), none, some (.bipush 10, 2), none, some (.if_icmp .ge 37, 3), none, none, some (.lload_n 1, 1), some (.aload_n 0, 1), some (.getfield 11, 3), none, none],
  [some (.iload_n 3, 1), some (.aaload, 1), some (.iload 4, 2), none, some (.invokevirtual 71, 3), none, none, some (.i2l, 1), some (.aload_n 0, 1), some (.getfield 11, 3), none, none, some (.iload_n 3, 1), some (.aaload, 1), some (.iload 4, 2), none, some (.invokevirtual 67, 3), none, none, some (.i2l, 1), some (.lmul, 1), some (.ladd, 1), some (.lstore_n 1, 1), some (.iinc 4 1, 3), none, none, some (.goto (-38), 3), none, none, some (.iinc 3 1, 3), none, none],
  [some (.goto (-60), 3), none, none, some (.lload_n 1, 1), some (.lreturn, 1)]]
def jmM_X4_areaInAll : jm_Meth := (⟨"PaperLand$Land", "areaInAll", "()J"⟩, prog_6_method_9_code, 5, some .long, 4, false, jmI_X4_areaInAll, [], [])
def jmI_X4_refusalToBuy : jm_Ins := [[some (.aload_n 0, 1), some (.getfield 11, 3), none, none, some (.iload_n 1, 1), some (.aaload, 1), some (.iload_n 2, 1), some (.invokevirtual 84, 3), none, none, some (.ifCond .eq 6, 3), none, none, some (.bipush (-3), 2), none, some (.ireturn, 1), some (.aload_n 0, 1), some (.getfield 11, 3), none, none, some (.iload_n 1, 1), some (.aaload, 1), some (.iload_n 2, 1), some (.invokevirtual 67, 3), none, none, some (.iload_n 3, 1), some (.aload_n 0, 1), some (.getfield 33, 3), none, none, some (.imul, 1)],
  [some (.iadd, 1), some (.sipush 9999, 3), none, none, some (.if_icmp .le 8, 3), none, none, some (.bipush (-5), 2), none, some (.goto 4, 3), none, none, some (.iconst 0, 1), some (.ireturn, 1)]]
def jmM_X4_refusalToBuy : jm_Meth := (⟨"PaperLand$Land", "refusalToBuy", "(III)I"⟩, prog_6_method_11_code, 4, some .int, 4, false, jmI_X4_refusalToBuy, [], [])
def jmI_X4_takeIn : jm_Ins := [[some (.aload_n 0, 1), some (.getfield 11, 3), none, none, some (.iload_n 1, 1), some (.aaload, 1), some (.astore 4, 2), none, some (.aload 4, 2), none, some (.iload_n 2, 1), some (.iload_n 3, 1), some (.aload_n 0, 1), some (.getfield 33, 3), none, none, some (.imul, 1), some (.invokevirtual 88, 3), none, none, some (.aload_n 0, 1), some (.getfield 24, 3), none, none, some (.iconst 0, 1), some (.dup2, 1), some (.laload, 1), some (.aload 4, 2), none, some (.iload_n 2, 1), some (.invokevirtual 71, 3), none],
  [none, some (.i2l, 1), some (.iload_n 3, 1), some (.aload_n 0, 1), some (.getfield 33, 3), none, none, some (.imul, 1), some (.i2l, 1), some (.lmul, 1), some (.ladd, 1), some (.lastore, 1), some (.aload_n 0, 1), some (.getfield 24, 3), none, none, some (.bipush 7, 2), none, some (.dup2, 1), some (.laload, 1), some (.iload_n 3, 1), some (.i2l, 1), some (.ladd, 1), some (.lastore, 1), some (.aload 4, 2), none, some (.iload_n 2, 1), some (.invokevirtual 67, 3), none, none, some (.ireturn, 1)]]
def jmM_X4_takeIn : jm_Meth := (⟨"PaperLand$Land", "takeIn", "(III)I"⟩, prog_6_method_12_code, 5, some .int, 4, false, jmI_X4_takeIn, [], [])
def jmI_X4_refusalToCut : jm_Ins := [[some (.aload_n 0, 1), some (.getfield 11, 3), none, none, some (.iload_n 1, 1), some (.aaload, 1), some (.astore 4, 2), none, some (.aload 4, 2), none, some (.iload_n 2, 1), some (.iconst 1, 1), some (.iadd, 1), some (.invokevirtual 84, 3), none, none, some (.ifCond .eq 6, 3), none, none, some (.bipush (-3), 2), none, some (.ireturn, 1), some (.aload 4, 2), none, some (.iload_n 2, 1), some (.invokevirtual 67, 3), none, none, some (.iload_n 3, 1), some (.if_icmp .ge 6, 3), none, none],
  [some (.bipush (-4), 2), none, some (.ireturn, 1), some (.aload 4, 2), none, some (.iload_n 2, 1), some (.iconst 1, 1), some (.iadd, 1), some (.invokevirtual 67, 3), none, none, some (.iconst 2, 1), some (.iload_n 3, 1), some (.imul, 1), some (.iadd, 1), some (.sipush 9999, 3), none, none, some (.if_icmp .le 8, 3), none, none, some (.bipush (-5), 2), none, some (.goto 4, 3), none, none, some (.iconst 0, 1), some (.ireturn, 1)]]
def jmM_X4_refusalToCut : jm_Meth := (⟨"PaperLand$Land", "refusalToCut", "(III)I"⟩, prog_6_method_13_code, 5, some .int, 4, false, jmI_X4_refusalToCut, [], [])
def jmI_X4_cutUp : jm_Ins := [[some (.aload_n 0, 1), some (.getfield 11, 3), none, none, some (.iload_n 1, 1), some (.aaload, 1), some (.astore 4, 2), none, some (.aload 4, 2), none, some (.iload_n 2, 1), some (.iload_n 3, 1), some (.ineg, 1), some (.invokevirtual 88, 3), none, none, some (.aload 4, 2), none, some (.iload_n 2, 1), some (.iconst 1, 1), some (.iadd, 1), some (.iconst 2, 1), some (.iload_n 3, 1), some (.imul, 1), some (.invokevirtual 88, 3), none, none, some (.aload_n 0, 1), some (.getfield 24, 3), none, none, some (.iconst 3, 1)],
  [some (.dup2, 1), some (.laload, 1), some (.aload 4, 2), none, some (.iload_n 2, 1), some (.invokevirtual 91, 3), none, none, some (.i2l, 1), some (.iload_n 3, 1), some (.i2l, 1), some (.lmul, 1), some (.ladd, 1), some (.lastore, 1), some (.aload_n 0, 1), some (.getfield 24, 3), none, none, some (.iconst 4, 1), some (.dup2, 1), some (.laload, 1), some (.iload_n 3, 1), some (.i2l, 1), some (.ladd, 1), some (.lastore, 1), some (.aload 4, 2), none, some (.iload_n 2, 1), some (.iconst 1, 1), some (.iadd, 1), some (.invokevirtual 67, 3), none],
  [none, some (.ireturn, 1)]]
def jmM_X4_cutUp : jm_Meth := (⟨"PaperLand$Land", "cutUp", "(III)I"⟩, prog_6_method_14_code, 5, some .int, 4, false, jmI_X4_cutUp, [], [])
def jmI_X4_fill : jm_Ins := [[some (.aload_n 0, 1), some (.getfield 11, 3), none, none, some (.aload_n 1, 1), some (.getfield 94, 3), none, none, some (.aaload, 1), some (.astore_n 2, 1), some (.aload_n 1, 1), some (.getfield 98, 3), none, none, some (.aload_n 2, 1), some (.invokevirtual 102, 3), none, none, some (.aload_n 2, 1), some (.aload_n 1, 1), some (.getfield 107, 3), none, none, some (.aload_n 1, 1), some (.getfield 110, 3), none, none, some (.ineg, 1), some (.invokevirtual 88, 3), none, none, some (.aload_n 0, 1)],
  [some (.getfield 24, 3), none, none, some (.iconst 1, 1), some (.dup2, 1), some (.laload, 1), some (.aload_n 1, 1), some (.getfield 113, 3), none, none, some (.aload_n 1, 1), some (.getfield 116, 3), none, none, some (.imul, 1), some (.i2l, 1), some (.aload_n 1, 1), some (.getfield 110, 3), none, none, some (.i2l, 1), some (.lmul, 1), some (.ladd, 1), some (.lastore, 1), some (.aload_n 0, 1), some (.getfield 24, 3), none, none, some (.iconst 2, 1), some (.dup2, 1), some (.laload, 1), some (.aload_n 1, 1)],
  [some (.getfield 119, 3), none, none, some (.i2l, 1), some (.aload_n 1, 1), some (.getfield 110, 3), none, none, some (.i2l, 1), some (.lmul, 1), some (.ladd, 1), some (.lastore, 1), some (.aload_n 0, 1), some (.getfield 24, 3), none, none, some (.iconst 3, 1), some (.dup2, 1), some (.laload, 1), some (.aload_n 1, 1), some (.getfield 98, 3), none, none, some (.getfield 122, 3), none, none, some (.ladd, 1), some (.lastore, 1), some (.aload_n 0, 1), some (.getfield 24, 3), none, none],
  [some (.iconst 4, 1), some (.dup2, 1), some (.laload, 1), some (.aload_n 1, 1), some (.getfield 98, 3), none, none, some (.getfield 126, 3), none, none, some (.i2l, 1), some (.ladd, 1), some (.lastore, 1), some (.aload_n 0, 1), some (.getfield 24, 3), none, none, some (.iconst 5, 1), some (.dup2, 1), some (.laload, 1), some (.lconst 1, 1), some (.ladd, 1), some (.lastore, 1), some (.aload_n 0, 1), some (.getfield 24, 3), none, none, some (.bipush 6, 2), none, some (.dup2, 1), some (.laload, 1), some (.aload_n 1, 1)],
  [some (.getfield 110, 3), none, none, some (.i2l, 1), some (.ladd, 1), some (.lastore, 1), some (.aload_n 0, 1), some (.getfield 20, 3), none, none, some (.aload_n 1, 1), some (.getfield 113, 3), none, none, some (.aload_n 1, 1), some (.getfield 116, 3), none, none, some (.aload_n 1, 1), some (.getfield 110, 3), none, none, some (.invokevirtual 129, 3), none, none, some (.return_, 1)]]
def jmM_X4_fill : jm_Meth := (⟨"PaperLand$Land", "fill", "(LPaperLand$Plan;)V"⟩, prog_6_method_15_code, 3, none, 4, false, jmI_X4_fill, [], [])
def jmI_X5_init : jm_Ins := [[some (.aload_n 0, 1), some (.invokespecial 3, 3), none, none, some (.aload_n 0, 1), some (.new 9, 3), none, none, some (.dup, 1), some (.invokespecial 11, 3), none, none, some (.putfield 12, 3), none, none, some (.return_, 1)]]
def jmM_X5_init : jm_Meth := (⟨"PaperLand$Plan", "<init>", "()V"⟩, prog_7_method_1_code, 1, none, 5, false, jmI_X5_init, [], [])
def jmI_X5_make : jm_Ins := [[some (.aload_n 0, 1), some (.iload_n 2, 1), some (.putfield 18, 3), none, none, some (.aload_n 0, 1), some (.iload_n 3, 1), some (.putfield 22, 3), none, none, some (.aload_n 0, 1), some (.iload 4, 2), none, some (.putfield 25, 3), none, none, some (.aload_n 0, 1), some (.iconst (-1), 1), some (.putfield 28, 3), none, none, some (.aload_n 0, 1), some (.iconst (-1), 1), some (.putfield 31, 3), none, none, some (.aload_n 0, 1), some (.iconst 0, 1), some (.putfield 34, 3), none, none, some (.aload_n 0, 1)],
  [some (.iconst 0, 1), some (.putfield 37, 3), none, none, some (.aload_n 0, 1), some (.iconst 0, 1), some (.putfield 40, 3), none, none, some (.iconst 0, 1), some (.istore 5, 2), none, some (.iload 5, 2), none, some (.iconst 5, 1), some (.if_icmp .ge 35, 3), none, none, some (.iload 5, 2), none, some (.aload_n 1, 1), some (.getfield 43, 3), none, none, some (.if_icmp .ge 26, 3), none, none, some (.aload_n 0, 1), some (.iload 5, 2), none, some (.aload_n 1, 1), some (.getfield 48, 3)],
  [none, none, some (.iload 5, 2), none, some (.aaload, 1), some (.aload_n 1, 1), some (.getfield 51, 3), none, none, some (.invokevirtual 54, 3), none, none, some (.iinc 5 1, 3), none, none, some (.goto (-35), 3), none, none, some (.aload_n 1, 1), some (.aload_n 0, 1), some (.getfield 28, 3), none, none, some (.invokevirtual 58, 3), none, none, some (.ifCond .eq 35, 3), none, none, some (.aload_n 0, 1), some (.iconst 0, 1), some (.putfield 62, 3)],
  [none, none, some (.aload_n 0, 1), some (.getfield 12, 3), none, none, some (.aload_n 1, 1), some (.getfield 48, 3), none, none, some (.aload_n 0, 1), some (.getfield 28, 3), none, none, some (.aaload, 1), some (.aload_n 0, 1), some (.getfield 31, 3), none, none, some (.aload_n 0, 1), some (.getfield 25, 3), none, none, some (.invokevirtual 65, 3), none, none, some (.goto 19, 3), none, none, some (.aload_n 0, 1), some (.aload_n 0, 1), some (.getfield 37, 3)],
  [none, none, some (.ifCond .ne 7, 3), none, none, some (.iconst 1, 1), some (.goto 4, 3), none, none, some (.iconst 2, 1), some (.putfield 62, 3), none, none, some (.return_, 1)]]
def jmM_X5_make : jm_Meth := (⟨"PaperLand$Plan", "make", "(LPaperLand$Land;III)V"⟩, prog_7_method_2_code, 6, none, 5, false, jmI_X5_make, [], [])
def jmI_X5_weighSeries : jm_Ins := [[some (.iconst 0, 1), some (.istore 4, 2), none, some (.iload 4, 2), none, some (.bipush 10, 2), none, some (.if_icmp .ge 112, 3), none, none, some (.aload_n 2, 1), some (.iload 4, 2), none, some (.aload_n 0, 1), some (.getfield 18, 3), none, none, some (.aload_n 0, 1), some (.getfield 22, 3), none, none, some (.iload_n 3, 1), some (.invokevirtual 69, 3), none, none, some (.ifCond .eq 88, 3), none, none, some (.aload_n 2, 1), some (.iload 4, 2), none, some (.invokevirtual 75, 3)],
  [none, none, some (.istore 5, 2), none, some (.aload_n 2, 1), some (.iload 4, 2), none, some (.invokevirtual 79, 3), none, none, some (.aload_n 0, 1), some (.getfield 18, 3), none, none, some (.aload_n 0, 1), some (.getfield 22, 3), none, none, some (.imul, 1), some (.isub, 1), some (.istore 6, 2), none, some (.aload_n 0, 1), some (.dup, 1), some (.getfield 37, 3), none, none, some (.iconst 1, 1), some (.iadd, 1), some (.putfield 37, 3), none, none],
  [some (.aload_n 0, 1), some (.aload_n 0, 1), some (.getfield 40, 3), none, none, some (.iload 5, 2), none, some (.invokestatic 82, 3), none, none, some (.putfield 40, 3), none, none, some (.iload 5, 2), none, some (.aload_n 0, 1), some (.getfield 25, 3), none, none, some (.if_icmp .lt 30, 3), none, none, some (.aload_n 0, 1), some (.iload_n 1, 1), some (.iload 6, 2), none, some (.invokevirtual 88, 3), none, none, some (.ifCond .eq 20, 3), none, none],
  [some (.aload_n 0, 1), some (.iload_n 1, 1), some (.putfield 28, 3), none, none, some (.aload_n 0, 1), some (.iload 4, 2), none, some (.putfield 31, 3), none, none, some (.aload_n 0, 1), some (.iload 6, 2), none, some (.putfield 34, 3), none, none, some (.iinc 4 1, 3), none, none, some (.goto (-113), 3), none, none, some (.return_, 1)]]
def jmM_X5_weighSeries : jm_Meth := (⟨"PaperLand$Plan", "weighSeries", "(ILPaperLand$Series;I)V"⟩, prog_7_method_3_code, 7, none, 5, false, jmI_X5_weighSeries, [], [])
def jmI_X5_isNearer : jm_Ins := [[some (.aload_n 0, 1), some (.getfield 28, 3), none, none, some (.iconst (-1), 1), some (.if_icmp .eq 27, 3), none, none, some (.iload_n 2, 1), some (.aload_n 0, 1), some (.getfield 34, 3), none, none, some (.if_icmp .lt 19, 3), none, none, some (.iload_n 2, 1), some (.aload_n 0, 1), some (.getfield 34, 3), none, none, some (.if_icmp .ne 15, 3), none, none, some (.iload_n 1, 1), some (.aload_n 0, 1), some (.getfield 28, 3), none, none, some (.if_icmp .ne 7, 3), none, none],
  [some (.iconst 1, 1), some (.goto 4, 3), none, none, some (.iconst 0, 1), some (.ireturn, 1)]]
def jmM_X5_isNearer : jm_Meth := (⟨"PaperLand$Plan", "isNearer", "(II)Z"⟩, prog_7_method_4_code, 3, some .boolean, 5, false, jmI_X5_isNearer, [], [])
def jmI_X5_told : jm_Ins := [[some (.bipush 100, 2), none, some (.aload_n 0, 1), some (.getfield 28, 3), none, none, some (.imul, 1), some (.aload_n 0, 1), some (.getfield 31, 3), none, none, some (.iadd, 1), some (.ireturn, 1)]]
def jmM_X5_told : jm_Meth := (⟨"PaperLand$Plan", "told", "()I"⟩, prog_7_method_5_code, 1, some .int, 5, false, jmI_X5_told, [], [])
def jmI_X6_init : jm_Ins := [[some (.aload_n 0, 1), some (.invokespecial 3, 3), none, none, some (.aload_n 0, 1), some (.bipush 30, 2), none, some (.newarray .int, 2), none, some (.putfield 9, 3), none, none, some (.aload_n 0, 1), some (.bipush 30, 2), none, some (.newarray .int, 2), none, some (.putfield 15, 3), none, none, some (.aload_n 0, 1), some (.bipush 30, 2), none, some (.newarray .int, 2), none, some (.putfield 18, 3), none, none, some (.return_, 1)]]
def jmM_X6_init : jm_Meth := (⟨"PaperLand$Prints", "<init>", "()V"⟩, prog_8_method_1_code, 1, none, 6, false, jmI_X6_init, [], [])
def jmI_X6_copyFrom : jm_Ins := [[some (.aload_n 0, 1), some (.aload_n 1, 1), some (.getfield 21, 3), none, none, some (.putfield 21, 3), none, none, some (.aload_n 1, 1), some (.getfield 9, 3), none, none, some (.iconst 0, 1), some (.aload_n 0, 1), some (.getfield 9, 3), none, none, some (.iconst 0, 1), some (.bipush 30, 2), none, some (.invokestatic 25, 3), none, none, some (.aload_n 1, 1), some (.getfield 15, 3), none, none, some (.iconst 0, 1), some (.aload_n 0, 1), some (.getfield 15, 3), none, none],
  [some (.iconst 0, 1), some (.bipush 30, 2), none, some (.invokestatic 25, 3), none, none, some (.aload_n 1, 1), some (.getfield 18, 3), none, none, some (.iconst 0, 1), some (.aload_n 0, 1), some (.getfield 18, 3), none, none, some (.iconst 0, 1), some (.bipush 30, 2), none, some (.invokestatic 25, 3), none, none, some (.return_, 1)]]
def jmM_X6_copyFrom : jm_Meth := (⟨"PaperLand$Prints", "copyFrom", "(LPaperLand$Prints;)V"⟩, prog_8_method_2_code, 2, none, 6, false, jmI_X6_copyFrom, [], [])
def jmI_X6_forget : jm_Ins := [[some (.aload_n 0, 1), some (.iconst 0, 1), some (.putfield 21, 3), none, none, some (.return_, 1)]]
def jmM_X6_forget : jm_Meth := (⟨"PaperLand$Prints", "forget", "()V"⟩, prog_8_method_3_code, 1, none, 6, false, jmI_X6_forget, [], [])
def jmI_X6_placeOf : jm_Ins := [[some (.iconst 0, 1), some (.istore_n 3, 1), some (.iload_n 3, 1), some (.aload_n 0, 1), some (.getfield 21, 3), none, none, some (.if_icmp .ge 35, 3), none, none, some (.aload_n 0, 1), some (.getfield 9, 3), none, none, some (.iload_n 3, 1), some (.invokestatic 31, 3), none, none, some (.iload_n 1, 1), some (.if_icmp .ne 17, 3), none, none, some (.aload_n 0, 1), some (.getfield 15, 3), none, none, some (.iload_n 3, 1), some (.invokestatic 31, 3), none, none, some (.iload_n 2, 1), some (.if_icmp .ne 5, 3)],
  [none, none, some (.iload_n 3, 1), some (.ireturn, 1), some (.iinc 3 1, 3), none, none, some (.goto (-37), 3), none, none, some (.iconst (-1), 1), some (.ireturn, 1)]]
def jmM_X6_placeOf : jm_Meth := (⟨"PaperLand$Prints", "placeOf", "(II)I"⟩, prog_8_method_4_code, 4, some .int, 6, false, jmI_X6_placeOf, [], [])
def jmI_X6_note : jm_Ins := [[some (.aload_n 0, 1), some (.iload_n 1, 1), some (.iload_n 2, 1), some (.invokevirtual 35, 3), none, none, some (.istore 4, 2), none, some (.iload 4, 2), none, some (.iconst (-1), 1), some (.if_icmp .eq 26, 3), none, none, some (.aload_n 0, 1), some (.getfield 18, 3), none, none, some (.iload 4, 2), none, some (.aload_n 0, 1), some (.getfield 18, 3), none, none, some (.iload 4, 2), none, some (.invokestatic 31, 3), none, none, some (.iload_n 3, 1), some (.iadd, 1), some (.invokestatic 47, 3)],
  [none, none, some (.goto 58, 3), none, none, some (.aload_n 0, 1), some (.getfield 21, 3), none, none, some (.bipush 30, 2), none, some (.if_icmp .ge 49, 3), none, none, some (.aload_n 0, 1), some (.getfield 9, 3), none, none, some (.aload_n 0, 1), some (.getfield 21, 3), none, none, some (.iload_n 1, 1), some (.invokestatic 47, 3), none, none, some (.aload_n 0, 1), some (.getfield 15, 3), none, none, some (.aload_n 0, 1), some (.getfield 21, 3)],
  [none, none, some (.iload_n 2, 1), some (.invokestatic 47, 3), none, none, some (.aload_n 0, 1), some (.getfield 18, 3), none, none, some (.aload_n 0, 1), some (.getfield 21, 3), none, none, some (.iload_n 3, 1), some (.invokestatic 47, 3), none, none, some (.aload_n 0, 1), some (.dup, 1), some (.getfield 21, 3), none, none, some (.iconst 1, 1), some (.iadd, 1), some (.putfield 21, 3), none, none, some (.return_, 1)]]
def jmM_X6_note : jm_Meth := (⟨"PaperLand$Prints", "note", "(III)V"⟩, prog_8_method_7_code, 5, none, 6, false, jmI_X6_note, [], [])
def jmI_X7_init : jm_Ins := [[some (.aload_n 0, 1), some (.invokespecial 3, 3), none, none, some (.aload_n 0, 1), some (.iconst (-1), 1), some (.putfield 9, 3), none, none, some (.aload_n 0, 1), some (.aload_n 1, 1), some (.putfield 15, 3), none, none, some (.return_, 1)]]
def jmM_X7_init : jm_Meth := (⟨"PaperLand$Reader", "<init>", "(LPaperLand$Bytes;)V"⟩, prog_9_method_1_code, 2, none, 7, false, jmI_X7_init, [], [])
def jmI_X7_begin : jm_Ins := [[some (.aload_n 0, 1), some (.iconst 0, 1), some (.putfield 19, 3), none, none, some (.aload_n 0, 1), some (.iconst (-1), 1), some (.putfield 9, 3), none, none, some (.aload_n 0, 1), some (.iconst 0, 1), some (.putfield 22, 3), none, none, some (.aload_n 0, 1), some (.invokevirtual 25, 3), none, none, some (.return_, 1)]]
def jmM_X7_begin : jm_Meth := (⟨"PaperLand$Reader", "begin", "()V"⟩, prog_9_method_2_code, 1, none, 7, false, jmI_X7_begin, [], [])
def jmI_X7_advance : jm_Ins := [[some (.aload_n 0, 1), some (.getfield 22, 3), none, none, some (.aload_n 0, 1), some (.getfield 15, 3), none, none, some (.getfield 28, 3), none, none, some (.if_icmp .ge 33, 3), none, none, some (.aload_n 0, 1), some (.getfield 15, 3), none, none, some (.aload_n 0, 1), some (.getfield 22, 3), none, none, some (.invokevirtual 33, 3), none, none, some (.invokestatic 37, 3), none, none, some (.ifCond .eq 16, 3), none, none, some (.aload_n 0, 1)],
  [some (.dup, 1), some (.getfield 22, 3), none, none, some (.iconst 1, 1), some (.iadd, 1), some (.putfield 22, 3), none, none, some (.goto (-41), 3), none, none, some (.aload_n 0, 1), some (.aload_n 0, 1), some (.getfield 22, 3), none, none, some (.putfield 41, 3), none, none, some (.aload_n 0, 1), some (.aload_n 0, 1), some (.getfield 15, 3), none, none, some (.aload_n 0, 1), some (.getfield 41, 3), none, none, some (.invokevirtual 33, 3), none, none],
  [some (.putfield 44, 3), none, none, some (.aload_n 0, 1), some (.getfield 44, 3), none, none, some (.iconst (-1), 1), some (.if_icmp .ne 11, 3), none, none, some (.aload_n 0, 1), some (.iconst 0, 1), some (.putfield 47, 3), none, none, some (.goto 172, 3), none, none, some (.aload_n 0, 1), some (.getfield 44, 3), none, none, some (.invokestatic 50, 3), none, none, some (.ifCond .eq 52, 3), none, none, some (.aload_n 0, 1), some (.iconst 1, 1), some (.putfield 47, 3)],
  [none, none, some (.aload_n 0, 1), some (.getfield 22, 3), none, none, some (.aload_n 0, 1), some (.getfield 15, 3), none, none, some (.getfield 28, 3), none, none, some (.if_icmp .ge 143, 3), none, none, some (.aload_n 0, 1), some (.getfield 15, 3), none, none, some (.aload_n 0, 1), some (.getfield 22, 3), none, none, some (.invokevirtual 33, 3), none, none, some (.invokestatic 50, 3), none, none, some (.ifCond .eq 126, 3), none],
  [none, some (.aload_n 0, 1), some (.dup, 1), some (.getfield 22, 3), none, none, some (.iconst 1, 1), some (.iadd, 1), some (.putfield 22, 3), none, none, some (.goto (-41), 3), none, none, some (.aload_n 0, 1), some (.getfield 44, 3), none, none, some (.invokestatic 53, 3), none, none, some (.ifCond .eq 88, 3), none, none, some (.aload_n 0, 1), some (.iconst 2, 1), some (.putfield 47, 3), none, none, some (.aload_n 0, 1), some (.iconst 0, 1), some (.putfield 44, 3)],
  [none, none, some (.aload_n 0, 1), some (.getfield 22, 3), none, none, some (.aload_n 0, 1), some (.getfield 15, 3), none, none, some (.getfield 28, 3), none, none, some (.if_icmp .ge 79, 3), none, none, some (.aload_n 0, 1), some (.getfield 15, 3), none, none, some (.aload_n 0, 1), some (.getfield 22, 3), none, none, some (.invokevirtual 33, 3), none, none, some (.invokestatic 53, 3), none, none, some (.ifCond .eq 62, 3), none],
  [none, some (.aload_n 0, 1), some (.ldc 56, 2), none, some (.bipush 10, 2), none, some (.aload_n 0, 1), some (.getfield 44, 3), none, none, some (.imul, 1), some (.aload_n 0, 1), some (.getfield 15, 3), none, none, some (.aload_n 0, 1), some (.getfield 22, 3), none, none, some (.invokevirtual 33, 3), none, none, some (.iadd, 1), some (.bipush 48, 2), none, some (.isub, 1), some (.invokestatic 57, 3), none, none, some (.putfield 44, 3), none, none],
  [some (.aload_n 0, 1), some (.dup, 1), some (.getfield 22, 3), none, none, some (.iconst 1, 1), some (.iadd, 1), some (.putfield 22, 3), none, none, some (.goto (-72), 3), none, none, some (.aload_n 0, 1), some (.iconst 3, 1), some (.putfield 47, 3), none, none, some (.aload_n 0, 1), some (.dup, 1), some (.getfield 22, 3), none, none, some (.iconst 1, 1), some (.iadd, 1), some (.putfield 22, 3), none, none, some (.return_, 1)]]
def jmM_X7_advance : jm_Meth := (⟨"PaperLand$Reader", "advance", "()V"⟩, prog_9_method_3_code, 1, none, 7, false, jmI_X7_advance, [], [])
def jmI_X7_fail : jm_Ins := [[some (.aload_n 0, 1), some (.iload_n 1, 1), some (.putfield 19, 3), none, none, some (.aload_n 0, 1), some (.aload_n 0, 1), some (.getfield 41, 3), none, none, some (.putfield 9, 3), none, none, some (.iconst 0, 1), some (.ireturn, 1)]]
def jmM_X7_fail : jm_Meth := (⟨"PaperLand$Reader", "fail", "(I)Z"⟩, prog_9_method_4_code, 2, some .boolean, 7, false, jmI_X7_fail, [], [])
def jmI_X7_isWord : jm_Ins := [[some (.aload_n 0, 1), some (.getfield 47, 3), none, none, some (.iconst 1, 1), some (.if_icmp .ne 19, 3), none, none, some (.aload_n 0, 1), some (.getfield 22, 3), none, none, some (.aload_n 0, 1), some (.getfield 41, 3), none, none, some (.isub, 1), some (.aload_n 1, 1), some (.invokevirtual 63, 3), none, none, some (.if_icmp .eq 5, 3), none, none, some (.iconst 0, 1), some (.ireturn, 1), some (.iconst 0, 1), some (.istore_n 2, 1), some (.iload_n 2, 1), some (.aload_n 1, 1), some (.invokevirtual 63, 3), none],
  [none, some (.if_icmp .ge 32, 3), none, none, some (.aload_n 0, 1), some (.getfield 15, 3), none, none, some (.aload_n 0, 1), some (.getfield 41, 3), none, none, some (.iload_n 2, 1), some (.iadd, 1), some (.invokevirtual 33, 3), none, none, some (.aload_n 1, 1), some (.iload_n 2, 1), some (.invokevirtual 68, 3), none, none, some (.if_icmp .eq 5, 3), none, none, some (.iconst 0, 1), some (.ireturn, 1), some (.iinc 2 1, 3), none, none, some (.goto (-34), 3), none],
  [none, some (.iconst 1, 1), some (.ireturn, 1)]]
def jmM_X7_isWord : jm_Meth := (⟨"PaperLand$Reader", "isWord", "(Ljava/lang/String;)Z"⟩, prog_9_method_5_code, 3, some .boolean, 7, false, jmI_X7_isWord, [], [])
def jmI_X7_isSign : jm_Ins := [[some (.aload_n 0, 1), some (.getfield 47, 3), none, none, some (.iconst 3, 1), some (.if_icmp .ne 15, 3), none, none, some (.aload_n 0, 1), some (.getfield 44, 3), none, none, some (.iload_n 1, 1), some (.if_icmp .ne 7, 3), none, none, some (.iconst 1, 1), some (.goto 4, 3), none, none, some (.iconst 0, 1), some (.ireturn, 1)]]
def jmM_X7_isSign : jm_Meth := (⟨"PaperLand$Reader", "isSign", "(C)Z"⟩, prog_9_method_6_code, 2, some .boolean, 7, false, jmI_X7_isSign, [], [])
def jmI_X7_takeSign : jm_Ins := [[some (.aload_n 0, 1), some (.iload_n 1, 1), some (.invokevirtual 72, 3), none, none, some (.ifCond .ne 9, 3), none, none, some (.aload_n 0, 1), some (.iconst 1, 1), some (.invokevirtual 76, 3), none, none, some (.ireturn, 1), some (.aload_n 0, 1), some (.invokevirtual 25, 3), none, none, some (.iconst 1, 1), some (.ireturn, 1)]]
def jmM_X7_takeSign : jm_Meth := (⟨"PaperLand$Reader", "takeSign", "(C)Z"⟩, prog_9_method_7_code, 2, some .boolean, 7, false, jmI_X7_takeSign, [], [])
def jmI_X7_seesName : jm_Ins := [[some (.aload_n 0, 1), some (.getfield 47, 3), none, none, some (.iconst 1, 1), some (.if_icmp .eq 9, 3), none, none, some (.aload_n 0, 1), some (.iconst 1, 1), some (.invokevirtual 76, 3), none, none, some (.ireturn, 1), some (.aload_n 0, 1), some (.getfield 22, 3), none, none, some (.aload_n 0, 1), some (.getfield 41, 3), none, none, some (.isub, 1), some (.bipush 6, 2), none, some (.if_icmp .le 11, 3), none, none, some (.aload_n 0, 1), some (.iconst 2, 1), some (.invokevirtual 76, 3), none],
  [none, some (.ifCond .eq 7, 3), none, none, some (.iconst 1, 1), some (.goto 4, 3), none, none, some (.iconst 0, 1), some (.ireturn, 1)]]
def jmM_X7_seesName : jm_Meth := (⟨"PaperLand$Reader", "seesName", "()Z"⟩, prog_9_method_8_code, 1, some .boolean, 7, false, jmI_X7_seesName, [], [])
def jmI_X7_seesNumber : jm_Ins := [[some (.aload_n 0, 1), some (.getfield 47, 3), none, none, some (.iconst 2, 1), some (.if_icmp .eq 9, 3), none, none, some (.aload_n 0, 1), some (.iconst 1, 1), some (.invokevirtual 76, 3), none, none, some (.ireturn, 1), some (.aload_n 0, 1), some (.getfield 44, 3), none, none, some (.iload_n 1, 1), some (.if_icmp .lt 11, 3), none, none, some (.aload_n 0, 1), some (.getfield 44, 3), none, none, some (.iload_n 2, 1), some (.if_icmp .le 11, 3), none, none, some (.aload_n 0, 1), some (.iconst 2, 1)],
  [some (.invokevirtual 76, 3), none, none, some (.ifCond .eq 7, 3), none, none, some (.iconst 1, 1), some (.goto 4, 3), none, none, some (.iconst 0, 1), some (.ireturn, 1)]]
def jmM_X7_seesNumber : jm_Meth := (⟨"PaperLand$Reader", "seesNumber", "(II)Z"⟩, prog_9_method_9_code, 3, some .boolean, 7, false, jmI_X7_seesNumber, [], [])
def jmI_X8_init : jm_Ins := [[some (.aload_n 0, 1), some (.invokespecial 3, 3), none, none, some (.aload_n 0, 1), some (.bipush 30, 2), none, some (.newarray .int, 2), none, some (.putfield 9, 3), none, none, some (.aload_n 0, 1), some (.bipush 30, 2), none, some (.newarray .int, 2), none, some (.putfield 15, 3), none, none, some (.aload_n 0, 1), some (.bipush 30, 2), none, some (.newarray .int, 2), none, some (.putfield 18, 3), none, none, some (.aload_n 0, 1), some (.bipush 30, 2), none, some (.newarray .int, 2)],
  [none, some (.putfield 21, 3), none, none, some (.aload_n 0, 1), some (.bipush 30, 2), none, some (.newarray .int, 2), none, some (.putfield 24, 3), none, none, some (.return_, 1)]]
def jmM_X8_init : jm_Meth := (⟨"PaperLand$Script", "<init>", "()V"⟩, prog_10_method_1_code, 1, none, 8, false, jmI_X8_init, [], [])
def jmI_X9_init : jm_Ins := [[some (.aload_n 0, 1), some (.invokespecial 3, 3), none, none, some (.aload_n 0, 1), some (.bipush 6, 2), none, some (.newarray .int, 2), none, some (.putfield 9, 3), none, none, some (.aload_n 0, 1), some (.bipush 10, 2), none, some (.newarray .int, 2), none, some (.putfield 15, 3), none, none, some (.aload_n 0, 1), some (.bipush 10, 2), none, some (.newarray .int, 2), none, some (.putfield 18, 3), none, none, some (.aload_n 0, 1), some (.bipush 10, 2), none, some (.newarray .int, 2)],
  [none, some (.putfield 21, 3), none, none, some (.return_, 1)]]
def jmM_X9_init : jm_Meth := (⟨"PaperLand$Series", "<init>", "()V"⟩, prog_11_method_1_code, 1, none, 9, false, jmI_X9_init, [], [])
def jmI_X9_copyFrom : jm_Ins := [[some (.aload_n 0, 1), some (.aload_n 1, 1), some (.getfield 24, 3), none, none, some (.putfield 24, 3), none, none, some (.aload_n 1, 1), some (.getfield 9, 3), none, none, some (.iconst 0, 1), some (.aload_n 0, 1), some (.getfield 9, 3), none, none, some (.iconst 0, 1), some (.bipush 6, 2), none, some (.invokestatic 28, 3), none, none, some (.aload_n 1, 1), some (.getfield 15, 3), none, none, some (.iconst 0, 1), some (.aload_n 0, 1), some (.getfield 15, 3), none, none],
  [some (.iconst 0, 1), some (.bipush 10, 2), none, some (.invokestatic 28, 3), none, none, some (.aload_n 1, 1), some (.getfield 18, 3), none, none, some (.iconst 0, 1), some (.aload_n 0, 1), some (.getfield 18, 3), none, none, some (.iconst 0, 1), some (.bipush 10, 2), none, some (.invokestatic 28, 3), none, none, some (.aload_n 1, 1), some (.getfield 21, 3), none, none, some (.iconst 0, 1), some (.aload_n 0, 1), some (.getfield 21, 3), none, none, some (.iconst 0, 1), some (.bipush 10, 2)],
  [none, some (.invokestatic 28, 3), none, none, some (.return_, 1)]]
def jmM_X9_copyFrom : jm_Meth := (⟨"PaperLand$Series", "copyFrom", "(LPaperLand$Series;)V"⟩, prog_11_method_2_code, 2, none, 9, false, jmI_X9_copyFrom, [], [])
def jmI_X9_setName : jm_Ins := [[some (.aload_n 0, 1), some (.iconst 0, 1), some (.bipush 6, 2), none, some (.iload_n 3, 1), some (.invokestatic 34, 3), none, none, some (.invokestatic 40, 3), none, none, some (.putfield 24, 3), none, none, some (.iconst 0, 1), some (.istore 4, 2), none, some (.iload 4, 2), none, some (.aload_n 0, 1), some (.getfield 24, 3), none, none, some (.if_icmp .ge 24, 3), none, none, some (.aload_n 0, 1), some (.getfield 9, 3), none, none, some (.iload 4, 2), none],
  [some (.aload_n 1, 1), some (.iload_n 2, 1), some (.iload 4, 2), none, some (.iadd, 1), some (.invokevirtual 43, 3), none, none, some (.iastore, 1), some (.iinc 4 1, 3), none, none, some (.goto (-27), 3), none, none, some (.return_, 1)]]
def jmM_X9_setName : jm_Meth := (⟨"PaperLand$Series", "setName", "(LPaperLand$Bytes;II)V"⟩, prog_11_method_3_code, 5, none, 9, false, jmI_X9_setName, [], [])
def jmI_X9_hasName : jm_Ins := [[some (.iload_n 3, 1), some (.aload_n 0, 1), some (.getfield 24, 3), none, none, some (.if_icmp .eq 5, 3), none, none, some (.iconst 0, 1), some (.ireturn, 1), some (.iconst 0, 1), some (.istore 4, 2), none, some (.iload 4, 2), none, some (.aload_n 0, 1), some (.getfield 24, 3), none, none, some (.if_icmp .ge 31, 3), none, none, some (.aload_n 0, 1), some (.getfield 9, 3), none, none, some (.iload 4, 2), none, some (.invokestatic 49, 3), none, none, some (.aload_n 1, 1)],
  [some (.iload_n 2, 1), some (.iload 4, 2), none, some (.iadd, 1), some (.invokevirtual 43, 3), none, none, some (.if_icmp .eq 5, 3), none, none, some (.iconst 0, 1), some (.ireturn, 1), some (.iinc 4 1, 3), none, none, some (.goto (-34), 3), none, none, some (.iconst 1, 1), some (.ireturn, 1)]]
def jmM_X9_hasName : jm_Meth := (⟨"PaperLand$Series", "hasName", "(LPaperLand$Bytes;II)Z"⟩, prog_11_method_4_code, 5, some .boolean, 9, false, jmI_X9_hasName, [], [])
def jmI_X9_setSides : jm_Ins := [[some (.iload_n 1, 1), some (.istore_n 3, 1), some (.iload_n 2, 1), some (.istore 4, 2), none, some (.iconst 0, 1), some (.istore 5, 2), none, some (.iload 5, 2), none, some (.bipush 10, 2), none, some (.if_icmp .ge 67, 3), none, none, some (.aload_n 0, 1), some (.getfield 15, 3), none, none, some (.iload 5, 2), none, some (.iload_n 3, 1), some (.iastore, 1), some (.aload_n 0, 1), some (.getfield 18, 3), none, none, some (.iload 5, 2), none, some (.iload 4, 2), none, some (.iastore, 1)],
  [some (.aload_n 0, 1), some (.getfield 21, 3), none, none, some (.iload 5, 2), none, some (.iconst 0, 1), some (.iastore, 1), some (.iload 4, 2), none, some (.iload_n 3, 1), some (.if_icmp .lt 12, 3), none, none, some (.iload 4, 2), none, some (.iconst 2, 1), some (.idiv, 1), some (.istore 4, 2), none, some (.goto 7, 3), none, none, some (.iload_n 3, 1), some (.iconst 2, 1), some (.idiv, 1), some (.istore_n 3, 1), some (.iload_n 3, 1), some (.ifCond .eq 8, 3), none, none, some (.iload 4, 2)],
  [none, some (.ifCond .ne 8, 3), none, none, some (.iconst 0, 1), some (.istore_n 3, 1), some (.iconst 0, 1), some (.istore 4, 2), none, some (.iinc 5 1, 3), none, none, some (.goto (-68), 3), none, none, some (.return_, 1)]]
def jmM_X9_setSides : jm_Meth := (⟨"PaperLand$Series", "setSides", "(II)V"⟩, prog_11_method_6_code, 6, none, 9, false, jmI_X9_setSides, [], [])
def jmI_X9_isVoid : jm_Ins := [[some (.iload_n 1, 1), some (.ifCond .lt 18, 3), none, none, some (.iload_n 1, 1), some (.bipush 10, 2), none, some (.if_icmp .ge 12, 3), none, none, some (.aload_n 0, 1), some (.getfield 15, 3), none, none, some (.iload_n 1, 1), some (.iaload, 1), some (.ifCond .ne 7, 3), none, none, some (.iconst 1, 1), some (.goto 4, 3), none, none, some (.iconst 0, 1), some (.ireturn, 1)]]
def jmM_X9_isVoid : jm_Meth := (⟨"PaperLand$Series", "isVoid", "(I)Z"⟩, prog_11_method_7_code, 2, some .boolean, 9, false, jmI_X9_isVoid, [], [])
def jmI_X9_wideAt : jm_Ins := [[some (.iload_n 1, 1), some (.ifCond .lt 18, 3), none, none, some (.iload_n 1, 1), some (.bipush 10, 2), none, some (.if_icmp .ge 12, 3), none, none, some (.aload_n 0, 1), some (.getfield 15, 3), none, none, some (.iload_n 1, 1), some (.iaload, 1), some (.goto 4, 3), none, none, some (.iconst 0, 1), some (.ireturn, 1)]]
def jmM_X9_wideAt : jm_Meth := (⟨"PaperLand$Series", "wideAt", "(I)I"⟩, prog_11_method_8_code, 2, some .int, 9, false, jmI_X9_wideAt, [], [])
def jmI_X9_highAt : jm_Ins := [[some (.iload_n 1, 1), some (.ifCond .lt 18, 3), none, none, some (.iload_n 1, 1), some (.bipush 10, 2), none, some (.if_icmp .ge 12, 3), none, none, some (.aload_n 0, 1), some (.getfield 18, 3), none, none, some (.iload_n 1, 1), some (.iaload, 1), some (.goto 4, 3), none, none, some (.iconst 0, 1), some (.ireturn, 1)]]
def jmM_X9_highAt : jm_Meth := (⟨"PaperLand$Series", "highAt", "(I)I"⟩, prog_11_method_9_code, 2, some .int, 9, false, jmI_X9_highAt, [], [])
def jmI_X9_areaAt : jm_Ins := [[some (.iload_n 1, 1), some (.ifCond .lt 25, 3), none, none, some (.iload_n 1, 1), some (.bipush 10, 2), none, some (.if_icmp .ge 19, 3), none, none, some (.aload_n 0, 1), some (.getfield 15, 3), none, none, some (.iload_n 1, 1), some (.iaload, 1), some (.aload_n 0, 1), some (.getfield 18, 3), none, none, some (.iload_n 1, 1), some (.iaload, 1), some (.imul, 1), some (.goto 4, 3), none, none, some (.iconst 0, 1), some (.ireturn, 1)]]
def jmM_X9_areaAt : jm_Meth := (⟨"PaperLand$Series", "areaAt", "(I)I"⟩, prog_11_method_12_code, 2, some .int, 9, false, jmI_X9_areaAt, [], [])
def jmI_X9_sheetsAt : jm_Ins := [[some (.iload_n 1, 1), some (.ifCond .lt 18, 3), none, none, some (.iload_n 1, 1), some (.bipush 10, 2), none, some (.if_icmp .ge 12, 3), none, none, some (.aload_n 0, 1), some (.getfield 21, 3), none, none, some (.iload_n 1, 1), some (.iaload, 1), some (.goto 4, 3), none, none, some (.iconst 0, 1), some (.ireturn, 1)]]
def jmM_X9_sheetsAt : jm_Meth := (⟨"PaperLand$Series", "sheetsAt", "(I)I"⟩, prog_11_method_13_code, 2, some .int, 9, false, jmI_X9_sheetsAt, [], [])
def jmI_X9_addSheets : jm_Ins := [[some (.iload_n 1, 1), some (.ifCond .lt 19, 3), none, none, some (.iload_n 1, 1), some (.bipush 10, 2), none, some (.if_icmp .ge 13, 3), none, none, some (.aload_n 0, 1), some (.getfield 21, 3), none, none, some (.iload_n 1, 1), some (.dup2, 1), some (.iaload, 1), some (.iload_n 2, 1), some (.iadd, 1), some (.iastore, 1), some (.return_, 1)]]
def jmM_X9_addSheets : jm_Meth := (⟨"PaperLand$Series", "addSheets", "(II)V"⟩, prog_11_method_14_code, 3, none, 9, false, jmI_X9_addSheets, [], [])
def jmI_X9_stripAt : jm_Ins := [[some (.aload_n 0, 1), some (.iload_n 1, 1), some (.iconst 1, 1), some (.iadd, 1), some (.invokevirtual 59, 3), none, none, some (.ifCond .eq 7, 3), none, none, some (.iconst (-1), 1), some (.goto 18, 3), none, none, some (.aload_n 0, 1), some (.iload_n 1, 1), some (.invokevirtual 63, 3), none, none, some (.iconst 2, 1), some (.aload_n 0, 1), some (.iload_n 1, 1), some (.iconst 1, 1), some (.iadd, 1), some (.invokevirtual 63, 3), none, none, some (.imul, 1), some (.isub, 1), some (.ireturn, 1)]]
def jmM_X9_stripAt : jm_Meth := (⟨"PaperLand$Series", "stripAt", "(I)I"⟩, prog_11_method_15_code, 2, some .int, 9, false, jmI_X9_stripAt, [], [])
def jmI_X9_supplyAt : jm_Ins := [[some (.aload_n 0, 1), some (.iload_n 1, 1), some (.invokevirtual 59, 3), none, none, some (.ifCond .eq 5, 3), none, none, some (.iconst 0, 1), some (.ireturn, 1), some (.iconst 0, 1), some (.istore_n 2, 1), some (.iconst 0, 1), some (.istore_n 3, 1), some (.iload_n 3, 1), some (.iload_n 1, 1), some (.if_icmp .gt 25, 3), none, none, some (.sipush 9999, 3), none, none, some (.aload_n 0, 1), some (.iload_n 3, 1), some (.invokevirtual 66, 3), none, none, some (.iconst 2, 1), some (.iload_n 2, 1), some (.imul, 1), some (.iadd, 1), some (.invokestatic 34, 3)],
  [none, none, some (.istore_n 2, 1), some (.iinc 3 1, 3), none, none, some (.goto (-24), 3), none, none, some (.iload_n 2, 1), some (.ireturn, 1)]]
def jmM_X9_supplyAt : jm_Meth := (⟨"PaperLand$Series", "supplyAt", "(I)I"⟩, prog_11_method_16_code, 4, some .int, 9, false, jmI_X9_supplyAt, [], [])
def jmI_X9_foldsAt : jm_Ins := [[some (.aload_n 0, 1), some (.iload_n 1, 1), some (.invokevirtual 59, 3), none, none, some (.ifCond .eq 5, 3), none, none, some (.iconst (-1), 1), some (.ireturn, 1), some (.iconst 0, 1), some (.istore_n 2, 1), some (.iload_n 2, 1), some (.iconst 5, 1), some (.if_icmp .ge 21, 3), none, none, some (.aload_n 0, 1), some (.iload_n 1, 1), some (.iload_n 2, 1), some (.iadd, 1), some (.iconst 1, 1), some (.iadd, 1), some (.invokevirtual 59, 3), none, none, some (.ifCond .ne 9, 3), none, none, some (.iinc 2 1, 3), none, none],
  [some (.goto (-20), 3), none, none, some (.iload_n 2, 1), some (.ireturn, 1)]]
def jmM_X9_foldsAt : jm_Meth := (⟨"PaperLand$Series", "foldsAt", "(I)I"⟩, prog_11_method_17_code, 3, some .int, 9, false, jmI_X9_foldsAt, [], [])
def jmI_X9_fits : jm_Ins := [[some (.aload_n 0, 1), some (.iload_n 1, 1), some (.invokevirtual 53, 3), none, none, some (.iload 4, 2), none, some (.invokestatic 69, 3), none, none, some (.istore 5, 2), none, some (.aload_n 0, 1), some (.iload_n 1, 1), some (.invokevirtual 56, 3), none, none, some (.iload 4, 2), none, some (.invokestatic 69, 3), none, none, some (.istore 6, 2), none, some (.iload_n 2, 1), some (.iload 5, 2), none, some (.if_icmp .gt 9, 3), none, none, some (.iload_n 3, 1), some (.iload 6, 2)],
  [none, some (.if_icmp .le 15, 3), none, none, some (.iload_n 2, 1), some (.iload 6, 2), none, some (.if_icmp .gt 13, 3), none, none, some (.iload_n 3, 1), some (.iload 5, 2), none, some (.if_icmp .gt 7, 3), none, none, some (.iconst 1, 1), some (.goto 4, 3), none, none, some (.iconst 0, 1), some (.ireturn, 1)]]
def jmM_X9_fits : jm_Meth := (⟨"PaperLand$Series", "fits", "(IIII)Z"⟩, prog_11_method_18_code, 7, some .boolean, 9, false, jmI_X9_fits, [], [])
def jmI_X10_init : jm_Ins := [[some (.aload_n 0, 1), some (.invokespecial 3, 3), none, none, some (.aload_n 0, 1), some (.bipush 10, 2), none, some (.newarray .boolean, 2), none, some (.putfield 9, 3), none, none, some (.aload_n 0, 1), some (.aload_n 1, 1), some (.putfield 15, 3), none, none, some (.return_, 1)]]
def jmM_X10_init : jm_Meth := (⟨"PaperLand$SetupReader", "<init>", "(LPaperLand$Reader;)V"⟩, prog_12_method_1_code, 2, none, 10, false, jmI_X10_init, [], [])
def jmI_X10_readInto : jm_Ins := [[some (.aload_n 0, 1), some (.getfield 15, 3), none, none, some (.invokevirtual 19, 3), none, none, some (.aload_n 1, 1), some (.invokevirtual 24, 3), none, none, some (.aload_n 0, 1), some (.aload_n 1, 1), some (.invokevirtual 27, 3), none, none, some (.ifCond .ne 5, 3), none, none, some (.iconst 0, 1), some (.ireturn, 1), some (.iconst 0, 1), some (.istore_n 2, 1), some (.iload_n 2, 1), some (.iconst 5, 1), some (.if_icmp .gt 41, 3), none, none, some (.aload_n 0, 1), some (.getfield 15, 3), none, none],
  [some (.getfield 31, 3), none, none, some (.ifCond .eq 31, 3), none, none, some (.aload_n 0, 1), some (.getfield 15, 3), none, none, some (.bipush 59, 2), none, some (.invokevirtual 35, 3), none, none, some (.ifCond .eq 11, 3), none, none, some (.aload_n 0, 1), some (.aload_n 1, 1), some (.invokevirtual 39, 3), none, none, some (.ifCond .ne 5, 3), none, none, some (.iconst 0, 1), some (.ireturn, 1), some (.iinc 2 1, 3), none, none, some (.goto (-40), 3)],
  [none, none, some (.aload_n 1, 1), some (.getfield 42, 3), none, none, some (.iconst 0, 1), some (.aload_n 1, 1), some (.invokevirtual 46, 3), none, none, some (.lastore, 1), some (.iconst 1, 1), some (.ireturn, 1)]]
def jmM_X10_readInto : jm_Meth := (⟨"PaperLand$SetupReader", "readInto", "(LPaperLand$Land;)Z"⟩, prog_12_method_2_code, 3, some .boolean, 10, false, jmI_X10_readInto, [], [])
def jmI_X10_readHead : jm_Ins := [[some (.aload_n 0, 1), some (.getfield 15, 3), none, none, some (.ldc 50, 2), none, some (.invokevirtual 52, 3), none, none, some (.ifCond .ne 12, 3), none, none, some (.aload_n 0, 1), some (.getfield 15, 3), none, none, some (.iconst 1, 1), some (.invokevirtual 56, 3), none, none, some (.ireturn, 1), some (.aload_n 0, 1), some (.getfield 15, 3), none, none, some (.invokevirtual 60, 3), none, none, some (.aload_n 0, 1), some (.getfield 15, 3), none, none],
  [some (.iconst 0, 1), some (.bipush 50, 2), none, some (.invokevirtual 63, 3), none, none, some (.ifCond .ne 5, 3), none, none, some (.iconst 0, 1), some (.ireturn, 1), some (.aload_n 1, 1), some (.aload_n 0, 1), some (.getfield 15, 3), none, none, some (.getfield 67, 3), none, none, some (.putfield 70, 3), none, none, some (.aload_n 0, 1), some (.getfield 15, 3), none, none, some (.invokevirtual 60, 3), none, none, some (.aload_n 0, 1), some (.getfield 15, 3), none],
  [none, some (.iconst 1, 1), some (.sipush 500, 3), none, none, some (.invokevirtual 63, 3), none, none, some (.ifCond .ne 5, 3), none, none, some (.iconst 0, 1), some (.ireturn, 1), some (.aload_n 1, 1), some (.aload_n 0, 1), some (.getfield 15, 3), none, none, some (.getfield 67, 3), none, none, some (.putfield 73, 3), none, none, some (.aload_n 0, 1), some (.getfield 15, 3), none, none, some (.invokevirtual 60, 3), none, none, some (.iconst 1, 1)],
  [some (.ireturn, 1)]]
def jmM_X10_readHead : jm_Meth := (⟨"PaperLand$SetupReader", "readHead", "(LPaperLand$Land;)Z"⟩, prog_12_method_3_code, 2, some .boolean, 10, false, jmI_X10_readHead, [], [])
def jmI_X10_readSeries : jm_Ins := [[some (.aload_n 0, 1), some (.getfield 15, 3), none, none, some (.ldc 76, 2), none, some (.invokevirtual 52, 3), none, none, some (.ifCond .ne 12, 3), none, none, some (.aload_n 0, 1), some (.getfield 15, 3), none, none, some (.iconst 1, 1), some (.invokevirtual 56, 3), none, none, some (.ireturn, 1), some (.aload_n 1, 1), some (.getfield 78, 3), none, none, some (.iconst 5, 1), some (.if_icmp .lt 12, 3), none, none, some (.aload_n 0, 1), some (.getfield 15, 3), none],
  [none, some (.iconst 4, 1), some (.invokevirtual 56, 3), none, none, some (.ireturn, 1), some (.aload_n 1, 1), some (.getfield 81, 3), none, none, some (.aload_n 1, 1), some (.getfield 78, 3), none, none, some (.aaload, 1), some (.astore_n 2, 1), some (.aload_n 0, 1), some (.getfield 15, 3), none, none, some (.invokevirtual 60, 3), none, none, some (.aload_n 0, 1), some (.getfield 15, 3), none, none, some (.invokevirtual 84, 3), none, none, some (.ifCond .ne 5, 3), none],
  [none, some (.iconst 0, 1), some (.ireturn, 1), some (.aload_n 0, 1), some (.getfield 15, 3), none, none, some (.getfield 88, 3), none, none, some (.istore_n 3, 1), some (.aload_n 0, 1), some (.getfield 15, 3), none, none, some (.getfield 91, 3), none, none, some (.iload_n 3, 1), some (.isub, 1), some (.istore 4, 2), none, some (.aload_n 1, 1), some (.aload_n 0, 1), some (.getfield 15, 3), none, none, some (.getfield 94, 3), none, none, some (.iload_n 3, 1), some (.iload 4, 2)],
  [none, some (.invokevirtual 98, 3), none, none, some (.iconst (-1), 1), some (.if_icmp .eq 12, 3), none, none, some (.aload_n 0, 1), some (.getfield 15, 3), none, none, some (.iconst 3, 1), some (.invokevirtual 56, 3), none, none, some (.ireturn, 1), some (.aload_n 0, 1), some (.getfield 15, 3), none, none, some (.invokevirtual 60, 3), none, none, some (.aload_n 0, 1), some (.getfield 15, 3), none, none, some (.iconst 1, 1), some (.sipush 2000, 3), none, none],
  [some (.invokevirtual 63, 3), none, none, some (.ifCond .ne 5, 3), none, none, some (.iconst 0, 1), some (.ireturn, 1), some (.aload_n 0, 1), some (.getfield 15, 3), none, none, some (.getfield 67, 3), none, none, some (.istore 5, 2), none, some (.aload_n 0, 1), some (.getfield 15, 3), none, none, some (.invokevirtual 60, 3), none, none, some (.aload_n 0, 1), some (.getfield 15, 3), none, none, some (.iconst 1, 1), some (.sipush 2000, 3), none, none],
  [some (.invokevirtual 63, 3), none, none, some (.ifCond .ne 5, 3), none, none, some (.iconst 0, 1), some (.ireturn, 1), some (.aload_n 1, 1), some (.aload_n 0, 1), some (.getfield 15, 3), none, none, some (.getfield 94, 3), none, none, some (.iload_n 3, 1), some (.iload 4, 2), none, some (.iload 5, 2), none, some (.aload_n 0, 1), some (.getfield 15, 3), none, none, some (.getfield 67, 3), none, none, some (.invokevirtual 102, 3), none, none, some (.aload_n 0, 1)],
  [some (.getfield 15, 3), none, none, some (.invokevirtual 60, 3), none, none, some (.aload_n 0, 1), some (.aload_n 2, 1), some (.invokevirtual 106, 3), none, none, some (.ireturn, 1)]]
def jmM_X10_readSeries : jm_Meth := (⟨"PaperLand$SetupReader", "readSeries", "(LPaperLand$Land;)Z"⟩, prog_12_method_4_code, 6, some .boolean, 10, false, jmI_X10_readSeries, [], [])
def jmI_X10_readSizes : jm_Ins := [[some (.iconst 0, 1), some (.istore_n 2, 1), some (.iload_n 2, 1), some (.bipush 10, 2), none, some (.if_icmp .ge 16, 3), none, none, some (.aload_n 0, 1), some (.getfield 9, 3), none, none, some (.iload_n 2, 1), some (.iconst 0, 1), some (.bastore, 1), some (.iinc 2 1, 3), none, none, some (.goto (-16), 3), none, none, some (.iconst 0, 1), some (.istore_n 2, 1), some (.iload_n 2, 1), some (.bipush 10, 2), none, some (.if_icmp .gt 38, 3), none, none, some (.aload_n 0, 1), some (.getfield 15, 3), none],
  [none, some (.ldc 110, 2), none, some (.invokevirtual 52, 3), none, none, some (.ifCond .eq 26, 3), none, none, some (.aload_n 0, 1), some (.getfield 15, 3), none, none, some (.invokevirtual 60, 3), none, none, some (.aload_n 0, 1), some (.aload_n 1, 1), some (.invokevirtual 112, 3), none, none, some (.ifCond .ne 5, 3), none, none, some (.iconst 0, 1), some (.ireturn, 1), some (.iinc 2 1, 3), none, none, some (.goto (-38), 3), none, none],
  [some (.iconst 1, 1), some (.ireturn, 1)]]
def jmM_X10_readSizes : jm_Meth := (⟨"PaperLand$SetupReader", "readSizes", "(LPaperLand$Series;)Z"⟩, prog_12_method_5_code, 3, some .boolean, 10, false, jmI_X10_readSizes, [], [])
def jmI_X10_readStack : jm_Ins := [[some (.aload_n 0, 1), some (.getfield 15, 3), none, none, some (.iconst 0, 1), some (.bipush 9, 2), none, some (.invokevirtual 63, 3), none, none, some (.ifCond .ne 5, 3), none, none, some (.iconst 0, 1), some (.ireturn, 1), some (.aload_n 0, 1), some (.getfield 15, 3), none, none, some (.getfield 67, 3), none, none, some (.istore_n 2, 1), some (.aload_n 0, 1), some (.getfield 9, 3), none, none, some (.iload_n 2, 1), some (.baload, 1), some (.ifCond .ne 11, 3), none, none],
  [some (.aload_n 1, 1), some (.iload_n 2, 1), some (.invokevirtual 115, 3), none, none, some (.ifCond .eq 12, 3), none, none, some (.aload_n 0, 1), some (.getfield 15, 3), none, none, some (.iconst 3, 1), some (.invokevirtual 56, 3), none, none, some (.ireturn, 1), some (.aload_n 0, 1), some (.getfield 9, 3), none, none, some (.iload_n 2, 1), some (.iconst 1, 1), some (.bastore, 1), some (.aload_n 0, 1), some (.getfield 15, 3), none, none, some (.invokevirtual 60, 3), none, none, some (.aload_n 0, 1)],
  [some (.getfield 15, 3), none, none, some (.iconst 0, 1), some (.sipush 9999, 3), none, none, some (.invokevirtual 63, 3), none, none, some (.ifCond .ne 5, 3), none, none, some (.iconst 0, 1), some (.ireturn, 1), some (.aload_n 1, 1), some (.iload_n 2, 1), some (.aload_n 0, 1), some (.getfield 15, 3), none, none, some (.getfield 67, 3), none, none, some (.invokevirtual 120, 3), none, none, some (.aload_n 0, 1), some (.getfield 15, 3), none, none, some (.invokevirtual 60, 3)],
  [none, none, some (.iconst 1, 1), some (.ireturn, 1)]]
def jmM_X10_readStack : jm_Meth := (⟨"PaperLand$SetupReader", "readStack", "(LPaperLand$Series;)Z"⟩, prog_12_method_6_code, 3, some .boolean, 10, false, jmI_X10_readStack, [], [])
def jmI_X11_init : jm_Ins := [[some (.aload_n 0, 1), some (.invokespecial 1, 3), none, none, some (.aload_n 0, 1), some (.new 7, 3), none, none, some (.dup, 1), some (.sipush 600, 3), none, none, some (.invokespecial 11, 3), none, none, some (.putfield 14, 3), none, none, some (.aload_n 0, 1), some (.new 7, 3), none, none, some (.dup, 1), some (.sipush 650, 3), none, none, some (.invokespecial 11, 3), none, none, some (.putfield 18, 3), none, none],
  [some (.aload_n 0, 1), some (.new 21, 3), none, none, some (.dup, 1), some (.aload_n 0, 1), some (.getfield 14, 3), none, none, some (.invokespecial 23, 3), none, none, some (.putfield 26, 3), none, none, some (.aload_n 0, 1), some (.new 30, 3), none, none, some (.dup, 1), some (.aload_n 0, 1), some (.getfield 26, 3), none, none, some (.invokespecial 32, 3), none, none, some (.putfield 35, 3), none, none, some (.aload_n 0, 1), some (.new 39, 3)],
  [none, none, some (.dup, 1), some (.invokespecial 41, 3), none, none, some (.putfield 42, 3), none, none, some (.aload_n 0, 1), some (.new 46, 3), none, none, some (.dup, 1), some (.invokespecial 48, 3), none, none, some (.putfield 49, 3), none, none, some (.aload_n 0, 1), some (.new 46, 3), none, none, some (.dup, 1), some (.invokespecial 48, 3), none, none, some (.putfield 53, 3), none, none, some (.aload_n 0, 1)],
  [some (.new 56, 3), none, none, some (.dup, 1), some (.invokespecial 58, 3), none, none, some (.putfield 59, 3), none, none, some (.aload_n 0, 1), some (.iconst 2, 1), some (.anewarray 46, 3), none, none, some (.putfield 63, 3), none, none, some (.aload_n 0, 1), some (.iconst 2, 1), some (.newarray .boolean, 2), none, some (.putfield 67, 3), none, none, some (.aload_n 0, 1), some (.bipush 6, 2), none, some (.newarray .int, 2), none, some (.putfield 71, 3), none],
  [none, some (.aload_n 0, 1), some (.new 75, 3), none, none, some (.dup, 1), some (.invokespecial 77, 3), none, none, some (.putfield 78, 3), none, none, some (.aload_n 0, 1), some (.new 82, 3), none, none, some (.dup, 1), some (.invokespecial 84, 3), none, none, some (.putfield 85, 3), none, none, some (.iconst 0, 1), some (.istore_n 1, 1), some (.iload_n 1, 1), some (.iconst 2, 1), some (.if_icmp .ge 22, 3), none, none, some (.aload_n 0, 1), some (.getfield 63, 3)],
  [none, none, some (.iload_n 1, 1), some (.new 46, 3), none, none, some (.dup, 1), some (.invokespecial 48, 3), none, none, some (.aastore, 1), some (.iinc 1 1, 3), none, none, some (.goto (-21), 3), none, none, some (.iconst 0, 1), some (.istore_n 1, 1), some (.iload_n 1, 1), some (.ldc 89, 2), none, some (.invokevirtual 91, 3), none, none, some (.if_icmp .ge 22, 3), none, none, some (.aload_n 0, 1), some (.getfield 14, 3), none, none],
  [some (.ldc 89, 2), none, some (.iload_n 1, 1), some (.invokevirtual 97, 3), none, none, some (.invokevirtual 101, 3), none, none, some (.iinc 1 1, 3), none, none, some (.goto (-25), 3), none, none, some (.aload_n 0, 1), some (.invokevirtual 104, 3), none, none, some (.pop, 1), some (.return_, 1)]]
def jmM_X11_init : jm_Meth := (⟨"PaperLand", "<init>", "()V"⟩, prog_1_method_1_code, 2, none, 11, false, jmI_X11_init, [], [])
def jmI_X11_append : jm_Ins := [[some (.aload_n 0, 1), some (.getfield 14, 3), none, none, some (.bipush 20, 2), none, some (.invokevirtual 108, 3), none, none, some (.ifCond .ne 13, 3), none, none, some (.new 112, 3), none, none, some (.dup, 1), some (.ldc 114, 2), none, some (.invokespecial 116, 3), none, none, some (.athrow, 1), some (.aload_n 0, 1), some (.getfield 14, 3), none, none, some (.iload_n 1, 1), some (.invokevirtual 119, 3), none, none, some (.aload_n 0, 1), some (.getfield 14, 3)],
  [none, none, some (.iload_n 2, 1), some (.invokevirtual 119, 3), none, none, some (.aload_n 0, 1), some (.getfield 14, 3), none, none, some (.iload_n 3, 1), some (.invokevirtual 119, 3), none, none, some (.aload_n 0, 1), some (.getfield 14, 3), none, none, some (.iload 4, 2), none, some (.invokevirtual 119, 3), none, none, some (.aload_n 0, 1), some (.getfield 14, 3), none, none, some (.iload 5, 2), none, some (.invokevirtual 119, 3), none, none],
  [some (.aload_n 0, 1), some (.getfield 14, 3), none, none, some (.getfield 122, 3), none, none, some (.ireturn, 1)]]
def jmM_X11_append : jm_Meth := (⟨"PaperLand", "append", "(IIIII)I"⟩, prog_1_method_2_code, 6, some .int, 11, false, jmI_X11_append, [(12, "java/lang/IllegalStateException")], [])
def jmI_X11_truncate : jm_Ins := [[some (.iload_n 1, 1), some (.ifCond .lt 18, 3), none, none, some (.iload_n 1, 1), some (.aload_n 0, 1), some (.getfield 14, 3), none, none, some (.getfield 122, 3), none, none, some (.if_icmp .gt 7, 3), none, none, some (.iconst 1, 1), some (.goto 4, 3), none, none, some (.iconst 0, 1), some (.invokestatic 125, 3), none, none, some (.aload_n 0, 1), some (.getfield 14, 3), none, none, some (.iload_n 1, 1), some (.invokevirtual 129, 3), none, none, some (.aload_n 0, 1)],
  [some (.getfield 14, 3), none, none, some (.getfield 122, 3), none, none, some (.ireturn, 1)]]
def jmM_X11_truncate : jm_Meth := (⟨"PaperLand", "truncate", "(I)I"⟩, prog_1_method_3_code, 2, some .int, 11, false, jmI_X11_truncate, [], [])
def jmI_X11_load : jm_Ins := [[some (.aload_n 0, 1), some (.invokevirtual 104, 3), none, none, some (.ifCond .eq 13, 3), none, none, some (.aload_n 0, 1), some (.getfield 49, 3), none, none, some (.getfield 132, 3), none, none, some (.goto 4, 3), none, none, some (.iconst (-1), 1), some (.ireturn, 1)]]
def jmM_X11_load : jm_Meth := (⟨"PaperLand", "load", "()I"⟩, prog_1_method_4_code, 1, some .int, 11, false, jmI_X11_load, [], [])
def jmI_X11_errorCode : jm_Ins := [[some (.aload_n 0, 1), some (.getfield 26, 3), none, none, some (.getfield 153, 3), none, none, some (.ireturn, 1)]]
def jmM_X11_errorCode : jm_Meth := (⟨"PaperLand", "errorCode", "()I"⟩, prog_1_method_6_code, 1, some .int, 11, false, jmI_X11_errorCode, [], [])
def jmI_X11_readSetup : jm_Ins := [[some (.aload_n 0, 1), some (.getfield 35, 3), none, none, some (.aload_n 0, 1), some (.getfield 53, 3), none, none, some (.invokevirtual 159, 3), none, none, some (.istore_n 1, 1), some (.aload_n 0, 1), some (.getfield 14, 3), none, none, some (.iconst 0, 1), some (.invokevirtual 129, 3), none, none, some (.iload_n 1, 1), some (.ifCond .eq 25, 3), none, none, some (.aload_n 0, 1), some (.getfield 49, 3), none, none, some (.aload_n 0, 1), some (.getfield 53, 3), none, none],
  [some (.invokevirtual 163, 3), none, none, some (.aload_n 0, 1), some (.getfield 59, 3), none, none, some (.invokevirtual 166, 3), none, none, some (.aload_n 0, 1), some (.invokevirtual 169, 3), none, none, some (.iload_n 1, 1), some (.ireturn, 1)]]
def jmM_X11_readSetup : jm_Meth := (⟨"PaperLand", "readSetup", "()Z"⟩, prog_1_method_8_code, 2, some .boolean, 11, false, jmI_X11_readSetup, [], [])
def jmI_X11_forgetSlotsAndRefusals : jm_Ins := [[some (.iconst 0, 1), some (.istore_n 1, 1), some (.iload_n 1, 1), some (.iconst 2, 1), some (.if_icmp .ge 16, 3), none, none, some (.aload_n 0, 1), some (.getfield 67, 3), none, none, some (.iload_n 1, 1), some (.iconst 0, 1), some (.bastore, 1), some (.iinc 1 1, 3), none, none, some (.goto (-15), 3), none, none, some (.iconst 0, 1), some (.istore_n 1, 1), some (.iload_n 1, 1), some (.bipush 6, 2), none, some (.if_icmp .ge 16, 3), none, none, some (.aload_n 0, 1), some (.getfield 71, 3), none, none],
  [some (.iload_n 1, 1), some (.iconst 0, 1), some (.iastore, 1), some (.iinc 1 1, 3), none, none, some (.goto (-16), 3), none, none, some (.return_, 1)]]
def jmM_X11_forgetSlotsAndRefusals : jm_Meth := (⟨"PaperLand", "forgetSlotsAndRefusals", "()V"⟩, prog_1_method_9_code, 2, none, 11, false, jmI_X11_forgetSlotsAndRefusals, [], [])
def jmI_X11_count : jm_Ins := [[some (.iload_n 1, 1), some (.tableswitch 102 0 6 #[43, 51, 59, 67, 75, 83, 94], 43), none, none, none, none, none, none, none, none, none, none, none, none, none, none, none, none, none, none, none, none, none, none, none, none, none, none, none, none, none, none],
  [none, none, none, none, none, none, none, none, none, none, none, none, some (.aload_n 0, 1), some (.getfield 49, 3), none, none, some (.getfield 132, 3), none, none, some (.ireturn, 1), some (.aload_n 0, 1), some (.getfield 49, 3), none, none, some (.invokevirtual 227, 3), none, none, some (.ireturn, 1), some (.aload_n 0, 1), some (.getfield 49, 3), none, none],
  [some (.invokevirtual 230, 3), none, none, some (.ireturn, 1), some (.aload_n 0, 1), some (.getfield 49, 3), none, none, some (.getfield 233, 3), none, none, some (.ireturn, 1), some (.aload_n 0, 1), some (.getfield 49, 3), none, none, some (.getfield 236, 3), none, none, some (.ireturn, 1), some (.aload_n 0, 1), some (.getfield 49, 3), none, none, some (.getfield 239, 3), none, none, some (.getfield 243, 3), none, none, some (.ireturn, 1), some (.aload_n 0, 1)],
  [some (.getfield 59, 3), none, none, some (.getfield 248, 3), none, none, some (.ireturn, 1), some (.new 251, 3), none, none, some (.dup, 1), some (.ldc 253, 2), none, some (.invokespecial 255, 3), none, none, some (.athrow, 1)]]
def jmM_X11_count : jm_Meth := (⟨"PaperLand", "count", "(I)I"⟩, prog_1_method_13_code, 2, some .int, 11, false, jmI_X11_count, [(103, "java/lang/IllegalArgumentException")], [])
def jmI_X11_size : jm_Ins := [[some (.aload_n 0, 1), some (.iload_n 1, 1), some (.iload_n 2, 1), some (.invokevirtual 268, 3), none, none, some (.aload_n 0, 1), some (.getfield 49, 3), none, none, some (.getfield 259, 3), none, none, some (.iload_n 1, 1), some (.aaload, 1), some (.astore 4, 2), none, some (.iload_n 3, 1), some (.tableswitch 174 0 9 #[54, 61, 68, 75, 82, 111, 118, 135, 152, 159], 54), none, none, none, none, none, none, none, none, none, none, none, none, none],
  [none, none, none, none, none, none, none, none, none, none, none, none, none, none, none, none, none, none, none, none, none, none, none, none, none, none, none, none, none, none, none, none],
  [none, none, none, none, none, none, none, none, some (.aload 4, 2), none, some (.iload_n 2, 1), some (.invokevirtual 272, 3), none, none, some (.ireturn, 1), some (.aload 4, 2), none, some (.iload_n 2, 1), some (.invokevirtual 275, 3), none, none, some (.ireturn, 1), some (.aload 4, 2), none, some (.iload_n 2, 1), some (.invokevirtual 278, 3), none, none, some (.ireturn, 1), some (.aload 4, 2), none, some (.iload_n 2, 1)],
  [some (.invokevirtual 281, 3), none, none, some (.ireturn, 1), some (.aload_n 0, 1), some (.getfield 49, 3), none, none, some (.getfield 236, 3), none, none, some (.ifCond .le 20, 3), none, none, some (.aload 4, 2), none, some (.iload_n 2, 1), some (.invokevirtual 281, 3), none, none, some (.aload_n 0, 1), some (.getfield 49, 3), none, none, some (.getfield 236, 3), none, none, some (.idiv, 1), some (.goto 4, 3), none, none, some (.iconst 0, 1)],
  [some (.ireturn, 1), some (.aload 4, 2), none, some (.iload_n 2, 1), some (.invokevirtual 284, 3), none, none, some (.ireturn, 1), some (.aload 4, 2), none, some (.iload_n 2, 1), some (.invokevirtual 272, 3), none, none, some (.aload_n 0, 1), some (.getfield 49, 3), none, none, some (.getfield 233, 3), none, none, some (.invokestatic 287, 3), none, none, some (.ireturn, 1), some (.aload 4, 2), none, some (.iload_n 2, 1), some (.invokevirtual 275, 3), none, none, some (.aload_n 0, 1)],
  [some (.getfield 49, 3), none, none, some (.getfield 233, 3), none, none, some (.invokestatic 287, 3), none, none, some (.ireturn, 1), some (.aload 4, 2), none, some (.iload_n 2, 1), some (.invokevirtual 290, 3), none, none, some (.ireturn, 1), some (.aload 4, 2), none, some (.iload_n 2, 1), some (.invokevirtual 293, 3), none, none, some (.ifCond .eq 7, 3), none, none, some (.iconst 1, 1), some (.goto 4, 3), none, none, some (.iconst 0, 1), some (.ireturn, 1)],
  [some (.new 251, 3), none, none, some (.dup, 1), some (.ldc 253, 2), none, some (.invokespecial 255, 3), none, none, some (.athrow, 1)]]
def jmM_X11_size : jm_Meth := (⟨"PaperLand", "size", "(III)I"⟩, prog_1_method_15_code, 5, some .int, 11, false, jmI_X11_size, [(192, "java/lang/IllegalArgumentException")], [])
def jmI_X11_account : jm_Ins := [[some (.iload_n 1, 1), some (.ifCond .lt 13, 3), none, none, some (.iload_n 1, 1), some (.bipush 8, 2), none, some (.if_icmp .ge 7, 3), none, none, some (.iconst 1, 1), some (.goto 4, 3), none, none, some (.iconst 0, 1), some (.invokestatic 125, 3), none, none, some (.aload_n 0, 1), some (.getfield 49, 3), none, none, some (.getfield 311, 3), none, none, some (.iload_n 1, 1), some (.laload, 1), some (.invokestatic 315, 3), none, none, some (.ireturn, 1)]]
def jmM_X11_account : jm_Meth := (⟨"PaperLand", "account", "(I)I"⟩, prog_1_method_21_code, 2, some .int, 11, false, jmI_X11_account, [], [])
def jmI_X11_gap : jm_Ins := [[some (.aload_n 0, 1), some (.getfield 49, 3), none, none, some (.getfield 311, 3), none, none, some (.iconst 1, 1), some (.laload, 1), some (.aload_n 0, 1), some (.getfield 49, 3), none, none, some (.getfield 311, 3), none, none, some (.iconst 2, 1), some (.laload, 1), some (.ladd, 1), some (.aload_n 0, 1), some (.getfield 49, 3), none, none, some (.getfield 311, 3), none, none, some (.iconst 3, 1), some (.laload, 1), some (.ladd, 1), some (.lstore_n 1, 1), some (.aload_n 0, 1), some (.getfield 49, 3)],
  [none, none, some (.getfield 311, 3), none, none, some (.iconst 0, 1), some (.laload, 1), some (.lload_n 1, 1), some (.lsub, 1), some (.aload_n 0, 1), some (.getfield 49, 3), none, none, some (.invokevirtual 319, 3), none, none, some (.lsub, 1), some (.invokestatic 323, 3), none, none, some (.lreturn, 1)]]
def jmM_X11_gap : jm_Meth := (⟨"PaperLand", "gap", "()J"⟩, prog_1_method_23_code, 3, some .long, 11, false, jmI_X11_gap, [], [])
def jmI_X11_mostFolds : jm_Ins := [[some (.aload_n 0, 1), some (.iload_n 1, 1), some (.iload_n 2, 1), some (.invokevirtual 268, 3), none, none, some (.aload_n 0, 1), some (.getfield 49, 3), none, none, some (.getfield 259, 3), none, none, some (.iload_n 1, 1), some (.aaload, 1), some (.iload_n 2, 1), some (.invokevirtual 332, 3), none, none, some (.ireturn, 1)]]
def jmM_X11_mostFolds : jm_Meth := (⟨"PaperLand", "mostFolds", "(II)I"⟩, prog_1_method_26_code, 3, some .int, 11, false, jmI_X11_mostFolds, [], [])
def jmI_X11_grid : jm_Ins := [[some (.aload_n 0, 1), some (.iload_n 1, 1), some (.iload_n 2, 1), some (.iload_n 3, 1), some (.invokevirtual 335, 3), none, none, some (.iload 4, 2), none, some (.ifCond .eq 13, 3), none, none, some (.aload_n 0, 1), some (.getfield 85, 3), none, none, some (.getfield 339, 3), none, none, some (.goto 10, 3), none, none, some (.aload_n 0, 1), some (.getfield 85, 3), none, none, some (.getfield 342, 3), none, none, some (.ireturn, 1)]]
def jmM_X11_grid : jm_Meth := (⟨"PaperLand", "grid", "(IIIZ)I"⟩, prog_1_method_27_code, 5, some .int, 11, false, jmI_X11_grid, [], [])
def jmI_X11_page : jm_Ins := [[some (.aload_n 0, 1), some (.iload_n 1, 1), some (.iload_n 2, 1), some (.iload_n 3, 1), some (.invokevirtual 335, 3), none, none, some (.aload_n 0, 1), some (.getfield 85, 3), none, none, some (.iload 4, 2), none, some (.iload 5, 2), none, some (.invokevirtual 345, 3), none, none, some (.ifCond .ne 14, 3), none, none, some (.new 348, 3), none, none, some (.dup, 1), some (.ldc_w 350, 3), none, none, some (.invokespecial 352, 3), none, none, some (.athrow, 1)],
  [some (.aload_n 0, 1), some (.getfield 85, 3), none, none, some (.iload 4, 2), none, some (.iload 5, 2), none, some (.iload 6, 2), none, some (.invokevirtual 353, 3), none, none, some (.ireturn, 1)]]
def jmM_X11_page : jm_Meth := (⟨"PaperLand", "page", "(IIIIIZ)I"⟩, prog_1_method_28_code, 7, some .int, 11, false, jmI_X11_page, [(21, "java/lang/IndexOutOfBoundsException")], [])
def jmI_X11_pageGap : jm_Ins := [[some (.aload_n 0, 1), some (.iload_n 1, 1), some (.iload_n 2, 1), some (.iload_n 3, 1), some (.invokevirtual 335, 3), none, none, some (.aload_n 0, 1), some (.getfield 85, 3), none, none, some (.invokevirtual 362, 3), none, none, some (.ireturn, 1)]]
def jmM_X11_pageGap : jm_Meth := (⟨"PaperLand", "pageGap", "(III)I"⟩, prog_1_method_30_code, 4, some .int, 11, false, jmI_X11_pageGap, [], [])
def jmI_X11_foldSheet : jm_Ins := [[some (.aload_n 0, 1), some (.iload_n 1, 1), some (.iload_n 2, 1), some (.invokevirtual 268, 3), none, none, some (.aload_n 0, 1), some (.getfield 49, 3), none, none, some (.getfield 259, 3), none, none, some (.iload_n 1, 1), some (.aaload, 1), some (.astore 4, 2), none, some (.iload_n 3, 1), some (.ifCond .lt 17, 3), none, none, some (.iload_n 3, 1), some (.aload 4, 2), none, some (.iload_n 2, 1), some (.invokevirtual 332, 3), none, none, some (.if_icmp .gt 7, 3), none, none, some (.iconst 1, 1)],
  [some (.goto 4, 3), none, none, some (.iconst 0, 1), some (.invokestatic 125, 3), none, none, some (.aload_n 0, 1), some (.getfield 85, 3), none, none, some (.aload 4, 2), none, some (.iload_n 2, 1), some (.iload_n 3, 1), some (.invokevirtual 365, 3), none, none, some (.return_, 1)]]
def jmM_X11_foldSheet : jm_Meth := (⟨"PaperLand", "foldSheet", "(III)V"⟩, prog_1_method_31_code, 5, none, 11, false, jmI_X11_foldSheet, [], [])
def jmI_X11_fitting : jm_Ins := [[some (.iload_n 1, 1), some (.invokestatic 302, 3), none, none, some (.ifCond .eq 14, 3), none, none, some (.iload_n 2, 1), some (.invokestatic 302, 3), none, none, some (.ifCond .eq 7, 3), none, none, some (.iconst 1, 1), some (.goto 4, 3), none, none, some (.iconst 0, 1), some (.invokestatic 125, 3), none, none, some (.aload_n 0, 1), some (.getfield 78, 3), none, none, some (.aload_n 0, 1), some (.getfield 49, 3), none, none, some (.iload_n 1, 1), some (.iload_n 2, 1)],
  [some (.iconst 1, 1), some (.invokevirtual 369, 3), none, none, some (.aload_n 0, 1), some (.getfield 78, 3), none, none, some (.getfield 373, 3), none, none, some (.ireturn, 1)]]
def jmM_X11_fitting : jm_Meth := (⟨"PaperLand", "fitting", "(II)I"⟩, prog_1_method_32_code, 3, some .int, 11, false, jmI_X11_fitting, [], [])
def jmI_X11_nearest : jm_Ins := [[some (.iload_n 1, 1), some (.iload_n 2, 1), some (.iload_n 3, 1), some (.invokestatic 376, 3), none, none, some (.aload_n 0, 1), some (.getfield 78, 3), none, none, some (.aload_n 0, 1), some (.getfield 49, 3), none, none, some (.iload_n 1, 1), some (.iload_n 2, 1), some (.iload_n 3, 1), some (.invokevirtual 369, 3), none, none, some (.aload_n 0, 1), some (.getfield 78, 3), none, none, some (.getfield 379, 3), none, none, some (.ifCond .ne 13, 3), none, none, some (.aload_n 0, 1), some (.getfield 78, 3)],
  [none, none, some (.invokevirtual 382, 3), none, none, some (.goto 4, 3), none, none, some (.iconst (-1), 1), some (.ireturn, 1)]]
def jmM_X11_nearest : jm_Meth := (⟨"PaperLand", "nearest", "(III)I"⟩, prog_1_method_33_code, 4, some .int, 11, false, jmI_X11_nearest, [], [])
def jmI_X11_buy : jm_Ins := [[some (.aload_n 0, 1), some (.iload_n 1, 1), some (.iload_n 2, 1), some (.invokevirtual 268, 3), none, none, some (.iload_n 3, 1), some (.iconst 1, 1), some (.if_icmp .lt 13, 3), none, none, some (.iload_n 3, 1), some (.bipush 99, 2), none, some (.if_icmp .gt 7, 3), none, none, some (.iconst 1, 1), some (.goto 4, 3), none, none, some (.iconst 0, 1), some (.invokestatic 125, 3), none, none, some (.aload_n 0, 1), some (.iload_n 1, 1), some (.iload_n 2, 1), some (.iload_n 3, 1), some (.iconst 1, 1), some (.invokevirtual 207, 3), none],
  [none, some (.ireturn, 1)]]
def jmM_X11_buy : jm_Meth := (⟨"PaperLand", "buy", "(III)I"⟩, prog_1_method_39_code, 4, some .int, 11, false, jmI_X11_buy, [], [])
def jmI_X11_cut : jm_Ins := [[some (.aload_n 0, 1), some (.iload_n 1, 1), some (.iload_n 2, 1), some (.invokevirtual 268, 3), none, none, some (.iload_n 3, 1), some (.iconst 1, 1), some (.if_icmp .lt 14, 3), none, none, some (.iload_n 3, 1), some (.sipush 9999, 3), none, none, some (.if_icmp .gt 7, 3), none, none, some (.iconst 1, 1), some (.goto 4, 3), none, none, some (.iconst 0, 1), some (.invokestatic 125, 3), none, none, some (.aload_n 0, 1), some (.iload_n 1, 1), some (.iload_n 2, 1), some (.iload_n 3, 1), some (.iconst 1, 1), some (.invokevirtual 214, 3)],
  [none, none, some (.ireturn, 1)]]
def jmM_X11_cut : jm_Meth := (⟨"PaperLand", "cut", "(III)I"⟩, prog_1_method_40_code, 4, some .int, 11, false, jmI_X11_cut, [], [])
def jmI_X11_order : jm_Ins := [[some (.iload_n 1, 1), some (.iload_n 2, 1), some (.iload_n 3, 1), some (.invokestatic 376, 3), none, none, some (.aload_n 0, 1), some (.iload_n 1, 1), some (.iload_n 2, 1), some (.iload_n 3, 1), some (.iconst 1, 1), some (.invokevirtual 217, 3), none, none, some (.ireturn, 1)]]
def jmM_X11_order : jm_Meth := (⟨"PaperLand", "order", "(III)I"⟩, prog_1_method_41_code, 4, some .int, 11, false, jmI_X11_order, [], [])
def jmI_X11_setEdge : jm_Ins := [[some (.iload_n 1, 1), some (.ifCond .lt 13, 3), none, none, some (.iload_n 1, 1), some (.bipush 50, 2), none, some (.if_icmp .gt 7, 3), none, none, some (.iconst 1, 1), some (.goto 4, 3), none, none, some (.iconst 0, 1), some (.invokestatic 125, 3), none, none, some (.aload_n 0, 1), some (.iload_n 1, 1), some (.iconst 1, 1), some (.invokevirtual 220, 3), none, none, some (.ireturn, 1)]]
def jmM_X11_setEdge : jm_Meth := (⟨"PaperLand", "setEdge", "(I)I"⟩, prog_1_method_42_code, 2, some .int, 11, false, jmI_X11_setEdge, [], [])
def jmI_X11_doBuy : jm_Ins := [[some (.aload_n 0, 1), some (.getfield 49, 3), none, none, some (.iload_n 1, 1), some (.iload_n 2, 1), some (.iload_n 3, 1), some (.invokevirtual 429, 3), none, none, some (.istore 5, 2), none, some (.iload 5, 2), none, some (.ifCond .eq 10, 3), none, none, some (.aload_n 0, 1), some (.iload 5, 2), none, some (.invokevirtual 211, 3), none, none, some (.ireturn, 1), some (.iload 4, 2), none, some (.ifCond .eq 14, 3), none, none, some (.aload_n 0, 1), some (.getfield 59, 3), none],
  [none, some (.aload_n 0, 1), some (.getfield 49, 3), none, none, some (.invokevirtual 139, 3), none, none, some (.aload_n 0, 1), some (.getfield 49, 3), none, none, some (.iload_n 1, 1), some (.iload_n 2, 1), some (.iload_n 3, 1), some (.invokevirtual 433, 3), none, none, some (.ireturn, 1)]]
def jmM_X11_doBuy : jm_Meth := (⟨"PaperLand", "doBuy", "(IIIZ)I"⟩, prog_1_method_44_code, 6, some .int, 11, false, jmI_X11_doBuy, [], [])
def jmI_X11_doCut : jm_Ins := [[some (.aload_n 0, 1), some (.getfield 49, 3), none, none, some (.iload_n 1, 1), some (.iload_n 2, 1), some (.iload_n 3, 1), some (.invokevirtual 436, 3), none, none, some (.istore 5, 2), none, some (.iload 5, 2), none, some (.ifCond .eq 10, 3), none, none, some (.aload_n 0, 1), some (.iload 5, 2), none, some (.invokevirtual 211, 3), none, none, some (.ireturn, 1), some (.iload 4, 2), none, some (.ifCond .eq 14, 3), none, none, some (.aload_n 0, 1), some (.getfield 59, 3), none],
  [none, some (.aload_n 0, 1), some (.getfield 49, 3), none, none, some (.invokevirtual 139, 3), none, none, some (.aload_n 0, 1), some (.getfield 49, 3), none, none, some (.iload_n 1, 1), some (.iload_n 2, 1), some (.iload_n 3, 1), some (.invokevirtual 439, 3), none, none, some (.ireturn, 1)]]
def jmM_X11_doCut : jm_Meth := (⟨"PaperLand", "doCut", "(IIIZ)I"⟩, prog_1_method_45_code, 6, some .int, 11, false, jmI_X11_doCut, [], [])
def jmI_X11_doPrintOrder : jm_Ins := [[some (.aload_n 0, 1), some (.getfield 78, 3), none, none, some (.aload_n 0, 1), some (.getfield 49, 3), none, none, some (.iload_n 1, 1), some (.iload_n 2, 1), some (.iload_n 3, 1), some (.invokevirtual 369, 3), none, none, some (.aload_n 0, 1), some (.getfield 78, 3), none, none, some (.getfield 379, 3), none, none, some (.ifCond .eq 18, 3), none, none, some (.aload_n 0, 1), some (.bipush (-5), 2), none, some (.aload_n 0, 1), some (.getfield 78, 3), none, none, some (.getfield 379, 3)],
  [none, none, some (.isub, 1), some (.invokevirtual 211, 3), none, none, some (.ireturn, 1), some (.iload 4, 2), none, some (.ifCond .eq 14, 3), none, none, some (.aload_n 0, 1), some (.getfield 59, 3), none, none, some (.aload_n 0, 1), some (.getfield 49, 3), none, none, some (.invokevirtual 139, 3), none, none, some (.aload_n 0, 1), some (.getfield 49, 3), none, none, some (.aload_n 0, 1), some (.getfield 78, 3), none, none, some (.invokevirtual 442, 3)],
  [none, none, some (.aload_n 0, 1), some (.getfield 78, 3), none, none, some (.invokevirtual 382, 3), none, none, some (.ireturn, 1)]]
def jmM_X11_doPrintOrder : jm_Meth := (⟨"PaperLand", "doPrintOrder", "(IIIZ)I"⟩, prog_1_method_46_code, 5, some .int, 11, false, jmI_X11_doPrintOrder, [], [])
def jmI_X11_doSetEdge : jm_Ins := [[some (.aload_n 0, 1), some (.getfield 49, 3), none, none, some (.getfield 233, 3), none, none, some (.istore_n 3, 1), some (.iload_n 2, 1), some (.ifCond .eq 14, 3), none, none, some (.aload_n 0, 1), some (.getfield 59, 3), none, none, some (.aload_n 0, 1), some (.getfield 49, 3), none, none, some (.invokevirtual 139, 3), none, none, some (.aload_n 0, 1), some (.getfield 49, 3), none, none, some (.iload_n 1, 1), some (.putfield 233, 3), none, none, some (.iload_n 3, 1)],
  [some (.ireturn, 1)]]
def jmM_X11_doSetEdge : jm_Meth := (⟨"PaperLand", "doSetEdge", "(IZ)I"⟩, prog_1_method_47_code, 4, some .int, 11, false, jmI_X11_doSetEdge, [], [])
def jmI_X11_refuse : jm_Ins := [[some (.bipush (-2), 2), none, some (.iload_n 1, 1), some (.isub, 1), some (.istore_n 2, 1), some (.iload_n 2, 1), some (.ifCond .lt 19, 3), none, none, some (.iload_n 2, 1), some (.bipush 6, 2), none, some (.if_icmp .ge 13, 3), none, none, some (.aload_n 0, 1), some (.getfield 71, 3), none, none, some (.iload_n 2, 1), some (.dup2, 1), some (.iaload, 1), some (.iconst 1, 1), some (.iadd, 1), some (.iastore, 1), some (.iload_n 1, 1), some (.ireturn, 1)]]
def jmM_X11_refuse : jm_Meth := (⟨"PaperLand", "refuse", "(I)I"⟩, prog_1_method_49_code, 3, some .int, 11, false, jmI_X11_refuse, [], [])
def jmI_X11_require : jm_Ins := [[some (.iload_n 0, 1), some (.ifCond .ne 14, 3), none, none, some (.new 251, 3), none, none, some (.dup, 1), some (.ldc_w 463, 3), none, none, some (.invokespecial 255, 3), none, none, some (.athrow, 1), some (.return_, 1)]]
def jmM_X11_require : jm_Meth := (⟨"PaperLand", "require", "(Z)V"⟩, prog_1_method_56_code, 1, none, 11, true, jmI_X11_require, [(4, "java/lang/IllegalArgumentException")], [])
def jmI_X11_requireOrder : jm_Ins := [[some (.iload_n 0, 1), some (.invokestatic 302, 3), none, none, some (.ifCond .eq 26, 3), none, none, some (.iload_n 1, 1), some (.invokestatic 302, 3), none, none, some (.ifCond .eq 19, 3), none, none, some (.iload_n 2, 1), some (.iconst 1, 1), some (.if_icmp .lt 14, 3), none, none, some (.iload_n 2, 1), some (.sipush 999, 3), none, none, some (.if_icmp .gt 7, 3), none, none, some (.iconst 1, 1), some (.goto 4, 3), none, none, some (.iconst 0, 1), some (.invokestatic 125, 3)],
  [none, none, some (.return_, 1)]]
def jmM_X11_requireOrder : jm_Meth := (⟨"PaperLand", "requireOrder", "(III)V"⟩, prog_1_method_57_code, 3, none, 11, true, jmI_X11_requireOrder, [], [])
def jmI_X11_requireSize : jm_Ins := [[some (.aload_n 0, 1), some (.getfield 49, 3), none, none, some (.iload_n 1, 1), some (.invokevirtual 204, 3), none, none, some (.ifCond .eq 13, 3), none, none, some (.iload_n 2, 1), some (.ifCond .lt 9, 3), none, none, some (.iload_n 2, 1), some (.bipush 10, 2), none, some (.if_icmp .lt 14, 3), none, none, some (.new 348, 3), none, none, some (.dup, 1), some (.ldc_w 467, 3), none, none, some (.invokespecial 352, 3), none, none, some (.athrow, 1)],
  [some (.return_, 1)]]
def jmM_X11_requireSize : jm_Meth := (⟨"PaperLand", "requireSize", "(II)V"⟩, prog_1_method_59_code, 3, none, 11, false, jmI_X11_requireSize, [(21, "java/lang/IndexOutOfBoundsException")], [])
def jmI_X11_isSide : jm_Ins := [[some (.iload_n 0, 1), some (.iconst 1, 1), some (.if_icmp .lt 14, 3), none, none, some (.iload_n 0, 1), some (.sipush 2000, 3), none, none, some (.if_icmp .gt 7, 3), none, none, some (.iconst 1, 1), some (.goto 4, 3), none, none, some (.iconst 0, 1), some (.ireturn, 1)]]
def jmM_X11_isSide : jm_Meth := (⟨"PaperLand", "isSide", "(I)Z"⟩, prog_1_method_61_code, 1, some .boolean, 11, true, jmI_X11_isSide, [], [])
def jmI_X11_usable : jm_Ins := [[some (.iload_n 0, 1), some (.iconst 2, 1), some (.iload_n 1, 1), some (.imul, 1), some (.if_icmp .le 11, 3), none, none, some (.iload_n 0, 1), some (.iconst 2, 1), some (.iload_n 1, 1), some (.imul, 1), some (.isub, 1), some (.goto 4, 3), none, none, some (.iconst 0, 1), some (.ireturn, 1)]]
def jmM_X11_usable : jm_Meth := (⟨"PaperLand", "usable", "(II)I"⟩, prog_1_method_62_code, 2, some .int, 11, true, jmI_X11_usable, [], [])
def jmI_X11_capped : jm_Ins := [[some (.ldc2_w 471, 3), none, none, some (.lload_n 0, 1), some (.invokestatic 473, 3), none, none, some (.l2i, 1), some (.ireturn, 1)]]
def jmM_X11_capped : jm_Meth := (⟨"PaperLand", "capped", "(J)I"⟩, prog_1_method_63_code, 2, some .int, 11, true, jmI_X11_capped, [], [])
def jmI_X11_isLetter : jm_Ins := [[some (.iload_n 0, 1), some (.bipush 97, 2), none, some (.if_icmp .lt 13, 3), none, none, some (.iload_n 0, 1), some (.bipush 122, 2), none, some (.if_icmp .gt 7, 3), none, none, some (.iconst 1, 1), some (.goto 4, 3), none, none, some (.iconst 0, 1), some (.ireturn, 1)]]
def jmM_X11_isLetter : jm_Meth := (⟨"PaperLand", "isLetter", "(I)Z"⟩, prog_1_method_64_code, 1, some .boolean, 11, true, jmI_X11_isLetter, [], [])
def jmI_X11_isDigit : jm_Ins := [[some (.iload_n 0, 1), some (.bipush 48, 2), none, some (.if_icmp .lt 13, 3), none, none, some (.iload_n 0, 1), some (.bipush 57, 2), none, some (.if_icmp .gt 7, 3), none, none, some (.iconst 1, 1), some (.goto 4, 3), none, none, some (.iconst 0, 1), some (.ireturn, 1)]]
def jmM_X11_isDigit : jm_Meth := (⟨"PaperLand", "isDigit", "(I)Z"⟩, prog_1_method_65_code, 1, some .boolean, 11, true, jmI_X11_isDigit, [], [])
def jmI_X11_isBlank : jm_Ins := [[some (.iload_n 0, 1), some (.bipush 32, 2), none, some (.if_icmp .eq 9, 3), none, none, some (.iload_n 0, 1), some (.bipush 10, 2), none, some (.if_icmp .ne 7, 3), none, none, some (.iconst 1, 1), some (.goto 4, 3), none, none, some (.iconst 0, 1), some (.ireturn, 1)]]
def jmM_X11_isBlank : jm_Meth := (⟨"PaperLand", "isBlank", "(I)Z"⟩, prog_1_method_66_code, 1, some .boolean, 11, true, jmI_X11_isBlank, [], [])
def jmI_X11_valueAt : jm_Ins := [[some (.iload_n 1, 1), some (.ifCond .lt 15, 3), none, none, some (.iload_n 1, 1), some (.aload_n 0, 1), some (.arraylength, 1), some (.if_icmp .ge 9, 3), none, none, some (.aload_n 0, 1), some (.iload_n 1, 1), some (.iaload, 1), some (.goto 4, 3), none, none, some (.iconst 0, 1), some (.ireturn, 1)]]
def jmM_X11_valueAt : jm_Meth := (⟨"PaperLand", "valueAt", "([II)I"⟩, prog_1_method_67_code, 2, some .int, 11, true, jmI_X11_valueAt, [], [])
def jmI_X11_setAt : jm_Ins := [[some (.iload_n 1, 1), some (.ifCond .lt 13, 3), none, none, some (.iload_n 1, 1), some (.aload_n 0, 1), some (.arraylength, 1), some (.if_icmp .ge 7, 3), none, none, some (.aload_n 0, 1), some (.iload_n 1, 1), some (.iload_n 2, 1), some (.iastore, 1), some (.return_, 1)]]
def jmM_X11_setAt : jm_Meth := (⟨"PaperLand", "setAt", "([III)V"⟩, prog_1_method_68_code, 3, none, 11, true, jmI_X11_setAt, [], [])
def jmI_X12_init : jm_Ins := [[some (.aload_n 0, 1), some (.invokespecial 1, 3), none, none, some (.aload_n 0, 1), some (.bipush 10, 2), none, some (.newarray .int, 2), none, some (.putfield 7, 3), none, none, some (.aload_n 0, 1), some (.bipush 10, 2), none, some (.newarray .int, 2), none, some (.putfield 13, 3), none, none, some (.aload_n 0, 1), some (.bipush 10, 2), none, some (.newarray .int, 2), none, some (.putfield 16, 3), none, none, some (.aload_n 0, 1), some (.getfield 7, 3), none, none],
  [some (.iconst 0, 1), some (.iload_n 1, 1), some (.iastore, 1), some (.aload_n 0, 1), some (.getfield 13, 3), none, none, some (.iconst 0, 1), some (.iload_n 2, 1), some (.iastore, 1), some (.iconst 1, 1), some (.istore_n 3, 1), some (.iload_n 3, 1), some (.bipush 10, 2), none, some (.if_icmp .ge 135, 3), none, none, some (.aload_n 0, 1), some (.getfield 7, 3), none, none, some (.iload_n 3, 1), some (.iconst 1, 1), some (.isub, 1), some (.iaload, 1), some (.aload_n 0, 1), some (.getfield 13, 3), none, none, some (.iload_n 3, 1), some (.iconst 1, 1)],
  [some (.isub, 1), some (.iaload, 1), some (.if_icmp .le 7, 3), none, none, some (.iconst 1, 1), some (.goto 4, 3), none, none, some (.iconst 0, 1), some (.istore 4, 2), none, some (.iload 4, 2), none, some (.ifCond .eq 16, 3), none, none, some (.aload_n 0, 1), some (.getfield 7, 3), none, none, some (.iload_n 3, 1), some (.iconst 1, 1), some (.isub, 1), some (.iaload, 1), some (.iconst 2, 1), some (.idiv, 1), some (.goto 11, 3), none, none, some (.aload_n 0, 1), some (.getfield 7, 3)],
  [none, none, some (.iload_n 3, 1), some (.iconst 1, 1), some (.isub, 1), some (.iaload, 1), some (.istore 5, 2), none, some (.iload 4, 2), none, some (.ifCond .eq 14, 3), none, none, some (.aload_n 0, 1), some (.getfield 13, 3), none, none, some (.iload_n 3, 1), some (.iconst 1, 1), some (.isub, 1), some (.iaload, 1), some (.goto 13, 3), none, none, some (.aload_n 0, 1), some (.getfield 13, 3), none, none, some (.iload_n 3, 1), some (.iconst 1, 1), some (.isub, 1), some (.iaload, 1)],
  [some (.iconst 2, 1), some (.idiv, 1), some (.istore 6, 2), none, some (.aload_n 0, 1), some (.getfield 7, 3), none, none, some (.iload_n 3, 1), some (.iload 5, 2), none, some (.iload 6, 2), none, some (.invokestatic 19, 3), none, none, some (.ifCond .ne 7, 3), none, none, some (.iconst 0, 1), some (.goto 5, 3), none, none, some (.iload 5, 2), none, some (.iastore, 1), some (.aload_n 0, 1), some (.getfield 13, 3), none, none, some (.iload_n 3, 1), some (.iload 5, 2)],
  [none, some (.iload 6, 2), none, some (.invokestatic 19, 3), none, none, some (.ifCond .ne 7, 3), none, none, some (.iconst 0, 1), some (.goto 5, 3), none, none, some (.iload 6, 2), none, some (.iastore, 1), some (.iinc 3 1, 3), none, none, some (.goto (-135), 3), none, none, some (.return_, 1)]]
def jmM_X12_init : jm_Meth := (⟨"PaperLandLaw$Series", "<init>", "(II)V"⟩, prog_14_method_1_code, 7, none, 12, false, jmI_X12_init, [], [])
def jmI_X12_area : jm_Ins := [[some (.aload_n 0, 1), some (.getfield 7, 3), none, none, some (.iload_n 1, 1), some (.iaload, 1), some (.i2l, 1), some (.aload_n 0, 1), some (.getfield 13, 3), none, none, some (.iload_n 1, 1), some (.iaload, 1), some (.i2l, 1), some (.lmul, 1), some (.lreturn, 1)]]
def jmM_X12_area : jm_Meth := (⟨"PaperLandLaw$Series", "area", "(I)J"⟩, prog_14_method_2_code, 2, some .long, 12, false, jmI_X12_area, [], [])
def jmI_X12_canBeCut : jm_Ins := [[some (.iload_n 1, 1), some (.bipush 9, 2), none, some (.if_icmp .ge 19, 3), none, none, some (.aload_n 0, 1), some (.iload_n 1, 1), some (.iconst 1, 1), some (.iadd, 1), some (.invokevirtual 25, 3), none, none, some (.lconst 0, 1), some (.lcmp, 1), some (.ifCond .le 7, 3), none, none, some (.iconst 1, 1), some (.goto 4, 3), none, none, some (.iconst 0, 1), some (.ireturn, 1)]]
def jmM_X12_canBeCut : jm_Meth := (⟨"PaperLandLaw$Series", "canBeCut", "(I)Z"⟩, prog_14_method_3_code, 2, some .boolean, 12, false, jmI_X12_canBeCut, [], [])
def jmI_X12_supply : jm_Ins := [[some (.aload_n 0, 1), some (.iload_n 1, 1), some (.invokevirtual 25, 3), none, none, some (.lconst 0, 1), some (.lcmp, 1), some (.ifCond .ne 7, 3), none, none, some (.iconst 0, 1), some (.goto 33, 3), none, none, some (.sipush 9999, 3), none, none, some (.aload_n 0, 1), some (.getfield 16, 3), none, none, some (.iload_n 1, 1), some (.iaload, 1), some (.iload_n 1, 1), some (.ifCond .ne 7, 3), none, none, some (.iconst 0, 1), some (.goto 12, 3), none, none, some (.iconst 2, 1)],
  [some (.aload_n 0, 1), some (.iload_n 1, 1), some (.iconst 1, 1), some (.isub, 1), some (.invokevirtual 29, 3), none, none, some (.imul, 1), some (.iadd, 1), some (.invokestatic 19, 3), none, none, some (.ireturn, 1)]]
def jmM_X12_supply : jm_Meth := (⟨"PaperLandLaw$Series", "supply", "(I)I"⟩, prog_14_method_4_code, 2, some .int, 12, false, jmI_X12_supply, [], [])
def jmI_X12_fits : jm_Ins := [[some (.iconst 0, 1), some (.aload_n 0, 1), some (.getfield 7, 3), none, none, some (.iload_n 1, 1), some (.iaload, 1), some (.iconst 2, 1), some (.iload_n 2, 1), some (.imul, 1), some (.isub, 1), some (.invokestatic 33, 3), none, none, some (.istore 5, 2), none, some (.iconst 0, 1), some (.aload_n 0, 1), some (.getfield 13, 3), none, none, some (.iload_n 1, 1), some (.iaload, 1), some (.iconst 2, 1), some (.iload_n 2, 1), some (.imul, 1), some (.isub, 1), some (.invokestatic 33, 3), none, none, some (.istore 6, 2), none],
  [some (.iload_n 3, 1), some (.iload 4, 2), none, some (.invokestatic 19, 3), none, none, some (.iload 5, 2), none, some (.iload 6, 2), none, some (.invokestatic 19, 3), none, none, some (.if_icmp .gt 23, 3), none, none, some (.iload_n 3, 1), some (.iload 4, 2), none, some (.invokestatic 33, 3), none, none, some (.iload 5, 2), none, some (.iload 6, 2), none, some (.invokestatic 33, 3), none, none, some (.if_icmp .gt 7, 3), none, none],
  [some (.iconst 1, 1), some (.goto 4, 3), none, none, some (.iconst 0, 1), some (.ireturn, 1)]]
def jmM_X12_fits : jm_Meth := (⟨"PaperLandLaw$Series", "fits", "(IIII)Z"⟩, prog_14_method_5_code, 7, some .boolean, 12, false, jmI_X12_fits, [], [])
def jmI_J5_init_a7421 : jm_Ins := [[some (.aload_n 0, 1), some (.invokespecial 3, 3), none, none, some (.aload_n 1, 1), some (.invokevirtual 32, 3), none, none, some (.istore_n 2, 1), some (.iload_n 2, 1), some (.ldc 38, 2), none, some (.if_icmp .ge 10, 3), none, none, some (.iload_n 2, 1), some (.bipush 16, 2), none, some (.iadd, 1), some (.goto 5, 3), none, none, some (.ldc 39, 2), none, some (.istore_n 3, 1), some (.aload_n 1, 1), some (.invokevirtual 40, 3), none, none, some (.istore 4, 2), none, some (.aload_n 0, 1)],
  [some (.iload 4, 2), none, some (.putfield 22, 3), none, none, some (.aload_n 0, 1), some (.iload 4, 2), none, some (.ifCond .ne 9, 3), none, none, some (.iload_n 3, 1), some (.newarray .byte, 2), none, some (.goto 7, 3), none, none, some (.iload_n 3, 1), some (.invokestatic 26, 3), none, none, some (.putfield 15, 3), none, none, some (.aload_n 0, 1), some (.aload_n 1, 1), some (.invokevirtual 43, 3), none, none, some (.pop, 1), some (.return_, 1)]]
def jmM_J5_init_a7421 : jm_Meth := (⟨"java/lang/AbstractStringBuilder", "<init>", "(Ljava/lang/String;)V"⟩, prog_17_method_3_code, 5, none, 18, false, jmI_J5_init_a7421, [], [])
def jmI_J5_length_8abf5 : jm_Ins := [[some (.aload_n 0, 1), some (.getfield 79, 3), none, none, some (.ireturn, 1)]]
def jmM_J5_length_8abf5 : jm_Meth := (⟨"java/lang/AbstractStringBuilder", "length", "()I"⟩, prog_17_method_6_code, 1, some .int, 18, false, jmI_J5_length_8abf5, [], [])
def jmI_J5_ensureCapacityInternal_d00df : jm_Ins := [[some (.aload_n 0, 1), some (.getfield 15, 3), none, none, some (.arraylength, 1), some (.aload_n 0, 1), some (.getfield 22, 3), none, none, some (.ishr, 1), some (.istore_n 2, 1), some (.iload_n 1, 1), some (.iload_n 2, 1), some (.isub, 1), some (.ifCond .le 24, 3), none, none, some (.aload_n 0, 1), some (.aload_n 0, 1), some (.getfield 15, 3), none, none, some (.aload_n 0, 1), some (.iload_n 1, 1), some (.invokevirtual 104, 3), none, none, some (.aload_n 0, 1), some (.getfield 22, 3), none, none, some (.ishl, 1)],
  [some (.invokestatic 108, 3), none, none, some (.putfield 15, 3), none, none, some (.return_, 1)]]
def jmM_J5_ensureCapacityInternal_d00df : jm_Meth := (⟨"java/lang/AbstractStringBuilder", "ensureCapacityInternal", "(I)V"⟩, prog_17_method_9_code, 3, none, 18, false, jmI_J5_ensureCapacityInternal_d00df, [], [])
def jmI_J5_newCapacity_0f7a4 : jm_Ins := [[some (.aload_n 0, 1), some (.getfield 15, 3), none, none, some (.arraylength, 1), some (.istore_n 2, 1), some (.iload_n 1, 1), some (.aload_n 0, 1), some (.getfield 22, 3), none, none, some (.ishl, 1), some (.istore_n 3, 1), some (.iload_n 3, 1), some (.iload_n 2, 1), some (.isub, 1), some (.istore 4, 2), none, some (.iload_n 2, 1), some (.iload 4, 2), none, some (.iload_n 2, 1), some (.iconst 2, 1), some (.aload_n 0, 1), some (.getfield 22, 3), none, none, some (.ishl, 1), some (.iadd, 1), some (.invokestatic 114, 3), none, none],
  [some (.istore 5, 2), none, some (.iload 5, 2), none, some (.ldc 39, 2), none, some (.if_icmp .ne 13, 3), none, none, some (.new 120, 3), none, none, some (.dup, 1), some (.ldc 122, 2), none, some (.invokespecial 124, 3), none, none, some (.athrow, 1), some (.iload 5, 2), none, some (.aload_n 0, 1), some (.getfield 22, 3), none, none, some (.ishr, 1), some (.ireturn, 1)]]
def jmM_J5_newCapacity_0f7a4 : jm_Meth := (⟨"java/lang/AbstractStringBuilder", "newCapacity", "(I)I"⟩, prog_17_method_10_code, 6, some .int, 18, false, jmI_J5_newCapacity_0f7a4, [], [])
def jmI_J5_append_cf1ce : jm_Ins := [[some (.aload_n 1, 1), some (.ifnonnull 8, 3), none, none, some (.aload_n 0, 1), some (.invokevirtual 204, 3), none, none, some (.areturn, 1), some (.aload_n 1, 1), some (.invokevirtual 32, 3), none, none, some (.istore_n 2, 1), some (.aload_n 0, 1), some (.aload_n 0, 1), some (.getfield 79, 3), none, none, some (.iload_n 2, 1), some (.iadd, 1), some (.invokevirtual 100, 3), none, none, some (.aload_n 0, 1), some (.aload_n 0, 1), some (.getfield 79, 3), none, none, some (.aload_n 1, 1), some (.invokevirtual 208, 3), none],
  [none, some (.aload_n 0, 1), some (.dup, 1), some (.getfield 79, 3), none, none, some (.iload_n 2, 1), some (.iadd, 1), some (.putfield 79, 3), none, none, some (.aload_n 0, 1), some (.areturn, 1)]]
def jmM_J5_append_cf1ce : jm_Meth := (⟨"java/lang/AbstractStringBuilder", "append", "(Ljava/lang/String;)Ljava/lang/AbstractStringBuilder;"⟩, prog_17_method_22_code, 3, some (.object "java/lang/AbstractStringBuilder"), 18, false, jmI_J5_append_cf1ce, [], [])
def jmI_J5_append_3fe6f : jm_Ins := [[some (.aload_n 0, 1), some (.aload_n 0, 1), some (.getfield 79, 3), none, none, some (.iconst 1, 1), some (.iadd, 1), some (.invokevirtual 100, 3), none, none, some (.aload_n 0, 1), some (.invokevirtual 83, 3), none, none, some (.ifCond .eq 31, 3), none, none, some (.iload_n 1, 1), some (.invokestatic 191, 3), none, none, some (.ifCond .eq 24, 3), none, none, some (.aload_n 0, 1), some (.getfield 15, 3), none, none, some (.aload_n 0, 1), some (.dup, 1), some (.getfield 79, 3), none],
  [none, some (.dup_x1, 1), some (.iconst 1, 1), some (.iadd, 1), some (.putfield 79, 3), none, none, some (.iload_n 1, 1), some (.i2b, 1), some (.bastore, 1), some (.goto 33, 3), none, none, some (.aload_n 0, 1), some (.invokevirtual 83, 3), none, none, some (.ifCond .eq 7, 3), none, none, some (.aload_n 0, 1), some (.invokevirtual 195, 3), none, none, some (.aload_n 0, 1), some (.getfield 15, 3), none, none, some (.aload_n 0, 1), some (.dup, 1), some (.getfield 79, 3), none],
  [none, some (.dup_x1, 1), some (.iconst 1, 1), some (.iadd, 1), some (.putfield 79, 3), none, none, some (.iload_n 1, 1), some (.invokestatic 197, 3), none, none, some (.aload_n 0, 1), some (.areturn, 1)]]
def jmM_J5_append_3fe6f : jm_Meth := (⟨"java/lang/AbstractStringBuilder", "append", "(C)Ljava/lang/AbstractStringBuilder;"⟩, prog_17_method_31_code, 2, some (.object "java/lang/AbstractStringBuilder"), 18, false, jmI_J5_append_3fe6f, [], [])
def jmI_J5_append_c97b9 : jm_Ins := [[some (.aload_n 0, 1), some (.getfield 79, 3), none, none, some (.istore_n 2, 1), some (.iload_n 2, 1), some (.iload_n 1, 1), some (.invokestatic 245, 3), none, none, some (.iadd, 1), some (.istore_n 3, 1), some (.aload_n 0, 1), some (.iload_n 3, 1), some (.invokevirtual 100, 3), none, none, some (.aload_n 0, 1), some (.invokevirtual 83, 3), none, none, some (.ifCond .eq 16, 3), none, none, some (.iload_n 1, 1), some (.iload_n 3, 1), some (.aload_n 0, 1), some (.getfield 15, 3), none, none, some (.invokestatic 248, 3), none],
  [none, some (.pop, 1), some (.goto 14, 3), none, none, some (.iload_n 1, 1), some (.iload_n 2, 1), some (.iload_n 3, 1), some (.aload_n 0, 1), some (.getfield 15, 3), none, none, some (.invokestatic 251, 3), none, none, some (.pop, 1), some (.aload_n 0, 1), some (.iload_n 3, 1), some (.putfield 79, 3), none, none, some (.aload_n 0, 1), some (.areturn, 1)]]
def jmM_J5_append_c97b9 : jm_Meth := (⟨"java/lang/AbstractStringBuilder", "append", "(I)Ljava/lang/AbstractStringBuilder;"⟩, prog_17_method_32_code, 4, some (.object "java/lang/AbstractStringBuilder"), 18, false, jmI_J5_append_c97b9, [], [])
def jmI_J5_getValue_6d5f1 : jm_Ins := [[some (.aload_n 0, 1), some (.getfield 15, 3), none, none, some (.areturn, 1)]]
def jmM_J5_getValue_6d5f1 : jm_Meth := (⟨"java/lang/AbstractStringBuilder", "getValue", "()[B"⟩, prog_17_method_64_code, 1, some (.array .byte), 18, false, jmI_J5_getValue_6d5f1, [], [])
def jmI_J5_isLatin1_aae02 : jm_Ins := [[some (.getstatic 18, 3), none, none, some (.ifCond .eq 14, 3), none, none, some (.aload_n 0, 1), some (.getfield 22, 3), none, none, some (.ifCond .ne 7, 3), none, none, some (.iconst 1, 1), some (.goto 4, 3), none, none, some (.iconst 0, 1), some (.ireturn, 1)]]
def jmM_J5_isLatin1_aae02 : jm_Meth := (⟨"java/lang/AbstractStringBuilder", "isLatin1", "()Z"⟩, prog_17_method_68_code, 1, some .boolean, 18, false, jmI_J5_isLatin1_aae02, [], [])
def jmI_J5_inflateIfNeededFor_a7421 : jm_Ins := [[some (.getstatic 18, 3), none, none, some (.ifCond .eq 18, 3), none, none, some (.aload_n 0, 1), some (.getfield 22, 3), none, none, some (.aload_n 1, 1), some (.invokevirtual 40, 3), none, none, some (.if_icmp .eq 7, 3), none, none, some (.aload_n 0, 1), some (.invokevirtual 195, 3), none, none, some (.return_, 1)]]
def jmM_J5_inflateIfNeededFor_a7421 : jm_Meth := (⟨"java/lang/AbstractStringBuilder", "inflateIfNeededFor", "(Ljava/lang/String;)V"⟩, prog_17_method_71_code, 2, none, 18, false, jmI_J5_inflateIfNeededFor_a7421, [], [])
def jmI_J5_putStringAt_47b60 : jm_Ins := [[some (.aload_n 0, 1), some (.aload_n 2, 1), some (.invokevirtual 397, 3), none, none, some (.aload_n 2, 1), some (.aload_n 0, 1), some (.getfield 15, 3), none, none, some (.iload_n 1, 1), some (.aload_n 0, 1), some (.getfield 22, 3), none, none, some (.invokevirtual 399, 3), none, none, some (.return_, 1)]]
def jmM_J5_putStringAt_47b60 : jm_Meth := (⟨"java/lang/AbstractStringBuilder", "putStringAt", "(ILjava/lang/String;)V"⟩, prog_17_method_73_code, 3, none, 18, false, jmI_J5_putStringAt_47b60, [], [])
def jmI_J6_getChars_ba4f3 : jm_Ins := [[some (.iload_n 1, 1), some (.istore 5, 2), none, some (.iload_n 0, 1), some (.ifCond .ge 7, 3), none, none, some (.iconst 1, 1), some (.goto 4, 3), none, none, some (.iconst 0, 1), some (.istore 6, 2), none, some (.iload 6, 2), none, some (.ifCond .ne 6, 3), none, none, some (.iload_n 0, 1), some (.ineg, 1), some (.istore_n 0, 1), some (.iload_n 0, 1), some (.bipush (-100), 2), none, some (.if_icmp .gt 47, 3), none, none, some (.iload_n 0, 1), some (.bipush 100, 2), none, some (.idiv, 1)],
  [some (.istore_n 3, 1), some (.iload_n 3, 1), some (.bipush 100, 2), none, some (.imul, 1), some (.iload_n 0, 1), some (.isub, 1), some (.istore 4, 2), none, some (.iload_n 3, 1), some (.istore_n 0, 1), some (.aload_n 2, 1), some (.iinc 5 (-1), 3), none, none, some (.iload 5, 2), none, some (.getstatic 83, 3), none, none, some (.iload 4, 2), none, some (.baload, 1), some (.bastore, 1), some (.aload_n 2, 1), some (.iinc 5 (-1), 3), none, none, some (.iload 5, 2), none, some (.getstatic 87, 3), none],
  [none, some (.iload 4, 2), none, some (.baload, 1), some (.bastore, 1), some (.goto (-47), 3), none, none, some (.aload_n 2, 1), some (.iinc 5 (-1), 3), none, none, some (.iload 5, 2), none, some (.getstatic 83, 3), none, none, some (.iload_n 0, 1), some (.ineg, 1), some (.baload, 1), some (.bastore, 1), some (.iload_n 0, 1), some (.bipush (-9), 2), none, some (.if_icmp .ge 16, 3), none, none, some (.aload_n 2, 1), some (.iinc 5 (-1), 3), none, none, some (.iload 5, 2)],
  [none, some (.getstatic 87, 3), none, none, some (.iload_n 0, 1), some (.ineg, 1), some (.baload, 1), some (.bastore, 1), some (.iload 6, 2), none, some (.ifCond .eq 12, 3), none, none, some (.aload_n 2, 1), some (.iinc 5 (-1), 3), none, none, some (.iload 5, 2), none, some (.bipush 45, 2), none, some (.bastore, 1), some (.iload 5, 2), none, some (.ireturn, 1)]]
def jmM_J6_getChars_ba4f3 : jm_Meth := (⟨"java/lang/Integer", "getChars", "(II[B)I"⟩, prog_26_method_12_code, 7, some .int, 16, true, jmI_J6_getChars_ba4f3, [], [])
def jmI_J6_stringSize_0f7a4 : jm_Ins := [[some (.iconst 1, 1), some (.istore_n 1, 1), some (.iload_n 0, 1), some (.ifCond .lt 8, 3), none, none, some (.iconst 0, 1), some (.istore_n 1, 1), some (.iload_n 0, 1), some (.ineg, 1), some (.istore_n 0, 1), some (.bipush (-10), 2), none, some (.istore_n 2, 1), some (.iconst 1, 1), some (.istore_n 3, 1), some (.iload_n 3, 1), some (.bipush 10, 2), none, some (.if_icmp .ge 23, 3), none, none, some (.iload_n 0, 1), some (.iload_n 2, 1), some (.if_icmp .le 7, 3), none, none, some (.iload_n 3, 1), some (.iload_n 1, 1), some (.iadd, 1), some (.ireturn, 1), some (.bipush 10, 2)],
  [none, some (.iload_n 2, 1), some (.imul, 1), some (.istore_n 2, 1), some (.iinc 3 1, 3), none, none, some (.goto (-23), 3), none, none, some (.bipush 10, 2), none, some (.iload_n 1, 1), some (.iadd, 1), some (.ireturn, 1)]]
def jmM_J6_stringSize_0f7a4 : jm_Meth := (⟨"java/lang/Integer", "stringSize", "(I)I"⟩, prog_26_method_13_code, 4, some .int, 16, true, jmI_J6_stringSize_0f7a4, [], [])
def jmI_J0_init_81219 : jm_Ins := [[some (.aload_n 0, 1), some (.aload_n 1, 1), some (.aconst_null, 1), some (.invokespecial 489, 3), none, none, some (.return_, 1)]]
def jmM_J0_init_81219 : jm_Meth := (⟨"java/lang/String", "<init>", "(Ljava/lang/StringBuilder;)V"⟩, prog_32_method_53_code, 2, none, 14, false, jmI_J0_init_81219, [], [])
def jmI_J0_length_8abf5 : jm_Ins := [[some (.aload_n 0, 1), some (.getfield 9, 3), none, none, some (.arraylength, 1), some (.aload_n 0, 1), some (.invokevirtual 335, 3), none, none, some (.ishr, 1), some (.ireturn, 1)]]
def jmM_J0_length_8abf5 : jm_Meth := (⟨"java/lang/String", "length", "()I"⟩, prog_32_method_54_code, 1, some .int, 14, false, jmI_J0_length_8abf5, [], [])
def jmI_J0_charAt_5068e : jm_Ins := [[some (.aload_n 0, 1), some (.invokevirtual 492, 3), none, none, some (.ifCond .eq 12, 3), none, none, some (.aload_n 0, 1), some (.getfield 9, 3), none, none, some (.iload_n 1, 1), some (.invokestatic 495, 3), none, none, some (.ireturn, 1), some (.aload_n 0, 1), some (.getfield 9, 3), none, none, some (.iload_n 1, 1), some (.invokestatic 498, 3), none, none, some (.ireturn, 1)]]
def jmM_J0_charAt_5068e : jm_Meth := (⟨"java/lang/String", "charAt", "(I)C"⟩, prog_32_method_56_code, 2, some .char, 14, false, jmI_J0_charAt_5068e, [], [])
def jmI_J0_init_db425 : jm_Ins := [[some (.aload_n 0, 1), some (.invokespecial 1, 3), none, none, some (.aload_n 1, 1), some (.invokevirtual 552, 3), none, none, some (.astore_n 3, 1), some (.aload_n 1, 1), some (.invokevirtual 549, 3), none, none, some (.istore 4, 2), none, some (.aload_n 1, 1), some (.invokevirtual 1047, 3), none, none, some (.ifCond .eq 22, 3), none, none, some (.aload_n 0, 1), some (.iconst 0, 1), some (.putfield 15, 3), none, none, some (.aload_n 0, 1), some (.aload_n 3, 1), some (.iconst 0, 1), some (.iload 4, 2), none],
  [some (.invokestatic 54, 3), none, none, some (.putfield 9, 3), none, none, some (.goto 59, 3), none, none, some (.getstatic 38, 3), none, none, some (.ifCond .eq 35, 3), none, none, some (.aload_n 1, 1), some (.getfield 1048, 3), none, none, some (.ifCond .eq 28, 3), none, none, some (.aload_n 0, 1), some (.aload_n 3, 1), some (.iconst 0, 1), some (.iload 4, 2), none, some (.invokestatic 1051, 3), none, none, some (.putfield 9, 3), none],
  [none, some (.aload_n 0, 1), some (.aload_n 0, 1), some (.getfield 9, 3), none, none, some (.iload 4, 2), none, some (.invokestatic 47, 3), none, none, some (.putfield 15, 3), none, none, some (.return_, 1), some (.aload_n 0, 1), some (.iconst 1, 1), some (.putfield 15, 3), none, none, some (.aload_n 0, 1), some (.aload_n 3, 1), some (.iconst 0, 1), some (.iload 4, 2), none, some (.iconst 1, 1), some (.ishl, 1), some (.invokestatic 54, 3), none, none, some (.putfield 9, 3), none],
  [none, some (.return_, 1)]]
def jmM_J0_init_db425 : jm_Meth := (⟨"java/lang/String", "<init>", "(Ljava/lang/AbstractStringBuilder;Ljava/lang/Void;)V"⟩, prog_32_method_150_code, 5, none, 14, false, jmI_J0_init_db425, [], [])
def jmI_J0_coder_7d493 : jm_Ins := [[some (.getstatic 38, 3), none, none, some (.ifCond .eq 10, 3), none, none, some (.aload_n 0, 1), some (.getfield 15, 3), none, none, some (.goto 4, 3), none, none, some (.iconst 1, 1), some (.ireturn, 1)]]
def jmM_J0_coder_7d493 : jm_Meth := (⟨"java/lang/String", "coder", "()B"⟩, prog_32_method_152_code, 1, some .byte, 14, false, jmI_J0_coder_7d493, [], [])
def jmI_J0_isLatin1_aae02 : jm_Ins := [[some (.getstatic 38, 3), none, none, some (.ifCond .eq 14, 3), none, none, some (.aload_n 0, 1), some (.getfield 15, 3), none, none, some (.ifCond .ne 7, 3), none, none, some (.iconst 1, 1), some (.goto 4, 3), none, none, some (.iconst 0, 1), some (.ireturn, 1)]]
def jmM_J0_isLatin1_aae02 : jm_Meth := (⟨"java/lang/String", "isLatin1", "()Z"⟩, prog_32_method_154_code, 1, some .boolean, 14, false, jmI_J0_isLatin1_aae02, [], [])
def jmI_J4_init_a7421 : jm_Ins := [[some (.aload_n 0, 1), some (.aload_n 1, 1), some (.invokespecial 7, 3), none, none, some (.return_, 1)]]
def jmM_J4_init_a7421 : jm_Meth := (⟨"java/lang/StringBuilder", "<init>", "(Ljava/lang/String;)V"⟩, prog_33_method_3_code, 2, none, 15, false, jmI_J4_init_a7421, [], [])
def jmI_J4_append_15ec4 : jm_Ins := [[some (.aload_n 0, 1), some (.aload_n 1, 1), some (.invokespecial 29, 3), none, none, some (.pop, 1), some (.aload_n 0, 1), some (.areturn, 1)]]
def jmM_J4_append_15ec4 : jm_Meth := (⟨"java/lang/StringBuilder", "append", "(Ljava/lang/String;)Ljava/lang/StringBuilder;"⟩, prog_33_method_7_code, 2, some (.object "java/lang/StringBuilder"), 15, false, jmI_J4_append_15ec4, [], [])
def jmI_J4_append_cf468 : jm_Ins := [[some (.aload_n 0, 1), some (.iload_n 1, 1), some (.invokespecial 50, 3), none, none, some (.pop, 1), some (.aload_n 0, 1), some (.areturn, 1)]]
def jmM_J4_append_cf468 : jm_Meth := (⟨"java/lang/StringBuilder", "append", "(C)Ljava/lang/StringBuilder;"⟩, prog_33_method_14_code, 2, some (.object "java/lang/StringBuilder"), 15, false, jmI_J4_append_cf468, [], [])
def jmI_J4_append_bf812 : jm_Ins := [[some (.aload_n 0, 1), some (.iload_n 1, 1), some (.invokespecial 53, 3), none, none, some (.pop, 1), some (.aload_n 0, 1), some (.areturn, 1)]]
def jmM_J4_append_bf812 : jm_Meth := (⟨"java/lang/StringBuilder", "append", "(I)Ljava/lang/StringBuilder;"⟩, prog_33_method_15_code, 2, some (.object "java/lang/StringBuilder"), 15, false, jmI_J4_append_bf812, [], [])
def jmI_J4_toString_0e30d : jm_Ins := [[some (.new 18, 3), none, none, some (.dup, 1), some (.aload_n 0, 1), some (.invokespecial 137, 3), none, none, some (.areturn, 1)]]
def jmM_J4_toString_0e30d : jm_Meth := (⟨"java/lang/StringBuilder", "toString", "()Ljava/lang/String;"⟩, prog_33_method_42_code, 1, some (.object "java/lang/String"), 15, false, jmI_J4_toString_0e30d, [], [])
def jmI_J4_append_cf1ce : jm_Ins := [[some (.aload_n 0, 1), some (.aload_n 1, 1), some (.invokevirtual 23, 3), none, none, some (.areturn, 1)]]
def jmM_J4_append_cf1ce : jm_Meth := (⟨"java/lang/StringBuilder", "append", "(Ljava/lang/String;)Ljava/lang/AbstractStringBuilder;"⟩, prog_33_method_80_code, 2, some (.object "java/lang/AbstractStringBuilder"), 15, false, jmI_J4_append_cf1ce, [], [])
def jmI_J4_length_8abf5 : jm_Ins := [[some (.aload_n 0, 1), some (.invokespecial 343, 3), none, none, some (.ireturn, 1)]]
def jmM_J4_length_8abf5 : jm_Meth := (⟨"java/lang/StringBuilder", "length", "()I"⟩, prog_33_method_93_code, 1, some .int, 15, false, jmI_J4_length_8abf5, [], [])
def jmI_J1_charAt_3b067 : jm_Ins := [[some (.iload_n 1, 1), some (.aload_n 0, 1), some (.arraylength, 1), some (.invokestatic 9, 3), none, none, some (.aload_n 0, 1), some (.iload_n 1, 1), some (.baload, 1), some (.sipush 255, 3), none, none, some (.iand, 1), some (.i2c, 1), some (.ireturn, 1)]]
def jmM_J1_charAt_3b067 : jm_Meth := (⟨"java/lang/StringLatin1", "charAt", "([BI)C"⟩, prog_34_method_2_code, 2, some .char, 19, true, jmI_J1_charAt_3b067, [], [])
def jmI_J1_canEncode_fc78d : jm_Ins := [[some (.iload_n 0, 1), some (.sipush 255, 3), none, none, some (.if_icmp .gt 7, 3), none, none, some (.iconst 1, 1), some (.goto 4, 3), none, none, some (.iconst 0, 1), some (.ireturn, 1)]]
def jmM_J1_canEncode_fc78d : jm_Meth := (⟨"java/lang/StringLatin1", "canEncode", "(C)Z"⟩, prog_34_method_3_code, 1, some .boolean, 19, true, jmI_J1_canEncode_fc78d, [], [])
def jmI_Jxa1e45_init_da8c8 : jm_Ins := [[some (.aload_n 0, 1), some (.invokespecial 1, 3), none, none, some (.return_, 1)]]
def jmM_Jxa1e45_init_da8c8 : jm_Meth := (⟨"java/util/AbstractCollection", "<init>", "()V"⟩, prog_40_method_1_code, 1, none, 25, false, jmI_Jxa1e45_init_da8c8, [], [])
def jmI_Jxc12de_init_da8c8 : jm_Ins := [[some (.aload_n 0, 1), some (.invokespecial 1, 3), none, none, some (.aload_n 0, 1), some (.iconst 0, 1), some (.putfield 7, 3), none, none, some (.return_, 1)]]
def jmM_Jxc12de_init_da8c8 : jm_Meth := (⟨"java/util/AbstractList", "<init>", "()V"⟩, prog_41_method_1_code, 1, none, 24, false, jmI_Jxc12de_init_da8c8, [], [])
def jmI_Jx4a65c_init_da8c8 : jm_Ins := [[some (.aload_n 0, 1), some (.invokespecial 1, 3), none, none, some (.aload_n 0, 1), some (.getstatic 39, 3), none, none, some (.putfield 9, 3), none, none, some (.return_, 1)]]
def jmM_Jx4a65c_init_da8c8 : jm_Meth := (⟨"java/util/ArrayList", "<init>", "()V"⟩, prog_42_method_2_code, 1, none, 17, false, jmI_Jx4a65c_init_da8c8, [], [])
def jmI_Jx4a65c_grow_92f84 : jm_Ins := [[some (.aload_n 0, 1), some (.getfield 9, 3), none, none, some (.arraylength, 1), some (.istore_n 2, 1), some (.iload_n 2, 1), some (.ifCond .gt 13, 3), none, none, some (.aload_n 0, 1), some (.getfield 9, 3), none, none, some (.getstatic 39, 3), none, none, some (.if_acmp .eq 28, 3), none, none, some (.iload_n 2, 1), some (.iload_n 1, 1), some (.iload_n 2, 1), some (.isub, 1), some (.iload_n 2, 1), some (.iconst 1, 1), some (.ishr, 1), some (.invokestatic 73, 3), none, none, some (.istore_n 3, 1), some (.aload_n 0, 1)],
  [some (.aload_n 0, 1), some (.getfield 9, 3), none, none, some (.iload_n 3, 1), some (.invokestatic 66, 3), none, none, some (.dup_x1, 1), some (.putfield 9, 3), none, none, some (.areturn, 1), some (.aload_n 0, 1), some (.bipush 10, 2), none, some (.iload_n 1, 1), some (.invokestatic 79, 3), none, none, some (.anewarray 7, 3), none, none, some (.dup_x1, 1), some (.putfield 9, 3), none, none, some (.areturn, 1)]]
def jmM_Jx4a65c_grow_92f84 : jm_Meth := (⟨"java/util/ArrayList", "grow", "(I)[Ljava/lang/Object;"⟩, prog_42_method_6_code, 4, some (.array (.object "java/lang/Object")), 17, false, jmI_Jx4a65c_grow_92f84, [], [])
def jmI_Jx4a65c_grow_d5877 : jm_Ins := [[some (.aload_n 0, 1), some (.aload_n 0, 1), some (.getfield 48, 3), none, none, some (.iconst 1, 1), some (.iadd, 1), some (.invokevirtual 69, 3), none, none, some (.areturn, 1)]]
def jmM_Jx4a65c_grow_d5877 : jm_Meth := (⟨"java/util/ArrayList", "grow", "()[Ljava/lang/Object;"⟩, prog_42_method_7_code, 1, some (.array (.object "java/lang/Object")), 17, false, jmI_Jx4a65c_grow_d5877, [], [])
def jmI_Jx4a65c_size_8abf5 : jm_Ins := [[some (.aload_n 0, 1), some (.getfield 48, 3), none, none, some (.ireturn, 1)]]
def jmM_Jx4a65c_size_8abf5 : jm_Meth := (⟨"java/util/ArrayList", "size", "()I"⟩, prog_42_method_8_code, 1, some .int, 17, false, jmI_Jx4a65c_size_8abf5, [], [])
def jmI_Jx4a65c_elementData_915e3 : jm_Ins := [[some (.aload_n 0, 1), some (.getfield 9, 3), none, none, some (.iload_n 1, 1), some (.aaload, 1), some (.areturn, 1)]]
def jmM_Jx4a65c_elementData_915e3 : jm_Meth := (⟨"java/util/ArrayList", "elementData", "(I)Ljava/lang/Object;"⟩, prog_42_method_18_code, 2, some (.object "java/lang/Object"), 17, false, jmI_Jx4a65c_elementData_915e3, [], [])
def jmI_Jx4a65c_get_915e3 : jm_Ins := [[some (.iload_n 1, 1), some (.aload_n 0, 1), some (.getfield 48, 3), none, none, some (.invokestatic 118, 3), none, none, some (.pop, 1), some (.aload_n 0, 1), some (.iload_n 1, 1), some (.invokevirtual 123, 3), none, none, some (.areturn, 1)]]
def jmM_Jx4a65c_get_915e3 : jm_Meth := (⟨"java/util/ArrayList", "get", "(I)Ljava/lang/Object;"⟩, prog_42_method_20_code, 2, some (.object "java/lang/Object"), 17, false, jmI_Jx4a65c_get_915e3, [], [])
def jmI_Jx4a65c_add_72be8 : jm_Ins := [[some (.iload_n 3, 1), some (.aload_n 2, 1), some (.arraylength, 1), some (.if_icmp .ne 8, 3), none, none, some (.aload_n 0, 1), some (.invokevirtual 129, 3), none, none, some (.astore_n 2, 1), some (.aload_n 2, 1), some (.iload_n 3, 1), some (.aload_n 1, 1), some (.aastore, 1), some (.aload_n 0, 1), some (.iload_n 3, 1), some (.iconst 1, 1), some (.iadd, 1), some (.putfield 48, 3), none, none, some (.return_, 1)]]
def jmM_Jx4a65c_add_72be8 : jm_Meth := (⟨"java/util/ArrayList", "add", "(Ljava/lang/Object;[Ljava/lang/Object;I)V"⟩, prog_42_method_24_code, 4, none, 17, false, jmI_Jx4a65c_add_72be8, [], [])
def jmI_Jx4a65c_add_9ea2d : jm_Ins := [[some (.aload_n 0, 1), some (.dup, 1), some (.getfield 63, 3), none, none, some (.iconst 1, 1), some (.iadd, 1), some (.putfield 63, 3), none, none, some (.aload_n 0, 1), some (.aload_n 1, 1), some (.aload_n 0, 1), some (.getfield 9, 3), none, none, some (.aload_n 0, 1), some (.getfield 48, 3), none, none, some (.invokevirtual 131, 3), none, none, some (.iconst 1, 1), some (.ireturn, 1)]]
def jmM_Jx4a65c_add_9ea2d : jm_Meth := (⟨"java/util/ArrayList", "add", "(Ljava/lang/Object;)Z"⟩, prog_42_method_25_code, 2, some .boolean, 17, false, jmI_Jx4a65c_add_9ea2d, [], [])
def jmI_J7_copyOf_9075b : jm_Ins := [[some (.iload_n 1, 1), some (.aload_n 0, 1), some (.arraylength, 1), some (.if_icmp .ne 11, 3), none, none, some (.aload_n 0, 1), some (.invokevirtual 310, 3), none, none, some (.checkcast 311, 3), none, none, some (.areturn, 1), some (.iload_n 1, 1), some (.newarray .byte, 2), none, some (.astore_n 2, 1), some (.aload_n 0, 1), some (.iconst 0, 1), some (.aload_n 2, 1), some (.iconst 0, 1), some (.aload_n 0, 1), some (.arraylength, 1), some (.iload_n 1, 1), some (.invokestatic 304, 3), none, none, some (.invokestatic 150, 3), none, none, some (.aload_n 2, 1)],
  [some (.areturn, 1)]]
def jmM_J7_copyOf_9075b : jm_Meth := (⟨"java/util/Arrays", "copyOf", "([BI)[B"⟩, prog_43_method_121_code, 3, some (.array .byte), 20, true, jmI_J7_copyOf_9075b, [], [])
def jmI_J7_checkLength_df160 : jm_Ins := [[some (.iload_n 1, 1), some (.iload_n 0, 1), some (.if_icmp .ge 35, 3), none, none, some (.new 43, 3), none, none, some (.dup, 1), some (.new 45, 3), none, none, some (.dup, 1), some (.invokespecial 47, 3), none, none, some (.iload_n 0, 1), some (.invokevirtual 54, 3), none, none, some (.ldc_w 337, 3), none, none, some (.invokevirtual 50, 3), none, none, some (.iload_n 1, 1), some (.invokevirtual 54, 3), none, none, some (.invokevirtual 61, 3), none],
  [none, some (.invokespecial 65, 3), none, none, some (.athrow, 1), some (.return_, 1)]]
def jmM_J7_checkLength_df160 : jm_Meth := (⟨"java/util/Arrays", "checkLength", "(II)V"⟩, prog_43_method_131_code, 2, none, 20, true, jmI_J7_checkLength_df160, [], [])
def jmI_J7_copyOfRange_39247 : jm_Ins := [[some (.iload_n 1, 1), some (.ifCond .ne 9, 3), none, none, some (.iload_n 2, 1), some (.aload_n 0, 1), some (.arraylength, 1), some (.if_icmp .eq 10, 3), none, none, some (.aload_n 0, 1), some (.iload_n 1, 1), some (.iload_n 2, 1), some (.invokestatic 339, 3), none, none, some (.areturn, 1), some (.aload_n 0, 1), some (.invokevirtual 310, 3), none, none, some (.checkcast 311, 3), none, none, some (.areturn, 1)]]
def jmM_J7_copyOfRange_39247 : jm_Meth := (⟨"java/util/Arrays", "copyOfRange", "([BII)[B"⟩, prog_43_method_132_code, 3, some (.array .byte), 20, true, jmI_J7_copyOfRange_39247, [], [])
def jmI_J7_copyOfRangeByte_39247 : jm_Ins := [[some (.iload_n 1, 1), some (.iload_n 2, 1), some (.invokestatic 343, 3), none, none, some (.iload_n 2, 1), some (.iload_n 1, 1), some (.isub, 1), some (.istore_n 3, 1), some (.iload_n 3, 1), some (.newarray .byte, 2), none, some (.astore 4, 2), none, some (.aload_n 0, 1), some (.iload_n 1, 1), some (.aload 4, 2), none, some (.iconst 0, 1), some (.aload_n 0, 1), some (.arraylength, 1), some (.iload_n 1, 1), some (.isub, 1), some (.iload_n 3, 1), some (.invokestatic 304, 3), none, none, some (.invokestatic 150, 3), none, none, some (.aload 4, 2), none],
  [some (.areturn, 1)]]
def jmM_J7_copyOfRangeByte_39247 : jm_Meth := (⟨"java/util/Arrays", "copyOfRangeByte", "([BII)[B"⟩, prog_43_method_133_code, 5, some (.array .byte), 20, true, jmI_J7_copyOfRangeByte_39247, [], [])
def jmI_J8_newLength_cabcc : jm_Ins := [[some (.iload_n 0, 1), some (.iload_n 1, 1), some (.iload_n 2, 1), some (.invokestatic 194, 3), none, none, some (.iadd, 1), some (.istore_n 3, 1), some (.iconst 0, 1), some (.iload_n 3, 1), some (.if_icmp .ge 11, 3), none, none, some (.iload_n 3, 1), some (.ldc 200, 2), none, some (.if_icmp .gt 5, 3), none, none, some (.iload_n 3, 1), some (.ireturn, 1), some (.iload_n 0, 1), some (.iload_n 1, 1), some (.invokestatic 201, 3), none, none, some (.ireturn, 1)]]
def jmM_J8_newLength_cabcc : jm_Meth := (⟨"jdk/internal/util/ArraysSupport", "newLength", "(III)I"⟩, prog_49_method_27_code, 4, some .int, 21, true, jmI_J8_newLength_cabcc, [], [])
def jm_Ms0 : List jm_Meth := [jmM_L_law, jmM_L_init, jmM_L_feeds, jmM_L_draw, jmM_L_paper, jmM_L_nearest, jmM_L_fitting, jmM_L_cutsOne, jmM_L_orders, jmM_L_buys, jmM_L_cuts, jmM_L_side, jmM_L_begins, jmM_L_leaves, jmM_L_isFolded, jmM_L_isSeries, jmM_L_still, jmM_L_act, jmM_X0_init, jmM_X0_hasRoom]
def jm_Ms1 : List jm_Meth := [jmM_X0_put, jmM_X0_putFour, jmM_X0_shorten, jmM_X0_byteAt, jmM_X1_init, jmM_X1_make, jmM_X1_halvesOf, jmM_X1_doWith, jmM_X2_init, jmM_X2_foldUp, jmM_X2_pileUp, jmM_X2_layPlace, jmM_X2_numberPages, jmM_X2_hasCell, jmM_X2_pageAt, jmM_X2_cellsWithOtherPages, jmM_X2_frontPageByItself, jmM_X3_init, jmM_X3_keep, jmM_X3_forget]
def jm_Ms2 : List jm_Meth := [jmM_X4_init, jmM_X4_copyFrom, jmM_X4_begin, jmM_X4_hasSeries, jmM_X4_seriesNamed, jmM_X4_addSeries, jmM_X4_sheetsInAll, jmM_X4_stacksInAll, jmM_X4_areaInAll, jmM_X4_refusalToBuy, jmM_X4_takeIn, jmM_X4_refusalToCut, jmM_X4_cutUp, jmM_X4_fill, jmM_X5_init, jmM_X5_make, jmM_X5_weighSeries, jmM_X5_isNearer, jmM_X5_told, jmM_X6_init]
def jm_Ms3 : List jm_Meth := [jmM_X6_copyFrom, jmM_X6_forget, jmM_X6_placeOf, jmM_X6_note, jmM_X7_init, jmM_X7_begin, jmM_X7_advance, jmM_X7_fail, jmM_X7_isWord, jmM_X7_isSign, jmM_X7_takeSign, jmM_X7_seesName, jmM_X7_seesNumber, jmM_X8_init, jmM_X9_init, jmM_X9_copyFrom, jmM_X9_setName, jmM_X9_hasName, jmM_X9_setSides, jmM_X9_isVoid]
def jm_Ms4 : List jm_Meth := [jmM_X9_wideAt, jmM_X9_highAt, jmM_X9_areaAt, jmM_X9_sheetsAt, jmM_X9_addSheets, jmM_X9_stripAt, jmM_X9_supplyAt, jmM_X9_foldsAt, jmM_X9_fits, jmM_X10_init, jmM_X10_readInto, jmM_X10_readHead, jmM_X10_readSeries, jmM_X10_readSizes, jmM_X10_readStack, jmM_X11_init, jmM_X11_append, jmM_X11_truncate, jmM_X11_load, jmM_X11_errorCode]
def jm_Ms5 : List jm_Meth := [jmM_X11_readSetup, jmM_X11_forgetSlotsAndRefusals, jmM_X11_count, jmM_X11_size, jmM_X11_account, jmM_X11_gap, jmM_X11_mostFolds, jmM_X11_grid, jmM_X11_page, jmM_X11_pageGap, jmM_X11_foldSheet, jmM_X11_fitting, jmM_X11_nearest, jmM_X11_buy, jmM_X11_cut, jmM_X11_order, jmM_X11_setEdge, jmM_X11_doBuy, jmM_X11_doCut, jmM_X11_doPrintOrder]
def jm_Ms6 : List jm_Meth := [jmM_X11_doSetEdge, jmM_X11_refuse, jmM_X11_require, jmM_X11_requireOrder, jmM_X11_requireSize, jmM_X11_isSide, jmM_X11_usable, jmM_X11_capped, jmM_X11_isLetter, jmM_X11_isDigit, jmM_X11_isBlank, jmM_X11_valueAt, jmM_X11_setAt, jmM_X12_init, jmM_X12_area, jmM_X12_canBeCut, jmM_X12_supply, jmM_X12_fits, jmM_J5_init_a7421, jmM_J5_length_8abf5]
def jm_Ms7 : List jm_Meth := [jmM_J5_ensureCapacityInternal_d00df, jmM_J5_newCapacity_0f7a4, jmM_J5_append_cf1ce, jmM_J5_append_3fe6f, jmM_J5_append_c97b9, jmM_J5_getValue_6d5f1, jmM_J5_isLatin1_aae02, jmM_J5_inflateIfNeededFor_a7421, jmM_J5_putStringAt_47b60, jmM_J6_getChars_ba4f3, jmM_J6_stringSize_0f7a4, jmM_J0_init_81219, jmM_J0_length_8abf5, jmM_J0_charAt_5068e, jmM_J0_init_db425, jmM_J0_coder_7d493, jmM_J0_isLatin1_aae02, jmM_J4_init_a7421, jmM_J4_append_15ec4, jmM_J4_append_cf468]
def jm_Ms8 : List jm_Meth := [jmM_J4_append_bf812, jmM_J4_toString_0e30d, jmM_J4_append_cf1ce, jmM_J4_length_8abf5, jmM_J1_charAt_3b067, jmM_J1_canEncode_fc78d, jmM_Jxa1e45_init_da8c8, jmM_Jxc12de_init_da8c8, jmM_Jx4a65c_init_da8c8, jmM_Jx4a65c_grow_92f84, jmM_Jx4a65c_grow_d5877, jmM_Jx4a65c_size_8abf5, jmM_Jx4a65c_elementData_915e3, jmM_Jx4a65c_get_915e3, jmM_Jx4a65c_add_72be8, jmM_Jx4a65c_add_9ea2d, jmM_J7_copyOf_9075b, jmM_J7_checkLength_df160, jmM_J7_copyOfRange_39247, jmM_J7_copyOfRangeByte_39247]
def jm_Ms9 : List jm_Meth := [jmM_J8_newLength_cabcc]
def jm_Mss : List (List jm_Meth) := [jm_Ms0, jm_Ms1, jm_Ms2, jm_Ms3, jm_Ms4, jm_Ms5, jm_Ms6, jm_Ms7, jm_Ms8, jm_Ms9]
def jm_M (k : Nat) : Option jm_Meth := (jm_Mss.getD (k / 20) [])[k % 20]?
def jm_fldT : List (List (Nat × Nat × Nat × Nat × Bool)) := [[(15, 0, 0, 3, true), (21, 0, 1, 0, false)],
  [(9, 1, 0, 3, true), (15, 1, 1, 0, false), (19, 1, 2, 2, false)],
  [(9, 2, 3, 3, true), (15, 2, 4, 3, true), (19, 2, 5, 3, true), (22, 2, 6, 3, true), (34, 2, 2, 0, false), (38, 2, 0, 0, false), (41, 2, 1, 0, false)],
  [(11, 3, 0, 3, true), (18, 3, 1, 0, false), (32, 3, 2, 0, false)],
  [(11, 4, 3, 3, true), (20, 4, 4, 3, true), (24, 4, 5, 3, true), (29, 4, 0, 0, false), (33, 4, 1, 0, false), (36, 4, 2, 0, false), (94, 5, 5, 0, false), (98, 5, 0, 3, true), (107, 5, 6, 0, false), (110, 5, 3, 0, false), (113, 5, 1, 0, false), (116, 5, 2, 0, false), (119, 5, 7, 0, false), (122, 1, 2, 2, false), (126, 1, 1, 0, false)],
  [(12, 5, 0, 3, true), (18, 5, 1, 0, false), (22, 5, 2, 0, false), (25, 5, 3, 0, false), (28, 5, 5, 0, false), (31, 5, 6, 0, false), (34, 5, 7, 0, false), (37, 5, 8, 0, false), (40, 5, 9, 0, false), (43, 4, 2, 0, false), (48, 4, 3, 3, true), (51, 4, 0, 0, false), (62, 5, 4, 0, false)],
  [(9, 6, 0, 3, true), (15, 6, 1, 3, true), (18, 6, 2, 3, true), (21, 6, 3, 0, false)],
  [(9, 7, 6, 0, false), (15, 7, 0, 3, true), (19, 7, 5, 0, false), (22, 7, 3, 0, false), (28, 0, 1, 0, false), (41, 7, 2, 0, false), (44, 7, 4, 0, false), (47, 7, 1, 0, false)],
  [(9, 8, 0, 3, true), (15, 8, 1, 3, true), (18, 8, 2, 3, true), (21, 8, 3, 3, true), (24, 8, 4, 3, true)],
  [(9, 9, 0, 3, true), (15, 9, 2, 3, true), (18, 9, 3, 3, true), (21, 9, 4, 3, true), (24, 9, 1, 0, false)],
  [(9, 10, 1, 3, true), (15, 10, 0, 3, true), (31, 7, 1, 0, false), (42, 4, 5, 3, true), (67, 7, 4, 0, false), (70, 4, 0, 0, false), (73, 4, 1, 0, false), (78, 4, 2, 0, false), (81, 4, 3, 3, true), (88, 7, 2, 0, false), (91, 7, 3, 0, false), (94, 7, 0, 3, true)],
  [(14, 11, 0, 3, true), (18, 11, 1, 3, true), (26, 11, 2, 3, true), (35, 11, 3, 3, true), (42, 11, 4, 3, true), (49, 11, 5, 3, true), (53, 11, 6, 3, true), (59, 11, 7, 3, true), (63, 11, 8, 3, true), (67, 11, 9, 3, true), (71, 11, 10, 3, true), (78, 11, 11, 3, true), (85, 11, 12, 3, true), (122, 0, 1, 0, false), (132, 4, 2, 0, false), (153, 7, 5, 0, false), (233, 4, 0, 0, false), (236, 4, 1, 0, false), (239, 4, 4, 3, true), (243, 6, 3, 0, false), (248, 3, 2, 0, false), (259, 4, 3, 3, true), (311, 4, 5, 3, true), (339, 2, 1, 0, false), (342, 2, 0, 0, false), (373, 5, 8, 0, false), (379, 5, 4, 0, false)],
  [(7, 12, 0, 3, true), (13, 12, 1, 3, true), (16, 12, 2, 3, true)],
  [(10, 13, 0, 3, true), (16, 13, 1, 3, true), (53, 12, 2, 3, true), (65, 13, 2, 0, false), (90, 13, 3, 0, false), (139, 12, 0, 3, true), (142, 12, 1, 3, true)],
  [(9, 14, 0, 3, true), (15, 14, 1, 4, true), (1048, 15, 2, 1, false)],
  [],
  [(205, 16, 0, 0, true)],
  [(9, 17, 1, 3, false), (48, 17, 2, 0, false), (63, 17, 0, 0, false)],
  [(15, 15, 0, 3, false), (22, 15, 1, 4, false), (79, 15, 3, 0, false)],
  [],
  [],
  [],
  [],
  [],
  [(7, 17, 0, 0, false)],
  []]
def jm_mthT : List (List (Nat × Nat × Nat × Nat × Nat)) := [[(3, 0, 0, 10, 0), (9, 0, 2, 11, 0), (25, 19, 1, 0, 1), (29, 132, 3, 4, 0), (33, 20, 1, 0, 0)],
  [(3, 0, 0, 10, 0), (23, 0, 2, 12, 0), (29, 83, 1, 0, 1), (35, 0, 2, 11, 0), (38, 85, 1, 0, 1), (41, 26, 1, 0, 1), (44, 84, 2, 0, 0)],
  [(3, 0, 0, 10, 0), (25, 0, 2, 12, 0), (31, 0, 2, 11, 0), (44, 81, 1, 0, 1), (50, 80, 1, 0, 1), (53, 30, 0, 0, 0), (56, 32, 0, 0, 0), (59, 132, 3, 4, 0), (63, 31, 6, 0, 0), (67, 0, 5, 15, 0), (73, 131, 2, 4, 1), (77, 34, 3, 0, 1), (81, 36, 2, 0, 1)],
  [(3, 0, 0, 10, 0), (17, 40, 0, 2, 0), (22, 0, 2, 19, 0), (28, 41, 1, 0, 0), (35, 0, 2, 12, 0)],
  [(3, 0, 0, 10, 0), (19, 59, 0, 5, 0), (28, 74, 0, 5, 0), (39, 75, 1, 0, 0), (43, 60, 1, 0, 0), (46, 0, 5, 15, 0), (52, 61, 0, 0, 0), (55, 77, 3, 0, 1), (59, 76, 3, 0, 0), (63, 78, 2, 0, 0), (67, 83, 1, 0, 1), (71, 82, 1, 0, 1), (84, 79, 1, 0, 1), (88, 84, 2, 0, 0), (91, 85, 1, 0, 1), (102, 27, 1, 0, 0), (129, 63, 3, 0, 0)],
  [(3, 0, 0, 10, 0), (11, 24, 0, 5, 0), (54, 56, 3, 0, 0), (58, 43, 1, 0, 1), (65, 25, 3, 0, 0), (69, 88, 4, 0, 1), (75, 86, 1, 0, 1), (79, 82, 1, 0, 1), (82, 0, 2, 11, 0), (88, 57, 2, 0, 1)],
  [(3, 0, 0, 10, 0), (25, 0, 5, 15, 0), (31, 131, 2, 4, 1), (35, 62, 2, 0, 1), (47, 132, 3, 4, 0)],
  [(3, 0, 0, 10, 0), (25, 66, 0, 0, 0), (33, 23, 1, 0, 1), (37, 130, 1, 4, 1), (50, 128, 1, 4, 1), (53, 129, 1, 4, 1), (57, 0, 2, 12, 0), (63, 0, 0, 16, 0), (68, 0, 1, 17, 0), (72, 69, 1, 0, 1), (76, 67, 1, 0, 1)],
  [(3, 0, 0, 10, 0)],
  [(3, 0, 0, 10, 0), (28, 0, 5, 15, 0), (34, 0, 2, 12, 0), (40, 0, 2, 11, 0), (43, 23, 1, 0, 1), (49, 131, 2, 4, 1), (53, 80, 1, 0, 1), (56, 81, 1, 0, 1), (59, 79, 1, 0, 1), (63, 82, 1, 0, 1), (66, 83, 1, 0, 1), (69, 126, 2, 4, 1)],
  [(3, 0, 0, 10, 0), (19, 65, 0, 0, 0), (24, 42, 0, 0, 0), (27, 91, 1, 0, 1), (35, 70, 1, 0, 1), (39, 92, 1, 0, 1), (46, 48, 0, 0, 2), (52, 68, 1, 0, 1), (56, 67, 1, 0, 1), (60, 66, 0, 0, 0), (63, 72, 2, 0, 1), (84, 71, 0, 0, 1), (98, 44, 3, 0, 1), (102, 45, 5, 0, 0), (106, 93, 1, 0, 1), (112, 94, 1, 0, 1), (115, 79, 1, 0, 1), (120, 84, 2, 0, 0)],
  [(1, 0, 0, 10, 0), (11, 18, 1, 2, 0), (23, 64, 1, 2, 0), (32, 89, 1, 2, 0), (41, 73, 0, 5, 0), (48, 40, 0, 2, 0), (58, 37, 0, 2, 0), (77, 54, 0, 5, 0), (84, 28, 0, 5, 0), (91, 0, 0, 16, 0), (97, 0, 1, 17, 0), (101, 20, 1, 0, 0), (104, 100, 0, 0, 1), (108, 19, 1, 0, 1), (119, 21, 1, 0, 0), (125, 122, 1, 1, 0), (129, 22, 1, 0, 0), (139, 38, 1, 0, 0), (159, 90, 1, 0, 1), (163, 41, 1, 0, 0), (166, 39, 0, 0, 0), (169, 101, 0, 0, 0), (204, 43, 1, 0, 1), (207, 117, 4, 0, 1), (211, 121, 1, 0, 1), (214, 118, 4, 0, 1), (217, 119, 4, 0, 1), (220, 120, 2, 0, 1), (227, 46, 0, 0, 1), (230, 47, 0, 0, 1), (268, 124, 2, 0, 0), (272, 80, 1, 0, 1), (275, 81, 1, 0, 1), (278, 82, 1, 0, 1), (281, 83, 1, 0, 1), (284, 85, 1, 0, 1), (287, 126, 2, 1, 1), (290, 86, 1, 0, 1), (293, 79, 1, 0, 1), (302, 125, 1, 1, 1), (315, 127, 1, 1, 1), (319, 48, 0, 0, 2), (323, 0, 1, 13, 0), (332, 87, 1, 0, 1), (335, 110, 3, 0, 0), (345, 33, 2, 0, 1), (353, 34, 3, 0, 1), (362, 35, 0, 0, 1), (365, 29, 3, 0, 0), (369, 55, 4, 0, 0), (376, 123, 3, 1, 0), (382, 58, 0, 0, 1), (429, 49, 3, 0, 1), (433, 50, 3, 0, 1), (436, 51, 3, 0, 1), (439, 52, 3, 0, 1), (442, 53, 1, 0, 0), (473, 0, 2, 14, 0)],
  [(1, 0, 0, 10, 0), (19, 0, 2, 12, 0), (25, 134, 1, 0, 2), (29, 136, 1, 0, 1), (33, 0, 2, 11, 0)],
  [(1, 0, 0, 10, 0), (9, 168, 0, 2, 0), (20, 97, 1, 0, 1), (26, 152, 0, 0, 1), (32, 153, 1, 0, 1), (36, 96, 5, 0, 1), (42, 171, 0, 3, 1), (47, 173, 1, 3, 4), (57, 134, 1, 0, 2), (69, 137, 4, 0, 1), (73, 136, 1, 0, 1), (76, 7, 2, 0, 0), (82, 5, 3, 0, 1), (86, 6, 2, 0, 1), (93, 135, 1, 0, 1), (97, 95, 0, 2, 0), (98, 12, 2, 1, 4), (102, 16, 3, 1, 1), (106, 17, 3, 1, 1), (109, 3, 2, 1, 1), (113, 1, 0, 2, 0), (118, 157, 1, 2, 0), (121, 160, 1, 0, 4), (124, 159, 1, 0, 4), (127, 11, 1, 1, 1), (131, 133, 2, 2, 0), (136, 158, 1, 0, 4), (147, 175, 1, 3, 1), (151, 4, 0, 0, 2), (155, 161, 0, 0, 4), (159, 2, 2, 1, 1), (163, 98, 0, 0, 1), (166, 99, 0, 0, 1), (169, 0, 1, 25, 0), (175, 0, 0, 24, 0), (178, 107, 4, 0, 1), (182, 13, 5, 1, 4), (186, 108, 6, 0, 1), (190, 109, 3, 0, 1), (193, 103, 3, 0, 1), (195, 105, 0, 0, 2), (198, 102, 1, 0, 1), (201, 15, 3, 1, 1), (205, 104, 1, 0, 1), (210, 0, 2, 14, 0), (216, 112, 3, 0, 1), (217, 111, 2, 0, 1), (218, 106, 2, 0, 1), (221, 14, 5, 1, 1), (225, 113, 3, 0, 1), (228, 9, 3, 0, 1), (232, 114, 3, 0, 1), (235, 10, 3, 0, 1), (238, 116, 1, 0, 1), (241, 115, 3, 0, 1), (244, 8, 3, 0, 1)],
  [(1, 0, 0, 10, 0), (54, 178, 3, 1, 4), (212, 0, 5, 15, 0), (335, 155, 0, 0, 1), (489, 154, 2, 2, 0), (492, 156, 0, 0, 1), (495, 164, 2, 1, 1), (549, 139, 0, 8, 1), (552, 145, 0, 8, 4), (1047, 146, 0, 8, 1)],
  [(7, 138, 1, 2, 0), (23, 158, 1, 0, 4), (29, 142, 1, 6, 4), (50, 143, 1, 6, 4), (53, 144, 1, 6, 4), (137, 151, 1, 2, 0), (343, 139, 0, 6, 1)],
  [],
  [(1, 167, 0, 2, 0), (66, 0, 2, 27, 0), (69, 169, 1, 0, 4), (73, 180, 3, 1, 1), (79, 0, 2, 11, 0), (118, 0, 2, 28, 0), (123, 172, 1, 0, 4), (129, 170, 0, 0, 4), (131, 174, 3, 0, 0)],
  [(3, 0, 0, 10, 0), (32, 0, 0, 16, 0), (40, 0, 0, 29, 0), (43, 162, 1, 7, 4), (83, 146, 0, 8, 1), (100, 140, 1, 8, 0), (104, 141, 1, 8, 1), (108, 176, 2, 1, 4), (114, 180, 3, 1, 1), (191, 165, 1, 1, 1), (208, 148, 2, 8, 0), (245, 150, 1, 1, 1), (248, 149, 3, 1, 1), (397, 147, 1, 8, 0), (399, 0, 3, 26, 0)],
  [(9, 0, 2, 23, 0)],
  [(150, 0, 5, 15, 0), (304, 0, 2, 12, 0), (310, 0, 0, 30, 0), (339, 179, 3, 1, 4), (343, 177, 2, 1, 0)],
  [(194, 0, 2, 11, 0)],
  [],
  [],
  [(1, 166, 0, 2, 0)],
  [(1, 0, 0, 10, 0)]]
def jm_clsT : List (List (Nat × Nat × List Value)) := [[],
  [],
  [],
  [(9, 4, [.int 0, .int 0, .int 0, .null, .null, .null])],
  [(9, 9, [.null, .int 0, .null, .null, .null]), (17, 6, [.null, .null, .null, .int 0])],
  [(9, 1, [.null, .int 0, .long 0])],
  [],
  [],
  [],
  [],
  [],
  [(7, 0, [.null, .int 0]), (21, 7, [.null, .int 0, .int 0, .int 0, .int 0, .int 0, .int 0]), (30, 10, [.null, .null]), (39, 8, [.null, .null, .null, .null, .null, .int 0]), (46, 4, [.int 0, .int 0, .int 0, .null, .null, .null]), (56, 3, [.null, .int 0, .int 0]), (75, 5, [.null, .int 0, .int 0, .int 0, .int 0, .int 0, .int 0, .int 0, .int 0, .int 0]), (82, 2, [.int 0, .int 0, .int 0, .null, .null, .null, .null])],
  [],
  [(7, 17, [.int 0, .null, .int 0]), (11, 13, [.null, .null, .int 0, .int 0]), (21, 11, [.null, .null, .null, .null, .null, .null, .null, .null, .null, .null, .null, .null, .null, .int 0]), (51, 12, [.null, .null, .null]), (114, 15, [.null, .int 0, .int 0, .int 0]), (170, 16, [.int 0])],
  [],
  [(18, 14, [.null, .int 0, .int 0, .int 0])],
  [(1, 16, [.int 0])],
  [],
  [],
  [],
  [],
  [],
  [],
  [],
  [],
  []]
def jm_aclT : List (List (Nat × Nat)) := [[],
  [],
  [],
  [(9, 5)],
  [(9, 4)],
  [],
  [],
  [],
  [],
  [],
  [],
  [(46, 5)],
  [],
  [],
  [],
  [],
  [],
  [(7, 6)],
  [],
  [],
  [(2, 6)],
  [],
  [],
  [],
  [],
  []]
def jm_cstT : List (List (Nat × Value)) := [[],
  [],
  [],
  [],
  [],
  [],
  [],
  [(56, .int 1000000)],
  [],
  [],
  [(50, .ref (1099511627777)), (76, .ref (1099511627778)), (110, .ref (1099511627779))],
  [(89, .ref (1099511627776)), (471, .long 2147483647)],
  [],
  [(40, .int 1664525), (41, .int 1013904223), (63, .long 9223372036854775807), (80, .long 2), (116, .ref (1099511627780)), (134, .ref (1099511627781)), (145, .ref (1099511627782)), (208, .long 2147483647)],
  [],
  [],
  [],
  [],
  [(38, .int 2147483631), (39, .int 2147483647)],
  [],
  [],
  [(200, .int 2147483639)],
  [],
  [],
  [],
  []]
def jm_gstT : List (List (Nat × Value)) := [[],
  [],
  [],
  [],
  [],
  [],
  [],
  [],
  [],
  [],
  [],
  [],
  [],
  [],
  [(38, .int 1)],
  [],
  [(83, .ref (140737488355328)), (87, .ref (70368744177664))],
  [(39, .ref (35184372088832))],
  [(18, .int 1)],
  [],
  [],
  [],
  [],
  [],
  [],
  []]
def jm_casT : List (List (Nat × Nat)) := [[],
  [],
  [],
  [],
  [],
  [],
  [],
  [],
  [],
  [],
  [],
  [],
  [],
  [(43, 17), (51, 12), (170, 16)],
  [],
  [],
  [],
  [],
  [],
  [],
  [(311, 9)],
  [],
  [],
  [],
  [],
  []]
def jm_strT : List (List Int32) := [[108, 97, 110, 100, 32, 51, 32, 53, 48, 59, 32, 115, 101, 114, 105, 101, 115, 32, 114, 111, 121, 97, 108, 32, 49, 48, 48, 32, 49, 52, 49, 32, 115, 105, 122, 101, 32, 48, 32, 49, 48, 32, 115, 105, 122, 101, 32, 50, 32, 51, 59, 32, 115, 101, 114, 105, 101, 115, 32, 108, 111, 110, 103, 32, 54, 48, 32, 50, 48, 48, 32, 115, 105, 122, 101, 32, 48, 32, 52], [108, 97, 110, 100], [115, 101, 114, 105, 101, 115], [115, 105, 122, 101], [108, 97, 110, 100, 32], [59, 115, 101, 114, 105, 101, 115, 32], [32, 115, 105, 122, 101, 32]]
def jm_as {α : Type} (t : List (List (Nat × α))) (c i : Nat) : Option α := ((t.getD c []).find? (fun e => e.1 == i)).map (fun e => e.2)
def jm_fld (c i : Nat) : Option (Nat × Nat × Nat × Bool) := jm_as jm_fldT c i
def jm_mth (c i : Nat) : Option (Nat × Nat × Nat × Nat) := jm_as jm_mthT c i
def jm_cls (c i : Nat) : Option (Nat × List Value) := jm_as jm_clsT c i
def jm_acl (c i : Nat) : Option Nat := jm_as jm_aclT c i
def jm_cst (c i : Nat) : Option Value := jm_as jm_cstT c i
def jm_gst (c i : Nat) : Option Value := jm_as jm_gstT c i
def jm_cas (c i : Nat) : Option Nat := jm_as jm_casT c i
end
section
/-! The small machine: what a method does to an abstract memory, by the program's own bytes. -/
/-- a cell: an array (its kind: 0 int, 1 boolean, 2 long, 3 double, 4 Series, 5 Land, 7 a String, 8 the script; its contents), or an object (its class, its fields in the order of their slots); references are names -/
abbrev jm_Ent : Type := (Nat × vp_A) ⊕ (Nat × List Value)
/-- memory: the next name, the cells (behind the names: the script at jm_scr, the String constants from jm_str on), how many cells and slots were made -/
abbrev jm_Mem : Type := Nat × (Nat → jm_Ent) × Nat × Nat
abbrev jm_Res : Type := (Option Value ⊕ String) × jm_Mem
abbrev jm_Loc : Type := List (Option Value)
abbrev jm_K : Type := Nat → jm_Loc → List Value → jm_Mem → Option jm_Res
abbrev jm_Call : Type := Nat → List Value → jm_Mem → Option jm_Res
def jm_str : Nat := 1099511627776
def jm_scr : Nat := 2199023255552
/-- small Integers (of the cache), by their value; ArrayList's empty row; the rows of digits -/
def jm_int : Nat := 8796093022208
def jm_dcp : Nat := 35184372088832
def jm_dgt : Nat := 70368744177664
def jm_dgo : Nat := 140737488355328
def jm_bad : jm_Ent := .inr (999, [])
def jm_n (a b : Nat) (x : Option jm_Res) : Option jm_Res := if a = b then x else none
def jm_pI (st : List Value) (f : Int32 → List Value → Option jm_Res) : Option jm_Res := match st with | .int x :: r => f x r | _ => none
def jm_pL (st : List Value) (f : Int64 → List Value → Option jm_Res) : Option jm_Res := match st with | .long x :: r => f x r | _ => none
def jm_pF (st : List Value) (f : UInt32 → List Value → Option jm_Res) : Option jm_Res := match st with | .float x :: r => f x r | _ => none
def jm_pD (st : List Value) (f : UInt64 → List Value → Option jm_Res) : Option jm_Res := match st with | .double x :: r => f x r | _ => none
def jm_pR (st : List Value) (f : Nat → List Value → Option jm_Res) : Option jm_Res := match st with | .ref x :: r => f x r | _ => none
def jm_lI (l : jm_Loc) (i : Nat) (f : Int32 → Option jm_Res) : Option jm_Res := match l[i]? with | some (some (.int x)) => f x | _ => none
def jm_lL (l : jm_Loc) (i : Nat) (f : Int64 → Option jm_Res) : Option jm_Res := match l[i]? with | some (some (.long x)) => f x | _ => none
def jm_lF (l : jm_Loc) (i : Nat) (f : UInt32 → Option jm_Res) : Option jm_Res := match l[i]? with | some (some (.float x)) => f x | _ => none
def jm_lD (l : jm_Loc) (i : Nat) (f : UInt64 → Option jm_Res) : Option jm_Res := match l[i]? with | some (some (.double x)) => f x | _ => none
def jm_lR (l : jm_Loc) (i : Nat) (f : Nat → Option jm_Res) : Option jm_Res := match l[i]? with | some (some (.ref x)) => f x | _ => none
/-- place i of the locals is given up, and what reached into it -/
def jm_clr (l : jm_Loc) (i : Nat) : jm_Loc := match i with
  | 0 => l
  | j + 1 => match l[j]? with
    | some (some w) => if w.category = 2 then l.set j none else l
    | _ => l
def jm_st1 (l : jm_Loc) (i : Nat) (v : Option Value) : jm_Loc := (jm_clr l i).set i v
def jm_st2 (l : jm_Loc) (i : Nat) (v : Value) : jm_Loc := ((jm_clr l i).set i (some v)).set (i + 1) none
def jm_in (l : jm_Loc) (i : Nat) (x : Option jm_Res) : Option jm_Res := if i < l.length then x else none
def jm_tg (pc : Nat) (off : Int) (f : Nat → Option jm_Res) : Option jm_Res := match (pc : Int) + off with
  | .ofNat t => f t
  | .negSucc _ => none
def jm_up (m : jm_Mem) (n : Nat) (e : jm_Ent) : jm_Mem := (m.1, va_up m.2.1 n e, m.2.2)
/-- fields -/
def jm_gI (m : jm_Mem) (r ci k : Nat) : Option Int32 := match m.2.1 r with
  | .inr (c, fs) => if c = ci then (match fs[k]? with | some (.int x) => some x | _ => none) else none
  | _ => none
def jm_gL (m : jm_Mem) (r ci k : Nat) : Option Int64 := match m.2.1 r with
  | .inr (c, fs) => if c = ci then (match fs[k]? with | some (.long x) => some x | _ => none) else none
  | _ => none
def jm_gR (m : jm_Mem) (r ci k : Nat) : Option Nat := match m.2.1 r with
  | .inr (c, fs) => if c = ci then (match fs[k]? with | some (.ref x) => some x | _ => none) else none
  | _ => none
def jm_put (m : jm_Mem) (r ci k : Nat) (v : Value) : Option jm_Mem := match m.2.1 r with
  | .inr (c, fs) => if c = ci then (if k < fs.length then some (jm_up m r (.inr (c, fs.set k v))) else none) else none
  | _ => none
/-- arrays -/
def jm_len (m : jm_Mem) (r : Nat) : Option Nat := match m.2.1 r with
  | .inl (t, a) => if t = 7 ∨ t = 10 then none else some a.1
  | _ => none
def jm_ix (i : Int32) (n : Nat) : Option Nat := if i < 0 ∨ n ≤ i.toNatClampNeg then none else some i.toNatClampNeg
def jm_aI (m : jm_Mem) (r : Nat) (i : Int32) : Option Int32 := match m.2.1 r with
  | .inl (t, n, .inl f) => if t = 0 ∨ t = 8 then (jm_ix i n).map f else none
  | _ => none
def jm_gS (m : jm_Mem) (r : Nat) : Option (Nat × (Nat → Int32)) := match m.2.1 r with
  | .inl (t, n, .inl f) => if t = 7 then some (n, f) else none
  | _ => none
def jm_aZ (m : jm_Mem) (r : Nat) (i : Int32) : Option Int32 := match m.2.1 r with
  | .inl (t, n, .inl f) => if t = 1 then (jm_ix i n).map f else none
  | _ => none
def jm_aL (m : jm_Mem) (r : Nat) (i : Int32) : Option Int64 := match m.2.1 r with
  | .inl (t, n, .inr (.inl f)) => if t = 2 then (jm_ix i n).map f else none
  | _ => none
def jm_aD (m : jm_Mem) (r : Nat) (i : Int32) : Option UInt64 := match m.2.1 r with
  | .inl (t, n, .inr (.inr (.inr (.inl f)))) => if t = 3 then (jm_ix i n).map f else none
  | _ => none
def jm_aR (m : jm_Mem) (r : Nat) (i : Int32) : Option Nat := match m.2.1 r with
  | .inl (t, n, .inr (.inr (.inr (.inr f)))) => if t = 4 ∨ t = 5 then (jm_ix i n).bind f else none
  | _ => none
def jm_wI (m : jm_Mem) (r : Nat) (i x : Int32) : Option jm_Mem := match m.2.1 r with
  | .inl (t, n, .inl f) => if t = 0 then (jm_ix i n).map (fun k => jm_up m r (.inl (t, n, .inl (upd f k x)))) else none
  | _ => none
def jm_wZ (m : jm_Mem) (r : Nat) (i x : Int32) : Option jm_Mem := match m.2.1 r with
  | .inl (t, n, .inl f) => if t = 1 then (jm_ix i n).map (fun k => jm_up m r (.inl (t, n, .inl (upd f k (x &&& 1))))) else none
  | _ => none
def jm_wL (m : jm_Mem) (r : Nat) (i : Int32) (x : Int64) : Option jm_Mem := match m.2.1 r with
  | .inl (t, n, .inr (.inl f)) => if t = 2 then (jm_ix i n).map (fun k => jm_up m r (.inl (t, n, .inr (.inl (vp_updL f k x))))) else none
  | _ => none
def jm_wD (m : jm_Mem) (r : Nat) (i : Int32) (x : UInt64) : Option jm_Mem := match m.2.1 r with
  | .inl (t, n, .inr (.inr (.inr (.inl f)))) => if t = 3 then (jm_ix i n).map (fun k => jm_up m r (.inl (t, n, .inr (.inr (.inr (.inl (vf_upd f k x))))))) else none
  | _ => none
/-- the class of what may lie in an array of references -/
def jm_tc (t : Nat) : Nat := if t = 4 then 9 else 4
def jm_wR (m : jm_Mem) (r : Nat) (i : Int32) (x : Nat) : Option jm_Mem := match m.2.1 r with
  | .inl (t, n, .inr (.inr (.inr (.inr f)))) => if t = 4 ∨ t = 5 then (match m.2.1 x with
    | .inr (c, _) => if c = jm_tc t then (jm_ix i n).map (fun k => jm_up m r (.inl (t, n, .inr (.inr (.inr (.inr (va_up f k (some x)))))))) else none
    | _ => none) else none
  | _ => none
def jm_cpy (m : jm_Mem) (r0 : Nat) (i0 : Int32) (r1 : Nat) (i1 n : Int32) : Option jm_Mem := match m.2.1 r0, m.2.1 r1 with
  | .inl (t0, n0, .inl f), .inl (t1, n1, .inl g) => if r0 ≠ r1 ∧ t0 = 0 ∧ t1 = 0 ∧ ¬ i0 < 0 ∧ ¬ i1 < 0 ∧ ¬ n < 0 ∧ i0.toNatClampNeg + n.toNatClampNeg ≤ n0 ∧ i1.toNatClampNeg + n.toNatClampNeg ≤ n1 then some (jm_up m r1 (.inl (t1, n1, .inl (va_cpy f g i0.toNatClampNeg i1.toNatClampNeg n.toNatClampNeg)))) else none
  | .inl (t0, n0, .inr (.inl f)), .inl (t1, n1, .inr (.inl g)) => if r0 ≠ r1 ∧ t0 = 2 ∧ t1 = 2 ∧ ¬ i0 < 0 ∧ ¬ i1 < 0 ∧ ¬ n < 0 ∧ i0.toNatClampNeg + n.toNatClampNeg ≤ n0 ∧ i1.toNatClampNeg + n.toNatClampNeg ≤ n1 then some (jm_up m r1 (.inl (t1, n1, .inr (.inl (va_cpy f g i0.toNatClampNeg i1.toNatClampNeg n.toNatClampNeg))))) else none
  | _, _ => none
/-- rows of bytes (9; read alone: 10), rows of objects (6) -/
def jm_by (x : Int32) : Bool := decide (-128 ≤ x) && decide (x < 128)
def jm_aB (m : jm_Mem) (r : Nat) (i : Int32) : Option Int32 := match m.2.1 r with
  | .inl (t, n, .inl f) => if t = 9 ∨ t = 10 then (jm_ix i n).map f else none
  | _ => none
def jm_wB (m : jm_Mem) (r : Nat) (i x : Int32) : Option jm_Mem := match m.2.1 r with
  | .inl (t, n, .inl f) => if t = 9 ∧ jm_by x = true then (jm_ix i n).map (fun k => jm_up m r (.inl (t, n, .inl (upd f k x)))) else none
  | _ => none
def jm_aY (m : jm_Mem) (r : Nat) (i : Int32) : Option Int32 := (jm_aZ m r i).or (jm_aB m r i)
def jm_wY (m : jm_Mem) (r : Nat) (i x : Int32) : Option jm_Mem := (jm_wZ m r i x).or (jm_wB m r i x)
def jm_cpB (m : jm_Mem) (r0 : Nat) (i0 : Int32) (r1 : Nat) (i1 n : Int32) : Option jm_Mem := match m.2.1 r0, m.2.1 r1 with
  | .inl (t0, n0, .inl f), .inl (t1, n1, .inl g) => if r0 ≠ r1 ∧ t0 = 9 ∧ t1 = 9 ∧ ¬ i0 < 0 ∧ ¬ i1 < 0 ∧ ¬ n < 0 ∧ i0.toNatClampNeg + n.toNatClampNeg ≤ n0 ∧ i1.toNatClampNeg + n.toNatClampNeg ≤ n1 ∧ (∀ k, k < n.toNatClampNeg → jm_by (f (i0.toNatClampNeg + k)) = true) then some (jm_up m r1 (.inl (t1, n1, .inl (va_cpy f g i0.toNatClampNeg i1.toNatClampNeg n.toNatClampNeg)))) else none
  | _, _ => none
def jm_cpY (m : jm_Mem) (r0 : Nat) (i0 : Int32) (r1 : Nat) (i1 n : Int32) : Option jm_Mem := (jm_cpy m r0 i0 r1 i1 n).or (jm_cpB m r0 i0 r1 i1 n)
/-- the class of an object that may lie in a row of objects -/
def jm_elt (m : jm_Mem) (x : Nat) : Option Nat := if jm_int ≤ x ∧ x < jm_int + 256 then some 16 else match m.2.1 x with
  | .inr (17, _) => some 17
  | .inr (12, _) => some 12
  | _ => none
def jm_aO (m : jm_Mem) (r : Nat) (i : Int32) : Option Nat := match m.2.1 r with
  | .inl (t, n, .inr (.inr (.inr (.inr f)))) => if t = 6 then (jm_ix i n).bind f else none
  | _ => none
def jm_wO (m : jm_Mem) (r : Nat) (i : Int32) (x : Nat) : Option jm_Mem := match m.2.1 r with
  | .inl (t, n, .inr (.inr (.inr (.inr f)))) => if t = 6 ∧ (jm_elt m x).isSome = true then (jm_ix i n).map (fun k => jm_up m r (.inl (t, n, .inr (.inr (.inr (.inr (va_up f k (some x)))))))) else none
  | _ => none
def jm_aQ (m : jm_Mem) (r : Nat) (i : Int32) : Option Nat := (jm_aR m r i).or (jm_aO m r i)
def jm_wQ (m : jm_Mem) (r : Nat) (i : Int32) (x : Nat) : Option jm_Mem := (jm_wR m r i x).or (jm_wO m r i x)
/-- a constant's bytes, put into a row -/
def jm_gtb (m : jm_Mem) (r dst : Nat) (b c : Int32) : Option jm_Mem := match m.2.1 r, m.2.1 dst with
  | .inl (t0, n0, .inl f), .inl (t1, n1, .inl g) => if t0 = 7 ∧ t1 = 9 ∧ c = 0 ∧ ¬ b < 0 ∧ b.toNatClampNeg + n0 ≤ n1 then some (jm_up m dst (.inl (t1, n1, .inl (va_cpy f g 0 b.toNatClampNeg n0)))) else none
  | _, _ => none
/-- the first n of a row of objects are of class c -/
def jm_elc (m : jm_Mem) (n : Nat) (f : Nat → Option Nat) (c : Nat) : Bool := (List.range n).all (fun k => match f k with | none => true | some x => decide (jm_elt m x = some c))
def jm_els (m : jm_Mem) (n : Nat) (f : Nat → Option Nat) : Bool := jm_elc m n f 16 || (jm_elc m n f 17 || jm_elc m n f 12)
/-- may it be taken for an object of that kind -/
def jm_caO (m : jm_Mem) (r k : Nat) : Bool := match k with
  | 16 => decide (jm_int ≤ r) && decide (r < jm_int + 256)
  | 9 => (match m.2.1 r with | .inl (9, _, .inl _) => true | _ => false)
  | k => (match m.2.1 r with | .inr (c, _) => c == k && (c == 12 || c == 17) | _ => false)
/-- making: the new name is the next one -/
def jm_new (m : jm_Mem) (e : jm_Ent) (slots : Nat) : jm_Mem := (m.1 + 1, va_up m.2.1 m.1 e, m.2.2.1 + 1, m.2.2.2 + slots)
def jm_exc (m : jm_Mem) : jm_Mem := (m.1, m.2.1, m.2.2.1 + 1, m.2.2.2 + 6)
def jm_zero (t n : Nat) : Option vp_A := match t with
  | 0 => some (n, .inl (fun _ => 0))
  | 1 => some (n, .inl (fun _ => 0))
  | 2 => some (n, .inr (.inl (fun _ => 0)))
  | 3 => some (n, .inr (.inr (.inr (.inl (fun _ => 0)))))
  | 9 => some (n, .inl (fun _ => 0))
  | _ => none
def jm_at (a : ArrayType) : Nat := match a with | .int => 0 | .boolean => 1 | .long => 2 | .double => 3 | .byte => 9 | _ => 99
def jm_B (x : Int32) (k : Option jm_Res) : Option jm_Res := if x = 0 then k else if x = 1 then k else none
/-- the records of a method -/
abbrev jm_mY (M : jm_Meth) : MethodName := M.1
abbrev jm_mC (M : jm_Meth) : ByteArray := M.2.1
abbrev jm_mL (M : jm_Meth) : Nat := M.2.2.1
abbrev jm_mR (M : jm_Meth) : Option FieldType := M.2.2.2.1
abbrev jm_mO (M : jm_Meth) : Nat := M.2.2.2.2.1
abbrev jm_mS (M : jm_Meth) : Bool := M.2.2.2.2.2.1
abbrev jm_mI (M : jm_Meth) : jm_Ins := M.2.2.2.2.2.2.1
abbrev jm_mT (M : jm_Meth) : List (Nat × String) := M.2.2.2.2.2.2.2.1
abbrev jm_mH (M : jm_Meth) : List (Nat × Nat × Nat × String) := M.2.2.2.2.2.2.2.2
def jm_ins (M : jm_Meth) (pc : Nat) : Option (Instr × Nat) := ((jm_mI M).getD (pc / 32) []).getD (pc % 32) none
/-- what is thrown over this frame: the handler begins with a store -/
def jm_hd (h : List (Nat × Nat × Nat × String)) (pc : Nat) (E : String) : Option Nat := (h.find? (fun e => decide (e.1 ≤ pc) && decide (pc < e.2.1) && e.2.2.2 == E)).map (fun e => e.2.2.1)
def jm_thr (M : jm_Meth) (pc : Nat) (l : jm_Loc) (E : String) (m : jm_Mem) (K : jm_K) : Option jm_Res := match jm_mH M with
  | [] => some (.inr E, m)
  | h => match jm_hd h pc E with
    | none => none
    | some t => match jm_ins M t with
      | some (.astore i, n) => jm_n n 2 (jm_in l i (K (t + 2) (jm_st1 l i none) [] m))
      | some (.astore_n i, n) => jm_n n 1 (jm_in l i (K (t + 1) (jm_st1 l i none) [] m))
      | _ => none
/-- what comes back of a call: nothing, an int, a long, a double; or it throws -/
def jm_bV (f : jm_Mem → Option jm_Res) (g : String → jm_Mem → Option jm_Res) (r : jm_Res) : Option jm_Res := match r with
  | (.inl none, m) => f m
  | (.inr E, m) => g E m
  | _ => none
def jm_bI (f : Int32 → jm_Mem → Option jm_Res) (g : String → jm_Mem → Option jm_Res) (r : jm_Res) : Option jm_Res := match r with
  | (.inl (some (.int x)), m) => f x m
  | (.inr E, m) => g E m
  | _ => none
def jm_bL (f : Int64 → jm_Mem → Option jm_Res) (g : String → jm_Mem → Option jm_Res) (r : jm_Res) : Option jm_Res := match r with
  | (.inl (some (.long x)), m) => f x m
  | (.inr E, m) => g E m
  | _ => none
def jm_bR (f : Nat → jm_Mem → Option jm_Res) (g : String → jm_Mem → Option jm_Res) (r : jm_Res) : Option jm_Res := match r with
  | (.inl (some (.ref x)), m) => f x m
  | (.inr E, m) => g E m
  | _ => none
def jm_bD (f : UInt64 → jm_Mem → Option jm_Res) (g : String → jm_Mem → Option jm_Res) (r : jm_Res) : Option jm_Res := match r with
  | (.inl (some (.double x)), m) => f x m
  | (.inr E, m) => g E m
  | _ => none
def jm_x (E : String) (m : jm_Mem) : Option jm_Res := some (.inr E, m)
def jm_y (_ : String) (_ : jm_Mem) : Option jm_Res := none
/-- .. by the kind of its answer: 0 none, 1 int, 2 long, 3 double -/
def jm_back (rk : Nat) (M : jm_Meth) (pc : Nat) (l : jm_Loc) (st : List Value) (K : jm_K) : jm_Res → Option jm_Res := match rk with
  | 0 => jm_bV (fun m => K (pc + 3) l st m) (fun E m => jm_thr M pc l E m K)
  | 1 => jm_bI (fun x m => K (pc + 3) l (.int x :: st) m) (fun E m => jm_thr M pc l E m K)
  | 2 => jm_bL (fun x m => K (pc + 3) l (.long x :: st) m) (fun E m => jm_thr M pc l E m K)
  | 3 => jm_bD (fun x m => K (pc + 3) l (.double x :: st) m) (fun E m => jm_thr M pc l E m K)
  | 4 => jm_bR (fun x m => K (pc + 3) l (.ref x :: st) m) (fun E m => jm_thr M pc l E m K)
  | _ => fun _ => none
/-- .. of a method that doesn't throw -/
def jm_bak (rk pc : Nat) (l : jm_Loc) (st : List Value) (K : jm_K) : jm_Res → Option jm_Res := match rk with
  | 0 => jm_bV (fun m => K (pc + 3) l st m) jm_y
  | 1 => jm_bI (fun x m => K (pc + 3) l (.int x :: st) m) jm_y
  | 2 => jm_bL (fun x m => K (pc + 3) l (.long x :: st) m) jm_y
  | 3 => jm_bD (fun x m => K (pc + 3) l (.double x :: st) m) jm_y
  | 4 => jm_bR (fun x m => K (pc + 3) l (.ref x :: st) m) jm_y
  | _ => fun _ => none
def jm_pop : Nat → List Value → List Value → (List Value → List Value → Option jm_Res) → Option jm_Res
  | 0, st, a, f => f a st
  | n + 1, v :: st, a, f => jm_pop n st (v :: a) f
  | _ + 1, [], _, _ => none
def jm_sm (st : List Value) (x : Option jm_Res) : Option jm_Res := if (st.map fun v => v.category).sum ≤ 8 then x else none
def jm_n32 (r : UInt32) (x : Option jm_Res) : Option jm_Res := if r &&& 0x7fffffff ≤ 0x7f800000 then x else none
def jm_n64 (r : UInt64) (x : Option jm_Res) : Option jm_Res := if r &&& 0x7fffffffffffffff ≤ 0x7ff0000000000000 then x else none
def jm_mk (m : jm_Mem) (e : jm_Ent) (slots : Nat) (f : jm_Mem → Option jm_Res) : Option jm_Res := if m.1 < 1000000 then f (jm_new m e slots) else none
def jm_cond (c : Jvm.ClassFile.Cond) (x y : Int32) (a b : Option jm_Res) : Option jm_Res := match c with
  | .eq => if x = y then a else b
  | .ne => if x = y then b else a
  | .lt => if x < y then a else b
  | .ge => if y ≤ x then a else b
  | .gt => if y < x then a else b
  | .le => if x ≤ y then a else b
def jm_ret (M : jm_Meth) (t : FieldType) (x : Option jm_Res) : Option jm_Res := if jm_mR M = some t then x else none
def jm_iret (M : jm_Meth) (x : Int32) (m : jm_Mem) : Option jm_Res := match jm_mR M with
  | some .int => some (.inl (some (.int x)), m)
  | some .boolean => jm_B x (some (.inl (some (.int x)), m))
  | some .byte => if jm_by x = true then some (.inl (some (.int x)), m) else none
  | some .char => if 0 ≤ x ∧ x < 65536 then some (.inl (some (.int x)), m) else none
  | _ => none
/-- Math.floorMod of whole numbers -/
def jm_fm (x y : Int32) : Int32 := if 0 ≤ x ^^^ y then x - x / y * y else if x - x / y * y = 0 then x - x / y * y else x - x / y * y + y
def jm_aret (M : jm_Meth) (x : Nat) (m : jm_Mem) : Option jm_Res := match jm_mR M with
  | some (.object _) => some (.inl (some (.ref x)), m)
  | some (.array _) => some (.inl (some (.ref x)), m)
  | _ => none
/-- one call, by the table's entry: target, arguments without the receiver, kind, kind of the answer -/
def jm_inv (call : jm_Call) (M : jm_Meth) (pc : Nat) (l : jm_Loc) (st : List Value) (m : jm_Mem) (K : jm_K) (e : Nat × Nat × Nat × Nat) : Option jm_Res :=
  match e.2.2.1 with
  | 0 => jm_pop e.2.1 st [] fun as st => jm_pR st fun r st => jm_sm st ((call e.1 (.ref r :: as) m).bind (jm_back e.2.2.2 M pc l st K))
  | 1 => jm_pop e.2.1 st [] fun as st => jm_sm st ((call e.1 as m).bind (jm_back e.2.2.2 M pc l st K))
  | 2 => jm_pop e.2.1 st [] fun as st => jm_pR st fun r st => jm_sm st ((call e.1 (.ref r :: as) m).bind (jm_bak 0 pc l st K))
  | 4 => jm_pop e.2.1 st [] fun as st => jm_sm st ((call e.1 as m).bind (jm_bak e.2.2.2 pc l st K))
  | 5 => jm_pop e.2.1 st [] fun as st => jm_pR st fun r st => jm_sm st ((call e.1 (.ref r :: as) m).bind (jm_bak 0 pc l st K))
  | 3 => jm_pop e.2.1 st [] fun as st => jm_pR st fun r st => jm_sm st ((call e.1 (.ref r :: as) m).bind (jm_bak e.2.2.2 pc l st K))
  | 6 => jm_pop e.2.1 st [] fun as st => jm_pR st fun r st => jm_sm st ((call e.1 (.ref r :: as) m).bind (jm_bak e.2.2.2 pc l st K))
  | 7 => jm_pop e.2.1 st [] fun as st => jm_pR st fun r st => jm_sm st ((call e.1 (.ref r :: as) m).bind (jm_bak e.2.2.2 pc l st K))
  | 8 => jm_pop e.2.1 st [] fun as st => jm_pR st fun r st => jm_sm st ((call e.1 (.ref r :: as) m).bind (jm_bak e.2.2.2 pc l st K))
  | 10 => jm_pR st fun _ st => jm_sm st (K (pc + 3) l st m)
  | 11 => jm_pI st fun y st => jm_pI st fun x st => jm_sm st (K (pc + 3) l (.int (if x < y then y else x) :: st) m)
  | 12 => jm_pI st fun y st => jm_pI st fun x st => jm_sm st (K (pc + 3) l (.int (if y < x then y else x) :: st) m)
  | 13 => jm_pL st fun x st => jm_sm st (K (pc + 3) l (.long (if 0 < x then x else -x) :: st) m)
  | 14 => jm_pL st fun y st => jm_pL st fun x st => jm_sm st (K (pc + 3) l (.long (if y < x then y else x) :: st) m)
  | 15 => jm_pI st fun n st => jm_pI st fun i1 st => jm_pR st fun r1 st => jm_pI st fun i0 st => jm_pR st fun r0 st => jm_sm st ((jm_cpY m r0 i0 r1 i1 n).bind fun m => K (pc + 3) l st m)
  | 16 => jm_pR st fun r st => jm_sm st ((jm_gS m r).bind fun s => K (pc + 3) l (.int (Int32.ofNat s.1) :: st) m)
  | 17 => jm_pI st fun i st => jm_pR st fun r st => jm_sm st ((jm_gS m r).bind fun s => (jm_ix i s.1).bind fun k => K (pc + 3) l (.int (s.2 k) :: st) m)
  | 18 => jm_pF st fun x st => jm_sm st (if Op.cmpValue (FP.fcmp x x) .l = 0 then K (pc + 3) l (.int x.toInt32 :: st) m else none)
  | 19 => jm_pI st fun y st => jm_pI st fun x st => jm_sm st (if y = 0 then none else K (pc + 3) l (.int (jm_fm x y) :: st) m)
  | 23 => jm_pI st fun n st => jm_pI st fun i st => jm_sm st (if 0 ≤ i ∧ i < n then K (pc + 3) l st m else none)
  | 24 => jm_pR st fun r st => jm_sm st (if jm_int ≤ r ∧ r < jm_int + 256 then K (pc + 3) l (.int (Int32.ofInt ((r : Int) - jm_int - 128)) :: st) m else none)
  | 25 => jm_pI st fun i st => jm_sm st (if jm_by i = true then K (pc + 3) l (.ref (jm_int + (i.toInt + 128).toNat) :: st) m else none)
  | 26 => jm_pI st fun c st => jm_pI st fun b st => jm_pR st fun dst st => jm_pR st fun r st => jm_sm st ((jm_gtb m r dst b c).bind fun m => K (pc + 3) l st m)
  | 27 => jm_pI st fun k st => jm_pR st fun r st => jm_sm st (match m.2.1 r with
    | .inl (t, n, .inr (.inr (.inr (.inr f)))) => if t = 6 ∧ ¬ k < 0 ∧ n ≤ k.toNatClampNeg ∧ k.toNatClampNeg ≤ 10000000 ∧ jm_els m n f = true then jm_mk m (.inl (6, k.toNatClampNeg, .inr (.inr (.inr (.inr (va_cpy f (fun _ => none) 0 0 n)))))) k.toNatClampNeg fun m1 => K (pc + 3) l (.ref m.1 :: st) m1 else none
    | _ => none)
  | 28 => jm_pI st fun n st => jm_pI st fun i st => jm_sm st (if 0 ≤ i ∧ i < n then K (pc + 3) l (.int i :: st) m else none)
  | 29 => jm_pR st fun r st => jm_sm st ((jm_gS m r).bind fun _ => K (pc + 3) l (.int 0 :: st) m)
  | 30 => jm_pR st fun r st => jm_sm st (match m.2.1 r with
    | .inl (t, n, .inl f) => if t = 9 ∧ (∀ k, k < n → jm_by (f k) = true) then jm_mk m (.inl (9, n, .inl f)) n fun m1 => K (pc + 3) l (.ref m.1 :: st) m1 else none
    | _ => none)
  | _ => none
def jm_stp (call : jm_Call) (M : jm_Meth) (pc : Nat) (l : jm_Loc) (st : List Value) (m : jm_Mem) (K : jm_K) : Option jm_Res :=
  match jm_ins M pc with
  | none => none
  | some (i, n) => match i with
    | .iconst v => jm_n n 1 (K (pc + 1) l (.int (Int32.ofInt v) :: st) m)
    | .bipush v => jm_n n 2 (if -128 ≤ v ∧ v < 128 then K (pc + 2) l (.int (Int32.ofInt v) :: st) m else none)
    | .sipush v => jm_n n 3 (if -32768 ≤ v ∧ v < 32768 then K (pc + 3) l (.int (Int32.ofInt v) :: st) m else none)
    | .lconst v => jm_n n 1 (K (pc + 1) l (.long (Int64.ofNat (v : Nat)) :: st) m)
    | .fconst v => jm_n n 1 (match v with
      | 0 => K (pc + 1) l (.float FP.fconst0 :: st) m
      | 1 => K (pc + 1) l (.float FP.fconst1 :: st) m
      | _ => K (pc + 1) l (.float FP.fconst2 :: st) m)
    | .dconst v => jm_n n 1 (match v with
      | 0 => K (pc + 1) l (.double FP.dconst0 :: st) m
      | _ => none)
    | .ldc x => jm_n n 2 (match jm_cst (jm_mO M) x with
      | some (.long _) => none
      | some v => K (pc + 2) l (v :: st) m
      | none => none)
    | .ldc_w x => jm_n n 3 (match jm_cst (jm_mO M) x with
      | some (.float v) => K (pc + 3) l (.float v :: st) m
      | _ => none)
    | .ldc2_w x => jm_n n 3 (match jm_cst (jm_mO M) x with
      | some (.long v) => K (pc + 3) l (.long v :: st) m
      | _ => none)
    | .iload_n k => jm_n n 1 (jm_lI l k fun x => K (pc + 1) l (.int x :: st) m)
    | .iload k => jm_n n 2 (jm_lI l k fun x => K (pc + 2) l (.int x :: st) m)
    | .lload_n k => jm_n n 1 (jm_lL l k fun x => K (pc + 1) l (.long x :: st) m)
    | .lload k => jm_n n 2 (jm_lL l k fun x => K (pc + 2) l (.long x :: st) m)
    | .fload_n k => jm_n n 1 (jm_lF l k fun x => K (pc + 1) l (.float x :: st) m)
    | .dload k => jm_n n 2 (jm_lD l k fun x => K (pc + 2) l (.double x :: st) m)
    | .aload_n k => jm_n n 1 (jm_lR l k fun x => K (pc + 1) l (.ref x :: st) m)
    | .aload k => jm_n n 2 (jm_lR l k fun x => K (pc + 2) l (.ref x :: st) m)
    | .istore_n k => jm_n n 1 (jm_in l k (jm_pI st fun x st => K (pc + 1) (jm_st1 l k (some (.int x))) st m))
    | .istore k => jm_n n 2 (jm_in l k (jm_pI st fun x st => K (pc + 2) (jm_st1 l k (some (.int x))) st m))
    | .fstore_n k => jm_n n 1 (jm_in l k (jm_pF st fun x st => K (pc + 1) (jm_st1 l k (some (.float x))) st m))
    | .astore_n k => jm_n n 1 (jm_in l k (jm_pR st fun x st => K (pc + 1) (jm_st1 l k (some (.ref x))) st m))
    | .astore k => jm_n n 2 (jm_in l k (jm_pR st fun x st => K (pc + 2) (jm_st1 l k (some (.ref x))) st m))
    | .lstore_n k => jm_n n 1 (jm_in l (k + 1) (jm_pL st fun x st => K (pc + 1) (jm_st2 l k (.long x)) st m))
    | .lstore k => jm_n n 2 (jm_in l (k + 1) (jm_pL st fun x st => K (pc + 2) (jm_st2 l k (.long x)) st m))
    | .dstore k => jm_n n 2 (jm_in l (k + 1) (jm_pD st fun x st => K (pc + 2) (jm_st2 l k (.double x)) st m))
    | .iinc k v => jm_n n 3 (jm_in l k (jm_lI l k fun x => K (pc + 3) (jm_st1 l k (some (.int (x + Int32.ofInt v)))) st m))
    | .iadd => jm_n n 1 (jm_pI st fun y st => jm_pI st fun x st => K (pc + 1) l (.int (x + y) :: st) m)
    | .isub => jm_n n 1 (jm_pI st fun y st => jm_pI st fun x st => K (pc + 1) l (.int (x - y) :: st) m)
    | .imul => jm_n n 1 (jm_pI st fun y st => jm_pI st fun x st => K (pc + 1) l (.int (x * y) :: st) m)
    | .idiv => jm_n n 1 (jm_pI st fun y st => jm_pI st fun x st => if y = 0 then none else K (pc + 1) l (.int (x / y) :: st) m)
    | .irem => jm_n n 1 (jm_pI st fun y st => jm_pI st fun x st => if y = 0 then none else K (pc + 1) l (.int (x - x / y * y) :: st) m)
    | .ineg => jm_n n 1 (jm_pI st fun x st => K (pc + 1) l (.int (-x) :: st) m)
    | .iand => jm_n n 1 (jm_pI st fun y st => jm_pI st fun x st => K (pc + 1) l (.int (x &&& y) :: st) m)
    | .ixor => jm_n n 1 (jm_pI st fun y st => jm_pI st fun x st => K (pc + 1) l (.int (x ^^^ y) :: st) m)
    | .ishl => jm_n n 1 (jm_pI st fun y st => jm_pI st fun x st => K (pc + 1) l (.int (x <<< (y &&& 31)) :: st) m)
    | .ishr => jm_n n 1 (jm_pI st fun y st => jm_pI st fun x st => K (pc + 1) l (.int (x >>> (y &&& 31)) :: st) m)
    | .iushr => jm_n n 1 (jm_pI st fun y st => jm_pI st fun x st => K (pc + 1) l (.int (x.toUInt32 >>> (y.toUInt32 &&& Int32.toUInt32 31)).toInt32 :: st) m)
    | .ladd => jm_n n 1 (jm_pL st fun y st => jm_pL st fun x st => K (pc + 1) l (.long (x + y) :: st) m)
    | .lsub => jm_n n 1 (jm_pL st fun y st => jm_pL st fun x st => K (pc + 1) l (.long (x - y) :: st) m)
    | .lmul => jm_n n 1 (jm_pL st fun y st => jm_pL st fun x st => K (pc + 1) l (.long (x * y) :: st) m)
    | .ldiv => jm_n n 1 (jm_pL st fun y st => jm_pL st fun x st => if y = 0 then none else K (pc + 1) l (.long (x / y) :: st) m)
    | .lneg => jm_n n 1 (jm_pL st fun x st => K (pc + 1) l (.long (-x) :: st) m)
    | .lcmp => jm_n n 1 (jm_pL st fun y st => jm_pL st fun x st => K (pc + 1) l (.int (lg_cmp x y) :: st) m)
    | .i2l => jm_n n 1 (jm_pI st fun x st => K (pc + 1) l (.long x.toInt64 :: st) m)
    | .l2i => jm_n n 1 (jm_pL st fun x st => K (pc + 1) l (.int x.toInt32 :: st) m)
    | .l2f => jm_n n 1 (jm_pL st fun x st => K (pc + 1) l (.float (FP.l2f x) :: st) m)
    | .i2d => jm_n n 1 (jm_pI st fun x st => K (pc + 1) l (.double (FP.i2d x) :: st) m)
    | .l2d => jm_n n 1 (jm_pL st fun x st => K (pc + 1) l (.double (FP.l2d x) :: st) m)
    | .f2i => jm_n n 1 (jm_pF st fun x st => K (pc + 1) l (.int (FP.f2i x) :: st) m)
    | .fsub => jm_n n 1 (jm_pF st fun y st => jm_pF st fun x st => jm_n32 (FP.fsub x y) (K (pc + 1) l (.float (FP.fsub x y) :: st) m))
    | .fmul => jm_n n 1 (jm_pF st fun y st => jm_pF st fun x st => jm_n32 (FP.fmul x y) (K (pc + 1) l (.float (FP.fmul x y) :: st) m))
    | .fdiv => jm_n n 1 (jm_pF st fun y st => jm_pF st fun x st => jm_n32 (FP.fdiv x y) (K (pc + 1) l (.float (FP.fdiv x y) :: st) m))
    | .ddiv => jm_n n 1 (jm_pD st fun y st => jm_pD st fun x st => jm_n64 (FP.ddiv x y) (K (pc + 1) l (.double (FP.ddiv x y) :: st) m))
    | .fcmp op => jm_n n 1 (jm_pF st fun y st => jm_pF st fun x st => K (pc + 1) l (.int (Op.cmpValue (FP.fcmp x y) op) :: st) m)
    | .dcmp op => jm_n n 1 (jm_pD st fun y st => jm_pD st fun x st => K (pc + 1) l (.int (Op.cmpValue (FP.dcmp x y) op) :: st) m)
    | .dup => jm_n n 1 (match st with
      | .int x :: st => K (pc + 1) l (.int x :: .int x :: st) m
      | .ref x :: st => K (pc + 1) l (.ref x :: .ref x :: st) m
      | _ => none)
    | .dup2 => jm_n n 1 (match st with
      | .int y :: .ref x :: st => K (pc + 1) l (.int y :: .ref x :: .int y :: .ref x :: st) m
      | .long x :: st => K (pc + 1) l (.long x :: .long x :: st) m
      | _ => none)
    | .pop => jm_n n 1 (match st with
      | .int _ :: st => K (pc + 1) l st m
      | .ref _ :: st => K (pc + 1) l st m
      | _ => none)
    | .ifCond c off => jm_n n 3 (jm_pI st fun x st => jm_tg pc off fun t => jm_cond c x 0 (K t l st m) (K (pc + 3) l st m))
    | .if_icmp c off => jm_n n 3 (jm_pI st fun y st => jm_pI st fun x st => jm_tg pc off fun t => jm_cond c x y (K t l st m) (K (pc + 3) l st m))
    | .goto off => jm_n n 3 (jm_tg pc off fun t => K t l st m)
    | .tableswitch d lo hi offs => jm_pI st fun x st => if x.toInt < lo ∨ hi < x.toInt then jm_tg pc d fun t => K t l st m else
        match offs[(x.toInt - lo).toNat]? with
        | some off => jm_tg pc off fun t => K t l st m
        | none => none
    | .getfield x => jm_n n 3 (jm_pR st fun r st => match jm_fld (jm_mO M) x with
      | some (ci, k, 0, _) => (jm_gI m r ci k).bind fun v => K (pc + 3) l (.int v :: st) m
      | some (ci, k, 1, _) => (jm_gI m r ci k).bind fun v => K (pc + 3) l (.int v :: st) m
      | some (ci, k, 2, _) => (jm_gL m r ci k).bind fun v => K (pc + 3) l (.long v :: st) m
      | some (ci, k, 3, _) => (jm_gR m r ci k).bind fun v => K (pc + 3) l (.ref v :: st) m
      | some (ci, k, 4, _) => (jm_gI m r ci k).bind fun v => K (pc + 3) l (.int v :: st) m
      | _ => none)
    | .putfield x => jm_n n 3 (match jm_fld (jm_mO M) x with
      | some (ci, k, kd, fin) => if fin = true ∧ ¬ ((jm_mY M).name = "<init>" ∧ ci = jm_mO M) then none else (match kd with
        | 0 => jm_pI st fun v st => jm_pR st fun r st => (jm_put m r ci k (.int v)).bind fun m => K (pc + 3) l st m
        | 1 => jm_pI st fun v st => jm_pR st fun r st => jm_B v ((jm_put m r ci k (.int v)).bind fun m => K (pc + 3) l st m)
        | 2 => jm_pL st fun v st => jm_pR st fun r st => (jm_put m r ci k (.long v)).bind fun m => K (pc + 3) l st m
        | 3 => jm_pR st fun v st => jm_pR st fun r st => (jm_put m r ci k (.ref v)).bind fun m => K (pc + 3) l st m
        | 4 => jm_pI st fun v st => jm_pR st fun r st => if jm_by v = true then (jm_put m r ci k (.int v)).bind fun m => K (pc + 3) l st m else none
        | _ => none)
      | none => none)
    | .arraylength => jm_n n 1 (jm_pR st fun r st => (jm_len m r).bind fun k => K (pc + 1) l (.int (Int32.ofNat k) :: st) m)
    | .iaload => jm_n n 1 (jm_pI st fun i st => jm_pR st fun r st => (jm_aI m r i).bind fun v => K (pc + 1) l (.int v :: st) m)
    | .baload => jm_n n 1 (jm_pI st fun i st => jm_pR st fun r st => (jm_aY m r i).bind fun v => K (pc + 1) l (.int v :: st) m)
    | .laload => jm_n n 1 (jm_pI st fun i st => jm_pR st fun r st => (jm_aL m r i).bind fun v => K (pc + 1) l (.long v :: st) m)
    | .daload => jm_n n 1 (jm_pI st fun i st => jm_pR st fun r st => (jm_aD m r i).bind fun v => K (pc + 1) l (.double v :: st) m)
    | .aaload => jm_n n 1 (jm_pI st fun i st => jm_pR st fun r st => (jm_aQ m r i).bind fun v => K (pc + 1) l (.ref v :: st) m)
    | .iastore => jm_n n 1 (jm_pI st fun v st => jm_pI st fun i st => jm_pR st fun r st => (jm_wI m r i v).bind fun m => K (pc + 1) l st m)
    | .bastore => jm_n n 1 (jm_pI st fun v st => jm_pI st fun i st => jm_pR st fun r st => (jm_wY m r i v).bind fun m => K (pc + 1) l st m)
    | .lastore => jm_n n 1 (jm_pL st fun v st => jm_pI st fun i st => jm_pR st fun r st => (jm_wL m r i v).bind fun m => K (pc + 1) l st m)
    | .dastore => jm_n n 1 (jm_pD st fun v st => jm_pI st fun i st => jm_pR st fun r st => (jm_wD m r i v).bind fun m => K (pc + 1) l st m)
    | .aastore => jm_n n 1 (jm_pR st fun v st => jm_pI st fun i st => jm_pR st fun r st => (jm_wQ m r i v).bind fun m => K (pc + 1) l st m)
    | .new x => jm_n n 3 (match (jm_mT M).find? (fun e => e.1 == pc) with
      | some e => jm_sm st (some (.inr e.2, jm_exc m))
      | none => match jm_cls (jm_mO M) x with
        | some (ci, fs) => jm_mk m (.inr (ci, fs)) fs.length fun m1 => K (pc + 3) l (.ref m.1 :: st) m1
        | none => none)
    | .newarray a => jm_n n 2 (jm_pI st fun k st => if k < 0 ∨ 10000000 < k.toNatClampNeg then none else (jm_zero (jm_at a) k.toNatClampNeg).bind fun z => jm_mk m (.inl (jm_at a, z)) k.toNatClampNeg fun m1 => K (pc + 2) l (.ref m.1 :: st) m1)
    | .anewarray x => jm_n n 3 (jm_pI st fun k st => if k < 0 ∨ 10000000 < k.toNatClampNeg then none else (match jm_acl (jm_mO M) x with
      | some t => jm_mk m (.inl (t, k.toNatClampNeg, .inr (.inr (.inr (.inr (fun _ => none)))))) k.toNatClampNeg fun m1 => K (pc + 3) l (.ref m.1 :: st) m1
      | none => none))
    | .invokevirtual x => jm_n n 3 (match jm_mth (jm_mO M) x with
      | some (t, a, 0, rk) => jm_inv call M pc l st m K (t, a, 0, rk)
      | some (t, a, 16, rk) => jm_inv call M pc l st m K (t, a, 16, rk)
      | some (t, a, 7, rk) => jm_inv call M pc l st m K (t, a, 7, rk)
      | some (t, a, 8, rk) => jm_inv call M pc l st m K (t, a, 8, rk)
      | some (t, a, 24, rk) => jm_inv call M pc l st m K (t, a, 24, rk)
      | some (t, a, 26, rk) => jm_inv call M pc l st m K (t, a, 26, rk)
      | some (t, a, 29, rk) => jm_inv call M pc l st m K (t, a, 29, rk)
      | some (t, a, 30, rk) => jm_inv call M pc l st m K (t, a, 30, rk)
      | some (t, a, 17, rk) => jm_inv call M pc l st m K (t, a, 17, rk)
      | _ => none)
    | .invokestatic x => jm_n n 3 (match jm_mth (jm_mO M) x with
      | some (t, a, 1, rk) => jm_inv call M pc l st m K (t, a, 1, rk)
      | some (t, a, 4, rk) => jm_inv call M pc l st m K (t, a, 4, rk)
      | some (t, a, 11, rk) => jm_inv call M pc l st m K (t, a, 11, rk)
      | some (t, a, 12, rk) => jm_inv call M pc l st m K (t, a, 12, rk)
      | some (t, a, 13, rk) => jm_inv call M pc l st m K (t, a, 13, rk)
      | some (t, a, 14, rk) => jm_inv call M pc l st m K (t, a, 14, rk)
      | some (t, a, 15, rk) => jm_inv call M pc l st m K (t, a, 15, rk)
      | some (t, a, 18, rk) => jm_inv call M pc l st m K (t, a, 18, rk)
      | some (t, a, 19, rk) => jm_inv call M pc l st m K (t, a, 19, rk)
      | some (t, a, 23, rk) => jm_inv call M pc l st m K (t, a, 23, rk)
      | some (t, a, 25, rk) => jm_inv call M pc l st m K (t, a, 25, rk)
      | some (t, a, 27, rk) => jm_inv call M pc l st m K (t, a, 27, rk)
      | some (t, a, 28, rk) => jm_inv call M pc l st m K (t, a, 28, rk)
      | _ => none)
    | .invokespecial x => jm_n n 3 (match jm_mth (jm_mO M) x with
      | some (t, a, 2, rk) => jm_inv call M pc l st m K (t, a, 2, rk)
      | some (t, a, 5, rk) => jm_inv call M pc l st m K (t, a, 5, rk)
      | some (t, a, 6, rk) => jm_inv call M pc l st m K (t, a, 6, rk)
      | some (t, a, 10, rk) => jm_inv call M pc l st m K (t, a, 10, rk)
      | _ => none)
    | .invokeinterface x k => jm_n n 5 (match jm_mth (jm_mO M) x with
      | some (t, a, 3, rk) => if k = a + 1 then jm_inv call M (pc + 2) l st m K (t, a, 3, rk) else none
      | _ => none)
    | .aconst_null => jm_n n 1 (K (pc + 1) l (.null :: st) m)
    | .dup_x1 => jm_n n 1 (match st with
      | .ref x :: .ref y :: st => K (pc + 1) l (.ref x :: .ref y :: .ref x :: st) m
      | .int x :: .ref y :: st => K (pc + 1) l (.int x :: .ref y :: .int x :: st) m
      | _ => none)
    | .i2b => jm_n n 1 (jm_pI st fun x st => K (pc + 1) l (.int x.toInt8.toInt32 :: st) m)
    | .i2c => jm_n n 1 (jm_pI st fun x st => if 0 ≤ x ∧ x < 65536 then K (pc + 1) l (.int x :: st) m else none)
    | .if_acmp c off => jm_n n 3 (jm_pR st fun y st => jm_pR st fun x st => if x = y then (match c with | .eq => jm_tg pc off fun t => K t l st m | .ne => K (pc + 3) l st m) else none)
    | .ifnonnull off => jm_n n 3 (jm_pR st fun _ st => jm_tg pc off fun t => K t l st m)
    | .getstatic x => jm_n n 3 (match jm_gst (jm_mO M) x with
      | some v => K (pc + 3) l (v :: st) m
      | none => none)
    | .checkcast x => jm_n n 3 (jm_pR st fun r st => match jm_cas (jm_mO M) x with
      | some k => if jm_caO m r k = true then K (pc + 3) l (.ref r :: st) m else none
      | none => none)
    | .areturn => jm_n n 1 (match st with
      | [.ref x] => jm_aret M x m
      | _ => none)
    | .ireturn => jm_n n 1 (match st with
      | [.int x] => jm_iret M x m
      | _ => none)
    | .lreturn => jm_n n 1 (match st with
      | [.long x] => jm_ret M .long (some (.inl (some (.long x)), m))
      | _ => none)
    | .dreturn => jm_n n 1 (match st with
      | [.double x] => jm_ret M .double (some (.inl (some (.double x)), m))
      | _ => none)
    | .return_ => jm_n n 1 (match st, jm_mR M with
      | [], none => some (.inl none, m)
      | _, _ => none)
    | _ => none
end
section
/-! A step goes on at one place, or ends: so runs are the same however long they may be. -/
def jm_det (F : jm_K → Option jm_Res) : Prop := (∃ o, ∀ K, F K = o) ∨ ∃ pc l st m, ∀ K, F K = K pc l st m
theorem det_c (o : Option jm_Res) : jm_det (fun _ => o) := Or.inl ⟨o, fun _ => rfl⟩
theorem det_k (pc : Nat) (l : jm_Loc) (st : List Value) (m : jm_Mem) : jm_det (fun K => K pc l st m) := Or.inr ⟨pc, l, st, m, fun _ => rfl⟩
theorem det_ite {c : Prop} [Decidable c] {F G : jm_K → Option jm_Res} (hF : jm_det F) (hG : jm_det G) : jm_det (fun K => if c then F K else G K) := by
  by_cases h : c
  · simpa [h] using hF
  · simpa [h] using hG
theorem det_n {a b : Nat} {F : jm_K → Option jm_Res} (h : jm_det F) : jm_det (fun K => jm_n a b (F K)) := det_ite h (det_c none)
theorem det_n32 {a : UInt32} {F : jm_K → Option jm_Res} (h : jm_det F) : jm_det (fun K => jm_n32 a (F K)) := det_ite h (det_c none)
theorem det_n64 {a : UInt64} {F : jm_K → Option jm_Res} (h : jm_det F) : jm_det (fun K => jm_n64 a (F K)) := det_ite h (det_c none)
theorem det_in {l : jm_Loc} {i : Nat} {F : jm_K → Option jm_Res} (h : jm_det F) : jm_det (fun K => jm_in l i (F K)) := det_ite h (det_c none)
theorem det_sm {st : List Value} {F : jm_K → Option jm_Res} (h : jm_det F) : jm_det (fun K => jm_sm st (F K)) := det_ite h (det_c none)
theorem det_B {x : Int32} {F : jm_K → Option jm_Res} (h : jm_det F) : jm_det (fun K => jm_B x (F K)) := det_ite h (det_ite h (det_c none))
theorem det_mk {m : jm_Mem} {e : jm_Ent} {s : Nat} {F : jm_K → jm_Mem → Option jm_Res} (h : ∀ x, jm_det (fun K => F K x)) : jm_det (fun K => jm_mk m e s (F K)) := det_ite (h _) (det_c none)
theorem det_bind {α : Type} {o : Option α} {F : jm_K → α → Option jm_Res} (h : ∀ x, jm_det (fun K => F K x)) : jm_det (fun K => o.bind (F K)) := by
  cases o with
  | none => exact det_c none
  | some x => exact h x
theorem det_pI {st : List Value} {F : jm_K → Int32 → List Value → Option jm_Res} (h : ∀ x r, jm_det (fun K => F K x r)) : jm_det (fun K => jm_pI st (F K)) := by
  rcases st with _ | ⟨v, r⟩
  · exact det_c none
  · cases v <;> first | exact h _ _ | exact det_c none
theorem det_pL {st : List Value} {F : jm_K → Int64 → List Value → Option jm_Res} (h : ∀ x r, jm_det (fun K => F K x r)) : jm_det (fun K => jm_pL st (F K)) := by
  rcases st with _ | ⟨v, r⟩
  · exact det_c none
  · cases v <;> first | exact h _ _ | exact det_c none
theorem det_pF {st : List Value} {F : jm_K → UInt32 → List Value → Option jm_Res} (h : ∀ x r, jm_det (fun K => F K x r)) : jm_det (fun K => jm_pF st (F K)) := by
  rcases st with _ | ⟨v, r⟩
  · exact det_c none
  · cases v <;> first | exact h _ _ | exact det_c none
theorem det_pD {st : List Value} {F : jm_K → UInt64 → List Value → Option jm_Res} (h : ∀ x r, jm_det (fun K => F K x r)) : jm_det (fun K => jm_pD st (F K)) := by
  rcases st with _ | ⟨v, r⟩
  · exact det_c none
  · cases v <;> first | exact h _ _ | exact det_c none
theorem det_pR {st : List Value} {F : jm_K → Nat → List Value → Option jm_Res} (h : ∀ x r, jm_det (fun K => F K x r)) : jm_det (fun K => jm_pR st (F K)) := by
  rcases st with _ | ⟨v, r⟩
  · exact det_c none
  · cases v <;> first | exact h _ _ | exact det_c none
theorem det_lI {l : jm_Loc} {i : Nat} {F : jm_K → Int32 → Option jm_Res} (h : ∀ x, jm_det (fun K => F K x)) : jm_det (fun K => jm_lI l i (F K)) := by
  unfold jm_lI
  generalize l[i]? = z
  rcases z with _ | (_ | v)
  · exact det_c none
  · exact det_c none
  · cases v <;> first | exact h _ | exact det_c none
theorem det_lL {l : jm_Loc} {i : Nat} {F : jm_K → Int64 → Option jm_Res} (h : ∀ x, jm_det (fun K => F K x)) : jm_det (fun K => jm_lL l i (F K)) := by
  unfold jm_lL
  generalize l[i]? = z
  rcases z with _ | (_ | v)
  · exact det_c none
  · exact det_c none
  · cases v <;> first | exact h _ | exact det_c none
theorem det_lF {l : jm_Loc} {i : Nat} {F : jm_K → UInt32 → Option jm_Res} (h : ∀ x, jm_det (fun K => F K x)) : jm_det (fun K => jm_lF l i (F K)) := by
  unfold jm_lF
  generalize l[i]? = z
  rcases z with _ | (_ | v)
  · exact det_c none
  · exact det_c none
  · cases v <;> first | exact h _ | exact det_c none
theorem det_lD {l : jm_Loc} {i : Nat} {F : jm_K → UInt64 → Option jm_Res} (h : ∀ x, jm_det (fun K => F K x)) : jm_det (fun K => jm_lD l i (F K)) := by
  unfold jm_lD
  generalize l[i]? = z
  rcases z with _ | (_ | v)
  · exact det_c none
  · exact det_c none
  · cases v <;> first | exact h _ | exact det_c none
theorem det_lR {l : jm_Loc} {i : Nat} {F : jm_K → Nat → Option jm_Res} (h : ∀ x, jm_det (fun K => F K x)) : jm_det (fun K => jm_lR l i (F K)) := by
  unfold jm_lR
  generalize l[i]? = z
  rcases z with _ | (_ | v)
  · exact det_c none
  · exact det_c none
  · cases v <;> first | exact h _ | exact det_c none
theorem det_tg {pc : Nat} {off : Int} {F : jm_K → Nat → Option jm_Res} (h : ∀ x, jm_det (fun K => F K x)) : jm_det (fun K => jm_tg pc off (F K)) := by
  unfold jm_tg
  generalize (pc : Int) + off = z
  cases z with
  | ofNat t => exact h t
  | negSucc _ => exact det_c none
theorem det_pop {F : jm_K → List Value → List Value → Option jm_Res} (h : ∀ x r, jm_det (fun K => F K x r)) : ∀ (n : Nat) (st a : List Value), jm_det (fun K => jm_pop n st a (F K)) := by
  intro n
  induction n with
  | zero => intro st a; exact h _ _
  | succ n ih =>
    intro st a
    cases st with
    | nil => exact det_c none
    | cons v st => exact ih st (v :: a)
theorem det_cond {c : Jvm.ClassFile.Cond} {x y : Int32} {F G : jm_K → Option jm_Res} (hF : jm_det F) (hG : jm_det G) : jm_det (fun K => jm_cond c x y (F K) (G K)) := by
  cases c
  · exact det_ite hF hG
  · exact det_ite hG hF
  · exact det_ite hF hG
  · exact det_ite hF hG
  · exact det_ite hF hG
  · exact det_ite hF hG
theorem det_thr {M : jm_Meth} {pc : Nat} {l : jm_Loc} {E : String} {m : jm_Mem} : jm_det (fun K => jm_thr M pc l E m K) := by
  unfold jm_thr
  cases h : jm_mH M with
  | nil => exact det_c _
  | cons a b =>
    dsimp only
    generalize jm_hd (a :: b) pc E = z
    cases z with
    | none => exact det_c _
    | some t =>
      dsimp only
      generalize jm_ins M t = y
      rcases y with _ | ⟨i, n⟩
      · exact det_c _
      · cases i <;> first | exact det_c _ | exact det_n (det_in (det_k _ _ _ _))
theorem det_back {rk : Nat} {M : jm_Meth} {pc : Nat} {l : jm_Loc} {st : List Value} {r : jm_Res} : jm_det (fun K => jm_back rk M pc l st K r) := by
  obtain ⟨o, m⟩ := r
  rcases o with (_ | v) | E
  · rcases rk with _ | _ | _ | _ | _ | rk <;> first | exact det_k _ _ _ _ | exact det_c _
  · rcases rk with _ | _ | _ | _ | _ | rk <;> cases v <;> first | exact det_k _ _ _ _ | exact det_c _
  · rcases rk with _ | _ | _ | _ | _ | rk <;> first | exact det_thr | exact det_c _
end
section
theorem det_bak {rk pc : Nat} {l : jm_Loc} {st : List Value} {r : jm_Res} : jm_det (fun K => jm_bak rk pc l st K r) := by
  obtain ⟨o, m⟩ := r
  rcases o with (_ | v) | E
  · rcases rk with _ | _ | _ | _ | _ | rk <;> first | exact det_k _ _ _ _ | exact det_c _
  · rcases rk with _ | _ | _ | _ | _ | rk <;> cases v <;> first | exact det_k _ _ _ _ | exact det_c _
  · rcases rk with _ | _ | _ | _ | _ | rk <;> exact det_c _
theorem det_inv {call : jm_Call} {M : jm_Meth} {pc : Nat} {l : jm_Loc} {st : List Value} {m : jm_Mem} {e : Nat × Nat × Nat × Nat} : jm_det (fun K => jm_inv call M pc l st m K e) := by
  unfold jm_inv
  generalize e.2.2.1 = z
  split
  · exact det_pop (fun _ _ => det_pR fun _ _ => det_sm (det_bind fun _ => det_back)) _ _ _
  · exact det_pop (fun _ _ => det_sm (det_bind fun _ => det_back)) _ _ _
  · exact det_pop (fun _ _ => det_pR fun _ _ => det_sm (det_bind fun _ => det_bak)) _ _ _
  · exact det_pop (fun _ _ => det_sm (det_bind fun _ => det_bak)) _ _ _
  · exact det_pop (fun _ _ => det_pR fun _ _ => det_sm (det_bind fun _ => det_bak)) _ _ _
  · exact det_pop (fun _ _ => det_pR fun _ _ => det_sm (det_bind fun _ => det_bak)) _ _ _
  · exact det_pop (fun _ _ => det_pR fun _ _ => det_sm (det_bind fun _ => det_bak)) _ _ _
  · exact det_pop (fun _ _ => det_pR fun _ _ => det_sm (det_bind fun _ => det_bak)) _ _ _
  · exact det_pop (fun _ _ => det_pR fun _ _ => det_sm (det_bind fun _ => det_bak)) _ _ _
  · exact det_pR fun _ _ => det_sm (det_k _ _ _ _)
  · exact det_pI fun _ _ => det_pI fun _ _ => det_sm (det_k _ _ _ _)
  · exact det_pI fun _ _ => det_pI fun _ _ => det_sm (det_k _ _ _ _)
  · exact det_pL fun _ _ => det_sm (det_k _ _ _ _)
  · exact det_pL fun _ _ => det_pL fun _ _ => det_sm (det_k _ _ _ _)
  · exact det_pI fun _ _ => det_pI fun _ _ => det_pR fun _ _ => det_pI fun _ _ => det_pR fun _ _ => det_sm (det_bind fun _ => det_k _ _ _ _)
  · exact det_pR fun _ _ => det_sm (det_bind fun _ => det_k _ _ _ _)
  · exact det_pI fun _ _ => det_pR fun _ _ => det_sm (det_bind fun _ => det_bind fun _ => det_k _ _ _ _)
  · exact det_pF fun _ _ => det_sm (det_ite (det_k _ _ _ _) (det_c _))
  · exact det_pI fun _ _ => det_pI fun _ _ => det_sm (det_ite (det_c _) (det_k _ _ _ _))
  · exact det_pI fun _ _ => det_pI fun _ _ => det_sm (det_ite (det_k _ _ _ _) (det_c _))
  · exact det_pR fun _ _ => det_sm (det_ite (det_k _ _ _ _) (det_c _))
  · exact det_pI fun _ _ => det_sm (det_ite (det_k _ _ _ _) (det_c _))
  · exact det_pI fun _ _ => det_pI fun _ _ => det_pR fun _ _ => det_pR fun _ _ => det_sm (det_bind fun _ => det_k _ _ _ _)
  · refine det_pI fun k _ => det_pR fun r _ => det_sm ?_
    generalize m.2.1 r = y
    rcases y with ⟨t, n, f | f | f | f | f⟩ | y <;> first | exact det_c _ | exact det_ite (det_mk fun _ => det_k _ _ _ _) (det_c _)
  · exact det_pI fun _ _ => det_pI fun _ _ => det_sm (det_ite (det_k _ _ _ _) (det_c _))
  · exact det_pR fun _ _ => det_sm (det_bind fun _ => det_k _ _ _ _)
  · refine det_pR fun r _ => det_sm ?_
    generalize m.2.1 r = y
    rcases y with ⟨t, n, f | f | f | f | f⟩ | y <;> first | exact det_c _ | exact det_ite (det_mk fun _ => det_k _ _ _ _) (det_c _)
  · exact det_c _
set_option maxHeartbeats 4000000 in
theorem det_stp {call : jm_Call} {M : jm_Meth} {pc : Nat} {l : jm_Loc} {st : List Value} {m : jm_Mem} : jm_det (fun K => jm_stp call M pc l st m K) := by
  unfold jm_stp
  generalize jm_ins M pc = z
  rcases z with _ | ⟨i, n⟩
  · exact det_c _
  · cases i
    case bipush => exact det_n (det_ite (det_k _ _ _ _) (det_c _))
    case sipush => exact det_n (det_ite (det_k _ _ _ _) (det_c _))
    case fconst v => 
      refine det_n ?_
      (try dsimp only)
      split <;> exact det_k _ _ _ _
    case dconst v =>
      refine det_n ?_
      (try dsimp only)
      split
      · exact det_k _ _ _ _
      · exact det_c _
    case ldc x =>
      refine det_n ?_
      (try dsimp only)
      split <;> first | exact det_k _ _ _ _ | exact det_c _
    case ldc_w x =>
      refine det_n ?_
      (try dsimp only)
      split
      · exact det_k _ _ _ _
      · exact det_c _
    case ldc2_w x =>
      refine det_n ?_
      (try dsimp only)
      split
      · exact det_k _ _ _ _
      · exact det_c _
    case dup =>
      refine det_n ?_
      (try dsimp only)
      split
      · exact det_k _ _ _ _
      · exact det_k _ _ _ _
      · exact det_c _
    case dup2 =>
      refine det_n ?_
      (try dsimp only)
      split
      · exact det_k _ _ _ _
      · exact det_k _ _ _ _
      · exact det_c _
    case pop =>
      refine det_n ?_
      (try dsimp only)
      split
      · exact det_k _ _ _ _
      · exact det_k _ _ _ _
      · exact det_c _
    case tableswitch d lo hi offs =>
      refine det_pI fun x st => det_ite (det_tg fun _ => det_k _ _ _ _) ?_
      generalize offs[(x.toInt - lo).toNat]? = z
      cases z with
      | none => exact det_c _
      | some o => exact det_tg fun _ => det_k _ _ _ _
    case getfield x =>
      refine det_n (det_pR fun r st => ?_)
      generalize jm_fld (jm_mO M) x = z
      (try dsimp only)
      split
      · exact det_bind fun _ => det_k _ _ _ _
      · exact det_bind fun _ => det_k _ _ _ _
      · exact det_bind fun _ => det_k _ _ _ _
      · exact det_bind fun _ => det_k _ _ _ _
      · exact det_bind fun _ => det_k _ _ _ _
      · exact det_c _
    case putfield x =>
      refine det_n ?_
      generalize jm_fld (jm_mO M) x = z
      rcases z with _ | ⟨ci, k, kd, fin⟩
      · exact det_c _
      · dsimp only
        refine det_ite (det_c _) ?_
        split
        · exact det_pI fun _ _ => det_pR fun _ _ => det_bind fun _ => det_k _ _ _ _
        · exact det_pI fun _ _ => det_pR fun _ _ => det_B (det_bind fun _ => det_k _ _ _ _)
        · exact det_pL fun _ _ => det_pR fun _ _ => det_bind fun _ => det_k _ _ _ _
        · exact det_pR fun _ _ => det_pR fun _ _ => det_bind fun _ => det_k _ _ _ _
        · exact det_pI fun _ _ => det_pR fun _ _ => det_ite (det_bind fun _ => det_k _ _ _ _) (det_c _)
        · exact det_c _
    case new x =>
      refine det_n ?_
      generalize (jm_mT M).find? (fun e => e.1 == pc) = z
      cases z with
      | some e => exact det_c _
      | none =>
        (try dsimp only)
        generalize jm_cls (jm_mO M) x = y
        rcases y with _ | ⟨ci, fs⟩
        · exact det_c _
        · exact det_mk fun _ => det_k _ _ _ _
    case newarray a =>
      exact det_n (det_pI fun _ _ => det_ite (det_c _) (det_bind fun _ => det_mk fun _ => det_k _ _ _ _))
    case anewarray x =>
      refine det_n (det_pI fun _ _ => det_ite (det_c _) ?_)
      generalize jm_acl (jm_mO M) x = y
      rcases y with _ | t
      · exact det_c _
      · exact det_mk fun _ => det_k _ _ _ _
    case invokevirtual x =>
      refine det_n ?_
      generalize jm_mth (jm_mO M) x = z
      split <;> first | exact det_inv | exact det_c _
    case invokestatic x =>
      refine det_n ?_
      generalize jm_mth (jm_mO M) x = z
      split <;> first | exact det_inv | exact det_c _
    case invokespecial x =>
      refine det_n ?_
      generalize jm_mth (jm_mO M) x = z
      split <;> first | exact det_inv | exact det_c _
    case invokeinterface x k =>
      refine det_n ?_
      generalize jm_mth (jm_mO M) x = z
      split <;> first | exact det_ite det_inv (det_c _) | exact det_c _
    case dup_x1 =>
      refine det_n ?_
      (try dsimp only)
      split
      · exact det_k _ _ _ _
      · exact det_k _ _ _ _
      · exact det_c _
    case i2c => exact det_n (det_pI fun _ _ => det_ite (det_k _ _ _ _) (det_c _))
    case if_acmp c off =>
      refine det_n (det_pR fun _ _ => det_pR fun _ _ => det_ite ?_ (det_c _))
      cases c
      · exact det_tg fun _ => det_k _ _ _ _
      · exact det_k _ _ _ _
    case ifnonnull => exact det_n (det_pR fun _ _ => det_tg fun _ => det_k _ _ _ _)
    case getstatic x =>
      refine det_n ?_
      generalize jm_gst (jm_mO M) x = z
      cases z with
      | none => exact det_c _
      | some v => exact det_k _ _ _ _
    case checkcast x =>
      refine det_n (det_pR fun r _ => ?_)
      generalize jm_cas (jm_mO M) x = z
      cases z with
      | none => exact det_c _
      | some v => exact det_ite (det_k _ _ _ _) (det_c _)
    case areturn =>
      refine det_n ?_
      exact det_c _
    case idiv => exact det_n (det_pI fun _ _ => det_pI fun _ _ => det_ite (det_c _) (det_k _ _ _ _))
    case irem => exact det_n (det_pI fun _ _ => det_pI fun _ _ => det_ite (det_c _) (det_k _ _ _ _))
    case ldiv => exact det_n (det_pL fun _ _ => det_pL fun _ _ => det_ite (det_c _) (det_k _ _ _ _))
    case fsub => exact det_n (det_pF fun _ _ => det_pF fun _ _ => det_n32 (det_k _ _ _ _))
    case fmul => exact det_n (det_pF fun _ _ => det_pF fun _ _ => det_n32 (det_k _ _ _ _))
    case fdiv => exact det_n (det_pF fun _ _ => det_pF fun _ _ => det_n32 (det_k _ _ _ _))
    case ddiv => exact det_n (det_pD fun _ _ => det_pD fun _ _ => det_n64 (det_k _ _ _ _))
    case ifCond => exact det_n (det_pI fun _ _ => det_tg fun _ => det_cond (det_k _ _ _ _) (det_k _ _ _ _))
    case if_icmp => exact det_n (det_pI fun _ _ => det_pI fun _ _ => det_tg fun _ => det_cond (det_k _ _ _ _) (det_k _ _ _ _))
    case goto => exact det_n (det_tg fun _ => det_k _ _ _ _)
    all_goals first
      | exact det_c _
      | exact det_n (det_k _ _ _ _)
      | exact det_n (det_c _)
      | exact det_n (det_lI fun _ => det_k _ _ _ _)
      | exact det_n (det_lL fun _ => det_k _ _ _ _)
      | exact det_n (det_lF fun _ => det_k _ _ _ _)
      | exact det_n (det_lD fun _ => det_k _ _ _ _)
      | exact det_n (det_lR fun _ => det_k _ _ _ _)
      | exact det_n (det_in (det_pI fun _ _ => det_k _ _ _ _))
      | exact det_n (det_in (det_pL fun _ _ => det_k _ _ _ _))
      | exact det_n (det_in (det_pF fun _ _ => det_k _ _ _ _))
      | exact det_n (det_in (det_pD fun _ _ => det_k _ _ _ _))
      | exact det_n (det_in (det_pR fun _ _ => det_k _ _ _ _))
      | exact det_n (det_in (det_lI fun _ => det_k _ _ _ _))
      | exact det_n (det_pI fun _ _ => det_k _ _ _ _)
      | exact det_n (det_pL fun _ _ => det_k _ _ _ _)
      | exact det_n (det_pF fun _ _ => det_k _ _ _ _)
      | exact det_n (det_pD fun _ _ => det_k _ _ _ _)
      | exact det_n (det_pI fun _ _ => det_pI fun _ _ => det_k _ _ _ _)
      | exact det_n (det_pL fun _ _ => det_pL fun _ _ => det_k _ _ _ _)
      | exact det_n (det_pF fun _ _ => det_pF fun _ _ => det_k _ _ _ _)
      | exact det_n (det_pD fun _ _ => det_pD fun _ _ => det_k _ _ _ _)
      | exact det_n (det_pR fun _ _ => det_bind fun _ => det_k _ _ _ _)
      | exact det_n (det_pI fun _ _ => det_pR fun _ _ => det_bind fun _ => det_k _ _ _ _)
      | exact det_n (det_pI fun _ _ => det_pI fun _ _ => det_pR fun _ _ => det_bind fun _ => det_k _ _ _ _)
      | exact det_n (det_pL fun _ _ => det_pI fun _ _ => det_pR fun _ _ => det_bind fun _ => det_k _ _ _ _)
      | exact det_n (det_pD fun _ _ => det_pI fun _ _ => det_pR fun _ _ => det_bind fun _ => det_k _ _ _ _)
      | exact det_n (det_pR fun _ _ => det_pI fun _ _ => det_pR fun _ _ => det_bind fun _ => det_k _ _ _ _)
theorem det_cases (call : jm_Call) (M : jm_Meth) (pc : Nat) (l : jm_Loc) (st : List Value) (m : jm_Mem) : (∃ o, ∀ K, jm_stp call M pc l st m K = o) ∨ ∃ pc2 l2 st2 m2, ∀ K, jm_stp call M pc l st m K = K pc2 l2 st2 m2 := det_stp
/-! runs -/
def jm_run (call : jm_Call) (M : jm_Meth) : Nat → jm_K
  | 0 => fun _ _ _ _ => none
  | n + 1 => fun pc l st m => jm_stp call M pc l st m (jm_run call M n)
theorem jm_run_up {call : jm_Call} {M : jm_Meth} : ∀ (n : Nat) (pc : Nat) (l : jm_Loc) (st : List Value) (m : jm_Mem) (r : jm_Res), jm_run call M n pc l st m = some r → jm_run call M (n + 1) pc l st m = some r := by
  intro n
  induction n with
  | zero => intro pc l st m r h; cases h
  | succ n ih =>
    intro pc l st m r h
    have h1 : jm_stp call M pc l st m (jm_run call M n) = some r := h
    show jm_stp call M pc l st m (jm_run call M (n + 1)) = some r
    rcases det_cases call M pc l st m with ⟨o, ho⟩ | ⟨pc2, l2, st2, m2, hk⟩
    · rw [ho] at h1 ⊢; exact h1
    · rw [hk] at h1 ⊢; exact ih _ _ _ _ _ h1
theorem jm_run_le {call : jm_Call} {M : jm_Meth} {n n2 pc : Nat} {l : jm_Loc} {st : List Value} {m : jm_Mem} {r : jm_Res} (h : n ≤ n2) (hr : jm_run call M n pc l st m = some r) : jm_run call M n2 pc l st m = some r := by
  induction h with
  | refl => exact hr
  | step _ ih => exact jm_run_up _ _ _ _ _ _ ih
theorem jm_run_one {call : jm_Call} {M : jm_Meth} {n n2 pc : Nat} {l : jm_Loc} {st : List Value} {m : jm_Mem} {r r2 : jm_Res} (h1 : jm_run call M n pc l st m = some r) (h2 : jm_run call M n2 pc l st m = some r2) : r = r2 := by
  rcases Nat.le_total n n2 with h | h
  · exact Option.some.inj ((jm_run_le h h1).symm.trans h2)
  · exact Option.some.inj (h1.symm.trans (jm_run_le h h2))
/-- the answer of a run of any length -/
noncomputable def jm_R (call : jm_Call) (M : jm_Meth) : jm_K := fun pc l st m =>
  haveI := Classical.propDecidable (∃ r n, jm_run call M n pc l st m = some r)
  if h : ∃ r n, jm_run call M n pc l st m = some r then some (Classical.choose h) else none
theorem jm_R_iff {call : jm_Call} {M : jm_Meth} {pc : Nat} {l : jm_Loc} {st : List Value} {m : jm_Mem} {r : jm_Res} : jm_R call M pc l st m = some r ↔ ∃ n, jm_run call M n pc l st m = some r := by
  unfold jm_R
  by_cases h : ∃ r n, jm_run call M n pc l st m = some r
  · rw [dif_pos h]
    obtain ⟨n, hn⟩ := Classical.choose_spec h
    constructor
    · intro e
      exact ⟨n, by rw [hn]; exact e⟩
    · rintro ⟨n2, h2⟩
      rw [jm_run_one h2 hn]
  · rw [dif_neg h]
    constructor
    · intro e; cases e
    · rintro ⟨n2, h2⟩
      exact absurd ⟨r, n2, h2⟩ h
theorem jm_R_eq (call : jm_Call) (M : jm_Meth) (pc : Nat) (l : jm_Loc) (st : List Value) (m : jm_Mem) : jm_R call M pc l st m = jm_stp call M pc l st m (jm_R call M) := by
  apply Option.ext
  intro r
  rw [jm_R_iff]
  rcases det_cases call M pc l st m with ⟨o, ho⟩ | ⟨pc2, l2, st2, m2, hk⟩
  · constructor
    · rintro ⟨n, hn⟩
      cases n with
      | zero => cases hn
      | succ n =>
        have h1 : jm_stp call M pc l st m (jm_run call M n) = some r := hn
        rw [ho] at h1 ⊢; exact h1
    · intro h
      refine ⟨1, ?_⟩
      show jm_stp call M pc l st m (jm_run call M 0) = some r
      rw [ho] at h ⊢; exact h
  · constructor
    · rintro ⟨n, hn⟩
      cases n with
      | zero => cases hn
      | succ n =>
        have h1 : jm_stp call M pc l st m (jm_run call M n) = some r := hn
        rw [hk] at h1 ⊢; exact jm_R_iff.mpr ⟨n, h1⟩
    · intro h
      rw [hk] at h
      obtain ⟨n, hn⟩ := jm_R_iff.mp h
      refine ⟨n + 1, ?_⟩
      show jm_stp call M pc l st m (jm_run call M n) = some r
      rw [hk]; exact hn
/-- n steps, and on -/
def jm_it (call : jm_Call) (M : jm_Meth) : Nat → jm_K → jm_K
  | 0, K => K
  | n + 1, K => fun pc l st m => jm_stp call M pc l st m (jm_it call M n K)
theorem jm_R_it (call : jm_Call) (M : jm_Meth) : ∀ n : Nat, jm_R call M = jm_it call M n (jm_R call M) := by
  intro n
  induction n with
  | zero => rfl
  | succ n ih =>
    funext pc l st m
    rw [jm_R_eq]
    show _ = jm_stp call M pc l st m (jm_it call M n (jm_R call M))
    rw [← ih]
theorem jm_blk {call : jm_Call} {M : jm_Meth} {pc : Nat} {l : jm_Loc} {st : List Value} {m : jm_Mem} {x : Option jm_Res} (n : Nat) (h : jm_it call M n (jm_R call M) pc l st m = x) : jm_R call M pc l st m = x := by
  rw [jm_R_it call M n]; exact h
/-! methods by their numbers, called within a depth -/
def jm_isC (m : jm_Mem) (r c : Nat) : Bool := match m.2.1 r with
  | .inr (c2, _) => c2 == c
  | _ => false
/-- the class of the objects that the methods of a class are asked of: StringBuilder for AbstractStringBuilder, ArrayList for its two ancestors -/
def jm_rc (c : Nat) : Nat := if c = 18 then 15 else if c = 24 ∨ c = 25 then 17 else c
def jm_ok (M : jm_Meth) (as : List Value) (m : jm_Mem) : Bool := match jm_mS M, as with
  | true, _ => true
  | false, .ref r :: _ => jm_isC m r (jm_rc (jm_mO M))
  | _, _ => false
def jm_la (as : List Value) : jm_Loc := match as with
  | [] => []
  | v :: as => if v.category = 2 then some v :: none :: jm_la as else some v :: jm_la as
def jm_en (M : jm_Meth) (as : List Value) : jm_Loc := jm_la as ++ List.replicate (jm_mL M - (jm_la as).length) none
noncomputable def jm_env : Nat → jm_Call
  | 0 => fun _ _ _ => none
  | d + 1 => fun k as m => match jm_M k with
    | none => none
    | some M => if jm_ok M as m = true ∧ (jm_la as).length ≤ jm_mL M then jm_R (jm_env d) M 0 (jm_en M as) [] m else none
theorem jm_env_i {d k : Nat} {M : jm_Meth} {as : List Value} {m : jm_Mem} (hM : jm_M k = some M) (hok : jm_ok M as m = true) (hl : (jm_la as).length ≤ jm_mL M) : jm_env (d + 1) k as m = jm_R (jm_env d) M 0 (jm_en M as) [] m := by
  show (match jm_M k with | none => none | some M => if jm_ok M as m = true ∧ (jm_la as).length ≤ jm_mL M then jm_R (jm_env d) M 0 (jm_en M as) [] m else none) = _
  rw [hM]
  exact if_pos ⟨hok, hl⟩
end
section
/-! Counters and the next name never fall; the script stays. -/
def jm_le (a b : jm_Mem) : Prop := a.1 ≤ b.1 ∧ a.2.2.1 ≤ b.2.2.1 ∧ a.2.2.2 ≤ b.2.2.2
theorem jm_le.rf (a : jm_Mem) : jm_le a a := ⟨Nat.le_refl _, Nat.le_refl _, Nat.le_refl _⟩
theorem jm_le.tr {a b c : jm_Mem} (h : jm_le a b) (h2 : jm_le b c) : jm_le a c := ⟨Nat.le_trans h.1 h2.1, Nat.le_trans h.2.1 h2.2.1, Nat.le_trans h.2.2 h2.2.2⟩
def jm_mo (m : jm_Mem) (F : jm_K → Option jm_Res) : Prop := ∀ K : jm_K, (∀ pc l st m2 r, K pc l st m2 = some r → jm_le m2 r.2) → ∀ r, F K = some r → jm_le m r.2
section MO
variable {m : jm_Mem}
theorem mo_n0 : jm_mo m (fun _ => none) := fun _ _ _ h => by cases h
theorem mo_s {o : Option Value ⊕ String} : jm_mo m (fun _ => some (o, m)) := fun _ _ _ h => by cases h; exact jm_le.rf _
theorem mo_k {pc : Nat} {l : jm_Loc} {st : List Value} : jm_mo m (fun K => K pc l st m) := fun _ hK _ h => hK _ _ _ _ _ h
theorem mo_le {m2 : jm_Mem} {F : jm_K → Option jm_Res} (h : jm_le m m2) (hF : jm_mo m2 F) : jm_mo m F := fun K hK r hr => h.tr (hF K hK r hr)
theorem mo_ite {c : Prop} [Decidable c] {F G : jm_K → Option jm_Res} (hF : jm_mo m F) (hG : jm_mo m G) : jm_mo m (fun K => if c then F K else G K) := by
  by_cases h : c
  · simpa [h] using hF
  · simpa [h] using hG
theorem mo_bind {α : Type} {o : Option α} {F : jm_K → α → Option jm_Res} (h : ∀ x, o = some x → jm_mo m (fun K => F K x)) : jm_mo m (fun K => o.bind (F K)) := by
  cases o with
  | none => exact mo_n0
  | some x => exact h x rfl
theorem mo_mk {e : jm_Ent} {s : Nat} {F : jm_K → jm_Mem → Option jm_Res} (h : ∀ x, jm_mo x (fun K => F K x)) : jm_mo m (fun K => jm_mk m e s (F K)) := mo_ite (mo_le (m2 := jm_new m e s) ⟨Nat.le_succ _, Nat.le_succ _, Nat.le_add_right _ _⟩ (h (jm_new m e s))) mo_n0

theorem mo_n {a b : Nat} {F : jm_K → Option jm_Res} (h : jm_mo m F) : jm_mo m (fun K => jm_n a b (F K)) := mo_ite h mo_n0
theorem mo_n32 {a : UInt32} {F : jm_K → Option jm_Res} (h : jm_mo m F) : jm_mo m (fun K => jm_n32 a (F K)) := mo_ite h mo_n0
theorem mo_n64 {a : UInt64} {F : jm_K → Option jm_Res} (h : jm_mo m F) : jm_mo m (fun K => jm_n64 a (F K)) := mo_ite h mo_n0
theorem mo_in {l : jm_Loc} {i : Nat} {F : jm_K → Option jm_Res} (h : jm_mo m F) : jm_mo m (fun K => jm_in l i (F K)) := mo_ite h mo_n0
theorem mo_sm {st : List Value} {F : jm_K → Option jm_Res} (h : jm_mo m F) : jm_mo m (fun K => jm_sm st (F K)) := mo_ite h mo_n0
theorem mo_B {x : Int32} {F : jm_K → Option jm_Res} (h : jm_mo m F) : jm_mo m (fun K => jm_B x (F K)) := mo_ite h (mo_ite h mo_n0)
theorem mo_pI {st : List Value} {F : jm_K → Int32 → List Value → Option jm_Res} (h : ∀ x r, jm_mo m (fun K => F K x r)) : jm_mo m (fun K => jm_pI st (F K)) := by
  rcases st with _ | ⟨v, r⟩
  · exact mo_n0
  · cases v <;> first | exact h _ _ | exact mo_n0
theorem mo_pL {st : List Value} {F : jm_K → Int64 → List Value → Option jm_Res} (h : ∀ x r, jm_mo m (fun K => F K x r)) : jm_mo m (fun K => jm_pL st (F K)) := by
  rcases st with _ | ⟨v, r⟩
  · exact mo_n0
  · cases v <;> first | exact h _ _ | exact mo_n0
theorem mo_pF {st : List Value} {F : jm_K → UInt32 → List Value → Option jm_Res} (h : ∀ x r, jm_mo m (fun K => F K x r)) : jm_mo m (fun K => jm_pF st (F K)) := by
  rcases st with _ | ⟨v, r⟩
  · exact mo_n0
  · cases v <;> first | exact h _ _ | exact mo_n0
theorem mo_pD {st : List Value} {F : jm_K → UInt64 → List Value → Option jm_Res} (h : ∀ x r, jm_mo m (fun K => F K x r)) : jm_mo m (fun K => jm_pD st (F K)) := by
  rcases st with _ | ⟨v, r⟩
  · exact mo_n0
  · cases v <;> first | exact h _ _ | exact mo_n0
theorem mo_pR {st : List Value} {F : jm_K → Nat → List Value → Option jm_Res} (h : ∀ x r, jm_mo m (fun K => F K x r)) : jm_mo m (fun K => jm_pR st (F K)) := by
  rcases st with _ | ⟨v, r⟩
  · exact mo_n0
  · cases v <;> first | exact h _ _ | exact mo_n0
theorem mo_lI {l : jm_Loc} {i : Nat} {F : jm_K → Int32 → Option jm_Res} (h : ∀ x, jm_mo m (fun K => F K x)) : jm_mo m (fun K => jm_lI l i (F K)) := by
  unfold jm_lI
  generalize l[i]? = z
  rcases z with _ | (_ | v)
  · exact mo_n0
  · exact mo_n0
  · cases v <;> first | exact h _ | exact mo_n0
theorem mo_lL {l : jm_Loc} {i : Nat} {F : jm_K → Int64 → Option jm_Res} (h : ∀ x, jm_mo m (fun K => F K x)) : jm_mo m (fun K => jm_lL l i (F K)) := by
  unfold jm_lL
  generalize l[i]? = z
  rcases z with _ | (_ | v)
  · exact mo_n0
  · exact mo_n0
  · cases v <;> first | exact h _ | exact mo_n0
theorem mo_lF {l : jm_Loc} {i : Nat} {F : jm_K → UInt32 → Option jm_Res} (h : ∀ x, jm_mo m (fun K => F K x)) : jm_mo m (fun K => jm_lF l i (F K)) := by
  unfold jm_lF
  generalize l[i]? = z
  rcases z with _ | (_ | v)
  · exact mo_n0
  · exact mo_n0
  · cases v <;> first | exact h _ | exact mo_n0
theorem mo_lD {l : jm_Loc} {i : Nat} {F : jm_K → UInt64 → Option jm_Res} (h : ∀ x, jm_mo m (fun K => F K x)) : jm_mo m (fun K => jm_lD l i (F K)) := by
  unfold jm_lD
  generalize l[i]? = z
  rcases z with _ | (_ | v)
  · exact mo_n0
  · exact mo_n0
  · cases v <;> first | exact h _ | exact mo_n0
theorem mo_lR {l : jm_Loc} {i : Nat} {F : jm_K → Nat → Option jm_Res} (h : ∀ x, jm_mo m (fun K => F K x)) : jm_mo m (fun K => jm_lR l i (F K)) := by
  unfold jm_lR
  generalize l[i]? = z
  rcases z with _ | (_ | v)
  · exact mo_n0
  · exact mo_n0
  · cases v <;> first | exact h _ | exact mo_n0
theorem mo_tg {pc : Nat} {off : Int} {F : jm_K → Nat → Option jm_Res} (h : ∀ x, jm_mo m (fun K => F K x)) : jm_mo m (fun K => jm_tg pc off (F K)) := by
  unfold jm_tg
  generalize (pc : Int) + off = z
  cases z with
  | ofNat t => exact h t
  | negSucc _ => exact mo_n0
theorem mo_pop {F : jm_K → List Value → List Value → Option jm_Res} (h : ∀ x r, jm_mo m (fun K => F K x r)) : ∀ (n : Nat) (st a : List Value), jm_mo m (fun K => jm_pop n st a (F K)) := by
  intro n
  induction n with
  | zero => intro st a; exact h _ _
  | succ n ih =>
    intro st a
    cases st with
    | nil => exact mo_n0
    | cons v st => exact ih st (v :: a)
theorem mo_cond {c : Jvm.ClassFile.Cond} {x y : Int32} {F G : jm_K → Option jm_Res} (hF : jm_mo m F) (hG : jm_mo m G) : jm_mo m (fun K => jm_cond c x y (F K) (G K)) := by
  cases c
  · exact mo_ite hF hG
  · exact mo_ite hG hF
  · exact mo_ite hF hG
  · exact mo_ite hF hG
  · exact mo_ite hF hG
  · exact mo_ite hF hG
theorem mo_thr {M : jm_Meth} {pc : Nat} {l : jm_Loc} {E : String} : jm_mo m (fun K => jm_thr M pc l E m K) := by
  unfold jm_thr
  cases h : jm_mH M with
  | nil => exact mo_s
  | cons a b =>
    dsimp only
    generalize jm_hd (a :: b) pc E = z
    cases z with
    | none => exact mo_n0
    | some t =>
      dsimp only
      generalize jm_ins M t = y
      rcases y with _ | ⟨i, n⟩
      · exact mo_n0
      · cases i <;> first | exact mo_n0 | exact mo_n (mo_in mo_k)
theorem mo_back {rk : Nat} {M : jm_Meth} {pc : Nat} {l : jm_Loc} {st : List Value} {r : jm_Res} (hr : jm_le m r.2) : jm_mo m (fun K => jm_back rk M pc l st K r) := by
  obtain ⟨o, m2⟩ := r
  refine mo_le hr ?_
  rcases o with (_ | v) | E
  · rcases rk with _ | _ | _ | _ | _ | rk <;> first | exact mo_k | exact mo_n0
  · rcases rk with _ | _ | _ | _ | _ | rk <;> cases v <;> first | exact mo_k | exact mo_n0
  · rcases rk with _ | _ | _ | _ | _ | rk <;> first | exact mo_thr | exact mo_n0
theorem mo_bak {rk pc : Nat} {l : jm_Loc} {st : List Value} {r : jm_Res} (hr : jm_le m r.2) : jm_mo m (fun K => jm_bak rk pc l st K r) := by
  obtain ⟨o, m2⟩ := r
  refine mo_le hr ?_
  rcases o with (_ | v) | E
  · rcases rk with _ | _ | _ | _ | _ | rk <;> first | exact mo_k | exact mo_n0
  · rcases rk with _ | _ | _ | _ | _ | rk <;> cases v <;> first | exact mo_k | exact mo_n0
  · rcases rk with _ | _ | _ | _ | _ | rk <;> exact mo_n0
theorem le_up {n : Nat} {e : jm_Ent} : jm_le m (jm_up m n e) := ⟨Nat.le_refl _, Nat.le_refl _, Nat.le_refl _⟩
theorem le_put {m2 : jm_Mem} {r ci k : Nat} {v : Value} (h : jm_put m r ci k v = some m2) : jm_le m m2 := by
  unfold jm_put at h
  split at h
  · split at h
    · split at h
      · cases h; exact le_up
      · cases h
    · cases h
  · cases h
theorem le_map {α : Type} {o : Option α} {f : α → jm_Mem} {m2 : jm_Mem} (h : o.map f = some m2) (hf : ∀ x, jm_le m (f x)) : jm_le m m2 := by
  cases o with
  | none => cases h
  | some x => cases h; exact hf x
theorem le_wI {m2 : jm_Mem} {r : Nat} {i x : Int32} (h : jm_wI m r i x = some m2) : jm_le m m2 := by
  unfold jm_wI at h
  split at h
  · split at h
    · exact le_map h fun _ => le_up
    · cases h
  · cases h
theorem le_wZ {m2 : jm_Mem} {r : Nat} {i x : Int32} (h : jm_wZ m r i x = some m2) : jm_le m m2 := by
  unfold jm_wZ at h
  split at h
  · split at h
    · exact le_map h fun _ => le_up
    · cases h
  · cases h
theorem le_wL {m2 : jm_Mem} {r : Nat} {i : Int32} {x : Int64} (h : jm_wL m r i x = some m2) : jm_le m m2 := by
  unfold jm_wL at h
  split at h
  · split at h
    · exact le_map h fun _ => le_up
    · cases h
  · cases h
theorem le_wD {m2 : jm_Mem} {r : Nat} {i : Int32} {x : UInt64} (h : jm_wD m r i x = some m2) : jm_le m m2 := by
  unfold jm_wD at h
  split at h
  · split at h
    · exact le_map h fun _ => le_up
    · cases h
  · cases h
theorem le_wR {m2 : jm_Mem} {r : Nat} {i : Int32} {x : Nat} (h : jm_wR m r i x = some m2) : jm_le m m2 := by
  unfold jm_wR at h
  split at h
  · split at h
    · split at h
      · split at h
        · exact le_map h fun _ => le_up
        · cases h
      · cases h
    · cases h
  · cases h
theorem le_cpy {m2 : jm_Mem} {r0 r1 : Nat} {i0 i1 n : Int32} (h : jm_cpy m r0 i0 r1 i1 n = some m2) : jm_le m m2 := by
  unfold jm_cpy at h
  split at h
  · split at h
    · cases h; exact le_up
    · cases h
  · split at h
    · cases h; exact le_up
    · cases h
  · cases h
theorem or_some {α : Type} {a b : Option α} {x : α} (h : a.or b = some x) : a = some x ∨ b = some x := by
  cases a with
  | none => exact Or.inr h
  | some y => exact Or.inl h
theorem le_wB {m2 : jm_Mem} {r : Nat} {i x : Int32} (h : jm_wB m r i x = some m2) : jm_le m m2 := by
  unfold jm_wB at h
  split at h
  · split at h
    · exact le_map h fun _ => le_up
    · cases h
  · cases h
theorem le_wO {m2 : jm_Mem} {r : Nat} {i : Int32} {x : Nat} (h : jm_wO m r i x = some m2) : jm_le m m2 := by
  unfold jm_wO at h
  split at h
  · split at h
    · exact le_map h fun _ => le_up
    · cases h
  · cases h
theorem le_cpB {m2 : jm_Mem} {r0 r1 : Nat} {i0 i1 n : Int32} (h : jm_cpB m r0 i0 r1 i1 n = some m2) : jm_le m m2 := by
  unfold jm_cpB at h
  split at h
  · split at h
    · cases h; exact le_up
    · cases h
  · cases h
theorem le_gtb {m2 : jm_Mem} {r0 r1 : Nat} {i0 i1 : Int32} (h : jm_gtb m r0 r1 i0 i1 = some m2) : jm_le m m2 := by
  unfold jm_gtb at h
  split at h
  · split at h
    · cases h; exact le_up
    · cases h
  · cases h
theorem le_wY {m2 : jm_Mem} {r : Nat} {i x : Int32} (h : jm_wY m r i x = some m2) : jm_le m m2 := (or_some h).elim le_wZ le_wB
theorem le_wQ {m2 : jm_Mem} {r : Nat} {i : Int32} {x : Nat} (h : jm_wQ m r i x = some m2) : jm_le m m2 := (or_some h).elim le_wR le_wO
theorem le_cpY {m2 : jm_Mem} {r0 r1 : Nat} {i0 i1 n : Int32} (h : jm_cpY m r0 i0 r1 i1 n = some m2) : jm_le m m2 := (or_some h).elim le_cpy le_cpB
def jm_cM (call : jm_Call) : Prop := ∀ k as m r, call k as m = some r → jm_le m r.2
theorem mo_inv {call : jm_Call} (hc : jm_cM call) {M : jm_Meth} {pc : Nat} {l : jm_Loc} {st : List Value} {e : Nat × Nat × Nat × Nat} : jm_mo m (fun K => jm_inv call M pc l st m K e) := by
  unfold jm_inv
  generalize e.2.2.1 = z
  split
  · exact mo_pop (fun _ _ => mo_pR fun _ _ => mo_sm (mo_bind fun _ h => mo_back (hc _ _ _ _ h))) _ _ _
  · exact mo_pop (fun _ _ => mo_sm (mo_bind fun _ h => mo_back (hc _ _ _ _ h))) _ _ _
  · exact mo_pop (fun _ _ => mo_pR fun _ _ => mo_sm (mo_bind fun _ h => mo_bak (hc _ _ _ _ h))) _ _ _
  · exact mo_pop (fun _ _ => mo_sm (mo_bind fun _ h => mo_bak (hc _ _ _ _ h))) _ _ _
  · exact mo_pop (fun _ _ => mo_pR fun _ _ => mo_sm (mo_bind fun _ h => mo_bak (hc _ _ _ _ h))) _ _ _
  · exact mo_pop (fun _ _ => mo_pR fun _ _ => mo_sm (mo_bind fun _ h => mo_bak (hc _ _ _ _ h))) _ _ _
  · exact mo_pop (fun _ _ => mo_pR fun _ _ => mo_sm (mo_bind fun _ h => mo_bak (hc _ _ _ _ h))) _ _ _
  · exact mo_pop (fun _ _ => mo_pR fun _ _ => mo_sm (mo_bind fun _ h => mo_bak (hc _ _ _ _ h))) _ _ _
  · exact mo_pop (fun _ _ => mo_pR fun _ _ => mo_sm (mo_bind fun _ h => mo_bak (hc _ _ _ _ h))) _ _ _
  · exact mo_pR fun _ _ => mo_sm mo_k
  · exact mo_pI fun _ _ => mo_pI fun _ _ => mo_sm mo_k
  · exact mo_pI fun _ _ => mo_pI fun _ _ => mo_sm mo_k
  · exact mo_pL fun _ _ => mo_sm mo_k
  · exact mo_pL fun _ _ => mo_pL fun _ _ => mo_sm mo_k
  · exact mo_pI fun _ _ => mo_pI fun _ _ => mo_pR fun _ _ => mo_pI fun _ _ => mo_pR fun _ _ => mo_sm (mo_bind fun _ h => mo_le (le_cpY h) mo_k)
  · exact mo_pR fun _ _ => mo_sm (mo_bind fun _ _ => mo_k)
  · exact mo_pI fun _ _ => mo_pR fun _ _ => mo_sm (mo_bind fun _ _ => mo_bind fun _ _ => mo_k)
  · exact mo_pF fun _ _ => mo_sm (mo_ite mo_k mo_n0)
  · exact mo_pI fun _ _ => mo_pI fun _ _ => mo_sm (mo_ite mo_n0 mo_k)
  · exact mo_pI fun _ _ => mo_pI fun _ _ => mo_sm (mo_ite mo_k mo_n0)
  · exact mo_pR fun _ _ => mo_sm (mo_ite mo_k mo_n0)
  · exact mo_pI fun _ _ => mo_sm (mo_ite mo_k mo_n0)
  · exact mo_pI fun _ _ => mo_pI fun _ _ => mo_pR fun _ _ => mo_pR fun _ _ => mo_sm (mo_bind fun _ h => mo_le (le_gtb h) mo_k)
  · refine mo_pI fun k _ => mo_pR fun r _ => mo_sm ?_
    generalize m.2.1 r = y
    rcases y with ⟨t, n, f | f | f | f | f⟩ | y <;> first | exact mo_n0 | exact mo_ite (mo_mk fun _ => mo_k) mo_n0
  · exact mo_pI fun _ _ => mo_pI fun _ _ => mo_sm (mo_ite mo_k mo_n0)
  · exact mo_pR fun _ _ => mo_sm (mo_bind fun _ _ => mo_k)
  · refine mo_pR fun r _ => mo_sm ?_
    generalize m.2.1 r = y
    rcases y with ⟨t, n, f | f | f | f | f⟩ | y <;> first | exact mo_n0 | exact mo_ite (mo_mk fun _ => mo_k) mo_n0
  · exact mo_n0
theorem mo_iret {M : jm_Meth} {x : Int32} : jm_mo m (fun _ => jm_iret M x m) := by
  unfold jm_iret
  split
  · exact mo_s
  · exact mo_B mo_s
  · exact mo_ite mo_s mo_n0
  · exact mo_ite mo_s mo_n0
  · exact mo_n0
theorem mo_aret {M : jm_Meth} {x : Nat} : jm_mo m (fun _ => jm_aret M x m) := by
  unfold jm_aret
  split
  · exact mo_s
  · exact mo_s
  · exact mo_n0
set_option maxHeartbeats 4000000 in
theorem mo_stp {call : jm_Call} (hc : jm_cM call) {M : jm_Meth} {pc : Nat} {l : jm_Loc} {st : List Value} : jm_mo m (fun K => jm_stp call M pc l st m K) := by
  unfold jm_stp
  generalize jm_ins M pc = z
  rcases z with _ | ⟨i, n⟩
  · exact mo_n0
  · cases i
    case bipush => exact mo_n (mo_ite mo_k mo_n0)
    case sipush => exact mo_n (mo_ite mo_k mo_n0)
    case fconst v => 
      refine mo_n ?_
      (try dsimp only)
      split <;> exact mo_k
    case dconst v =>
      refine mo_n ?_
      (try dsimp only)
      split
      · exact mo_k
      · exact mo_n0
    case ldc x =>
      refine mo_n ?_
      (try dsimp only)
      split <;> first | exact mo_k | exact mo_n0
    case ldc_w x =>
      refine mo_n ?_
      (try dsimp only)
      split
      · exact mo_k
      · exact mo_n0
    case ldc2_w x =>
      refine mo_n ?_
      (try dsimp only)
      split
      · exact mo_k
      · exact mo_n0
    case dup =>
      refine mo_n ?_
      (try dsimp only)
      split
      · exact mo_k
      · exact mo_k
      · exact mo_n0
    case dup2 =>
      refine mo_n ?_
      (try dsimp only)
      split
      · exact mo_k
      · exact mo_k
      · exact mo_n0
    case pop =>
      refine mo_n ?_
      (try dsimp only)
      split
      · exact mo_k
      · exact mo_k
      · exact mo_n0
    case tableswitch d lo hi offs =>
      refine mo_pI fun x st => mo_ite (mo_tg fun _ => mo_k) ?_
      generalize offs[(x.toInt - lo).toNat]? = z
      cases z with
      | none => exact mo_n0
      | some o => exact mo_tg fun _ => mo_k
    case getfield x =>
      refine mo_n (mo_pR fun r st => ?_)
      generalize jm_fld (jm_mO M) x = z
      (try dsimp only)
      split
      · exact mo_bind fun _ _ => mo_k
      · exact mo_bind fun _ _ => mo_k
      · exact mo_bind fun _ _ => mo_k
      · exact mo_bind fun _ _ => mo_k
      · exact mo_bind fun _ _ => mo_k
      · exact mo_n0
    case putfield x =>
      refine mo_n ?_
      generalize jm_fld (jm_mO M) x = z
      rcases z with _ | ⟨ci, k, kd, fin⟩
      · exact mo_n0
      · dsimp only
        refine mo_ite mo_n0 ?_
        split
        · exact mo_pI fun _ _ => mo_pR fun _ _ => mo_bind fun _ h => mo_le (le_put h) mo_k
        · exact mo_pI fun _ _ => mo_pR fun _ _ => mo_B (mo_bind fun _ h => mo_le (le_put h) mo_k)
        · exact mo_pL fun _ _ => mo_pR fun _ _ => mo_bind fun _ h => mo_le (le_put h) mo_k
        · exact mo_pR fun _ _ => mo_pR fun _ _ => mo_bind fun _ h => mo_le (le_put h) mo_k
        · exact mo_pI fun _ _ => mo_pR fun _ _ => mo_ite (mo_bind fun _ h => mo_le (le_put h) mo_k) mo_n0
        · exact mo_n0
    case new x =>
      refine mo_n ?_
      generalize (jm_mT M).find? (fun e => e.1 == pc) = z
      cases z with
      | some e => exact mo_sm (mo_le (m2 := jm_exc m) ⟨Nat.le_refl _, Nat.le_succ _, Nat.le_add_right _ _⟩ mo_s)
      | none =>
        (try dsimp only)
        generalize jm_cls (jm_mO M) x = y
        rcases y with _ | ⟨ci, fs⟩
        · exact mo_n0
        · exact mo_mk fun _ => mo_k
    case newarray a =>
      exact mo_n (mo_pI fun _ _ => mo_ite mo_n0 (mo_bind fun _ _ => mo_mk fun _ => mo_k))
    case anewarray x =>
      refine mo_n (mo_pI fun _ _ => mo_ite mo_n0 ?_)
      generalize jm_acl (jm_mO M) x = y
      rcases y with _ | t
      · exact mo_n0
      · exact mo_mk fun _ => mo_k
    case invokevirtual x =>
      refine mo_n ?_
      generalize jm_mth (jm_mO M) x = z
      split <;> first | exact mo_inv hc | exact mo_n0
    case invokestatic x =>
      refine mo_n ?_
      generalize jm_mth (jm_mO M) x = z
      split <;> first | exact mo_inv hc | exact mo_n0
    case invokespecial x =>
      refine mo_n ?_
      generalize jm_mth (jm_mO M) x = z
      split <;> first | exact mo_inv hc | exact mo_n0
    case invokeinterface x k =>
      refine mo_n ?_
      generalize jm_mth (jm_mO M) x = z
      split <;> first | exact mo_ite (mo_inv hc) mo_n0 | exact mo_n0
    case dup_x1 =>
      refine mo_n ?_
      (try dsimp only)
      split
      · exact mo_k
      · exact mo_k
      · exact mo_n0
    case i2c => exact mo_n (mo_pI fun _ _ => mo_ite mo_k mo_n0)
    case if_acmp c off =>
      refine mo_n (mo_pR fun _ _ => mo_pR fun _ _ => mo_ite ?_ mo_n0)
      cases c
      · exact mo_tg fun _ => mo_k
      · exact mo_k
    case ifnonnull => exact mo_n (mo_pR fun _ _ => mo_tg fun _ => mo_k)
    case getstatic x =>
      refine mo_n ?_
      generalize jm_gst (jm_mO M) x = z
      cases z with
      | none => exact mo_n0
      | some v => exact mo_k
    case checkcast x =>
      refine mo_n (mo_pR fun r _ => ?_)
      generalize jm_cas (jm_mO M) x = z
      cases z with
      | none => exact mo_n0
      | some v => exact mo_ite mo_k mo_n0
    case areturn =>
      refine mo_n ?_
      split
      · exact mo_aret
      · exact mo_n0
    case idiv => exact mo_n (mo_pI fun _ _ => mo_pI fun _ _ => mo_ite mo_n0 mo_k)
    case irem => exact mo_n (mo_pI fun _ _ => mo_pI fun _ _ => mo_ite mo_n0 mo_k)
    case ldiv => exact mo_n (mo_pL fun _ _ => mo_pL fun _ _ => mo_ite mo_n0 mo_k)
    case fsub => exact mo_n (mo_pF fun _ _ => mo_pF fun _ _ => mo_n32 mo_k)
    case fmul => exact mo_n (mo_pF fun _ _ => mo_pF fun _ _ => mo_n32 mo_k)
    case fdiv => exact mo_n (mo_pF fun _ _ => mo_pF fun _ _ => mo_n32 mo_k)
    case ddiv => exact mo_n (mo_pD fun _ _ => mo_pD fun _ _ => mo_n64 mo_k)
    case ifCond => exact mo_n (mo_pI fun _ _ => mo_tg fun _ => mo_cond mo_k mo_k)
    case if_icmp => exact mo_n (mo_pI fun _ _ => mo_pI fun _ _ => mo_tg fun _ => mo_cond mo_k mo_k)
    case goto => exact mo_n (mo_tg fun _ => mo_k)
    case iastore => exact mo_n (mo_pI fun _ _ => mo_pI fun _ _ => mo_pR fun _ _ => mo_bind fun _ h => mo_le (le_wI h) mo_k)
    case bastore => exact mo_n (mo_pI fun _ _ => mo_pI fun _ _ => mo_pR fun _ _ => mo_bind fun _ h => mo_le (le_wY h) mo_k)
    case lastore => exact mo_n (mo_pL fun _ _ => mo_pI fun _ _ => mo_pR fun _ _ => mo_bind fun _ h => mo_le (le_wL h) mo_k)
    case dastore => exact mo_n (mo_pD fun _ _ => mo_pI fun _ _ => mo_pR fun _ _ => mo_bind fun _ h => mo_le (le_wD h) mo_k)
    case aastore => exact mo_n (mo_pR fun _ _ => mo_pI fun _ _ => mo_pR fun _ _ => mo_bind fun _ h => mo_le (le_wQ h) mo_k)
    case ireturn =>
      refine mo_n ?_
      split
      · exact mo_iret
      · exact mo_n0
    case lreturn =>
      refine mo_n ?_
      split
      · exact mo_ite mo_s mo_n0
      · exact mo_n0
    case dreturn =>
      refine mo_n ?_
      split
      · exact mo_ite mo_s mo_n0
      · exact mo_n0
    case return_ =>
      refine mo_n ?_
      split
      · exact mo_s
      · exact mo_n0
    all_goals first
      | exact mo_n0
      | exact mo_n mo_k
      | exact mo_n mo_n0
      | exact mo_n (mo_lI fun _ => mo_k)
      | exact mo_n (mo_lL fun _ => mo_k)
      | exact mo_n (mo_lF fun _ => mo_k)
      | exact mo_n (mo_lD fun _ => mo_k)
      | exact mo_n (mo_lR fun _ => mo_k)
      | exact mo_n (mo_in (mo_pI fun _ _ => mo_k))
      | exact mo_n (mo_in (mo_pL fun _ _ => mo_k))
      | exact mo_n (mo_in (mo_pF fun _ _ => mo_k))
      | exact mo_n (mo_in (mo_pD fun _ _ => mo_k))
      | exact mo_n (mo_in (mo_pR fun _ _ => mo_k))
      | exact mo_n (mo_in (mo_lI fun _ => mo_k))
      | exact mo_n (mo_pI fun _ _ => mo_k)
      | exact mo_n (mo_pL fun _ _ => mo_k)
      | exact mo_n (mo_pF fun _ _ => mo_k)
      | exact mo_n (mo_pD fun _ _ => mo_k)
      | exact mo_n (mo_pI fun _ _ => mo_pI fun _ _ => mo_k)
      | exact mo_n (mo_pL fun _ _ => mo_pL fun _ _ => mo_k)
      | exact mo_n (mo_pF fun _ _ => mo_pF fun _ _ => mo_k)
      | exact mo_n (mo_pD fun _ _ => mo_pD fun _ _ => mo_k)
      | exact mo_n (mo_pR fun _ _ => mo_bind fun _ _ => mo_k)
      | exact mo_n (mo_pI fun _ _ => mo_pR fun _ _ => mo_bind fun _ _ => mo_k)
      | exact mo_n (mo_pI fun _ _ => mo_pI fun _ _ => mo_pR fun _ _ => mo_bind fun _ _ => mo_k)
      | exact mo_n (mo_pL fun _ _ => mo_pI fun _ _ => mo_pR fun _ _ => mo_bind fun _ _ => mo_k)
      | exact mo_n (mo_pD fun _ _ => mo_pI fun _ _ => mo_pR fun _ _ => mo_bind fun _ _ => mo_k)
      | exact mo_n (mo_pR fun _ _ => mo_pI fun _ _ => mo_pR fun _ _ => mo_bind fun _ _ => mo_k)
theorem mo_run {call : jm_Call} (hc : jm_cM call) {M : jm_Meth} : ∀ (n pc : Nat) (l : jm_Loc) (st : List Value) (m : jm_Mem) (r : jm_Res), jm_run call M n pc l st m = some r → jm_le m r.2 := by
  intro n
  induction n with
  | zero => intro pc l st m r h; cases h
  | succ n ih => intro pc l st m r h; exact mo_stp hc (jm_run call M n) ih r h
theorem mo_env : ∀ d : Nat, jm_cM (jm_env d) := by
  intro d
  induction d with
  | zero => intro k as m r h; cases h
  | succ d ih =>
    intro k as m r h
    have h1 : (match jm_M k with | none => none | some M => if jm_ok M as m = true ∧ (jm_la as).length ≤ jm_mL M then jm_R (jm_env d) M 0 (jm_en M as) [] m else none) = some r := h
    split at h1
    · cases h1
    · split at h1
      · obtain ⟨n, hn⟩ := jm_R_iff.mp h1
        exact mo_run ih _ _ _ _ _ _ hn
      · cases h1
end MO
end
