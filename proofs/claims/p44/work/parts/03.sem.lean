/-! The small machine: what a method does to an abstract memory, by the program's own bytes. -/
/-- a cell: an array (its kind: 0 int, 1 boolean, 2 long, 3 double, 4 Series, 5 Land, 7 a String, 8 the script; its contents), or an object (its class, its fields in the order of their slots); references are names -/
abbrev jm_Ent : Type := (Nat × vp_A) ⊕ (Nat × List Value)
/-- memory: the next name, the cells (behind the names: the script at jm_scr, the String constants from jm_str on), how many cells and slots were made -/
abbrev jm_Mem : Type := Nat × (Nat → jm_Ent) × Nat × Nat
abbrev jm_Res : Type := (Option Value ⊕ String) × jm_Mem
abbrev jm_Loc : Type := List (Option Value)
abbrev jm_K : Type := Nat → jm_Loc → List Value → jm_Mem → Option jm_Res
abbrev jm_Call : Type := Nat → List Value → jm_Mem → Option jm_Res
def jm_str : Nat := 1099511627776
def jm_scr : Nat := 2199023255552
/-- small Integers (of the cache), by their value; ArrayList's empty row; the rows of digits -/
def jm_int : Nat := 8796093022208
def jm_dcp : Nat := 35184372088832
def jm_dgt : Nat := 70368744177664
def jm_dgo : Nat := 140737488355328
def jm_bad : jm_Ent := .inr (999, [])
def jm_n (a b : Nat) (x : Option jm_Res) : Option jm_Res := if a = b then x else none
def jm_pI (st : List Value) (f : Int32 → List Value → Option jm_Res) : Option jm_Res := match st with | .int x :: r => f x r | _ => none
def jm_pL (st : List Value) (f : Int64 → List Value → Option jm_Res) : Option jm_Res := match st with | .long x :: r => f x r | _ => none
def jm_pF (st : List Value) (f : UInt32 → List Value → Option jm_Res) : Option jm_Res := match st with | .float x :: r => f x r | _ => none
def jm_pD (st : List Value) (f : UInt64 → List Value → Option jm_Res) : Option jm_Res := match st with | .double x :: r => f x r | _ => none
def jm_pR (st : List Value) (f : Nat → List Value → Option jm_Res) : Option jm_Res := match st with | .ref x :: r => f x r | _ => none
def jm_lI (l : jm_Loc) (i : Nat) (f : Int32 → Option jm_Res) : Option jm_Res := match l[i]? with | some (some (.int x)) => f x | _ => none
def jm_lL (l : jm_Loc) (i : Nat) (f : Int64 → Option jm_Res) : Option jm_Res := match l[i]? with | some (some (.long x)) => f x | _ => none
def jm_lF (l : jm_Loc) (i : Nat) (f : UInt32 → Option jm_Res) : Option jm_Res := match l[i]? with | some (some (.float x)) => f x | _ => none
def jm_lD (l : jm_Loc) (i : Nat) (f : UInt64 → Option jm_Res) : Option jm_Res := match l[i]? with | some (some (.double x)) => f x | _ => none
def jm_lR (l : jm_Loc) (i : Nat) (f : Nat → Option jm_Res) : Option jm_Res := match l[i]? with | some (some (.ref x)) => f x | _ => none
/-- place i of the locals is given up, and what reached into it -/
def jm_clr (l : jm_Loc) (i : Nat) : jm_Loc := match i with
  | 0 => l
  | j + 1 => match l[j]? with
    | some (some w) => if w.category = 2 then l.set j none else l
    | _ => l
def jm_st1 (l : jm_Loc) (i : Nat) (v : Option Value) : jm_Loc := (jm_clr l i).set i v
def jm_st2 (l : jm_Loc) (i : Nat) (v : Value) : jm_Loc := ((jm_clr l i).set i (some v)).set (i + 1) none
def jm_in (l : jm_Loc) (i : Nat) (x : Option jm_Res) : Option jm_Res := if i < l.length then x else none
def jm_tg (pc : Nat) (off : Int) (f : Nat → Option jm_Res) : Option jm_Res := match (pc : Int) + off with
  | .ofNat t => f t
  | .negSucc _ => none
def jm_up (m : jm_Mem) (n : Nat) (e : jm_Ent) : jm_Mem := (m.1, va_up m.2.1 n e, m.2.2)
/-- fields -/
def jm_gI (m : jm_Mem) (r ci k : Nat) : Option Int32 := match m.2.1 r with
  | .inr (c, fs) => if c = ci then (match fs[k]? with | some (.int x) => some x | _ => none) else none
  | _ => none
def jm_gL (m : jm_Mem) (r ci k : Nat) : Option Int64 := match m.2.1 r with
  | .inr (c, fs) => if c = ci then (match fs[k]? with | some (.long x) => some x | _ => none) else none
  | _ => none
def jm_gR (m : jm_Mem) (r ci k : Nat) : Option Nat := match m.2.1 r with
  | .inr (c, fs) => if c = ci then (match fs[k]? with | some (.ref x) => some x | _ => none) else none
  | _ => none
def jm_put (m : jm_Mem) (r ci k : Nat) (v : Value) : Option jm_Mem := match m.2.1 r with
  | .inr (c, fs) => if c = ci then (if k < fs.length then some (jm_up m r (.inr (c, fs.set k v))) else none) else none
  | _ => none
/-- arrays -/
def jm_len (m : jm_Mem) (r : Nat) : Option Nat := match m.2.1 r with
  | .inl (t, a) => if t = 7 ∨ t = 10 then none else some a.1
  | _ => none
def jm_ix (i : Int32) (n : Nat) : Option Nat := if i < 0 ∨ n ≤ i.toNatClampNeg then none else some i.toNatClampNeg
def jm_aI (m : jm_Mem) (r : Nat) (i : Int32) : Option Int32 := match m.2.1 r with
  | .inl (t, n, .inl f) => if t = 0 ∨ t = 8 then (jm_ix i n).map f else none
  | _ => none
def jm_gS (m : jm_Mem) (r : Nat) : Option (Nat × (Nat → Int32)) := match m.2.1 r with
  | .inl (t, n, .inl f) => if t = 7 then some (n, f) else none
  | _ => none
def jm_aZ (m : jm_Mem) (r : Nat) (i : Int32) : Option Int32 := match m.2.1 r with
  | .inl (t, n, .inl f) => if t = 1 then (jm_ix i n).map f else none
  | _ => none
def jm_aL (m : jm_Mem) (r : Nat) (i : Int32) : Option Int64 := match m.2.1 r with
  | .inl (t, n, .inr (.inl f)) => if t = 2 then (jm_ix i n).map f else none
  | _ => none
def jm_aD (m : jm_Mem) (r : Nat) (i : Int32) : Option UInt64 := match m.2.1 r with
  | .inl (t, n, .inr (.inr (.inr (.inl f)))) => if t = 3 then (jm_ix i n).map f else none
  | _ => none
def jm_aR (m : jm_Mem) (r : Nat) (i : Int32) : Option Nat := match m.2.1 r with
  | .inl (t, n, .inr (.inr (.inr (.inr f)))) => if t = 4 ∨ t = 5 then (jm_ix i n).bind f else none
  | _ => none
def jm_wI (m : jm_Mem) (r : Nat) (i x : Int32) : Option jm_Mem := match m.2.1 r with
  | .inl (t, n, .inl f) => if t = 0 then (jm_ix i n).map (fun k => jm_up m r (.inl (t, n, .inl (upd f k x)))) else none
  | _ => none
def jm_wZ (m : jm_Mem) (r : Nat) (i x : Int32) : Option jm_Mem := match m.2.1 r with
  | .inl (t, n, .inl f) => if t = 1 then (jm_ix i n).map (fun k => jm_up m r (.inl (t, n, .inl (upd f k (x &&& 1))))) else none
  | _ => none
def jm_wL (m : jm_Mem) (r : Nat) (i : Int32) (x : Int64) : Option jm_Mem := match m.2.1 r with
  | .inl (t, n, .inr (.inl f)) => if t = 2 then (jm_ix i n).map (fun k => jm_up m r (.inl (t, n, .inr (.inl (vp_updL f k x))))) else none
  | _ => none
def jm_wD (m : jm_Mem) (r : Nat) (i : Int32) (x : UInt64) : Option jm_Mem := match m.2.1 r with
  | .inl (t, n, .inr (.inr (.inr (.inl f)))) => if t = 3 then (jm_ix i n).map (fun k => jm_up m r (.inl (t, n, .inr (.inr (.inr (.inl (vf_upd f k x))))))) else none
  | _ => none
/-- the class of what may lie in an array of references -/
def jm_tc (t : Nat) : Nat := if t = 4 then 9 else 4
def jm_wR (m : jm_Mem) (r : Nat) (i : Int32) (x : Nat) : Option jm_Mem := match m.2.1 r with
  | .inl (t, n, .inr (.inr (.inr (.inr f)))) => if t = 4 ∨ t = 5 then (match m.2.1 x with
    | .inr (c, _) => if c = jm_tc t then (jm_ix i n).map (fun k => jm_up m r (.inl (t, n, .inr (.inr (.inr (.inr (va_up f k (some x)))))))) else none
    | _ => none) else none
  | _ => none
def jm_cpy (m : jm_Mem) (r0 : Nat) (i0 : Int32) (r1 : Nat) (i1 n : Int32) : Option jm_Mem := match m.2.1 r0, m.2.1 r1 with
  | .inl (t0, n0, .inl f), .inl (t1, n1, .inl g) => if r0 ≠ r1 ∧ t0 = 0 ∧ t1 = 0 ∧ ¬ i0 < 0 ∧ ¬ i1 < 0 ∧ ¬ n < 0 ∧ i0.toNatClampNeg + n.toNatClampNeg ≤ n0 ∧ i1.toNatClampNeg + n.toNatClampNeg ≤ n1 then some (jm_up m r1 (.inl (t1, n1, .inl (va_cpy f g i0.toNatClampNeg i1.toNatClampNeg n.toNatClampNeg)))) else none
  | .inl (t0, n0, .inr (.inl f)), .inl (t1, n1, .inr (.inl g)) => if r0 ≠ r1 ∧ t0 = 2 ∧ t1 = 2 ∧ ¬ i0 < 0 ∧ ¬ i1 < 0 ∧ ¬ n < 0 ∧ i0.toNatClampNeg + n.toNatClampNeg ≤ n0 ∧ i1.toNatClampNeg + n.toNatClampNeg ≤ n1 then some (jm_up m r1 (.inl (t1, n1, .inr (.inl (va_cpy f g i0.toNatClampNeg i1.toNatClampNeg n.toNatClampNeg))))) else none
  | _, _ => none
/-- rows of bytes (9; read alone: 10), rows of objects (6) -/
def jm_by (x : Int32) : Bool := decide (-128 ≤ x) && decide (x < 128)
def jm_aB (m : jm_Mem) (r : Nat) (i : Int32) : Option Int32 := match m.2.1 r with
  | .inl (t, n, .inl f) => if t = 9 ∨ t = 10 then (jm_ix i n).map f else none
  | _ => none
def jm_wB (m : jm_Mem) (r : Nat) (i x : Int32) : Option jm_Mem := match m.2.1 r with
  | .inl (t, n, .inl f) => if t = 9 ∧ jm_by x = true then (jm_ix i n).map (fun k => jm_up m r (.inl (t, n, .inl (upd f k x)))) else none
  | _ => none
def jm_aY (m : jm_Mem) (r : Nat) (i : Int32) : Option Int32 := (jm_aZ m r i).or (jm_aB m r i)
def jm_wY (m : jm_Mem) (r : Nat) (i x : Int32) : Option jm_Mem := (jm_wZ m r i x).or (jm_wB m r i x)
def jm_cpB (m : jm_Mem) (r0 : Nat) (i0 : Int32) (r1 : Nat) (i1 n : Int32) : Option jm_Mem := match m.2.1 r0, m.2.1 r1 with
  | .inl (t0, n0, .inl f), .inl (t1, n1, .inl g) => if r0 ≠ r1 ∧ t0 = 9 ∧ t1 = 9 ∧ ¬ i0 < 0 ∧ ¬ i1 < 0 ∧ ¬ n < 0 ∧ i0.toNatClampNeg + n.toNatClampNeg ≤ n0 ∧ i1.toNatClampNeg + n.toNatClampNeg ≤ n1 ∧ (∀ k, k < n.toNatClampNeg → jm_by (f (i0.toNatClampNeg + k)) = true) then some (jm_up m r1 (.inl (t1, n1, .inl (va_cpy f g i0.toNatClampNeg i1.toNatClampNeg n.toNatClampNeg)))) else none
  | _, _ => none
def jm_cpY (m : jm_Mem) (r0 : Nat) (i0 : Int32) (r1 : Nat) (i1 n : Int32) : Option jm_Mem := (jm_cpy m r0 i0 r1 i1 n).or (jm_cpB m r0 i0 r1 i1 n)
/-- the class of an object that may lie in a row of objects -/
def jm_elt (m : jm_Mem) (x : Nat) : Option Nat := if jm_int ≤ x ∧ x < jm_int + 256 then some 16 else match m.2.1 x with
  | .inr (17, _) => some 17
  | .inr (12, _) => some 12
  | _ => none
def jm_aO (m : jm_Mem) (r : Nat) (i : Int32) : Option Nat := match m.2.1 r with
  | .inl (t, n, .inr (.inr (.inr (.inr f)))) => if t = 6 then (jm_ix i n).bind f else none
  | _ => none
def jm_wO (m : jm_Mem) (r : Nat) (i : Int32) (x : Nat) : Option jm_Mem := match m.2.1 r with
  | .inl (t, n, .inr (.inr (.inr (.inr f)))) => if t = 6 ∧ (jm_elt m x).isSome = true then (jm_ix i n).map (fun k => jm_up m r (.inl (t, n, .inr (.inr (.inr (.inr (va_up f k (some x)))))))) else none
  | _ => none
def jm_aQ (m : jm_Mem) (r : Nat) (i : Int32) : Option Nat := (jm_aR m r i).or (jm_aO m r i)
def jm_wQ (m : jm_Mem) (r : Nat) (i : Int32) (x : Nat) : Option jm_Mem := (jm_wR m r i x).or (jm_wO m r i x)
/-- a constant's bytes, put into a row -/
def jm_gtb (m : jm_Mem) (r dst : Nat) (b c : Int32) : Option jm_Mem := match m.2.1 r, m.2.1 dst with
  | .inl (t0, n0, .inl f), .inl (t1, n1, .inl g) => if t0 = 7 ∧ t1 = 9 ∧ c = 0 ∧ ¬ b < 0 ∧ b.toNatClampNeg + n0 ≤ n1 then some (jm_up m dst (.inl (t1, n1, .inl (va_cpy f g 0 b.toNatClampNeg n0)))) else none
  | _, _ => none
/-- the first n of a row of objects are of class c -/
def jm_elc (m : jm_Mem) (n : Nat) (f : Nat → Option Nat) (c : Nat) : Bool := (List.range n).all (fun k => match f k with | none => true | some x => decide (jm_elt m x = some c))
def jm_els (m : jm_Mem) (n : Nat) (f : Nat → Option Nat) : Bool := jm_elc m n f 16 || (jm_elc m n f 17 || jm_elc m n f 12)
/-- may it be taken for an object of that kind -/
def jm_caO (m : jm_Mem) (r k : Nat) : Bool := match k with
  | 16 => decide (jm_int ≤ r) && decide (r < jm_int + 256)
  | 9 => (match m.2.1 r with | .inl (9, _, .inl _) => true | _ => false)
  | k => (match m.2.1 r with | .inr (c, _) => c == k && (c == 12 || c == 17) | _ => false)
/-- making: the new name is the next one -/
def jm_new (m : jm_Mem) (e : jm_Ent) (slots : Nat) : jm_Mem := (m.1 + 1, va_up m.2.1 m.1 e, m.2.2.1 + 1, m.2.2.2 + slots)
def jm_exc (m : jm_Mem) : jm_Mem := (m.1, m.2.1, m.2.2.1 + 1, m.2.2.2 + 6)
def jm_zero (t n : Nat) : Option vp_A := match t with
  | 0 => some (n, .inl (fun _ => 0))
  | 1 => some (n, .inl (fun _ => 0))
  | 2 => some (n, .inr (.inl (fun _ => 0)))
  | 3 => some (n, .inr (.inr (.inr (.inl (fun _ => 0)))))
  | 9 => some (n, .inl (fun _ => 0))
  | _ => none
def jm_at (a : ArrayType) : Nat := match a with | .int => 0 | .boolean => 1 | .long => 2 | .double => 3 | .byte => 9 | _ => 99
def jm_B (x : Int32) (k : Option jm_Res) : Option jm_Res := if x = 0 then k else if x = 1 then k else none
/-- the records of a method -/
abbrev jm_mY (M : jm_Meth) : MethodName := M.1
abbrev jm_mC (M : jm_Meth) : ByteArray := M.2.1
abbrev jm_mL (M : jm_Meth) : Nat := M.2.2.1
abbrev jm_mR (M : jm_Meth) : Option FieldType := M.2.2.2.1
abbrev jm_mO (M : jm_Meth) : Nat := M.2.2.2.2.1
abbrev jm_mS (M : jm_Meth) : Bool := M.2.2.2.2.2.1
abbrev jm_mI (M : jm_Meth) : jm_Ins := M.2.2.2.2.2.2.1
abbrev jm_mT (M : jm_Meth) : List (Nat × String) := M.2.2.2.2.2.2.2.1
abbrev jm_mH (M : jm_Meth) : List (Nat × Nat × Nat × String) := M.2.2.2.2.2.2.2.2
def jm_ins (M : jm_Meth) (pc : Nat) : Option (Instr × Nat) := ((jm_mI M).getD (pc / 32) []).getD (pc % 32) none
/-- what is thrown over this frame: the handler begins with a store -/
def jm_hd (h : List (Nat × Nat × Nat × String)) (pc : Nat) (E : String) : Option Nat := (h.find? (fun e => decide (e.1 ≤ pc) && decide (pc < e.2.1) && e.2.2.2 == E)).map (fun e => e.2.2.1)
def jm_thr (M : jm_Meth) (pc : Nat) (l : jm_Loc) (E : String) (m : jm_Mem) (K : jm_K) : Option jm_Res := match jm_mH M with
  | [] => some (.inr E, m)
  | h => match jm_hd h pc E with
    | none => none
    | some t => match jm_ins M t with
      | some (.astore i, n) => jm_n n 2 (jm_in l i (K (t + 2) (jm_st1 l i none) [] m))
      | some (.astore_n i, n) => jm_n n 1 (jm_in l i (K (t + 1) (jm_st1 l i none) [] m))
      | _ => none
/-- what comes back of a call: nothing, an int, a long, a double; or it throws -/
def jm_bV (f : jm_Mem → Option jm_Res) (g : String → jm_Mem → Option jm_Res) (r : jm_Res) : Option jm_Res := match r with
  | (.inl none, m) => f m
  | (.inr E, m) => g E m
  | _ => none
def jm_bI (f : Int32 → jm_Mem → Option jm_Res) (g : String → jm_Mem → Option jm_Res) (r : jm_Res) : Option jm_Res := match r with
  | (.inl (some (.int x)), m) => f x m
  | (.inr E, m) => g E m
  | _ => none
def jm_bL (f : Int64 → jm_Mem → Option jm_Res) (g : String → jm_Mem → Option jm_Res) (r : jm_Res) : Option jm_Res := match r with
  | (.inl (some (.long x)), m) => f x m
  | (.inr E, m) => g E m
  | _ => none
def jm_bR (f : Nat → jm_Mem → Option jm_Res) (g : String → jm_Mem → Option jm_Res) (r : jm_Res) : Option jm_Res := match r with
  | (.inl (some (.ref x)), m) => f x m
  | (.inr E, m) => g E m
  | _ => none
def jm_bD (f : UInt64 → jm_Mem → Option jm_Res) (g : String → jm_Mem → Option jm_Res) (r : jm_Res) : Option jm_Res := match r with
  | (.inl (some (.double x)), m) => f x m
  | (.inr E, m) => g E m
  | _ => none
def jm_x (E : String) (m : jm_Mem) : Option jm_Res := some (.inr E, m)
def jm_y (_ : String) (_ : jm_Mem) : Option jm_Res := none
/-- .. by the kind of its answer: 0 none, 1 int, 2 long, 3 double -/
def jm_back (rk : Nat) (M : jm_Meth) (pc : Nat) (l : jm_Loc) (st : List Value) (K : jm_K) : jm_Res → Option jm_Res := match rk with
  | 0 => jm_bV (fun m => K (pc + 3) l st m) (fun E m => jm_thr M pc l E m K)
  | 1 => jm_bI (fun x m => K (pc + 3) l (.int x :: st) m) (fun E m => jm_thr M pc l E m K)
  | 2 => jm_bL (fun x m => K (pc + 3) l (.long x :: st) m) (fun E m => jm_thr M pc l E m K)
  | 3 => jm_bD (fun x m => K (pc + 3) l (.double x :: st) m) (fun E m => jm_thr M pc l E m K)
  | 4 => jm_bR (fun x m => K (pc + 3) l (.ref x :: st) m) (fun E m => jm_thr M pc l E m K)
  | _ => fun _ => none
/-- .. of a method that doesn't throw -/
def jm_bak (rk pc : Nat) (l : jm_Loc) (st : List Value) (K : jm_K) : jm_Res → Option jm_Res := match rk with
  | 0 => jm_bV (fun m => K (pc + 3) l st m) jm_y
  | 1 => jm_bI (fun x m => K (pc + 3) l (.int x :: st) m) jm_y
  | 2 => jm_bL (fun x m => K (pc + 3) l (.long x :: st) m) jm_y
  | 3 => jm_bD (fun x m => K (pc + 3) l (.double x :: st) m) jm_y
  | 4 => jm_bR (fun x m => K (pc + 3) l (.ref x :: st) m) jm_y
  | _ => fun _ => none
def jm_pop : Nat → List Value → List Value → (List Value → List Value → Option jm_Res) → Option jm_Res
  | 0, st, a, f => f a st
  | n + 1, v :: st, a, f => jm_pop n st (v :: a) f
  | _ + 1, [], _, _ => none
def jm_sm (st : List Value) (x : Option jm_Res) : Option jm_Res := if (st.map fun v => v.category).sum ≤ 8 then x else none
def jm_n32 (r : UInt32) (x : Option jm_Res) : Option jm_Res := if r &&& 0x7fffffff ≤ 0x7f800000 then x else none
def jm_n64 (r : UInt64) (x : Option jm_Res) : Option jm_Res := if r &&& 0x7fffffffffffffff ≤ 0x7ff0000000000000 then x else none
def jm_mk (m : jm_Mem) (e : jm_Ent) (slots : Nat) (f : jm_Mem → Option jm_Res) : Option jm_Res := if m.1 < 1000000 then f (jm_new m e slots) else none
/-- a longer row of the same objects; a copy of a row of bytes -/
def jm_cO (m : jm_Mem) (r : Nat) (k : Int32) (g : jm_Mem → Option jm_Res) : Option jm_Res := match m.2.1 r with
  | .inl (t, n, .inr (.inr (.inr (.inr f)))) => if t = 6 ∧ ¬ k < 0 ∧ n ≤ k.toNatClampNeg ∧ k.toNatClampNeg ≤ 10000000 ∧ jm_els m n f = true then jm_mk m (.inl (6, k.toNatClampNeg, .inr (.inr (.inr (.inr (va_cpy f (fun _ => none) 0 0 n)))))) k.toNatClampNeg g else none
  | _ => none
def jm_cl (m : jm_Mem) (r : Nat) (g : jm_Mem → Option jm_Res) : Option jm_Res := match m.2.1 r with
  | .inl (t, n, .inl f) => if t = 9 ∧ (∀ k, k < n → jm_by (f k) = true) then jm_mk m (.inl (9, n, .inl f)) n g else none
  | _ => none
def jm_cond (c : Jvm.ClassFile.Cond) (x y : Int32) (a b : Option jm_Res) : Option jm_Res := match c with
  | .eq => if x = y then a else b
  | .ne => if x = y then b else a
  | .lt => if x < y then a else b
  | .ge => if y ≤ x then a else b
  | .gt => if y < x then a else b
  | .le => if x ≤ y then a else b
def jm_ret (M : jm_Meth) (t : FieldType) (x : Option jm_Res) : Option jm_Res := if jm_mR M = some t then x else none
def jm_iret (M : jm_Meth) (x : Int32) (m : jm_Mem) : Option jm_Res := match jm_mR M with
  | some .int => some (.inl (some (.int x)), m)
  | some .boolean => jm_B x (some (.inl (some (.int x)), m))
  | some .byte => if jm_by x = true then some (.inl (some (.int x)), m) else none
  | some .char => if 0 ≤ x ∧ x < 65536 then some (.inl (some (.int x)), m) else none
  | _ => none
/-- Math.floorMod of whole numbers -/
def jm_fm (x y : Int32) : Int32 := if 0 ≤ x ^^^ y then x - x / y * y else if x - x / y * y = 0 then x - x / y * y else x - x / y * y + y
def jm_aret (M : jm_Meth) (x : Nat) (m : jm_Mem) : Option jm_Res := match jm_mR M with
  | some (.object _) => some (.inl (some (.ref x)), m)
  | some (.array _) => some (.inl (some (.ref x)), m)
  | _ => none
/-- one call, by the table's entry: target, arguments without the receiver, kind, kind of the answer -/
def jm_inv (call : jm_Call) (M : jm_Meth) (pc : Nat) (l : jm_Loc) (st : List Value) (m : jm_Mem) (K : jm_K) (e : Nat × Nat × Nat × Nat) : Option jm_Res :=
  match e.2.2.1 with
  | 0 => jm_pop e.2.1 st [] fun as st => jm_pR st fun r st => jm_sm st ((call e.1 (.ref r :: as) m).bind (jm_back e.2.2.2 M pc l st K))
  | 1 => jm_pop e.2.1 st [] fun as st => jm_sm st ((call e.1 as m).bind (jm_back e.2.2.2 M pc l st K))
  | 2 => jm_pop e.2.1 st [] fun as st => jm_pR st fun r st => jm_sm st ((call e.1 (.ref r :: as) m).bind (jm_bak 0 pc l st K))
  | 4 => jm_pop e.2.1 st [] fun as st => jm_sm st ((call e.1 as m).bind (jm_bak e.2.2.2 pc l st K))
  | 5 => jm_pop e.2.1 st [] fun as st => jm_pR st fun r st => jm_sm st ((call e.1 (.ref r :: as) m).bind (jm_bak 0 pc l st K))
  | 3 => jm_pop e.2.1 st [] fun as st => jm_pR st fun r st => jm_sm st ((call e.1 (.ref r :: as) m).bind (jm_bak e.2.2.2 pc l st K))
  | 6 => jm_pop e.2.1 st [] fun as st => jm_pR st fun r st => jm_sm st ((call e.1 (.ref r :: as) m).bind (jm_bak e.2.2.2 pc l st K))
  | 7 => jm_pop e.2.1 st [] fun as st => jm_pR st fun r st => jm_sm st ((call e.1 (.ref r :: as) m).bind (jm_bak e.2.2.2 pc l st K))
  | 8 => jm_pop e.2.1 st [] fun as st => jm_pR st fun r st => jm_sm st ((call e.1 (.ref r :: as) m).bind (jm_bak e.2.2.2 pc l st K))
  | 10 => jm_pR st fun _ st => jm_sm st (K (pc + 3) l st m)
  | 11 => jm_pI st fun y st => jm_pI st fun x st => jm_sm st (K (pc + 3) l (.int (if x < y then y else x) :: st) m)
  | 12 => jm_pI st fun y st => jm_pI st fun x st => jm_sm st (K (pc + 3) l (.int (if y < x then y else x) :: st) m)
  | 13 => jm_pL st fun x st => jm_sm st (K (pc + 3) l (.long (if 0 < x then x else -x) :: st) m)
  | 14 => jm_pL st fun y st => jm_pL st fun x st => jm_sm st (K (pc + 3) l (.long (if y < x then y else x) :: st) m)
  | 15 => jm_pI st fun n st => jm_pI st fun i1 st => jm_pR st fun r1 st => jm_pI st fun i0 st => jm_pR st fun r0 st => jm_sm st ((jm_cpY m r0 i0 r1 i1 n).bind fun m => K (pc + 3) l st m)
  | 16 => jm_pR st fun r st => jm_sm st ((jm_gS m r).bind fun s => K (pc + 3) l (.int (Int32.ofNat s.1) :: st) m)
  | 17 => jm_pI st fun i st => jm_pR st fun r st => jm_sm st ((jm_gS m r).bind fun s => (jm_ix i s.1).bind fun k => K (pc + 3) l (.int (s.2 k) :: st) m)
  | 18 => jm_pF st fun x st => jm_sm st (if Op.cmpValue (FP.fcmp x x) .l = 0 then K (pc + 3) l (.int x.toInt32 :: st) m else none)
  | 19 => jm_pI st fun y st => jm_pI st fun x st => jm_sm st (if y = 0 then none else K (pc + 3) l (.int (jm_fm x y) :: st) m)
  | 23 => jm_pI st fun n st => jm_pI st fun i st => jm_sm st (if 0 ≤ i ∧ i < n then K (pc + 3) l st m else none)
  | 24 => jm_pR st fun r st => jm_sm st (if jm_int ≤ r ∧ r < jm_int + 256 then K (pc + 3) l (.int (Int32.ofInt ((r : Int) - jm_int - 128)) :: st) m else none)
  | 25 => jm_pI st fun i st => jm_sm st (if jm_by i = true then K (pc + 3) l (.ref (jm_int + (i.toInt + 128).toNat) :: st) m else none)
  | 26 => jm_pI st fun c st => jm_pI st fun b st => jm_pR st fun dst st => jm_pR st fun r st => jm_sm st ((jm_gtb m r dst b c).bind fun m => K (pc + 3) l st m)
  | 27 => jm_pI st fun k st => jm_pR st fun r st => jm_sm st (jm_cO m r k fun m1 => K (pc + 3) l (.ref m.1 :: st) m1)
  | 28 => jm_pI st fun n st => jm_pI st fun i st => jm_sm st (if 0 ≤ i ∧ i < n then K (pc + 3) l (.int i :: st) m else none)
  | 29 => jm_pR st fun r st => jm_sm st ((jm_gS m r).bind fun _ => K (pc + 3) l (.int 0 :: st) m)
  | 30 => jm_pR st fun r st => jm_sm st (jm_cl m r fun m1 => K (pc + 3) l (.ref m.1 :: st) m1)
  | _ => none
def jm_stp (call : jm_Call) (M : jm_Meth) (pc : Nat) (l : jm_Loc) (st : List Value) (m : jm_Mem) (K : jm_K) : Option jm_Res :=
  match jm_ins M pc with
  | none => none
  | some (i, n) => match i with
    | .iconst v => jm_n n 1 (K (pc + 1) l (.int (Int32.ofInt v) :: st) m)
    | .bipush v => jm_n n 2 (if -128 ≤ v ∧ v < 128 then K (pc + 2) l (.int (Int32.ofInt v) :: st) m else none)
    | .sipush v => jm_n n 3 (if -32768 ≤ v ∧ v < 32768 then K (pc + 3) l (.int (Int32.ofInt v) :: st) m else none)
    | .lconst v => jm_n n 1 (K (pc + 1) l (.long (Int64.ofNat (v : Nat)) :: st) m)
    | .fconst v => jm_n n 1 (match v with
      | 0 => K (pc + 1) l (.float FP.fconst0 :: st) m
      | 1 => K (pc + 1) l (.float FP.fconst1 :: st) m
      | _ => K (pc + 1) l (.float FP.fconst2 :: st) m)
    | .dconst v => jm_n n 1 (match v with
      | 0 => K (pc + 1) l (.double FP.dconst0 :: st) m
      | _ => none)
    | .ldc x => jm_n n 2 (match jm_cst (jm_mO M) x with
      | some (.long _) => none
      | some v => K (pc + 2) l (v :: st) m
      | none => none)
    | .ldc_w x => jm_n n 3 (match jm_cst (jm_mO M) x with
      | some (.float v) => K (pc + 3) l (.float v :: st) m
      | _ => none)
    | .ldc2_w x => jm_n n 3 (match jm_cst (jm_mO M) x with
      | some (.long v) => K (pc + 3) l (.long v :: st) m
      | _ => none)
    | .iload_n k => jm_n n 1 (jm_lI l k fun x => K (pc + 1) l (.int x :: st) m)
    | .iload k => jm_n n 2 (jm_lI l k fun x => K (pc + 2) l (.int x :: st) m)
    | .lload_n k => jm_n n 1 (jm_lL l k fun x => K (pc + 1) l (.long x :: st) m)
    | .lload k => jm_n n 2 (jm_lL l k fun x => K (pc + 2) l (.long x :: st) m)
    | .fload_n k => jm_n n 1 (jm_lF l k fun x => K (pc + 1) l (.float x :: st) m)
    | .dload k => jm_n n 2 (jm_lD l k fun x => K (pc + 2) l (.double x :: st) m)
    | .aload_n k => jm_n n 1 (jm_lR l k fun x => K (pc + 1) l (.ref x :: st) m)
    | .aload k => jm_n n 2 (jm_lR l k fun x => K (pc + 2) l (.ref x :: st) m)
    | .istore_n k => jm_n n 1 (jm_in l k (jm_pI st fun x st => K (pc + 1) (jm_st1 l k (some (.int x))) st m))
    | .istore k => jm_n n 2 (jm_in l k (jm_pI st fun x st => K (pc + 2) (jm_st1 l k (some (.int x))) st m))
    | .fstore_n k => jm_n n 1 (jm_in l k (jm_pF st fun x st => K (pc + 1) (jm_st1 l k (some (.float x))) st m))
    | .astore_n k => jm_n n 1 (jm_in l k (jm_pR st fun x st => K (pc + 1) (jm_st1 l k (some (.ref x))) st m))
    | .astore k => jm_n n 2 (jm_in l k (jm_pR st fun x st => K (pc + 2) (jm_st1 l k (some (.ref x))) st m))
    | .lstore_n k => jm_n n 1 (jm_in l (k + 1) (jm_pL st fun x st => K (pc + 1) (jm_st2 l k (.long x)) st m))
    | .lstore k => jm_n n 2 (jm_in l (k + 1) (jm_pL st fun x st => K (pc + 2) (jm_st2 l k (.long x)) st m))
    | .dstore k => jm_n n 2 (jm_in l (k + 1) (jm_pD st fun x st => K (pc + 2) (jm_st2 l k (.double x)) st m))
    | .iinc k v => jm_n n 3 (jm_in l k (jm_lI l k fun x => K (pc + 3) (jm_st1 l k (some (.int (x + Int32.ofInt v)))) st m))
    | .iadd => jm_n n 1 (jm_pI st fun y st => jm_pI st fun x st => K (pc + 1) l (.int (x + y) :: st) m)
    | .isub => jm_n n 1 (jm_pI st fun y st => jm_pI st fun x st => K (pc + 1) l (.int (x - y) :: st) m)
    | .imul => jm_n n 1 (jm_pI st fun y st => jm_pI st fun x st => K (pc + 1) l (.int (x * y) :: st) m)
    | .idiv => jm_n n 1 (jm_pI st fun y st => jm_pI st fun x st => if y = 0 then none else K (pc + 1) l (.int (x / y) :: st) m)
    | .irem => jm_n n 1 (jm_pI st fun y st => jm_pI st fun x st => if y = 0 then none else K (pc + 1) l (.int (x - x / y * y) :: st) m)
    | .ineg => jm_n n 1 (jm_pI st fun x st => K (pc + 1) l (.int (-x) :: st) m)
    | .iand => jm_n n 1 (jm_pI st fun y st => jm_pI st fun x st => K (pc + 1) l (.int (x &&& y) :: st) m)
    | .ixor => jm_n n 1 (jm_pI st fun y st => jm_pI st fun x st => K (pc + 1) l (.int (x ^^^ y) :: st) m)
    | .ior => jm_n n 1 (jm_pI st fun y st => jm_pI st fun x st => K (pc + 1) l (.int (x ||| y) :: st) m)
    | .ishl => jm_n n 1 (jm_pI st fun y st => jm_pI st fun x st => K (pc + 1) l (.int (x <<< (y &&& 31)) :: st) m)
    | .ishr => jm_n n 1 (jm_pI st fun y st => jm_pI st fun x st => K (pc + 1) l (.int (x >>> (y &&& 31)) :: st) m)
    | .iushr => jm_n n 1 (jm_pI st fun y st => jm_pI st fun x st => K (pc + 1) l (.int (x.toUInt32 >>> (y.toUInt32 &&& Int32.toUInt32 31)).toInt32 :: st) m)
    | .ladd => jm_n n 1 (jm_pL st fun y st => jm_pL st fun x st => K (pc + 1) l (.long (x + y) :: st) m)
    | .lsub => jm_n n 1 (jm_pL st fun y st => jm_pL st fun x st => K (pc + 1) l (.long (x - y) :: st) m)
    | .lmul => jm_n n 1 (jm_pL st fun y st => jm_pL st fun x st => K (pc + 1) l (.long (x * y) :: st) m)
    | .ldiv => jm_n n 1 (jm_pL st fun y st => jm_pL st fun x st => if y = 0 then none else K (pc + 1) l (.long (x / y) :: st) m)
    | .lneg => jm_n n 1 (jm_pL st fun x st => K (pc + 1) l (.long (-x) :: st) m)
    | .lcmp => jm_n n 1 (jm_pL st fun y st => jm_pL st fun x st => K (pc + 1) l (.int (lg_cmp x y) :: st) m)
    | .i2l => jm_n n 1 (jm_pI st fun x st => K (pc + 1) l (.long x.toInt64 :: st) m)
    | .l2i => jm_n n 1 (jm_pL st fun x st => K (pc + 1) l (.int x.toInt32 :: st) m)
    | .l2f => jm_n n 1 (jm_pL st fun x st => K (pc + 1) l (.float (FP.l2f x) :: st) m)
    | .i2d => jm_n n 1 (jm_pI st fun x st => K (pc + 1) l (.double (FP.i2d x) :: st) m)
    | .l2d => jm_n n 1 (jm_pL st fun x st => K (pc + 1) l (.double (FP.l2d x) :: st) m)
    | .f2i => jm_n n 1 (jm_pF st fun x st => K (pc + 1) l (.int (FP.f2i x) :: st) m)
    | .fsub => jm_n n 1 (jm_pF st fun y st => jm_pF st fun x st => jm_n32 (FP.fsub x y) (K (pc + 1) l (.float (FP.fsub x y) :: st) m))
    | .fmul => jm_n n 1 (jm_pF st fun y st => jm_pF st fun x st => jm_n32 (FP.fmul x y) (K (pc + 1) l (.float (FP.fmul x y) :: st) m))
    | .fdiv => jm_n n 1 (jm_pF st fun y st => jm_pF st fun x st => jm_n32 (FP.fdiv x y) (K (pc + 1) l (.float (FP.fdiv x y) :: st) m))
    | .ddiv => jm_n n 1 (jm_pD st fun y st => jm_pD st fun x st => jm_n64 (FP.ddiv x y) (K (pc + 1) l (.double (FP.ddiv x y) :: st) m))
    | .fcmp op => jm_n n 1 (jm_pF st fun y st => jm_pF st fun x st => K (pc + 1) l (.int (Op.cmpValue (FP.fcmp x y) op) :: st) m)
    | .dcmp op => jm_n n 1 (jm_pD st fun y st => jm_pD st fun x st => K (pc + 1) l (.int (Op.cmpValue (FP.dcmp x y) op) :: st) m)
    | .dup => jm_n n 1 (match st with
      | .int x :: st => K (pc + 1) l (.int x :: .int x :: st) m
      | .ref x :: st => K (pc + 1) l (.ref x :: .ref x :: st) m
      | _ => none)
    | .dup2 => jm_n n 1 (match st with
      | .int y :: .ref x :: st => K (pc + 1) l (.int y :: .ref x :: .int y :: .ref x :: st) m
      | .long x :: st => K (pc + 1) l (.long x :: .long x :: st) m
      | _ => none)
    | .pop => jm_n n 1 (match st with
      | .int _ :: st => K (pc + 1) l st m
      | .ref _ :: st => K (pc + 1) l st m
      | _ => none)
    | .ifCond c off => jm_n n 3 (jm_pI st fun x st => jm_tg pc off fun t => jm_cond c x 0 (K t l st m) (K (pc + 3) l st m))
    | .if_icmp c off => jm_n n 3 (jm_pI st fun y st => jm_pI st fun x st => jm_tg pc off fun t => jm_cond c x y (K t l st m) (K (pc + 3) l st m))
    | .goto off => jm_n n 3 (jm_tg pc off fun t => K t l st m)
    | .tableswitch d lo hi offs => jm_pI st fun x st => if x.toInt < lo ∨ hi < x.toInt then jm_tg pc d fun t => K t l st m else
        match offs[(x.toInt - lo).toNat]? with
        | some off => jm_tg pc off fun t => K t l st m
        | none => none
    | .getfield x => jm_n n 3 (jm_pR st fun r st => match jm_fld (jm_mO M) x with
      | some (ci, k, 0, _) => (jm_gI m r ci k).bind fun v => K (pc + 3) l (.int v :: st) m
      | some (ci, k, 1, _) => (jm_gI m r ci k).bind fun v => K (pc + 3) l (.int v :: st) m
      | some (ci, k, 2, _) => (jm_gL m r ci k).bind fun v => K (pc + 3) l (.long v :: st) m
      | some (ci, k, 3, _) => (jm_gR m r ci k).bind fun v => K (pc + 3) l (.ref v :: st) m
      | some (ci, k, 4, _) => (jm_gI m r ci k).bind fun v => K (pc + 3) l (.int v :: st) m
      | _ => none)
    | .putfield x => jm_n n 3 (match jm_fld (jm_mO M) x with
      | some (ci, k, kd, fin) => if fin = true ∧ ¬ ((jm_mY M).name = "<init>" ∧ ci = jm_mO M) then none else (match kd with
        | 0 => jm_pI st fun v st => jm_pR st fun r st => (jm_put m r ci k (.int v)).bind fun m => K (pc + 3) l st m
        | 1 => jm_pI st fun v st => jm_pR st fun r st => jm_B v ((jm_put m r ci k (.int v)).bind fun m => K (pc + 3) l st m)
        | 2 => jm_pL st fun v st => jm_pR st fun r st => (jm_put m r ci k (.long v)).bind fun m => K (pc + 3) l st m
        | 3 => jm_pR st fun v st => jm_pR st fun r st => (jm_put m r ci k (.ref v)).bind fun m => K (pc + 3) l st m
        | 4 => jm_pI st fun v st => jm_pR st fun r st => if jm_by v = true then (jm_put m r ci k (.int v)).bind fun m => K (pc + 3) l st m else none
        | _ => none)
      | none => none)
    | .arraylength => jm_n n 1 (jm_pR st fun r st => (jm_len m r).bind fun k => K (pc + 1) l (.int (Int32.ofNat k) :: st) m)
    | .iaload => jm_n n 1 (jm_pI st fun i st => jm_pR st fun r st => (jm_aI m r i).bind fun v => K (pc + 1) l (.int v :: st) m)
    | .baload => jm_n n 1 (jm_pI st fun i st => jm_pR st fun r st => (jm_aY m r i).bind fun v => K (pc + 1) l (.int v :: st) m)
    | .laload => jm_n n 1 (jm_pI st fun i st => jm_pR st fun r st => (jm_aL m r i).bind fun v => K (pc + 1) l (.long v :: st) m)
    | .daload => jm_n n 1 (jm_pI st fun i st => jm_pR st fun r st => (jm_aD m r i).bind fun v => K (pc + 1) l (.double v :: st) m)
    | .aaload => jm_n n 1 (jm_pI st fun i st => jm_pR st fun r st => (jm_aQ m r i).bind fun v => K (pc + 1) l (.ref v :: st) m)
    | .iastore => jm_n n 1 (jm_pI st fun v st => jm_pI st fun i st => jm_pR st fun r st => (jm_wI m r i v).bind fun m => K (pc + 1) l st m)
    | .bastore => jm_n n 1 (jm_pI st fun v st => jm_pI st fun i st => jm_pR st fun r st => (jm_wY m r i v).bind fun m => K (pc + 1) l st m)
    | .lastore => jm_n n 1 (jm_pL st fun v st => jm_pI st fun i st => jm_pR st fun r st => (jm_wL m r i v).bind fun m => K (pc + 1) l st m)
    | .dastore => jm_n n 1 (jm_pD st fun v st => jm_pI st fun i st => jm_pR st fun r st => (jm_wD m r i v).bind fun m => K (pc + 1) l st m)
    | .aastore => jm_n n 1 (jm_pR st fun v st => jm_pI st fun i st => jm_pR st fun r st => (jm_wQ m r i v).bind fun m => K (pc + 1) l st m)
    | .new x => jm_n n 3 (match (jm_mT M).find? (fun e => e.1 == pc) with
      | some e => jm_sm st (some (.inr e.2, jm_exc m))
      | none => match jm_cls (jm_mO M) x with
        | some (ci, fs) => jm_mk m (.inr (ci, fs)) fs.length fun m1 => K (pc + 3) l (.ref m.1 :: st) m1
        | none => none)
    | .newarray a => jm_n n 2 (jm_pI st fun k st => if k < 0 ∨ 10000000 < k.toNatClampNeg then none else (jm_zero (jm_at a) k.toNatClampNeg).bind fun z => jm_mk m (.inl (jm_at a, z)) k.toNatClampNeg fun m1 => K (pc + 2) l (.ref m.1 :: st) m1)
    | .anewarray x => jm_n n 3 (jm_pI st fun k st => if k < 0 ∨ 10000000 < k.toNatClampNeg then none else (match jm_acl (jm_mO M) x with
      | some t => jm_mk m (.inl (t, k.toNatClampNeg, .inr (.inr (.inr (.inr (fun _ => none)))))) k.toNatClampNeg fun m1 => K (pc + 3) l (.ref m.1 :: st) m1
      | none => none))
    | .invokevirtual x => jm_n n 3 (match jm_mth (jm_mO M) x with
      | some (t, a, 0, rk) => jm_inv call M pc l st m K (t, a, 0, rk)
      | some (t, a, 16, rk) => jm_inv call M pc l st m K (t, a, 16, rk)
      | some (t, a, 7, rk) => jm_inv call M pc l st m K (t, a, 7, rk)
      | some (t, a, 8, rk) => jm_inv call M pc l st m K (t, a, 8, rk)
      | some (t, a, 24, rk) => jm_inv call M pc l st m K (t, a, 24, rk)
      | some (t, a, 26, rk) => jm_inv call M pc l st m K (t, a, 26, rk)
      | some (t, a, 29, rk) => jm_inv call M pc l st m K (t, a, 29, rk)
      | some (t, a, 30, rk) => jm_inv call M pc l st m K (t, a, 30, rk)
      | some (t, a, 17, rk) => jm_inv call M pc l st m K (t, a, 17, rk)
      | _ => none)
    | .invokestatic x => jm_n n 3 (match jm_mth (jm_mO M) x with
      | some (t, a, 1, rk) => jm_inv call M pc l st m K (t, a, 1, rk)
      | some (t, a, 4, rk) => jm_inv call M pc l st m K (t, a, 4, rk)
      | some (t, a, 11, rk) => jm_inv call M pc l st m K (t, a, 11, rk)
      | some (t, a, 12, rk) => jm_inv call M pc l st m K (t, a, 12, rk)
      | some (t, a, 13, rk) => jm_inv call M pc l st m K (t, a, 13, rk)
      | some (t, a, 14, rk) => jm_inv call M pc l st m K (t, a, 14, rk)
      | some (t, a, 15, rk) => jm_inv call M pc l st m K (t, a, 15, rk)
      | some (t, a, 18, rk) => jm_inv call M pc l st m K (t, a, 18, rk)
      | some (t, a, 19, rk) => jm_inv call M pc l st m K (t, a, 19, rk)
      | some (t, a, 23, rk) => jm_inv call M pc l st m K (t, a, 23, rk)
      | some (t, a, 25, rk) => jm_inv call M pc l st m K (t, a, 25, rk)
      | some (t, a, 27, rk) => jm_inv call M pc l st m K (t, a, 27, rk)
      | some (t, a, 28, rk) => jm_inv call M pc l st m K (t, a, 28, rk)
      | _ => none)
    | .invokespecial x => jm_n n 3 (match jm_mth (jm_mO M) x with
      | some (t, a, 2, rk) => jm_inv call M pc l st m K (t, a, 2, rk)
      | some (t, a, 5, rk) => jm_inv call M pc l st m K (t, a, 5, rk)
      | some (t, a, 6, rk) => jm_inv call M pc l st m K (t, a, 6, rk)
      | some (t, a, 10, rk) => jm_inv call M pc l st m K (t, a, 10, rk)
      | _ => none)
    | .invokeinterface x k => jm_n n 5 (match jm_mth (jm_mO M) x with
      | some (t, a, 3, rk) => if k = a + 1 then jm_inv call M (pc + 2) l st m K (t, a, 3, rk) else none
      | _ => none)
    | .aconst_null => jm_n n 1 (K (pc + 1) l (.null :: st) m)
    | .dup_x1 => jm_n n 1 (match st with
      | .ref x :: .ref y :: st => K (pc + 1) l (.ref x :: .ref y :: .ref x :: st) m
      | .int x :: .ref y :: st => K (pc + 1) l (.int x :: .ref y :: .int x :: st) m
      | _ => none)
    | .i2b => jm_n n 1 (jm_pI st fun x st => K (pc + 1) l (.int x.toInt8.toInt32 :: st) m)
    | .i2c => jm_n n 1 (jm_pI st fun x st => if 0 ≤ x ∧ x < 65536 then K (pc + 1) l (.int x :: st) m else none)
    | .if_acmp c off => jm_n n 3 (jm_pR st fun y st => jm_pR st fun x st => if x = y then (match c with | .eq => jm_tg pc off fun t => K t l st m | .ne => K (pc + 3) l st m) else none)
    | .ifnonnull off => jm_n n 3 (jm_pR st fun _ st => jm_tg pc off fun t => K t l st m)
    | .getstatic x => jm_n n 3 (match jm_gst (jm_mO M) x with
      | some v => K (pc + 3) l (v :: st) m
      | none => none)
    | .checkcast x => jm_n n 3 (jm_pR st fun r st => match jm_cas (jm_mO M) x with
      | some k => if jm_caO m r k = true then K (pc + 3) l (.ref r :: st) m else none
      | none => none)
    | .areturn => jm_n n 1 (match st with
      | [.ref x] => jm_aret M x m
      | _ => none)
    | .ireturn => jm_n n 1 (match st with
      | [.int x] => jm_iret M x m
      | _ => none)
    | .lreturn => jm_n n 1 (match st with
      | [.long x] => jm_ret M .long (some (.inl (some (.long x)), m))
      | _ => none)
    | .dreturn => jm_n n 1 (match st with
      | [.double x] => jm_ret M .double (some (.inl (some (.double x)), m))
      | _ => none)
    | .return_ => jm_n n 1 (match st, jm_mR M with
      | [], none => some (.inl none, m)
      | _, _ => none)
    | _ => none
