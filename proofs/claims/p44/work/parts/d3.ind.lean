-- uses 24.zar 25.obj 26.ops 33.rg 34.gen d0.ina d1.inb d2.inc
/-! The class's own object made. -/
section ING
variable {X : Nat × (Nat → Int32)} {S new : List jm_Ent} {c s d : Nat}
theorem stepC {call : jm_Call} {F : List Value} {as : List Value} {fresh : jm_Ent} {N K k j dc ds : Nat} {G : jm_Mem → Option jm_Res} (hN : S.length + 1 = N) (hl : N < 1000) (hcall : ∀ c s, call K (.ref N :: as) (lM X ((.inr (11, F) :: S) ++ [fresh]) c s) = some (.inl none, lM X ((.inr (11, F) :: S) ++ new) (c + dc) (s + ds))) (hj : j < F.length) :
    (jm_mk (lM X (.inr (11, F) :: S) c s) fresh k fun m1 => (call K (.ref (lM X (.inr (11, F) :: S) c s).1 :: as) m1).bind (jm_bV (fun m2 => (jm_put m2 0 11 j (.ref (lM X (.inr (11, F) :: S) c s).1)).bind G) jm_y)) = G (lM X (.inr (11, F.set j (.ref N)) :: (S ++ new)) (c + 1 + dc) (s + k + ds)) := by
  have n1 : (lM X (.inr (11, F) :: S) c s).1 = N := hN
  rw [lM_mk (by rw [List.length_cons]; omega), n1, hcall]
  simp only [ob_s, bV_v]
  have e := put0 (X := X) (l := []) (r := S ++ new) (ci := 11) (k := j) (x := .ref N) (c := c + 1 + dc) (s := s + k + ds) hj
  exact congrArg (fun z => z.bind G) e
theorem stepR {call : jm_Call} {F : List Value} {fresh : jm_Ent} {N K k j jf a dc ds : Nat} {G : jm_Mem → Option jm_Res} (hN : S.length + 1 = N) (hl : N < 1000) (hf : F[jf]? = some (.ref a)) (hcall : ∀ c s, call K [.ref N, .ref a] (lM X ((.inr (11, F) :: S) ++ [fresh]) c s) = some (.inl none, lM X ((.inr (11, F) :: S) ++ new) (c + dc) (s + ds))) (hj : j < F.length) :
    (jm_mk (lM X (.inr (11, F) :: S) c s) fresh k fun m1 => (jm_gR m1 0 11 jf).bind fun v8 => (call K [.ref (lM X (.inr (11, F) :: S) c s).1, .ref v8] m1).bind (jm_bV (fun m2 => (jm_put m2 0 11 j (.ref (lM X (.inr (11, F) :: S) c s).1)).bind G) jm_y)) = G (lM X (.inr (11, F.set j (.ref N)) :: (S ++ new)) (c + 1 + dc) (s + k + ds)) := by
  have n1 : (lM X (.inr (11, F) :: S) c s).1 = N := hN
  have g1 : jm_gR (lM X ((.inr (11, F) :: S) ++ [fresh]) (c + 1) (s + k)) 0 11 jf = some a := lM_gR (a := 0) rfl hf
  rw [lM_mk (by rw [List.length_cons]; omega), n1, g1]
  simp only [ob_s, hcall, bV_v]
  have e := put0 (X := X) (l := []) (r := S ++ new) (ci := 11) (k := j) (x := .ref N) (c := c + 1 + dc) (s := s + k + ds) hj
  exact congrArg (fun z => z.bind G) e
theorem stepA {F : List Value} {fresh : jm_Ent} {N k j : Nat} {G : jm_Mem → Option jm_Res} (hN : S.length + 1 = N) (hl : N < 1000) (hj : j < F.length) :
    (jm_mk (lM X (.inr (11, F) :: S) c s) fresh k fun m1 => (jm_put m1 0 11 j (.ref (lM X (.inr (11, F) :: S) c s).1)).bind G) = G (lM X (.inr (11, F.set j (.ref N)) :: (S ++ [fresh])) (c + 1) (s + k)) := by
  have n1 : (lM X (.inr (11, F) :: S) c s).1 = N := hN
  rw [lM_mk (by rw [List.length_cons]; omega), n1]
  have e := put0 (X := X) (l := []) (r := S ++ [fresh]) (ci := 11) (k := j) (x := .ref N) (c := c + 1) (s := s + k) hj
  exact congrArg (fun z => z.bind G) e
end ING
def cS0 : List jm_Ent := []
def cK0 : List jm_Ent := [.inr (0, [.ref 2, .int 0]), .inl (0, 600, .inl fun _ => 0)]
def cS1 : List jm_Ent := cS0 ++ cK0
def cK1 : List jm_Ent := [.inr (0, [.ref 4, .int 0]), .inl (0, 650, .inl fun _ => 0)]
def cS2 : List jm_Ent := cS1 ++ cK1
def cK2 : List jm_Ent := [.inr (7, [.ref 1, .int 0, .int 0, .int 0, .int 0, .int 0, .int (i3 (-1))])]
def cS3 : List jm_Ent := cS2 ++ cK2
def cK3 : List jm_Ent := [.inr (10, [.ref 5, .ref 7]), .inl (1, 10, .inl fun _ => 0)]
def cS4 : List jm_Ent := cS3 ++ cK3
def cK4 : List jm_Ent := [.inr (8, [.ref 9, .ref 10, .ref 11, .ref 12, .ref 13, .int 0]), .inl (0, 30, .inl fun _ => 0), .inl (0, 30, .inl fun _ => 0), .inl (0, 30, .inl fun _ => 0), .inl (0, 30, .inl fun _ => 0), .inl (0, 30, .inl fun _ => 0)]
def cS5 : List jm_Ent := cS4 ++ cK4
def cK5 : List jm_Ent := lndC 14
def cS6 : List jm_Ent := cS5 ++ cK5
def cK6 : List jm_Ent := lndC 46
def cS7 : List jm_Ent := cS6 ++ cK6
def cK7 : List jm_Ent := hisC 78
def cS8 : List jm_Ent := cS7 ++ cK7
def cK8 : List jm_Ent := [.inl (5, 2, .inr (.inr (.inr (.inr fun _ => none))))]
def cS9 : List jm_Ent := cS8 ++ cK8
def cK9 : List jm_Ent := [.inl (1, 2, .inl fun _ => 0)]
def cS10 : List jm_Ent := cS9 ++ cK9
def cK10 : List jm_Ent := [.inl (0, 6, .inl fun _ => 0)]
def cS11 : List jm_Ent := cS10 ++ cK10
def cK11 : List jm_Ent := [.inr (5, [.ref 340, .int 0, .int 0, .int 0, .int 0, .int 0, .int 0, .int 0, .int 0, .int 0]), .inr (1, [.ref 341, .int 0, .long 0]), .inl (0, 10, .inl fun _ => 0)]
def cS12 : List jm_Ent := cS11 ++ cK11
def cK12 : List jm_Ent := [.inr (2, [.int 0, .int 0, .int 0, .ref 343, .ref 344, .ref 345, .ref 346]), .inl (1, 5, .inl fun _ => 0), .inl (0, 32, .inl fun _ => 0), .inl (0, 32, .inl fun _ => 0), .inl (0, 64, .inl fun _ => 0)]
def cS13 : List jm_Ent := cS12 ++ cK12
section INH
variable {X : Nat × (Nat → Int32)} {c s d : Nat}
def cF : List Value := [.ref 1, .ref 3, .ref 5, .ref 6, .ref 8, .ref 14, .ref 46, .ref 78, .ref 336, .ref 337, .ref 338, .ref 339, .ref 342, .int 0]
end INH
