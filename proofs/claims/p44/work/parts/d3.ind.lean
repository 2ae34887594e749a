-- uses 24.zar 25.obj 26.ops 33.rg 34.gen d0.ina d1.inb d2.inc
/-! The class's own object made. -/
section ING
variable {X : Nat × (Nat → Int32)} {S new : List jm_Ent} {c s d : Nat}
theorem stepC {call : jm_Call} {F : List Value} {as : List Value} {fresh : jm_Ent} {N K k j dc ds : Nat} {G : jm_Mem → Option jm_Res} (hN : S.length + 1 = N) (hl : N < 1000) (hcall : ∀ c s, call K (.ref N :: as) (lM X ((.inr (11, F) :: S) ++ [fresh]) c s) = some (.inl none, lM X ((.inr (11, F) :: S) ++ new) (c + dc) (s + ds))) (hj : j < F.length) :
    (jm_mk (lM X (.inr (11, F) :: S) c s) fresh k fun m1 => (call K (.ref (lM X (.inr (11, F) :: S) c s).1 :: as) m1).bind (jm_bV (fun m2 => (jm_put m2 0 11 j (.ref (lM X (.inr (11, F) :: S) c s).1)).bind G) jm_y)) = G (lM X (.inr (11, F.set j (.ref N)) :: (S ++ new)) (c + 1 + dc) (s + k + ds)) := by
  have n1 : (lM X (.inr (11, F) :: S) c s).1 = N := hN
  rw [lM_mk (by rw [List.length_cons]; omega), n1, hcall]
  simp only [ob_s, bV_v]
  have e := put0 (X := X) (l := []) (r := S ++ new) (ci := 11) (k := j) (x := .ref N) (c := c + 1 + dc) (s := s + k + ds) hj
  exact congrArg (fun z => z.bind G) e
theorem stepR {call : jm_Call} {F : List Value} {fresh : jm_Ent} {N K k j jf a dc ds : Nat} {G : jm_Mem → Option jm_Res} (hN : S.length + 1 = N) (hl : N < 1000) (hf : F[jf]? = some (.ref a)) (hcall : ∀ c s, call K [.ref N, .ref a] (lM X ((.inr (11, F) :: S) ++ [fresh]) c s) = some (.inl none, lM X ((.inr (11, F) :: S) ++ new) (c + dc) (s + ds))) (hj : j < F.length) :
    (jm_mk (lM X (.inr (11, F) :: S) c s) fresh k fun m1 => (jm_gR m1 0 11 jf).bind fun v8 => (call K [.ref (lM X (.inr (11, F) :: S) c s).1, .ref v8] m1).bind (jm_bV (fun m2 => (jm_put m2 0 11 j (.ref (lM X (.inr (11, F) :: S) c s).1)).bind G) jm_y)) = G (lM X (.inr (11, F.set j (.ref N)) :: (S ++ new)) (c + 1 + dc) (s + k + ds)) := by
  have n1 : (lM X (.inr (11, F) :: S) c s).1 = N := hN
  have g1 : jm_gR (lM X ((.inr (11, F) :: S) ++ [fresh]) (c + 1) (s + k)) 0 11 jf = some a := lM_gR (a := 0) rfl hf
  rw [lM_mk (by rw [List.length_cons]; omega), n1, g1]
  simp only [ob_s, hcall, bV_v]
  have e := put0 (X := X) (l := []) (r := S ++ new) (ci := 11) (k := j) (x := .ref N) (c := c + 1 + dc) (s := s + k + ds) hj
  exact congrArg (fun z => z.bind G) e
theorem stepA {F : List Value} {fresh : jm_Ent} {N k j : Nat} {G : jm_Mem → Option jm_Res} (hN : S.length + 1 = N) (hl : N < 1000) (hj : j < F.length) :
    (jm_mk (lM X (.inr (11, F) :: S) c s) fresh k fun m1 => (jm_put m1 0 11 j (.ref (lM X (.inr (11, F) :: S) c s).1)).bind G) = G (lM X (.inr (11, F.set j (.ref N)) :: (S ++ [fresh])) (c + 1) (s + k)) := by
  have n1 : (lM X (.inr (11, F) :: S) c s).1 = N := hN
  rw [lM_mk (by rw [List.length_cons]; omega), n1]
  have e := put0 (X := X) (l := []) (r := S ++ [fresh]) (ci := 11) (k := j) (x := .ref N) (c := c + 1) (s := s + k) hj
  exact congrArg (fun z => z.bind G) e
end ING
def cS0 : List jm_Ent := []
def cK0 : List jm_Ent := [.inr (0, [.ref 2, .int 0]), .inl (0, 600, .inl fun _ => 0)]
def cS1 : List jm_Ent := cS0 ++ cK0
def cK1 : List jm_Ent := [.inr (0, [.ref 4, .int 0]), .inl (0, 650, .inl fun _ => 0)]
def cS2 : List jm_Ent := cS1 ++ cK1
def cK2 : List jm_Ent := [.inr (7, [.ref 1, .int 0, .int 0, .int 0, .int 0, .int 0, .int (i3 (-1))])]
def cS3 : List jm_Ent := cS2 ++ cK2
def cK3 : List jm_Ent := [.inr (10, [.ref 5, .ref 7]), .inl (1, 10, .inl fun _ => 0)]
def cS4 : List jm_Ent := cS3 ++ cK3
def cK4 : List jm_Ent := [.inr (8, [.ref 9, .ref 10, .ref 11, .ref 12, .ref 13, .int 0]), .inl (0, 30, .inl fun _ => 0), .inl (0, 30, .inl fun _ => 0), .inl (0, 30, .inl fun _ => 0), .inl (0, 30, .inl fun _ => 0), .inl (0, 30, .inl fun _ => 0)]
def cS5 : List jm_Ent := cS4 ++ cK4
def cK5 : List jm_Ent := lndC 14
def cS6 : List jm_Ent := cS5 ++ cK5
def cK6 : List jm_Ent := lndC 46
def cS7 : List jm_Ent := cS6 ++ cK6
def cK7 : List jm_Ent := hisC 78
def cS8 : List jm_Ent := cS7 ++ cK7
def cK8 : List jm_Ent := [.inl (5, 2, .inr (.inr (.inr (.inr fun _ => none))))]
def cS9 : List jm_Ent := cS8 ++ cK8
def cK9 : List jm_Ent := [.inl (1, 2, .inl fun _ => 0)]
def cS10 : List jm_Ent := cS9 ++ cK9
def cK10 : List jm_Ent := [.inl (0, 6, .inl fun _ => 0)]
def cS11 : List jm_Ent := cS10 ++ cK10
def cK11 : List jm_Ent := [.inr (5, [.ref 340, .int 0, .int 0, .int 0, .int 0, .int 0, .int 0, .int 0, .int 0, .int 0]), .inr (1, [.ref 341, .int 0, .long 0]), .inl (0, 10, .inl fun _ => 0)]
def cS12 : List jm_Ent := cS11 ++ cK11
def cK12 : List jm_Ent := [.inr (2, [.int 0, .int 0, .int 0, .ref 343, .ref 344, .ref 345, .ref 346]), .inl (1, 5, .inl fun _ => 0), .inl (0, 32, .inl fun _ => 0), .inl (0, 32, .inl fun _ => 0), .inl (0, 64, .inl fun _ => 0)]
def cS13 : List jm_Ent := cS12 ++ cK12
section INH
variable {X : Nat × (Nat → Int32)} {c s d : Nat}
def cF : List Value := [.ref 1, .ref 3, .ref 5, .ref 6, .ref 8, .ref 14, .ref 46, .ref 78, .ref 336, .ref 337, .ref 338, .ref 339, .ref 342, .int 0]
set_option maxRecDepth 100000 in
theorem iX11_a : jm_R (jm_env (d + 4)) jmM_X11_init 0 [some (.ref 0), none] [] (lM X (.inr (11, [.null, .null, .null, .null, .null, .null, .null, .null, .null, .null, .null, .null, .null, .int 0]) :: cS0) c s) = jm_R (jm_env (d + 4)) jmM_X11_init 153 [some (.ref 0), some (.int (i3 0))] [] (lM X (.inr (11, cF) :: cS13) (c + 346) (s + 4793)) := by
  rw [bX11_init_0]
  have h0 : (cS0).length + 1 = 1 := rfl
  rw [stepC (call := jm_env (d + 4)) (F := [.null, .null, .null, .null, .null, .null, .null, .null, .null, .null, .null, .null, .null, .int 0]) (as := [.int (i3 600)]) (K := 18) (j := 0) (S := cS0) (new := cK0) (N := 1) (dc := 1) (ds := 600) h0 (by omega) (fun c s => iX0 (k := 600) (d := d + 3) (X := X) (l := .inr (11, [.null, .null, .null, .null, .null, .null, .null, .null, .null, .null, .null, .null, .null, .int 0]) :: cS0) (c := c) (s := s) (by rw [List.length_cons, h0]; omega) (by omega)) (by simp)]
  simp only [List.set_cons_zero, List.set_cons_succ]
  rw [show cS0 ++ cK0 = cS1 from rfl]
  have h1 : (cS1).length + 1 = 3 := rfl
  rw [stepC (call := jm_env (d + 4)) (F := [.ref 1, .null, .null, .null, .null, .null, .null, .null, .null, .null, .null, .null, .null, .int 0]) (as := [.int (i3 650)]) (K := 18) (j := 1) (S := cS1) (new := cK1) (N := 3) (dc := 1) (ds := 650) h1 (by omega) (fun c s => iX0 (k := 650) (d := d + 3) (X := X) (l := .inr (11, [.ref 1, .null, .null, .null, .null, .null, .null, .null, .null, .null, .null, .null, .null, .int 0]) :: cS1) (c := c) (s := s) (by rw [List.length_cons, h1]; omega) (by omega)) (by simp)]
  simp only [List.set_cons_zero, List.set_cons_succ]
  rw [show cS1 ++ cK1 = cS2 from rfl]
  have h2 : (cS2).length + 1 = 5 := rfl
  rw [stepR (call := jm_env (d + 4)) (F := [.ref 1, .ref 3, .null, .null, .null, .null, .null, .null, .null, .null, .null, .null, .null, .int 0]) (K := 64) (j := 2) (S := cS2) (new := cK2) (N := 5) (jf := 0) (a := 1) (dc := 0) (ds := 0) h2 (by omega) rfl (fun c s => iX7 (a := 1) (d := d + 3) (X := X) (l := .inr (11, [.ref 1, .ref 3, .null, .null, .null, .null, .null, .null, .null, .null, .null, .null, .null, .int 0]) :: cS2) (c := c) (s := s) (by rw [List.length_cons, h2]; omega)) (by simp)]
  simp only [List.set_cons_zero, List.set_cons_succ]
  rw [show cS2 ++ cK2 = cS3 from rfl]
  have h3 : (cS3).length + 1 = 6 := rfl
  rw [stepR (call := jm_env (d + 4)) (F := [.ref 1, .ref 3, .ref 5, .null, .null, .null, .null, .null, .null, .null, .null, .null, .null, .int 0]) (K := 89) (j := 3) (S := cS3) (new := cK3) (N := 6) (jf := 2) (a := 5) (dc := 1) (ds := 10) h3 (by omega) rfl (fun c s => iX10 (a := 5) (d := d + 3) (X := X) (l := .inr (11, [.ref 1, .ref 3, .ref 5, .null, .null, .null, .null, .null, .null, .null, .null, .null, .null, .int 0]) :: cS3) (c := c) (s := s) (by rw [List.length_cons, h3]; omega)) (by simp)]
  simp only [List.set_cons_zero, List.set_cons_succ]
  rw [show cS3 ++ cK3 = cS4 from rfl]
  have h4 : (cS4).length + 1 = 8 := rfl
  rw [stepC (call := jm_env (d + 4)) (F := [.ref 1, .ref 3, .ref 5, .ref 6, .null, .null, .null, .null, .null, .null, .null, .null, .null, .int 0]) (as := []) (K := 73) (j := 4) (S := cS4) (new := cK4) (N := 8) (dc := 5) (ds := 150) h4 (by omega) (fun c s => iX8 (d := d + 3) (X := X) (l := .inr (11, [.ref 1, .ref 3, .ref 5, .ref 6, .null, .null, .null, .null, .null, .null, .null, .null, .null, .int 0]) :: cS4) (c := c) (s := s) (by rw [List.length_cons, h4]; omega)) (by simp)]
  simp only [List.set_cons_zero, List.set_cons_succ]
  rw [show cS4 ++ cK4 = cS5 from rfl]
  have h5 : (cS5).length + 1 = 14 := rfl
  rw [stepC (call := jm_env (d + 4)) (F := [.ref 1, .ref 3, .ref 5, .ref 6, .ref 8, .null, .null, .null, .null, .null, .null, .null, .null, .int 0]) (as := []) (K := 40) (j := 5) (S := cS5) (new := cK5) (N := 14) (dc := 31) (ds := 312) h5 (by omega) (fun c s => iX4 (d := d + 2) (X := X) (l := .inr (11, [.ref 1, .ref 3, .ref 5, .ref 6, .ref 8, .null, .null, .null, .null, .null, .null, .null, .null, .int 0]) :: cS5) (c := c) (s := s) (by rw [List.length_cons, h5]; omega)) (by simp)]
  simp only [List.set_cons_zero, List.set_cons_succ]
  rw [show cS5 ++ cK5 = cS6 from rfl]
  have h6 : (cS6).length + 1 = 46 := rfl
  rw [stepC (call := jm_env (d + 4)) (F := [.ref 1, .ref 3, .ref 5, .ref 6, .ref 8, .ref 14, .null, .null, .null, .null, .null, .null, .null, .int 0]) (as := []) (K := 40) (j := 6) (S := cS6) (new := cK6) (N := 46) (dc := 31) (ds := 312) h6 (by omega) (fun c s => iX4 (d := d + 2) (X := X) (l := .inr (11, [.ref 1, .ref 3, .ref 5, .ref 6, .ref 8, .ref 14, .null, .null, .null, .null, .null, .null, .null, .int 0]) :: cS6) (c := c) (s := s) (by rw [List.length_cons, h6]; omega)) (by simp)]
  simp only [List.set_cons_zero, List.set_cons_succ]
  rw [show cS6 ++ cK6 = cS7 from rfl]
  have h7 : (cS7).length + 1 = 78 := rfl
  rw [stepC (call := jm_env (d + 4)) (F := [.ref 1, .ref 3, .ref 5, .ref 6, .ref 8, .ref 14, .ref 46, .null, .null, .null, .null, .null, .null, .int 0]) (as := []) (K := 37) (j := 7) (S := cS7) (new := cK7) (N := 78) (dc := 257) (ds := 2552) h7 (by omega) (fun c s => iX3 (d := d + 1) (X := X) (l := .inr (11, [.ref 1, .ref 3, .ref 5, .ref 6, .ref 8, .ref 14, .ref 46, .null, .null, .null, .null, .null, .null, .int 0]) :: cS7) (c := c) (s := s) (by rw [List.length_cons, h7]; omega)) (by simp)]
  simp only [List.set_cons_zero, List.set_cons_succ]
  rw [show cS7 ++ cK7 = cS8 from rfl]
  have h8 : (cS8).length + 1 = 336 := rfl
  rw [stepA (F := [.ref 1, .ref 3, .ref 5, .ref 6, .ref 8, .ref 14, .ref 46, .ref 78, .null, .null, .null, .null, .null, .int 0]) (j := 8) (S := cS8) (N := 336) h8 (by omega) (by simp)]
  simp only [List.set_cons_zero, List.set_cons_succ]
  rw [show cS8 ++ [.inl (5, 2, .inr (.inr (.inr (.inr fun _ => none))))] = cS9 from rfl]
  have h9 : (cS9).length + 1 = 337 := rfl
  rw [stepA (F := [.ref 1, .ref 3, .ref 5, .ref 6, .ref 8, .ref 14, .ref 46, .ref 78, .ref 336, .null, .null, .null, .null, .int 0]) (j := 9) (S := cS9) (N := 337) h9 (by omega) (by simp)]
  simp only [List.set_cons_zero, List.set_cons_succ]
  rw [show cS9 ++ [.inl (1, 2, .inl fun _ => 0)] = cS10 from rfl]
  have h10 : (cS10).length + 1 = 338 := rfl
  rw [stepA (F := [.ref 1, .ref 3, .ref 5, .ref 6, .ref 8, .ref 14, .ref 46, .ref 78, .ref 336, .ref 337, .null, .null, .null, .int 0]) (j := 10) (S := cS10) (N := 338) h10 (by omega) (by simp)]
  simp only [List.set_cons_zero, List.set_cons_succ]
  rw [show cS10 ++ [.inl (0, 6, .inl fun _ => 0)] = cS11 from rfl]
  have h11 : (cS11).length + 1 = 339 := rfl
  rw [stepC (call := jm_env (d + 4)) (F := [.ref 1, .ref 3, .ref 5, .ref 6, .ref 8, .ref 14, .ref 46, .ref 78, .ref 336, .ref 337, .ref 338, .null, .null, .int 0]) (as := []) (K := 54) (j := 11) (S := cS11) (new := cK11) (N := 339) (dc := 2) (ds := 13) h11 (by omega) (fun c s => iX5 (d := d + 2) (X := X) (l := .inr (11, [.ref 1, .ref 3, .ref 5, .ref 6, .ref 8, .ref 14, .ref 46, .ref 78, .ref 336, .ref 337, .ref 338, .null, .null, .int 0]) :: cS11) (c := c) (s := s) (by rw [List.length_cons, h11]; omega)) (by simp)]
  simp only [List.set_cons_zero, List.set_cons_succ]
  rw [show cS11 ++ cK11 = cS12 from rfl]
  have hz12 : (cS12).length + 1 = 342 := rfl
  rw [stepC (call := jm_env (d + 4)) (F := [.ref 1, .ref 3, .ref 5, .ref 6, .ref 8, .ref 14, .ref 46, .ref 78, .ref 336, .ref 337, .ref 338, .ref 339, .null, .int 0]) (as := []) (K := 28) (j := 12) (S := cS12) (new := cK12) (N := 342) (dc := 4) (ds := 133) hz12 (by omega) (fun c s => iX2 (d := d + 3) (X := X) (l := .inr (11, [.ref 1, .ref 3, .ref 5, .ref 6, .ref 8, .ref 14, .ref 46, .ref 78, .ref 336, .ref 337, .ref 338, .ref 339, .null, .int 0]) :: cS12) (c := c) (s := s) (by rw [List.length_cons, hz12]; omega)) (by simp)]
  simp only [List.set_cons_zero, List.set_cons_succ]
  rw [show cS12 ++ cK12 = cS13 from rfl]
  rfl
end INH
