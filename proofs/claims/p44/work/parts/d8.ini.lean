-- uses 24.zar 25.obj 26.ops 27.ra 28.rb 29.rc 30.rd 31.re 33.rg 34.gen 38.mod 39.mo2 40.mo3 44.mo6 45.mo7 46.mo8 51.moe 53.cla 62.clj 97.srp a1.srs c0.foa d0.ina d1.inb d2.inc d3.ind d4.ine d5.inf d6.ing d7.inh
/-! The reference's constructor. -/
def c12 : jm_Ent := .inr (12, [.null, .null, .null, .null, .null, .null, .null, .int 0, .int 0, .int 0, .int 0, .int 0, .int 0, .null, .null, .null, .int 0, .int 0, .int 0, .int 0, .int 0, .int 0, .int 0, .int 0, .int 0, .int 0, .long 0, .int 0, .int 0, .int 0, .int 0, .int 0, .null, .null, .int 0, .int 0, .null, .int 0, .int 0, .null, .null, .null, .null, .int 0])
def refC (b : Nat) : List jm_Ent := [.inr (12, [.ref (b + 1), .ref (b + 2), .ref (b + 3), .ref (b + 4), .ref (b + 5), .ref (b + 6), .ref (b + 7), .int 0, .int 0, .int 0, .int 0, .int 0, .int 0, .ref (b + 8), .ref (b + 9), .ref (b + 10), .int 0, .int 0, .int 0, .int 0, .int 0, .int 0, .int 0, .int 0, .int 0, .int (i3 (-1)), .long 0, .int 0, .int 0, .int 0, .int 0, .int 0, .ref (b + 11), .ref (b + 12), .int 0, .int 0, .ref (b + 13), .int 0, .int 0, .ref (b + 14), .ref (b + 15), .ref (b + 16), .ref (b + 17), .int 0]), .inl (2, 167, .inr (.inl fun _ => 0)), .inl (2, 167, .inr (.inl fun _ => 0)), .inl (2, 167, .inr (.inl fun _ => 0)), .inl (2, 1336, .inr (.inl fun _ => 0)), .inl (2, 334, .inr (.inl fun _ => 0)), .inl (1, 2, .inl fun _ => 0), .inl (0, 6, .inl fun _ => 0), .inl (2, 10, .inr (.inl fun _ => 0)), .inl (0, 600, .inl fun _ => 0), .inl (0, 600, .inl fun _ => 0), .inl (0, 4, .inl fun _ => 0), .inl (0, 4, .inl fun _ => 0), .inl (1, 5, .inl fun _ => 0), .inl (0, 1024, .inl fun _ => 0), .inl (0, 32, .inl fun _ => 0), .inl (0, 32, .inl fun _ => 0), .inl (0, 800, .inl fun _ => 0)]
/-- behind the arrays -/
noncomputable def tl12 (call : jm_Call) (m : jm_Mem) : Option jm_Res := (jm_gR m 411 12 0).bind fun v36 => (jm_wL m v36 (i3 1) (i6 3)).bind fun m37 => (jm_gR m37 411 12 0).bind fun v38 => (jm_wL m37 v38 (i3 2) (i6 50)).bind fun m39 => (call 215 [.ref 411, .int (i3 19391532), .int (i3 100), .int (i3 141)] m39).bind (jm_bV (fun m40 => (call 215 [.ref 411, .int (i3 409031), .int (i3 60), .int (i3 200)] m40).bind (jm_bV (fun m41 => (jm_gR m41 411 12 0).bind fun v42 => (call 214 [.int (i3 0), .int (i3 0)] m41).bind (jm_bI (fun v43 m44 => (jm_wL m44 v42 v43 (i6 10)).bind fun m45 => (jm_gR m45 411 12 0).bind fun v46 => (call 214 [.int (i3 0), .int (i3 2)] m45).bind (jm_bI (fun v47 m48 => (jm_wL m48 v46 v47 (i6 3)).bind fun m49 => (jm_gR m49 411 12 0).bind fun v50 => (call 214 [.int (i3 1), .int (i3 0)] m49).bind (jm_bI (fun v51 m52 => (jm_wL m52 v50 v51 (i6 4)).bind fun m53 => (jm_gR m53 411 12 0).bind fun v54 => (call 223 [.ref 411] m53).bind (jm_bL (fun v55 m56 => (jm_wL m56 v54 (i3 4) v55).bind fun m57 => some (.inl none, m57)) jm_x)) jm_x)) jm_x)) jm_x)) jm_x)) jm_x)
section INO
variable {X : Nat × (Nat → Int32)} {l : List jm_Ent} {c s d : Nat}
set_option maxRecDepth 10000 in
theorem iX12_a (hl : l.length = 411) : jm_env (d + 1) 204 [.ref 411] (lM X (l ++ [c12]) c s) = tl12 (jm_env d) (lM X (l ++ refC 411) (c + 17) (s + 5290)) := by
  have h9 : l.length < 900000 := by omega
  have hC : jm_isC (lM X (l ++ [c12]) c s) l.length 12 = true := c0
  rw [← hl, eX12_init _ _ _ hC, bX12_init_0]
  unfold c12
  simp (disch := first | assumption | (simp only [List.length_cons, List.length_nil]; omega)) only [mk0, len0, put0, List.cons_append, List.nil_append, List.length_cons, List.length_nil, List.set_cons_zero, List.set_cons_succ, Nat.zero_add, Nat.reduceAdd, ob_s]
  unfold tl12 refC
  rw [hl]
end INO
