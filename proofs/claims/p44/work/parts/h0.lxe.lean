-- uses 24.zar 34.gen 35.byt 38.mod 39.mo2 40.mo3 41.bit 46.mo8 51.moe 55.clc 74.cls 75.wra 93.tka 97.srp g0.lwu g8.lxc g9.lxd
/-! A setup as it is built, and its numbers. -/
def oL (L : seL) : Prop := ∀ (A : seL) (w h : Int) (l : List (Int × Int)) (C : seL), L = A ++ (w, h, l) :: C → (1 ≤ w ∧ w < 1000) ∧ (1 ≤ h ∧ h < 1000) ∧ l.length < 11 ∧ (∀ e ∈ l, (0 ≤ e.1 ∧ e.1 ≤ 9) ∧ (0 ≤ e.2 ∧ e.2 < 1000) ∧ (hv (w, h) e.1.toNat).1 * (hv (w, h) e.1.toNat).2 ≠ 0) ∧ (l.map Prod.fst).Nodup
def muE (E R : Int) : Nat → Int → Int := up (up (fun _ _ => 0) 412 1 E) 412 2 R
section LXE
variable {b : Int → Int} {E R : Int} {L : seL}
theorem suP_t (hs : sfx b 0 (suT E R L)) (e0 : 0 ≤ E) (e1 : E ≤ 50) (r0 : 1 ≤ R) (r1 : R ≤ 500) (hl : L.length ≤ 5) (hL : oL L) : ∃ q, suP b (fun _ _ => 0) = .inr (srV (muE E R) L, q) := by
  have h1 : sfx b 0 (wLand ++ (32 :: (dg E ++ (32 :: (dg R ++ seT 0 L))))) := hs
  obtain ⟨x, r, hx, hxd⟩ := dg_ne (z := E) e0 (by omega)
  have h1' := h1
  rw [hx] at h1'
  obtain ⟨a1, a2, a3, a4, a5⟩ := tk_bw (A := wLand) (x := x) h1' (by decide) (by decide) (by decide) (dg_bl hxd)
  have hlen : wLand.length = 4 := rfl
  rw [hlen] at a2 a3 a4 a5
  have a3 : wd b 0 = 394692 := a3
  have h2 : sfx b (0 + 4) (32 :: (dg E ++ (32 :: (dg R ++ seT 0 L)))) := sfx_a (A := wLand) h1
  obtain ⟨-, c2, c3, c4, c5⟩ := tk_bn h2 e0 (by omega) (by show ¬ (48 ≤ (32 : Int) ∧ _); omega)
  obtain ⟨d1, d2, d3, d4, d5⟩ := tk_bn c5 (by omega) (by omega : R < 1000) (rst_b seT_r).2.1
  rw [d1] at c4
  have hk : sk b 0 = 0 := sk_0 h1 (by show ¬ ((108 : Int) = 32 ∨ (108 : Int) = 10); omega)
  have hk2 := sk_0 d5 (rst_b seT_r).1
  rw [hk2] at d4
  have m0 : muE E R 412 0 = 0 := by
    unfold muE
    rw [up_ne (by omega), up_ne (by omega)]
  obtain ⟨q, g⟩ := srP_t L 6 (muE E R) 0 _ d5 (by omega) m0 (by omega) (fun k k0 k1 => by rw [m0] at k1; omega) hL
  refine ⟨q, ?_⟩
  unfold suP
  rw [hk, if_pos ⟨a1, by omega, a3⟩, a4]
  have a44 : 0 + 4 + 1 = 0 + 4 + 1 := rfl
  rw [if_pos ⟨c2, by omega, by omega⟩, c3, c4, if_pos ⟨d2, by omega, by omega⟩, d3, d4]
  exact g
theorem szV_a {μ : Nat → Int → Int} {i n s : Int} : ∀ (l : List (Int × Int)) (μ : Nat → Int → Int), szV μ i (l ++ [(n, s)]) = up (szV μ i l) 412 (12 + 13 * i + 3 + n) s := by
  intro l
  induction l with
  | nil => intro μ; rfl
  | cons e l ih => intro μ; exact ih _
theorem srV_a {w h : Int} {l : List (Int × Int)} : ∀ (L : seL) (μ : Nat → Int → Int), srV μ (L ++ [(w, h, l)]) = szV (cmV (srV μ L) (srV μ L 412 0 + 1) w h) (srV μ L 412 0) l := by
  intro L
  induction L with
  | nil => intro μ; rfl
  | cons e L ih => intro μ; exact ih _
theorem szT_a {n s : Int} : ∀ (l : List (Int × Int)), szT (l ++ [(n, s)]) = szT l ++ (32 :: (wSize ++ (32 :: (dg n ++ (32 :: dg s))))) := by
  intro l
  induction l with
  | nil => show 32 :: (wSize ++ (32 :: (dg n ++ (32 :: (dg s ++ []))))) = _; rw [List.append_nil]; rfl
  | cons e l ih =>
    obtain ⟨n', s'⟩ := e
    show 32 :: (wSize ++ (32 :: (dg n' ++ (32 :: (dg s' ++ szT (l ++ [(n, s)])))))) = (32 :: (wSize ++ (32 :: (dg n' ++ (32 :: (dg s' ++ szT l)))))) ++ _
    rw [ih]
    simp only [List.cons_append, List.append_assoc]
theorem seT_a {w h : Int} {l : List (Int × Int)} : ∀ (L : seL) (i : Nat), seT i (L ++ [(w, h, l)]) = seT i L ++ (59 :: (wSeries ++ (32 :: ([97 + ((i + L.length : Nat) : Int)] ++ (32 :: (dg w ++ (32 :: (dg h ++ szT l)))))))) := by
  intro L
  induction L with
  | nil =>
    intro i
    show 59 :: (wSeries ++ (32 :: ([97 + (i : Int)] ++ (32 :: (dg w ++ (32 :: (dg h ++ (szT l ++ [])))))))) = _
    rw [List.append_nil]
    rfl
  | cons e L ih =>
    intro i
    obtain ⟨w', h', l'⟩ := e
    show 59 :: (wSeries ++ (32 :: ([97 + (i : Int)] ++ (32 :: (dg w' ++ (32 :: (dg h' ++ (szT l' ++ seT (i + 1) (L ++ [(w, h, l)]))))))))) = (59 :: (wSeries ++ (32 :: ([97 + (i : Int)] ++ (32 :: (dg w' ++ (32 :: (dg h' ++ (szT l' ++ seT (i + 1) L))))))))) ++ _
    rw [ih (i + 1)]
    simp only [List.cons_append, List.append_assoc, List.length_cons]
    rw [show i + 1 + L.length = i + (L.length + 1) by omega]
end LXE
