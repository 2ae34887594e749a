-- uses 24.zar 34.gen 35.byt 38.mod 40.mo3 41.bit 46.mo8 51.moe 55.clc 74.cls 75.wra 93.tka 97.srp g0.lwu g8.lxc
/-! The text of a setup, and what is read out of it. -/
def wLand : List Int := [108, 97, 110, 100]
def wSeries : List Int := [115, 101, 114, 105, 101, 115]
def wSize : List Int := [115, 105, 122, 101]
def szT : List (Int × Int) → List Int
  | [] => []
  | (n, s) :: r => 32 :: (wSize ++ (32 :: (dg n ++ (32 :: (dg s ++ szT r)))))
abbrev seL : Type := List (Int × Int × List (Int × Int))
def seT : Nat → seL → List Int
  | _, [] => []
  | i, (w, h, l) :: r => 59 :: (wSeries ++ (32 :: ([97 + (i : Int)] ++ (32 :: (dg w ++ (32 :: (dg h ++ (szT l ++ seT (i + 1) r))))))))
def suT (E R : Int) (L : seL) : List Int := wLand ++ (32 :: (dg E ++ (32 :: (dg R ++ seT 0 L))))
/-- the stacks told -/
def szV (μ : Nat → Int → Int) (i : Int) : List (Int × Int) → Nat → Int → Int
  | [] => μ
  | (n, s) :: r => szV (up μ 412 (12 + 13 * i + 3 + n) s) i r
/-- the series told -/
def srV (μ : Nat → Int → Int) : seL → Nat → Int → Int
  | [] => μ
  | (w, h, l) :: r => srV (szV (cmV μ (μ 412 0 + 1) w h) (μ 412 0) l) r
section LXD
variable {b : Int → Int} {p q : Nat} {B C : List Int} {μ : Nat → Int → Int}
theorem hd_dg {z : Int} (z0 : 0 ≤ z) (z1 : z < 1000) : dgB (hd (dg z ++ B)) := by
  rw [dg_3 z0 z1]
  split
  · show 48 ≤ 48 + z % 10 ∧ 48 + z % 10 ≤ 57; omega
  · split
    · show 48 ≤ 48 + z / 10 % 10 ∧ 48 + z / 10 % 10 ≤ 57; omega
    · show 48 ≤ 48 + z / 100 % 10 ∧ 48 + z / 100 % 10 ≤ 57; omega
theorem dg_bl {x : Int} (h : dgB x) : ¬ blB x := by
  unfold dgB at h
  unfold blB
  omega
/-- a number behind a blank -/
theorem tk_bn {z : Int} (h : sfx b p (32 :: (dg z ++ B))) (z0 : 0 ≤ z) (z1 : z < 1000) (hB : ¬ dgB (hd B)) : sk b p = p + 1 ∧ kd b (p + 1) = 2 ∧ nv b (p + 1) = z ∧ nx b (p + 1) = sk b (p + 1 + dL z) ∧ sfx b (p + 1 + dL z) B := by
  obtain ⟨h1, h2, h3⟩ := tk_n (sfx_t h) z0 z1 hB
  refine ⟨sk_1 h (dg_bl (hd_dg z0 z1)), h1, h2, by unfold nx; rw [h3], ?_⟩
  rw [← dg_L z0 z1]
  exact sfx_a (sfx_t h)
/-- a word, a blank behind it -/
theorem tk_bw {A : List Int} {x : Int} (h : sfx b p (A ++ (32 :: (x :: B)))) (hA : ∀ x ∈ A, smB x) (hn : A ≠ []) (hl : A.length ≤ 12) (hx : ¬ blB x) : kd b p = 1 ∧ en b p = p + A.length ∧ wd b p = nk (fun k => A.getD k.toNat 0) A.length ∧ nx b p = p + A.length + 1 ∧ sfx b (p + A.length + 1) (x :: B) := by
  have hb : ¬ smB (hd (32 :: (x :: B))) := by show ¬ (97 ≤ (32 : Int) ∧ _); omega
  obtain ⟨h1, h2⟩ := tk_w h hA hn hb (by omega)
  refine ⟨h1, h2, tk_wd h hA hn hb hl, ?_, sfx_t (sfx_a h)⟩
  unfold nx
  rw [h2]
  exact sk_1 (sfx_a h) hx
theorem dg_ne {z : Int} (z0 : 0 ≤ z) (z1 : z < 1000) : ∃ x r, dg z = x :: r ∧ dgB x := by
  have := hd_dg (B := []) z0 z1
  rw [List.append_nil] at this
  cases hz : dg z with
  | nil => have h := dg_L z0 z1; rw [hz] at h; have : 1 ≤ dL z := by unfold dL; split; omega; split <;> omega
           simp at h; omega
  | cons x r => rw [hz] at this; exact ⟨x, r, rfl, this⟩
/-- what may stand behind -/
def rst (B : List Int) : Prop := hd B = 59 ∨ hd B = -1
theorem rst_b (h : rst B) : ¬ blB (hd B) ∧ ¬ dgB (hd B) ∧ ¬ smB (hd B) := by
  unfold rst at h
  unfold blB dgB smB
  omega
theorem szT_d {l : List (Int × Int)} (h : rst B) : ¬ dgB (hd (szT l ++ B)) := by
  cases l with
  | nil => exact (rst_b h).2.1
  | cons e r => show ¬ (48 ≤ (32 : Int) ∧ _); omega
theorem seT_r {i : Nat} {L : seL} : rst (seT i L) := by
  cases L with
  | nil => exact Or.inr rfl
  | cons e r => exact Or.inl rfl
theorem szP_t {i : Int} : ∀ (l : List (Int × Int)) (f : Nat) (μ : Nat → Int → Int) (to : Int → Int) (q : Nat), sfx b q (szT l ++ B) → rst B → l.length < f → (∀ e ∈ l, (0 ≤ e.1 ∧ e.1 ≤ 9) ∧ (0 ≤ e.2 ∧ e.2 < 1000) ∧ aM μ i e.1 ≠ 0 ∧ to e.1 = 0) → (l.map Prod.fst).Nodup →
    ∃ q', szP b i f μ to (sk b q) = .inr (szV μ i l, q') ∧ sfx b q' B := by
  intro l
  induction l with
  | nil =>
    intro f μ to q h hB hf _ _
    have h : sfx b q B := h
    obtain ⟨r1, r2, r3⟩ := rst_b hB
    refine ⟨q, ?_, h⟩
    cases f with
    | zero => exact absurd hf (by simp)
    | succ f =>
      rw [sk_0 h r1]
      show (if isW b q 632645 then _ else _) = _
      rw [if_neg fun t => kd_no h r3 t.1]
      rfl
  | cons e l ih =>
    intro f μ to q h hB hf he hd'
    obtain ⟨n, s⟩ := e
    obtain ⟨⟨n0, n1⟩, ⟨s0, s1⟩, ha, ht⟩ := he (n, s) List.mem_cons_self
    cases f with
    | zero => exact absurd hf (by simp)
    | succ f =>
      have h : sfx b q (32 :: (wSize ++ (32 :: (dg n ++ (32 :: (dg s ++ (szT l ++ B))))))) := by
        have e1 : szT ((n, s) :: l) ++ B = 32 :: (wSize ++ (32 :: (dg n ++ (32 :: (dg s ++ (szT l ++ B)))))) := by
          show (32 :: (wSize ++ (32 :: (dg n ++ (32 :: (dg s ++ szT l)))))) ++ B = _
          simp only [List.cons_append, List.append_assoc]
        rw [← e1]
        exact h
      obtain ⟨x, r, hx, hxd⟩ := dg_ne (z := n) n0 (by omega)
      have h1 : sfx b (q + 1) (wSize ++ (32 :: (x :: (r ++ (32 :: (dg s ++ (szT l ++ B))))))) := by
        have := sfx_t h
        rw [hx] at this
        exact this
      obtain ⟨w1, w2, w3, w4, w5⟩ := tk_bw h1 (by decide) (by decide) (by decide) (dg_bl hxd)
      have hq : sk b q = q + 1 := sk_1 h (by show ¬ ((115 : Int) = 32 ∨ (115 : Int) = 10); omega)
      have hlen : wSize.length = 4 := rfl
      rw [hlen] at w2 w3 w4 w5
      have w3 : wd b (q + 1) = 632645 := w3
      have h2 : sfx b (q + 1 + 4) (32 :: (dg n ++ (32 :: (dg s ++ (szT l ++ B))))) := sfx_a (sfx_t h)
      obtain ⟨-, u2, u3, u4, u5⟩ := tk_bn h2 n0 (by omega) (by show ¬ (48 ≤ (32 : Int) ∧ _); omega)
      obtain ⟨v1, v2, v3, v4, v5⟩ := tk_bn u5 s0 s1 (szT_d hB)
      rw [v1] at u4
      have hnd := List.nodup_cons.mp (show (n :: l.map Prod.fst).Nodup from hd')
      obtain ⟨q', i1, i2⟩ := ih f (up μ 412 (12 + 13 * i + 3 + n) s) (st1 to n 1) (q + 1 + 4 + 1 + dL n + 1 + dL s) v5 hB (by simp at hf; omega) (fun e' he' => by
        obtain ⟨a1, a2, a3, a4⟩ := he e' (List.mem_cons_of_mem _ he')
        refine ⟨a1, a2, ?_, ?_⟩
        · rw [aM_up (by omega)]; exact a3
        · unfold st1
          rw [if_neg]
          · exact a4
          · intro t
            exact hnd.1 (t ▸ List.mem_map_of_mem he')) hnd.2
      refine ⟨q', ?_, i2⟩
      rw [hq]
      show (if isW b (q + 1) 632645 then (if isN b (nx b (q + 1)) 0 9 then (if to (nv b (nx b (q + 1))) ≠ 0 ∨ aM μ i (nv b (nx b (q + 1))) = 0 then .inl (3, nx b (q + 1)) else (if isN b (nx b (nx b (q + 1))) 0 9999 then szP b i f (up μ 412 (12 + 13 * i + 3 + nv b (nx b (q + 1))) (nv b (nx b (nx b (q + 1))))) (st1 to (nv b (nx b (q + 1))) 1) (nx b (nx b (nx b (q + 1)))) else .inl (ecN b (nx b (nx b (q + 1))), nx b (nx b (q + 1))))) else .inl (ecN b (nx b (q + 1)), nx b (q + 1))) else .inr (μ, q + 1)) = _
      rw [if_pos ⟨w1, by omega, w3⟩, w4, if_pos ⟨u2, by omega, by omega⟩, u3, if_neg (show ¬ (to n ≠ 0 ∨ aM μ i n = 0) from fun t => t.elim (fun t => t ht) ha), u4, if_pos ⟨v2, by omega, by omega⟩, v3, v4]
      exact i1
theorem fnd_nn {α : Type} {p : Nat → Prop} [DecidablePred p] {G : Nat → α} {e : α} : ∀ (r k : Nat), (∀ j, k ≤ j → j < k + r → ¬ p j) → fnd p G e k r = e := by
  intro r
  induction r with
  | zero => intro k _; rfl
  | succ r ih =>
    intro k h
    unfold fnd
    rw [if_neg (h k (by omega) (by omega)), ih (k + 1) fun j h1 h2 => h j (by omega) (by omega)]
/-- the names are the first letters -/
def nmS (μ : Nat → Int → Int) : Prop := ∀ k : Int, 0 ≤ k → k < μ 412 0 → μ 412 (12 + 13 * k + 0) = k + 1
theorem szV_o {i : Int} {k : Int} : ∀ (l : List (Int × Int)) (μ : Nat → Int → Int), (∀ e ∈ l, 0 ≤ e.1 ∧ e.1 ≤ 9) → (k < 12 + 13 * i + 3 ∨ 12 + 13 * i + 13 ≤ k) → szV μ i l 412 k = μ 412 k := by
  intro l
  induction l with
  | nil => intro μ _ _; rfl
  | cons e l ih =>
    intro μ he hk
    have h1 := he e List.mem_cons_self
    show szV (up μ 412 (12 + 13 * i + 3 + e.1) e.2) i l 412 k = _
    rw [ih _ (fun e' h' => he e' (List.mem_cons_of_mem _ h')) hk, up_ne (by omega)]
theorem seP_t {i : Nat} {w h : Int} {l : List (Int × Int)} (hs : sfx b p (wSeries ++ (32 :: ([97 + (i : Int)] ++ (32 :: (dg w ++ (32 :: (dg h ++ (szT l ++ B))))))))) (hB : rst B) (hi : μ 412 0 = i) (i4 : i < 5) (hn : nmS μ) (w0 : 1 ≤ w) (w1 : w < 1000) (h0 : 1 ≤ h) (h1 : h < 1000) (hl : l.length < 11) (he : ∀ e ∈ l, (0 ≤ e.1 ∧ e.1 ≤ 9) ∧ (0 ≤ e.2 ∧ e.2 < 1000) ∧ aM (cmV μ ((i : Int) + 1) w h) i e.1 ≠ 0) (hd' : (l.map Prod.fst).Nodup) :
    ∃ q', seP b μ p = .inr (szV (cmV μ ((i : Int) + 1) w h) i l, q') ∧ sfx b q' B := by
  have hx : ¬ blB (97 + (i : Int)) := by unfold blB; omega
  obtain ⟨a1, a2, a3, a4, a5⟩ := tk_bw (A := wSeries) hs (by decide) (by decide) (by decide) hx
  have hlen : wSeries.length = 6 := rfl
  rw [hlen] at a2 a3 a4 a5
  have a3 : wd b p = 643376307 := a3
  obtain ⟨xw, rw', hxw, dxw⟩ := dg_ne (z := w) (by omega) w1
  have s2 : sfx b (p + 6 + 1) ([97 + (i : Int)] ++ (32 :: (xw :: (rw' ++ (32 :: (dg h ++ (szT l ++ B))))))) := by
    rw [hxw] at a5
    exact a5
  obtain ⟨b1, b2, b3, b4, b5⟩ := tk_bw (A := [97 + (i : Int)]) s2 (fun x hx => by rw [List.mem_singleton.mp hx]; unfold smB; omega) (by simp) (by simp) (dg_bl dxw)
  have b2 : en b (p + 6 + 1) = p + 6 + 1 + 1 := b2
  have b4 : nx b (p + 6 + 1) = p + 6 + 1 + 1 + 1 := b4
  have b3 : wd b (p + 6 + 1) = (i : Int) + 1 := by
    rw [b3]
    show 32 * 0 + (97 + (i : Int) - 96) = _
    omega
  have s3 : sfx b (p + 6 + 1 + 1) (32 :: (dg w ++ (32 :: (dg h ++ (szT l ++ B))))) := sfx_a (A := [97 + (i : Int)]) a5
  obtain ⟨-, c2, c3, c4, c5⟩ := tk_bn s3 (by omega) w1 (by show ¬ (48 ≤ (32 : Int) ∧ _); omega)
  obtain ⟨d1, d2, d3, d4, d5⟩ := tk_bn c5 (by omega) h1 (szT_d hB)
  rw [d1] at c4
  have hnm : nmF μ ((i : Int) + 1) = -1 := by
    unfold nmF
    refine fnd_nn _ _ fun j j0 j1 => ?_
    rw [hn j (by omega) (by omega)]
    omega
  obtain ⟨q', e1, e2⟩ := szP_t (i := (i : Int)) l 11 (cmV μ ((i : Int) + 1) w h) (fun _ => 0) _ d5 hB hl (fun e h' => by obtain ⟨x1, x2, x3⟩ := he e h'; exact ⟨x1, x2, x3, rfl⟩) hd'
  refine ⟨q', ?_, e2⟩
  unfold seP
  rw [if_pos ⟨a1, by omega, a3⟩, hi, if_neg (by omega), a4, if_pos ⟨b1, by omega⟩, b3, hnm, if_neg (by omega), b4, if_pos ⟨c2, by omega, by omega⟩, c3, c4, if_pos ⟨d2, by omega, by omega⟩, d3, d4]
  exact e1
theorem srP_t : ∀ (L : seL) (f : Nat) (μ : Nat → Int → Int) (i p : Nat), sfx b p (seT i L) → L.length < f → μ 412 0 = i → i + L.length ≤ 5 → nmS μ → (∀ (A : seL) (w h : Int) (l : List (Int × Int)) (C : seL), L = A ++ (w, h, l) :: C → (1 ≤ w ∧ w < 1000) ∧ (1 ≤ h ∧ h < 1000) ∧ l.length < 11 ∧ (∀ e ∈ l, (0 ≤ e.1 ∧ e.1 ≤ 9) ∧ (0 ≤ e.2 ∧ e.2 < 1000) ∧ (hv (w, h) e.1.toNat).1 * (hv (w, h) e.1.toNat).2 ≠ 0) ∧ (l.map Prod.fst).Nodup) → ∃ q, srP b f μ p = .inr (srV μ L, q) := by
  intro L
  induction L with
  | nil =>
    intro f μ i p h hf _ _ _ _
    cases f with
    | zero => exact absurd hf (by simp)
    | succ f =>
      have e : kd b p = 0 := kd_0 (sfx_h h)
      refine ⟨p, ?_⟩
      show (if kd b p = 0 then _ else _) = _
      rw [if_pos e]
      rfl
  | cons e L ih =>
    intro f μ i p hs hf hi h5 hn hL
    obtain ⟨w, h, l⟩ := e
    cases f with
    | zero => exact absurd hf (by simp)
    | succ f =>
      obtain ⟨⟨w0, w1⟩, ⟨h0, h1⟩, hl, he, hnd⟩ := hL [] w h l L rfl
      have hlen : (L.length + 1) = ((w, h, l) :: L).length := rfl
      obtain ⟨k1, k2, k3⟩ := tk_s hs
      have hs1 := sfx_t hs
      have en1 : nx b p = p + 1 := by
        unfold nx
        rw [k3]
        exact sk_0 hs1 (by show ¬ ((115 : Int) = 32 ∨ (115 : Int) = 10); omega)
      have c0 : 0 ≤ μ 412 0 := by omega
      have e0 : cmV μ ((i : Int) + 1) w h 412 0 = (i : Int) + 1 := by rw [cm_0 c0, hi]
      have eA : ∀ n : Int, aM (cmV μ ((i : Int) + 1) w h) i n = (hv (w, h) n.toNat).1 * (hv (w, h) n.toNat).2 := fun n => by
        unfold aM szM
        rw [← hi, cm_1 c0, cm_2 c0]
      obtain ⟨q', r1, r2⟩ := seP_t (μ := μ) hs1 seT_r hi (by omega) hn w0 w1 h0 h1 hl (fun e h' => by obtain ⟨x1, x2, x3⟩ := he e h'; exact ⟨x1, x2, by rw [eA]; exact x3⟩) hnd
      have he' : ∀ e ∈ l, 0 ≤ e.1 ∧ e.1 ≤ 9 := fun e h' => (he e h').1
      have f0 : szV (cmV μ ((i : Int) + 1) w h) i l 412 0 = ((i + 1 : Nat) : Int) := by rw [szV_o l _ he' (by omega), e0]; omega
      obtain ⟨q, g⟩ := ih f (szV (cmV μ ((i : Int) + 1) w h) i l) (i + 1) q' r2 (by omega) f0 (by omega) (fun k q0 q1 => by
        rw [f0] at q1
        rw [szV_o l _ he' (by omega)]
        by_cases c : k = i
        · rw [c, ← hi]
          unfold cmV
          rw [up_ne (by omega), up_ne (by omega), up_eq]
        · rw [cm_o (by omega) (by omega)]
          exact hn k q0 (by omega)) (fun A w' h' l' C hC => hL ((w, h, l) :: A) w' h' l' C (by rw [hC]; rfl))
      refine ⟨q, ?_⟩
      show (if kd b p = 0 then (.inr (μ, p) : pR) else (if isG b p 59 then (match seP b μ (nx b p) with | .inl e => (.inl e : pR) | .inr r => srP b f r.1 r.2) else (.inl (1, p) : pR))) = _
      rw [if_neg (by omega), if_pos ⟨k1, k2⟩, en1, r1]
      show srP b f _ q' = .inr (srV (szV (cmV μ (μ 412 0 + 1) w h) (μ 412 0) l) L, q)
      rw [hi]
      exact g
end LXD
