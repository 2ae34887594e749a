-- uses 24.zar 25.obj 26.ops 30.rd 31.re 32.rf 34.gen 58.clf 65.cll 72.clq 73.clr 80.wrf 89.rsa 90.rsb 91.rsc 92.rsd c8.foi cc.fom cd.fon e0.law e2.lay e5.frm
/-! The law: its wrappers. -/
section WRP
variable {X : Nat × (Nat → Int32)} {v w : Nat → Int → Int} {T c s : Nat} {n : Int}
theorem wl_append {a b e f g : Int} (hR : RS v n) (hT : 20 ≤ T) (ha : isI a) (hb : isI b) (he : isI e) (hf : isI f) (hg : isI g) : lWp (fun m => jm_env 59 1 [.ref 0, .int (i3 a), .int (i3 b), .int (i3 e), .int (i3 f), .int (i3 g), .ref 429] m) (fun m => jm_env 59 240 [.ref 411, .int (i3 a), .int (i3 b), .int (i3 e), .int (i3 f), .int (i3 g)] m) X v T n := by
  refine lWp_mk hT (rp_append (d := 48) hR (by omega) ha hb he hf hg) (fun m m2 zz h => ?_) (fun m m2 h => ?_) (fun q => absurd rfl q)
  · have h1 : jm_env 58 137 [.ref 0, .int (i3 a), .int (i3 b), .int (i3 e), .int (i3 f), .int (i3 g)] m = some (.inl (some (.int (i3 zz))), m2) := h
    show jm_env (58 + 1) 1 [.ref 0, .int (i3 a), .int (i3 b), .int (i3 e), .int (i3 f), .int (i3 g), .ref 429] m = _
    rw [eL_append, bL_append_0, h1]
    simp only [ob_s, bI_v, bL_append_14, bL_append_23]
  · have h1 : jm_env 58 137 [.ref 0, .int (i3 a), .int (i3 b), .int (i3 e), .int (i3 f), .int (i3 g)] m = some (.inr eIS, m2) := h
    show jm_env (58 + 1) 1 [.ref 0, .int (i3 a), .int (i3 b), .int (i3 e), .int (i3 f), .int (i3 g), .ref 429] m = _
    rw [eL_append, bL_append_0, h1]
    exact bL_append_21 _ _ _ _ _ _ _ _ _ _
theorem wl_truncate {k : Int} (hR : RS v n) (hT : 20 ≤ T) (hk : isI k) : lWp (fun m => jm_env 59 2 [.ref 0, .int (i3 k), .ref 429] m) (fun m => jm_env 59 241 [.ref 411, .int (i3 k)] m) X v T n := by
  refine lWp_mk hT (rp_truncate (d := 48) hR (by omega) hk) (fun m m2 zz h => ?_) (fun m m2 h => ?_) (fun q => absurd rfl q)
  · have h1 : jm_env 58 138 [.ref 0, .int (i3 k)] m = some (.inl (some (.int (i3 zz))), m2) := h
    show jm_env (58 + 1) 2 [.ref 0, .int (i3 k), .ref 429] m = _
    rw [eL_truncate, bL_truncate_0, h1]
    simp only [ob_s, bI_v, bL_truncate_7, bL_truncate_15]
  · have h1 : jm_env 58 138 [.ref 0, .int (i3 k)] m = some (.inr eIA, m2) := h
    show jm_env (58 + 1) 2 [.ref 0, .int (i3 k), .ref 429] m = _
    rw [eL_truncate, bL_truncate_0, h1]
    exact bL_truncate_13 _ _ _ _ _ _
theorem wl_count {q : Int} (hR : RS v n) (hT : 20 ≤ T) (hq : isI q) : lWp (fun m => jm_env 59 3 [.ref 0, .int (i3 q), .ref 429] m) (fun m => jm_env 59 296 [.ref 411, .int (i3 q)] m) X v T n := by
  refine lWp_mk hT (rp_count (d := 48) hR (by omega) hq) (fun m m2 zz h => ?_) (fun m m2 h => ?_) (fun q => absurd rfl q)
  · have h1 : jm_env 58 148 [.ref 0, .int (i3 q)] m = some (.inl (some (.int (i3 zz))), m2) := h
    show jm_env (58 + 1) 3 [.ref 0, .int (i3 q), .ref 429] m = _
    rw [eL_count, bL_count_0, h1]
    simp only [ob_s, bI_v, bL_count_7, bL_count_15]
  · have h1 : jm_env 58 148 [.ref 0, .int (i3 q)] m = some (.inr eIA, m2) := h
    show jm_env (58 + 1) 3 [.ref 0, .int (i3 q), .ref 429] m = _
    rw [eL_count, bL_count_0, h1]
    exact bL_count_13 _ _ _ _ _ _
theorem wl_letter {i k : Int} (hR : RS v n) (hT : 20 ≤ T) (hi : isI i) (hk : isI k) : lWp (fun m => jm_env 59 4 [.ref 0, .int (i3 i), .int (i3 k), .ref 429] m) (fun m => jm_env 59 299 [.ref 411, .int (i3 i), .int (i3 k)] m) X v T n := by
  refine lWp_mk hT (rp_letter (d := 48) hR (by omega) hi hk) (fun m m2 zz h => ?_) (fun m m2 h => ?_) (fun q => absurd rfl q)
  · have h1 : jm_env 58 149 [.ref 0, .int (i3 i), .int (i3 k)] m = some (.inl (some (.int (i3 zz))), m2) := h
    show jm_env (58 + 1) 4 [.ref 0, .int (i3 i), .int (i3 k), .ref 429] m = _
    rw [eL_letter, bL_letter_0, h1]
    simp only [ob_s, bI_v, bL_letter_8, bL_letter_17]
  · have h1 : jm_env 58 149 [.ref 0, .int (i3 i), .int (i3 k)] m = some (.inr eIB, m2) := h
    show jm_env (58 + 1) 4 [.ref 0, .int (i3 i), .int (i3 k), .ref 429] m = _
    rw [eL_letter, bL_letter_0, h1]
    exact bL_letter_15 _ _ _ _ _ _ _
theorem wl_size {i k q : Int} (hR : RS v n) (hT : 20 ≤ T) (hi : isI i) (hk : isI k) (hq : isI q) : lWp (fun m => jm_env 59 5 [.ref 0, .int (i3 i), .int (i3 k), .int (i3 q), .ref 429] m) (fun m => jm_env 59 301 [.ref 411, .int (i3 i), .int (i3 k), .int (i3 q)] m) X v T n := by
  refine lWp_mk hT (rp_size (d := 48) hR (by omega) hi hk hq) (fun m m2 zz h => ?_) (fun m m2 h => ?_) (fun _ m m2 h => ?_)
  · have h1 : jm_env 58 150 [.ref 0, .int (i3 i), .int (i3 k), .int (i3 q)] m = some (.inl (some (.int (i3 zz))), m2) := h
    show jm_env (58 + 1) 5 [.ref 0, .int (i3 i), .int (i3 k), .int (i3 q), .ref 429] m = _
    rw [eL_size, bL_size_0, h1]
    simp only [ob_s, bI_v, bL_size_10, bL_size_23]
  · have h1 : jm_env 58 150 [.ref 0, .int (i3 i), .int (i3 k), .int (i3 q)] m = some (.inr eIB, m2) := h
    show jm_env (58 + 1) 5 [.ref 0, .int (i3 i), .int (i3 k), .int (i3 q), .ref 429] m = _
    rw [eL_size, bL_size_0, h1]
    exact bL_size_17 _ _ _ _ _ _ _ _
  · have h1 : jm_env 58 150 [.ref 0, .int (i3 i), .int (i3 k), .int (i3 q)] m = some (.inr eIA, m2) := h
    show jm_env (58 + 1) 5 [.ref 0, .int (i3 i), .int (i3 k), .int (i3 q), .ref 429] m = _
    rw [eL_size, bL_size_0, h1]
    exact bL_size_21 _ _ _ _ _ _ _ _
theorem wl_sizes {i : Int} (hR : RS v n) (hT : 20 ≤ T) (hi : isI i) : lWp (fun m => jm_env 59 6 [.ref 0, .int (i3 i), .ref 429] m) (fun m => jm_env 59 302 [.ref 411, .int (i3 i)] m) X v T n := by
  refine lWp_mk hT (rp_sizes (d := 48) hR (by omega) hi) (fun m m2 zz h => ?_) (fun m m2 h => ?_) (fun q => absurd rfl q)
  · have h1 : jm_env 58 151 [.ref 0, .int (i3 i)] m = some (.inl (some (.int (i3 zz))), m2) := h
    show jm_env (58 + 1) 6 [.ref 0, .int (i3 i), .ref 429] m = _
    rw [eL_sizes, bL_sizes_0, h1]
    simp only [ob_s, bI_v, bL_sizes_7, bL_sizes_15]
  · have h1 : jm_env 58 151 [.ref 0, .int (i3 i)] m = some (.inr eIB, m2) := h
    show jm_env (58 + 1) 6 [.ref 0, .int (i3 i), .ref 429] m = _
    rw [eL_sizes, bL_sizes_0, h1]
    exact bL_sizes_13 _ _ _ _ _ _
theorem wl_ordered {a b : Int} (hR : RS v n) (hn : n ≤ 1000000) (hT : 20 ≤ T) (ha : isI a) (hb : isI b) : lWp (fun m => jm_env 59 9 [.ref 0, .int (i3 a), .int (i3 b), .ref 429] m) (fun m => jm_env 59 307 [.ref 411, .int (i3 a), .int (i3 b)] m) X v T n := by
  refine lWp_mk hT (rp_ordered (d := 48) hR hn (by omega) ha hb) (fun m m2 zz h => ?_) (fun m m2 h => ?_) (fun q => absurd rfl q)
  · have h1 : jm_env 58 154 [.ref 0, .int (i3 a), .int (i3 b)] m = some (.inl (some (.int (i3 zz))), m2) := h
    show jm_env (58 + 1) 9 [.ref 0, .int (i3 a), .int (i3 b), .ref 429] m = _
    rw [eL_ordered, bL_ordered_0, h1]
    simp only [ob_s, bI_v, bL_ordered_8, bL_ordered_17]
  · have h1 : jm_env 58 154 [.ref 0, .int (i3 a), .int (i3 b)] m = some (.inr eIA, m2) := h
    show jm_env (58 + 1) 9 [.ref 0, .int (i3 a), .int (i3 b), .ref 429] m = _
    rw [eL_ordered, bL_ordered_0, h1]
    exact bL_ordered_15 _ _ _ _ _ _ _
theorem wl_print {a q : Int} (hR : RS v n) (hT : 20 ≤ T) (ha : isI a) (hq : isI q) : lWp (fun m => jm_env 59 10 [.ref 0, .int (i3 a), .int (i3 q), .ref 429] m) (fun m => jm_env 59 308 [.ref 411, .int (i3 a), .int (i3 q)] m) X v T n := by
  refine lWp_mk hT (rp_print (d := 48) hR (by omega) ha hq) (fun m m2 zz h => ?_) (fun m m2 h => ?_) (fun q => absurd rfl q)
  · have h1 : jm_env 58 155 [.ref 0, .int (i3 a), .int (i3 q)] m = some (.inl (some (.int (i3 zz))), m2) := h
    show jm_env (58 + 1) 10 [.ref 0, .int (i3 a), .int (i3 q), .ref 429] m = _
    rw [eL_print, bL_print_0, h1]
    simp only [ob_s, bI_v, bL_print_8, bL_print_17]
  · have h1 : jm_env 58 155 [.ref 0, .int (i3 a), .int (i3 q)] m = some (.inr eIA, m2) := h
    show jm_env (58 + 1) 10 [.ref 0, .int (i3 a), .int (i3 q), .ref 429] m = _
    rw [eL_print, bL_print_0, h1]
    exact bL_print_15 _ _ _ _ _ _ _
theorem wl_account {q : Int} (hR : RS v n) (hn : n ≤ 1000000) (hT : 20 ≤ T) (hq : isI q) : lWp (fun m => jm_env 59 11 [.ref 0, .int (i3 q), .ref 429] m) (fun m => jm_env 59 309 [.ref 411, .int (i3 q)] m) X v T n := by
  refine lWp_mk hT (rp_account (d := 48) hR hn (by omega) hq) (fun m m2 zz h => ?_) (fun m m2 h => ?_) (fun q => absurd rfl q)
  · have h1 : jm_env 58 156 [.ref 0, .int (i3 q)] m = some (.inl (some (.int (i3 zz))), m2) := h
    show jm_env (58 + 1) 11 [.ref 0, .int (i3 q), .ref 429] m = _
    rw [eL_account, bL_account_0, h1]
    simp only [ob_s, bI_v, bL_account_7, bL_account_15]
  · have h1 : jm_env 58 156 [.ref 0, .int (i3 q)] m = some (.inr eIA, m2) := h
    show jm_env (58 + 1) 11 [.ref 0, .int (i3 q), .ref 429] m = _
    rw [eL_account, bL_account_0, h1]
    exact bL_account_13 _ _ _ _ _ _
theorem wl_refused {q : Int} (hR : RS v n) (hT : 20 ≤ T) (hq : isI q) : lWp (fun m => jm_env 59 12 [.ref 0, .int (i3 q), .ref 429] m) (fun m => jm_env 59 310 [.ref 411, .int (i3 q)] m) X v T n := by
  refine lWp_mk hT (rp_refused (d := 48) hR (by omega) hq) (fun m m2 zz h => ?_) (fun m m2 h => ?_) (fun q => absurd rfl q)
  · have h1 : jm_env 58 157 [.ref 0, .int (i3 q)] m = some (.inl (some (.int (i3 zz))), m2) := h
    show jm_env (58 + 1) 12 [.ref 0, .int (i3 q), .ref 429] m = _
    rw [eL_refused, bL_refused_0, h1]
    simp only [ob_s, bI_v, bL_refused_7, bL_refused_15]
  · have h1 : jm_env 58 157 [.ref 0, .int (i3 q)] m = some (.inr eIA, m2) := h
    show jm_env (58 + 1) 12 [.ref 0, .int (i3 q), .ref 429] m = _
    rw [eL_refused, bL_refused_0, h1]
    exact bL_refused_13 _ _ _ _ _ _
theorem wl_mostFolds {i k : Int} (hR : RS v n) (hT : 20 ≤ T) (hi : isI i) (hk : isI k) : lWp (fun m => jm_env 59 13 [.ref 0, .int (i3 i), .int (i3 k), .ref 429] m) (fun m => jm_env 59 314 [.ref 411, .int (i3 i), .int (i3 k)] m) X v T n := by
  refine lWp_mk hT (rp_mostFolds (d := 48) hR (by omega) hi hk) (fun m m2 zz h => ?_) (fun m m2 h => ?_) (fun q => absurd rfl q)
  · have h1 : jm_env 58 161 [.ref 0, .int (i3 i), .int (i3 k)] m = some (.inl (some (.int (i3 zz))), m2) := h
    show jm_env (58 + 1) 13 [.ref 0, .int (i3 i), .int (i3 k), .ref 429] m = _
    rw [eL_mostFolds, bL_mostFolds_0, h1]
    simp only [ob_s, bI_v, bL_mostFolds_8, bL_mostFolds_17]
  · have h1 : jm_env 58 161 [.ref 0, .int (i3 i), .int (i3 k)] m = some (.inr eIB, m2) := h
    show jm_env (58 + 1) 13 [.ref 0, .int (i3 i), .int (i3 k), .ref 429] m = _
    rw [eL_mostFolds, bL_mostFolds_0, h1]
    exact bL_mostFolds_15 _ _ _ _ _ _ _
theorem wl_grid {i k f z : Int} (hR : RS v n) (hT : 20 ≤ T) (hi : isI i) (hk : isI k) (hf : isI f) (hz : z = 0 ∨ z = 1) : lWp (fun m => jm_env 59 14 [.ref 0, .int (i3 i), .int (i3 k), .int (i3 f), .int (i3 z), .ref 429] m) (fun m => jm_env 59 317 [.ref 411, .int (i3 i), .int (i3 k), .int (i3 f), .int (i3 z)] m) X v T n := by
  refine lWp_mk hT (rp_grid (d := 48) hR (by omega) hi hk hf hz) (fun m m2 zz h => ?_) (fun m m2 h => ?_) (fun _ m m2 h => ?_)
  · have h1 : jm_env 58 162 [.ref 0, .int (i3 i), .int (i3 k), .int (i3 f), .int (i3 z)] m = some (.inl (some (.int (i3 zz))), m2) := h
    show jm_env (58 + 1) 14 [.ref 0, .int (i3 i), .int (i3 k), .int (i3 f), .int (i3 z), .ref 429] m = _
    rw [eL_grid, bL_grid_0, h1]
    simp only [ob_s, bI_v, bL_grid_12, bL_grid_25]
  · have h1 : jm_env 58 162 [.ref 0, .int (i3 i), .int (i3 k), .int (i3 f), .int (i3 z)] m = some (.inr eIB, m2) := h
    show jm_env (58 + 1) 14 [.ref 0, .int (i3 i), .int (i3 k), .int (i3 f), .int (i3 z), .ref 429] m = _
    rw [eL_grid, bL_grid_0, h1]
    exact bL_grid_19 _ _ _ _ _ _ _ _ _
  · have h1 : jm_env 58 162 [.ref 0, .int (i3 i), .int (i3 k), .int (i3 f), .int (i3 z)] m = some (.inr eIA, m2) := h
    show jm_env (58 + 1) 14 [.ref 0, .int (i3 i), .int (i3 k), .int (i3 f), .int (i3 z), .ref 429] m = _
    rw [eL_grid, bL_grid_0, h1]
    exact bL_grid_23 _ _ _ _ _ _ _ _ _
theorem wl_page {i k f r cc z : Int} (hR : RS v n) (hT : 20 ≤ T) (hi : isI i) (hk : isI k) (hf : isI f) (hr : isI r) (hc : isI cc) (hz : z = 0 ∨ z = 1) : lWp (fun m => jm_env 59 15 [.ref 0, .int (i3 i), .int (i3 k), .int (i3 f), .int (i3 r), .int (i3 cc), .int (i3 z), .ref 429] m) (fun m => jm_env 59 320 [.ref 411, .int (i3 i), .int (i3 k), .int (i3 f), .int (i3 r), .int (i3 cc), .int (i3 z)] m) X v T n := by
  refine lWp_mk hT (rp_page (d := 48) hR (by omega) hi hk hf hr hc hz) (fun m m2 zz h => ?_) (fun m m2 h => ?_) (fun _ m m2 h => ?_)
  · have h1 : jm_env 58 163 [.ref 0, .int (i3 i), .int (i3 k), .int (i3 f), .int (i3 r), .int (i3 cc), .int (i3 z)] m = some (.inl (some (.int (i3 zz))), m2) := h
    show jm_env (58 + 1) 15 [.ref 0, .int (i3 i), .int (i3 k), .int (i3 f), .int (i3 r), .int (i3 cc), .int (i3 z), .ref 429] m = _
    rw [eL_page, bL_page_0, h1]
    simp only [ob_s, bI_v, bL_page_16, bL_page_29]
  · have h1 : jm_env 58 163 [.ref 0, .int (i3 i), .int (i3 k), .int (i3 f), .int (i3 r), .int (i3 cc), .int (i3 z)] m = some (.inr eIB, m2) := h
    show jm_env (58 + 1) 15 [.ref 0, .int (i3 i), .int (i3 k), .int (i3 f), .int (i3 r), .int (i3 cc), .int (i3 z), .ref 429] m = _
    rw [eL_page, bL_page_0, h1]
    exact bL_page_23 _ _ _ _ _ _ _ _ _ _ _
  · have h1 : jm_env 58 163 [.ref 0, .int (i3 i), .int (i3 k), .int (i3 f), .int (i3 r), .int (i3 cc), .int (i3 z)] m = some (.inr eIA, m2) := h
    show jm_env (58 + 1) 15 [.ref 0, .int (i3 i), .int (i3 k), .int (i3 f), .int (i3 r), .int (i3 cc), .int (i3 z), .ref 429] m = _
    rw [eL_page, bL_page_0, h1]
    exact bL_page_27 _ _ _ _ _ _ _ _ _ _ _
theorem wl_cellOf {i k f p : Int} (hR : RS v n) (hT : 20 ≤ T) (hi : isI i) (hk : isI k) (hf : isI f) (hp : isI p) : lWp (fun m => jm_env 59 16 [.ref 0, .int (i3 i), .int (i3 k), .int (i3 f), .int (i3 p), .ref 429] m) (fun m => jm_env 59 322 [.ref 411, .int (i3 i), .int (i3 k), .int (i3 f), .int (i3 p)] m) X v T n := by
  refine lWp_mk hT (rp_cellOf (d := 48) hR (by omega) hi hk hf hp) (fun m m2 zz h => ?_) (fun m m2 h => ?_) (fun _ m m2 h => ?_)
  · have h1 : jm_env 58 164 [.ref 0, .int (i3 i), .int (i3 k), .int (i3 f), .int (i3 p)] m = some (.inl (some (.int (i3 zz))), m2) := h
    show jm_env (58 + 1) 16 [.ref 0, .int (i3 i), .int (i3 k), .int (i3 f), .int (i3 p), .ref 429] m = _
    rw [eL_cellOf, bL_cellOf_0, h1]
    simp only [ob_s, bI_v, bL_cellOf_12, bL_cellOf_25]
  · have h1 : jm_env 58 164 [.ref 0, .int (i3 i), .int (i3 k), .int (i3 f), .int (i3 p)] m = some (.inr eIB, m2) := h
    show jm_env (58 + 1) 16 [.ref 0, .int (i3 i), .int (i3 k), .int (i3 f), .int (i3 p), .ref 429] m = _
    rw [eL_cellOf, bL_cellOf_0, h1]
    exact bL_cellOf_19 _ _ _ _ _ _ _ _ _
  · have h1 : jm_env 58 164 [.ref 0, .int (i3 i), .int (i3 k), .int (i3 f), .int (i3 p)] m = some (.inr eIA, m2) := h
    show jm_env (58 + 1) 16 [.ref 0, .int (i3 i), .int (i3 k), .int (i3 f), .int (i3 p), .ref 429] m = _
    rw [eL_cellOf, bL_cellOf_0, h1]
    exact bL_cellOf_23 _ _ _ _ _ _ _ _ _
theorem wl_pageGap {i k f : Int} (hR : RS v n) (hT : 20 ≤ T) (hi : isI i) (hk : isI k) (hf : isI f) : lWp (fun m => jm_env 59 17 [.ref 0, .int (i3 i), .int (i3 k), .int (i3 f), .ref 429] m) (fun m => jm_env 59 325 [.ref 411, .int (i3 i), .int (i3 k), .int (i3 f)] m) X v T n := by
  refine lWp_mk hT (rp_pageGap (d := 48) hR (by omega) hi hk hf) (fun m m2 zz h => ?_) (fun m m2 h => ?_) (fun _ m m2 h => ?_)
  · have h1 : jm_env 58 165 [.ref 0, .int (i3 i), .int (i3 k), .int (i3 f)] m = some (.inl (some (.int (i3 zz))), m2) := h
    show jm_env (58 + 1) 17 [.ref 0, .int (i3 i), .int (i3 k), .int (i3 f), .ref 429] m = _
    rw [eL_pageGap, bL_pageGap_0, h1]
    simp only [ob_s, bI_v, bL_pageGap_10, bL_pageGap_23]
  · have h1 : jm_env 58 165 [.ref 0, .int (i3 i), .int (i3 k), .int (i3 f)] m = some (.inr eIB, m2) := h
    show jm_env (58 + 1) 17 [.ref 0, .int (i3 i), .int (i3 k), .int (i3 f), .ref 429] m = _
    rw [eL_pageGap, bL_pageGap_0, h1]
    exact bL_pageGap_17 _ _ _ _ _ _ _ _
  · have h1 : jm_env 58 165 [.ref 0, .int (i3 i), .int (i3 k), .int (i3 f)] m = some (.inr eIA, m2) := h
    show jm_env (58 + 1) 17 [.ref 0, .int (i3 i), .int (i3 k), .int (i3 f), .ref 429] m = _
    rw [eL_pageGap, bL_pageGap_0, h1]
    exact bL_pageGap_21 _ _ _ _ _ _ _ _
theorem wl_fitting {a b : Int} (hR : RS v n) (hT : 20 ≤ T) (ha : isI a) (hb : isI b) : lWp (fun m => jm_env 59 18 [.ref 0, .int (i3 a), .int (i3 b), .ref 429] m) (fun m => jm_env 59 326 [.ref 411, .int (i3 a), .int (i3 b)] m) X v T n := by
  refine lWp_mk hT (rp_fitting (d := 48) hR (by omega) ha hb) (fun m m2 zz h => ?_) (fun m m2 h => ?_) (fun q => absurd rfl q)
  · have h1 : jm_env 58 167 [.ref 0, .int (i3 a), .int (i3 b)] m = some (.inl (some (.int (i3 zz))), m2) := h
    show jm_env (58 + 1) 18 [.ref 0, .int (i3 a), .int (i3 b), .ref 429] m = _
    rw [eL_fitting, bL_fitting_0, h1]
    simp only [ob_s, bI_v, bL_fitting_8, bL_fitting_17]
  · have h1 : jm_env 58 167 [.ref 0, .int (i3 a), .int (i3 b)] m = some (.inr eIA, m2) := h
    show jm_env (58 + 1) 18 [.ref 0, .int (i3 a), .int (i3 b), .ref 429] m = _
    rw [eL_fitting, bL_fitting_0, h1]
    exact bL_fitting_15 _ _ _ _ _ _ _
theorem wl_nearest {a b q : Int} (hR : RS v n) (hT : 20 ≤ T) (ha : isI a) (hb : isI b) (hq : isI q) : lWp (fun m => jm_env 59 19 [.ref 0, .int (i3 a), .int (i3 b), .int (i3 q), .ref 429] m) (fun m => jm_env 59 327 [.ref 411, .int (i3 a), .int (i3 b), .int (i3 q)] m) X v T n := by
  refine lWp_mk hT (rp_nearest (d := 48) hR (by omega) ha hb hq) (fun m m2 zz h => ?_) (fun m m2 h => ?_) (fun q => absurd rfl q)
  · have h1 : jm_env 58 168 [.ref 0, .int (i3 a), .int (i3 b), .int (i3 q)] m = some (.inl (some (.int (i3 zz))), m2) := h
    show jm_env (58 + 1) 19 [.ref 0, .int (i3 a), .int (i3 b), .int (i3 q), .ref 429] m = _
    rw [eL_nearest, bL_nearest_0, h1]
    simp only [ob_s, bI_v, bL_nearest_10, bL_nearest_19]
  · have h1 : jm_env 58 168 [.ref 0, .int (i3 a), .int (i3 b), .int (i3 q)] m = some (.inr eIA, m2) := h
    show jm_env (58 + 1) 19 [.ref 0, .int (i3 a), .int (i3 b), .int (i3 q), .ref 429] m = _
    rw [eL_nearest, bL_nearest_0, h1]
    exact bL_nearest_17 _ _ _ _ _ _ _ _
theorem wl_whyNot {a b q z : Int} (hR : RS v n) (hT : 20 ≤ T) (ha : isI a) (hb : isI b) (hq : isI q) (hz : isI z) : lWp (fun m => jm_env 59 20 [.ref 0, .int (i3 a), .int (i3 b), .int (i3 q), .int (i3 z), .ref 429] m) (fun m => jm_env 59 329 [.ref 411, .int (i3 a), .int (i3 b), .int (i3 q), .int (i3 z)] m) X v T n := by
  refine lWp_mk hT (rp_whyNot (d := 48) hR (by omega) ha hb hq hz) (fun m m2 zz h => ?_) (fun m m2 h => ?_) (fun q => absurd rfl q)
  · have h1 : jm_env 58 169 [.ref 0, .int (i3 a), .int (i3 b), .int (i3 q), .int (i3 z)] m = some (.inl (some (.int (i3 zz))), m2) := h
    show jm_env (58 + 1) 20 [.ref 0, .int (i3 a), .int (i3 b), .int (i3 q), .int (i3 z), .ref 429] m = _
    rw [eL_whyNot, bL_whyNot_0, h1]
    simp only [ob_s, bI_v, bL_whyNot_12, bL_whyNot_21]
  · have h1 : jm_env 58 169 [.ref 0, .int (i3 a), .int (i3 b), .int (i3 q), .int (i3 z)] m = some (.inr eIA, m2) := h
    show jm_env (58 + 1) 20 [.ref 0, .int (i3 a), .int (i3 b), .int (i3 q), .int (i3 z), .ref 429] m = _
    rw [eL_whyNot, bL_whyNot_0, h1]
    exact bL_whyNot_19 _ _ _ _ _ _ _ _ _
theorem wl_ifOrder {a b q z : Int} (hR : RS v n) (hT : 20 ≤ T) (ha : isI a) (hb : isI b) (hq : isI q) (hz : isI z) : lWp (fun m => jm_env 59 21 [.ref 0, .int (i3 a), .int (i3 b), .int (i3 q), .int (i3 z), .ref 429] m) (fun m => jm_env 59 331 [.ref 411, .int (i3 a), .int (i3 b), .int (i3 q), .int (i3 z)] m) X v T n := by
  refine lWp_mk hT (rp_ifOrder (d := 48) hR (by omega) ha hb hq hz) (fun m m2 zz h => ?_) (fun m m2 h => ?_) (fun q => absurd rfl q)
  · have h1 : jm_env 58 170 [.ref 0, .int (i3 a), .int (i3 b), .int (i3 q), .int (i3 z)] m = some (.inl (some (.int (i3 zz))), m2) := h
    show jm_env (58 + 1) 21 [.ref 0, .int (i3 a), .int (i3 b), .int (i3 q), .int (i3 z), .ref 429] m = _
    rw [eL_ifOrder, bL_ifOrder_0, h1]
    simp only [ob_s, bI_v, bL_ifOrder_12, bL_ifOrder_21]
  · have h1 : jm_env 58 170 [.ref 0, .int (i3 a), .int (i3 b), .int (i3 q), .int (i3 z)] m = some (.inr eIA, m2) := h
    show jm_env (58 + 1) 21 [.ref 0, .int (i3 a), .int (i3 b), .int (i3 q), .int (i3 z), .ref 429] m = _
    rw [eL_ifOrder, bL_ifOrder_0, h1]
    exact bL_ifOrder_19 _ _ _ _ _ _ _ _ _
theorem wl_mostOf {a b : Int} (hR : RS v n) (hT : 20 ≤ T) (ha : isI a) (hb : isI b) : lWp (fun m => jm_env 59 22 [.ref 0, .int (i3 a), .int (i3 b), .ref 429] m) (fun m => jm_env 59 332 [.ref 411, .int (i3 a), .int (i3 b)] m) X v T n := by
  refine lWp_mk hT (rp_mostOf (d := 48) hR (by omega) ha hb) (fun m m2 zz h => ?_) (fun m m2 h => ?_) (fun q => absurd rfl q)
  · have h1 : jm_env 58 171 [.ref 0, .int (i3 a), .int (i3 b)] m = some (.inl (some (.int (i3 zz))), m2) := h
    show jm_env (58 + 1) 22 [.ref 0, .int (i3 a), .int (i3 b), .ref 429] m = _
    rw [eL_mostOf, bL_mostOf_0, h1]
    simp only [ob_s, bI_v, bL_mostOf_8, bL_mostOf_17]
  · have h1 : jm_env 58 171 [.ref 0, .int (i3 a), .int (i3 b)] m = some (.inr eIA, m2) := h
    show jm_env (58 + 1) 22 [.ref 0, .int (i3 a), .int (i3 b), .ref 429] m = _
    rw [eL_mostOf, bL_mostOf_0, h1]
    exact bL_mostOf_15 _ _ _ _ _ _ _
theorem wl_cutsFor {i k q : Int} (hR : RS v n) (hT : 20 ≤ T) (hi : isI i) (hk : isI k) (hq : isI q) : lWp (fun m => jm_env 59 23 [.ref 0, .int (i3 i), .int (i3 k), .int (i3 q), .ref 429] m) (fun m => jm_env 59 333 [.ref 411, .int (i3 i), .int (i3 k), .int (i3 q)] m) X v T n := by
  refine lWp_mk hT (rp_cutsFor (d := 48) hR (by omega) hi hk hq) (fun m m2 zz h => ?_) (fun m m2 h => ?_) (fun _ m m2 h => ?_)
  · have h1 : jm_env 58 172 [.ref 0, .int (i3 i), .int (i3 k), .int (i3 q)] m = some (.inl (some (.int (i3 zz))), m2) := h
    show jm_env (58 + 1) 23 [.ref 0, .int (i3 i), .int (i3 k), .int (i3 q), .ref 429] m = _
    rw [eL_cutsFor, bL_cutsFor_0, h1]
    simp only [ob_s, bI_v, bL_cutsFor_10, bL_cutsFor_23]
  · have h1 : jm_env 58 172 [.ref 0, .int (i3 i), .int (i3 k), .int (i3 q)] m = some (.inr eIB, m2) := h
    show jm_env (58 + 1) 23 [.ref 0, .int (i3 i), .int (i3 k), .int (i3 q), .ref 429] m = _
    rw [eL_cutsFor, bL_cutsFor_0, h1]
    exact bL_cutsFor_17 _ _ _ _ _ _ _ _
  · have h1 : jm_env 58 172 [.ref 0, .int (i3 i), .int (i3 k), .int (i3 q)] m = some (.inr eIA, m2) := h
    show jm_env (58 + 1) 23 [.ref 0, .int (i3 i), .int (i3 k), .int (i3 q), .ref 429] m = _
    rw [eL_cutsFor, bL_cutsFor_0, h1]
    exact bL_cutsFor_21 _ _ _ _ _ _ _ _
theorem wl_found {a b : Int} (hR : RS v n) (hn : 0 ≤ n) (hT : 20 ≤ T) (ha : isI a) (hb : isI b) : lWp (fun m => jm_env 59 24 [.ref 0, .int (i3 a), .int (i3 b), .ref 429] m) (fun m => jm_env 59 283 [.ref 411, .int (i3 a), .int (i3 b)] m) X v T (n + 1) := by
  refine lWp_mk hT (rp_found (d := 48) hR hn (by omega) ha hb) (fun m m2 zz h => ?_) (fun m m2 h => ?_) (fun q => absurd rfl q)
  · have h1 : jm_env 58 173 [.ref 0, .int (i3 a), .int (i3 b)] m = some (.inl (some (.int (i3 zz))), m2) := h
    show jm_env (58 + 1) 24 [.ref 0, .int (i3 a), .int (i3 b), .ref 429] m = _
    rw [eL_found, bL_found_0, h1]
    simp only [ob_s, bI_v, bL_found_8, bL_found_17]
  · have h1 : jm_env 58 173 [.ref 0, .int (i3 a), .int (i3 b)] m = some (.inr eIA, m2) := h
    show jm_env (58 + 1) 24 [.ref 0, .int (i3 a), .int (i3 b), .ref 429] m = _
    rw [eL_found, bL_found_0, h1]
    exact bL_found_15 _ _ _ _ _ _ _
theorem wl_buy {i k r : Int} (hR : RS v n) (hn : 0 ≤ n) (hT : 20 ≤ T) (hi : isI i) (hk : isI k) (hr : isI r) : lWp (fun m => jm_env 59 25 [.ref 0, .int (i3 i), .int (i3 k), .int (i3 r), .ref 429] m) (fun m => jm_env 59 284 [.ref 411, .int (i3 i), .int (i3 k), .int (i3 r)] m) X v T (n + 1) := by
  refine lWp_mk hT (rp_buy (d := 48) hR hn (by omega) hi hk hr) (fun m m2 zz h => ?_) (fun m m2 h => ?_) (fun _ m m2 h => ?_)
  · have h1 : jm_env 58 174 [.ref 0, .int (i3 i), .int (i3 k), .int (i3 r)] m = some (.inl (some (.int (i3 zz))), m2) := h
    show jm_env (58 + 1) 25 [.ref 0, .int (i3 i), .int (i3 k), .int (i3 r), .ref 429] m = _
    rw [eL_buy, bL_buy_0, h1]
    simp only [ob_s, bI_v, bL_buy_10, bL_buy_23]
  · have h1 : jm_env 58 174 [.ref 0, .int (i3 i), .int (i3 k), .int (i3 r)] m = some (.inr eIB, m2) := h
    show jm_env (58 + 1) 25 [.ref 0, .int (i3 i), .int (i3 k), .int (i3 r), .ref 429] m = _
    rw [eL_buy, bL_buy_0, h1]
    exact bL_buy_17 _ _ _ _ _ _ _ _
  · have h1 : jm_env 58 174 [.ref 0, .int (i3 i), .int (i3 k), .int (i3 r)] m = some (.inr eIA, m2) := h
    show jm_env (58 + 1) 25 [.ref 0, .int (i3 i), .int (i3 k), .int (i3 r), .ref 429] m = _
    rw [eL_buy, bL_buy_0, h1]
    exact bL_buy_21 _ _ _ _ _ _ _ _
theorem wl_cut {i k r : Int} (hR : RS v n) (hn : 0 ≤ n) (hT : 20 ≤ T) (hi : isI i) (hk : isI k) (hr : isI r) : lWp (fun m => jm_env 59 26 [.ref 0, .int (i3 i), .int (i3 k), .int (i3 r), .ref 429] m) (fun m => jm_env 59 285 [.ref 411, .int (i3 i), .int (i3 k), .int (i3 r)] m) X v T (n + 1) := by
  refine lWp_mk hT (rp_cut (d := 48) hR hn (by omega) hi hk hr) (fun m m2 zz h => ?_) (fun m m2 h => ?_) (fun _ m m2 h => ?_)
  · have h1 : jm_env 58 175 [.ref 0, .int (i3 i), .int (i3 k), .int (i3 r)] m = some (.inl (some (.int (i3 zz))), m2) := h
    show jm_env (58 + 1) 26 [.ref 0, .int (i3 i), .int (i3 k), .int (i3 r), .ref 429] m = _
    rw [eL_cut, bL_cut_0, h1]
    simp only [ob_s, bI_v, bL_cut_10, bL_cut_23]
  · have h1 : jm_env 58 175 [.ref 0, .int (i3 i), .int (i3 k), .int (i3 r)] m = some (.inr eIB, m2) := h
    show jm_env (58 + 1) 26 [.ref 0, .int (i3 i), .int (i3 k), .int (i3 r), .ref 429] m = _
    rw [eL_cut, bL_cut_0, h1]
    exact bL_cut_17 _ _ _ _ _ _ _ _
  · have h1 : jm_env 58 175 [.ref 0, .int (i3 i), .int (i3 k), .int (i3 r)] m = some (.inr eIA, m2) := h
    show jm_env (58 + 1) 26 [.ref 0, .int (i3 i), .int (i3 k), .int (i3 r), .ref 429] m = _
    rw [eL_cut, bL_cut_0, h1]
    exact bL_cut_21 _ _ _ _ _ _ _ _
theorem wl_order {a b q : Int} (hR : RS v n) (hn : 0 ≤ n) (hT : 20 ≤ T) (ha : isI a) (hb : isI b) (hq : isI q) : lWp (fun m => jm_env 59 27 [.ref 0, .int (i3 a), .int (i3 b), .int (i3 q), .ref 429] m) (fun m => jm_env 59 287 [.ref 411, .int (i3 a), .int (i3 b), .int (i3 q)] m) X v T (n + 1) := by
  refine lWp_mk hT (rp_order (d := 48) hR hn (by omega) ha hb hq) (fun m m2 zz h => ?_) (fun m m2 h => ?_) (fun q => absurd rfl q)
  · have h1 : jm_env 58 176 [.ref 0, .int (i3 a), .int (i3 b), .int (i3 q)] m = some (.inl (some (.int (i3 zz))), m2) := h
    show jm_env (58 + 1) 27 [.ref 0, .int (i3 a), .int (i3 b), .int (i3 q), .ref 429] m = _
    rw [eL_order, bL_order_0, h1]
    simp only [ob_s, bI_v, bL_order_10, bL_order_19]
  · have h1 : jm_env 58 176 [.ref 0, .int (i3 a), .int (i3 b), .int (i3 q)] m = some (.inr eIA, m2) := h
    show jm_env (58 + 1) 27 [.ref 0, .int (i3 a), .int (i3 b), .int (i3 q), .ref 429] m = _
    rw [eL_order, bL_order_0, h1]
    exact bL_order_17 _ _ _ _ _ _ _ _
theorem wl_setEdge {z : Int} (hR : RS v n) (hn : 0 ≤ n) (hT : 20 ≤ T) (hz : isI z) : lWp (fun m => jm_env 59 28 [.ref 0, .int (i3 z), .ref 429] m) (fun m => jm_env 59 288 [.ref 411, .int (i3 z)] m) X v T (n + 1) := by
  refine lWp_mk hT (rp_setEdge (d := 48) hR hn (by omega) hz) (fun m m2 zz h => ?_) (fun m m2 h => ?_) (fun q => absurd rfl q)
  · have h1 : jm_env 58 177 [.ref 0, .int (i3 z)] m = some (.inl (some (.int (i3 zz))), m2) := h
    show jm_env (58 + 1) 28 [.ref 0, .int (i3 z), .ref 429] m = _
    rw [eL_setEdge, bL_setEdge_0, h1]
    simp only [ob_s, bI_v, bL_setEdge_7, bL_setEdge_15]
  · have h1 : jm_env 58 177 [.ref 0, .int (i3 z)] m = some (.inr eIA, m2) := h
    show jm_env (58 + 1) 28 [.ref 0, .int (i3 z), .ref 429] m = _
    rw [eL_setEdge, bL_setEdge_0, h1]
    exact bL_setEdge_13 _ _ _ _ _ _
theorem wl_setReam {z : Int} (hR : RS v n) (hn : 0 ≤ n) (hT : 20 ≤ T) (hz : isI z) : lWp (fun m => jm_env 59 29 [.ref 0, .int (i3 z), .ref 429] m) (fun m => jm_env 59 289 [.ref 411, .int (i3 z)] m) X v T (n + 1) := by
  refine lWp_mk hT (rp_setReam (d := 48) hR hn (by omega) hz) (fun m m2 zz h => ?_) (fun m m2 h => ?_) (fun q => absurd rfl q)
  · have h1 : jm_env 58 178 [.ref 0, .int (i3 z)] m = some (.inl (some (.int (i3 zz))), m2) := h
    show jm_env (58 + 1) 29 [.ref 0, .int (i3 z), .ref 429] m = _
    rw [eL_setReam, bL_setReam_0, h1]
    simp only [ob_s, bI_v, bL_setReam_7, bL_setReam_15]
  · have h1 : jm_env 58 178 [.ref 0, .int (i3 z)] m = some (.inr eIA, m2) := h
    show jm_env (58 + 1) 29 [.ref 0, .int (i3 z), .ref 429] m = _
    rw [eL_setReam, bL_setReam_0, h1]
    exact bL_setReam_13 _ _ _ _ _ _
theorem wl_writeSheet {i k f z : Int} (hR : RS v n) (hT : 20 ≤ T) (hi : isI i) (hk : isI k) (hf : isI f) (hz : z = 0 ∨ z = 1) : lWp (fun m => jm_env 59 30 [.ref 0, .int (i3 i), .int (i3 k), .int (i3 f), .int (i3 z), .ref 429] m) (fun m => jm_env 59 338 [.ref 411, .int (i3 i), .int (i3 k), .int (i3 f), .int (i3 z)] m) X v T n := by
  refine lWp_mk hT (rp_writeSheet (d := 48) hR (by omega) hi hk hf hz) (fun m m2 zz h => ?_) (fun m m2 h => ?_) (fun _ m m2 h => ?_)
  · have h1 : jm_env 58 186 [.ref 0, .int (i3 i), .int (i3 k), .int (i3 f), .int (i3 z)] m = some (.inl (some (.int (i3 zz))), m2) := h
    show jm_env (58 + 1) 30 [.ref 0, .int (i3 i), .int (i3 k), .int (i3 f), .int (i3 z), .ref 429] m = _
    rw [eL_writeSheet, bL_writeSheet_0, h1]
    simp only [ob_s, bI_v, bL_writeSheet_12, bL_writeSheet_25]
  · have h1 : jm_env 58 186 [.ref 0, .int (i3 i), .int (i3 k), .int (i3 f), .int (i3 z)] m = some (.inr eIB, m2) := h
    show jm_env (58 + 1) 30 [.ref 0, .int (i3 i), .int (i3 k), .int (i3 f), .int (i3 z), .ref 429] m = _
    rw [eL_writeSheet, bL_writeSheet_0, h1]
    exact bL_writeSheet_19 _ _ _ _ _ _ _ _ _
  · have h1 : jm_env 58 186 [.ref 0, .int (i3 i), .int (i3 k), .int (i3 f), .int (i3 z)] m = some (.inr eIA, m2) := h
    show jm_env (58 + 1) 30 [.ref 0, .int (i3 i), .int (i3 k), .int (i3 f), .int (i3 z), .ref 429] m = _
    rw [eL_writeSheet, bL_writeSheet_0, h1]
    exact bL_writeSheet_23 _ _ _ _ _ _ _ _ _
theorem wl_save {q : Int} (hR : RS v n) (hT : 20 ≤ T) (hq : isI q) : lWp (fun m => jm_env 59 31 [.ref 0, .int (i3 q), .ref 429] m) (fun m => jm_env 59 292 [.ref 411, .int (i3 q)] m) X v T n := by
  refine lWp_mk hT (rp_save (d := 48) hR (by omega) hq) (fun m m2 zz h => ?_) (fun m m2 h => ?_) (fun q => absurd rfl q)
  · have h1 : jm_env 58 189 [.ref 0, .int (i3 q)] m = some (.inl (some (.int (i3 zz))), m2) := h
    show jm_env (58 + 1) 31 [.ref 0, .int (i3 q), .ref 429] m = _
    rw [eL_save, bL_save_0, h1]
    simp only [ob_s, bI_v, bL_save_7, bL_save_15]
  · have h1 : jm_env 58 189 [.ref 0, .int (i3 q)] m = some (.inr eIB, m2) := h
    show jm_env (58 + 1) 31 [.ref 0, .int (i3 q), .ref 429] m = _
    rw [eL_save, bL_save_0, h1]
    exact bL_save_13 _ _ _ _ _ _
theorem wl_restore {q : Int} (hR : RS v n) (hT : 20 ≤ T) (hq : isI q) : lWp (fun m => jm_env 59 32 [.ref 0, .int (i3 q), .ref 429] m) (fun m => jm_env 59 293 [.ref 411, .int (i3 q)] m) X v T n := by
  refine lWp_mk hT (rp_restore (d := 48) hR (by omega) hq) (fun m m2 zz h => ?_) (fun m m2 h => ?_) (fun _ m m2 h => ?_)
  · have h1 : jm_env 58 190 [.ref 0, .int (i3 q)] m = some (.inl (some (.int (i3 zz))), m2) := h
    show jm_env (58 + 1) 32 [.ref 0, .int (i3 q), .ref 429] m = _
    rw [eL_restore, bL_restore_0, h1]
    simp only [ob_s, bI_v, bL_restore_7, bL_restore_18]
  · have h1 : jm_env 58 190 [.ref 0, .int (i3 q)] m = some (.inr eIB, m2) := h
    show jm_env (58 + 1) 32 [.ref 0, .int (i3 q), .ref 429] m = _
    rw [eL_restore, bL_restore_0, h1]
    exact bL_restore_13 _ _ _ _ _ _
  · have h1 : jm_env 58 190 [.ref 0, .int (i3 q)] m = some (.inr eIS, m2) := h
    show jm_env (58 + 1) 32 [.ref 0, .int (i3 q), .ref 429] m = _
    rw [eL_restore, bL_restore_0, h1]
    exact bL_restore_16 _ _ _ _ _ _
end WRP
