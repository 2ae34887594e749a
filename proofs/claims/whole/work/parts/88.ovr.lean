-- uses 24.zar 25.obj 26.ops 30.rd 31.re 34.gen 38.mod 39.mo2 40.mo3 41.bit 44.mo6 45.mo7 46.mo8 47.mo9 48.moa 49.mob 50.moc 51.moe
/-! One memory for both: the class's names below 411, the reference's from there on. -/
def ovr (a v : Nat → Int → Int) : Nat → Int → Int := fun n => if n < 411 then a n else v n
section OVR
variable {a v : Nat → Int → Int} {n : Nat} {k z m to : Int} {g : Int → Int}
theorem ovr_ge (h : 411 ≤ n) : ovr a v n = v n := if_neg (by omega)
theorem ovr_lt (h : n < 411) : ovr a v n = a n := if_pos h
theorem ovr_up (h : 411 ≤ n) : up (ovr a v) n k z = ovr a (up v n k z) := by
  funext j i
  by_cases q : j < 411
  · rw [ovr_lt q, up_ne (by omega), ovr_lt q]
  · rw [ovr_ge (by omega)]
    by_cases e : j = n ∧ i = k
    · rw [e.1, e.2, up_eq, up_eq]
    · rw [up_ne (by omega), up_ne (by omega), ovr_ge (by omega)]
theorem ovr_fil (h : 411 ≤ n) : fil (ovr a v) n g m = ovr a (fil v n g m) := by
  funext j i
  by_cases q : j < 411
  · rw [ovr_lt q, fil_ne (by omega), ovr_lt q]
  · rw [ovr_ge (by omega)]
    by_cases e : j = n ∧ 0 ≤ i ∧ i < m
    · rw [e.1, fil_in e.2.1 e.2.2, fil_in e.2.1 e.2.2]
    · rw [fil_ne (by omega), fil_ne (by omega), ovr_ge (by omega)]
theorem ovr_flo (h : 411 ≤ n) : flo (ovr a v) n to g m = ovr a (flo v n to g m) := by
  funext j i
  by_cases q : j < 411
  · rw [ovr_lt q, flo_b (by omega), ovr_lt q]
  · rw [ovr_ge (by omega)]
    unfold flo
    rw [ovr_ge (by omega)]
theorem ovr_eq {v' : Nat → Int → Int} (h : ∀ j : Nat, 411 ≤ j → v' j = v j) : v' = ovr v' v := by
  funext j
  by_cases q : j < 411
  · rw [ovr_lt q]
  · rw [ovr_ge (by omega), h j (by omega)]
theorem ovr_if {P : Prop} [Decidable P] {x y : Nat → Int → Int} : (if P then ovr a x else ovr a y) = ovr a (if P then x else y) := by split <;> rfl
theorem o_411 : ovr a v 411 = v 411 := ovr_ge (by omega)
theorem o_412 : ovr a v 412 = v 412 := ovr_ge (by omega)
theorem o_415 : ovr a v 415 = v 415 := ovr_ge (by omega)
theorem o_418 : ovr a v 418 = v 418 := ovr_ge (by omega)
theorem o_420 : ovr a v 420 = v 420 := ovr_ge (by omega)
theorem o_shV : shV (ovr a v) = ovr a (shV v) := by
  unfold shV
  rw [o_411, o_415, ovr_fil (by omega), ovr_up (by omega), ovr_if]
theorem o_kpV : kpV (ovr a v) g = ovr a (kpV v g) := by
  unfold kpV
  rw [o_shV, o_411, ovr_flo (by omega), ovr_up (by omega)]
theorem o_cmV {x y : Int} : cmV (ovr a v) z x y = ovr a (cmV v z x y) := by
  unfold cmV
  rw [o_412, ovr_up (by omega), ovr_up (by omega), ovr_up (by omega), ovr_up (by omega)]
theorem o_nmF {x : Int} : nmF (ovr a v) x = nmF v x := by
  unfold nmF
  rw [o_412]
theorem o_whF : whF (ovr a v) = whF v := by
  unfold whF
  rw [o_411, o_420]
theorem o_fdV {x y : Int} : fdV (ovr a v) x y = ovr a (fdV v x y) := by
  unfold fdV
  rw [o_whF, o_nmF, o_412, o_kpV, o_cmV, ovr_up (by omega), ovr_if]
theorem o_416 : ovr a v 416 = v 416 := ovr_ge (by omega)
theorem o_apV : apV (ovr a v) z = ovr a (apV v z) := by
  unfold apV
  rw [o_411, ovr_up (by omega), ovr_up (by omega)]
theorem o_fourV : fourV (ovr a v) z = ovr a (fourV v z) := by
  unfold fourV
  rw [o_apV, o_apV, o_apV, o_apV]
theorem o_twV {x y b e f : Int} : twV (ovr a v) x y b e f = ovr a (twV v x y b e f) := by
  unfold twV
  rw [o_fourV, o_fourV, o_fourV, o_fourV, o_fourV]
theorem o_unV : unV (ovr a v) = ovr a (unV v) := by
  unfold unV
  rw [o_411, o_415, ovr_up (by omega), ovr_fil (by omega)]
theorem o_svV {q : Int} : svV (ovr a v) q = ovr a (svV v q) := by
  unfold svV
  rw [o_412, ovr_flo (by omega), ovr_up (by omega)]
theorem o_rsV {q : Int} : rsV (ovr a v) q = ovr a (rsV v q) := by
  unfold rsV
  rw [o_416, ovr_fil (by omega), ovr_up (by omega)]
theorem o_trV {u : Nat → Int → Int} {r : Int} : trV (ovr a v) r (ovr a u) = ovr a (trV v r u) := by
  unfold trV
  rw [o_418, o_412, o_kpV, ovr_up (by omega), ovr_if]
theorem o_byR {i n r : Int} : byR (ovr a v) i n r = byR v i n r := by
  show byR (fun _ => ovr a v 412) i n r = byR (fun _ => v 412) i n r
  rw [o_412]
theorem o_ctR {i n r : Int} : ctR (ovr a v) i n r = ctR v i n r := by
  show ctR (fun _ => ovr a v 412) i n r = ctR (fun _ => v 412) i n r
  rw [o_412]
theorem o_kM {i n : Int} : kM (ovr a v) i n = kM v i n := by
  unfold kM
  rw [o_412]
theorem o_szM {i n : Int} : szM (ovr a v) i n = szM v i n := by
  unfold szM
  rw [o_412]
theorem o_aM {i n : Int} : aM (ovr a v) i n = aM v i n := by
  unfold aM
  rw [o_szM]
theorem o_byV {i n r : Int} : byV (ovr a v) i n r = ovr a (byV v i n r) := by
  unfold byV
  rw [o_byR, o_kM, o_aM, o_412, ovr_up (by omega), ovr_up (by omega), ovr_up (by omega), ovr_if]
theorem o_ctV {i n r : Int} : ctV (ovr a v) i n r = ovr a (ctV v i n r) := by
  unfold ctV
  rw [o_ctR, o_kM, o_kM, o_aM, o_aM, o_412, ovr_up (by omega), ovr_up (by omega), ovr_up (by omega), ovr_up (by omega), ovr_if]
theorem o_prF {x y : Int} : prF (ovr a v) x y = prF v x y := by
  unfold prF
  rw [o_412]
theorem o_kpsV {x y q : Int} : kpsV (ovr a v) x y q = ovr a (kpsV v x y q) := by
  unfold kpsV
  rw [o_prF, o_412, ovr_up (by omega), ovr_up (by omega), ovr_up (by omega), ovr_up (by omega), ovr_up (by omega), ovr_if, ovr_if]
theorem o_supM {i : Int} : ∀ n : Nat, supM (ovr a v) i n = supM v i n := by
  intro n
  induction n with
  | zero => rfl
  | succ n ih =>
    show (if aM (ovr a v) i n = 0 then 0 else min 9999 (kM (ovr a v) i n + 2 * supM (ovr a v) i n)) = if aM v i n = 0 then 0 else min 9999 (kM v i n + 2 * supM v i n)
    rw [o_aM, o_kM, ih]
theorem o_fitI {i n x y : Int} : fitI (ovr a v) i n x y = fitI v i n x y := by
  unfold fitI
  simp only [o_szM, o_412]
theorem o_nrI {st : Int × Int} {i x : Int} : nrI (ovr a v) st i x = nrI v st i x := by
  unfold nrI
  simp only [o_aM]
theorem o_nrG {x y q : Int} : nrG (ovr a v) x y q = nrG v x y q := by
  funext st k n
  unfold nrG
  simp only [o_fitI, o_supM, o_nrI, o_aM]
theorem o_nrM {x y q z : Int} : nrM (ovr a v) x y q z = nrM v x y q z := by
  unfold nrM
  rw [o_nrG, o_412]
theorem o_nrA {x y q : Int} : nrA (ovr a v) x y q = nrA v x y q := o_nrM
theorem o_fitG {x y : Int} : fitG (ovr a v) x y = fitG v x y := by
  funext z k n
  unfold fitG
  rw [o_fitI]
theorem o_flR {x y q : Int} : flR (ovr a v) x y q = flR v x y q := by
  unfold flR
  rw [o_nrA, o_fitG, o_412]
theorem o_kMf {i : Int} : kM (ovr a v) i = kM v i := by
  funext n
  exact o_kM
theorem o_strM {i : Int} {f : Int → Int} : strM (ovr a v) i f = strM v i f := by
  funext z k
  unfold strM
  rw [o_aM, o_aM]
theorem o_fsS {i q : Int} {n : Nat} : fsS (ovr a v) i q n = fsS v i q n := by
  unfold fsS
  rw [o_kMf, o_strM]
theorem o_flU {i x y q : Int} {n : Nat} : flU (ovr a v) i n x y q = ovr a (flU v i n x y q) := by
  unfold flU
  rw [o_fsS, o_kMf, o_aM, o_412, ovr_up (by omega), ovr_up (by omega), ovr_flo (by omega), ovr_up (by omega), ovr_up (by omega), ovr_up (by omega), ovr_up (by omega)]
theorem o_flV {x y q : Int} : flV (ovr a v) x y q = ovr a (flV v x y q) := by
  unfold flV
  rw [o_nrA, o_flU, o_kpsV, ovr_if]
theorem o_kpE {k z : Int} : kpV (up (ovr a v) 412 k z) (ovr a v 412) = ovr a (kpV (up v 412 k z) (v 412)) := by
  rw [o_412, ovr_up (by omega), o_kpV]
end OVR
