/-! RUNNING: the whole state; pushes, failures, the small instructions -/
theorem nI_sub {a b : Nat} (h : b ≤ a) : nI a - nI b = nI (a - b) := by
  have e : nI a = nI (a - b) + nI b := by rw [nI_add, Nat.sub_add_cancel h]
  rw [e]; exact Int32.add_sub_cancel _ _
theorem lgc_lt (x y : Int64) : lg_cmp x y < 0 ↔ x < y := by
  unfold lg_cmp
  by_cases h : x > y
  · rw [if_pos h]
    refine ⟨fun q => absurd q (by decide), fun q => ?_⟩
    rw [gt_iff_lt, Int64.lt_iff_toInt_lt] at h
    rw [Int64.lt_iff_toInt_lt] at q
    omega
  · rw [if_neg h]
    by_cases e : x = y
    · rw [if_pos e]
      refine ⟨fun q => absurd q (by decide), fun q => ?_⟩
      subst e
      exact absurd q h
    · rw [if_neg e]
      refine ⟨fun _ => ?_, fun _ => by decide⟩
      rw [gt_iff_lt, Int64.lt_iff_toInt_lt] at h
      rw [Int64.lt_iff_toInt_lt]
      have : ¬ x.toInt = y.toInt := fun q => e (Int64.toInt_inj.mp q)
      omega
theorem isWh_N {a : Nat} (h : a < 1073741824) : isWh (lN a) := by
  have e := lN_toInt (n := a) (by omega)
  refine ⟨fun q => ?_, fun q => ?_⟩
  · rw [lgc_lt, Int64.lt_iff_toInt_lt, e, show (-1073741824 : Int64).toInt = -1073741824 from by decide] at q
    omega
  · rw [lgc_gt, Int64.lt_iff_toInt_lt, e, show (1073741823 : Int64).toInt = 1073741823 from by decide] at q
    omega
theorem vR_N {a : Nat} (h : a < 1073741824) (nO nR : Nat) : vR nO nR (nI 1) (lN a) (nI 1) (lN a) := Or.inr (Or.inl ⟨rfl, rfl, Or.inl ⟨isWh_N h, rfl⟩⟩)
theorem zbd_u {X : Option (Unit × zMu)} : zbd X (fun _ u => some ((), u)) = X := by
  cases X with
  | none => rfl
  | some q => rfl
theorem zbd_i {ρ : Type} {X : Option (ρ × zMu)} : zbd X (fun r u => some (r, u)) = X := by
  cases X with
  | none => rfl
  | some q => rfl
/-- what stands still: the text's context, how many fns and sites, both pictures at the start, places of the code -/
abbrev kC : Type := pCx × (Nat × Nat) × (zMu × zMu) × (Nat → Nat)
def cX (C : kC) : pCx := C.1
def cF (C : kC) : Nat := C.2.1.1
def cS (C : kC) : Nat := C.2.1.2
def cb (C : kC) : zMu := C.2.2.1.1
def cv (C : kC) : zMu := C.2.2.1.2
def cM (C : kC) : Nat → Nat := C.2.2.2
def tall : List Nat := [1, 2, 3, 4, 5, 6, 7, 8, 9, 10, 11, 12]
def kPs (C : kC) : Prop := ((xp (cX C) = 12 ∨ xp (cX C) = 23) ∧ zR (cv C) 34 6 = xp (cX C) ∧ zdy (cv C) = true) ∧ (∀ w w', w < xN (cX C) → w' < xN (cX C) → xPK (cX C) w = xPK (cX C) w' → w = w') ∧ xN (cX C) ≤ 1501 ∧ (cF C ≤ 8 ∧ zI (cv C) (xp (cX C)) 12 = nI (cF C)) ∧ (cS C ≤ 80 ∧ zI (cb C) 0 39 = nI (cS C) ∧ zI (cv C) (xp (cX C)) 8 = nI (cS C)) ∧ ∀ s, s < cS C → ∃ k, k ≤ 3 ∧ zI (cb C) 19 s = nI k ∧ zI (cv C) (xp (cX C) + 4) s = nI k ∧ zI (cv C) (xp (cX C) + 6) s = zI (cb C) 21 s ∧ (zI (cb C) 21 s = -1 ∨ ∃ f, f < cF C ∧ zI (cb C) 21 s = nI f) ∧ (¬ k = 3 → ∃ w, w < xN (cX C) ∧ zI (cb C) 22 s = nI w ∧ zL (cv C) (xp (cX C) + 7) s = xPK (cX C) w)
def kOt (C : kC) (W : kW) (T : Nat) (ur uc : zMu) : Prop := kPp W ur uc ∧ kOb W ur uc ∧ kMb (cX C) (cb C) W ur uc ∧ kSh (cX C) W ur uc ∧ kRw W ur uc ∧ kSi (cF C) (cS C) (cb C) W ur uc ∧ kFn (cF C) W ur uc ∧ kCt T ur uc
def kGd (C : kC) (W : kW) (fr : List Nat) (T t : Nat) (ur uc : zMu) : Prop := (fT tgR tall (cb C) ur ∧ fT tgC tall (cv C) uc) ∧ kSt (wO W) (wR W) t ur uc ∧ kVa (wO W) (wR W) fr.length ur uc ∧ kFr (cM C) fr ur uc ∧ kOt C W T ur uc
theorem kOt_k {C : kC} {W : kW} {T : Nat} {ts : List Nat} {ur uc vr vc : zMu} (h : kOt C W T ur uc) (hr : fT tgR ts ur vr) (hc : fT tgC ts uc vc) (q : ∀ t, 4 ≤ t → t ≤ 11 → ¬ t ∈ ts) : kOt C W T vr vc := by
  obtain ⟨h1, h2, h3, h4, h5, h6, h7, h8⟩ := h
  exact ⟨kPp_k h1 hr hc (q 4 (by omega) (by omega)), kOb_k h2 hr hc (q 5 (by omega) (by omega)), kMb_k h3 hr hc (q 6 (by omega) (by omega)), kSh_k h4 hr hc (q 7 (by omega) (by omega)), kRw_k h5 hr hc (q 8 (by omega) (by omega)), kSi_k h6 hr hc (q 9 (by omega) (by omega)), kFn_k h7 hr hc (q 10 (by omega) (by omega)), kCt_k h8 hr hc (q 11 (by omega) (by omega))⟩
theorem kGd.dy {C : kC} {W : kW} {fr : List Nat} {T t : Nat} {ur uc : zMu} (h : kGd C W fr T t ur uc) (P : kPs C) : zdy uc = true := (fT_dy h.1.2).trans P.1.2.2
/-- a picture of the class in which only the tags 12 differ -/
theorem kGd.ctl {C : kC} {W : kW} {fr : List Nat} {T t : Nat} {ur uc vc : zMu} (h : kGd C W fr T t ur uc) (k : fT tgC [12] uc vc) : kGd C W fr T t ur vc := by
  have r := fT_rf tgR [12] ur
  exact ⟨⟨h.1.1, fT_tr h.1.2 (fT_mono k (by decide))⟩, kSt_k h.2.1 r k (by decide), kVa_k h.2.2.1 r k (by decide), kFr_k h.2.2.2.1 r k (by decide), kOt_k h.2.2.2.2 r k (fun t a b => by simp; omega)⟩
/-- what an instruction leaves: t values, c credits used -/
def kQ (C : kC) (fr : List Nat) (T t c : Nat) (W : kW) (ur uc : zMu) : Int32 → zMu → Unit → zMu → Prop := fun rr vr _ vc => fT tgR tall ur vr ∧ fT tgC tall uc vc ∧ ((rr = -1 ∧ zI vc 34 17 = zI uc 34 17 ∧ zI vc 34 13 = zI uc 34 13 ∧ ∃ V, wM V + wP V ≤ wM W + wP W + c ∧ kGd C V fr T t vr vc) ∨ (rr = 1 ∧ zI vc 34 17 = 1 ∧ ∃ V, kOt C V T vr vc))
theorem kQ_s {C : kC} {W : kW} {fr : List Nat} {T t t' c : Nat} {ur uc vr vc : zMu} (h : kGd C W fr T t ur uc) (hr : fT tgR [1] ur vr) (hc : fT tgC [1] uc vc) (hs : kSt (wO W) (wR W) t' vr vc) : kQ C fr T t' c W ur uc (-1) vr () vc := by
  have r1 : fT tgR tall ur vr := fT_mono hr (by decide)
  have r2 : fT tgC tall uc vc := fT_mono hc (by decide)
  exact ⟨r1, r2, Or.inl ⟨rfl, fT_i hc (by decide) (show tgC 34 17 = 12 from rfl), fT_i hc (by decide) (show tgC 34 13 = 12 from rfl), W, by omega, ⟨fT_tr h.1.1 r1, fT_tr h.1.2 r2⟩, hs, kVa_k h.2.2.1 hr hc (by decide), kFr_k h.2.2.2.1 hr hc (by decide), kOt_k h.2.2.2.2 hr hc (fun t a b => by simp; omega)⟩⟩
theorem kQ_f (n : Nat) {C : kC} {W : kW} {fr : List Nat} {T t t' c : Nat} {ur uc vr vc : zMu} (h : kGd C W fr T t ur uc) (hr : fT tgR [1] ur vr) (hc : fT tgC [1] uc vc) (k p : Int32) : Rp (rf_fails n vr k p) (ce_M_fail n vc k p) (kQ C fr T t' c W ur uc) := by
  refine rp_eq (show rf_fails n vr k p = some (1, zsI (zsI vr 0 53 k) 0 54 p) from rfl) (show ce_M_fail n vc k p = some ((), zsI (zsI (zsI vc 34 18 k) 34 19 p) 34 17 1) from rfl) ?_
  have a1 : fT tgR tall ur vr := fT_mono hr (by decide)
  have a2 : fT tgC tall uc vc := fT_mono hc (by decide)
  have k1 := kOt_k h.2.2.2.2 hr hc (fun t a b => by simp; omega)
  have b1 : fT tgR [11, 12] vr (zsI (zsI vr 0 53 k) 0 54 p) := fT_I (fT_I (fT_rf _ _ _) k 11 rfl (by decide)) p 11 rfl (by decide)
  have b2 : fT tgC [11, 12] vc (zsI (zsI (zsI vc 34 18 k) 34 19 p) 34 17 1) := fT_I (fT_I (fT_I (fT_rf _ _ _) k 11 rfl (by decide)) p 11 rfl (by decide)) 1 12 rfl (by decide)
  refine ⟨fT_tr a1 (fT_mono b1 (by decide)), fT_tr a2 (fT_mono b2 (by decide)), Or.inr ⟨rfl, rfl, W, ?_⟩⟩
  obtain ⟨h1, h2, h3, h4, h5, h6, h7, h8⟩ := k1
  exact ⟨kPp_k h1 b1 b2 (by decide), kOb_k h2 b1 b2 (by decide), kMb_k h3 b1 b2 (by decide), kSh_k h4 b1 b2 (by decide), kRw_k h5 b1 b2 (by decide), kSi_k h6 b1 b2 (by decide), kFn_k h7 b1 b2 (by decide), h8.1, h8.2.1, h8.2.2.1, h8.2.2.2.1, rfl, rfl⟩
/-! the stack -/
theorem c_push (n : Nat) {t : Nat} {uc : zMu} (h4 : pVw 75 780 uc) (h2 : zI uc 34 8 = nI t) (hd : zdy uc = true) (ht : t < 780) {s : Nat} (hs : s ≤ 4) (x : Int64) : ∃ v, ce_M_push n uc (nI s) x = some ((), v) ∧ fT tgC [1] uc v ∧ zI v 34 8 = nI (t + 1) ∧ pVw 75 780 v ∧ (∀ j, vS 75 v j = if j = t then nI s else vS 75 uc j) ∧ (∀ j, vX 75 v j = if j = t then x else vX 75 uc j) := by
  obtain ⟨w, e, k1, k2, k3, k4⟩ := v_set n h4 hd ht hs x
  have e8 : zI w 34 8 = nI t := by rw [k2.1 34 8 (by decide)]; exact h2
  refine ⟨zsI w 34 8 (nI (t + 1)), ?_, fT_I (fT_V (fT_rf _ _ _) (v := 75) (m := 780) (t := 1) (by unfold vK; omega) k2 k1 (by decide)) _ 1 rfl (by decide), rfl, ?_, fun j => ?_, fun j => ?_⟩
  · unfold ce_M_push
    rw [h2, zbd_e e]
    show some ((), zsI w 34 8 ((zI w 34 8) + 1)) = _
    rw [e8, nI_1]
  · exact pVw_keep k1 (by rw [gI_sI, if_neg (by omega)]) (fun j => by rw [gI_sI, if_neg (by omega)]) rfl rfl
  · rw [vS_keep (v := 75) (u := w) (w := zsI w 34 8 (nI (t + 1))) (fun j => by rw [gI_sI, if_neg (by omega)]) rfl, k3]
  · rw [vX_keep (v := 75) (u := w) (w := zsI w 34 8 (nI (t + 1))) (fun _ => rfl) rfl, k4]
theorem kr_pushF {u : zMu} {t : Nat} (s : Int32) (x : Int64) : fT tgR [1] u (zsI (zsL (zsI u 27 t s) 31 t x) 0 51 (nI (t + 1))) := fT_I (fT_L (fT_I (fT_rf _ _ _) s 1 rfl (by decide)) x 1 rfl (by decide)) _ 1 rfl (by decide)
theorem kSt_mk {nO nR t k : Nat} {ur uc vr vc : zMu} (h : kSt nO nR t ur uc) (hk : k ≤ t) (k7 : k < 780) (r0 : zI vr 0 51 = nI (k + 1)) (c0 : zI vc 34 8 = nI (k + 1)) (c1 : pVw 75 780 vc) (r1 : ∀ j, j < k → zI vr 27 j = zI ur 27 j) (r2 : ∀ j, j < k → zL vr 31 j = zL ur 31 j) (c2 : ∀ j, j < k → vS 75 vc j = vS 75 uc j) (c3 : ∀ j, j < k → vX 75 vc j = vX 75 uc j) (hv : vR nO nR (zI vr 27 k) (zL vr 31 k) (vS 75 vc k) (vX 75 vc k)) : kSt nO nR (k + 1) vr vc := by
  refine ⟨r0, c0, by omega, c1, fun j hj => ?_⟩
  by_cases e : j = k
  · subst e; exact hv
  · rw [r1 j (by omega), r2 j (by omega), c2 j (by omega), c3 j (by omega)]
    exact h.2.2.2.2 j (by omega)
theorem kSt_pop {nO nR t k : Nat} {ur uc : zMu} (h : kSt nO nR t ur uc) (hk : k ≤ t) : kSt nO nR k (zsI ur 0 51 (nI k)) (zsI uc 34 8 (nI k)) := by
  obtain ⟨h1, h2, h3, h4, h5⟩ := h
  refine ⟨rfl, rfl, by omega, pVw_keep h4 (by rw [gI_sI, if_neg (by omega)]) (fun j => by rw [gI_sI, if_neg (by omega)]) rfl rfl, fun j hj => ?_⟩
  rw [vS_keep (v := 75) (u := uc) (w := zsI uc 34 8 (nI k)) (fun j => by rw [gI_sI, if_neg (by omega)]) rfl, vX_keep (v := 75) (u := uc) (w := zsI uc 34 8 (nI k)) (fun _ => rfl) rfl, gI_sI, if_neg (by omega)]
  exact h5 j (by omega)
theorem popR (u : zMu) (k : Int32) : fT tgR [1] u (zsI u 0 51 k) := fT_I (fT_rf _ _ _) k 1 rfl (by decide)
theorem popC (u : zMu) (k : Int32) : fT tgC [1] u (zsI u 34 8 k) := fT_I (fT_rf _ _ _) k 1 rfl (by decide)
/-- the class's picture behind a pop reads as before -/
theorem popV {u : zMu} (k : Int32) (h : pVw 75 780 u) : pVw 75 780 (zsI u 34 8 k) ∧ (∀ j, vS 75 (zsI u 34 8 k) j = vS 75 u j) ∧ (∀ j, vX 75 (zsI u 34 8 k) j = vX 75 u j) := ⟨pVw_keep h (by rw [gI_sI, if_neg (by omega)]) (fun j => by rw [gI_sI, if_neg (by omega)]) rfl rfl, vS_keep (v := 75) (u := u) (w := zsI u 34 8 k) (fun j => by rw [gI_sI, if_neg (by omega)]) rfl, vX_keep (v := 75) (u := u) (w := zsI u 34 8 k) (fun _ => rfl) rfl⟩
/-- a push behind a pop: both -/
theorem o_push (n : Nat) {C : kC} (P : kPs C) {W : kW} {fr : List Nat} {T t c : Nat} {ur uc : zMu} (h : kGd C W fr T t ur uc) (ht : t < 780) {sr : Int32} {xr : Int64} {s : Nat} {xc : Int64} (hs : s ≤ 4) (hv : vR (wO W) (wR W) sr xr (nI s) xc) : Rp (zbd (rf_pushes n ur sr xr) fun _ u => some ((-1 : Int32), u)) (ce_M_push n uc (nI s) xc) (kQ C fr T (t + 1) c W ur uc) := by
  obtain ⟨v, e, f, g1, g2, g3, g4⟩ := c_push n h.2.1.2.2.2.1 h.2.1.2.1 (h.dy P) ht hs xc
  refine rp_l (kr_push n h.2.1.1 (by omega) sr xr) (rp_eq rfl e ?_)
  refine kQ_s h (kr_pushF sr xr) f (kSt_mk h.2.1 (Nat.le_refl _) ht rfl g1 g2 (fun j hj => ?_) (fun j hj => ?_) (fun j hj => ?_) (fun j hj => ?_) ?_)
  · rw [gI_sI, if_neg (by omega), gI_sL, gI_sI, if_neg (by omega)]
  · rw [gL_sI, gL_sL, if_neg (by omega), gL_sI]
  · rw [g3, if_neg (by omega)]
  · rw [g4, if_neg (by omega)]
  · rw [g3, if_pos rfl, g4, if_pos rfl, gI_sI, if_neg (by omega), gI_sL, gI_sI, if_pos ⟨rfl, rfl⟩, gL_sI, gL_sL, if_pos ⟨rfl, rfl⟩]
    exact hv
