/-! RUNNING: the small instructions -/
theorem nI_mul (a b : Nat) : nI a * nI b = nI (a * b) := (Int32.ofNat_mul a b).symm
theorem kQ_g {C : kC} {W V : kW} {fr : List Nat} {T t t' c : Nat} {ts : List Nat} {ur uc vr vc : zMu} (h : kGd C W fr T t ur uc) (hr : fT tgR ts ur vr) (hc : fT tgC ts uc vc) (q : ∀ t, t ∈ ts → t ∈ tall) (q2 : ¬ 2 ∈ ts) (q3 : ¬ 3 ∈ ts) (q12 : ¬ 12 ∈ ts) (l1 : wO W ≤ wO V) (l2 : wR W ≤ wR V) (hw : wM V + wP V ≤ wM W + wP W + c) (hs : kSt (wO V) (wR V) t' vr vc) (ho : kOt C V T vr vc) : kQ C fr T t' c W ur uc (-1) vr () vc := by
  have r1 : fT tgR tall ur vr := fT_mono hr q
  have r2 : fT tgC tall uc vc := fT_mono hc q
  exact ⟨r1, r2, Or.inl ⟨rfl, fT_i hc q12 (show tgC 34 17 = 12 from rfl), fT_i hc q12 (show tgC 34 13 = 12 from rfl), V, hw, ⟨fT_tr h.1.1 r1, fT_tr h.1.2 r2⟩, hs, kVa_m (kVa_k h.2.2.1 hr hc q2) l1 l2, kFr_k h.2.2.2.1 hr hc q3, ho⟩⟩
/-- the value in slot j of the stack -/
theorem kGd.v {C : kC} {W : kW} {fr : List Nat} {T t : Nat} {ur uc : zMu} (h : kGd C W fr T t ur uc) {j : Nat} (hj : j < t) : vR (wO W) (wR W) (zI ur 27 j) (zL ur 31 j) (vS 75 uc j) (vX 75 uc j) := h.2.1.2.2.2.2 j hj
theorem kGd.t8 {C : kC} {W : kW} {fr : List Nat} {T t : Nat} {ur uc : zMu} (h : kGd C W fr T t ur uc) : t ≤ 780 := h.2.1.2.2.1
theorem kGd.vw {C : kC} {W : kW} {fr : List Nat} {T t : Nat} {ur uc : zMu} (h : kGd C W fr T t ur uc) : pVw 75 780 uc := h.2.1.2.2.2.1
theorem kGd.tr {C : kC} {W : kW} {fr : List Nat} {T t : Nat} {ur uc : zMu} (h : kGd C W fr T t ur uc) : zI ur 0 51 = nI t := h.2.1.1
theorem kGd.tc {C : kC} {W : kW} {fr : List Nat} {T t : Nat} {ur uc : zMu} (h : kGd C W fr T t ur uc) : zI uc 34 8 = nI t := h.2.1.2.1
theorem kGd.Dr {C : kC} {W : kW} {fr : List Nat} {T t : Nat} {ur uc : zMu} (h : kGd C W fr T t ur uc) : zI ur 0 52 = nI fr.length := h.2.2.2.1.2.1
theorem kGd.Dc {C : kC} {W : kW} {fr : List Nat} {T t : Nat} {ur uc : zMu} (h : kGd C W fr T t ur uc) : zI uc 34 11 = nI fr.length := h.2.2.2.1.2.2.1
theorem kGd.D {C : kC} {W : kW} {fr : List Nat} {T t : Nat} {ur uc : zMu} (h : kGd C W fr T t ur uc) : fr.length ≤ 12 := h.2.2.2.1.1
/-- a value takes the top's place k, on the reference in place, on the class by a push -/
theorem o_top (n : Nat) {C : kC} (P : kPs C) {W : kW} {fr : List Nat} {T t c k : Nat} {ur uc vr uk : zMu} (h : kGd C W fr T t ur uc) (hk : k < t) (hr : fT tgR [1] ur vr) (r0 : zI vr 0 51 = nI (k + 1)) (r1 : ∀ j, j < k → zI vr 27 j = zI ur 27 j) (r2 : ∀ j, j < k → zL vr 31 j = zL ur 31 j) (ek : uk = zsI uc 34 8 (nI k)) {s : Nat} {xc : Int64} (hs : s ≤ 4) (hv : vR (wO W) (wR W) (zI vr 27 k) (zL vr 31 k) (nI s) xc) : ∃ v, ce_M_push n uk (nI s) xc = some ((), v) ∧ kQ C fr T (k + 1) c W ur uc (-1) vr () v := by
  have t8 := h.t8
  subst ek
  obtain ⟨p1, p2, p3⟩ := popV (nI k) h.vw
  obtain ⟨v, e, f, g1, g2, g3, g4⟩ := c_push n p1 (rfl : zI (zsI uc 34 8 (nI k)) 34 8 = nI k) ((fT_dy (popC uc (nI k))).trans (h.dy P)) (by omega) hs xc
  refine ⟨v, e, kQ_s h hr (fT_tr (popC uc (nI k)) f) (kSt_mk h.2.1 (by omega) (by omega) r0 g1 g2 r1 r2 (fun j hj => ?_) (fun j hj => ?_) ?_)⟩
  · rw [g3, if_neg (by omega), p2]
  · rw [g4, if_neg (by omega), p3]
  · rw [g3, if_pos rfl, g4, if_pos rfl]
    exact hv
theorem o_none (n : Nat) {C : kC} (P : kPs C) {W : kW} {fr : List Nat} {T t c : Nat} {ur uc : zMu} (h : kGd C W fr T t ur uc) (ht : t < 780) : Rp (zbd (rf_pushes n ur 0 0) fun _ u => some ((-1 : Int32), u)) (ce_M_push n uc 0 0) (kQ C fr T (t + 1) c W ur uc) := o_push n P h ht (s := 0) (by omega) (vR_0 _ _ _)
theorem o_num (n : Nat) {C : kC} (P : kPs C) {W : kW} {fr : List Nat} {T t c : Nat} {ur uc : zMu} (h : kGd C W fr T t ur uc) (ht : t < 780) {a : Nat} (ha : a < 536870912) : Rp (zbd (rf_pushes n ur 1 ((nI a).toInt64)) fun _ u => some ((-1 : Int32), u)) (ce_M_push n uc 1 ((nI a).toInt64)) (kQ C fr T (t + 1) c W ur uc) := by
  rw [nI_l (show a < 2 ^ 31 by omega)]
  exact o_push n P h ht (s := 1) (by omega) (vR_N (by omega) _ _)
theorem k_idx {D a : Nat} (x : Int32) (e : x = nI D) : 12 * x + nI a = nI (12 * D + a) ∧ x * 12 + nI a = nI (12 * D + a) := by
  subst e
  refine ⟨?_, ?_⟩
  · rw [show (12 : Int32) * nI D = nI (12 * D) from nI_mul 12 D, nI_add]
  · rw [show nI D * (12 : Int32) = nI (D * 12) from nI_mul D 12, nI_add, Nat.mul_comm]
theorem o_fetch (n : Nat) {C : kC} (P : kPs C) {W : kW} {fr : List Nat} {T t c : Nat} {ur uc : zMu} (h : kGd C W fr T t ur uc) (ht : t < 780) {a : Nat} (ha : a < 12) : Rp (zgd (zin (12 * (zI ur 0 52) + nI a) 160) <| zgd (zin (12 * (zI ur 0 52) + nI a) 160) <| zbd (rf_pushes n ur (zI ur 28 (zx (12 * (zI ur 0 52) + nI a))) (zL ur 32 (zx (12 * (zI ur 0 52) + nI a)))) fun _ u => some ((-1 : Int32), u)) (ce_M_fetch n uc (((zI uc 34 11) * 12) + nI a)) (kQ C fr T (t + 1) c W ur uc) := by
  have D := h.D
  obtain ⟨e1, -⟩ := k_idx (a := a) _ h.Dr
  obtain ⟨-, e2⟩ := k_idx (a := a) _ h.Dc
  obtain ⟨v1, v2, v3, v4⟩ := h.2.2.1
  rw [e1, e2]
  refine rp_lg (zin_nI (by omega) (by decide)) (rp_lg (zin_nI (by omega) (by decide)) ?_)
  rw [zx_nI (show 12 * fr.length + a < 2 ^ 31 by omega)]
  unfold ce_M_fetch
  refine rp_r (v_sortAt n v2 (by omega)) (rp_r (v_numberAt n v2 (by omega)) ?_)
  rw [zbd_u]
  have hv := v4 (12 * fr.length + a) (by omega)
  obtain ⟨s, s1, s2⟩ := vR_s4 hv
  rw [s2] at hv ⊢
  exact o_push n P h ht s1 hv
theorem o_drop {C : kC} {W : kW} {fr : List Nat} {T t c : Nat} {ur uc : zMu} (h : kGd C W fr T (t + 1) ur uc) : Rp (zlet (zsI ur 0 51 ((zI ur 0 51) - 1)) fun u => some ((-1 : Int32), u)) (zlet (zsI uc 34 8 ((zI uc 34 8) - 1)) fun u => some ((), u)) (kQ C fr T t c W ur uc) := by
  rw [h.tr, h.tc, nI_pred]
  exact rp_ll (rp_rl (rp_end (kQ_s h (popR _ _) (popC _ _) (kSt_pop h.2.1 (by omega)))))
theorem o_store (n : Nat) {C : kC} (P : kPs C) {W : kW} {fr : List Nat} {T t c : Nat} {ur uc : zMu} (h : kGd C W fr T (t + 1) ur uc) {a : Nat} (ha : a < 12) : Rp (zlet (zsI ur 0 51 ((zI ur 0 51) - 1)) fun u13 => zgd (zin (zI u13 0 51) 2200) <| zgd (zin (12 * (zI ur 0 52) + nI a) 160) <| zlet (zsI u13 28 (zx (12 * (zI ur 0 52) + nI a)) (zI u13 27 (zx (zI u13 0 51)))) fun u14 => zgd (zin (zI u14 0 51) 2200) <| zgd (zin (12 * (zI ur 0 52) + nI a) 160) <| zlet (zsL u14 32 (zx (12 * (zI ur 0 52) + nI a)) (zL u14 31 (zx (zI u14 0 51)))) fun u15 => some ((-1 : Int32), u15)) (ce_M_store n uc (((zI uc 34 11) * 12) + nI a)) (fun rr vr _ vc => kQ C fr T t c W ur uc rr vr () vc) := by
  have D := h.D
  have t8 := h.t8
  obtain ⟨e1, -⟩ := k_idx (a := a) _ h.Dr
  obtain ⟨-, e2⟩ := k_idx (a := a) _ h.Dc
  obtain ⟨v1, v2, v3, v4⟩ := h.2.2.1
  have hv := h.v (show t < t + 1 by omega)
  obtain ⟨s, s1, s2⟩ := vR_s4 hv
  rw [e1, e2, h.tr, nI_pred]
  have i51 : ∀ x, zI (zsI (zsI ur 0 51 (nI t)) 28 (12 * fr.length + a) x) 0 51 = nI t := fun x => by rw [gI_sI, if_neg (by omega), gI_sI, if_pos ⟨rfl, rfl⟩]
  refine rp_ll (rp_lg (show zin (zI (zsI ur 0 51 (nI t)) 0 51) 2200 = true from zin_nI (by omega) (by decide)) (rp_lg (zin_nI (by omega) (by decide)) ?_))
  rw [zx_nI (show 12 * fr.length + a < 2 ^ 31 by omega), show zI (zsI ur 0 51 (nI t)) 0 51 = nI t from rfl, zx_nI (show t < 2 ^ 31 by omega)]
  refine rp_ll (rp_lg (by rw [i51]; exact zin_nI (by omega) (by decide)) (rp_lg (zin_nI (by omega) (by decide)) (rp_ll ?_)))
  rw [i51, zx_nI (show t < 2 ^ 31 by omega)]
  unfold ce_M_store
  rw [h.tc, nI_pred]
  obtain ⟨p1, p2, p3⟩ := popV (nI t) h.vw
  have f12 := popC uc (nI t)
  obtain ⟨w1, w2, w3, -⟩ := vw_kT f12 (v := 78) (m := 156) (t := 2) (by unfold vK; omega) (by decide)
  refine rp_rl (rp_r (v_sortAt n p1 (j := t) (by omega)) (rp_r (v_numberAt n p1 (j := t) (by omega)) ?_))
  rw [zbd_u, p2, p3, s2]
  obtain ⟨w, e, k1, k2, k3, k4⟩ := v_set n (w1 v2) ((fT_dy f12).trans (h.dy P)) (i := 12 * fr.length + a) (by omega) s1 (vX 75 uc t)
  refine rp_eq rfl e ?_
  have hr : fT tgR [1, 2] ur (zsL (zsI (zsI ur 0 51 (nI t)) 28 (12 * fr.length + a) (zI (zsI ur 0 51 (nI t)) 27 t)) 32 (12 * fr.length + a) (zL (zsI (zsI ur 0 51 (nI t)) 28 (12 * fr.length + a) (zI (zsI ur 0 51 (nI t)) 27 t)) 31 t)) := fT_L (fT_I (fT_I (fT_rf _ _ _) _ 1 rfl (by decide)) _ 2 rfl (by decide)) _ 2 rfl (by decide)
  have hc : fT tgC [1, 2] uc w := fT_V (fT_mono f12 (by decide)) (v := 78) (m := 156) (t := 2) (by unfold vK; omega) k2 k1 (by decide)
  have r1 := fT_mono hr (ts' := tall) (by decide)
  have r2 := fT_mono hc (ts' := tall) (by decide)
  have hr2 : fT tgR [2] (zsI ur 0 51 (nI t)) (zsL (zsI (zsI ur 0 51 (nI t)) 28 (12 * fr.length + a) (zI (zsI ur 0 51 (nI t)) 27 t)) 32 (12 * fr.length + a) (zL (zsI (zsI ur 0 51 (nI t)) 28 (12 * fr.length + a) (zI (zsI ur 0 51 (nI t)) 27 t)) 31 t)) := fT_L (fT_I (fT_rf _ _ _) _ 2 rfl (by decide)) _ 2 rfl (by decide)
  have hc2 : fT tgC [2] (zsI uc 34 8 (nI t)) w := fT_V (fT_rf _ _ _) (v := 78) (m := 156) (t := 2) (by unfold vK; omega) k2 k1 (by decide)
  refine ⟨r1, r2, Or.inl ⟨rfl, fT_i hc (by decide) (show tgC 34 17 = 12 from rfl), fT_i hc (by decide) (show tgC 34 13 = 12 from rfl), W, by omega, ⟨fT_tr h.1.1 r1, fT_tr h.1.2 r2⟩, kSt_k (kSt_pop h.2.1 (by omega)) hr2 hc2 (by decide), ⟨v1, k1, ?_, fun j hj => ?_⟩, kFr_k h.2.2.2.1 hr hc (by decide), kOt_k h.2.2.2.2 hr hc (fun t a b => by simp; omega)⟩⟩
  · have := k2.2.2.2.2.1
    have e3 : zN (zsI uc 34 8 (nI t)) 79 = 156 := v3
    have := k1.2.2.2.2.1
    have : (zN w (78 + 1)) = zN w 79 := rfl
    have : (zN (zsI uc 34 8 (nI t)) (78 + 1)) = zN (zsI uc 34 8 (nI t)) 79 := rfl
    omega
  · rw [k3, k4, gI_sL, gI_sI, gL_sL]
    by_cases z : j = 12 * fr.length + a
    · rw [if_pos z, if_pos z, if_pos ⟨rfl, z⟩, if_pos ⟨rfl, z⟩, gI_sI, if_neg (by omega), gL_sI, gL_sI, ← s2]
      exact hv
    · rw [if_neg z, if_neg z, if_neg (by omega), if_neg (by omega), gL_sI, gL_sI, gI_sI, if_neg (by omega), w2, w3]
      exact v4 j hj
