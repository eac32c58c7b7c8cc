/-! RUNNING: negate, compare, equate, print -/
theorem c_isNum (n : Nat) {nO nR : Nat} {u : zMu} (h : pVw 75 780 u) {j : Nat} (hj : j < 2 ^ 31) {sr : Int32} {xr xc : Int64} (hv : vR nO nR sr xr (vS 75 u j) xc) : (sr = 1 ∧ xc = xr ∧ ce_V_isNumberAt n 75 u (nI j) = some (1, u)) ∨ (¬ sr = 1 ∧ ce_V_isNumberAt n 75 u (nI j) = some (0, u)) := by
  rw [v_isNumberAt n h hj]
  rcases vR_num hv with ⟨a, b, c⟩ | ⟨a, b⟩
  · exact Or.inl ⟨a, c, by rw [if_pos b]⟩
  · exact Or.inr ⟨a, by rw [if_neg b]⟩
theorem c_pushNum (n : Nat) {C : kC} (P : kPs C) {W : kW} {fr : List Nat} {T t c k : Nat} {ur uc vr uk : zMu} (h : kGd C W fr T t ur uc) (hk : k < t) (hr : fT tgR [1] ur vr) (r0 : zI vr 0 51 = nI (k + 1)) (r1 : ∀ j, j < k → zI vr 27 j = zI ur 27 j) (r2 : ∀ j, j < k → zL vr 31 j = zL ur 31 j) (ek : uk = zsI uc 34 8 (nI k)) (x : Int64) (hv : zI vr 27 k = 1) (hx : zL vr 31 k = x) : ∃ v, ce_M_pushNumber n uk x = some ((), v) ∧ kQ C fr T (k + 1) c W ur uc (-1) vr () v := by
  obtain ⟨s, s1, s2, s3⟩ := c_sortOf n uk x
  obtain ⟨v, e, q⟩ := o_top n P (c := c) h hk hr r0 r1 r2 ek (s := s) (xc := x) (by omega) (by rw [hv, hx]; exact s3 _ _)
  refine ⟨v, ?_, q⟩
  unfold ce_M_pushNumber
  rw [zbd_e s2, zbd_u]
  exact e
theorem o_neg (n : Nat) {C : kC} (P : kPs C) {W : kW} {fr : List Nat} {T k c : Nat} {ur uc : zMu} (h : kGd C W fr T (k + 1) ur uc) (v2 : Int32) : Rp (zgd (zin ((zI ur 0 51) - 1) 2200) <| if zI ur 27 (zx ((zI ur 0 51) - 1)) = 1 then (zgd (zin ((zI ur 0 51) - 1) 2200) <| zgd (zin ((zI ur 0 51) - 1) 2200) <| zlet (zsL ur 31 (zx ((zI ur 0 51) - 1)) (-(zL ur 31 (zx ((zI ur 0 51) - 1))))) fun u30 => some ((-1 : Int32), u30)) else (zbd (rf_fails n ur 1 v2) fun r31 u32 => some (r31, u32))) (ce_M_negate n uc v2) (kQ C fr T (k + 1) c W ur uc) := by
  have t8 := h.t8
  rw [h.tr, nI_pred, zx_nI (show k < 2 ^ 31 by omega), zbd_i]
  have hv := h.v (show k < k + 1 by omega)
  obtain ⟨p1, p2, p3⟩ := popV (nI k) h.vw
  unfold ce_M_negate
  rw [h.tc, nI_pred]
  refine rp_lg (zin_nI (by omega) (by decide)) (rp_rl ?_)
  rcases c_isNum n p1 (j := k) (by omega) (by rw [p2]; exact hv) with ⟨a, b, e⟩ | ⟨a, e⟩
  · refine rp_lt a (rp_lg (zin_nI (by omega) (by decide)) (rp_lg (zin_nI (by omega) (by decide)) (rp_ll (rp_r e (rp_rf (by decide) (rp_r (v_numberAt n p1 (j := k) (by omega)) ?_))))))
    rw [zbd_u, p3, b]
    obtain ⟨v, e2, q⟩ := c_pushNum n P (c := c) h (k := k) (by omega) (vr := zsL ur 31 k (-(zL ur 31 k))) (fT_L (fT_rf _ _ _) _ 1 rfl (by decide)) h.tr (fun _ _ => rfl) (fun j hj => by rw [gL_sL, if_neg (by omega)]) rfl (-(zL ur 31 k)) a (by rw [gL_sL, if_pos ⟨rfl, rfl⟩])
    exact rp_eq rfl e2 q
  · refine rp_lf a (rp_r e (rp_rt rfl ?_))
    rw [zbd_u]
    exact kQ_f n h (fT_rf _ _ _) (popC _ _) 1 v2
theorem lit_lN (n : Nat) : (OfNat.ofNat n : Int64) = lN n := rfl
theorem pop_r {C : kC} {W : kW} {fr : List Nat} {T t : Nat} {ur uc : zMu} (h : kGd C W fr T t ur uc) (k : Nat) : ∃ vr, zsI ur 0 51 (nI k) = vr ∧ zI vr 0 51 = nI k ∧ (∀ j, zI vr 27 j = zI ur 27 j) ∧ (∀ j, zL vr 31 j = zL ur 31 j) ∧ fT tgR [1] ur vr ∧ (∀ a j, ¬ (a = 0 ∧ j = 51) → zI vr a j = zI ur a j) ∧ (∀ a j, zL vr a j = zL ur a j) := ⟨_, rfl, rfl, fun j => by rw [gI_sI, if_neg (by omega)], fun _ => rfl, popR _ _, fun a j q => by rw [gI_sI, if_neg q], fun _ _ => rfl⟩
theorem pop_c {C : kC} (P : kPs C) {W : kW} {fr : List Nat} {T t : Nat} {ur uc : zMu} (h : kGd C W fr T t ur uc) (k : Nat) : ∃ uk, zsI uc 34 8 (nI k) = uk ∧ zI uk 34 8 = nI k ∧ pVw 75 780 uk ∧ (∀ j, vS 75 uk j = vS 75 uc j) ∧ (∀ j, vX 75 uk j = vX 75 uc j) ∧ fT tgC [1] uc uk ∧ zdy uk = true := by
  obtain ⟨p1, p2, p3⟩ := popV (nI k) h.vw
  exact ⟨_, rfl, rfl, p1, p2, p3, popC _ _, (fT_dy (popC uc (nI k))).trans (h.dy P)⟩
theorem o_less (n : Nat) {C : kC} (P : kPs C) {W : kW} {fr : List Nat} {T k c : Nat} {ur uc : zMu} (h : kGd C W fr T (k + 2) ur uc) (v2 : Int32) : Rp (zlet (zsI ur 0 51 ((zI ur 0 51) - 1)) fun u34 => zgd (zin (zI u34 0 51) 2200) <| if zI u34 27 (zx (zI u34 0 51)) = 1 then (zgd (zin ((zI u34 0 51) - 1) 2200) <| if zI u34 27 (zx ((zI u34 0 51) - 1)) = 1 then (zgd (zin ((zI u34 0 51) - 1) 2200) <| zgd (zin (zI u34 0 51) 2200) <| if lg_cmp (zL u34 31 (zx ((zI u34 0 51) - 1))) (zL u34 31 (zx (zI u34 0 51))) < 0 then (zgd (zin ((zI u34 0 51) - 1) 2200) <| zlet (zsL u34 31 (zx ((zI u34 0 51) - 1)) 1) fun u38 => some ((-1 : Int32), u38)) else (zgd (zin ((zI u34 0 51) - 1) 2200) <| zlet (zsL u34 31 (zx ((zI u34 0 51) - 1)) 0) fun u39 => some ((-1 : Int32), u39))) else (zbd (rf_fails n u34 1 v2) fun r40 u41 => some (r40, u41))) else (zbd (rf_fails n u34 1 v2) fun r42 u43 => some (r42, u43))) (ce_M_compare n uc v2) (kQ C fr T (k + 1) c W ur uc) := by
  have t8 := h.t8
  have h0 := h.v (show k < k + 2 by omega)
  have h1 := h.v (show k + 1 < k + 2 by omega)
  rw [h.tr, show nI (k + 2) - 1 = nI (k + 1) from nI_pred _]
  obtain ⟨vr, ev, i51, i27, l31, fr1, -⟩ := pop_r h (k + 1)
  obtain ⟨uk, ek, k8, p1, p2, p3, fc1, -⟩ := pop_c P h k
  refine rp_ll ?_
  rw [ev, i51, nI_pred, zx_nI (show k < 2 ^ 31 by omega), zx_nI (show k + 1 < 2 ^ 31 by omega), i27, i27, l31, l31, zbd_i]
  unfold ce_M_compare
  rw [h.tc, show nI (k + 2) - 2 = nI k from nI_sub (a := k + 2) (b := 2) (by omega), ek]
  refine rp_lg (zin_nI (by omega) (by decide)) (rp_rl ?_)
  rw [k8]
  rcases c_isNum n p1 (j := k) (by omega) (by rw [p2]; exact h0) with ⟨a, b, e⟩ | ⟨a, e⟩
  · refine rp_r e (rp_rf (by decide) ?_)
    rw [k8, nI_1]
    rcases c_isNum n p1 (j := k + 1) (by omega) (by rw [p2]; exact h1) with ⟨a', b', e'⟩ | ⟨a', e'⟩
    · refine rp_lt a' (rp_lg (zin_nI (by omega) (by decide)) (rp_lt a (rp_lg (zin_nI (by omega) (by decide)) (rp_lg (zin_nI (by omega) (by decide)) (rp_r e' (rp_rf (by decide) ?_))))))
      rw [k8]
      refine rp_r (v_numberAt n p1 (j := k) (by omega)) ?_
      rw [k8, nI_1]
      refine rp_r (v_numberAt n p1 (j := k + 1) (by omega)) ?_
      rw [p3, p3, b, b', zbd_u, zbd_u]
      have go : ∀ d : Nat, d ≤ 1 → ∃ v, ce_M_push n uk (nI 1) (lN d) = some ((), v) ∧ kQ C fr T (k + 1) c W ur uc (-1) (zsL vr 31 k (lN d)) () v := fun d hd => o_top n P h (by omega) (fT_L fr1 _ 1 rfl (by decide)) (by rw [gI_sL]; exact i51) (fun j hj => by rw [gI_sL, i27]) (fun j hj => by rw [gL_sL, if_neg (by omega), l31]) ek.symm (by omega) (by rw [gI_sL, i27, a, gL_sL, if_pos ⟨rfl, rfl⟩]; exact vR_N (by omega) _ _)
      by_cases z : lg_cmp (zL ur 31 k) (zL ur 31 (k + 1)) < 0
      · obtain ⟨v, e3, q⟩ := go 1 (by omega)
        exact rp_lt z (rp_lg (zin_nI (by omega) (by decide)) (rp_ll (rp_rt z (rp_eq rfl e3 q))))
      · obtain ⟨v, e3, q⟩ := go 0 (by omega)
        exact rp_lf z (rp_lg (zin_nI (by omega) (by decide)) (rp_ll (rp_rf z (rp_eq rfl e3 q))))
    · refine rp_lf a' (rp_r e' (rp_rt rfl ?_))
      rw [zbd_u]
      exact kQ_f n h fr1 fc1 1 v2
  · refine rp_r e (rp_rt rfl ?_)
    rw [zbd_u]
    by_cases z : zI ur 27 (k + 1) = 1
    · exact rp_lt z (rp_lg (zin_nI (by omega) (by decide)) (rp_lf a (kQ_f n h fr1 fc1 1 v2)))
    · exact rp_lf z (kQ_f n h fr1 fc1 1 v2)
theorem vR_same {nO nR : Nat} {sa sb ca cb : Int32} {xa xb ya yb : Int64} (ha : vR nO nR sa xa ca ya) (hb : vR nO nR sb xb cb yb) : (sa = sb ∧ (sa = 0 ∨ xa = xb)) ↔ (ca = cb ∧ ya = yb) := by
  have d (a b : Nat) (q : ¬ a = b) (x : a < 10) (y : b < 10) : ¬ nI a = nI b := fun e => q ((nI_eq (by omega) (by omega)).mp e)
  rcases ha with ⟨a1, a2, a3⟩ | ⟨a1, a3, a2⟩ | ⟨a1, a2, a3, -⟩ | ⟨a1, a2, a3, -⟩ <;> rcases hb with ⟨b1, b2, b3⟩ | ⟨b1, b3, b2⟩ | ⟨b1, b2, b3, -⟩ | ⟨b1, b2, b3, -⟩
  · subst a1 a2 a3 b1 b2 b3; exact ⟨fun _ => ⟨rfl, rfl⟩, fun _ => ⟨rfl, Or.inl rfl⟩⟩
  · subst a1 a2 b1; exact ⟨fun q => absurd q.1 (by decide), fun q => by rcases b2 with b2 | b2 <;> rw [b2.2] at q <;> exact absurd q.1 (by decide)⟩
  · subst a1 a2 b1 b2; exact ⟨fun q => absurd q.1 (by decide), fun q => absurd q.1 (by decide)⟩
  · subst a1 a2 b1 b2; exact ⟨fun q => absurd q.1 (by decide), fun q => absurd q.1 (by decide)⟩
  · subst a1 b1 b2; exact ⟨fun q => absurd q.1 (by decide), fun q => by rcases a2 with a2 | a2 <;> rw [a2.2] at q <;> exact absurd q.1 (by decide)⟩
  · subst a1 b1
    rw [a3, b3]
    refine ⟨fun q => ?_, fun q => ⟨rfl, Or.inr q.2⟩⟩
    have e : xa = xb := q.2.resolve_left (by decide)
    subst e
    refine ⟨?_, rfl⟩
    rcases a2 with ⟨x, a2⟩ | ⟨x, a2⟩ <;> rcases b2 with ⟨y, b2⟩ | ⟨y, b2⟩
    · rw [a2, b2]
    · exact absurd x y
    · exact absurd y x
    · rw [a2, b2]
  · subst a1 b1 b2; exact ⟨fun q => absurd q.1 (by decide), fun q => by rcases a2 with a2 | a2 <;> rw [a2.2] at q <;> exact absurd q.1 (by decide)⟩
  · subst a1 b1 b2; exact ⟨fun q => absurd q.1 (by decide), fun q => by rcases a2 with a2 | a2 <;> rw [a2.2] at q <;> exact absurd q.1 (by decide)⟩
  · subst a1 a2 b1 b2; exact ⟨fun q => absurd q.1 (by decide), fun q => absurd q.1 (by decide)⟩
  · subst a1 a2 b1; exact ⟨fun q => absurd q.1 (by decide), fun q => by rcases b2 with b2 | b2 <;> rw [b2.2] at q <;> exact absurd q.1 (by decide)⟩
  · subst a1 a2 b1 b2; rw [a3, b3]; exact ⟨fun q => ⟨rfl, q.2.resolve_left (by decide)⟩, fun q => ⟨rfl, Or.inr q.2⟩⟩
  · subst a1 a2 b1 b2; exact ⟨fun q => absurd q.1 (by decide), fun q => absurd q.1 (by decide)⟩
  · subst a1 a2 b1 b2; exact ⟨fun q => absurd q.1 (by decide), fun q => absurd q.1 (by decide)⟩
  · subst a1 a2 b1; exact ⟨fun q => absurd q.1 (by decide), fun q => by rcases b2 with b2 | b2 <;> rw [b2.2] at q <;> exact absurd q.1 (by decide)⟩
  · subst a1 a2 b1 b2; exact ⟨fun q => absurd q.1 (by decide), fun q => absurd q.1 (by decide)⟩
  · subst a1 a2 b1 b2; rw [a3, b3]; exact ⟨fun q => ⟨rfl, q.2.resolve_left (by decide)⟩, fun q => ⟨rfl, Or.inr q.2⟩⟩
theorem o_same (n : Nat) {C : kC} (P : kPs C) {W : kW} {fr : List Nat} {T k c : Nat} {ur uc : zMu} (h : kGd C W fr T (k + 2) ur uc) : Rp (zlet (zsI ur 0 51 ((zI ur 0 51) - 1)) fun u45 => zgd (zin (zI u45 0 51) 2200) <| zgd (zin ((zI u45 0 51) - 1) 2200) <| if zI u45 27 (zx (zI u45 0 51)) = zI u45 27 (zx ((zI u45 0 51) - 1)) then (zgd (zin (zI u45 0 51) 2200) <| if zI u45 27 (zx (zI u45 0 51)) = 0 then (rf_does_J508 n u45) else (zgd (zin (zI u45 0 51) 2200) <| zgd (zin ((zI u45 0 51) - 1) 2200) <| if lg_cmp (zL u45 31 (zx (zI u45 0 51))) (zL u45 31 (zx ((zI u45 0 51) - 1))) = 0 then (rf_does_J508 n u45) else (rf_does_J512 n u45))) else (rf_does_J512 n u45)) (ce_M_equate n uc) (kQ C fr T (k + 1) c W ur uc) := by
  have t8 := h.t8
  have h0 := h.v (show k < k + 2 by omega)
  have h1 := h.v (show k + 1 < k + 2 by omega)
  have hs := vR_same h1 h0
  rw [h.tr, show nI (k + 2) - 1 = nI (k + 1) from nI_pred _]
  obtain ⟨vr, ev, i51, i27, l31, fr1, -⟩ := pop_r h (k + 1)
  obtain ⟨uk, ek, k8, p1, p2, p3, fc1, -⟩ := pop_c P h k
  refine rp_ll ?_
  rw [ev, i51, nI_pred, zx_nI (show k < 2 ^ 31 by omega), zx_nI (show k + 1 < 2 ^ 31 by omega), i27, i27, l31, l31]
  have go : ∀ (d : Nat), d ≤ 1 → Rp (rf_does_J513 n vr (nI d)) (ce_M_equate_J70 n uk (nI d)) (kQ C fr T (k + 1) c W ur uc) := by
    intro d hd
    unfold rf_does_J513 ce_M_equate_J70
    rw [i51, nI_pred, zx_nI (show k < 2 ^ 31 by omega), zbd_u, zbd_u]
    refine rp_lg (zin_nI (by omega) (by decide)) (rp_ll ?_)
    have i51' : zI (zsI vr 27 k 1) 0 51 = nI (k + 1) := by rw [gI_sI, if_neg (by omega)]; exact i51
    rw [i51', nI_pred, zx_nI (show k < 2 ^ 31 by omega)]
    obtain ⟨v, e3, q⟩ := o_top n P (c := c) h (k := k) (by omega) (vr := zsL (zsI vr 27 k 1) 31 k (lN d)) (fT_L (fT_I fr1 _ 1 rfl (by decide)) _ 1 rfl (by decide)) i51' (fun j hj => by rw [gI_sL, gI_sI, if_neg (by omega), i27]) (fun j hj => by rw [gL_sL, if_neg (by omega), gL_sI, l31]) ek.symm (s := 1) (xc := lN d) (by omega) (by rw [gI_sL, gI_sI, if_pos ⟨rfl, rfl⟩, gL_sL, if_pos ⟨rfl, rfl⟩]; exact vR_N (by omega) _ _)
    have : d = 0 ∨ d = 1 := by omega
    rcases this with rfl | rfl
    · exact rp_lt rfl (rp_lg (zin_nI (by omega) (by decide)) (rp_ll (rp_rt rfl (rp_eq rfl e3 q))))
    · exact rp_lf (by decide) (rp_lg (zin_nI (by omega) (by decide)) (rp_ll (rp_rf (by decide) (rp_eq rfl e3 q))))
  unfold ce_M_equate
  rw [h.tc, show nI (k + 2) - 2 = nI k from nI_sub (a := k + 2) (b := 2) (by omega), ek]
  refine rp_lg (zin_nI (by omega) (by decide)) (rp_lg (zin_nI (by omega) (by decide)) (rp_rl ?_))
  rw [k8]
  refine rp_r (v_sortAt n p1 (j := k) (by omega)) ?_
  rw [k8, nI_1]
  refine rp_r (v_sortAt n p1 (j := k + 1) (by omega)) ?_
  rw [p2, p2, k8]
  have e1 := v_numberAt n p1 (j := k) (by omega)
  have e2 := v_numberAt n p1 (j := k + 1) (by omega)
  rw [zbd_e e1, k8, nI_1, zbd_e e2, p3, p3]
  have yes : (vS 75 uc (k + 1) = vS 75 uc k ∧ vX 75 uc (k + 1) = vX 75 uc k) → Rp (rf_does_J508 n vr) (if vS 75 uc k = vS 75 uc (k + 1) then (if lg_cmp (vX 75 uc k) (vX 75 uc (k + 1)) = 0 then ce_M_equate_J70 n uk 1 else ce_M_equate_J69 n uk) else ce_M_equate_J69 n uk) (kQ C fr T (k + 1) c W ur uc) := by
    rintro ⟨x, y⟩
    exact rp_rt x.symm (rp_rt ((lgc_eq _ _).mpr y.symm) (go 1 (by omega)))
  have no : ¬ (vS 75 uc (k + 1) = vS 75 uc k ∧ vX 75 uc (k + 1) = vX 75 uc k) → Rp (rf_does_J512 n vr) (if vS 75 uc k = vS 75 uc (k + 1) then (if lg_cmp (vX 75 uc k) (vX 75 uc (k + 1)) = 0 then ce_M_equate_J70 n uk 1 else ce_M_equate_J69 n uk) else ce_M_equate_J69 n uk) (kQ C fr T (k + 1) c W ur uc) := by
    intro x
    by_cases z : vS 75 uc k = vS 75 uc (k + 1)
    · exact rp_rt z (rp_rf (fun q => x ⟨z.symm, ((lgc_eq _ _).mp q).symm⟩) (go 0 (by omega)))
    · exact rp_rf z (go 0 (by omega))
  by_cases a : zI ur 27 (k + 1) = zI ur 27 k
  · refine rp_lt a (rp_lg (zin_nI (by omega) (by decide)) ?_)
    by_cases b : zI ur 27 (k + 1) = 0
    · exact rp_lt b (yes (hs.mp ⟨a, Or.inl b⟩))
    · refine rp_lf b (rp_lg (zin_nI (by omega) (by decide)) (rp_lg (zin_nI (by omega) (by decide)) ?_))
      by_cases d : lg_cmp (zL ur 31 (k + 1)) (zL ur 31 k) = 0
      · exact rp_lt d (yes (hs.mp ⟨a, Or.inr ((lgc_eq _ _).mp d)⟩))
      · exact rp_lf d (no (fun q => by rcases hs.mpr q with ⟨-, q | q⟩; exact b q; exact d ((lgc_eq _ _).mpr q)))
  · exact rp_lf a (no (fun q => a (hs.mpr q).1))
