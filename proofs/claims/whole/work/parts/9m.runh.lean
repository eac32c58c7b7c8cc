/-! RUNNING: sizes, prints, rows -/
def failS (u : zMu) (k p : Int32) : zMu := zsI (zsI (zsI u 34 18 k) 34 19 p) 34 17 1
theorem kQ_f0 (n : Nat) {C : kC} {W : kW} {fr : List Nat} {T t t' c : Nat} {ur uc vr vc : zMu} (h : kGd C W fr T t ur uc) (hr : fT tgR [1] ur vr) (hc : fT tgC [1] uc vc) (k p : Int32) : ∃ w, rf_fails n vr k p = some (1, w) ∧ kQ C fr T t' c W ur uc 1 w () (failS vc k p) := by
  obtain ⟨a, u, b, v, e1, e2, q⟩ := kQ_f (t' := t') (c := c) n h hr hc k p
  cases e1
  cases e2
  exact ⟨_, rfl, q⟩
theorem kSm_ge {f : Nat → Nat} {i : Nat} : ∀ n, i < n → f i ≤ kSm f n := by
  intro n
  induction n with
  | zero => exact fun h => absurd h (by omega)
  | succ n ih =>
    intro h
    rw [kSm]
    by_cases e : i = n
    · subst e; omega
    · have := ih (by omega)
      omega
theorem kSm_mono {f : Nat → Nat} {a : Nat} : ∀ b, a ≤ b → kSm f a ≤ kSm f b := by
  intro b
  induction b with
  | zero => exact fun h => by have e : a = 0 := by omega
                              subst e; exact Nat.le_refl _
  | succ b ih =>
    intro h
    by_cases e : a = b + 1
    · subst e; exact Nat.le_refl _
    · have := ih (by omega)
      rw [kSm]; omega
theorem c_isRow (n : Nat) {u : zMu} {m o : Nat} (h : zI u 45 5 = nI m) (hm : m < 2 ^ 31) (ho : o < m) : ce_R_isRow n u (nI o) = some (1, u) := by
  unfold ce_R_isRow
  rw [if_neg (nI_pos (by omega)), h, if_pos (nI_lt ho hm)]
theorem c_isObj (n : Nat) {u : zMu} {m o : Nat} (h : zI u 36 7 = nI m) (hm : m < 2 ^ 31) (ho : o < m) : ce_H_isObject n u (nI o) = some (1, u) := by
  unfold ce_H_isObject
  rw [if_neg (nI_pos (by omega)), h, if_pos (nI_lt ho hm)]
theorem kMb_len {X : pCx} {ub : zMu} {W : kW} {ur uc : zMu} (h : kMb X ub W ur uc) {o : Nat} (ho : o < wO W) : (wl W o).length ≤ 16000 := by
  obtain ⟨-, -, U, fr, ov, ow, ⟨-, a2, -, -, -, -, -, a8⟩, -, -⟩ := h
  have := kSm_ge (f := fun o => (wl W o).length) (wO W) ho
  have e : (fun o => (wl W o).length) o = (wl W o).length := rfl
  omega
theorem kMb_size {X : pCx} {ub : zMu} {W : kW} {ur uc : zMu} (h : kMb X ub W ur uc) {o : Nat} (ho : o < wO W) : zI ur 39 o = nI (wl W o).length ∧ zI uc 39 o = nI (wl W o).length := by
  obtain ⟨-, -, U, fr, ov, ow, -, -, h5⟩ := h
  obtain ⟨⟨-, -, a, -, -, b, -⟩, -⟩ := h5 o ho
  exact ⟨a, b⟩
theorem o_size (n : Nat) {C : kC} (P : kPs C) {W : kW} {fr : List Nat} {T k c : Nat} {ur uc : zMu} (h : kGd C W fr T (k + 1) ur uc) (v2 : Int32) : Rp (rf_sizes n ur v2) (ce_M_measure n uc v2) (kQ C fr T (k + 1) c W ur uc) := by
  have t8 := h.t8
  have hv := h.v (show k < k + 1 by omega)
  obtain ⟨uk, ek, k8, p1, p2, p3, fc1, -⟩ := pop_c P h k
  obtain ⟨hPp, hOb, hMb, hSh, hRw, -⟩ := h.2.2.2.2
  unfold rf_sizes ce_M_measure
  rw [h.tr, h.tc, nI_pred, zx_nI (show k < 2 ^ 31 by omega), ek]
  refine rp_lg (zin_nI (by omega) (by decide)) (rp_ll (rp_lg (zin_nI (by omega) (by decide)) (rp_rl ?_)))
  rw [k8]
  refine rp_r (v_sortAt n p1 (j := k) (by omega)) ?_
  rw [k8]
  refine rp_r (v_numberAt n p1 (j := k) (by omega)) (rp_rl ?_)
  rw [p2, p3, zbd_i]
  have go : ∀ (m : Nat) (x : Int32), m ≤ 16000 → x = nI m → ∃ v, ce_M_push n uk 1 (x.toInt64) = some ((), v) ∧ rf_sizes_J92 n ur (nI k) (x.toInt64) = some (-1, zsI (zsL ur 31 k (lN m)) 27 k 1) ∧ kQ C fr T (k + 1) c W ur uc (-1) (zsI (zsL ur 31 k (lN m)) 27 k 1) () v := by
    intro m x hm hx
    subst hx
    rw [nI_l (show m < 2 ^ 31 by omega)]
    obtain ⟨v, e3, q⟩ := o_top n P (c := c) h (k := k) (by omega) (vr := zsI (zsL ur 31 k (lN m)) 27 k 1) (fT_I (fT_L (fT_rf _ _ _) _ 1 rfl (by decide)) _ 1 rfl (by decide)) (by rw [gI_sI, if_neg (by omega), gI_sL]; exact h.tr) (fun j hj => by rw [gI_sI, if_neg (by omega), gI_sL]) (fun j hj => by rw [gL_sI, gL_sL, if_neg (by omega)]) ek.symm (s := 1) (xc := lN m) (by omega) (by rw [gI_sI, if_pos ⟨rfl, rfl⟩, gL_sI, gL_sL, if_pos ⟨rfl, rfl⟩]; exact vR_N (by omega) _ _)
    refine ⟨v, e3, ?_, q⟩
    unfold rf_sizes_J92
    rw [zin_nI (show k < 2200 by omega) (by decide), zgd_t, zx_nI (show k < 2 ^ 31 by omega)]
    show zgd (zin (zI (zsL ur 31 k (lN m)) 0 51 - 1) 2200) (zlet (zsI (zsL ur 31 k (lN m)) 27 (zx (zI (zsL ur 31 k (lN m)) 0 51 - 1)) 1) fun u2 => some ((-1 : Int32), u2)) = _
    rw [gI_sL, h.tr, nI_pred, zin_nI (show k < 2200 by omega) (by decide), zgd_t, zx_nI (show k < 2 ^ 31 by omega)]
    rfl
  unfold rf_sizes_J50 ce_M_measure_J69
  rw [h.tr, nI_pred, zx_nI (show k < 2 ^ 31 by omega)]
  rcases vR_row hv with ⟨a1, a2, r, hr, a3, a4⟩ | ⟨a1, a2⟩
  · obtain ⟨h1, h2, h3, h4, h5, z, h6, h7⟩ := hRw
    obtain ⟨g1, g2, g3, g4, g5, g6⟩ := h7 r hr
    rw [a4, a3, lN_i]
    refine rp_lf (by rw [a1]; decide) (rp_lg (zin_nI (by omega) (by decide)) (rp_lt a1 (rp_lg (zin_nI (by omega) (by decide)) (rp_lf (by rw [a1]; decide) (rp_lg (zin_nI (by omega) (by decide)) ?_)))))
    have i5 : zI uk 45 5 = nI (wR W) := (fT_i fc1 (by decide) (show tgC 45 5 = 8 from rfl)).trans h3
    refine rp_rt a2 (rp_r (c_isRow n i5 (by omega) hr) (rp_rf (by decide) (rp_rg (zin_nI (by omega) (by decide)) ?_)))
    rw [zx_nI (show r < 2 ^ 31 by omega), g3, fT_i fc1 (by decide) (show tgC 47 r = 8 from rfl), g4, zbd_u]
    obtain ⟨v, e3, e4, q⟩ := go (z r) _ (by omega) rfl
    exact rp_eq e4 e3 q
  · rcases vR_obj hv with ⟨b1, b2, r, hr, b3, b4⟩ | ⟨b1, b2⟩
    · have len := kMb_len hMb hr
      obtain ⟨s1, s2⟩ := kMb_size hMb hr
      have hO := hOb.1
      rw [b4, b3, lN_i]
      refine rp_lt b1 (rp_lg (zin_nI (by omega) (by decide)) (rp_lt b1 (rp_lg (zin_nI (by omega) (by decide)) ?_)))
      have i5 : zI uk 36 7 = nI (wO W) := (fT_i fc1 (by decide) (show tgC 36 7 = 5 from rfl)).trans hOb.2.2.1
      refine rp_rf (by rw [b2]; decide) (rp_rt b2 (rp_r (c_isObj n i5 (by omega) hr) (rp_rf (by decide) (rp_rg (zin_nI (by omega) (by decide)) ?_))))
      rw [zx_nI (show r < 2 ^ 31 by omega), s1, fT_i fc1 (by decide) (show tgC 39 r = 6 from rfl), s2, zbd_u]
      obtain ⟨v, e3, e4, q⟩ := go _ _ len rfl
      exact rp_eq e4 e3 q
    · refine rp_lf b1 (rp_lg (zin_nI (by omega) (by decide)) (rp_lf a1 (rp_rf a2 (rp_rf b2 ?_))))
      rw [zbd_u]
      exact kQ_f n h (fT_rf _ _ _) fc1 2 v2
theorem o_print (n : Nat) {C : kC} (P : kPs C) {W : kW} {fr : List Nat} {T k : Nat} {ur uc : zMu} (h : kGd C W fr T (k + 1) ur uc) (hP : wP W < 20000) : Rp (zlet (zsI ur 0 51 ((zI ur 0 51) - 1)) fun u65 => if zI u65 0 60 < 200 then (zgd (zin (zI u65 0 51) 2200) <| zgd (zin (zI u65 0 60) 200) <| zlet (zsI u65 33 (zx (zI u65 0 60)) (zI u65 27 (zx (zI u65 0 51)))) fun u67 => zgd (zin (zI u67 0 51) 2200) <| zgd (zin (zI u67 0 60) 200) <| zlet (zsL u67 34 (zx (zI u67 0 60)) (zL u67 31 (zx (zI u67 0 51)))) fun u68 => zlet (zsI u68 0 60 ((zI u68 0 60) + 1)) fun u69 => some ((-1 : Int32), u69)) else (zlet (zsI u65 0 60 ((zI u65 0 60) + 1)) fun u70 => some ((-1 : Int32), u70))) (ce_M_print n uc) (kQ C fr T k 1 W ur uc) := by
  have t8 := h.t8
  have hv := h.v (show k < k + 1 by omega)
  obtain ⟨s, s1, s2⟩ := vR_s4 hv
  obtain ⟨vr, ev, i51, i27, l31, fr1, iO, lO⟩ := pop_r h k
  obtain ⟨uk, ek, k8, p1, p2, p3, fc1, kd⟩ := pop_c P h k
  obtain ⟨hPp, hOb, hMb, hSh, hRw, hSi, hFn, hCt⟩ := h.2.2.2.2
  obtain ⟨q0, q1, q2, q3, q4⟩ := kPp_k hPp fr1 fc1 (by decide)
  unfold ce_M_print
  rw [h.tr, h.tc, nI_pred, ev, ek]
  refine rp_ll (rp_rl ?_)
  rw [k8, q1, i51]
  refine rp_r (v_sortAt n p1 (j := k) (by omega)) ?_
  rw [k8, q2]
  refine rp_r (v_numberAt n p1 (j := k) (by omega)) ?_
  rw [p2, p3, s2]
  -- the class's set
  obtain ⟨w, e, k1, k2, k3, k4⟩ : ∃ w, ce_V_set n 72 uk (nI (wP W)) (nI s) (vX 75 uc k) = some ((), w) ∧ pVw 72 200 w ∧ fT tgC [4] uk w ∧ (∀ j, j < 200 → vS 72 w j = if j = wP W then nI s else vS 72 uk j) ∧ (∀ j, j < 200 → vX 72 w j = if j = wP W then vX 75 uc k else vX 72 uk j) := by
    by_cases z : wP W < 200
    · obtain ⟨w, e, k1, k2, k3, k4⟩ := v_set n q3 kd z s1 (vX 75 uc k)
      exact ⟨w, e, k1, fT_V (fT_rf _ _ _) (v := 72) (m := 200) (t := 4) (by unfold vK; omega) k2 k1 (by decide), fun j _ => k3 j, fun j _ => k4 j⟩
    · exact ⟨uk, v_set_off n q3 (by omega) (by omega) _ _, q3, fT_rf _ _ _, fun j hj => by rw [if_neg (by omega)], fun j hj => by rw [if_neg (by omega)]⟩
  have w5 : zI w 34 5 = nI (wP W) := by
    by_cases z : wP W < 200
    · obtain ⟨w', e', k1', k2', k3', k4'⟩ := v_set n q3 kd z s1 (vX 75 uc k)
      rw [e'] at e
      cases e
      rw [k2'.1 34 5 (by decide)]; exact q2
    · rw [v_set_off n q3 (by omega) (by omega)] at e
      cases e
      exact q2
  refine rp_r e (rp_rl ?_)
  rw [w5, nI_1]
  have hc2 : fT tgC [4] uk (zsI w 34 5 (nI (wP W + 1))) := fT_I k2 _ 4 rfl (by decide)
  have hc : fT tgC [1, 4] uc (zsI w 34 5 (nI (wP W + 1))) := fT_tr (fT_mono fc1 (by decide)) (fT_mono hc2 (by decide))
  obtain ⟨V, hV⟩ : ∃ V : kW, V = ((wO W, wR W, wS W, wM W, wP W + 1), W.2) := ⟨_, rfl⟩
  have fin : ∀ vv, fT tgR [4] vr vv → zI vv 0 60 = nI (wP W + 1) → (∀ j, j < 200 → zI vv 33 j = if j = wP W then zI ur 27 k else zI vr 33 j) → (∀ j, j < 200 → zL vv 34 j = if j = wP W then zL ur 31 k else zL vr 34 j) → kQ C fr T k 1 W ur uc (-1) vv () (zsI w 34 5 (nI (wP W + 1))) := by
    intro vv f1 f2 f3 f4
    have hr : fT tgR [1, 4] ur vv := fT_tr (fT_mono fr1 (by decide)) (fT_mono f1 (by decide))
    have hst : kSt (wO W) (wR W) k vv (zsI w 34 5 (nI (wP W + 1))) := by
      have := kSt_pop h.2.1 (k := k) (by omega)
      rw [ev, ek] at this
      exact kSt_k this f1 hc2 (by decide)
    refine kQ_g h hr hc (by decide) (by decide) (by decide) (by decide) (V := V) (by subst hV; exact Nat.le_refl _) (by subst hV; exact Nat.le_refl _) (by subst hV; show wM W + (wP W + 1) ≤ _; omega) (by subst hV; exact hst) ?_
    have q : ∀ t, t = 5 ∨ t = 6 ∨ t = 7 ∨ t = 8 ∨ t = 9 ∨ t = 10 ∨ t = 11 → ¬ t ∈ [1, 4] := by intro t ht; simp; omega
    subst hV
    refine ⟨⟨by show wP W + 1 ≤ 20000; omega, f2, rfl, ?_, fun j hj hj2 => ?_⟩, kOb_k hOb hr hc (by decide), kMb_k hMb hr hc (by decide), kSh_k hSh hr hc (by decide), kRw_k hRw hr hc (by decide), kSi_k hSi hr hc (by decide), kFn_k hFn hr hc (by decide), kCt_k hCt hr hc (by decide)⟩
    · exact pVw_keep k1 (by rw [gI_sI, if_neg (by omega)]) (fun j => by rw [gI_sI, if_neg (by omega)]) rfl rfl
    · rw [vS_keep (v := 72) (u := w) (w := zsI w 34 5 (nI (wP W + 1))) (fun j => by rw [gI_sI, if_neg (by omega)]) rfl, vX_keep (v := 72) (u := w) (w := zsI w 34 5 (nI (wP W + 1))) (fun _ => rfl) rfl, k3 j hj2, k4 j hj2, f3 j hj2, f4 j hj2]
      by_cases z : j = wP W
      · rw [if_pos z, if_pos z, if_pos z, if_pos z, ← s2]; exact hv
      · rw [if_neg z, if_neg z, if_neg z, if_neg z]
        have hj : j < wP W + 1 := hj
        exact q4 j (by omega) hj2
  by_cases z : wP W < 200
  · refine rp_lt (nI_lt z (by decide)) (rp_lg (zin_nI (by omega) (by decide)) (rp_lg (zin_nI z (by decide)) (rp_ll ?_)))
    rw [zx_nI (show wP W < 2 ^ 31 by omega), zx_nI (show k < 2 ^ 31 by omega), i27]
    have j51 : zI (zsI vr 33 (wP W) (zI ur 27 k)) 0 51 = nI k := by rw [gI_sI, if_neg (by omega)]; exact i51
    have j60 : zI (zsI vr 33 (wP W) (zI ur 27 k)) 0 60 = nI (wP W) := by rw [gI_sI, if_neg (by omega)]; exact q1
    rw [j51, j60]
    refine rp_lg (zin_nI (by omega) (by decide)) (rp_lg (zin_nI z (by decide)) (rp_ll (rp_ll ?_)))
    rw [zx_nI (show wP W < 2 ^ 31 by omega), zx_nI (show k < 2 ^ 31 by omega), gL_sI, l31, gI_sL, j60, nI_1]
    refine rp_end (fin _ (fT_I (fT_L (fT_I (fT_rf _ _ _) _ 4 rfl (by decide)) _ 4 rfl (by decide)) _ 4 rfl (by decide)) rfl (fun j hj => ?_) (fun j hj => ?_))
    · rw [gI_sI, if_neg (by omega), gI_sL, gI_sI]
      by_cases y : j = wP W
      · rw [if_pos ⟨rfl, y⟩, if_pos y]
      · rw [if_neg (by omega), if_neg y]
    · rw [gL_sI, gL_sL]
      by_cases y : j = wP W
      · rw [if_pos ⟨rfl, y⟩, if_pos y]
      · rw [if_neg (by omega), if_neg y, gL_sI]
  · refine rp_lf (show ¬ nI (wP W) < nI 200 from nI_nlt (by omega) (by omega)) (rp_ll ?_)
    refine rp_end (fin _ (fT_I (fT_rf _ _ _) _ 4 rfl (by decide)) rfl (fun j hj => ?_) (fun j hj => ?_))
    · rw [gI_sI, if_neg (by omega), if_neg (by omega)]
    · rw [gL_sI, if_neg (by omega)]
