/-! RUNNING: the instructions of rows -/
theorem o_row (n : Nat) (hn : 100 ≤ n) {C : kC} (P : kPs C) {W : kW} {fr : List Nat} {T k c : Nat} {ur uc : zMu} (h : kGd C W fr T (k + 1) ur uc) (v2 : Int32) : Rp (rf_rowOf n ur v2) (ce_M_makeRow n uc v2) (kQ C fr T (k + 1) c W ur uc) := by
  have t8 := h.t8
  have hv := h.v (show k < k + 1 by omega)
  obtain ⟨vr, ev, i51, i27, l31, fr1, iO, lO⟩ := pop_r h k
  obtain ⟨uk, ek, k8, p1, p2, p3, fc1, kd⟩ := pop_c P h k
  obtain ⟨hPp, hOb, hMb, hSh, hRw, hSi, hFn, hCt⟩ := h.2.2.2.2
  have hRk := kRw_k hRw fr1 fc1 (by decide)
  unfold rf_rowOf ce_M_makeRow
  rw [h.tr, h.tc, nI_pred, ev, ek]
  refine rp_ll (rp_rl ?_)
  rw [i51, zx_nI (show k < 2 ^ 31 by omega), i27, l31, k8]
  refine rp_lg (zin_nI (by omega) (by decide)) (rp_r (v_numberAt n p1 (j := k) (by omega)) ?_)
  rw [k8, p3]
  rcases c_isNum n p1 (j := k) (by omega) (by rw [p2]; exact hv) with ⟨a, b, e⟩ | ⟨a, e⟩
  · refine rp_lt a (rp_lg (zin_nI (by omega) (by decide)) (rp_r e (rp_rf (by decide) ?_)))
    rw [b]
    by_cases z0 : lg_cmp (zL ur 31 k) 0 < 0
    · refine rp_lt z0 (rp_rt z0 ?_)
      rw [zbd_i, zbd_u]
      exact kQ_f n h fr1 fc1 4 v2
    refine rp_lf z0 (rp_lg (zin_nI (by omega) (by decide)) (rp_rf z0 ?_))
    by_cases z1 : 0 < lg_cmp (zL ur 31 k) 50
    · refine rp_lt z1 (rp_rt z1 ?_)
      rw [zbd_i, zbd_u]
      exact kQ_f n h fr1 fc1 4 v2
    refine rp_lf z1 (rp_rf z1 ?_)
    obtain ⟨z, hz, ez⟩ := lN_of (x := zL ur 31 k) (m := 50) (by decide) (fun q => z0 ((lgc_lt _ _).mpr q)) (fun q => z1 ((lgc_gt _ _).mpr q))
    have r59 : zI vr 0 59 = nI (wR W) := hRk.2.1
    have rle : wR W ≤ 60 := hRk.1
    rw [r59]
    by_cases z2 : wR W = 60
    · refine rp_lt (by rw [z2]; rfl) ?_
      have ea : ce_R_addRow n uk ((zL ur 31 k).toInt32) = some (-1, uk) := by
        unfold ce_R_addRow
        rw [hRk.2.2.1, z2, if_neg (by decide)]
      refine rp_r ea (rp_rt rfl ?_)
      rw [zbd_i, zbd_u]
      exact kQ_f n h fr1 fc1 6 v2
    · refine rp_lf (fun q => z2 ((nI_eq (b := 60) (by omega) (by decide)).mp q)) (rp_ll (rp_ll (rp_lg (zin_nI (by omega) (by decide)) (rp_ll ?_))))
      obtain ⟨V, hV⟩ : ∃ V : kW, V = ((wO W, wR W + 1, wS W, wM W, wP W), W.2) := ⟨_, rfl⟩
      obtain ⟨wr, wc, e1, e2, f1, f2, kr⟩ := k_addRow n hn hRk kd (by omega) hz hV
      rw [zx_nI (show wR W < 2 ^ 31 by omega), nI_1]
      have j51 : zI (zsI (zsI vr 0 59 (nI (wR W + 1))) 48 (wR W) 0) 0 51 = nI k := i51
      rw [j51, zx_nI (show k < 2 ^ 31 by omega)]
      refine rp_lg (zin_nI (by omega) (by decide)) (rp_lg (zin_nI (by omega) (by decide)) (rp_ll ?_))
      have jl : zL (zsI (zsI vr 0 59 (nI (wR W + 1))) 48 (wR W) 0) 31 k = lN z := (l31 k).trans ez
      rw [jl, ez, lN_i]
      show Rp (rf_rowOf_L121 n n _ (nI (wR W)) (nI 0)) _ _
      rw [e1]
      refine rp_r e2 (rp_rf (nI_m1 (by omega)) ?_)
      rw [zbd_u, nI_l (show wR W < 2 ^ 31 by omega)]
      -- the state behind it
      have fr2 : fT tgR [1, 8] ur wr := fT_tr (fT_mono fr1 (by decide)) (fT_mono f1 (by decide))
      have fc2 : fT tgC [1, 8] uc wc := fT_tr (fT_mono fc1 (by decide)) (fT_mono f2 (by decide))
      have le : wLe W V := by subst hV; exact ⟨Nat.le_refl _, Nat.le_succ _, Nat.le_refl _, fun _ _ => rfl, fun _ _ => ⟨rfl, rfl, rfl⟩⟩
      have hO : ∀ o, o < wO W → wp W o ≤ o := fun o ho => (hOb.2.2.2 o ho).1
      have g2 : kGd C V fr T k wr wc := by
        have s1 := kSt_pop h.2.1 (k := k) (by omega)
        rw [ev, ek] at s1
        refine ⟨⟨fT_tr h.1.1 (fT_mono fr2 (by decide)), fT_tr h.1.2 (fT_mono fc2 (by decide))⟩, kSt_m (kSt_k s1 f1 f2 (by decide)) le.1 le.2.1, kVa_m (kVa_k h.2.2.1 fr2 fc2 (by decide)) le.1 le.2.1, kFr_k h.2.2.2.1 fr2 fc2 (by decide), kPp_m (kPp_k hPp fr2 fc2 (by decide)) le (by subst hV; rfl), ?_, kMb_m (kMb_k hMb fr2 fc2 (by decide)) le (by subst hV; rfl) (by subst hV; rfl) (by subst hV; rfl), ?_, kr, kSi_m (kSi_k hSi fr2 fc2 (by decide)) le hO (by subst hV; rfl), kFn_m (kFn_k hFn fr2 fc2 (by decide)) (by subst hV; rfl), kCt_k hCt fr2 fc2 (by decide)⟩
        · subst hV; exact kOb_k hOb fr2 fc2 (by decide)
        · subst hV; exact kSh_k hSh fr2 fc2 (by decide)
      have hp := o_push n P (c := c) g2 (by omega) (sr := 3) (xr := lN (wR W)) (s := 4) (xc := lN (wR W)) (by omega) (Or.inr (Or.inr (Or.inr ⟨rfl, rfl, rfl, wR W, by subst hV; exact Nat.lt_succ_self _, rfl⟩)))
      refine rp_mono hp (fun rr a _ b q => ?_)
      obtain ⟨q1, q2, q3⟩ := q
      refine ⟨fT_tr (fT_mono fr2 (by decide)) q1, fT_tr (fT_mono fc2 (by decide)) q2, ?_⟩
      rcases q3 with ⟨q3, q4, q5, V', q6, q7⟩ | q3
      · refine Or.inl ⟨q3, q4.trans (fT_i fc2 (by decide) (show tgC 34 17 = 12 from rfl)), q5.trans (fT_i fc2 (by decide) (show tgC 34 13 = 12 from rfl)), V', ?_, q7⟩
        have eM : wM V = wM W := by subst hV; rfl
        have eP : wP V = wP W := by subst hV; rfl
        omega
      · exact Or.inr q3
  · refine rp_lf a (rp_r e (rp_rt rfl ?_))
    rw [zbd_i, zbd_u]
    exact kQ_f n h fr1 fc1 1 v2
/-- the item that is meant: k the row, k + 1 the number -/
theorem k_item (n : Nat) {nO k : Nat} {W : kW} {vr uk : zMu} (hR : kRw W vr uk) (p1 : pVw 75 780 uk) (hk : k + 2 ≤ 780) (i51 : zI vr 0 51 = nI k) (k8 : zI uk 34 8 = nI k) (h0 : vR nO (wR W) (zI vr 27 k) (zL vr 31 k) (vS 75 uk k) (vX 75 uk k)) (h1 : vR nO (wR W) (zI vr 27 (k + 1)) (zL vr 31 (k + 1)) (vS 75 uk (k + 1)) (vX 75 uk (k + 1))) (p : Int32) : (∃ x : Int32, ¬ x = 0 ∧ rf_hinders n vr = some (x, vr) ∧ ce_M_itemAt n uk p = some (-1, failS uk x p)) ∨ (∃ r j st, r < wR W ∧ j < 50 ∧ st + j < 3000 ∧ zL vr 31 k = lN r ∧ vX 75 uk k = lN r ∧ zL vr 31 (k + 1) = lN j ∧ rf_hinders n vr = some (0, vr) ∧ ce_M_itemAt n uk p = some (nI (st + j), uk) ∧ ∃ z : Nat → Nat, st = kSm z r ∧ j < z r ∧ zI uk 45 4 = nI (kSm z (wR W)) ∧ ∀ r, r < wR W → z r ≤ 50 ∧ (∃ k, k ≤ 2 ∧ zI vr 48 r = nI k ∧ zI uk 46 r = nI k) ∧ zI vr 49 r = nI (z r) ∧ zI uk 47 r = nI (z r) ∧ zI uk 48 r = nI (kSm z r) ∧ ∀ j, j < z r → vR (wO W) (wR W) (zI vr 50 (50 * r + j)) (zL vr 51 (50 * r + j)) (vS 69 uk (kSm z r + j)) (vX 69 uk (kSm z r + j))) := by
  obtain ⟨q1, q2, q3, q4, q5, z, q6, q7⟩ := hR
  unfold rf_hinders ce_M_itemAt
  rw [i51, k8, nI_1, zx_nI (show k < 2 ^ 31 by omega), zx_nI (show k + 1 < 2 ^ 31 by omega), zin_nI (show k < 2200 by omega) (by decide), zgd_t, zbd_e (v_sortAt n p1 (j := k) (by omega)), k8, nI_1, zin_nI (show k + 1 < 2200 by omega) (by decide)]
  rcases vR_row h0 with ⟨a1, a2, r, hr, a3, a4⟩ | ⟨a1, a2⟩
  · rw [if_pos (show zI vr 27 k = 3 from a1), if_pos (show vS 75 uk k = 4 from a2)]
    rcases c_isNum n p1 (j := k + 1) (by omega) h1 with ⟨b1, b2, e⟩ | ⟨b1, e⟩
    · rw [if_pos b1, zbd_e e, if_neg (show ¬ (1 : Int32) = 0 by decide), k8, zbd_e (v_numberAt n p1 (j := k) (by omega)), k8, nI_1, zbd_e (v_numberAt n p1 (j := k + 1) (by omega)), a4, a3, b2, lN_i]
      simp only [zgd_t]
      obtain ⟨g1, g2, g3, g4, g5, g6⟩ := q7 r hr
      have hRt : wR W ≤ 60 := q1
      have hU : kSm z (wR W) ≤ wR W * 50 := kSm_le _ (fun r hr => (q7 r hr).1)
      have hm : kSm z r + z r ≤ kSm z (wR W) := kSm_mono (f := z) (a := r + 1) (wR W) (by omega)
      have ep : ∀ x : Int64, ce_R_placeOf n uk (nI r) x = some (if lg_cmp x 0 < 0 then -1 else if lg_cmp x (lN (z r)) < 0 then nI (kSm z r) + x.toInt32 else -1, uk) := by
        intro x
        unfold ce_R_placeOf
        rw [zbd_e (c_isRow n q3 (by omega) hr), if_neg (by decide), zin_nI (show r < 60 by omega) (by decide), zgd_t, zgd_t, zx_nI (show r < 2 ^ 31 by omega), g4, g5, nI_l (show z r < 2 ^ 31 by omega)]
        by_cases y : lg_cmp x 0 < 0
        · rw [if_pos y, if_pos y]
        · rw [if_neg y, if_neg y]
          by_cases y2 : lg_cmp x (lN (z r)) < 0
          · rw [if_pos y2, if_pos y2]
          · rw [if_neg y2, if_neg y2]
      rw [zbd_e (ep _), zin_nI (show r < 61 by omega) (by decide), zgd_t, zx_nI (show r < 2 ^ 31 by omega), g3, nI_l (show z r < 2 ^ 31 by omega)]
      by_cases y : lg_cmp (zL vr 31 (k + 1)) 0 < 0
      · rw [if_pos y, if_pos y, if_pos rfl]
        exact Or.inl ⟨3, by decide, rfl, rfl⟩
      · rw [if_neg y, if_neg y]
        by_cases y2 : lg_cmp (zL vr 31 (k + 1)) (lN (z r)) < 0
        · obtain ⟨j, hj, ej⟩ := lN_of (x := zL vr 31 (k + 1)) (m := z r) (by omega) (fun q => y ((lgc_lt _ _).mpr q)) (fun q => by
            have := (lgc_lt _ _).mp y2
            rw [Int64.lt_iff_toInt_lt] at this q
            omega)
          have hj2 : j < z r := by
            have := (lgc_lt _ _).mp y2
            rw [ej, lN_lt (by omega) (by omega)] at this
            exact this
          rw [if_pos y2, if_pos y2, ej, lN_i, nI_add, if_neg (nI_m1 (by omega))]
          exact Or.inr ⟨r, j, kSm z r, hr, by omega, by omega, rfl, rfl, rfl, rfl, rfl, z, rfl, hj2, q6, q7⟩
        · rw [if_neg y2, if_neg y2, if_pos rfl]
          exact Or.inl ⟨3, by decide, rfl, rfl⟩
    · simp only [zgd_t]
      rw [if_neg b1, zbd_e e, if_pos rfl]
      exact Or.inl ⟨1, by decide, rfl, rfl⟩
  · rw [if_neg (show ¬ zI vr 27 k = 3 from a1), if_neg (show ¬ vS 75 uk k = 4 from a2)]
    exact Or.inl ⟨2, by decide, rfl, rfl⟩
theorem o_item (n : Nat) {C : kC} (P : kPs C) {W : kW} {fr : List Nat} {T k c : Nat} {ur uc : zMu} (h : kGd C W fr T (k + 2) ur uc) (v2 : Int32) : Rp (rf_items n ur v2) (ce_M_getItem n uc v2) (kQ C fr T (k + 1) c W ur uc) := by
  have t8 := h.t8
  have h0 := h.v (show k < k + 2 by omega)
  have h1 := h.v (show k + 1 < k + 2 by omega)
  obtain ⟨vr, ev, i51, i27, l31, fr1, iO, lO⟩ := pop_r h k
  obtain ⟨uk, ek, k8, p1, p2, p3, fc1, kd⟩ := pop_c P h k
  obtain ⟨hPp, hOb, hMb, hSh, hRw, hSi, hFn, hCt⟩ := h.2.2.2.2
  have hRk := kRw_k hRw fr1 fc1 (by decide)
  unfold rf_items ce_M_getItem
  rw [h.tr, h.tc, show nI (k + 2) - 2 = nI k from nI_sub (a := k + 2) (b := 2) (by omega), ev, ek]
  refine rp_ll (rp_rl ?_)
  rcases k_item n hRk p1 (by omega) i51 k8 (by rw [i27, l31, p2, p3]; exact h0) (by rw [i27, l31, p2, p3]; exact h1) v2 with ⟨x, x0, x1, x2⟩ | ⟨r, j, st, hr, hj, hst, a1, a2, a3, x1, x2, z, z1, z2, z3, z4⟩
  · refine rp_l x1 (rp_lf x0 ?_)
    rw [zbd_i]
    obtain ⟨w, e1, q⟩ := kQ_f0 (t' := k + 1) (c := c) n h fr1 fc1 x v2
    refine rp_r x2 (rp_rt rfl (rp_eq e1 rfl q))
  · refine rp_l x1 (rp_lt rfl ?_)
    rw [i51, nI_1, zx_nI (show k < 2 ^ 31 by omega), zx_nI (show k + 1 < 2 ^ 31 by omega), a1, a3, lN_i, lN_i, show (50 : Int32) * nI r + nI j = nI (50 * r + j) from by rw [show (50 : Int32) * nI r = nI (50 * r) from nI_mul 50 r, nI_add]]
    have hR6 : wR W ≤ 60 := hRk.1
    refine rp_lg (zin_nI (by omega) (by decide)) (rp_lg (zin_nI (by omega) (by decide)) (rp_ll (rp_lg (zin_nI (by omega) (by decide)) (rp_lg (zin_nI (by omega) (by decide)) ?_))))
    rw [zx_nI (show 50 * r + j < 2 ^ 31 by omega)]
    have g5 : pVw 69 3000 uk := hRk.2.2.2.2.1
    refine rp_r x2 (rp_rf (nI_m1 (by omega)) (rp_r (v_sortAt n g5 (j := st + j) (by omega)) (rp_r (v_numberAt n g5 (j := st + j) (by omega)) ?_)))
    have g6 := (z4 r hr).2.2.2.2.2 j z2
    rw [← z1] at g6
    obtain ⟨s, s1, s2⟩ := vR_s4 g6
    rw [s2] at g6 ⊢
    rw [zbd_u]
    have s0 := kSt_pop h.2.1 (k := k) (by omega)
    rw [ev, ek] at s0
    have g2 : kGd C W fr T k vr uk := ⟨⟨fT_tr h.1.1 (fT_mono fr1 (by decide)), fT_tr h.1.2 (fT_mono fc1 (by decide))⟩, s0, kVa_k h.2.2.1 fr1 fc1 (by decide), kFr_k h.2.2.2.1 fr1 fc1 (by decide), kOt_k h.2.2.2.2 fr1 fc1 (fun t a b => by simp; omega)⟩
    refine rp_mono (o_push n P (c := c) g2 (by omega) s1 g6) (fun rr a _ b q => ?_)
    obtain ⟨q1, q2, q3⟩ := q
    refine ⟨fT_tr (fT_mono fr1 (by decide)) q1, fT_tr (fT_mono fc1 (by decide)) q2, ?_⟩
    rcases q3 with ⟨q3, q4, q5, q6⟩ | q3
    · exact Or.inl ⟨q3, q4.trans (fT_i fc1 (by decide) (show tgC 34 17 = 12 from rfl)), q5.trans (fT_i fc1 (by decide) (show tgC 34 13 = 12 from rfl)), q6⟩
    · exact Or.inr q3
