/-! RUNNING: an item is laid -/
theorem r_isWhole (n : Nat) (u : zMu) (x : Int64) : (isWh x ∧ rf_isWhole n u x = some (1, u)) ∨ (¬ isWh x ∧ rf_isWhole n u x = some (0, u)) := by
  unfold rf_isWhole isWh
  by_cases a : lg_cmp x (-1073741824) < 0
  · exact Or.inr ⟨fun q => q.1 a, by rw [if_pos a]⟩
  · by_cases b : 0 < lg_cmp x 1073741823
    · exact Or.inr ⟨fun q => q.2 b, by rw [if_neg a, if_pos b]⟩
    · exact Or.inl ⟨⟨a, b⟩, by rw [if_neg a, if_neg b]⟩
theorem k_fit (n : Nat) {nO nR : Nat} {sr sc : Int32} {xr xc : Int64} (h : vR nO nR sr xr sc xc) : ∃ f, f ≤ 2 ∧ (∀ u, rf_fitOf n u sr xr = some (nI f, u)) ∧ ∀ w, ce_R_neededFor n w sc xc = some (nI f, w) := by
  unfold rf_fitOf ce_R_neededFor
  rcases h with ⟨a1, a2, a3⟩ | ⟨a1, a3, a2⟩ | ⟨a1, a2, a3, -⟩ | ⟨a1, a2, a3, -⟩
  · subst a1 a2; exact ⟨2, by omega, fun u => by rw [if_neg (by decide)]; rfl, fun u => by rw [if_neg (by decide)]; rfl⟩
  · subst a1 a3
    rcases a2 with ⟨w, a2⟩ | ⟨w, a2⟩
    · subst a2
      have e : ∀ u, rf_isWhole n u xc = some (1, u) := fun u => by
        rcases r_isWhole n u xc with q | q
        · exact q.2
        · exact absurd w q.1
      by_cases x : lg_cmp xc (-128) < 0
      · exact ⟨1, by omega, fun u => by rw [if_pos (show nI 1 = 1 from rfl), zbd_e (e u), if_neg (by decide), if_pos x]; rfl, fun u => by rw [if_pos (show nI 1 = 1 from rfl), if_pos x]; rfl⟩
      · by_cases y : 0 < lg_cmp xc 127
        · exact ⟨1, by omega, fun u => by rw [if_pos (show nI 1 = 1 from rfl), zbd_e (e u), if_neg (by decide), if_neg x, if_pos y]; rfl, fun u => by rw [if_pos (show nI 1 = 1 from rfl), if_neg x, if_pos y]; rfl⟩
        · exact ⟨0, by omega, fun u => by rw [if_pos (show nI 1 = 1 from rfl), zbd_e (e u), if_neg (by decide), if_neg x, if_neg y]; rfl, fun u => by rw [if_pos (show nI 1 = 1 from rfl), if_neg x, if_neg y]; rfl⟩
    · subst a2
      have e : ∀ u, rf_isWhole n u xc = some (0, u) := fun u => by
        rcases r_isWhole n u xc with q | q
        · exact absurd q.1 w
        · exact q.2
      exact ⟨2, by omega, fun u => by rw [if_pos (show nI 1 = 1 from rfl), zbd_e (e u), if_pos rfl]; rfl, fun u => by rw [if_neg (by decide)]; rfl⟩
  · subst a1 a2; exact ⟨2, by omega, fun u => by rw [if_neg (by decide)]; rfl, fun u => by rw [if_neg (by decide)]; rfl⟩
  · subst a1 a2; exact ⟨2, by omega, fun u => by rw [if_neg (by decide)]; rfl, fun u => by rw [if_neg (by decide)]; rfl⟩
theorem o_lay (n : Nat) {C : kC} (P : kPs C) {W : kW} {fr : List Nat} {T k c : Nat} {ur uc : zMu} (h : kGd C W fr T (k + 3) ur uc) (v2 : Int32) : Rp (rf_lays n ur v2) (ce_M_putItem n uc v2) (kQ C fr T k c W ur uc) := by
  have t8 := h.t8
  have h0 := h.v (show k < k + 3 by omega)
  have h1 := h.v (show k + 1 < k + 3 by omega)
  have h2 := h.v (show k + 2 < k + 3 by omega)
  obtain ⟨vr, ev, i51, i27, l31, fr1, iO, lO⟩ := pop_r h k
  obtain ⟨uk, ek, k8, p1, p2, p3, fc1, kd⟩ := pop_c P h k
  have hs0 := kSt_pop h.2.1 (k := k) (by omega)
  rw [ev, ek] at hs0
  obtain ⟨hPp, hOb, hMb, hSh, hRw, hSi, hFn, hCt⟩ := h.2.2.2.2
  have hRk := kRw_k hRw fr1 fc1 (by decide)
  unfold rf_lays ce_M_putItem
  rw [h.tr, h.tc, show nI (k + 3) - 3 = nI k from nI_sub (a := k + 3) (b := 3) (by omega), ev, ek]
  refine rp_ll (rp_rl ?_)
  rcases k_item n hRk p1 (by omega) i51 k8 (by rw [i27, l31, p2, p3]; exact h0) (by rw [i27, l31, p2, p3]; exact h1) v2 with ⟨x, x0, x1, x2⟩ | ⟨r, j, st, hr, hj, hst, a1, a2, a3, x1, x2, z, z1, z2, z3, z4⟩
  · refine rp_l x1 (rp_lf x0 ?_)
    rw [zbd_i]
    obtain ⟨w, e1, q⟩ := kQ_f0 (t' := k) (c := c) n h fr1 fc1 x v2
    refine rp_r x2 (rp_rt rfl (rp_eq e1 rfl q))
  · refine rp_l x1 (rp_lt rfl ?_)
    have hR6 : wR W ≤ 60 := hRk.1
    have b50 : (50 : Int32) * nI r + nI j = nI (50 * r + j) := by rw [show (50 : Int32) * nI r = nI (50 * r) from nI_mul 50 r, nI_add]
    rw [i51, show nI k + 2 = nI (k + 2) from nI_add k 2, nI_1, zx_nI (show k < 2 ^ 31 by omega), zx_nI (show k + 1 < 2 ^ 31 by omega), zx_nI (show k + 2 < 2 ^ 31 by omega), a1, a3, lN_i, lN_i]
    refine rp_lg (zin_nI (by omega) (by decide)) (rp_ll (rp_lg (zin_nI (by omega) (by decide)) (rp_ll (rp_lg (zin_nI (by omega) (by decide)) (rp_lg (zin_nI (by omega) (by decide)) ?_)))))
    rw [b50, i27, l31]
    obtain ⟨f, f1, f2, f3⟩ := k_fit n h2
    obtain ⟨g1, ⟨kk, g2, g3, g4⟩, g5, g6, g7, g8⟩ := z4 r hr
    refine rp_l (f2 _) (rp_lg (zin_nI (by omega) (by decide)) ?_)
    rw [zx_nI (show r < 2 ^ 31 by omega), g3]
    refine rp_r x2 (rp_rf (nI_m1 (by omega)) ?_)
    rw [k8]
    refine rp_r (v_numberAt n p1 (j := k) (by omega)) ?_
    rw [a2, lN_i, k8, show nI k + 2 = nI (k + 2) from nI_add k 2]
    refine rp_r (v_sortAt n p1 (j := k + 2) (by omega)) ?_
    rw [k8, show nI k + 2 = nI (k + 2) from nI_add k 2]
    refine rp_r (v_numberAt n p1 (j := k + 2) (by omega)) ?_
    rw [p2, p3, zbd_u]
    obtain ⟨s, s1, s2⟩ := vR_s4 h2
    unfold ce_R_putAt
    refine rp_r (c_isRow n hRk.2.2.1 (by omega) hr) (rp_rf (by decide) (rp_r (f3 uk) (rp_rg (zin_nI (by omega) (by decide)) ?_)))
    rw [zx_nI (show r < 2 ^ 31 by omega), g4, s2, zbd_u]
    -- what both come to
    have key : ∀ (yr yc : zMu) (kn : Nat), kn ≤ 2 → fT tgR [8] vr yr → fT tgC [8] uk yc → zI yc 45 6 = zI yr 0 67 → (∀ i, zI yr 48 i = if i = r then nI kn else zI vr 48 i) → (∀ i, zI yc 46 i = if i = r then nI kn else zI uk 46 i) → (∀ a i, ¬ a = 48 → ¬ (a = 0 ∧ i = 67) → zI yr a i = zI vr a i) → (∀ a i, ¬ a = 46 → ¬ (a = 45 ∧ i = 6) → zI yc a i = zI uk a i) → (∀ a i, zL yr a i = zL vr a i) → (∀ j, vS 69 yc j = vS 69 uk j) → (∀ j, vX 69 yc j = vX 69 uk j) → pVw 69 3000 yc → Rp (rf_lays_J112 n yr (nI (50 * r + j))) (ce_V_set n 69 yc (nI (st + j)) (nI s) (vX 75 uc (k + 2))) (kQ C fr T k c W ur uc) := by
      intro yr yc kn hkn F1 F2 c1 c2 c3 c4 c5 c6 c7 c8 c9
      obtain ⟨w, e, w1, w2, w3, w4⟩ := v_set n c9 ((fT_dy F2).trans kd) (i := st + j) (by omega) s1 (vX 75 uc (k + 2))
      have o51 : zI yr 0 51 = nI k := (c4 0 51 (by decide) (by decide)).trans i51
      have er : rf_lays_J112 n yr (nI (50 * r + j)) = some (-1, zsL (zsI yr 50 (50 * r + j) (zI ur 27 (k + 2))) 51 (50 * r + j) (zL ur 31 (k + 2))) := by
        unfold rf_lays_J112
        rw [o51, show nI k + 2 = nI (k + 2) from nI_add k 2, zin_nI (show k + 2 < 2200 by omega) (by decide), zgd_t, zin_nI (show 50 * r + j < 3100 by omega) (by decide), zgd_t, zx_nI (show k + 2 < 2 ^ 31 by omega), zx_nI (show 50 * r + j < 2 ^ 31 by omega), c4 27 _ (by decide) (by omega), i27]
        show zgd (zin (zI (zsI yr 50 (50 * r + j) (zI ur 27 (k + 2))) 0 51 + 2) 2200) (zgd true (zlet (zsL (zsI yr 50 (50 * r + j) (zI ur 27 (k + 2))) 51 (50 * r + j) (zL (zsI yr 50 (50 * r + j) (zI ur 27 (k + 2))) 31 (zx (zI (zsI yr 50 (50 * r + j) (zI ur 27 (k + 2))) 0 51 + 2)))) fun u2 => some ((-1 : Int32), u2))) = _
        have o51' : zI (zsI yr 50 (50 * r + j) (zI ur 27 (k + 2))) 0 51 = nI k := o51
        rw [o51', show nI k + 2 = nI (k + 2) from nI_add k 2, zin_nI (show k + 2 < 2200 by omega) (by decide), zgd_t, zgd_t, zx_nI (show k + 2 < 2 ^ 31 by omega), gL_sI, c6, l31]
        rfl
      refine rp_eq er e ?_
      have F3 : fT tgR [8] vr (zsL (zsI yr 50 (50 * r + j) (zI ur 27 (k + 2))) 51 (50 * r + j) (zL ur 31 (k + 2))) := fT_L (fT_I F1 _ 8 rfl (by decide)) _ 8 rfl (by decide)
      have F4 : fT tgC [8] uk w := fT_V F2 (v := 69) (m := 3000) (t := 8) (by unfold vK; omega) w2 w1 (by decide)
      have hr2 : fT tgR [1, 8] ur (zsL (zsI yr 50 (50 * r + j) (zI ur 27 (k + 2))) 51 (50 * r + j) (zL ur 31 (k + 2))) := fT_tr (fT_mono fr1 (by decide)) (fT_mono F3 (by decide))
      have hc2 : fT tgC [1, 8] uc w := fT_tr (fT_mono fc1 (by decide)) (fT_mono F4 (by decide))
      refine kQ_g h hr2 hc2 (by decide) (by decide) (by decide) (by decide) (V := W) (Nat.le_refl _) (Nat.le_refl _) (by omega) (kSt_k hs0 F3 F4 (by decide)) ⟨kPp_k hPp hr2 hc2 (by decide), kOb_k hOb hr2 hc2 (by decide), kMb_k hMb hr2 hc2 (by decide), kSh_k hSh hr2 hc2 (by decide), ?_, kSi_k hSi hr2 hc2 (by decide), kFn_k hFn hr2 hc2 (by decide), kCt_k hCt hr2 hc2 (by decide)⟩
      have iw : ∀ a i, ¬ a = 70 → zI w a i = zI yc a i := fun a i q => w2.1 a i q
      refine ⟨hR6, ?_, ?_, ?_, w1, z, ?_, fun r' hr' => ?_⟩
      · rw [gI_sL, gI_sI, if_neg (by omega), c4 0 59 (by decide) (by decide)]; exact hRk.2.1
      · rw [iw 45 5 (by decide), c5 45 5 (by decide) (by decide)]; exact hRk.2.2.1
      · rw [iw 45 6 (by decide), gI_sL, gI_sI, if_neg (by omega)]; exact c1
      · rw [iw 45 4 (by decide), c5 45 4 (by decide) (by decide)]; exact z3
      · obtain ⟨d1, ⟨m, d2, d3, d4⟩, d5, d6, d7, d8⟩ := z4 r' hr'
        refine ⟨d1, ?_, ?_, ?_, ?_, fun j' hj' => ?_⟩
        · rw [gI_sL, gI_sI, if_neg (by omega), c2, iw 46 _ (by decide), c3]
          by_cases y : r' = r
          · rw [if_pos y, if_pos y]; exact ⟨kn, hkn, rfl, rfl⟩
          · rw [if_neg y, if_neg y]; exact ⟨m, d2, d3, d4⟩
        · rw [gI_sL, gI_sI, if_neg (by omega), c4 49 _ (by decide) (by omega)]; exact d5
        · rw [iw 47 _ (by decide), c5 47 _ (by decide) (by omega)]; exact d6
        · rw [iw 48 _ (by decide), c5 48 _ (by decide) (by omega)]; exact d7
        · rw [w3, w4, c7, c8, gI_sL, gI_sI, gL_sL, gL_sI]
          by_cases y : r' = r ∧ j' = j
          · obtain ⟨y1, y2⟩ := y
            subst y1 y2
            rw [if_pos (by omega), if_pos (by omega), if_pos (by omega), if_pos (by omega), ← s2]
            exact h2
          · have n1 : ¬ 50 * r' + j' = 50 * r + j := by omega
            have n2 : ¬ kSm z r' + j' = st + j := by
              by_cases y1 : r' = r
              · subst y1; omega
              · by_cases y2 : r' < r
                · have m1 : kSm z r' + z r' ≤ kSm z r := kSm_mono (f := z) (a := r' + 1) r (by omega)
                  omega
                · have m1 : kSm z r + z r ≤ kSm z r' := kSm_mono (f := z) (a := r + 1) r' (by omega)
                  omega
            rw [if_neg n2, if_neg n2, if_neg (fun q => n1 q.2), if_neg (fun q => n1 q.2), c4 50 _ (by decide) (by omega), c6]
            exact d8 j' hj'
    by_cases y : kk < f
    · refine rp_lt (nI_lt y (by omega)) (rp_lg (zin_nI (by omega) (by decide)) (rp_ll (rp_ll ?_)))
      refine rp_rt (nI_lt y (by omega)) (rp_rg (zin_nI (by omega) (by decide)) (rp_rl (rp_rl ?_)))
      rw [zbd_u]
      refine key _ _ f f1 (fT_I (fT_I (fT_rf _ _ _) _ 8 rfl (by decide)) _ 8 rfl (by decide)) (fT_I (fT_I (fT_rf _ _ _) _ 8 rfl (by decide)) _ 8 rfl (by decide)) ?_ (fun i => ?_) (fun i => ?_) (fun a i q q2 => ?_) (fun a i q q2 => ?_) (fun _ _ => rfl) (fun _ => rfl) (fun _ => rfl) (pVw_keep hRk.2.2.2.2.1 rfl (fun _ => rfl) rfl rfl)
      · rw [gI_sI, if_pos ⟨rfl, rfl⟩, gI_sI, if_neg (by omega), gI_sI, if_pos ⟨rfl, rfl⟩, gI_sI, if_neg (by omega), hRk.2.2.2.1]
      · rw [gI_sI, if_neg (by omega), gI_sI]
        by_cases x : i = r
        · rw [if_pos ⟨rfl, x⟩, if_pos x]
        · rw [if_neg (by omega), if_neg x]
      · rw [gI_sI, if_neg (by omega), gI_sI]
        by_cases x : i = r
        · rw [if_pos ⟨rfl, x⟩, if_pos x]
        · rw [if_neg (by omega), if_neg x]
      · rw [gI_sI, if_neg q2, gI_sI, if_neg (by omega)]
      · rw [gI_sI, if_neg q2, gI_sI, if_neg (by omega)]
    · refine rp_lf (nI_nlt (by omega) (by omega)) (rp_rf (nI_nlt (by omega) (by omega)) ?_)
      refine key _ _ kk g2 (fT_rf _ _ _) (fT_rf _ _ _) hRk.2.2.2.1 (fun i => ?_) (fun i => ?_) (fun a i q q2 => rfl) (fun a i q q2 => rfl) (fun _ _ => rfl) (fun _ => rfl) (fun _ => rfl) hRk.2.2.2.2.1
      · by_cases x : i = r
        · rw [if_pos x, x]; exact g3
        · rw [if_neg x]
      · by_cases x : i = r
        · rw [if_pos x, x]; exact g4
        · rw [if_neg x]
