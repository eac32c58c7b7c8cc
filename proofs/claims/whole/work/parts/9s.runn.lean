/-! RUNNING: sums -/
theorem c_sort2 (n : Nat) (u : zMu) (x : Int64) : (isWh x ∧ ce_M_sortOf n u x = some (1, u)) ∨ (¬ isWh x ∧ ce_M_sortOf n u x = some (2, u)) := by
  unfold ce_M_sortOf isWh
  by_cases a : lg_cmp x (-1073741824) < 0
  · exact Or.inr ⟨fun q => q.1 a, by rw [if_pos a]⟩
  · by_cases b : 0 < lg_cmp x 1073741823
    · exact Or.inr ⟨fun q => q.2 b, by rw [if_neg a, if_pos b]⟩
    · exact Or.inl ⟨⟨a, b⟩, by rw [if_neg a, if_neg b]⟩
/-- a site's count and what it gave -/
theorem kSi_sum {F S : Nat} {ub : zMu} {W : kW} {ur uc : zMu} (h : kSi F S ub W ur uc) {s : Nat} (k3 : zI ub 19 s = nI 3) (d : Int32) : kSi F S ub W (zsI (zsI ur 52 s (zI ur 52 s + 1)) 54 s (zI ur 54 s ||| d)) (zsI (zsI uc 50 s (zI uc 50 s + 1)) 54 s (zI uc 54 s ||| d)) := by
  obtain ⟨h1, h2, h3, h4⟩ := h
  have ir : ∀ a i, ¬ ((a = 52 ∨ a = 54) ∧ i = s) → zI (zsI (zsI ur 52 s (zI ur 52 s + 1)) 54 s (zI ur 54 s ||| d)) a i = zI ur a i := fun a i q => by rw [gI_sI, if_neg (by omega), gI_sI, if_neg (by omega)]
  have ic : ∀ a i, ¬ ((a = 50 ∨ a = 54) ∧ i = s) → zI (zsI (zsI uc 50 s (zI uc 50 s + 1)) 54 s (zI uc 54 s ||| d)) a i = zI uc a i := fun a i q => by rw [gI_sI, if_neg (by omega), gI_sI, if_neg (by omega)]
  refine ⟨?_, ?_, ?_, fun s' hs' => ?_⟩
  · rw [ir 0 62 (by omega), ic 49 9 (by omega)]; exact h1
  · rw [ir 0 63 (by omega), ic 49 10 (by omega)]; exact h2
  · rw [ir 0 64 (by omega), ic 49 11 (by omega)]; exact h3
  · by_cases e : s' = s
    · subst e
      obtain ⟨g1, g2, g3, g4, g, g5, g6, g7, g8, g9⟩ := h4 s' hs'
      refine ⟨?_, ?_, fun q => ⟨?_, ?_, ?_, ?_⟩, fun q => absurd k3 q, g, g5, ?_, ?_, g8, fun q => absurd (q.symm.trans k3) (by decide)⟩
      · rw [gI_sI, if_neg (by omega), gI_sI, if_pos ⟨rfl, rfl⟩, gI_sI, if_neg (by omega), gI_sI, if_pos ⟨rfl, rfl⟩, g1]
      · rw [ir 53 _ (by omega), ic 51 _ (by omega)]; exact g2
      · rw [gI_sI, if_pos ⟨rfl, rfl⟩, gI_sI, if_pos ⟨rfl, rfl⟩, (g3 k3).1]
      · rw [ic 52 _ (by omega)]; exact (g3 k3).2.1
      · rw [ic 53 _ (by omega)]; exact (g3 k3).2.2.1
      · rw [ir 58 _ (by omega)]; exact (g3 k3).2.2.2
      · rw [ir 59 _ (by omega)]; exact g6
      · rw [ic 58 _ (by omega)]; exact g7
    · exact kS1_k (h4 s' hs') (fun a j x y q => ir a j (by omega)) (fun a j x y q => ic a j (by omega))
theorem o_sum (n : Nat) (hn : 100 ≤ n) {C : kC} (P : kPs C) {W : kW} {fr : List Nat} {T k cc s b c : Nat} {ur uc : zMu} (h : kGd C W fr T (k + 2) ur uc) (hs : s < cS C) (k3 : zI (cb C) 19 s = nI 3) (hb : (b = 43 ∧ c = 7) ∨ (b = 45 ∧ c = 8) ∨ (b = 42 ∧ c = 9)) (v2 : Int32) : Rp (rf_sums n ur (nI s) (nI b) v2) (ce_M_calculate n uc (nI c) (nI s) v2) (kQ C fr T (k + 1) cc W ur uc) := by
  have t8 := h.t8
  have h0 := h.v (show k < k + 2 by omega)
  have h1 := h.v (show k + 1 < k + 2 by omega)
  have S80 : cS C ≤ 80 := P.2.2.2.2.1.1
  obtain ⟨hPp, hOb, hMb, hSh, hRw, hSi, hFn, hCt⟩ := h.2.2.2.2
  unfold rf_sums
  rw [h.tr, show nI (k + 2) - 1 = nI (k + 1) from nI_pred _]
  obtain ⟨vr, ev, i51, i27, l31, fr1, iO, lO⟩ := pop_r h (k + 1)
  obtain ⟨uk, ek, k8, p1, p2, p3, fc1, kd⟩ := pop_c P h k
  have B : kBs C vr uk := kBs.tr h.1 fr1 fc1 (by decide)
  obtain ⟨pp, pz, p12⟩ := B.p P
  refine rp_ll ?_
  rw [ev, i51, nI_pred, zx_nI (show k < 2 ^ 31 by omega), zx_nI (show k + 1 < 2 ^ 31 by omega), i27, i27, l31, l31, zbd_i]
  unfold ce_M_calculate
  rw [h.tc, show nI (k + 2) - 2 = nI k from nI_sub (a := k + 2) (b := 2) (by omega), ek]
  refine rp_lg (zin_nI (by omega) (by decide)) (rp_rl ?_)
  rw [k8]
  rcases c_isNum n p1 (j := k) (by omega) (by rw [p2]; exact h0) with ⟨a, bb, e⟩ | ⟨a, e⟩
  · refine rp_r e (rp_rf (by decide) ?_)
    rw [k8, nI_1]
    rcases c_isNum n p1 (j := k + 1) (by omega) (by rw [p2]; exact h1) with ⟨a', bb', e'⟩ | ⟨a', e'⟩
    · refine rp_lt a' (rp_lg (zin_nI (by omega) (by decide)) (rp_lt a (rp_lg (zin_nI (by omega) (by decide)) (rp_ll (rp_lg (zin_nI (by omega) (by decide)) (rp_ll (rp_r e' (rp_rf (by decide) ?_))))))))
      rw [pp]
      refine rp_rg pz (rp_rl (rp_r (ck_isSite n (F := cS C) (by rw [B.c (by omega) (by omega)]; exact P.2.2.2.2.1.2.2) (by omega) hs) (rp_rf (by decide) ?_)))
      rw [k8]
      refine rp_r (v_numberAt n p1 (j := k) (by omega)) ?_
      rw [k8, nI_1]
      refine rp_r (v_numberAt n p1 (j := k + 1) (by omega)) ?_
      rw [p3, p3, bb, bb']
      -- the result x
      obtain ⟨x, ex1, ex2⟩ : ∃ x, (if nI b = 43 then rf_sums_J102 n vr (nI s) (zL ur 31 k + zL ur 31 (k + 1)) else if nI b = 45 then rf_sums_J102 n vr (nI s) (zL ur 31 k - zL ur 31 (k + 1)) else rf_sums_J102 n vr (nI s) (zL ur 31 k * zL ur 31 (k + 1))) = rf_sums_J102 n vr (nI s) x ∧ ce_M_resultOf n uk (nI c) (zL ur 31 k) (zL ur 31 (k + 1)) = some (x, uk) := by
        unfold ce_M_resultOf
        rcases hb with ⟨rfl, rfl⟩ | ⟨rfl, rfl⟩ | ⟨rfl, rfl⟩
        · exact ⟨_, by rw [if_pos (show nI 43 = 43 from rfl)], by rw [if_pos (show nI 7 = 7 from rfl)]⟩
        · exact ⟨_, by rw [if_neg (show ¬ nI 45 = 43 from by decide), if_pos (show nI 45 = 45 from rfl)], by rw [if_neg (show ¬ nI 8 = 7 from by decide), if_pos (show nI 8 = 8 from rfl)]⟩
        · exact ⟨_, by rw [if_neg (show ¬ nI 42 = 43 from by decide), if_neg (show ¬ nI 42 = 45 from by decide)], by rw [if_neg (show ¬ nI 9 = 7 from by decide), if_neg (show ¬ nI 9 = 8 from by decide)]⟩
      rw [ex1]
      refine rp_r ex2 ?_
      -- the sort d of x
      obtain ⟨d, hd, es, ew, hv⟩ : ∃ d, (d = 1 ∨ d = 2) ∧ ce_M_sortOf n uk x = some (nI d, uk) ∧ (∀ u, rf_isWhole n u x = some (if d = 1 then 1 else 0, u)) ∧ ∀ nO nR, vR nO nR (nI 1) x (nI d) x := by
        rcases c_sort2 n uk x with ⟨w, q⟩ | ⟨w, q⟩
        · refine ⟨1, Or.inl rfl, q, fun u => ?_, fun _ _ => Or.inr (Or.inl ⟨rfl, rfl, Or.inl ⟨w, rfl⟩⟩)⟩
          rcases r_isWhole n u x with ⟨w', q'⟩ | ⟨w', q'⟩
          · rw [if_pos rfl]; exact q'
          · exact absurd w w'
        · refine ⟨2, Or.inr rfl, q, fun u => ?_, fun _ _ => Or.inr (Or.inl ⟨rfl, rfl, Or.inr ⟨w, rfl⟩⟩)⟩
          rcases r_isWhole n u x with ⟨w', q'⟩ | ⟨w', q'⟩
          · exact absurd w' w
          · rw [if_neg (by decide)]; exact q'
      refine rp_r es ?_
      obtain ⟨w, e3, f3, g1, g2, g3, g4⟩ := c_push n p1 k8 kd (by omega) (s := d) (by omega) x
      refine rp_r e3 ?_
      -- both pictures behind the push
      obtain ⟨u1, hu1⟩ : ∃ u1, zsL vr 31 k x = u1 := ⟨_, rfl⟩
      have F1 : fT tgR [1] ur u1 := by subst hu1; exact fT_L fr1 _ 1 rfl (by decide)
      have F2 : fT tgC [1] uc w := fT_tr fc1 f3
      have st : kSt (wO W) (wR W) (k + 1) u1 w := by
        refine kSt_mk h.2.1 (by omega) (by omega) ?_ g1 g2 (fun j hj => ?_) (fun j hj => ?_) (fun j hj => ?_) (fun j hj => ?_) ?_
        · subst hu1; rw [gI_sL]; exact i51
        · subst hu1; rw [gI_sL, i27]
        · subst hu1; rw [gL_sL, if_neg (by omega), l31]
        · rw [g3, if_neg (by omega), p2]
        · rw [g4, if_neg (by omega), p3]
        · subst hu1; rw [g3, if_pos rfl, g4, if_pos rfl, gI_sL, i27, a, gL_sL, if_pos ⟨rfl, rfl⟩]; exact hv _ _
      have hSi1 := kSi_sum (kSi_k hSi F1 F2 (by decide)) k3 (nI d)
      have hFn1 := kFn_k hFn F1 F2 (by decide)
      obtain ⟨u3, hu3⟩ : ∃ u3, zsI (zsI u1 52 s (zI u1 52 s + 1)) 54 s (zI u1 54 s ||| nI d) = u3 := ⟨_, rfl⟩
      obtain ⟨w3, hw3⟩ : ∃ w3, zsI (zsI w 50 s (zI w 50 s + 1)) 54 s (zI w 54 s ||| nI d) = w3 := ⟨_, rfl⟩
      rw [hu3, hw3] at hSi1
      have F3 : fT tgR [9] u1 u3 := by subst hu3; exact fT_I (fT_I (fT_rf _ _ _) _ 9 rfl (by decide)) _ 9 rfl (by decide)
      have F4 : fT tgC [9] w w3 := by subst hw3; exact fT_I (fT_I (fT_rf _ _ _) _ 9 rfl (by decide)) _ 9 rfl (by decide)
      have eR : rf_sums_J102 n vr (nI s) x = (if d = 1 then some (-1, u3) else if 0 < zI u3 59 s then (zbd (rf_leaves n u3 (nI s)) fun _ u5 => some ((-1 : Int32), u5)) else some (-1, u3)) := by
        unfold rf_sums_J102
        rw [i51, nI_pred, zin_nI (show k < 2200 by omega) (by decide), zgd_t, zx_nI (show k < 2 ^ 31 by omega), hu1]
        show zgd (zin (nI s) 81) (zgd (zin (nI s) 81) (zlet (zsI u1 52 (zx (nI s)) ((zI u1 52 (zx (nI s))) + 1)) fun u2 => zbd (rf_isWhole n u2 x) fun r3 u4 => zgd (zin (nI s) 81) (if r3 = 0 then rf_sums_J155 n u4 (nI s) r3 (nI s) (zI u4 54 (zx (nI s))) 2 else rf_sums_J155 n u4 (nI s) r3 (nI s) (zI u4 54 (zx (nI s))) 1))) = _
        rw [zin_nI (show s < 81 by omega) (by decide), zgd_t, zgd_t, zx_nI (show s < 2 ^ 31 by omega)]
        show zbd (rf_isWhole n (zsI u1 52 s (zI u1 52 s + 1)) x) _ = _
        rw [zbd_e (ew _), zgd_t]
        have i54 : zI (zsI u1 52 s (zI u1 52 s + 1)) 54 s = zI u1 54 s := by rw [gI_sI, if_neg (by omega)]
        rw [i54]
        unfold rf_sums_J155
        rw [zin_nI (show s < 81 by omega) (by decide), zgd_t, zgd_t, zx_nI (show s < 2 ^ 31 by omega)]
        rcases hd with rfl | rfl
        · rw [if_pos rfl, if_pos rfl, if_neg (show ¬ (1 : Int32) = 0 from by decide)]
          exact congrArg (fun u => some ((-1 : Int32), u)) hu3
        · rw [if_neg (show ¬ (2 : Nat) = 1 from by decide), if_neg (show ¬ (2 : Nat) = 1 from by decide), if_pos rfl]
          show (if (0 : Int32) = 0 then (zgd true (if 0 < zI (zsI (zsI u1 52 s (zI u1 52 s + 1)) 54 s (zI u1 54 s ||| nI 2)) 59 s then (zbd (rf_leaves n (zsI (zsI u1 52 s (zI u1 52 s + 1)) 54 s (zI u1 54 s ||| nI 2)) (nI s)) fun _ u5 => some ((-1 : Int32), u5)) else some (-1, zsI (zsI u1 52 s (zI u1 52 s + 1)) 54 s (zI u1 54 s ||| nI 2)))) else some (-1, zsI (zsI u1 52 s (zI u1 52 s + 1)) 54 s (zI u1 54 s ||| nI 2))) = _
          rw [if_pos rfl, zgd_t, hu3]
      have eM : ce_T_meetSum n w (nI s) (nI d) = some ((), w3) := by
        unfold ce_T_meetSum
        rw [zin_nI (show s < 80 by omega) (by decide), zgd_t, zgd_t, zx_nI (show s < 2 ^ 31 by omega)]
        show some ((), zsI (zsI w 50 s (zI w 50 s + 1)) 54 s (zI (zsI w 50 s (zI w 50 s + 1)) 54 s ||| nI d)) = _
        rw [gI_sI, if_neg (by omega), hw3]
      rw [eR]
      refine rp_r eM ?_
      have fin : ∀ (V : kW) (ur' uc' : zMu), fT tgR [9, 10] u3 ur' → fT tgC [9, 10] w3 uc' → kSi (cF C) (cS C) (cb C) V ur' uc' → kFn (cF C) V ur' uc' → V.1 = W.1 → V.2.1 = W.2.1 → V.2.2.1 = W.2.2.1 → V.2.2.2.1 = W.2.2.2.1 → kQ C fr T (k + 1) cc W ur uc (-1) ur' () uc' := by
        intro V ur' uc' q1 q2 q3 q4 e1 e2 e3 e4
        have hr : fT tgR [1, 9, 10] ur ur' := fT_tr (fT_mono F1 (by decide)) (fT_tr (fT_mono F3 (by decide)) (fT_mono q1 (by decide)))
        have hc : fT tgC [1, 9, 10] uc uc' := fT_tr (fT_mono F2 (by decide)) (fT_tr (fT_mono F4 (by decide)) (fT_mono q2 (by decide)))
        have hr9 : fT tgR [9, 10] u1 ur' := fT_tr (fT_mono F3 (by decide)) q1
        have hc9 : fT tgC [9, 10] w uc' := fT_tr (fT_mono F4 (by decide)) q2
        obtain ⟨V1, V2, V3, V4, V5⟩ := V
        obtain ⟨W1, W2, W3, W4, W5⟩ := W
        cases e1; cases e2; cases e3; cases e4
        exact kQ_g h hr hc (by decide) (by decide) (by decide) (by decide) (V := (V1, V2, V3, V4, V5)) (Nat.le_refl _) (Nat.le_refl _) (Nat.le_add_right _ _) (kSt_k st hr9 hc9 (by decide)) ⟨kPp_k hPp hr hc (by decide), kOb_k hOb hr hc (by decide), kMb_k hMb hr hc (by decide), kSh_k hSh hr hc (by decide), kRw_k hRw hr hc (by decide), q3, q4, kCt_k hCt hr hc (by decide)⟩
      have hFn3 := kFn_k hFn1 F3 F4 (by decide)
      rcases hd with rfl | rfl
      · rw [if_pos rfl]
        exact rp_rf (by decide) (rp_end (fin W u3 w3 (fT_rf _ _ _) (fT_rf _ _ _) hSi1 hFn3 rfl rfl rfl rfl))
      · rw [if_neg (by decide)]
        refine rp_rt rfl ?_
        obtain ⟨g, g5, g6, g7, g8, g9⟩ := (hSi1.2.2.2 s hs).2.2.2.2
        have eg : ce_T_hasGuess n w3 (nI s) = some (if 0 < g then 1 else 0, w3) := by
          unfold ce_T_hasGuess
          rw [zin_nI (show s < 80 by omega) (by decide), zgd_t, zx_nI (show s < 2 ^ 31 by omega), g7]
          by_cases z : 0 < g
          · rw [if_pos (show (0 : Int32) < nI g from nI_lt (a := 0) z (by omega)), if_pos z]
          · rw [if_neg (show ¬ (0 : Int32) < nI g from nI_nlt (a := 0) (by omega) (by decide)), if_neg z]
        refine rp_r eg ?_
        rw [g6]
        by_cases z : 0 < g
        · obtain ⟨-, f, hf, ef, em⟩ := g8 z
          have B3 : kBs C u3 w3 := kBs.tr h.1 (fT_tr (fT_mono F1 (by decide)) (fT_mono F3 (by decide)) : fT tgR [1, 9] ur u3) (fT_tr (fT_mono F2 (by decide)) (fT_mono F4 (by decide))) (by decide)
          obtain ⟨xr, xc, y1, y2, y3, y4, y5, y6⟩ := k_leave n hn P B3 hSi1 hFn3 hs hf ef em
          refine rp_lt (show (0 : Int32) < nI g from nI_lt (a := 0) z (by omega)) (rp_l y1 ?_)
          rw [if_pos z, if_neg (show ¬ (1 : Int32) = 0 from by decide), zbd_u]
          exact rp_eq rfl y2 (fin (wSF W f 0) xr xc y3 y4 y5 y6 rfl rfl rfl rfl)
        · refine rp_lf (show ¬ (0 : Int32) < nI g from nI_nlt (a := 0) (by omega) (by decide)) ?_
          rw [if_neg z, if_pos rfl]
          exact rp_end (fin W u3 w3 (fT_rf _ _ _) (fT_rf _ _ _) hSi1 hFn3 rfl rfl rfl rfl)
    · refine rp_lf a' (rp_r e' (rp_rt rfl ?_))
      rw [zbd_u]
      exact kQ_f n h fr1 fc1 1 v2
  · refine rp_r e (rp_rt rfl ?_)
    rw [zbd_u]
    by_cases z : zI ur 27 (k + 1) = 1
    · exact rp_lt z (rp_lg (zin_nI (by omega) (by decide)) (rp_lf a (kQ_f n h fr1 fc1 1 v2)))
    · exact rp_lf z (kQ_f n h fr1 fc1 1 v2)
