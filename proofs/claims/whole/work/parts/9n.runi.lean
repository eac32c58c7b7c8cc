/-! RUNNING: rows -/
theorem lN_of {x : Int64} {m : Nat} (hm : m < 2 ^ 31) (h0 : ¬ x < lN 0) (h1 : ¬ lN m < x) : ∃ z, z ≤ m ∧ x = lN z := by
  rw [Int64.lt_iff_toInt_lt, lN_toInt (by omega)] at h0
  rw [Int64.lt_iff_toInt_lt, lN_toInt hm] at h1
  refine ⟨x.toInt.toNat, by omega, ?_⟩
  apply Int64.toInt_inj.mp
  rw [lN_toInt (by omega)]
  omega
/-- the reference fills a row's items -/
theorem kr_fill (n r : Nat) (hr : r < 61) : ∀ d j m u, j + d = 50 → d < m → ∃ v, rf_rowOf_L121 n m u (nI r) (nI j) = (zbd (rf_pushes n v 3 ((nI r).toInt64)) fun _ u6 => some ((-1 : Int32), u6)) ∧ fT tgR [8] u v ∧ (∀ a i, ¬ a = 50 → zI v a i = zI u a i) ∧ (∀ a i, ¬ a = 51 → zL v a i = zL u a i) ∧ (∀ i, zI v 50 i = if 50 * r + j ≤ i ∧ i < 50 * r + 50 then 1 else zI u 50 i) ∧ (∀ i, zL v 51 i = if 50 * r + j ≤ i ∧ i < 50 * r + 50 then 0 else zL u 51 i) := by
  intro d
  induction d with
  | zero =>
    intro j m u hj hm
    obtain ⟨m, rfl⟩ : ∃ k, m = k + 1 := ⟨m - 1, by omega⟩
    refine ⟨u, ?_, fT_rf _ _ _, fun _ _ _ => rfl, fun _ _ _ => rfl, fun i => by rw [if_neg (by omega)], fun i => by rw [if_neg (by omega)]⟩
    rw [rf_rowOf_L121, if_neg (show ¬ nI j < (50 : Int32) from nI_nlt (b := 50) (by omega) (by omega))]
  | succ d ih =>
    intro j m u hj hm
    obtain ⟨m, rfl⟩ : ∃ k, m = k + 1 := ⟨m - 1, by omega⟩
    obtain ⟨v, e, f1, f2, f3, f4, f5⟩ := ih (j + 1) m (zsL (zsI u 50 (50 * r + j) 1) 51 (50 * r + j) 0) (by omega) (by omega)
    refine ⟨v, ?_, fT_tr (fT_L (fT_I (fT_rf _ _ _) _ 8 rfl (by decide)) _ 8 rfl (by decide)) f1, fun a i q => ?_, fun a i q => ?_, fun i => ?_, fun i => ?_⟩
    · rw [rf_rowOf_L121, if_pos (show nI j < (50 : Int32) from nI_lt (b := 50) (by omega) (by decide)), show (50 : Int32) * nI r + nI j = nI (50 * r + j) from by rw [show (50 : Int32) * nI r = nI (50 * r) from nI_mul 50 r, nI_add], zin_nI (show 50 * r + j < 3100 by omega) (by decide), zgd_t, zx_nI (show 50 * r + j < 2 ^ 31 by omega), nI_1]
      exact e
    · rw [f2 a i q, gI_sL, gI_sI, if_neg (by omega)]
    · rw [f3 a i q, gL_sL, if_neg (by omega), gL_sI]
    · rw [f4, gI_sL, gI_sI]
      by_cases z : i = 50 * r + j
      · rw [if_neg (by omega), if_pos ⟨rfl, z⟩, if_pos (by omega)]
      · rw [if_neg (show ¬ ((50 : Nat) = 50 ∧ i = 50 * r + j) from fun q => z q.2)]
        by_cases y : 50 * r + (j + 1) ≤ i ∧ i < 50 * r + 50
        · rw [if_pos y, if_pos (by omega)]
        · rw [if_neg y, if_neg (by omega)]
    · rw [f5, gL_sL, gL_sI]
      by_cases z : i = 50 * r + j
      · rw [if_neg (by omega), if_pos ⟨rfl, z⟩, if_pos (by omega)]
      · rw [if_neg (show ¬ ((51 : Nat) = 51 ∧ i = 50 * r + j) from fun q => z q.2)]
        by_cases y : 50 * r + (j + 1) ≤ i ∧ i < 50 * r + 50
        · rw [if_pos y, if_pos (by omega)]
        · rw [if_neg y, if_neg (by omega)]
/-- the class fills a row's items -/
theorem kc_fill (n z U R : Nat) (hU : U + z ≤ 3000) (hz : z ≤ 50) : ∀ d j m u, j + d = z → d < m → pVw 69 3000 u → zdy u = true → zI u 45 4 = nI U → zI u 45 5 = nI R → ∃ v, ce_R_addRow_L46 n m u (nI z) (nI j) = some (nI R, zsI (zsI v 45 4 (nI (U + z))) 45 5 (nI (R + 1))) ∧ pVw 69 3000 v ∧ fT tgC [8] u v ∧ (∀ a i, ¬ a = 70 → zI v a i = zI u a i) ∧ (∀ i, vS 69 v i = if U + j ≤ i ∧ i < U + z then nI 1 else vS 69 u i) ∧ (∀ i, vX 69 v i = if U + j ≤ i ∧ i < U + z then 0 else vX 69 u i) := by
  intro d
  induction d with
  | zero =>
    intro j m u hj hm hw hd h4 h5
    obtain ⟨m, rfl⟩ : ∃ k, m = k + 1 := ⟨m - 1, by omega⟩
    refine ⟨u, ?_, hw, fT_rf _ _ _, fun _ _ _ => rfl, fun i => by rw [if_neg (by omega)], fun i => by rw [if_neg (by omega)]⟩
    rw [ce_R_addRow_L46, if_neg (show ¬ nI j < nI z from nI_nlt (by omega) (by omega)), h4, nI_add]
    show some (zI (zsI u 45 4 (nI (U + z))) 45 5, zsI (zsI u 45 4 (nI (U + z))) 45 5 (zI (zsI u 45 4 (nI (U + z))) 45 5 + 1)) = _
    rw [gI_sI, if_neg (by omega), h5, nI_1]
  | succ d ih =>
    intro j m u hj hm hw hd h4 h5
    obtain ⟨m, rfl⟩ : ∃ k, m = k + 1 := ⟨m - 1, by omega⟩
    obtain ⟨w, e, k1, k2, k3, k4⟩ := v_set n hw hd (i := U + j) (by omega) (s := 1) (by omega) 0
    have fw : fT tgC [8] u w := fT_V (fT_rf _ _ _) (v := 69) (m := 3000) (t := 8) (by unfold vK; omega) k2 k1 (by decide)
    obtain ⟨v, e2, g1, g2, g3, g4, g5⟩ := ih (j + 1) m w (by omega) (by omega) k1 ((fT_dy fw).trans hd) (by rw [k2.1 45 4 (by decide)]; exact h4) (by rw [k2.1 45 5 (by decide)]; exact h5)
    refine ⟨v, ?_, g1, fT_tr fw g2, fun a i q => ?_, fun i => ?_, fun i => ?_⟩
    · rw [ce_R_addRow_L46, if_pos (show nI j < nI z from nI_lt (by omega) (by omega)), h4, nI_add]
      show zbd (ce_V_set n 69 u (nI (U + j)) (nI 1) 0) _ = _
      rw [zbd_e e, nI_1]
      exact e2
    · rw [g3 a i q, k2.1 a i (by omega)]
    · rw [g4, k3]
      by_cases y : i = U + j
      · rw [if_neg (by omega), if_pos y, if_pos (by omega)]
      · rw [if_neg y]
        by_cases x : U + (j + 1) ≤ i ∧ i < U + z
        · rw [if_pos x, if_pos (by omega)]
        · rw [if_neg x, if_neg (by omega)]
    · rw [g5, k4]
      by_cases y : i = U + j
      · rw [if_neg (by omega), if_pos y, if_pos (by omega)]
      · rw [if_neg y]
        by_cases x : U + (j + 1) ≤ i ∧ i < U + z
        · rw [if_pos x, if_pos (by omega)]
        · rw [if_neg x, if_neg (by omega)]
/-- both make a row of z items -/
theorem k_addRow (n : Nat) (hn : 100 ≤ n) {W V : kW} {ur uc : zMu} (h : kRw W ur uc) (hd : zdy uc = true) (hR : wR W < 60) {z : Nat} (hz : z ≤ 50) (hV : V = ((wO W, wR W + 1, wS W, wM W, wP W), W.2)) : ∃ vr vc, rf_rowOf_L121 n n (zsI (zsI (zsI ur 0 59 (nI (wR W + 1))) 48 (wR W) 0) 49 (wR W) (nI z)) (nI (wR W)) (nI 0) = (zbd (rf_pushes n vr 3 ((nI (wR W)).toInt64)) fun _ u6 => some ((-1 : Int32), u6)) ∧ ce_R_addRow n uc (nI z) = some (nI (wR W), vc) ∧ fT tgR [8] ur vr ∧ fT tgC [8] uc vc ∧ kRw V vr vc := by
  subst hV
  obtain ⟨h1, h2, h3, h4, h5, zz, h6, h7⟩ := h
  have hU : kSm zz (wR W) ≤ wR W * 50 := kSm_le _ (fun r hr => (h7 r hr).1)
  obtain ⟨vr, e1, f1, f2, f3, f4, f5⟩ := kr_fill n (wR W) (by omega) 50 0 n (zsI (zsI (zsI ur 0 59 (nI (wR W + 1))) 48 (wR W) 0) 49 (wR W) (nI z)) (by omega) (by omega)
  obtain ⟨u4, hu4⟩ : ∃ u4, zsI (zsI (zsI uc 46 (wR W) 0) 47 (wR W) (nI z)) 48 (wR W) (nI (kSm zz (wR W))) = u4 := ⟨_, rfl⟩
  have fu4 : fT tgC [8] uc u4 := by subst hu4; exact fT_I (fT_I (fT_I (fT_rf _ _ _) _ 8 rfl (by decide)) _ 8 rfl (by decide)) _ 8 rfl (by decide)
  have w4 : pVw 69 3000 u4 ∧ (∀ j, vS 69 u4 j = vS 69 uc j) ∧ (∀ j, vX 69 u4 j = vX 69 uc j) := by
    subst hu4
    exact ⟨pVw_keep h5 rfl (fun _ => rfl) rfl rfl, fun _ => rfl, fun _ => rfl⟩
  have i4 : ∀ a i, ¬ (46 ≤ a ∧ a ≤ 48 ∧ i = wR W) → zI u4 a i = zI uc a i := by
    intro a i q
    subst hu4
    rw [gI_sI, if_neg (by omega), gI_sI, if_neg (by omega), gI_sI, if_neg (by omega)]
  obtain ⟨vc, e2, g1, g2, g3, g4, g5⟩ := kc_fill n z (kSm zz (wR W)) (wR W) (by omega) hz z 0 n u4 (by omega) (by omega) w4.1 ((fT_dy fu4).trans hd) (by rw [i4 45 4 (by omega)]; exact h6) (by rw [i4 45 5 (by omega)]; exact h3)
  refine ⟨vr, zsI (zsI vc 45 4 (nI (kSm zz (wR W) + z))) 45 5 (nI (wR W + 1)), e1, ?_, fT_tr (fT_I (fT_I (fT_I (fT_rf _ _ _) _ 8 rfl (by decide)) _ 8 rfl (by decide)) _ 8 rfl (by decide)) f1, fT_I (fT_I (fT_tr fu4 g2) _ 8 rfl (by decide)) _ 8 rfl (by decide), by show wR W + 1 ≤ 60; omega, ?_, rfl, ?_, ?_, fun r => if r = wR W then z else zz r, ?_, fun r hr => ?_⟩
  · unfold ce_R_addRow
    rw [h3, if_pos (show nI (wR W) < (60 : Int32) from nI_lt (b := 60) hR (by decide)), zin_nI hR (by decide), zgd_t, zx_nI (show wR W < 2 ^ 31 by omega)]
    show zgd (zin (zI (zsI uc 46 (wR W) 0) 45 5) 60) (zlet (zsI (zsI uc 46 (wR W) 0) 47 (zx (zI (zsI uc 46 (wR W) 0) 45 5)) (nI z)) fun u3 => zgd (zin (zI u3 45 5) 60) (zlet (zsI u3 48 (zx (zI u3 45 5)) (zI u3 45 4)) fun u4 => ce_R_addRow_L46 n n u4 (nI z) 0)) = _
    have j1 : zI (zsI uc 46 (wR W) 0) 45 5 = nI (wR W) := h3
    rw [j1, zin_nI hR (by decide), zgd_t, zx_nI (show wR W < 2 ^ 31 by omega)]
    show zgd (zin (zI (zsI (zsI uc 46 (wR W) 0) 47 (wR W) (nI z)) 45 5) 60) (zlet (zsI (zsI (zsI uc 46 (wR W) 0) 47 (wR W) (nI z)) 48 (zx (zI (zsI (zsI uc 46 (wR W) 0) 47 (wR W) (nI z)) 45 5)) (zI (zsI (zsI uc 46 (wR W) 0) 47 (wR W) (nI z)) 45 4)) fun u4 => ce_R_addRow_L46 n n u4 (nI z) 0) = _
    have j2 : zI (zsI (zsI uc 46 (wR W) 0) 47 (wR W) (nI z)) 45 5 = nI (wR W) := h3
    have j3 : zI (zsI (zsI uc 46 (wR W) 0) 47 (wR W) (nI z)) 45 4 = nI (kSm zz (wR W)) := h6
    rw [j2, j3, zin_nI hR (by decide), zgd_t, zx_nI (show wR W < 2 ^ 31 by omega)]
    show ce_R_addRow_L46 n n (zsI (zsI (zsI uc 46 (wR W) 0) 47 (wR W) (nI z)) 48 (wR W) (nI (kSm zz (wR W)))) (nI z) (nI 0) = _
    rw [hu4]
    exact e2
  · rw [f2 0 59 (by decide), gI_sI, if_neg (by omega), gI_sI, if_neg (by omega), gI_sI, if_pos ⟨rfl, rfl⟩]; rfl
  · rw [gI_sI, if_neg (by omega), gI_sI, if_neg (by omega), g3 45 6 (by decide), i4 45 6 (by omega), h4, f2 0 67 (by decide), gI_sI, if_neg (by omega), gI_sI, if_neg (by omega), gI_sI, if_neg (by omega)]
  · exact pVw_keep g1 rfl (fun _ => rfl) rfl rfl
  · rw [gI_sI, if_neg (by omega), gI_sI, if_pos ⟨rfl, rfl⟩]
    show nI (kSm zz (wR W) + z) = nI (kSm (fun r => if r = wR W then z else zz r) (wR W) + (if wR W = wR W then z else zz (wR W)))
    rw [if_pos rfl, kSm_cg (f := fun r => if r = wR W then z else zz r) (g := zz) (wR W) (fun j hj => if_neg (by omega))]
  · have hr : r < wR W + 1 := hr
    have kk : ∀ q, q ≤ wR W → kSm (fun r => if r = wR W then z else zz r) q = kSm zz q := fun q hq => kSm_cg q (fun j hj => if_neg (by omega))
    rw [kk r (by omega)]
    have hc : ∀ a i, ¬ a = 45 → ¬ a = 70 → zI (zsI (zsI vc 45 4 (nI (kSm zz (wR W) + z))) 45 5 (nI (wR W + 1))) a i = zI u4 a i := fun a i q q2 => by rw [gI_sI, if_neg (by omega), gI_sI, if_neg (by omega), g3 a i q2]
    have hS : ∀ i, vS 69 (zsI (zsI vc 45 4 (nI (kSm zz (wR W) + z))) 45 5 (nI (wR W + 1))) i = vS 69 vc i := fun _ => rfl
    have hX : ∀ i, vX 69 (zsI (zsI vc 45 4 (nI (kSm zz (wR W) + z))) 45 5 (nI (wR W + 1))) i = vX 69 vc i := fun _ => rfl
    simp only [hc 46 r (by decide) (by decide), hc 47 r (by decide) (by decide), hc 48 r (by decide) (by decide), hS, hX, g4, g5, f4, f5, w4.2.1, w4.2.2]
    rw [f2 48 r (by decide), f2 49 r (by decide)]
    by_cases e : r = wR W
    · subst e
      subst hu4
      refine ⟨by rw [if_pos rfl]; exact hz, ⟨0, by omega, ?_, ?_⟩, ?_, ?_, ?_, fun j hj => ?_⟩
      · rw [gI_sI, if_neg (by omega), gI_sI, if_pos ⟨rfl, rfl⟩]; rfl
      · rw [gI_sI, if_neg (by omega), gI_sI, if_neg (by omega), gI_sI, if_pos ⟨rfl, rfl⟩]; rfl
      · rw [gI_sI, if_pos ⟨rfl, rfl⟩, if_pos rfl]
      · rw [gI_sI, if_neg (by omega), gI_sI, if_pos ⟨rfl, rfl⟩, if_pos rfl]
      · rw [gI_sI, if_pos ⟨rfl, rfl⟩]
      · rw [if_pos rfl] at hj
        rw [if_pos (by omega), if_pos (by omega), if_pos (by omega), if_pos (by omega)]
        exact vR_N (a := 0) (by omega) _ _
    · obtain ⟨a1, ⟨k, a2, a3, a4⟩, a5, a6, a7, a8⟩ := h7 r (by omega)
      rw [if_neg e, i4 46 r (by omega), i4 47 r (by omega), i4 48 r (by omega)]
      refine ⟨a1, ⟨k, a2, ?_, a4⟩, ?_, a6, a7, fun j hj => ?_⟩
      · rw [gI_sI, if_neg (by omega), gI_sI, if_neg (by omega), gI_sI, if_neg (by omega)]; exact a3
      · rw [gI_sI, if_neg (by omega), gI_sI, if_neg (by omega), gI_sI, if_neg (by omega)]; exact a5
      · have m1 : kSm zz r + zz r ≤ kSm zz (wR W) := kSm_mono (f := zz) (a := r + 1) (wR W) (by omega)
        rw [if_neg (by omega), if_neg (by omega), if_neg (by omega), if_neg (by omega), gI_sI, if_neg (by omega), gI_sI, if_neg (by omega), gI_sI, if_neg (by omega), gL_sI, gL_sI, gL_sI]
        exact vR_mono (a8 j hj) (Nat.le_refl _) (Nat.le_succ _)
