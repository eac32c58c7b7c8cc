/-! RUNNING: a call -/
theorem kc_clrV (n : Nat) {D : Nat} (hD : D ≤ 12) : ∀ d j m u, j + d = 12 → d < m → pVw 78 156 u → zdy u = true → zI u 34 11 = nI D → ∃ v, ce_M_clearVariables_L2 n m u (nI j) = some ((), v) ∧ pVw 78 156 v ∧ fT tgC [2] u v ∧ zN u 79 ≤ zN v 79 ∧ (∀ a i, ¬ a = 79 → zI v a i = zI u a i) ∧ (∀ i, vS 78 v i = if 12 * D + j ≤ i ∧ i < 12 * D + 12 then 0 else vS 78 u i) ∧ (∀ i, vX 78 v i = if 12 * D + j ≤ i ∧ i < 12 * D + 12 then 0 else vX 78 u i) := by
  intro d
  induction d with
  | zero =>
    intro j m u hj hm hw hd h11
    obtain ⟨m, rfl⟩ : ∃ k, m = k + 1 := ⟨m - 1, by omega⟩
    refine ⟨u, ?_, hw, fT_rf _ _ _, Nat.le_refl _, fun _ _ _ => rfl, fun i => by rw [if_neg (by omega)], fun i => by rw [if_neg (by omega)]⟩
    rw [ce_M_clearVariables_L2, if_neg (show ¬ nI j < (12 : Int32) from nI_nlt (b := 12) (by omega) (by omega))]
  | succ d ih =>
    intro j m u hj hm hw hd h11
    obtain ⟨m, rfl⟩ : ∃ k, m = k + 1 := ⟨m - 1, by omega⟩
    obtain ⟨w, e, k1, k2, k3, k4⟩ := v_set n hw hd (i := 12 * D + j) (by omega) (s := 0) (by omega) 0
    have fw : fT tgC [2] u w := fT_V (fT_rf _ _ _) (v := 78) (m := 156) (t := 2) (by unfold vK; omega) k2 (by decide)
    obtain ⟨v, e2, g1, g2, g3, g4, g5, g6⟩ := ih (j + 1) m w (by omega) (by omega) k1 ((fT_dy fw).trans hd) (by rw [k2.1 34 11 (by decide)]; exact h11)
    refine ⟨v, ?_, g1, fT_tr fw g2, Nat.le_trans k2.2.2.2.2.1 g3, fun a i q => by rw [g4 a i q, k2.1 a i q], fun i => ?_, fun i => ?_⟩
    · rw [ce_M_clearVariables_L2, if_pos (show nI j < (12 : Int32) from nI_lt (b := 12) (by omega) (by decide)), h11, (k_idx (a := j) _ rfl).2]
      show zbd (ce_V_set n 78 u (nI (12 * D + j)) (nI 0) 0) _ = _
      rw [zbd_e e, nI_1]
      exact e2
    · rw [g5, k3]
      by_cases z : i = 12 * D + j
      · rw [if_neg (by omega), if_pos z, if_pos (by omega)]; rfl
      · rw [if_neg z]
        by_cases x : 12 * D + (j + 1) ≤ i ∧ i < 12 * D + 12
        · rw [if_pos x, if_pos (by omega)]
        · rw [if_neg x, if_neg (by omega)]
    · rw [g6, k4]
      by_cases z : i = 12 * D + j
      · rw [if_neg (by omega), if_pos z, if_pos (by omega)]
      · rw [if_neg z]
        by_cases x : 12 * D + (j + 1) ≤ i ∧ i < 12 * D + 12
        · rw [if_pos x, if_pos (by omega)]
        · rw [if_neg x, if_neg (by omega)]
theorem kc_arg (n : Nat) {D k b f p : Nat} (hD : D ≤ 12) (hb4 : b ≤ 4) (hk : k + b ≤ 780) (hf : f < 8) (hp : p = 12 ∨ p = 23) {u0 : zMu} (pp : zR u0 34 6 = p) (pz : zpr p = true) (hw75 : pVw 75 780 u0) (c10 : zI u0 (p + 10) f = nI b) (i8 : zI u0 34 8 = nI k) (i11 : zI u0 34 11 = nI D) (hd : zdy u0 = true) : ∀ d i m u, i + d = b → d < m → pVw 78 156 u → (∀ a t, ¬ a = 79 → zI u a t = zI u0 a t) → (∀ t, vS 78 u t = if 12 * D ≤ t ∧ t < 12 * D + i then vS 75 u0 (k + (t - 12 * D)) else vS 78 u0 t) → (∀ t, vX 78 u t = if 12 * D ≤ t ∧ t < 12 * D + i then vX 75 u0 (k + (t - 12 * D)) else vX 78 u0 t) → fT tgC [2] u0 u → zN u0 79 ≤ zN u 79 → ∃ v, ce_M_enter_L130 n m u (nI f) (nI i) = some ((), zsI v 34 13 (zI u0 (p + 9) f)) ∧ pVw 78 156 v ∧ (∀ t, vS 78 v t = if 12 * D ≤ t ∧ t < 12 * D + b then vS 75 u0 (k + (t - 12 * D)) else vS 78 u0 t) ∧ (∀ t, vX 78 v t = if 12 * D ≤ t ∧ t < 12 * D + b then vX 75 u0 (k + (t - 12 * D)) else vX 78 u0 t) ∧ fT tgC [2] u0 v ∧ zN u0 79 ≤ zN v 79 := by
  intro d
  induction d with
  | zero =>
    intro i m u hi hm hw h1 h2 h3 h4 h5
    obtain ⟨m, rfl⟩ : ∃ k, m = k + 1 := ⟨m - 1, by omega⟩
    have e : i = b := by omega
    subst e
    refine ⟨u, ?_, hw, h2, h3, h4, h5⟩
    have ppu : zR u 34 6 = p := (fT_R h4 34 6).trans pp
    rw [ce_M_enter_L130, ppu, pz, zgd_t]
    simp only [zlet]
    rw [zin_nI hf (by decide), zgd_t, zx_nI (show f < 2 ^ 31 by omega), h1 (p + 10) f (by omega), c10, if_neg (nI_nlt (Nat.le_refl _) (by omega)), zgd_t, zgd_t, h1 (p + 9) f (by omega)]
  | succ d ih =>
    intro i m u hi hm hw h1 h2 h3 h4 h5
    obtain ⟨m, rfl⟩ : ∃ k, m = k + 1 := ⟨m - 1, by omega⟩
    have ppu : zR u 34 6 = p := (fT_R h4 34 6).trans pp
    obtain ⟨x1, x2, x3, -⟩ := vw_kT h4 (v := 75) (m := 780) (t := 1) (by unfold vK; omega) (by decide)
    obtain ⟨s, s1, s2⟩ := v_s4 hw75 (k + i)
    obtain ⟨w, e, k1, k2, k3, k4⟩ := v_set n hw ((fT_dy h4).trans hd) (i := 12 * D + i) (by omega) s1 (vX 75 u0 (k + i))
    have fw : fT tgC [2] u w := fT_V (fT_rf _ _ _) (v := 78) (m := 156) (t := 2) (by unfold vK; omega) k2 (by decide)
    obtain ⟨v, e2, g⟩ := ih (i + 1) m w (by omega) (by omega) k1 (fun a t q => by rw [k2.1 a t q]; exact h1 a t q) (fun t => by
      rw [k3]
      by_cases z : t = 12 * D + i
      · rw [if_pos z, if_pos (by omega), z, show 12 * D + i - 12 * D = i by omega, s2]
      · rw [if_neg z, h2]
        by_cases x : 12 * D ≤ t ∧ t < 12 * D + i
        · rw [if_pos x, if_pos (by omega)]
        · rw [if_neg x, if_neg (by omega)]) (fun t => by
      rw [k4]
      by_cases z : t = 12 * D + i
      · rw [if_pos z, if_pos (by omega), z, show 12 * D + i - 12 * D = i by omega]
      · rw [if_neg z, h3]
        by_cases x : 12 * D ≤ t ∧ t < 12 * D + i
        · rw [if_pos x, if_pos (by omega)]
        · rw [if_neg x, if_neg (by omega)]) (fT_tr h4 fw) (Nat.le_trans h5 k2.2.2.2.2.1)
    refine ⟨v, ?_, g⟩
    rw [ce_M_enter_L130, ppu, pz, zgd_t]
    simp only [zlet]
    rw [zin_nI hf (by decide), zgd_t, zx_nI (show f < 2 ^ 31 by omega), h1 (p + 10) f (by omega), c10, if_pos (nI_lt (by omega) (by omega)), h1 34 8 (by decide), i8, nI_add, zbd_e (v_sortAt n (x1 hw75) (j := k + i) (by omega)), h1 34 8 (by decide), i8, nI_add, zbd_e (v_numberAt n (x1 hw75) (j := k + i) (by omega)), h1 34 11 (by decide), i11, (k_idx (a := i) _ rfl).2, x2, x3, s2, zbd_e e, nI_1]
    exact e2
/-- both enter fn f with b values: the reference has counted the step already -/
theorem o_call (n : Nat) (hn : 20000 ≤ n) {C : kC} (P : kPs C) {W : kW} {fr : List Nat} {T t b f r lim : Nat} {ur uc : zMu} (h : kGd C W fr T t ur uc) (hT : T < lim) (hl : lim ≤ 20000) (i14 : zI uc 34 14 = nI lim) (hD : fr.length < 12) (hf : f < cF C) (hb : b ≤ 4) (hbt : b ≤ t) (c10 : zI uc (xp (cX C) + 10) f = nI b) (hr : r < 4000) (i13 : zI uc 34 13 = nI (cM C (r + 1))) (v2 : Int32) : ∃ V vr vc, rf_enters n (zsI ur 0 55 (nI (T + 1))) (nI f) (nI b) (nI (r + 1)) = some ((), vr) ∧ ce_M_enter n uc (nI f) v2 = some ((), vc) ∧ fT tgR tall ur vr ∧ fT tgC tall uc vc ∧ kGd C V ((r + 1) :: fr) (T + 1) (t - b) vr vc ∧ zI vc 34 17 = zI uc 34 17 ∧ zI vc 34 13 = zI uc (xp (cX C) + 9) f ∧ zI vr 30 (fr.length + 1) = nI f ∧ wM V = wM W ∧ wP V = wP W := by
  have t8 := h.t8
  have F8 : cF C ≤ 8 := P.2.2.2.1.1
  obtain ⟨hPp, hOb, hMb, hSh, hRw, hSi, hFn, hCt⟩ := h.2.2.2.2
  obtain ⟨y1, y2, y3, y4, y5, y6⟩ := hCt
  have B0 : kBs C ur uc := h.1
  obtain ⟨pp, pz, p12⟩ := B0.p P
  have fD := h.D
  -- the reference up to its variables
  obtain ⟨u5, hu5⟩ : ∃ u5, zsI (zsI (zsI (zsI (zsI (zsI ur 0 55 (nI (T + 1))) 0 52 (nI (fr.length + 1))) 29 (fr.length + 1) (nI (r + 1))) 30 (fr.length + 1) (nI f)) 0 68 (if zI ur 0 68 < nI (fr.length + 1) then nI (fr.length + 1) else zI ur 0 68)) 0 56 (zI ur 0 56 + 1) = u5 := ⟨_, rfl⟩
  have FA : fT tgR [3, 11] ur u5 := by rw [← hu5]; exact fT_I (fT_I (fT_I (fT_I (fT_I (fT_I (fT_rf _ _ _) _ 11 rfl (by decide)) _ 3 rfl (by decide)) _ 3 rfl (by decide)) _ 3 rfl (by decide)) _ 11 rfl (by decide)) _ 11 rfl (by decide)
  have i5 : ∀ a j, ¬ ((a = 0 ∧ (j = 55 ∨ j = 52 ∨ j = 68 ∨ j = 56)) ∨ ((a = 29 ∨ a = 30) ∧ j = fr.length + 1)) → zI u5 a j = zI ur a j := fun a j q => by rw [← hu5, gI_sI, if_neg (by omega), gI_sI, if_neg (by omega), gI_sI, if_neg (by omega), gI_sI, if_neg (by omega), gI_sI, if_neg (by omega), gI_sI, if_neg (by omega)]
  have l5 : ∀ a j, zL u5 a j = zL ur a j := fun a j => by rw [← hu5]; rfl
  have i51 : zI u5 0 51 = nI t := by rw [i5 0 51 (by omega)]; exact h.tr
  obtain ⟨ua, ea, fa1, fa2, fa3, fa4⟩ := kr_clrV n (b := b) (base := 12 * (fr.length + 1)) (by omega) (nI f) 12 0 n u5 (by omega) (by omega)
  obtain ⟨ub, hub⟩ : ∃ ub, zsI ua 0 51 (nI (t - b)) = ub := ⟨_, rfl⟩
  rw [i51, nI_sub hbt, hub] at ea
  have ub51 : zI ub 0 51 = nI (t - b) := by rw [← hub]; rfl
  have iub : ∀ a j, ¬ (a = 0 ∧ j = 51) → zI ub a j = zI ua a j := fun a j q => by rw [← hub, gI_sI, if_neg q]
  obtain ⟨uv, ev, fv1, fv2, fv3, fv4, fv5⟩ := kr_arg n (b := b) (base := 12 * (fr.length + 1)) (k := t - b) (by omega) hb (by omega) (nI f) (u0 := ub) ub51 b 0 n ub (by omega) (by omega) (fun _ _ _ => rfl) (fun _ _ _ => rfl) (fun t => by rw [if_neg (by omega)]) (fun t => by rw [if_neg (by omega)]) (fT_rf _ _ _)
  have FB : fT tgR [1, 2] u5 uv := fT_tr (fT_tr (fT_mono fa1 (by decide)) (by rw [← hub]; exact fT_I (fT_rf _ _ _) _ 1 rfl (by decide))) (fT_mono fv5 (by decide))
  have FAB : fT tgR [1, 2, 3, 11] ur uv := fT_tr (fT_mono FA (by decide)) (fT_mono FB (by decide))
  have eR0 : rf_enters n (zsI ur 0 55 (nI (T + 1))) (nI f) (nI b) (nI (r + 1)) = rf_enters_L108 n 1 uv (nI f) 0 0 0 := by
    rw [← ev, ← ea]
    unfold rf_enters
    simp only [zlet]
    rw [show zI (zsI ur 0 55 (nI (T + 1))) 0 52 = nI fr.length from by rw [gI_sI, if_neg (by omega)]; exact h.Dr, nI_1, show zI (zsI (zsI ur 0 55 (nI (T + 1))) 0 52 (nI (fr.length + 1))) 0 52 = nI (fr.length + 1) from rfl, zin_nI (show fr.length + 1 < 14 by omega) (by decide), zgd_t, zx_nI (show fr.length + 1 < 2 ^ 31 by omega), show zI (zsI (zsI (zsI ur 0 55 (nI (T + 1))) 0 52 (nI (fr.length + 1))) 29 (fr.length + 1) (nI (r + 1))) 0 52 = nI (fr.length + 1) from rfl, zin_nI (show fr.length + 1 < 14 by omega) (by decide), zgd_t, zx_nI (show fr.length + 1 < 2 ^ 31 by omega)]
    have j68 : zI (zsI (zsI (zsI (zsI ur 0 55 (nI (T + 1))) 0 52 (nI (fr.length + 1))) 29 (fr.length + 1) (nI (r + 1))) 30 (fr.length + 1) (nI f)) 0 68 = zI ur 0 68 := by rw [gI_sI, if_neg (by omega), gI_sI, if_neg (by omega), gI_sI, if_neg (by omega), gI_sI, if_neg (by omega)]
    have j52 : zI (zsI (zsI (zsI (zsI ur 0 55 (nI (T + 1))) 0 52 (nI (fr.length + 1))) 29 (fr.length + 1) (nI (r + 1))) 30 (fr.length + 1) (nI f)) 0 52 = nI (fr.length + 1) := rfl
    rw [j68, j52]
    have e49 : ∀ x : zMu, zsI x 0 56 (zI x 0 56 + 1) = u5 → zI u5 0 52 = nI (fr.length + 1) → rf_enters_J49 n x (nI f) (nI b) = rf_enters_L71 n n u5 (nI f) (nI b) (nI (12 * (fr.length + 1))) (nI 0) := fun x hx h52 => by
      unfold rf_enters_J49
      simp only [zlet]
      rw [hx, h52, show (12 : Int32) * nI (fr.length + 1) = nI (12 * (fr.length + 1)) from nI_mul 12 _]
      rfl
    have h52 : zI u5 0 52 = nI (fr.length + 1) := by rw [← hu5]; rfl
    by_cases z : zI ur 0 68 < nI (fr.length + 1)
    · rw [if_pos z]
      refine e49 _ ?_ h52
      rw [← hu5, if_pos z, show zI (zsI (zsI (zsI (zsI (zsI ur 0 55 (nI (T + 1))) 0 52 (nI (fr.length + 1))) 29 (fr.length + 1) (nI (r + 1))) 30 (fr.length + 1) (nI f)) 0 68 (nI (fr.length + 1))) 0 56 = zI ur 0 56 from by rw [gI_sI, if_neg (by omega), gI_sI, if_neg (by omega), gI_sI, if_neg (by omega), gI_sI, if_neg (by omega), gI_sI, if_neg (by omega)]]
    · sorry
  sorry
