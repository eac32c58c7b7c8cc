/-! RUNNING: a call -/
theorem kc_clrV (n : Nat) {D : Nat} (hD : D ≤ 12) : ∀ d j m u, j + d = 12 → d < m → pVw 78 156 u → zdy u = true → zI u 34 11 = nI D → ∃ v, ce_M_clearVariables_L2 n m u (nI j) = some ((), v) ∧ pVw 78 156 v ∧ fT tgC [2] u v ∧ zN u 79 ≤ zN v 79 ∧ (∀ a i, ¬ a = 79 → zI v a i = zI u a i) ∧ (∀ i, vS 78 v i = if 12 * D + j ≤ i ∧ i < 12 * D + 12 then 0 else vS 78 u i) ∧ (∀ i, vX 78 v i = if 12 * D + j ≤ i ∧ i < 12 * D + 12 then 0 else vX 78 u i) := by
  intro d
  induction d with
  | zero =>
    intro j m u hj hm hw hd h11
    obtain ⟨m, rfl⟩ : ∃ k, m = k + 1 := ⟨m - 1, by omega⟩
    refine ⟨u, ?_, hw, fT_rf _ _ _, Nat.le_refl _, fun _ _ _ => rfl, fun i => by rw [if_neg (by omega)], fun i => by rw [if_neg (by omega)]⟩
    rw [ce_M_clearVariables_L2, if_neg (show ¬ nI j < (12 : Int32) from nI_nlt (b := 12) (by omega) (by omega))]
  | succ d ih =>
    intro j m u hj hm hw hd h11
    obtain ⟨m, rfl⟩ : ∃ k, m = k + 1 := ⟨m - 1, by omega⟩
    obtain ⟨w, e, k1, k2, k3, k4⟩ := v_set n hw hd (i := 12 * D + j) (by omega) (s := 0) (by omega) 0
    have fw : fT tgC [2] u w := fT_V (fT_rf _ _ _) (v := 78) (m := 156) (t := 2) (by unfold vK; omega) k2 k1 (by decide)
    obtain ⟨v, e2, g1, g2, g3, g4, g5, g6⟩ := ih (j + 1) m w (by omega) (by omega) k1 ((fT_dy fw).trans hd) (by rw [k2.1 34 11 (by decide)]; exact h11)
    refine ⟨v, ?_, g1, fT_tr fw g2, Nat.le_trans k2.2.2.2.2.1 g3, fun a i q => by rw [g4 a i q, k2.1 a i q], fun i => ?_, fun i => ?_⟩
    · rw [ce_M_clearVariables_L2, if_pos (show nI j < (12 : Int32) from nI_lt (b := 12) (by omega) (by decide)), h11, (k_idx (a := j) _ rfl).2]
      show zbd (ce_V_set n 78 u (nI (12 * D + j)) (nI 0) 0) _ = _
      rw [zbd_e e, nI_1]
      exact e2
    · rw [g5, k3]
      by_cases z : i = 12 * D + j
      · rw [if_neg (by omega), if_pos z, if_pos (by omega)]; rfl
      · rw [if_neg z]
        by_cases x : 12 * D + (j + 1) ≤ i ∧ i < 12 * D + 12
        · rw [if_pos x, if_pos (by omega)]
        · rw [if_neg x, if_neg (by omega)]
    · rw [g6, k4]
      by_cases z : i = 12 * D + j
      · rw [if_neg (by omega), if_pos z, if_pos (by omega)]
      · rw [if_neg z]
        by_cases x : 12 * D + (j + 1) ≤ i ∧ i < 12 * D + 12
        · rw [if_pos x, if_pos (by omega)]
        · rw [if_neg x, if_neg (by omega)]
theorem kc_arg (n : Nat) {D k b f p : Nat} (hD : D ≤ 12) (hb4 : b ≤ 4) (hk : k + b ≤ 780) (hf : f < 8) (hp : p = 12 ∨ p = 23) {u0 : zMu} (pp : zR u0 34 6 = p) (pz : zpr p = true) (hw75 : pVw 75 780 u0) (c10 : zI u0 (p + 10) f = nI b) (i8 : zI u0 34 8 = nI k) (i11 : zI u0 34 11 = nI D) (hd : zdy u0 = true) : ∀ d i m u, i + d = b → d < m → pVw 78 156 u → (∀ a t, ¬ a = 79 → zI u a t = zI u0 a t) → (∀ t, vS 78 u t = if 12 * D ≤ t ∧ t < 12 * D + i then vS 75 u0 (k + (t - 12 * D)) else vS 78 u0 t) → (∀ t, vX 78 u t = if 12 * D ≤ t ∧ t < 12 * D + i then vX 75 u0 (k + (t - 12 * D)) else vX 78 u0 t) → fT tgC [2] u0 u → zN u0 79 ≤ zN u 79 → ∃ v, ce_M_enter_L130 n m u (nI f) (nI i) = some ((), zsI v 34 13 (zI u0 (p + 9) f)) ∧ pVw 78 156 v ∧ (∀ t, vS 78 v t = if 12 * D ≤ t ∧ t < 12 * D + b then vS 75 u0 (k + (t - 12 * D)) else vS 78 u0 t) ∧ (∀ t, vX 78 v t = if 12 * D ≤ t ∧ t < 12 * D + b then vX 75 u0 (k + (t - 12 * D)) else vX 78 u0 t) ∧ fT tgC [2] u0 v ∧ zN u0 79 ≤ zN v 79 := by
  intro d
  induction d with
  | zero =>
    intro i m u hi hm hw h1 h2 h3 h4 h5
    obtain ⟨m, rfl⟩ : ∃ k, m = k + 1 := ⟨m - 1, by omega⟩
    have e : i = b := by omega
    subst e
    refine ⟨u, ?_, hw, h2, h3, h4, h5⟩
    have ppu : zR u 34 6 = p := (fT_R h4 34 6).trans pp
    rw [ce_M_enter_L130, ppu, pz, zgd_t]
    simp only [zlet]
    rw [zin_nI hf (by decide), zgd_t, zx_nI (show f < 2 ^ 31 by omega), h1 (p + 10) f (by omega), c10, if_neg (nI_nlt (Nat.le_refl _) (by omega)), zgd_t, zgd_t, h1 (p + 9) f (by omega)]
  | succ d ih =>
    intro i m u hi hm hw h1 h2 h3 h4 h5
    obtain ⟨m, rfl⟩ : ∃ k, m = k + 1 := ⟨m - 1, by omega⟩
    have ppu : zR u 34 6 = p := (fT_R h4 34 6).trans pp
    obtain ⟨x1, x2, x3, -⟩ := vw_kT h4 (v := 75) (m := 780) (t := 1) (by unfold vK; omega) (by decide)
    obtain ⟨s, s1, s2⟩ := v_s4 hw75 (k + i)
    obtain ⟨w, e, k1, k2, k3, k4⟩ := v_set n hw ((fT_dy h4).trans hd) (i := 12 * D + i) (by omega) s1 (vX 75 u0 (k + i))
    have fw : fT tgC [2] u w := fT_V (fT_rf _ _ _) (v := 78) (m := 156) (t := 2) (by unfold vK; omega) k2 k1 (by decide)
    obtain ⟨v, e2, g⟩ := ih (i + 1) m w (by omega) (by omega) k1 (fun a t q => by rw [k2.1 a t q]; exact h1 a t q) (fun t => by
      rw [k3]
      by_cases z : t = 12 * D + i
      · rw [if_pos z, if_pos (by omega), z, show 12 * D + i - 12 * D = i by omega, s2]
      · rw [if_neg z, h2]
        by_cases x : 12 * D ≤ t ∧ t < 12 * D + i
        · rw [if_pos x, if_pos (by omega)]
        · rw [if_neg x, if_neg (by omega)]) (fun t => by
      rw [k4]
      by_cases z : t = 12 * D + i
      · rw [if_pos z, if_pos (by omega), z, show 12 * D + i - 12 * D = i by omega]
      · rw [if_neg z, h3]
        by_cases x : 12 * D ≤ t ∧ t < 12 * D + i
        · rw [if_pos x, if_pos (by omega)]
        · rw [if_neg x, if_neg (by omega)]) (fT_tr h4 fw) (Nat.le_trans h5 k2.2.2.2.2.1)
    refine ⟨v, ?_, g⟩
    rw [ce_M_enter_L130, ppu, pz, zgd_t]
    simp only [zlet]
    rw [zin_nI hf (by decide), zgd_t, zx_nI (show f < 2 ^ 31 by omega), h1 (p + 10) f (by omega), c10, if_pos (nI_lt (by omega) (by omega)), h1 34 8 (by decide), i8, nI_add, zbd_e (v_sortAt n (x1 hw75) (j := k + i) (by omega)), h1 34 8 (by decide), i8, nI_add, zbd_e (v_numberAt n (x1 hw75) (j := k + i) (by omega)), h1 34 11 (by decide), i11, (k_idx (a := i) _ rfl).2, x2, x3, s2, zbd_e e, nI_1]
    exact e2
theorem zsI_self (u : zMu) (a j : Nat) : zsI u a j (zI u a j) = u := by
  have e : (fun a' b' => if a' = a ∧ b' = j then zI u a j else u.1 a' b') = u.1 := by
    funext a' b'
    by_cases z : a' = a ∧ b' = j
    · rw [if_pos z, z.1, z.2]; rfl
    · rw [if_neg z]
  show ((fun a' b' => if a' = a ∧ b' = j then zI u a j else u.1 a' b'), u.2) = u
  rw [e]
/-- both enter fn f with b values: the reference has counted the step already -/
theorem o_call (n : Nat) (hn : 20000 ≤ n) {C : kC} (P : kPs C) {W : kW} {fr : List Nat} {T t b f r lim : Nat} {ur uc : zMu} (h : kGd C W fr T t ur uc) (hT : T < lim) (hl : lim ≤ 20000) (i14 : zI uc 34 14 = nI lim) (hD : fr.length < 12) (hf : f < cF C) (hb : b ≤ 4) (hbt : b ≤ t) (c10 : zI uc (xp (cX C) + 10) f = nI b) (hr : r < 4000) (i13 : zI uc 34 13 = nI (cM C (r + 1))) (v2 : Int32) : ∃ V vr vc, rf_enters n (zsI ur 0 55 (nI (T + 1))) (nI f) (nI b) (nI (r + 1)) = some ((), vr) ∧ ce_M_enter n uc (nI f) v2 = some ((), vc) ∧ fT tgR tall ur vr ∧ fT tgC tall uc vc ∧ kGd C V ((r + 1) :: fr) (T + 1) (t - b) vr vc ∧ zI vc 34 17 = zI uc 34 17 ∧ zI vc 34 13 = zI uc (xp (cX C) + 9) f ∧ zI vr 30 (fr.length + 1) = nI f ∧ wM V = wM W ∧ wP V = wP W := by
  have t8 := h.t8
  have F8 : cF C ≤ 8 := P.2.2.2.1.1
  obtain ⟨hPp, hOb, hMb, hSh, hRw, hSi, hFn, hCt⟩ := h.2.2.2.2
  obtain ⟨y1, y2, y3, y4, y5, y6⟩ := hCt
  have B0 : kBs C ur uc := h.1
  obtain ⟨pp, pz, p12⟩ := B0.p P
  have fD := h.D
  -- the reference up to its variables
  obtain ⟨u5, hu5⟩ : ∃ u5, zsI (zsI (zsI (zsI (zsI (zsI ur 0 55 (nI (T + 1))) 0 52 (nI (fr.length + 1))) 29 (fr.length + 1) (nI (r + 1))) 30 (fr.length + 1) (nI f)) 0 68 (if zI ur 0 68 < nI (fr.length + 1) then nI (fr.length + 1) else zI ur 0 68)) 0 56 (zI ur 0 56 + 1) = u5 := ⟨_, rfl⟩
  have FA : fT tgR [3, 11] ur u5 := by rw [← hu5]; exact fT_I (fT_I (fT_I (fT_I (fT_I (fT_I (fT_rf _ _ _) _ 11 rfl (by decide)) _ 3 rfl (by decide)) _ 3 rfl (by decide)) _ 3 rfl (by decide)) _ 11 rfl (by decide)) _ 11 rfl (by decide)
  have i5 : ∀ a j, ¬ ((a = 0 ∧ (j = 55 ∨ j = 52 ∨ j = 68 ∨ j = 56)) ∨ ((a = 29 ∨ a = 30) ∧ j = fr.length + 1)) → zI u5 a j = zI ur a j := fun a j q => by rw [← hu5, gI_sI, if_neg (by omega), gI_sI, if_neg (by omega), gI_sI, if_neg (by omega), gI_sI, if_neg (by omega), gI_sI, if_neg (by omega), gI_sI, if_neg (by omega)]
  have l5 : ∀ a j, zL u5 a j = zL ur a j := fun a j => by rw [← hu5]; rfl
  have i51 : zI u5 0 51 = nI t := by rw [i5 0 51 (by omega)]; exact h.tr
  obtain ⟨ua, ea, fa1, fa2, fa3, fa4⟩ := kr_clrV n (b := b) (base := 12 * (fr.length + 1)) (by omega) (nI f) 12 0 n u5 (by omega) (by omega)
  obtain ⟨ub, hub⟩ : ∃ ub, zsI ua 0 51 (nI (t - b)) = ub := ⟨_, rfl⟩
  rw [i51, nI_sub hbt, hub] at ea
  have ub51 : zI ub 0 51 = nI (t - b) := by rw [← hub]; rfl
  have iub : ∀ a j, ¬ (a = 0 ∧ j = 51) → zI ub a j = zI ua a j := fun a j q => by rw [← hub, gI_sI, if_neg q]
  obtain ⟨uv, ev, fv1, fv2, fv3, fv4, fv5⟩ := kr_arg n (b := b) (base := 12 * (fr.length + 1)) (k := t - b) (by omega) hb (by omega) (nI f) (u0 := ub) ub51 b 0 n ub (by omega) (by omega) (fun _ _ _ => rfl) (fun _ _ _ => rfl) (fun t => by rw [if_neg (by omega)]) (fun t => by rw [if_neg (by omega)]) (fT_rf _ _ _)
  have FB : fT tgR [1, 2] u5 uv := fT_tr (fT_tr (fT_mono fa1 (by decide)) (by rw [← hub]; exact fT_I (fT_rf _ _ _) _ 1 rfl (by decide))) (fT_mono fv5 (by decide))
  have FAB : fT tgR [1, 2, 3, 11] ur uv := fT_tr (fT_mono FA (by decide)) (fT_mono FB (by decide))
  have eR0 : rf_enters n (zsI ur 0 55 (nI (T + 1))) (nI f) (nI b) (nI (r + 1)) = rf_enters_L108 n 1 uv (nI f) 0 0 0 := by
    rw [← ev, ← ea]
    unfold rf_enters
    simp only [zlet]
    rw [show zI (zsI ur 0 55 (nI (T + 1))) 0 52 = nI fr.length from by rw [gI_sI, if_neg (by omega)]; exact h.Dr, nI_1, show zI (zsI (zsI ur 0 55 (nI (T + 1))) 0 52 (nI (fr.length + 1))) 0 52 = nI (fr.length + 1) from rfl, zin_nI (show fr.length + 1 < 14 by omega) (by decide), zgd_t, zx_nI (show fr.length + 1 < 2 ^ 31 by omega), show zI (zsI (zsI (zsI ur 0 55 (nI (T + 1))) 0 52 (nI (fr.length + 1))) 29 (fr.length + 1) (nI (r + 1))) 0 52 = nI (fr.length + 1) from rfl, zin_nI (show fr.length + 1 < 14 by omega) (by decide), zgd_t, zx_nI (show fr.length + 1 < 2 ^ 31 by omega)]
    have j68 : zI (zsI (zsI (zsI (zsI ur 0 55 (nI (T + 1))) 0 52 (nI (fr.length + 1))) 29 (fr.length + 1) (nI (r + 1))) 30 (fr.length + 1) (nI f)) 0 68 = zI ur 0 68 := by rw [gI_sI, if_neg (by omega), gI_sI, if_neg (by omega), gI_sI, if_neg (by omega), gI_sI, if_neg (by omega)]
    have j52 : zI (zsI (zsI (zsI (zsI ur 0 55 (nI (T + 1))) 0 52 (nI (fr.length + 1))) 29 (fr.length + 1) (nI (r + 1))) 30 (fr.length + 1) (nI f)) 0 52 = nI (fr.length + 1) := rfl
    rw [j68, j52]
    have e49 : ∀ x : zMu, zsI x 0 56 (zI x 0 56 + 1) = u5 → zI u5 0 52 = nI (fr.length + 1) → rf_enters_J49 n x (nI f) (nI b) = rf_enters_L71 n n u5 (nI f) (nI b) (nI (12 * (fr.length + 1))) (nI 0) := fun x hx h52 => by
      unfold rf_enters_J49
      simp only [zlet]
      rw [hx, h52, show (12 : Int32) * nI (fr.length + 1) = nI (12 * (fr.length + 1)) from nI_mul 12 _]
      rfl
    have h52 : zI u5 0 52 = nI (fr.length + 1) := by rw [← hu5]; rfl
    by_cases z : zI ur 0 68 < nI (fr.length + 1)
    · rw [if_pos z]
      refine e49 _ ?_ h52
      rw [← hu5, if_pos z, show zI (zsI (zsI (zsI (zsI (zsI ur 0 55 (nI (T + 1))) 0 52 (nI (fr.length + 1))) 29 (fr.length + 1) (nI (r + 1))) 30 (fr.length + 1) (nI f)) 0 68 (nI (fr.length + 1))) 0 56 = zI ur 0 56 from by rw [gI_sI, if_neg (by omega), gI_sI, if_neg (by omega), gI_sI, if_neg (by omega), gI_sI, if_neg (by omega), gI_sI, if_neg (by omega)]]
    · rw [if_neg z]
      refine e49 _ ?_ h52
      have es := zsI_self (zsI (zsI (zsI (zsI ur 0 55 (nI (T + 1))) 0 52 (nI (fr.length + 1))) 29 (fr.length + 1) (nI (r + 1))) 30 (fr.length + 1) (nI f)) 0 68
      rw [j68] at es
      rw [← hu5, if_neg z, es, show zI (zsI (zsI (zsI (zsI ur 0 55 (nI (T + 1))) 0 52 (nI (fr.length + 1))) 29 (fr.length + 1) (nI (r + 1))) 30 (fr.length + 1) (nI f)) 0 56 = zI ur 0 56 from by rw [gI_sI, if_neg (by omega), gI_sI, if_neg (by omega), gI_sI, if_neg (by omega), gI_sI, if_neg (by omega)]]
  -- the class up to the count
  obtain ⟨w2, hw2⟩ : ∃ w2, zsI (zsI uc 34 15 (nI (T + 1))) 34 16 (zI uc 34 16 + 1) = w2 := ⟨_, rfl⟩
  have GA : fT tgC [11] uc w2 := by rw [← hw2]; exact fT_I (fT_I (fT_rf _ _ _) _ 11 rfl (by decide)) _ 11 rfl (by decide)
  have iw2 : ∀ a j, ¬ (a = 34 ∧ (j = 15 ∨ j = 16)) → zI w2 a j = zI uc a j := fun a j q => by rw [← hw2, gI_sI, if_neg (by omega), gI_sI, if_neg (by omega)]
  have GA' : fT tgC [1, 2, 3, 11] uc w2 := fT_mono GA (by decide)
  have B2 : kBs C uv w2 := B0.tr FAB GA' (by decide)
  obtain ⟨V, v, w3, eT, eG, FC, GC, hSi3, hFn3, hV⟩ := k_count n hn P B2 (kSi_k hSi FAB GA' (by decide)) (kFn_k hFn FAB GA' (by decide)) hf
  have eC0 : ce_M_enter n uc (nI f) v2 = ce_M_enter_J68 n w3 (nI f) := by
    have et : ce_M_takeStep n uc = some (1, zsI uc 34 15 (nI (T + 1))) := by
      unfold ce_M_takeStep
      rw [y2, i14, if_pos (nI_lt hT (by omega)), nI_1]
      rfl
    unfold ce_M_enter
    rw [pp, pz, zgd_t]
    simp only [zlet]
    rw [zbd_e (ck_isFn n (F := cF C) (by rw [B0.c (by omega) (by omega)]; exact P.2.2.2.1.2) (by omega) hf), if_neg (by decide), zbd_e et, if_neg (by decide), show zI (zsI uc 34 15 (nI (T + 1))) 34 11 = nI fr.length from by rw [gI_sI, if_neg (by omega)]; exact h.Dc, if_pos (show nI fr.length < (12 : Int32) from nI_lt (b := 12) hD (by decide)), show zI (zsI uc 34 15 (nI (T + 1))) 34 16 = zI uc 34 16 from by rw [gI_sI, if_neg (by omega)], hw2]
    exact eG (fun u => ce_M_enter_J68 n u (nI f))
  -- the class's frame
  have i3 : ∀ {a j t : Nat}, tgC a j = t → ¬ t = 9 → ¬ t = 10 → zI w3 a j = zI w2 a j := fun {a j t} e q1 q2 => fT_i GC (by simp; exact ⟨q1, q2⟩) e
  have w3_11 : zI w3 34 11 = nI fr.length := by rw [i3 (show tgC 34 11 = 3 from rfl) (by decide) (by decide), iw2 34 11 (by omega)]; exact h.Dc
  have w3_13 : zI w3 34 13 = nI (cM C (r + 1)) := by rw [i3 (show tgC 34 13 = 12 from rfl) (by decide) (by decide), iw2 34 13 (by omega)]; exact i13
  have w3_12 : zI w3 34 12 = zI uc 34 12 := by rw [i3 (show tgC 34 12 = 11 from rfl) (by decide) (by decide), iw2 34 12 (by omega)]
  obtain ⟨w4, hw4⟩ : ∃ w4, zsI (zsI (zsI w3 35 fr.length (nI (cM C (r + 1)))) 34 11 (nI (fr.length + 1))) 34 12 (if zI uc 34 12 < nI (fr.length + 1) then nI (fr.length + 1) else zI uc 34 12) = w4 := ⟨_, rfl⟩
  have GD : fT tgC [3, 11] w3 w4 := by rw [← hw4]; exact fT_I (fT_I (fT_I (fT_rf _ _ _) _ 3 rfl (by decide)) _ 3 rfl (by decide)) _ 11 rfl (by decide)
  have iw4 : ∀ a j, ¬ ((a = 35 ∧ j = fr.length) ∨ (a = 34 ∧ (j = 11 ∨ j = 12))) → zI w4 a j = zI w3 a j := fun a j q => by rw [← hw4, gI_sI, if_neg (by omega), gI_sI, if_neg (by omega), gI_sI, if_neg (by omega)]
  have G4 : fT tgC [3, 9, 10, 11] uc w4 := fT_tr (fT_mono GA (by decide)) (fT_tr (fT_mono GC (by decide)) (fT_mono GD (by decide)))
  have d4 : zdy w4 = true := (fT_dy G4).trans (h.dy P)
  obtain ⟨va1, va2, va3, va4⟩ := h.2.2.1
  obtain ⟨vw1, vw2, vw3, vw4⟩ := vw_kT G4 (v := 78) (m := 156) (t := 2) (by unfold vK; omega) (by decide)
  obtain ⟨sw1, sw2, sw3, -⟩ := vw_kT G4 (v := 75) (m := 780) (t := 1) (by unfold vK; omega) (by decide)
  have w4_11 : zI w4 34 11 = nI (fr.length + 1) := by rw [← hw4]; rfl
  obtain ⟨w5, e5, c1, c2, c3, c4, c5, c6⟩ := kc_clrV n (D := fr.length + 1) (by omega) 12 0 n w4 (by omega) (by omega) (vw1 va2) d4 w4_11
  obtain ⟨w6, hw6⟩ : ∃ w6, zsI w5 34 8 (nI (t - b)) = w6 := ⟨_, rfl⟩
  have G6 : fT tgC [1, 2] w4 w6 := fT_tr (fT_mono c2 (by decide)) (by rw [← hw6]; exact fT_I (fT_rf _ _ _) _ 1 rfl (by decide))
  have pp6 : zR w6 34 6 = xp (cX C) := (fT_R G6 34 6).trans ((fT_R G4 34 6).trans pp)
  have iw6 : ∀ a j, ¬ (a = 34 ∧ j = 8) → ¬ a = 79 → zI w6 a j = zI w4 a j := fun a j q q2 => by rw [← hw6, gI_sI, if_neg q, c4 a j q2]
  have st0 : ∀ a j, 12 ≤ a → a ≤ 33 → zI w6 a j = zI uc a j := fun a j x y => by
    rw [iw6 a j (by omega) (by omega), fT_i G4 (by decide) (tgC_p x y j)]
  have w5_8 : zI w5 34 8 = nI t := by rw [c4 34 8 (by decide), fT_i G4 (by decide) (show tgC 34 8 = 1 from rfl)]; exact h.tc
  have s75 : pVw 75 780 w6 ∧ (∀ j, vS 75 w6 j = vS 75 uc j) ∧ (∀ j, vX 75 w6 j = vX 75 uc j) := by
    obtain ⟨z1, z2, z3, -⟩ := vw_kT c2 (v := 75) (m := 780) (t := 1) (by unfold vK; omega) (by decide)
    obtain ⟨q1, q2, q3⟩ := popV (nI (t - b)) (z1 (sw1 h.vw))
    rw [hw6] at q1 q2 q3
    exact ⟨q1, fun j => by rw [q2, z2, sw2], fun j => by rw [q3, z3, sw3]⟩
  have w78 : pVw 78 156 w6 ∧ (∀ j, vS 78 w6 j = vS 78 w5 j) ∧ (∀ j, vX 78 w6 j = vX 78 w5 j) := by
    rw [← hw6]
    exact ⟨pVw_keep c1 (by rw [gI_sI, if_neg (by omega)]) (fun j => by rw [gI_sI, if_neg (by omega)]) rfl rfl, vS_keep (fun j => by rw [gI_sI, if_neg (by omega)]) rfl, vX_keep (fun _ => rfl) rfl⟩
  obtain ⟨w7, e7, k1, k2, k3, k4, k5⟩ := kc_arg n (D := fr.length + 1) (k := t - b) (b := b) (f := f) (p := xp (cX C)) (by omega) hb (by omega) (by omega) p12 (u0 := w6) pp6 pz s75.1 (by rw [st0 _ f (by omega) (by omega)]; exact c10) (by rw [← hw6]; rfl) (by rw [iw6 34 11 (by omega) (by omega)]; exact w4_11) ((fT_dy G6).trans d4) b 0 n w6 (by omega) (by omega) w78.1 (fun _ _ _ => rfl) (fun t => by rw [if_neg (by omega)]) (fun t => by rw [if_neg (by omega)]) (fT_rf _ _ _) (Nat.le_refl _)
  obtain ⟨vc, hvc⟩ : ∃ vc, zsI w7 34 13 (zI w6 (xp (cX C) + 9) f) = vc := ⟨_, rfl⟩
  rw [hvc] at e7
  have eC1 : ce_M_enter_J68 n w3 (nI f) = some ((), vc) := by
    unfold ce_M_enter_J68
    rw [w3_11, w3_13, zin_nI (show fr.length < 12 by omega) (by decide), zgd_t, zx_nI (show fr.length < 2 ^ 31 by omega)]
    simp only [zlet]
    have q1 : zI (zsI w3 35 fr.length (nI (cM C (r + 1)))) 34 11 = nI fr.length := by rw [gI_sI, if_neg (by omega)]; exact w3_11
    rw [q1, nI_1]
    have q2 : zI (zsI (zsI w3 35 fr.length (nI (cM C (r + 1)))) 34 11 (nI (fr.length + 1))) 34 12 = zI uc 34 12 := by rw [gI_sI, if_neg (by omega), gI_sI, if_neg (by omega)]; exact w3_12
    have q3 : zI (zsI (zsI w3 35 fr.length (nI (cM C (r + 1)))) 34 11 (nI (fr.length + 1))) 34 11 = nI (fr.length + 1) := rfl
    rw [q2, q3, hw4]
    rw [zbd_e (show ce_M_clearVariables n w4 = some ((), w5) from e5)]
    have pp5 : zR w5 34 6 = xp (cX C) := (fT_R c2 34 6).trans ((fT_R G4 34 6).trans pp)
    have i10 : zI w5 (xp (cX C) + 10) f = nI b := by
      rw [c4 _ f (by omega), fT_i G4 (by decide) (tgC_p (by omega) (by omega) f)]; exact c10
    rw [pp5, pz, zgd_t, zin_nI (show f < 8 by omega) (by decide), zgd_t, zx_nI (show f < 2 ^ 31 by omega), i10, w5_8, nI_sub hbt, hw6]
    exact e7
  -- frames
  have GE : fT tgC [2, 12] w6 vc := fT_tr (fT_mono k4 (by decide)) (by rw [← hvc]; exact fT_I (fT_rf _ _ _) _ 12 rfl (by decide))
  have GF : fT tgC [1, 2, 3, 9, 10, 11, 12] uc vc := fT_tr (fT_mono G4 (by decide)) (fT_tr (fT_mono G6 (by decide)) (fT_mono GE (by decide)))
  have FF : fT tgR [1, 2, 3, 9, 10, 11, 12] ur v := fT_tr (fT_mono FAB (by decide)) (fT_mono FC (by decide))
  have VW : wO V = wO W ∧ wR V = wR W ∧ wM V = wM W ∧ wP V = wP W ∧ (kOb W v vc → kOb V v vc) ∧ (kMb (cX C) (cb C) W v vc → kMb (cX C) (cb C) V v vc) ∧ (kSh (cX C) W v vc → kSh (cX C) V v vc) ∧ (kRw W v vc → kRw V v vc) ∧ (kPp W v vc → kPp V v vc) := by
    rcases hV with rfl | rfl
    · exact ⟨rfl, rfl, rfl, rfl, id, id, id, id, id⟩
    · exact ⟨rfl, rfl, rfl, rfl, id, id, id, id, id⟩
  obtain ⟨z1, z2, z3, z4, z5, z6, z7, z8, z9⟩ := VW
  -- class tags 9, 10 are as behind the count
  have GH : fT tgC [1, 2, 3, 11, 12] w3 vc := fT_tr (fT_mono GD (by decide)) (fT_tr (fT_mono G6 (by decide)) (fT_mono GE (by decide)))
  refine ⟨V, v, vc, eR0.trans eT, eC0.trans eC1, fT_mono FF (by decide), fT_mono GF (by decide), ⟨⟨fT_tr h.1.1 (fT_mono FF (by decide)), fT_tr h.1.2 (fT_mono GF (by decide))⟩, ?_, ?_, ?_, z9 (kPp_k hPp FF GF (by decide)), z5 (kOb_k hOb FF GF (by decide)), z6 (kMb_k hMb FF GF (by decide)), z7 (kSh_k hSh FF GF (by decide)), z8 (kRw_k hRw FF GF (by decide)), kSi_k hSi3 (fT_rf tgR [1, 2, 3, 11, 12] v) GH (by decide), kFn_k hFn3 (fT_rf tgR [1, 2, 3, 11, 12] v) GH (by decide), ?_⟩, ?_, ?_, ?_, z3, z4⟩
  · -- the stack
    have r27 : ∀ j, zI v 27 j = zI ur 27 j := fun j => by
      rw [fT_i FC (by decide) (show tgR 27 j = 1 from rfl), fv1 27 j (by omega), iub 27 j (by omega), fa2 27 j (by omega), i5 27 j (by omega)]
    have r31 : ∀ j, zL v 31 j = zL ur 31 j := fun j => by
      rw [fT_l FC (by decide) (show tgR 31 0 = 1 from rfl), fv2 31 j (by omega)]
      have : zL ub 31 j = zL ua 31 j := by rw [← hub]; rfl
      rw [this, fa3, l5]
    obtain ⟨q1, q2, q3, -⟩ := vw_kT GE (v := 75) (m := 780) (t := 1) (by unfold vK; omega) (by decide)
    rw [z1, z2]
    refine ⟨?_, ?_, by omega, q1 s75.1, fun j hj => ?_⟩
    · rw [fT_i FC (by decide) (show tgR 0 51 = 1 from rfl), fv1 0 51 (by omega)]; exact ub51
    · rw [fT_i GE (by decide) (show tgC 34 8 = 1 from rfl)]; rw [← hw6]; rfl
    · rw [r27, r31, q2, q3, s75.2.1, s75.2.2]
      exact h.v (by omega)
  · -- the variables
    have v28 : ∀ j, zI v 28 j = if 12 * (fr.length + 1) ≤ j ∧ j < 12 * (fr.length + 1) + b then zI ur 27 (t - b + (j - 12 * (fr.length + 1))) else (if 12 * (fr.length + 1) ≤ j ∧ j < 12 * (fr.length + 1) + 12 then 0 else zI ur 28 j) := fun j => by
      rw [fT_i FC (by decide) (show tgR 28 j = 2 from rfl), fv3, iub 27 _ (by omega), fa2 27 _ (by omega), i5 27 _ (by omega), iub 28 j (by omega), fa4, i5 28 j (by omega)]
      rfl
    have v32 : ∀ j, zL v 32 j = if 12 * (fr.length + 1) ≤ j ∧ j < 12 * (fr.length + 1) + b then zL ur 31 (t - b + (j - 12 * (fr.length + 1))) else zL ur 32 j := fun j => by
      have e1 : ∀ a j, zL ub a j = zL ur a j := fun a j => by
        have : zL ub a j = zL ua a j := by rw [← hub]; rfl
        rw [this, fa3, l5]
      rw [fT_l FC (by decide) (show tgR 32 0 = 2 from rfl), fv4, e1, e1]
    have k78 : pVw 78 156 vc ∧ (∀ j, vS 78 vc j = vS 78 w7 j) ∧ (∀ j, vX 78 vc j = vX 78 w7 j) ∧ zN vc 79 = zN w7 79 := by
      rw [← hvc]
      exact ⟨pVw_keep k1 (by rw [gI_sI, if_neg (by omega)]) (fun j => by rw [gI_sI, if_neg (by omega)]) rfl rfl, vS_keep (fun j => by rw [gI_sI, if_neg (by omega)]) rfl, vX_keep (fun _ => rfl) rfl, rfl⟩
    rw [z1, z2]
    refine ⟨by show fr.length + 1 ≤ 12; omega, k78.1, ?_, fun j hj => ?_⟩
    · have n6 : zN w6 79 = zN w5 79 := by rw [← hw6]; rfl
      have hm : zN vc (78 + 1) ≤ 156 := k78.1.2.2.2.2.1
      have e79 : zN w4 79 = 156 := vw4.trans va3
      have hm' : zN vc 79 ≤ 156 := hm
      have := k78.2.2.2
      omega
    · have hj : j < 12 * (fr.length + 1 + 1) := hj
      rw [v28, v32, k78.2.1, k78.2.2.1, k2, k3, w78.2.1, w78.2.2, c5, c6]
      by_cases x : 12 * (fr.length + 1) ≤ j ∧ j < 12 * (fr.length + 1) + b
      · rw [if_pos x, if_pos x, if_pos x, if_pos x, s75.2.1, s75.2.2]
        exact h.v (by omega)
      · rw [if_neg x, if_neg x, if_neg x, if_neg x]
        by_cases y : 12 * (fr.length + 1) ≤ j ∧ j < 12 * (fr.length + 1) + 12
        · rw [if_pos y, if_pos (by omega), if_pos (by omega)]
          exact vR_0 _ _ _
        · rw [if_neg y, if_neg (by omega), if_neg (by omega), vw2, vw3]
          exact va4 j (by omega)
  · -- frames
    obtain ⟨q1, q2, q3, q4⟩ := h.2.2.2.1
    have r29 : ∀ j, zI v 29 j = zI u5 29 j := fun j => by
      rw [fT_i FC (by decide) (show tgR 29 j = 3 from rfl), fT_i FB (by decide) (show tgR 29 j = 3 from rfl)]
    have c35 : ∀ j, zI vc 35 j = zI w4 35 j := fun j => by
      rw [fT_i GE (by decide) (show tgC 35 j = 3 from rfl), fT_i G6 (by decide) (show tgC 35 j = 3 from rfl)]
    refine ⟨by show fr.length + 1 ≤ 12; omega, ?_, ?_, ?_, ?_, ?_⟩
    · rw [fT_i FC (by decide) (show tgR 0 52 = 3 from rfl), fT_i FB (by decide) (show tgR 0 52 = 3 from rfl), ← hu5]; rfl
    · rw [fT_i GE (by decide) (show tgC 34 11 = 3 from rfl), fT_i G6 (by decide) (show tgC 34 11 = 3 from rfl)]; exact w4_11
    · rw [r29, ← hu5]; simp [gI_sI]
    · rw [c35, ← hw4]; simp [gI_sI]
    · refine kFs_k fr (fun j hj => ?_) (fun j hj => ?_) q4
      · rw [r29, i5 29 j (by omega)]
      · rw [c35, iw4 35 j (by omega), i3 (show tgC 35 j = 3 from rfl) (by decide) (by decide), iw2 35 j (by omega)]
  · -- counters
    have rj : ∀ j, tgR 0 j = 11 → zI v 0 j = zI u5 0 j := fun j e => by
      rw [fT_i FC (by decide) e, fT_i FB (by decide) e]
    have cj : ∀ j, tgC 34 j = 11 → zI vc 34 j = zI w4 34 j := fun j e => by
      rw [fT_i GE (by decide) e, fT_i G6 (by decide) e]
    refine ⟨?_, ?_, ?_, ?_, ?_, ?_⟩
    · rw [rj 55 rfl, ← hu5]; simp [gI_sI]
    · rw [cj 15 rfl, iw4 34 15 (by omega), i3 (show tgC 34 15 = 11 from rfl) (by decide) (by decide), ← hw2]; simp [gI_sI]
    · rw [rj 56 rfl, cj 16 rfl, iw4 34 16 (by omega), i3 (show tgC 34 16 = 11 from rfl) (by decide) (by decide), ← hw2, ← hu5, gI_sI, if_pos ⟨rfl, rfl⟩, gI_sI, if_pos ⟨rfl, rfl⟩, y3]
    · have d1 : zI u5 0 68 = (if zI ur 0 68 < nI (fr.length + 1) then nI (fr.length + 1) else zI ur 0 68) := by rw [← hu5]; simp [gI_sI]
      have d2 : zI w4 34 12 = (if zI uc 34 12 < nI (fr.length + 1) then nI (fr.length + 1) else zI uc 34 12) := by rw [← hw4]; simp [gI_sI]
      rw [rj 68 rfl, cj 12 rfl, d1, d2, y4]
    · rw [rj 53 rfl, cj 18 rfl, iw4 34 18 (by omega), i3 (show tgC 34 18 = 11 from rfl) (by decide) (by decide), iw2 34 18 (by omega), i5 0 53 (by omega)]; exact y5
    · rw [rj 54 rfl, cj 19 rfl, iw4 34 19 (by omega), i3 (show tgC 34 19 = 11 from rfl) (by decide) (by decide), iw2 34 19 (by omega), i5 0 54 (by omega)]; exact y6
  · rw [← hvc, gI_sI, if_neg (by omega), fT_i k4 (by decide) (show tgC 34 17 = 12 from rfl), fT_i G6 (by decide) (show tgC 34 17 = 12 from rfl), fT_i G4 (by decide) (show tgC 34 17 = 12 from rfl)]
  · rw [← hvc, gI_sI, if_pos ⟨rfl, rfl⟩, st0 _ f (by omega) (by omega)]
  · rw [fT_i FC (by decide) (show tgR 30 (fr.length + 1) = 3 from rfl), fT_i FB (by decide) (show tgR 30 (fr.length + 1) = 3 from rfl), ← hu5]
    simp [gI_sI]
