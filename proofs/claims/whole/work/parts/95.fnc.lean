/-! PARSING, fns, third part: the names behind a fn's -/
def pFo (X : pCx) (tb : Nat) (M ht : Nat → Nat) (ur uc : zMu) (F : Nat) : Prop := ∀ f, f < F → ∃ w q nn, w < xN X ∧ zI ur 14 f = nI w ∧ zL uc (xp X + 8) f = xPK X w ∧ q ≤ tb ∧ ht q = 0 ∧ zI ur 15 f = nI q ∧ zI uc (xp X + 9) f = nI (M q) ∧ nn ≤ 4 ∧ zI ur 16 f = nI nn ∧ zI uc (xp X + 10) f = nI nn
theorem pFo_keep {X : pCx} {tb tb' : Nat} {M ht : Nat → Nat} {ur uc vr vc : zMu} {F : Nat} (h : pFo X tb M ht ur uc F) (ht2 : tb ≤ tb') (hr : ∀ k j, 14 ≤ k → k ≤ 16 → j < F → zI vr k j = zI ur k j) (hc : ∀ k j, k = xp X + 9 ∨ k = xp X + 10 → j < F → zI vc k j = zI uc k j) (hl : ∀ j, j < F → zL vc (xp X + 8) j = zL uc (xp X + 8) j) : pFo X tb' M ht vr vc F := by
  intro f hf
  obtain ⟨w, q, nn, g1, g2, g3, g4, g5, g6, g7, g8, g9, g10⟩ := h f hf
  exact ⟨w, q, nn, g1, by rw [hr 14 f (by omega) (by omega) hf]; exact g2, by rw [hl f hf]; exact g3, by omega, g5, by rw [hr 15 f (by omega) (by omega) hf]; exact g6, by rw [hc _ f (Or.inl rfl) hf]; exact g7, g8, by rw [hr 16 f (by omega) (by omega) hf]; exact g9, by rw [hc _ f (Or.inr rfl) hf]; exact g10⟩
def pVn (X : pCx) (tb S cc F m : Nat) (M ht : Nat → Nat) (ur uc : zMu) : Prop := F < 8 ∧ m ≤ 4 ∧ pRo ur uc F ∧ (∃ vw, pVa (xPK X) (xN X) ur uc F m vw) ∧ zI ur 0 33 = nI F ∧ zI uc (xp X) 12 = nI (F + 1) ∧ pFo X tb M ht ur uc F ∧ (∃ w, w < xN X ∧ zI ur 14 F = nI w ∧ zL uc (xp X + 8) F = xPK X w) ∧ zI uc (xp X + 9) F = nI cc ∧ zI uc (xp X + 10) F = nI m ∧ pSi X S 5000 F ur uc
theorem vKeep_n {X : pCx} (hX : xOk X) {tb S cc F m : Nat} {M ht : Nat → Nat} : vKeep X (pVn X tb S cc F m M ht) := by
  intro ur uc vr vc h hr hc hl ho
  have hp := hX.p12
  obtain ⟨a1, a2, a3, ⟨vw, a4⟩, a5, a6, a7, ⟨w, b1, b2, b3⟩, a9, a10, a11⟩ := h
  exact ⟨a1, a2, pRo_keep a3 (hr 0 27 (by omega)) (hc 2 6 (by omega) (by omega)), ⟨vw, pVa_keep a4 (fun k j _ _ => hr k j (by omega)) (hc 2 8 (by omega) (by omega)) (fun j => hl 3 j (by omega))⟩, by rw [hr 0 33 (by omega)]; exact a5, by rw [hc _ 12 (by omega) (by omega)]; exact a6, pFo_keep a7 (Nat.le_refl _) (fun k j _ _ _ => hr k j (by omega)) (fun k j q _ => hc k j (by omega) (by omega)) (fun j _ => hl _ j (by omega)), ⟨w, b1, by rw [hr 14 F (by omega)]; exact b2, by rw [hl _ F (by omega)]; exact b3⟩, by rw [hc _ F (by omega) (by omega)]; exact a9, by rw [hc _ F (by omega) (by omega)]; exact a10, pSi_keep a11 (fun k j q => hr k j (by omega)) (fun k j q => hc k j (by omega) (by omega)) (fun j => hl _ j (by omega)) ho⟩
theorem vRf_n {X : pCx} {tb S cc F m : Nat} {M ht : Nat → Nat} : vRf X (pVn X tb S cc F m M ht) := fun ur uc h => by
  obtain ⟨a1, a2, a3, ⟨vw, a4⟩, a5, a6, a7, a8, a9, a10, a11⟩ := h
  refine ⟨⟨F, m, by omega, by omega, Or.inr ⟨a1, ?_⟩, a4.2.2.1⟩, min S 80, m, F + 1, by omega, a11.2.2.2.1, by omega, a4.2.2.2.1, by omega, a6⟩
  rcases a3 with ⟨q, -, -⟩ | ⟨-, q, -⟩
  · omega
  · exact q
theorem p_name (n : Nat) (hn : 2000 ≤ n) {X : pCx} (hX : xOk X) {i cr cc S C tb F c : Nat} {M ht : Nat → Nat} {ur uc : zMu} (h : pGn X i i 1 cr cc S C tb pE0 M ht (pVn X tb S cc F c M ht) ur uc) (hc4 : c < 4) (hN : xrk X i = 1) :
    ∃ w, zI ur 6 i = nI w ∧ zL uc 7 8 = xPK X w ∧ ∃ vr vc, ((rf_findVar n ur (nI w) = some (-1, ur) ∧ ce_C_variableNamed n uc (xPK X w) = some (-1, uc) ∧ vr = ur ∧ vc = uc) ∨ (∃ j, j < 12 ∧ rf_findVar n ur (nI w) = some (nI j, ur) ∧ ce_C_variableNamed n uc (xPK X w) = some (nI j, uc) ∧ rf_notes n ur (nI (xpl X i)) 3 = some ((), vr) ∧ ce_C_note n uc 3 (nI (xpl X i)) = some ((), vc))) ∧
      zI vr 0 10 = nI i ∧ zI vr 6 i = nI w ∧ zI vr 17 F = nI c ∧ zL vc 7 8 = xPK X w ∧ zI vc 7 7 = nI (xpl X i) ∧ zI vc 2 8 = nI c ∧ zI vc 2 6 = nI F ∧ zI vc (xp X) 12 = nI (F + 1) ∧ zI vc (xp X + 10) F = nI c ∧ zR vc 2 1 = xp X ∧
      ce_X_advance n (zsI (vaC vc c (xPK X w)) (xp X + 10) F (nI (c + 1))) = some ((), advU (zsI (vaC vc c (xPK X w)) (xp X + 10) F (nI (c + 1))) (i + 1)) ∧
      pGn X (i + 1) (i + 1) 1 cr cc S C tb pE0 M ht (pVn X tb S cc F (c + 1) M ht) (zsI (vaR vr F c w) 0 10 (nI (i + 1))) (advU (zsI (vaC vc c (xPK X w)) (xp X + 10) F (nI (c + 1))) (i + 1)) := by
  have hp := hX.p12
  have hit := hX.nx h.i (by omega)
  have hP := hX.pl h.i
  obtain ⟨w, w1, w2, w3⟩ := h.nm hX hN
  refine ⟨w, w2, by rw [h.va]; exact w3, ?_⟩
  have step : ∀ vr vc, pGn X i i 1 cr cc S C tb pE0 M ht (pVn X tb S cc F c M ht) vr vc → zI vr 6 i = nI w → zL vc 7 8 = xPK X w → zI vr 0 10 = nI i ∧ zI vr 6 i = nI w ∧ zI vr 17 F = nI c ∧ zL vc 7 8 = xPK X w ∧ zI vc 7 7 = nI (xpl X i) ∧ zI vc 2 8 = nI c ∧ zI vc 2 6 = nI F ∧ zI vc (xp X) 12 = nI (F + 1) ∧ zI vc (xp X + 10) F = nI c ∧ zR vc 2 1 = xp X ∧
      ce_X_advance n (zsI (vaC vc c (xPK X w)) (xp X + 10) F (nI (c + 1))) = some ((), advU (zsI (vaC vc c (xPK X w)) (xp X + 10) F (nI (c + 1))) (i + 1)) ∧
      pGn X (i + 1) (i + 1) 1 cr cc S C tb pE0 M ht (pVn X tb S cc F (c + 1) M ht) (zsI (vaR vr F c w) 0 10 (nI (i + 1))) (advU (zsI (vaC vc c (xPK X w)) (xp X + 10) F (nI (c + 1))) (i + 1)) := by
    intro vr vc g g6 g8
    obtain ⟨a1, a2, a3, ⟨vw, a4⟩, a5, a6, a7, ⟨w0, b1, b2, b3⟩, a9, a10, a11⟩ := g.2.2.2.2.2.1
    have a36 : zI vc 2 6 = nI F := by
      rcases a3 with ⟨q, -, -⟩ | ⟨-, -, q⟩
      · omega
      · exact q
    have hr : ∀ k j, k ≠ 17 → k ≠ 18 → ¬ (k = 0 ∧ j = 10) → zI (zsI (vaR vr F c w) 0 10 (nI (i + 1))) k j = zI vr k j := fun k j q1 q2 q3 => by rw [gI_sI, if_neg q3, vaR_W k j q1 q2]
    have hcv : ∀ k j, ¬ (k = 2 ∧ j = 8) → ¬ (k = xp X + 10 ∧ j = F) → zI (zsI (vaC vc c (xPK X w)) (xp X + 10) F (nI (c + 1))) k j = zI vc k j := fun k j q1 q2 => by rw [gI_sI, if_neg q2, vaC_W k j q1]
    have hlv : ∀ k j, k ≠ 3 → zL (zsI (vaC vc c (xPK X w)) (xp X + 10) F (nI (c + 1))) k j = zL vc k j := fun k j q => by rw [gL_sI, vaC_L k j q]
    have fv : fPC (xp X) (xc X) (zsI (vaC vc c (xPK X w)) (xp X + 10) F (nI (c + 1))) := fPC_I (fPC_I (fPC_L g.2.1 (by unfold pwC; omega)) (by unfold pwC; omega)) (by unfold pwC; omega)
    have hc2 : ∀ k j, k ≠ 7 → ¬ (k = 2 ∧ j = 8) → ¬ (k = xp X + 10 ∧ j = F) → zI (advU (zsI (vaC vc c (xPK X w)) (xp X + 10) F (nI (c + 1))) (i + 1)) k j = zI vc k j := fun k j q0 q1 q2 => by rw [advU_I k j q0, hcv k j q1 q2]
    have hl2 : ∀ k j, k ≠ 7 → k ≠ 3 → zL (advU (zsI (vaC vc c (xPK X w)) (xp X + 10) F (nI (c + 1))) (i + 1)) k j = zL vc k j := fun k j q0 q => by rw [advU_L k j q0, hlv k j q]
    refine ⟨g.at, g6, a4.2.2.1, g8, g.pc, a4.2.2.2.1, a36, a6, a10, g.zp hX, c_adv n (by rw [hcv 7 5 (by omega) (by omega)]; exact g.2.2.1.2.2.1) (nI_1 i) (hX.tk g.1 fv).2.2.2.2 (by omega) (by have := hX.T; omega), ?_⟩
    refine pGn_step hX g (fPR_I (fPR_I (fPR_I g.1 (by unfold pwR; omega)) (by unfold pwR; omega)) (by unfold pwR; omega)) (fPC_adv fv) ⟨⟨hit, by simp [gI_sI]⟩, pAc_adv hX fv hit⟩ ⟨g.2.2.2.2.1.1, by rw [hr 0 26 (by omega) (by omega) (by omega)]; exact g.2.2.2.2.1.2.1, by rw [hc2 2 5 (by omega) (by omega) (by omega)]; exact g.2.2.2.2.1.2.2⟩ ?_ (pFt_keep g.2.2.2.2.2.2.1 (Nat.le_of_lt (hX.plt hit)) (fun j q => hr 0 j (by omega) (by omega) (by omega)) (fun j q => hc2 2 j (by omega) (by omega) (by omega))) (fun q => by rw [hc2 2 3 (by omega) (by omega) (by omega)] at q; exact q) (Nat.le_refl _) g.2.2.2.2.2.2.2.1.2.2.2.2.2.1 (fun k j q => hr k j (by omega) (by omega) (by omega)) (fun k j q => hc2 k j (by omega) (by omega) (by omega)) (fun j => hl2 4 j (by omega) (by omega))
    refine ⟨a1, by omega, pRo_keep a3 (hr 0 27 (by omega) (by omega) (by omega)) (hc2 2 6 (by omega) (by omega) (by omega)), ⟨fun j => if j = c then w else vw j, ?_⟩, by rw [hr 0 33 (by omega) (by omega) (by omega)]; exact a5, by rw [hc2 _ 12 (by omega) (by omega) (by omega)]; exact a6, pFo_keep a7 (Nat.le_refl _) (fun k j _ _ _ => hr k j (by omega) (by omega) (by omega)) (fun k j q q2 => hc2 k j (by omega) (by omega) (by omega)) (fun j _ => hl2 _ j (by omega) (by omega)), ⟨w0, b1, by rw [hr 14 F (by omega) (by omega) (by omega)]; exact b2, by rw [hl2 _ F (by omega) (by omega)]; exact b3⟩, by rw [hc2 _ F (by omega) (by omega) (by omega)]; exact a9, ?_, pSi_keep a11 (fun k j q => hr k j (by omega) (by omega) (by omega)) (fun k j q => hc2 k j (by omega) (by omega) (by omega)) (fun j => hl2 _ j (by omega) (by omega)) (fun q => by rw [hc2 2 3 (by omega) (by omega) (by omega)] at q; exact q)⟩
    · obtain ⟨v1, v2, v3, v4, v5⟩ := a4
      refine ⟨v1, by omega, ?_, ?_, fun j hj => ?_⟩
      · rw [gI_sI, if_neg (by omega)]; simp [vaR, gI_sI]
      · rw [advU_I 2 8 (by omega), gI_sI, if_neg (by omega)]; simp [vaC, gI_sI]
      · rw [advU_L 3 j (by omega), gL_sI, gI_sI, if_neg (by omega)]
        by_cases e : j = c
        · subst e
          simp only [if_true]
          exact ⟨w1, by simp [vaR, gI_sI], by simp [vaC, gL_sI, gL_sL]⟩
        · obtain ⟨z1, z2, z3⟩ := v5 j (by omega)
          simp only [e, if_false]
          refine ⟨z1, ?_, ?_⟩
          · rw [← z2]; simp [vaR, gI_sI, e]
          · rw [← z3]; simp [vaC, gL_sI, gL_sL, e]
    · rw [advU_I _ _ (by omega), gI_sI, if_pos ⟨rfl, rfl⟩]
  obtain ⟨a1, a2, a3, ⟨vw, a4⟩, -⟩ := h.2.2.2.2.2.1
  rcases p_findVar n hn hX.2.2.1 hX.2.2.2.1 a4 a3 w1 with ⟨j, j1, j2, j3, j4⟩ | ⟨j1, j2, j3⟩
  · obtain ⟨b, n1, n2, n3⟩ := pGn_note n (w := xpl X i) (k := 3) hX (vKeep_n hX) h (by omega) hP
    refine ⟨_, _, Or.inr ⟨j, by omega, j3, j4, n1, n2⟩, step _ _ n3 ?_ ?_⟩
    · rw [notR_W 6 i (by omega)]; exact w2
    · rw [notC_L, h.va]; exact w3
  · exact ⟨ur, uc, Or.inl ⟨j2, j3, rfl, rfl⟩, step _ _ h w2 (by rw [h.va]; exact w3)⟩
