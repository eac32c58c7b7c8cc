/-! PARSING, twenty-first part: the site of a sum, the site of a member -/
theorem notR_c {u u' : zMu} {b : Bool} {w x j : Nat} (h : zI u 0 j = zI u' 0 j) : zI (notR u b w x) 0 j = zI (notR u' b w x) 0 j := by
  cases b
  · exact h
  · show zI (zsI (zsI u 0 16 (nI w)) 0 17 (nI x)) 0 j = zI (zsI (zsI u' 0 16 (nI w)) 0 17 (nI x)) 0 j
    simp only [gI_sI, h]
theorem p_siteS (n : Nat) {X : pCx} {i op cr cc S C tb e : Nat} {E : Nat → Prop} {M ht : Nat → Nat} {ur uc : zMu} (hX : xOk X) (h : pOk X i i op cr cc S C tb e E M ht ur uc) (hi : i < xT X) (hS : S < 800) :
    ∃ u6 u5 v, rf_newSite n ur 3 (-1) = some (nI S, u6) ∧ ce_C_addSite n uc 3 (nI (xpl X i)) 0 = some (nI v, u5) ∧ zI u6 0 10 = nI i ∧ ce_X_advance n u5 = some ((), advU u5 (i + 1)) ∧ pOk X (i + 1) (i + 1) op cr cc (S + 1) C tb e (fun s => E s ∨ s = S) M ht (zsI u6 0 10 (nI (i + 1))) (advU u5 (i + 1)) ∧ (zI u5 2 3 = 0 → v = S ∧ zI uc 2 3 = 0) ∧ (∀ k q, 10 ≤ k → k ≤ 15 → zI u6 k q = zI ur k q) ∧ (∀ s, s < S → zI u6 19 s = zI ur 19 s) ∧ zI u6 19 S = nI 3 := by
  have hp := hX.p12
  have hP := hX.pl h.i
  have hplt := hX.plt hi
  have hT := hX.T
  obtain ⟨fk, fp, fa, f80⟩ := h.2.2.2.2.2.2.1
  obtain ⟨r, V, F, vw, h0, h1, h2, h3, h4, h5⟩ := h.2.2.2.2.2.1
  obtain ⟨s1, s2, s3, s4, s5⟩ := h5
  obtain ⟨b, fk', fp', v, n1, n2, n3, n4, n5⟩ := p_site n hX.zpr fa h.2.2.2.1.2 (h.zp hX) hS s3 s4 f80 hP h.at (by omega) ((hX.tk h.1 h.2.1).1 i h.i).1.2.2.2.1 (nI 3) (-1) 0
  have f5 : fPC (xp X) (xc X) (if S < 80 then siC uc (xp X) S (nI 3) (nI (xpl X i)) (zI uc 2 6) 0 else notC uc b (xpl X i) 3) := by
    by_cases g : S < 80
    · rw [if_pos g]; exact fPC_si h.2.1
    · rw [if_neg g]; exact fPC_not h.2.1
  have c5 : ∀ a j, ¬ (a = 2 ∧ (j = 3 ∨ j = 4)) → ¬ (a = xp X ∧ j = 8) → ¬ (xp X + 4 ≤ a ∧ a ≤ xp X + 6 ∧ j = S) → zI (if S < 80 then siC uc (xp X) S (nI 3) (nI (xpl X i)) (zI uc 2 6) 0 else notC uc b (xpl X i) 3) a j = zI uc a j := fun a j q1 q2 q3 => by
    by_cases g : S < 80
    · rw [if_pos g]; exact siC_W a j q2 q3
    · rw [if_neg g]; exact notC_W a j q1
  have l5 : ∀ a j, ¬ (a = xp X + 7 ∧ j = S) → zL (if S < 80 then siC uc (xp X) S (nI 3) (nI (xpl X i)) (zI uc 2 6) 0 else notC uc b (xpl X i) 3) a j = zL uc a j := fun a j q => by
    by_cases g : S < 80
    · rw [if_pos g]; exact siC_L a j q
    · rw [if_neg g]; exact notC_L a j
  have k5 : ∀ j, j = 3 ∨ j = 4 → zI (if S < 80 then siC uc (xp X) S (nI 3) (nI (xpl X i)) (zI uc 2 6) 0 else notC uc b (xpl X i) 3) 2 j = zI (notC uc b (xpl X i) 3) 2 j := fun j q => by
    by_cases g : S < 80
    · rw [if_pos g, (n5 g).1]; exact siC_W 2 j (by omega) (by omega)
    · rw [if_neg g]
  have p8 : zI (if S < 80 then siC uc (xp X) S (nI 3) (nI (xpl X i)) (zI uc 2 6) 0 else notC uc b (xpl X i) 3) (xp X) 8 = nI (min (S + 1) 80) := by
    by_cases g : S < 80
    · rw [if_pos g, show min (S + 1) 80 = S + 1 by omega]; simp [siC, gI_sI]
    · rw [if_neg g, notC_W _ _ (by omega), s4, show min (S + 1) 80 = min S 80 by omega]
  have w5 : S < 80 → zI (if S < 80 then siC uc (xp X) S (nI 3) (nI (xpl X i)) (zI uc 2 6) 0 else notC uc b (xpl X i) 3) (xp X + 4) S = nI 3 ∧ zI (if S < 80 then siC uc (xp X) S (nI 3) (nI (xpl X i)) (zI uc 2 6) 0 else notC uc b (xpl X i) 3) (xp X + 5) S = nI (xpl X i) ∧ zI (if S < 80 then siC uc (xp X) S (nI 3) (nI (xpl X i)) (zI uc 2 6) 0 else notC uc b (xpl X i) 3) (xp X + 6) S = zI uc 2 6 := fun g => by
    rw [if_pos g]
    refine ⟨?_, ?_, ?_⟩ <;> simp [siC, gI_sI, gI_sL]
  revert n2 f5 c5 l5 k5 p8 w5
  generalize (if S < 80 then siC uc (xp X) S (nI 3) (nI (xpl X i)) (zI uc 2 6) 0 else notC uc b (xpl X i) 3) = u5
  intro n2 f5 c5 l5 k5 p8 w5
  have hok5 : zI u5 2 3 = 0 → zI uc 2 3 = 0 ∧ S < 80 := fun q => by
    rw [k5 3 (by omega)] at q
    by_cases g : S < 80
    · rw [(n5 g).1] at q; exact ⟨q, g⟩
    · exfalso
      have := n4 (by omega)
      rcases n3 with ⟨z, -⟩ | ⟨z1, z2, z3, z4, z5, z6⟩
      · exact this.1 z
      · rw [z5] at q; exact nI_ne0 (by omega) (by omega) q
  have g6 : ∀ a j, ¬ (a = 0 ∧ (j = 16 ∨ j = 17 ∨ j = 39)) → ¬ (19 ≤ a ∧ a ≤ 22 ∧ j = S) → zI (zsI (notR (siR ur S (nI 3) (nI (xpl X i)) (zI ur 0 27) (-1)) b (xpl X i) 3) 0 39 (nI (S + 1))) a j = zI ur a j := fun a j q1 q2 => by
    rw [gI_sI, if_neg (by omega), notR_W a j (by omega), siR_W a j q2]
  have s6 : ∀ a, 19 ≤ a → zI (zsI (notR (siR ur S (nI 3) (nI (xpl X i)) (zI ur 0 27) (-1)) b (xpl X i) 3) 0 39 (nI (S + 1))) a S = zI (siR ur S (nI 3) (nI (xpl X i)) (zI ur 0 27) (-1)) a S := fun a q => by
    rw [gI_sI, if_neg (by omega), notR_W a S (by omega)]
  have hadv : ce_X_advance n u5 = some ((), advU u5 (i + 1)) := c_adv n (by rw [c5 7 5 (by omega) (by omega) (by omega)]; exact h.2.2.1.2.2.1) (nI_1 i) (hX.tk h.1 f5).2.2.2.2 (by omega) (by omega)
  refine ⟨_, u5, v, n1, n2, ?_, hadv, ?_, fun q => ⟨(n5 (hok5 q).2).2, (hok5 q).1⟩, fun k q _ _ => g6 k q (by omega) (by omega), fun s hs => g6 19 s (by omega) (by omega), ?_⟩
  · rw [g6 0 10 (by omega) (by omega)]; exact h.at
  · refine pOk_site hX h hi hS (k := 3) (by omega) (fPR_I (fPR_I (fPR_not (fPR_si h.1)) (by unfold pwR; omega)) (by unfold pwR; omega)) (fPC_adv f5) ⟨⟨hi, by simp [gI_sI]⟩, pAc_adv hX f5 hi⟩ ⟨fk', fp', pFa_keep n3 (fun j q => ?_) (fun j q => by rw [advU_I 2 j (by omega)]; exact k5 j q), fun q => ⟨(n4 (by omega)).1, by have := (n4 (by omega)).2; omega⟩⟩ (fun a j q1 q2 => ?_) (fun a j q1 q2 q3 q4 => by rw [advU_I a j q1]; exact c5 a j q2 q3 q4) (fun a j q1 q2 => by rw [advU_L a j q1]; exact l5 a j q2) (fun q => by rw [advU_I 2 3 (by omega)] at q; exact hok5 q) ?_ (by rw [advU_I _ 8 (by omega)]; exact p8) ?_ ?_ ?_ (fun g => ?_)
    · rw [gI_sI, if_neg (by omega), gI_sI, if_neg (by omega)]
      exact notR_c (siR_W 0 j (by omega))
    · rw [gI_sI, if_neg (by omega)]; exact g6 a j (by omega) q2
    · rw [gI_sI, if_neg (by omega), gI_sI, if_pos ⟨rfl, rfl⟩]
    · rw [gI_sI, if_neg (by omega), s6 19 (by omega)]; simp [siR, gI_sI]
    · rw [gI_sI, if_neg (by omega), s6 20 (by omega)]; simp [siR, gI_sI]
    · rw [gI_sI, if_neg (by omega), s6 21 (by omega)]; simp [siR, gI_sI]
    · obtain ⟨a1, a2, a3⟩ := w5 g
      exact ⟨by rw [advU_I _ S (by omega)]; exact a1, by rw [advU_I _ S (by omega)]; exact a2, by rw [advU_I _ S (by omega)]; exact a3, fun q => absurd rfl q⟩
  · rw [s6 19 (by omega)]; simp [siR, gI_sI]
theorem p_siteM (n : Nat) {X : pCx} {i op cr cc S C tb e : Nat} {E : Nat → Prop} {M ht : Nat → Nat} {ur uc : zMu} (hX : xOk X) (h : pOk X i i op cr cc S C tb e E M ht ur uc) (hi : i < xT X) (hS : S < 800) (hcc : cc ≤ 2400) :
    ∃ u6 u5 v, rf_newSite n ur 0 (-1) = some (nI S, u6) ∧ ce_C_addSite n (advU uc (i + 1)) 0 (nI (xpl X i)) (zL (advU uc (i + 1)) 7 8) = some (nI v, u5) ∧ zI u6 0 10 = nI i ∧ bC X u5 ∧ zI u5 2 2 = 0 ∧ (∀ j, zI u5 7 j = zI (advU uc (i + 1)) 7 j) ∧ (∀ w, xrk X (i + 1) = 1 → w < xN X → zL uc 11 (i + 1) = xPK X w → pOk X (i + 1) (i + 1) op cr cc (S + 1) C tb e (fun s => E s ∨ s = S) M ht (zsI (zsI u6 0 10 (nI (i + 1))) 22 S (nI w)) u5) ∧ pOk X (i + 1) (i + 1) op cr cc S C tb e E M ht (zsI ur 0 10 (nI (i + 1))) (advU uc (i + 1)) ∧ (∀ k j, k = 4 ∨ k = 5 ∨ k = 6 ∨ (k = 0 ∧ (j = 15 ∨ j = 10 ∨ j = 24 ∨ j = 27 ∨ j = 44)) ∨ k = 17 → zI u6 k j = zI ur k j) ∧ fPR (xr X) u6 ∧ (zI u5 2 3 = 0 → v = S ∧ zI uc 2 3 = 0) ∧ (∀ k q, 10 ≤ k → k ≤ 15 → zI u6 k q = zI ur k q) ∧ (∀ s, s < S → zI u6 19 s = zI ur 19 s) ∧ zI u6 19 S = nI 0 ∧ zI u6 20 S = nI (xpl X i) := by
  have hA := pOk_advC hX (pOk_advR hX h hi) hi
  have hC1 := pOk_advC hX h hi
  have hp := hX.p12
  have hP := hX.pl h.i
  have hplt := hX.plt hi
  have hT := hX.T
  have vL : zL (advU uc (i + 1)) 7 8 = zL uc 11 (i + 1) := by simp [advU, gL_sI, gL_sL]
  obtain ⟨fk, fp, fa, f80⟩ := hC1.2.2.2.2.2.2.1
  obtain ⟨r, V, F, vw, h0, h1, h2, h3, h4, h5⟩ := hC1.2.2.2.2.2.1
  have bV := h2.2.1
  have bV2 := h2.2.2.2.1
  obtain ⟨s1, s2, s3, s4, s5⟩ := h5
  obtain ⟨b, fk', fp', v, n1, n2, n3, n4, n5⟩ := p_site n hX.zpr fa hC1.2.2.2.1.2 (hC1.zp hX) hS s3 s4 f80 hP h.at (by omega) ((hX.tk h.1 h.2.1).1 i h.i).1.2.2.2.1 (nI 0) (-1) (zL (advU uc (i + 1)) 7 8)
  have w5 : S < 80 → zI (if S < 80 then siC (advU uc (i + 1)) (xp X) S (nI 0) (nI (xpl X i)) (zI (advU uc (i + 1)) 2 6) (zL (advU uc (i + 1)) 7 8) else notC (advU uc (i + 1)) b (xpl X i) 3) (xp X + 4) S = nI 0 ∧ zI (if S < 80 then siC (advU uc (i + 1)) (xp X) S (nI 0) (nI (xpl X i)) (zI (advU uc (i + 1)) 2 6) (zL (advU uc (i + 1)) 7 8) else notC (advU uc (i + 1)) b (xpl X i) 3) (xp X + 5) S = nI (xpl X i) ∧ zI (if S < 80 then siC (advU uc (i + 1)) (xp X) S (nI 0) (nI (xpl X i)) (zI (advU uc (i + 1)) 2 6) (zL (advU uc (i + 1)) 7 8) else notC (advU uc (i + 1)) b (xpl X i) 3) (xp X + 6) S = zI (advU uc (i + 1)) 2 6 ∧ zL (if S < 80 then siC (advU uc (i + 1)) (xp X) S (nI 0) (nI (xpl X i)) (zI (advU uc (i + 1)) 2 6) (zL (advU uc (i + 1)) 7 8) else notC (advU uc (i + 1)) b (xpl X i) 3) (xp X + 7) S = zL uc 11 (i + 1) := fun g => by
    rw [if_pos g, ← vL]
    generalize advU uc (i + 1) = z
    refine ⟨?_, ?_, ?_, ?_⟩ <;> simp [siC, gI_sI, gI_sL, gL_sI, gL_sL]
  have f5 : fPC (xp X) (xc X) (if S < 80 then siC (advU uc (i + 1)) (xp X) S (nI 0) (nI (xpl X i)) (zI (advU uc (i + 1)) 2 6) (zL (advU uc (i + 1)) 7 8) else notC (advU uc (i + 1)) b (xpl X i) 3) := by
    by_cases g : S < 80
    · rw [if_pos g]; exact fPC_si hC1.2.1
    · rw [if_neg g]; exact fPC_not hC1.2.1
  have c5 : ∀ a j, ¬ (a = 2 ∧ (j = 3 ∨ j = 4)) → ¬ (a = xp X ∧ j = 8) → ¬ (xp X + 4 ≤ a ∧ a ≤ xp X + 6 ∧ j = S) → zI (if S < 80 then siC (advU uc (i + 1)) (xp X) S (nI 0) (nI (xpl X i)) (zI (advU uc (i + 1)) 2 6) (zL (advU uc (i + 1)) 7 8) else notC (advU uc (i + 1)) b (xpl X i) 3) a j = zI (advU uc (i + 1)) a j := fun a j q1 q2 q3 => by
    by_cases g : S < 80
    · rw [if_pos g]; exact siC_W a j q2 q3
    · rw [if_neg g]; exact notC_W a j q1
  have l5 : ∀ a j, ¬ (a = xp X + 7 ∧ j = S) → zL (if S < 80 then siC (advU uc (i + 1)) (xp X) S (nI 0) (nI (xpl X i)) (zI (advU uc (i + 1)) 2 6) (zL (advU uc (i + 1)) 7 8) else notC (advU uc (i + 1)) b (xpl X i) 3) a j = zL (advU uc (i + 1)) a j := fun a j q => by
    by_cases g : S < 80
    · rw [if_pos g]; exact siC_L a j q
    · rw [if_neg g]; exact notC_L a j
  have k5 : ∀ j, j = 3 ∨ j = 4 → zI (if S < 80 then siC (advU uc (i + 1)) (xp X) S (nI 0) (nI (xpl X i)) (zI (advU uc (i + 1)) 2 6) (zL (advU uc (i + 1)) 7 8) else notC (advU uc (i + 1)) b (xpl X i) 3) 2 j = zI (notC (advU uc (i + 1)) b (xpl X i) 3) 2 j := fun j q => by
    by_cases g : S < 80
    · rw [if_pos g, (n5 g).1]; exact siC_W 2 j (by omega) (by omega)
    · rw [if_neg g]
  have p8 : zI (if S < 80 then siC (advU uc (i + 1)) (xp X) S (nI 0) (nI (xpl X i)) (zI (advU uc (i + 1)) 2 6) (zL (advU uc (i + 1)) 7 8) else notC (advU uc (i + 1)) b (xpl X i) 3) (xp X) 8 = nI (min (S + 1) 80) := by
    by_cases g : S < 80
    · rw [if_pos g, show min (S + 1) 80 = S + 1 by omega]; simp [siC, gI_sI]
    · rw [if_neg g, notC_W _ _ (by omega), s4, show min (S + 1) 80 = min S 80 by omega]
  revert n2 f5 c5 l5 k5 p8 w5
  generalize (if S < 80 then siC (advU uc (i + 1)) (xp X) S (nI 0) (nI (xpl X i)) (zI (advU uc (i + 1)) 2 6) (zL (advU uc (i + 1)) 7 8) else notC (advU uc (i + 1)) b (xpl X i) 3) = u5
  intro n2 w5 f5 c5 l5 k5 p8
  have hok5 : zI u5 2 3 = 0 → zI (advU uc (i + 1)) 2 3 = 0 ∧ S < 80 := fun q => by
    rw [k5 3 (by omega)] at q
    by_cases g : S < 80
    · rw [(n5 g).1] at q; exact ⟨q, g⟩
    · exfalso
      have := n4 (by omega)
      rcases n3 with ⟨z, -⟩ | ⟨z1, z2, z3, z4, z5, z6⟩
      · exact this.1 z
      · rw [z5] at q; exact nI_ne0 (by omega) (by omega) q
  have g6 : ∀ a j, ¬ (a = 0 ∧ (j = 16 ∨ j = 17 ∨ j = 39)) → ¬ (19 ≤ a ∧ a ≤ 22 ∧ j = S) → zI (zsI (notR (siR ur S (nI 0) (nI (xpl X i)) (zI ur 0 27) (-1)) b (xpl X i) 3) 0 39 (nI (S + 1))) a j = zI ur a j := fun a j q1 q2 => by
    rw [gI_sI, if_neg (by omega), notR_W a j (by omega), siR_W a j q2]
  have s6 : ∀ a, 19 ≤ a → zI (zsI (notR (siR ur S (nI 0) (nI (xpl X i)) (zI ur 0 27) (-1)) b (xpl X i) 3) 0 39 (nI (S + 1))) a S = zI (siR ur S (nI 0) (nI (xpl X i)) (zI ur 0 27) (-1)) a S := fun a q => by
    rw [gI_sI, if_neg (by omega), notR_W a S (by omega)]
  have f6 : fPR (xr X) (zsI (notR (siR ur S (nI 0) (nI (xpl X i)) (zI ur 0 27) (-1)) b (xpl X i) 3) 0 39 (nI (S + 1))) := fPR_I (fPR_not (fPR_si h.1)) (by unfold pwR; omega)
  have hcC := h.2.2.2.2.2.2.2.2.2
  have hcF := h3.1
  have hcF2 := h3.2.2.1
  refine ⟨_, u5, v, n1, n2, ?_, ⟨f5, ?_⟩, ?_, fun j => c5 7 j (by omega) (by omega) (by omega), fun w hk hw hL => ?_, hA, fun k j q => g6 k j (by omega) (by omega), f6, fun q => ⟨(n5 (hok5 q).2).2, by rw [← advU_I (u := uc) (i := i + 1) 2 3 (by omega)]; exact (hok5 q).1⟩, fun k q _ _ => g6 k q (by omega) (by omega), fun s hs => g6 19 s (by omega) (by omega), ?_, by rw [s6 20 (by omega)]; simp [siR, gI_sI]⟩
  · rw [g6 0 10 (by omega) (by omega)]; exact h.at
  · exact ⟨cc, min (S + 1) 80, V, C, F, hcc, by rw [c5 _ 3 (by omega) (by omega) (by omega)]; exact hC1.cc, by omega, p8, bV, by rw [c5 2 8 (by omega) (by omega) (by omega)]; exact bV2, hcC.2.2.1, by rw [c5 2 12 (by omega) (by omega) (by omega)]; exact hC1.2.2.2.2.2.2.2.2.2.2.1, hcF, by rw [c5 _ 12 (by omega) (by omega) (by omega)]; exact hcF2⟩
  · rw [c5 2 2 (by omega) (by omega) (by omega)]; exact hC1.2.2.2.1.2
  · refine pOk_site hX hC1 hi hS (k := 0) (by omega) (fPR_I (fPR_I f6 (by unfold pwR; omega)) (by unfold pwR; omega)) f5 ⟨⟨hi, by rw [gI_sI, if_neg (by omega)]; simp [gI_sI]⟩, pAc_keep hC1.2.2.1.2 (fun j => c5 7 j (by omega) (by omega) (by omega)) (fun j => l5 7 j (by omega)) (fun j => l5 11 j (by omega))⟩ ⟨fk', fp', pFa_keep n3 (fun j q => ?_) (fun j q => k5 j q), fun q => ⟨(n4 (by omega)).1, by have := (n4 (by omega)).2; omega⟩⟩ (fun a j q1 q2 => ?_) (fun a j q1 q2 q3 q4 => c5 a j q2 q3 q4) (fun a j q1 q2 => l5 a j q2) hok5 ?_ p8 ?_ ?_ ?_ (fun g => ?_)
    · rw [gI_sI, if_neg (by omega), gI_sI, if_neg (by omega), gI_sI, if_neg (by omega)]
      exact notR_c (siR_W 0 j (by omega))
    · rw [gI_sI, if_neg (by omega), gI_sI, if_neg (by omega)]; exact g6 a j (by omega) q2
    · rw [gI_sI, if_neg (by omega), gI_sI, if_neg (by omega), gI_sI, if_pos ⟨rfl, rfl⟩]
    · rw [gI_sI, if_neg (by omega), gI_sI, if_neg (by omega), s6 19 (by omega)]; simp [siR, gI_sI]
    · rw [gI_sI, if_neg (by omega), gI_sI, if_neg (by omega), s6 20 (by omega)]; simp [siR, gI_sI]
    · rw [gI_sI, if_neg (by omega), gI_sI, if_neg (by omega), s6 21 (by omega)]; simp [siR, gI_sI]
    · obtain ⟨a1, a2, a3, a4⟩ := w5 g
      exact ⟨a1, a2, a3, fun _ => ⟨w, hw, by simp [gI_sI], a4.trans hL⟩⟩
  · rw [s6 19 (by omega)]; simp [siR, gI_sI]
