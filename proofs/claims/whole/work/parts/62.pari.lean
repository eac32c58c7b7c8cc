/-! PARSING, ninth part: steps that keep code, sites, calls and names -/
theorem xOk.p12 {X : pCx} (h : xOk X) : 12 ≤ xp X := by rcases h.1 with e | e <;> omega
theorem xOk.plt {X : pCx} (h : xOk X) {i : Nat} (hi : i < xT X) : xpl X i < xpl X (i + 1) := h.2.2.2.2.1.2.1 i hi
theorem pOk_same {X : pCx} {i i2 i' i2' op op' cr cc S C tb e : Nat} {E : Nat → Prop} {M ht : Nat → Nat} {ur uc vr vc : zMu} (hX : xOk X) (h : pOk X i i2 op cr cc S C tb e E M ht ur uc) (f1 : fPR (xr X) vr) (f2 : fPC (xp X) (xc X) vc) (ha : pAr X vr i' ∧ pAc X vc i2') (ho : op' ≤ 8 ∧ zI vr 0 26 = nI op' ∧ zI vc 2 5 = nI op') (hi : xpl X i ≤ xpl X i')
    (hr : ∀ k j, ¬ (k = 0 ∧ (j = 10 ∨ j = 25 ∨ j = 26)) → zI vr k j = zI ur k j) (hc : ∀ k j, ¬ (k = 7 ∨ (k = 2 ∧ j = 5)) → zI vc k j = zI uc k j) (hl : ∀ k j, k ≠ 7 → zL vc k j = zL uc k j) : pOk X i' i2' op' cr cc S C tb e E M ht vr vc := by
  obtain ⟨h1, h2, h3, h4, h5, h6, h7, h8, h9, h10⟩ := h
  have hp := hX.p12
  have hok : zI vc 2 3 = 0 → zI uc 2 3 = 0 := fun q => by rw [hc 2 3 (by omega)] at q; exact q
  refine ⟨f1, f2, ha, ⟨(hr 0 15 (by omega)).trans h4.1, (hc 2 2 (by omega)).trans h4.2⟩, ho, ?_, ?_, ?_, ?_, ?_⟩
  · exact pVs_keep h6 (Nat.le_refl _) (fun q _ => ⟨rfl, rfl⟩) (fun k j q => hr k j (by omega)) (fun k j q => hc k j (by omega)) (fun k j q => hl k j (by omega)) hok
  · exact pFt_keep h7 hi (fun j q => hr 0 j (by omega)) (fun j q => hc 2 j (by omega))
  · exact pCo_keep h8 hok (fun k j q => hr k j (by omega)) (fun k j q => hc k j (by omega))
  · exact pSx_keep h9 (fun k j q => hr k j (by omega)) hok
  · exact pCa_keep h10 (fun k j q => hr k j (by omega)) (fun k j q => hc k j (by omega)) (fun j => hl 4 j (by omega))
theorem advU_I {u : zMu} {i : Nat} (k j : Nat) (h : k ≠ 7) : zI (advU u i) k j = zI u k j := by
  unfold advU
  rw [gI_sL, gI_sI, if_neg (by omega), gI_sI, if_neg (by omega), gI_sI, if_neg (by omega)]
theorem advU_L {u : zMu} {i : Nat} (k j : Nat) (h : k ≠ 7) : zL (advU u i) k j = zL u k j := by
  unfold advU
  rw [gL_sL, if_neg (by omega)]; rfl
theorem fPC_adv {p : Nat} {u v : zMu} {i : Nat} (h : fPC p u v) : fPC p u (advU v i) := fPC_L (fPC_I (fPC_I (fPC_I h (by unfold pwC; omega)) (by unfold pwC; omega)) (by unfold pwC; omega)) (by unfold pwC; omega)
theorem pOk_advR {X : pCx} {i i2 op cr cc S C tb e : Nat} {E : Nat → Prop} {M ht : Nat → Nat} {ur uc : zMu} (hX : xOk X) (h : pOk X i i2 op cr cc S C tb e E M ht ur uc) (hi : i < xT X) : pOk X (i + 1) i2 op cr cc S C tb e E M ht (zsI ur 0 10 (nI (i + 1))) uc :=
  pOk_same hX h (fPR_I h.1 (by unfold pwR; omega)) h.2.1 ⟨⟨hi, by simp [gI_sI]⟩, h.2.2.1.2⟩
    ⟨h.2.2.2.2.1.1, by rw [gI_sI, if_neg (by omega)]; exact h.2.2.2.2.1.2.1, h.2.2.2.2.1.2.2⟩ (Nat.le_of_lt (hX.plt hi))
    (fun k j q => by rw [gI_sI, if_neg (by omega)]) (fun k j q => rfl) (fun k j q => rfl)
theorem pAc_adv {X : pCx} {uc : zMu} (hX : xOk X) {i : Nat} (f2 : fPC (xp X) (xc X) uc) (hi : i < xT X) : pAc X (advU uc (i + 1)) (i + 1) := by
  obtain ⟨a1, a2, a3, a4, a5, a6⟩ := ((hX.tk (fPR_rf _) f2).1 (i + 1) (by omega)).1
  refine ⟨by omega, ?_, ?_, ?_, ?_⟩
  · simp [advU, gI_sI, gI_sL]
  · simp [advU, gI_sI, gI_sL, a3]
  · simp [advU, gI_sI, gI_sL, a5]
  · simp [advU, gL_sI, gL_sL]
theorem pOk_advC {X : pCx} {i i2 op cr cc S C tb e : Nat} {E : Nat → Prop} {M ht : Nat → Nat} {ur uc : zMu} (hX : xOk X) (h : pOk X i i2 op cr cc S C tb e E M ht ur uc) (hi : i2 < xT X) : pOk X i (i2 + 1) op cr cc S C tb e E M ht ur (advU uc (i2 + 1)) :=
  pOk_same hX h h.1 (fPC_adv h.2.1) ⟨h.2.2.1.1, pAc_adv hX h.2.1 hi⟩
    ⟨h.2.2.2.2.1.1, h.2.2.2.2.1.2.1, by rw [advU_I 2 5 (by omega)]; exact h.2.2.2.2.1.2.2⟩ (Nat.le_refl _)
    (fun k j q => rfl) (fun k j q => advU_I k j (by omega)) (fun k j q => advU_L k j q)
/-- the kind of what was read: the reference's alone -/
theorem pOk_kind {X : pCx} {i i2 op cr cc S C tb e : Nat} {E : Nat → Prop} {M ht : Nat → Nat} {ur uc : zMu} (hX : xOk X) (h : pOk X i i2 op cr cc S C tb e E M ht ur uc) (v : Int32) : pOk X i i2 op cr cc S C tb e E M ht (zsI ur 0 25 v) uc :=
  pOk_same hX h (fPR_I h.1 (by unfold pwR; omega)) h.2.1 (pAt_keep h.2.2.1 (by rw [gI_sI, if_neg (by omega)]) (fun _ => rfl) (fun _ => rfl) (fun _ => rfl))
    ⟨h.2.2.2.2.1.1, by rw [gI_sI, if_neg (by omega)]; exact h.2.2.2.2.1.2.1, h.2.2.2.2.1.2.2⟩ (Nat.le_refl _)
    (fun k j q => by rw [gI_sI, if_neg (by omega)]) (fun k j q => rfl) (fun k j q => rfl)
theorem pOk_op {X : pCx} {i i2 op op' cr cc S C tb e : Nat} {E : Nat → Prop} {M ht : Nat → Nat} {ur uc : zMu} (hX : xOk X) (h : pOk X i i2 op cr cc S C tb e E M ht ur uc) (ho : op' ≤ 8) : pOk X i i2 op' cr cc S C tb e E M ht (zsI ur 0 26 (nI op')) (zsI uc 2 5 (nI op')) :=
  pOk_same hX h (fPR_I h.1 (by unfold pwR; omega)) (fPC_I h.2.1 (by unfold pwC; omega)) (pAt_keep h.2.2.1 (by rw [gI_sI, if_neg (by omega)]) (fun j => by rw [gI_sI, if_neg (by omega)]) (fun _ => rfl) (fun _ => rfl))
    ⟨ho, by simp [gI_sI], by simp [gI_sI]⟩ (Nat.le_refl _)
    (fun k j q => by rw [gI_sI, if_neg (by omega)]) (fun k j q => by rw [gI_sI, if_neg (by omega)]) (fun k j q => rfl)
/-! what is asked -/
theorem pOk.i {X : pCx} {i i2 op cr cc S C tb e : Nat} {E : Nat → Prop} {M ht : Nat → Nat} {ur uc : zMu} (h : pOk X i i2 op cr cc S C tb e E M ht ur uc) : i ≤ xT X := h.2.2.1.1.1
theorem pOk.i2 {X : pCx} {i i2 op cr cc S C tb e : Nat} {E : Nat → Prop} {M ht : Nat → Nat} {ur uc : zMu} (h : pOk X i i2 op cr cc S C tb e E M ht ur uc) : i2 ≤ xT X := h.2.2.1.2.1
theorem pOk.at {X : pCx} {i i2 op cr cc S C tb e : Nat} {E : Nat → Prop} {M ht : Nat → Nat} {ur uc : zMu} (h : pOk X i i2 op cr cc S C tb e E M ht ur uc) : zI ur 0 10 = nI i := h.2.2.1.1.2
theorem pOk.op8 {X : pCx} {i i2 op cr cc S C tb e : Nat} {E : Nat → Prop} {M ht : Nat → Nat} {ur uc : zMu} (h : pOk X i i2 op cr cc S C tb e E M ht ur uc) : op ≤ 8 := h.2.2.2.2.1.1
theorem pOk.now {X : pCx} {i i2 op cr cc S C tb e : Nat} {E : Nat → Prop} {M ht : Nat → Nat} {ur uc : zMu} (h : pOk X i i2 op cr cc S C tb e E M ht ur uc) (hX : xOk X) (n : Nat) : rf_now n ur = some (nI (xrk X i), ur) := r_now n (hX.tk h.1 h.2.1) h.i h.at
theorem pOk.place {X : pCx} {i i2 op cr cc S C tb e : Nat} {E : Nat → Prop} {M ht : Nat → Nat} {ur uc : zMu} (h : pOk X i i2 op cr cc S C tb e E M ht ur uc) (hX : xOk X) (n : Nat) : rf_place n ur = some (nI (xpl X i), ur) := r_place n (hX.tk h.1 h.2.1) h.i h.at
theorem pOk.nw {X : pCx} {i i2 op cr cc S C tb e : Nat} {E : Nat → Prop} {M ht : Nat → Nat} {ur uc : zMu} (h : pOk X i i2 op cr cc S C tb e E M ht ur uc) (n : Nat) : rf_isWrong n ur = some (0, ur) := r_isWrong0 n h.2.2.2.1.1
theorem pOk.kd {X : pCx} {i i2 op cr cc S C tb e : Nat} {E : Nat → Prop} {M ht : Nat → Nat} {ur uc : zMu} (h : pOk X i i2 op cr cc S C tb e E M ht ur uc) : zI uc 7 6 = nI (xck X i2) := h.2.2.1.2.2.2.1
theorem pOk.pc {X : pCx} {i i2 op cr cc S C tb e : Nat} {E : Nat → Prop} {M ht : Nat → Nat} {ur uc : zMu} (h : pOk X i i2 op cr cc S C tb e E M ht ur uc) : zI uc 7 7 = nI (xpl X i2) := h.2.2.1.2.2.2.2.1
theorem pOk.zp {X : pCx} {i i2 op cr cc S C tb e : Nat} {E : Nat → Prop} {M ht : Nat → Nat} {ur uc : zMu} (h : pOk X i i2 op cr cc S C tb e E M ht ur uc) (hX : xOk X) : zR uc 2 1 = xp X := hX.zp h.2.1
theorem pOk.adv {X : pCx} {i i2 op cr cc S C tb e : Nat} {E : Nat → Prop} {M ht : Nat → Nat} {ur uc : zMu} (h : pOk X i i2 op cr cc S C tb e E M ht ur uc) (hX : xOk X) (hi : i2 < xT X) (n : Nat) : ce_X_advance n uc = some ((), advU uc (i2 + 1)) := c_adv n h.2.2.1.2.2.1 (nI_1 i2) (hX.tk h.1 h.2.1).2.2.2.2 (by omega) (by have := hX.T; omega)
theorem pOk.cr {X : pCx} {i i2 op cr cc S C tb e : Nat} {E : Nat → Prop} {M ht : Nat → Nat} {ur uc : zMu} (h : pOk X i i2 op cr cc S C tb e E M ht ur uc) : zI ur 0 24 = nI cr := h.2.2.2.2.2.2.2.1.1
theorem pOk.cc {X : pCx} {i i2 op cr cc S C tb e : Nat} {E : Nat → Prop} {M ht : Nat → Nat} {ur uc : zMu} (h : pOk X i i2 op cr cc S C tb e E M ht ur uc) : zI uc (xp X) 3 = nI cc := h.2.2.2.2.2.2.2.1.2.1
theorem pOk.le {X : pCx} {i i2 op cr cc S C tb e : Nat} {E : Nat → Prop} {M ht : Nat → Nat} {ur uc : zMu} (h : pOk X i i2 op cr cc S C tb e E M ht ur uc) : cr ≤ cc := pCo_le h.2.2.2.2.2.2.2.1
theorem pOk.tb {X : pCx} {i i2 op cr cc S C tb e : Nat} {E : Nat → Prop} {M ht : Nat → Nat} {ur uc : zMu} (h : pOk X i i2 op cr cc S C tb e E M ht ur uc) : tb ≤ cr := h.2.2.2.2.2.2.2.1.2.2.2.2.2.1
/-- a name's, a number's token -/
theorem pOk.nm {X : pCx} {i i2 op cr cc S C tb e : Nat} {E : Nat → Prop} {M ht : Nat → Nat} {ur uc : zMu} (h : pOk X i i2 op cr cc S C tb e E M ht ur uc) (hX : xOk X) (hk : xrk X i = 1) : ∃ w, w < xN X ∧ zI ur 6 i = nI w ∧ zL uc 11 i = xPK X w := by
  have g := ((hX.tk h.1 h.2.1).1 i h.i).1.2.2.2.2.2
  obtain ⟨w, w1, w2, w3⟩ := g.2 hk
  exact ⟨w, w1, w2, w3⟩
theorem pOk.nb {X : pCx} {i i2 op cr cc S C tb e : Nat} {E : Nat → Prop} {M ht : Nat → Nat} {ur uc : zMu} (h : pOk X i i2 op cr cc S C tb e E M ht ur uc) (hX : xOk X) (hk : xrk X i = 2) : ∃ v, v < 536870912 ∧ zI ur 6 i = nI v ∧ zL uc 11 i = lN v := by
  have g := ((hX.tk h.1 h.2.1).1 i h.i).1.2.2.2.2.2
  obtain ⟨w, w1, w2, w3⟩ := g.1 hk
  exact ⟨w, w1, w2, w3⟩
theorem pOk.va {X : pCx} {i i2 op cr cc S C tb e : Nat} {E : Nat → Prop} {M ht : Nat → Nat} {ur uc : zMu} (h : pOk X i i2 op cr cc S C tb e E M ht ur uc) : zL uc 7 8 = zL uc 11 i2 := h.2.2.1.2.2.2.2.2
