/-! PARSING, fns, first part: the state ahead of a routine -/
/-- as pOk, with any field Vf of variables, fns and sites -/
def pGn (X : pCx) (i i2 op cr cc S C tb : Nat) (E : Nat → Prop) (M ht : Nat → Nat) (Vf : zMu → zMu → Prop) (ur uc : zMu) : Prop :=
  fPR (xr X) ur ∧ fPC (xp X) (xc X) uc ∧ (pAr X ur i ∧ pAc X uc i2) ∧ (zI ur 0 15 = -1 ∧ zI uc 2 2 = 0) ∧ (op ≤ 8 ∧ zI ur 0 26 = nI op ∧ zI uc 2 5 = nI op) ∧ Vf ur uc ∧ pFt X i S ur uc ∧ pCo (xp X) 80 ur uc cr cc tb M ht (zI uc 2 3 = 0) ∧ pSx S cr E ur uc ∧ pCa X C cr M ur uc
theorem pGn_ok {X : pCx} {i i2 op cr cc S C tb e : Nat} {E : Nat → Prop} {M ht : Nat → Nat} {ur uc : zMu} : pOk X i i2 op cr cc S C tb e E M ht ur uc ↔ pGn X i i2 op cr cc S C tb E M ht (fun ur uc => pVs X tb S e M ht ur uc) ur uc := Iff.rfl
theorem pGn_step {X : pCx} {i i2 op cr cc S C tb i' i2' op' tb' : Nat} {E : Nat → Prop} {M ht : Nat → Nat} {Vf Vf' : zMu → zMu → Prop} {ur uc vr vc : zMu} (hX : xOk X) (h : pGn X i i2 op cr cc S C tb E M ht Vf ur uc) (f1 : fPR (xr X) vr) (f2 : fPC (xp X) (xc X) vc) (ha : pAr X vr i' ∧ pAc X vc i2') (ho : op' ≤ 8 ∧ zI vr 0 26 = nI op' ∧ zI vc 2 5 = nI op') (V : Vf' vr vc) (hf : pFt X i' S vr vc) (hok : zI vc 2 3 = 0 → zI uc 2 3 = 0) (ht1 : tb ≤ tb') (ht2 : tb' ≤ cr)
    (hr : ∀ k j, (k = 0 ∧ (j = 15 ∨ j = 24 ∨ j = 44)) ∨ (10 ≤ k ∧ k ≤ 13) ∨ k = 19 ∨ (23 ≤ k ∧ k ≤ 26) → zI vr k j = zI ur k j) (hc : ∀ k j, (k = 2 ∧ (j = 2 ∨ j = 12)) ∨ k = 5 ∨ k = 6 ∨ (k = xp X ∧ j = 3) ∨ (xp X + 1 ≤ k ∧ k ≤ xp X + 3) → zI vc k j = zI uc k j) (hl : ∀ j, zL vc 4 j = zL uc 4 j) : pGn X i' i2' op' cr cc S C tb' E M ht Vf' vr vc := by
  obtain ⟨g1, g2, g3, g4, g5, g6, g7, g8, g9, g10⟩ := h
  refine ⟨f1, f2, ha, ⟨(hr 0 15 (by omega)).trans g4.1, (hc 2 2 (by omega)).trans g4.2⟩, ho, V, hf, ?_, ?_, ?_⟩
  · have := pCo_keep g8 hok (fun k j q => hr k j (by omega)) (fun k j q => hc k j (by omega))
    obtain ⟨d1, d2, d3, d4, d5, d6, d7⟩ := this
    exact ⟨d1, d2, d3, d4, d5, ht2, fun q r hr => pIns_tb (d7 q r hr) ht1⟩
  · exact pSx_keep g9 (fun k j q => hr k j (by omega)) hok
  · exact pCa_keep g10 (fun k j q => hr k j (by omega)) (fun k j q => hc k j (by omega)) hl
theorem pGn.i {X : pCx} {i i2 op cr cc S C tb : Nat} {E : Nat → Prop} {M ht : Nat → Nat} {Vf : zMu → zMu → Prop} {ur uc : zMu} (h : pGn X i i2 op cr cc S C tb E M ht Vf ur uc) : i ≤ xT X := h.2.2.1.1.1
theorem pGn.i2 {X : pCx} {i i2 op cr cc S C tb : Nat} {E : Nat → Prop} {M ht : Nat → Nat} {Vf : zMu → zMu → Prop} {ur uc : zMu} (h : pGn X i i2 op cr cc S C tb E M ht Vf ur uc) : i2 ≤ xT X := h.2.2.1.2.1
theorem pGn.at {X : pCx} {i i2 op cr cc S C tb : Nat} {E : Nat → Prop} {M ht : Nat → Nat} {Vf : zMu → zMu → Prop} {ur uc : zMu} (h : pGn X i i2 op cr cc S C tb E M ht Vf ur uc) : zI ur 0 10 = nI i := h.2.2.1.1.2
theorem pGn.now {X : pCx} {i i2 op cr cc S C tb : Nat} {E : Nat → Prop} {M ht : Nat → Nat} {Vf : zMu → zMu → Prop} {ur uc : zMu} (h : pGn X i i2 op cr cc S C tb E M ht Vf ur uc) (hX : xOk X) (n : Nat) : rf_now n ur = some (nI (xrk X i), ur) := r_now n (hX.tk h.1 h.2.1) h.i h.at
theorem pGn.place {X : pCx} {i i2 op cr cc S C tb : Nat} {E : Nat → Prop} {M ht : Nat → Nat} {Vf : zMu → zMu → Prop} {ur uc : zMu} (h : pGn X i i2 op cr cc S C tb E M ht Vf ur uc) (hX : xOk X) (n : Nat) : rf_place n ur = some (nI (xpl X i), ur) := r_place n (hX.tk h.1 h.2.1) h.i h.at
theorem pGn.nw {X : pCx} {i i2 op cr cc S C tb : Nat} {E : Nat → Prop} {M ht : Nat → Nat} {Vf : zMu → zMu → Prop} {ur uc : zMu} (h : pGn X i i2 op cr cc S C tb E M ht Vf ur uc) (n : Nat) : rf_isWrong n ur = some (0, ur) := r_isWrong0 n h.2.2.2.1.1
theorem pGn.kd {X : pCx} {i i2 op cr cc S C tb : Nat} {E : Nat → Prop} {M ht : Nat → Nat} {Vf : zMu → zMu → Prop} {ur uc : zMu} (h : pGn X i i2 op cr cc S C tb E M ht Vf ur uc) : zI uc 7 6 = nI (xck X i2) := h.2.2.1.2.2.2.1
theorem pGn.pc {X : pCx} {i i2 op cr cc S C tb : Nat} {E : Nat → Prop} {M ht : Nat → Nat} {Vf : zMu → zMu → Prop} {ur uc : zMu} (h : pGn X i i2 op cr cc S C tb E M ht Vf ur uc) : zI uc 7 7 = nI (xpl X i2) := h.2.2.1.2.2.2.2.1
theorem pGn.va {X : pCx} {i i2 op cr cc S C tb : Nat} {E : Nat → Prop} {M ht : Nat → Nat} {Vf : zMu → zMu → Prop} {ur uc : zMu} (h : pGn X i i2 op cr cc S C tb E M ht Vf ur uc) : zL uc 7 8 = zL uc 11 i2 := h.2.2.1.2.2.2.2.2
theorem pGn.zp {X : pCx} {i i2 op cr cc S C tb : Nat} {E : Nat → Prop} {M ht : Nat → Nat} {Vf : zMu → zMu → Prop} {ur uc : zMu} (h : pGn X i i2 op cr cc S C tb E M ht Vf ur uc) (hX : xOk X) : zR uc 2 1 = xp X := hX.zp h.2.1
theorem pGn.adv {X : pCx} {i i2 op cr cc S C tb : Nat} {E : Nat → Prop} {M ht : Nat → Nat} {Vf : zMu → zMu → Prop} {ur uc : zMu} (h : pGn X i i2 op cr cc S C tb E M ht Vf ur uc) (hX : xOk X) (hi : i2 < xT X) (n : Nat) : ce_X_advance n uc = some ((), advU uc (i2 + 1)) := c_adv n h.2.2.1.2.2.1 (nI_1 i2) (hX.tk h.1 h.2.1).2.2.2.2 (by omega) (by have := hX.T; omega)
theorem pGn.cr {X : pCx} {i i2 op cr cc S C tb : Nat} {E : Nat → Prop} {M ht : Nat → Nat} {Vf : zMu → zMu → Prop} {ur uc : zMu} (h : pGn X i i2 op cr cc S C tb E M ht Vf ur uc) : zI ur 0 24 = nI cr := h.2.2.2.2.2.2.2.1.1
theorem pGn.cc {X : pCx} {i i2 op cr cc S C tb : Nat} {E : Nat → Prop} {M ht : Nat → Nat} {Vf : zMu → zMu → Prop} {ur uc : zMu} (h : pGn X i i2 op cr cc S C tb E M ht Vf ur uc) : zI uc (xp X) 3 = nI cc := h.2.2.2.2.2.2.2.1.2.1
theorem pGn.le {X : pCx} {i i2 op cr cc S C tb : Nat} {E : Nat → Prop} {M ht : Nat → Nat} {Vf : zMu → zMu → Prop} {ur uc : zMu} (h : pGn X i i2 op cr cc S C tb E M ht Vf ur uc) : cr ≤ cc := pCo_le h.2.2.2.2.2.2.2.1
theorem pGn.nm {X : pCx} {i i2 op cr cc S C tb : Nat} {E : Nat → Prop} {M ht : Nat → Nat} {Vf : zMu → zMu → Prop} {ur uc : zMu} (h : pGn X i i2 op cr cc S C tb E M ht Vf ur uc) (hX : xOk X) (hk : xrk X i = 1) : ∃ w, w < xN X ∧ zI ur 6 i = nI w ∧ zL uc 11 i = xPK X w := by
  have g := ((hX.tk h.1 h.2.1).1 i h.i).1.2.2.2.2.2
  obtain ⟨w, w1, w2, w3⟩ := g.2 hk
  exact ⟨w, w1, w2, w3⟩
theorem pGn.ne {X : pCx} {i i2 op cr cc S C tb : Nat} {E : Nat → Prop} {M ht : Nat → Nat} {Vf : zMu → zMu → Prop} {ur uc : zMu} (h : pGn X i i2 op cr cc S C tb E M ht Vf ur uc) (hX : xOk X) {k c : Nat} (hkc : kRel k c) (hk : ¬ xrk X i2 = k) : zI uc 7 6 ≠ nI c := by
  rw [h.kd]
  exact fun q => hk ((hX.ck h.i2 hkc).mp q)
/-- what both need to refuse -/
theorem pGn.faulty {X : pCx} {i i2 op cr cc S C tb : Nat} {E : Nat → Prop} {M ht : Nat → Nat} {Vf : zMu → zMu → Prop} {ur uc : zMu} (h : pGn X i i2 op cr cc S C tb E M ht Vf ur uc) (n : Nat) (hX : xOk X) {K : Nat} (hK : cr ≤ K) (hK2 : 2200 ≤ K) (hr : ∃ r V, r ≤ 9 ∧ V ≤ 12 ∧ ((r = 9 ∧ zI ur 0 27 = -1) ∨ (r < 8 ∧ zI ur 0 27 = nI r)) ∧ zI ur 17 r = nI V) : ∃ v, rf_faulty n ur = some ((), v) ∧ bR1 X (xpl X i) K v := by
  refine ⟨zsI ur 0 15 (nI (xpl X i)), ?_, ?_⟩
  · unfold rf_faulty
    rw [if_pos h.2.2.2.1.1, zbd_e (h.place hX n)]
    rfl
  · obtain ⟨g1, g2, g3, g4, g5, g6, g7, g8, g9, g10⟩ := h
    obtain ⟨r, V, r1, r2, r3, r4⟩ := hr
    have hk : ∀ k j, ¬ (k = 0 ∧ j = 15) → zI (zsI ur 0 15 (nI (xpl X i))) k j = zI ur k j := fun k j q => by rw [gI_sI, if_neg q]
    exact ⟨fPR_I g1 (by unfold pwR; omega), hX.pl g3.1.1, by simp [gI_sI], ⟨cr, hK, by rw [hk _ _ (by omega)]; exact g8.1⟩, ⟨C, by have := g10.2.2.1; omega, by rw [hk _ _ (by omega)]; exact g10.1⟩, r, V, r1, r2, by rw [hk _ _ (by omega)]; exact r3, by rw [hk _ _ (by omega)]; exact r4⟩
theorem pGn.bC0 {X : pCx} {i i2 op cr cc S C tb : Nat} {E : Nat → Prop} {M ht : Nat → Nat} {Vf : zMu → zMu → Prop} {ur uc : zMu} (h : pGn X i i2 op cr cc S C tb E M ht Vf ur uc) (hcc : cc ≤ 2400) (hv : ∃ S' V F, S' ≤ 80 ∧ zI uc (xp X) 8 = nI S' ∧ V ≤ 12 ∧ zI uc 2 8 = nI V ∧ F ≤ 8 ∧ zI uc (xp X) 12 = nI F) : bC0 X (xpl X i2) uc := by
  obtain ⟨g1, g2, g3, g4, g5, g6, g7, g8, g9, g10⟩ := h
  obtain ⟨S', V, F, v1, v2, v3, v4, v5, v6⟩ := hv
  exact ⟨⟨g2, cc, S', V, C, F, hcc, g8.2.1, v1, v2, v3, v4, g10.2.2.1, g10.2.1, v5, v6⟩, g4.2, g3.2.2.2.2.1⟩
/-- fns and sites, ahead of a routine: F fns -/
def pVt (X : pCx) (tb S F : Nat) (M ht : Nat → Nat) (ur uc : zMu) : Prop := pFn X tb M ht ur uc F ∧ pSi X S 5000 F ur uc ∧ (∃ V, V ≤ 12 ∧ zI uc 2 8 = nI V) ∧ ∃ r V, r ≤ 9 ∧ V ≤ 12 ∧ ((r = 9 ∧ zI ur 0 27 = -1) ∨ (r < 8 ∧ zI ur 0 27 = nI r)) ∧ zI ur 17 r = nI V
theorem pVt.rt {X : pCx} {tb S F : Nat} {M ht : Nat → Nat} {ur uc : zMu} (h : pVt X tb S F M ht ur uc) : ∃ S' V F', S' ≤ 80 ∧ zI uc (xp X) 8 = nI S' ∧ V ≤ 12 ∧ zI uc 2 8 = nI V ∧ F' ≤ 8 ∧ zI uc (xp X) 12 = nI F' := by
  obtain ⟨h1, h2, ⟨V, h3, h4⟩, -⟩ := h
  exact ⟨min S 80, V, F, by omega, h2.2.2.2.1, h3, h4, h1.1, h1.2.2.1⟩
theorem pVt_keep {X : pCx} {tb tb' S F : Nat} {M ht : Nat → Nat} {ur uc vr vc : zMu} (h : pVt X tb S F M ht ur uc) (htb : tb ≤ tb') (hr : ∀ k j, (k = 0 ∧ (j = 27 ∨ j = 33 ∨ j = 39)) ∨ (14 ≤ k ∧ k ≤ 17) ∨ (19 ≤ k ∧ k ≤ 22) → zI vr k j = zI ur k j) (hc : ∀ k j, (k = 2 ∧ j = 8) ∨ (k = xp X ∧ (j = 8 ∨ j = 12)) ∨ (xp X + 4 ≤ k ∧ k ≤ xp X + 10) → zI vc k j = zI uc k j) (hl : ∀ k j, k = xp X + 7 ∨ k = xp X + 8 → zL vc k j = zL uc k j) (ho : zI vc 2 3 = 0 → zI uc 2 3 = 0) : pVt X tb' S F M ht vr vc := by
  obtain ⟨h1, h2, ⟨V, h3, h4⟩, r, V', r1, r2, r3, r4⟩ := h
  exact ⟨pFn_keep h1 htb (fun q _ => ⟨rfl, rfl⟩) (fun k j q => hr k j (by omega)) (fun k j q => hc k j (by omega)) (fun j => hl _ j (by omega)), pSi_keep h2 (fun k j q => hr k j (by omega)) (fun k j q => hc k j (by omega)) (fun j => hl _ j (by omega)) ho, ⟨V, h3, by rw [hc 2 8 (by omega)]; exact h4⟩, r, V', r1, r2, by rw [hr 0 27 (by omega)]; exact r3, by rw [hr 17 r (by omega)]; exact r4⟩
theorem pOk.top {X : pCx} {i i2 op cr cc S C tb : Nat} {E : Nat → Prop} {M ht : Nat → Nat} {ur uc : zMu} (h : pOk X i i2 op cr cc S C tb 5000 E M ht ur uc) : pGn X i i2 op cr cc S C tb E M ht (pVt X tb S (xF X) M ht) ur uc := by
  obtain ⟨g1, g2, g3, g4, g5, ⟨r, V, F, vw, ⟨h0, rfl, -⟩, h1, h2, h3, h4, h5⟩, g7⟩ := h
  refine ⟨g1, g2, g3, g4, g5, ⟨h3, h5, ⟨V, h2.2.1, h2.2.2.2.1⟩, r, V, h2.1, h2.2.1, ?_, h2.2.2.1⟩, g7⟩
  rcases h1 with ⟨q, q1, -⟩ | ⟨q, q1, -⟩
  · exact Or.inl ⟨q, q1⟩
  · exact Or.inr ⟨q, q1⟩
