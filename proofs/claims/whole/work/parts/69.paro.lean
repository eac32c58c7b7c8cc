/-! PARSING, sixteenth part: turning sites -/
/-- the class turns a site while the reference waits (e' = a), or both do (kd) -/
theorem pOk_turn {X : pCx} {i i2 op cr cc S C tb e : Nat} {E : Nat → Prop} {M ht : Nat → Nat} {ur uc vr vc : zMu} (hX : xOk X) (h : pOk X i i2 op cr cc S C tb e E M ht ur uc) {a kr : Nat} (e' : Nat) (ha : a < S) (hE : zI uc 2 3 = 0 → E a) (he : e = a ∨ 800 ≤ e) (he' : e' = a ∨ 800 ≤ e') (hk : kr < 3)
    (f2 : fPC (xp X) (xc X) vc) (hr : ∀ k j, zI vr k j = if k = 19 ∧ j = a then nI kr else zI ur k j) (f1 : fPR (xr X) vr) (hc : ∀ k j, k ≠ xp X + 4 → zI vc k j = zI uc k j) (hl : ∀ k j, zL vc k j = zL uc k j)
    (h4 : zI uc 2 3 = 0 → zI ur 19 a = nI 0 ∧ ∀ j, zI vc (xp X + 4) j = if j = a then nI (if e' = a then 1 else kr) else zI uc (xp X + 4) j) :
    pOk X i i2 op cr cc S C tb e' E M ht vr vc := by
  obtain ⟨g1, g2, g3, g4, g5, g6, g7, g8, g9, g10⟩ := h
  have hp := hX.p12
  have hr' : ∀ k j, k ≠ 19 → zI vr k j = zI ur k j := fun k j q => by rw [hr, if_neg (by omega)]
  have hok : zI vc 2 3 = 0 → zI uc 2 3 = 0 := fun q => by rw [hc 2 3 (by omega)] at q; exact q
  refine ⟨f1, f2, pAt_keep g3 (hr' 0 10 (by omega)) (fun j => hc 7 j (by omega)) (fun j => hl 7 j) (fun j => hl 11 j), ⟨(hr' 0 15 (by omega)).trans g4.1, (hc 2 2 (by omega)).trans g4.2⟩, ⟨g5.1, (hr' 0 26 (by omega)).trans g5.2.1, (hc 2 5 (by omega)).trans g5.2.2⟩, ?_, ?_, ?_, ?_, ?_⟩
  · obtain ⟨r, V, F, vw, h0, h1, h2, h3, h5, h6⟩ := g6
    refine ⟨r, V, F, vw, h0, pRo_keep h1 (hr' 0 27 (by omega)) (hc 2 6 (by omega)), pVa_keep h2 (fun k j a b => hr' k j (by omega)) (hc 2 8 (by omega)) (fun j => hl 3 j), pFn_keep h3 (Nat.le_refl _) (fun q _ => ⟨rfl, rfl⟩) (fun k j q => hr' k j (by omega)) (fun k j q => hc k j (by omega)) (fun j => hl _ j), pMn_keep h5 (Nat.le_refl _) (fun q _ => ⟨rfl, rfl⟩) (hr' 0 34 (by omega)) (hc _ 13 (by omega)), ?_⟩
    obtain ⟨s1, s2, s3, s4, s5⟩ := h6
    refine ⟨s1, by omega, by rw [hr' 0 39 (by omega)]; exact s3, by rw [hc _ 8 (by omega)]; exact s4, fun q => ⟨(s5 (hok q)).1, fun s hs => ?_⟩⟩
    obtain ⟨k, P, k1, k2, k3, k4, k5, k6, k7, k8, k9⟩ := (s5 (hok q)).2 s hs
    obtain ⟨t1, t2⟩ := h4 (hok q)
    rw [hr' 20 s (by omega), hr' 21 s (by omega), hr' 22 s (by omega), hc (xp X + 5) s (by omega), hc (xp X + 6) s (by omega), hl, hr 19 s, t2 s]
    by_cases es : s = a
    · subst es
      have hk0 : k ≠ 3 := fun z => by
        rw [t1] at k3
        have := (nI_eq (by omega) (by omega)).mp k3
        omega
      refine ⟨kr, P, by omega, k2, by rw [if_pos ⟨rfl, rfl⟩], ?_, k5, k6, k7, k8, fun _ => k9 hk0⟩
      rw [if_pos rfl]
      by_cases z : e' = s
      · rw [if_pos z, if_pos z.symm]
      · rw [if_neg z, if_neg (fun y => z y.symm)]
    · refine ⟨k, P, k1, k2, by rw [if_neg (by omega)]; exact k3, ?_, k5, k6, k7, k8, k9⟩
      have n1 : ¬ s = e := by clear k9 k8; omega
      have n2 : ¬ s = e' := by clear k9 k8; omega
      rw [if_neg es, k4, if_neg n1, if_neg n2]
  · exact pFt_keep g7 (Nat.le_refl _) (fun j q => hr' 0 j (by omega)) (fun j q => hc 2 j (by omega))
  · exact pCo_keep g8 hok (fun k j q => hr' k j (by omega)) (fun k j q => hc k j (by omega))
  · refine ⟨g9.1, fun q => ?_⟩
    obtain ⟨h1, h2⟩ := g9.2 (hok q)
    refine ⟨fun r o a' b c d => ?_, fun r r' o o' a b c d e f g i j => ?_⟩
    · rw [hr' 10 r (by omega)] at b
      obtain ⟨x, x1, x2, x3, x4⟩ := h1 r o a' b c d
      have hx : x ≠ a := fun z => x2 (z ▸ hE (hok q))
      exact ⟨x, x1, x2, by rw [hr' 11 r (by omega)]; exact x3, by rw [hr 19 x, if_neg (by omega)]; exact x4⟩
    · rw [hr' 10 _ (by omega)] at c f
      rw [hr' 11 _ (by omega), hr' 11 _ (by omega)] at j
      exact h2 r r' o o' a b c d e f g i j
  · exact pCa_keep g10 (fun k j q => hr' k j (by omega)) (fun k j q => hc k j (by omega)) (fun j => hl 4 j)
/-! PARSING, seventeenth part: the class alone, in bounds -/
def bC (X : pCx) (u : zMu) : Prop := fPC (xp X) (xc X) u ∧ ∃ L S V C F, L ≤ 2400 ∧ zI u (xp X) 3 = nI L ∧ S ≤ 80 ∧ zI u (xp X) 8 = nI S ∧ V ≤ 12 ∧ zI u 2 8 = nI V ∧ C ≤ 500 ∧ zI u 2 12 = nI C ∧ F ≤ 8 ∧ zI u (xp X) 12 = nI F
/-- not refused yet, at place w; refused at place w -/
def bC0 (X : pCx) (w : Nat) (u : zMu) : Prop := bC X u ∧ zI u 2 2 = 0 ∧ zI u 7 7 = nI w
def bC1 (X : pCx) (w : Nat) (u : zMu) : Prop := bC X u ∧ zI u 2 2 = 1 ∧ zI u 2 3 = 1 ∧ zI u 2 4 = nI w ∧ zI u 7 6 = 256 ∧ True
theorem pOk.bC {X : pCx} {i i2 op cr cc S C tb e : Nat} {E : Nat → Prop} {M ht : Nat → Nat} {ur uc : zMu} (h : pOk X i i2 op cr cc S C tb e E M ht ur uc) (hcc : cc ≤ 2400) : bC0 X (xpl X i2) uc := by
  obtain ⟨g1, g2, g3, g4, g5, g6, g7, g8, g9, g10⟩ := h
  obtain ⟨r, V, F, vw, h0, h1, h2, h3, h4, h5⟩ := g6
  exact ⟨⟨g2, cc, min S 80, V, C, F, hcc, g8.2.1, by omega, h5.2.2.2.1, h2.2.1, h2.2.2.2.1, g10.2.2.1, g10.2.1, h3.1, h3.2.2.1⟩, g4.2, g3.2.2.2.2.1⟩
theorem bC_zp {X : pCx} {u : zMu} (hX : xOk X) (h : bC X u) : zR u 2 1 = xp X := hX.zp h.1
theorem bC_emit (n : Nat) {X : pCx} {u : zMu} (hX : xOk X) (h : bC X u) (o a w : Int32) : ∃ r v, ce_P_emit n (xp X) u o a w = some (r, v) ∧ bC X v ∧ ∀ k j, k < 12 → zI v k j = zI u k j := by
  have hp := hX.p12
  obtain ⟨f, L, S, V, C, F, b1, b2, b3, b4, b5, b6, b7, b8, b9, b10⟩ := h
  unfold ce_P_emit
  rw [b2]
  by_cases g : L < 2400
  · have hz : zin (nI L) 2400 = true := zin_nI g (by decide)
    have hx : zx (nI L) = L := zx_nI (by omega)
    rw [if_pos (show nI L < 2400 from nI_lt (b := 2400) g (by decide))]
    have e1 : ∀ k j, k ≠ xp X → zI (zsI u (xp X + 1) L (vp_nar .byte (o.toInt8.toInt32))) (xp X) j = zI u (xp X) j := fun k j _ => by rw [gI_sI, if_neg (by omega)]
    refine ⟨nI L, emC u (xp X) L (vp_nar .byte (o.toInt8.toInt32)) a (vp_nar .short (w.toInt16.toInt32)), ?_, ⟨fPC_em f, L + 1, S, V, C, F, by omega, by simp [emC, gI_sI], b3, ?_, b5, ?_, b7, ?_, b9, ?_⟩, fun k j q => emC_W k j (by omega) (by omega)⟩
    · unfold emC
      simp [zlet, zgd, gI_sI, b2, hz, hx, nI_1]
    · rw [emC_W _ _ (by omega) (by omega)]; exact b4
    · rw [emC_W _ _ (by omega) (by omega)]; exact b6
    · rw [emC_W _ _ (by omega) (by omega)]; exact b8
    · rw [emC_W _ _ (by omega) (by omega)]; exact b10
  · rw [if_neg (show ¬ nI L < 2400 from nI_nlt (b := 2400) (by omega) (by omega))]
    exact ⟨2399, u, rfl, ⟨f, L, S, V, C, F, b1, b2, b3, b4, b5, b6, b7, b8, b9, b10⟩, fun _ _ _ => rfl⟩
/-- what keeps the bounds' cells -/
theorem bC_keep {X : pCx} {u v : zMu} (h : bC X u) (f : fPC (xp X) (xc X) v) (hc : ∀ k j, (k = xp X ∧ (j = 3 ∨ j = 8 ∨ j = 12)) ∨ (k = 2 ∧ (j = 8 ∨ j = 12)) → zI v k j = zI u k j) : bC X v := by
  obtain ⟨-, L, S, V, C, F, b1, b2, b3, b4, b5, b6, b7, b8, b9, b10⟩ := h
  exact ⟨f, L, S, V, C, F, b1, by rw [hc _ 3 (by omega)]; exact b2, b3, by rw [hc _ 8 (by omega)]; exact b4, b5, by rw [hc 2 8 (by omega)]; exact b6, b7, by rw [hc 2 12 (by omega)]; exact b8, b9, by rw [hc _ 12 (by omega)]; exact b10⟩
theorem bC0_refuse (n : Nat) {X : pCx} {u : zMu} {w : Nat} (hX : xOk X) (h : bC0 X w u) : ∃ v, ce_C_refuse n u = some ((), v) ∧ bC1 X w v := by
  have hp := hX.p12
  obtain ⟨b, h2, h7⟩ := h
  refine ⟨_, c_refuse n h2 h7, bC_keep b ?_ (fun k j q => ?_), ?_, ?_, ?_, ?_, trivial⟩
  · exact fPC_I (fPC_I (fPC_I (fPC_I b.1 (by unfold pwC; omega)) (by unfold pwC; omega)) (by unfold pwC; omega)) (by unfold pwC; omega)
  · unfold refU
    rw [gI_sI, if_neg (by omega), gI_sI, if_neg (by omega), gI_sI, if_neg (by omega), gI_sI, if_neg (by omega)]
  · simp [refU, gI_sI]
  · simp [refU, gI_sI]
  · simp [refU, gI_sI]
  · simp [refU, gI_sI]
theorem bC1_refuse (n : Nat) {X : pCx} {u : zMu} {w : Nat} (hX : xOk X) (h : bC1 X w u) : ∃ v, ce_C_refuse n u = some ((), v) ∧ bC1 X w v := by
  have hp := hX.p12
  obtain ⟨b, h2, h3, h4, h6, h5⟩ := h
  refine ⟨zsI u 7 6 256, ?_, bC_keep b ?_ (fun k j q => ?_), ?_, ?_, ?_, ?_, trivial⟩
  · unfold ce_C_refuse
    rw [if_neg (by rw [h2]; decide)]
    rfl
  · exact fPC_I b.1 (by unfold pwC; omega)
  · rw [gI_sI, if_neg (by omega)]
  · rw [gI_sI, if_neg (by omega)]; exact h2
  · rw [gI_sI, if_neg (by omega)]; exact h3
  · rw [gI_sI, if_neg (by omega)]; exact h4
  · simp [gI_sI]
/-- what keeps a refused class's cells -/
theorem bC1_keep {X : pCx} {u v : zMu} {w : Nat} (h : bC1 X w u) (b : bC X v) (hc : ∀ k j, (k = 2 ∧ 2 ≤ j ∧ j ≤ 4) ∨ k = 7 → zI v k j = zI u k j) : bC1 X w v := by
  obtain ⟨-, h2, h3, h4, h6, h5⟩ := h
  exact ⟨b, by rw [hc 2 2 (by omega)]; exact h2, by rw [hc 2 3 (by omega)]; exact h3, by rw [hc 2 4 (by omega)]; exact h4, by rw [hc 7 6 (by omega)]; exact h6, trivial⟩
theorem bC0_keep {X : pCx} {u v : zMu} {w : Nat} (h : bC0 X w u) (b : bC X v) (hc : ∀ k j, (k = 2 ∧ j = 2) ∨ (k = 7 ∧ j = 7) → zI v k j = zI u k j) : bC0 X w v := by
  obtain ⟨-, h2, h3⟩ := h
  exact ⟨b, by rw [hc 2 2 (by omega)]; exact h2, by rw [hc 7 7 (by omega)]; exact h3⟩
