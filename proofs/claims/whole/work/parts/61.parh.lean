/-! PARSING, eighth part: the fields of the state of a parse -/
def pFn (X : pCx) (tb : Nat) (M ht : Nat → Nat) (ur uc : zMu) (F : Nat) : Prop :=
  F ≤ 8 ∧ zI ur 0 33 = nI F ∧ zI uc (xp X) 12 = nI F ∧ ∀ f, f < F → ∃ w q nn, w < xN X ∧ zI ur 14 f = nI w ∧ zL uc (xp X + 8) f = xPK X w ∧ q ≤ tb ∧ ht q = 0 ∧ zI ur 15 f = nI q ∧ zI uc (xp X + 9) f = nI (M q) ∧ nn ≤ 4 ∧ zI ur 16 f = nI nn ∧ zI uc (xp X + 10) f = nI nn
def pMn (X : pCx) (tb : Nat) (M ht : Nat → Nat) (ur uc : zMu) (r : Nat) : Prop := r = 9 → ∃ q, q ≤ tb ∧ ht q = 0 ∧ zI ur 0 34 = nI q ∧ zI uc (xp X) 13 = nI (M q)
def pSi (X : pCx) (S e F : Nat) (ur uc : zMu) : Prop :=
  S ≤ 800 ∧ (e < S ∨ 800 ≤ e) ∧ zI ur 0 39 = nI S ∧ zI uc (xp X) 8 = nI (min S 80) ∧ (zI uc 2 3 = 0 → S ≤ 80 ∧ ∀ s, s < S → ∃ k P, k ≤ 3 ∧ P ≤ 1500 ∧ zI ur 19 s = nI k ∧ zI uc (xp X + 4) s = nI (if s = e then 1 else k) ∧ zI ur 20 s = nI P ∧ zI uc (xp X + 5) s = nI P ∧ zI uc (xp X + 6) s = zI ur 21 s ∧ (zI ur 21 s = -1 ∨ ∃ f, f < F ∧ zI ur 21 s = nI f) ∧ (k ≠ 3 → ∃ w, w < xN X ∧ zI ur 22 s = nI w ∧ zL uc (xp X + 7) s = xPK X w))
def pSx (S cr : Nat) (E : Nat → Prop) (ur uc : zMu) : Prop :=
  (∀ s, E s → s < S) ∧ (zI uc 2 3 = 0 → (∀ r o, r < cr → zI ur 10 r = nI o → 5 ≤ o → o ≤ 8 → ∃ a, a < S ∧ ¬ E a ∧ zI ur 11 r = nI a ∧ zI ur 19 a = nI (o - 5)) ∧ (∀ r r' o o', r < cr → r' < cr → zI ur 10 r = nI o → 5 ≤ o → o ≤ 8 → zI ur 10 r' = nI o' → 5 ≤ o' → o' ≤ 8 → zI ur 11 r = zI ur 11 r' → r = r'))
def pCa (X : pCx) (C cr : Nat) (M : Nat → Nat) (ur uc : zMu) : Prop :=
  zI ur 0 44 = nI C ∧ zI uc 2 12 = nI C ∧ C ≤ 500 ∧ (∀ c, c < C → ∃ q w nn P, q < cr ∧ zI ur 10 q = nI 17 ∧ zI ur 23 c = nI q ∧ zI uc 6 c = nI (M q) ∧ zI ur 24 c = nI w ∧ w < xN X ∧ zL uc 4 c = xPK X w ∧ nn ≤ 4 ∧ zI ur 25 c = nI nn ∧ zI uc 5 c = nI nn ∧ zI ur 12 q = nI nn ∧ P ≤ 1500 ∧ zI ur 26 c = nI P ∧ zI uc (xp X + 3) (M q) = nI P) ∧ (∀ r, r < cr → zI ur 10 r = nI 17 → ∃ c, c < C ∧ zI ur 23 c = nI r)
/-- variables, fns, sites of the routine r -/
def pVs (X : pCx) (tb S e : Nat) (M ht : Nat → Nat) (ur uc : zMu) : Prop := ∃ r V F vw, ((r = 9 ∨ r < F) ∧ F = xF X ∧ r = xR X) ∧ pRo ur uc r ∧ pVa (xPK X) (xN X) ur uc r V vw ∧ pFn X tb M ht ur uc F ∧ pMn X tb M ht ur uc r ∧ pSi X S e F ur uc
/-- the faults so far -/
def pFt (X : pCx) (i S : Nat) (ur uc : zMu) : Prop := ∃ fk fp, pFa ur uc fk fp ∧ (80 < S → fk ≠ 0 ∧ fp < xpl X i)
def pAr (X : pCx) (ur : zMu) (i : Nat) : Prop := i ≤ xT X ∧ zI ur 0 10 = nI i
def pAc (X : pCx) (uc : zMu) (i : Nat) : Prop := i ≤ xT X ∧ zI uc 7 5 = nI i ∧ zI uc 7 6 = nI (xck X i) ∧ zI uc 7 7 = nI (xpl X i) ∧ zL uc 7 8 = zL uc 11 i
/-- the reference stands at token i, the class at token i2 -/
def pOk (X : pCx) (i i2 op cr cc S C tb e : Nat) (E : Nat → Prop) (M ht : Nat → Nat) (ur uc : zMu) : Prop :=
  fPR (xr X) ur ∧ fPC (xp X) (xc X) uc ∧ (pAr X ur i ∧ pAc X uc i2) ∧ (zI ur 0 15 = -1 ∧ zI uc 2 2 = 0) ∧ (op ≤ 8 ∧ zI ur 0 26 = nI op ∧ zI uc 2 5 = nI op) ∧ pVs X tb S e M ht ur uc ∧ pFt X i S ur uc ∧ pCo (xp X) 80 ur uc cr cc tb M ht (zI uc 2 3 = 0) ∧ pSx S cr E ur uc ∧ pCa X C cr M ur uc
/-! keeping -/
theorem pAr_keep {X : pCx} {ur vr : zMu} {i : Nat} (h : pAr X ur i) (hr : zI vr 0 10 = zI ur 0 10) : pAr X vr i := ⟨h.1, hr.trans h.2⟩
theorem pAc_keep {X : pCx} {uc vc : zMu} {i : Nat} (h : pAc X uc i) (hc : ∀ j, zI vc 7 j = zI uc 7 j) (h8 : ∀ j, zL vc 7 j = zL uc 7 j) (h11 : ∀ j, zL vc 11 j = zL uc 11 j) : pAc X vc i := by
  obtain ⟨a1, a3, a4, a5, a6⟩ := h
  exact ⟨a1, (hc 5).trans a3, (hc 6).trans a4, (hc 7).trans a5, by rw [h8, h11]; exact a6⟩
theorem pAt_keep {X : pCx} {ur uc vr vc : zMu} {i i2 : Nat} (h : pAr X ur i ∧ pAc X uc i2) (hr : zI vr 0 10 = zI ur 0 10) (hc : ∀ j, zI vc 7 j = zI uc 7 j) (h8 : ∀ j, zL vc 7 j = zL uc 7 j) (h11 : ∀ j, zL vc 11 j = zL uc 11 j) : pAr X vr i ∧ pAc X vc i2 := ⟨pAr_keep h.1 hr, pAc_keep h.2 hc h8 h11⟩
theorem pRo_keep {ur uc vr vc : zMu} {r : Nat} (h : pRo ur uc r) (hr : zI vr 0 27 = zI ur 0 27) (hc : zI vc 2 6 = zI uc 2 6) : pRo vr vc r := by
  unfold pRo at h ⊢; rw [hr, hc]; exact h
theorem pVa_keep {PK : Nat → Int64} {N : Nat} {ur uc vr vc : zMu} {r V : Nat} {vw : Nat → Nat} (h : pVa PK N ur uc r V vw) (hr : ∀ k j, 17 ≤ k → k ≤ 18 → zI vr k j = zI ur k j) (hc : zI vc 2 8 = zI uc 2 8) (hl : ∀ j, zL vc 3 j = zL uc 3 j) : pVa PK N vr vc r V vw := by
  obtain ⟨v1, v2, v3, v4, v5⟩ := h
  refine ⟨v1, v2, by rw [hr 17 _ (by omega) (by omega)]; exact v3, hc.trans v4, fun j hj => ?_⟩
  rw [hr 18 _ (by omega) (by omega), hl]
  exact v5 j hj
theorem pFn_keep {X : pCx} {tb tb' : Nat} {M ht M' ht' : Nat → Nat} {ur uc vr vc : zMu} {F : Nat} (h : pFn X tb M ht ur uc F) (ht2 : tb ≤ tb') (hM : ∀ q, q ≤ tb → M' q = M q ∧ ht' q = ht q) (hr : ∀ k j, (k = 0 ∧ j = 33) ∨ (14 ≤ k ∧ k ≤ 16) → zI vr k j = zI ur k j) (hc : ∀ k j, (k = xp X ∧ j = 12) ∨ k = xp X + 9 ∨ k = xp X + 10 → zI vc k j = zI uc k j) (hl : ∀ j, zL vc (xp X + 8) j = zL uc (xp X + 8) j) : pFn X tb' M' ht' vr vc F := by
  obtain ⟨f1, f2, f3, f4⟩ := h
  refine ⟨f1, by rw [hr 0 33 (by omega)]; exact f2, by rw [hc _ 12 (by omega)]; exact f3, fun f hf => ?_⟩
  obtain ⟨w, q, nn, g1, g2, g3, g4, g5, g6, g7, g8, g9, g10⟩ := f4 f hf
  refine ⟨w, q, nn, g1, by rw [hr 14 f (by omega)]; exact g2, by rw [hl]; exact g3, by omega, by rw [(hM q g4).2]; exact g5, by rw [hr 15 f (by omega)]; exact g6, ?_, g8, by rw [hr 16 f (by omega)]; exact g9, by rw [hc _ f (Or.inr (Or.inr rfl))]; exact g10⟩
  rw [hc _ f (Or.inr (Or.inl rfl)), (hM q g4).1]; exact g7
theorem pMn_keep {X : pCx} {tb tb' : Nat} {M ht M' ht' : Nat → Nat} {ur uc vr vc : zMu} {r : Nat} (h : pMn X tb M ht ur uc r) (ht2 : tb ≤ tb') (hM : ∀ q, q ≤ tb → M' q = M q ∧ ht' q = ht q) (hr : zI vr 0 34 = zI ur 0 34) (hc : zI vc (xp X) 13 = zI uc (xp X) 13) : pMn X tb' M' ht' vr vc r := by
  intro e
  obtain ⟨q, g1, g2, g3, g4⟩ := h e
  exact ⟨q, by omega, by rw [(hM q g1).2]; exact g2, hr.trans g3, by rw [hc, (hM q g1).1]; exact g4⟩
theorem pSi_keep {X : pCx} {S e F : Nat} {ur uc vr vc : zMu} (h : pSi X S e F ur uc) (hr : ∀ k j, (k = 0 ∧ j = 39) ∨ (19 ≤ k ∧ k ≤ 22) → zI vr k j = zI ur k j) (hc : ∀ k j, (k = xp X ∧ j = 8) ∨ (xp X + 4 ≤ k ∧ k ≤ xp X + 6) → zI vc k j = zI uc k j) (hl : ∀ j, zL vc (xp X + 7) j = zL uc (xp X + 7) j) (ho : zI vc 2 3 = 0 → zI uc 2 3 = 0) : pSi X S e F vr vc := by
  obtain ⟨s1, s2, s3, s4, s5⟩ := h
  refine ⟨s1, s2, by rw [hr 0 39 (by omega)]; exact s3, by rw [hc _ 8 (by omega)]; exact s4, fun q => ⟨(s5 (ho q)).1, fun s hs => ?_⟩⟩
  have g := (s5 (ho q)).2 s hs
  rw [hr 19 s (by omega), hr 20 s (by omega), hr 21 s (by omega), hr 22 s (by omega), hc _ s (Or.inr (by omega : xp X + 4 ≤ xp X + 4 ∧ xp X + 4 ≤ xp X + 6)), hc _ s (Or.inr (by omega : xp X + 4 ≤ xp X + 5 ∧ xp X + 5 ≤ xp X + 6)), hc _ s (Or.inr (by omega : xp X + 4 ≤ xp X + 6 ∧ xp X + 6 ≤ xp X + 6)), hl]
  exact g
theorem pVs_keep {X : pCx} {tb tb' S e : Nat} {M ht M' ht' : Nat → Nat} {ur uc vr vc : zMu} (h : pVs X tb S e M ht ur uc) (ht2 : tb ≤ tb') (hM : ∀ q, q ≤ tb → M' q = M q ∧ ht' q = ht q)
    (hr : ∀ k j, (k = 0 ∧ (j = 27 ∨ j = 33 ∨ j = 34 ∨ j = 39)) ∨ (14 ≤ k ∧ k ≤ 22) → zI vr k j = zI ur k j)
    (hc : ∀ k j, (k = 2 ∧ (j = 6 ∨ j = 8)) ∨ (k = xp X ∧ (j = 8 ∨ j = 12 ∨ j = 13)) ∨ (xp X + 4 ≤ k ∧ k ≤ xp X + 10) → zI vc k j = zI uc k j)
    (hl : ∀ k j, k = 3 ∨ k = xp X + 7 ∨ k = xp X + 8 → zL vc k j = zL uc k j) (ho : zI vc 2 3 = 0 → zI uc 2 3 = 0) : pVs X tb' S e M' ht' vr vc := by
  obtain ⟨r, V, F, vw, h0, h1, h2, h3, h4, h5⟩ := h
  refine ⟨r, V, F, vw, h0, pRo_keep h1 (hr 0 27 (by omega)) (hc 2 6 (by omega)), pVa_keep h2 (fun k j a b => hr k j (by omega)) (hc 2 8 (by omega)) (fun j => hl 3 j (by omega)), pFn_keep h3 ht2 hM (fun k j q => hr k j (by omega)) (fun k j q => hc k j (by omega)) (fun j => hl _ j (by omega)), pMn_keep h4 ht2 hM (hr 0 34 (by omega)) (hc _ 13 (by omega)), pSi_keep h5 (fun k j q => hr k j (by omega)) (fun k j q => hc k j (by omega)) (fun j => hl _ j (by omega)) ho⟩
theorem pFa_keep {ur uc vr vc : zMu} {fk fp : Nat} (h : pFa ur uc fk fp) (hr : ∀ j, j = 16 ∨ j = 17 → zI vr 0 j = zI ur 0 j) (hc : ∀ j, j = 3 ∨ j = 4 → zI vc 2 j = zI uc 2 j) : pFa vr vc fk fp := by
  unfold pFa at h ⊢
  rw [hr 16 (by omega), hr 17 (by omega), hc 3 (by omega), hc 4 (by omega)]
  exact h
theorem pFt_keep {X : pCx} {i i' S : Nat} {ur uc vr vc : zMu} (h : pFt X i S ur uc) (hi : xpl X i ≤ xpl X i') (hr : ∀ j, j = 16 ∨ j = 17 → zI vr 0 j = zI ur 0 j) (hc : ∀ j, j = 3 ∨ j = 4 → zI vc 2 j = zI uc 2 j) : pFt X i' S vr vc := by
  obtain ⟨fk, fp, h1, h2⟩ := h
  exact ⟨fk, fp, pFa_keep h1 hr hc, fun q => ⟨(h2 q).1, by have := (h2 q).2; omega⟩⟩
theorem pIns_keep {p S tb : Nat} {M ht : Nat → Nat} {ur uc vr vc : zMu} {r : Nat} (h : pIns p S tb M ht ur uc r) (hr : ∀ k j, 10 ≤ k → k ≤ 13 → zI vr k j = zI ur k j) (hc : ∀ k j, p + 1 ≤ k → k ≤ p + 3 → zI vc k j = zI uc k j) : pIns p S tb M ht vr vc r := by
  obtain ⟨o, a, b, c, x, c2, w, i1, i2, i3, i4, i5, i6, i7, i8, i9, i10, i11⟩ := h
  refine ⟨o, a, b, c, x, c2, w, ?_, ?_, ?_, ?_, i5, ?_, ?_, ?_, ?_, i10, insC_mono i11 (fun q => ⟨q.1, q.2.1, q.2.2.1, q.2.2.2.1, by rw [hr 10 a (by omega) (by omega)]; exact q.2.2.2.2⟩)⟩
  · rw [hr 10 r (by omega) (by omega)]; exact i1
  · rw [hr 11 r (by omega) (by omega)]; exact i2
  · rw [hr 12 r (by omega) (by omega)]; exact i3
  · rw [hr 13 r (by omega) (by omega)]; exact i4
  · rw [hc (p + 1) _ (by omega) (by omega)]; exact i6
  · rw [hc (p + 2) _ (by omega) (by omega)]; exact i7
  · rw [hc (p + 1) _ (by omega) (by omega), hc (p + 3) _ (by omega) (by omega)]; exact i8
  · rw [hc (p + 3) _ (by omega) (by omega)]; exact i9
theorem pCo_keep {p S : Nat} {ur uc vr vc : zMu} {cr cc tb : Nat} {M ht : Nat → Nat} {ok ok' : Prop} (h : pCo p S ur uc cr cc tb M ht ok) (ho : ok' → ok) (hr : ∀ k j, (k = 0 ∧ j = 24) ∨ (10 ≤ k ∧ k ≤ 13) → zI vr k j = zI ur k j) (hc : ∀ k j, (k = p ∧ j = 3) ∨ (p + 1 ≤ k ∧ k ≤ p + 3) → zI vc k j = zI uc k j) : pCo p S vr vc cr cc tb M ht ok' := by
  obtain ⟨g1, g2, g3, g4, g5, g6, g7⟩ := h
  exact ⟨by rw [hr 0 24 (by omega)]; exact g1, by rw [hc p 3 (by omega)]; exact g2, g3, g4, g5, g6, fun q r hr' => pIns_keep (g7 (ho q) r hr') (fun k j a b => hr k j (by omega)) (fun k j a b => hc k j (by omega))⟩
theorem pSx_keep {S cr : Nat} {E : Nat → Prop} {ur uc vr vc : zMu} (h : pSx S cr E ur uc) (hr : ∀ k j, k = 10 ∨ k = 11 ∨ k = 19 → zI vr k j = zI ur k j) (ho : zI vc 2 3 = 0 → zI uc 2 3 = 0) : pSx S cr E vr vc := by
  refine ⟨h.1, fun q => ?_⟩
  obtain ⟨h1, h2⟩ := h.2 (ho q)
  refine ⟨fun r o a b c d => ?_, fun r r' o o' a b c d e f g i j => ?_⟩
  · rw [hr 10 r (by omega)] at b
    obtain ⟨x, x1, x2, x3, x4⟩ := h1 r o a b c d
    exact ⟨x, x1, x2, by rw [hr 11 r (by omega)]; exact x3, by rw [hr 19 x (by omega)]; exact x4⟩
  · rw [hr 10 _ (by omega)] at c f
    rw [hr 11 _ (by omega), hr 11 _ (by omega)] at j
    exact h2 r r' o o' a b c d e f g i j
theorem pCa_keep {X : pCx} {C cr : Nat} {M : Nat → Nat} {ur uc vr vc : zMu} (h : pCa X C cr M ur uc) (hr : ∀ k j, (k = 0 ∧ j = 44) ∨ k = 10 ∨ k = 12 ∨ (23 ≤ k ∧ k ≤ 26) → zI vr k j = zI ur k j) (hc : ∀ k j, (k = 2 ∧ j = 12) ∨ k = 5 ∨ k = 6 ∨ k = xp X + 3 → zI vc k j = zI uc k j) (hl : ∀ j, zL vc 4 j = zL uc 4 j) : pCa X C cr M vr vc := by
  obtain ⟨c1, c2, c3, c4, c5⟩ := h
  refine ⟨by rw [hr 0 44 (by omega)]; exact c1, by rw [hc 2 12 (by omega)]; exact c2, c3, fun c hc' => ?_, fun r hr' hx => ?_⟩
  · obtain ⟨q, w, nn, P, d1, d2, d3, d4, d5, d6, d7, d8, d9, d10, d11, d12, d13, d14⟩ := c4 c hc'
    exact ⟨q, w, nn, P, d1, by rw [hr 10 q (by omega)]; exact d2, by rw [hr 23 c (by omega)]; exact d3, by rw [hc 6 c (by omega)]; exact d4, by rw [hr 24 c (by omega)]; exact d5, d6, by rw [hl]; exact d7, d8, by rw [hr 25 c (by omega)]; exact d9, by rw [hc 5 c (by omega)]; exact d10, by rw [hr 12 q (by omega)]; exact d11, d12, by rw [hr 26 c (by omega)]; exact d13, by rw [hc _ (M q) (by omega)]; exact d14⟩
  · rw [hr 10 r (by omega)] at hx
    obtain ⟨c, e1, e2⟩ := c5 r hr' hx
    exact ⟨c, e1, by rw [hr 23 c (by omega)]; exact e2⟩
