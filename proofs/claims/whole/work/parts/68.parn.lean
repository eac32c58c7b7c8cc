/-! PARSING, fifteenth part: variables, calls, kinds of sites -/
theorem zgd_t {α : Type} (x : Option α) : zgd true x = x := rfl
theorem pOk_find (n : Nat) (hn : 2000 ≤ n) {X : pCx} {i i2 op cr cc S C tb e : Nat} {E : Nat → Prop} {M ht : Nat → Nat} {ur uc : zMu} (hX : xOk X) (h : pOk X i i2 op cr cc S C tb e E M ht ur uc) {w : Nat} (hw : w < xN X) :
    (∃ j, j < 12 ∧ rf_findVar n ur (nI w) = some (nI j, ur) ∧ ce_C_variableNamed n uc (xPK X w) = some (nI j, uc)) ∨ (rf_findVar n ur (nI w) = some (-1, ur) ∧ ce_C_variableNamed n uc (xPK X w) = some (-1, uc)) := by
  obtain ⟨r, V, F, vw, h0, h1, h2, -⟩ := h.2.2.2.2.2.1
  rcases p_findVar n hn hX.2.2.1 hX.2.2.2.1 h2 h1 hw with ⟨j, j1, j2, j3, j4⟩ | ⟨j1, j2, j3⟩
  · exact Or.inl ⟨j, by have := h2.2.1; omega, j3, j4⟩
  · exact Or.inr ⟨j2, j3⟩
theorem vaR_W {u : zMu} {r V w : Nat} (k j : Nat) (h : k ≠ 17) (h2 : k ≠ 18) : zI (vaR u r V w) k j = zI u k j := by
  unfold vaR; rw [gI_sI, if_neg (by omega), gI_sI, if_neg (by omega)]
theorem vaC_W {u : zMu} {V : Nat} {x : Int64} (k j : Nat) (h : ¬ (k = 2 ∧ j = 8)) : zI (vaC u V x) k j = zI u k j := by
  unfold vaC; rw [gI_sI, if_neg h, gI_sL]
theorem vaC_L {u : zMu} {V : Nat} {x : Int64} (k j : Nat) (h : k ≠ 3) : zL (vaC u V x) k j = zL u k j := by
  unfold vaC; rw [gL_sI, gL_sL, if_neg (by omega)]
theorem pOk_va {X : pCx} {i i2 op cr cc S C tb e : Nat} {E : Nat → Prop} {M ht : Nat → Nat} {ur uc : zMu} (hX : xOk X) (h : pOk X i i2 op cr cc S C tb e E M ht ur uc) {r V F w : Nat} {vw' : Nat → Nat} (hv : pVa (xPK X) (xN X) (vaR ur r V w) (vaC uc V (xPK X w)) r (V + 1) vw') (h0 : (r = 9 ∨ r < F) ∧ F = xF X ∧ r = xR X) (h1 : pRo ur uc r) (h3 : pFn X tb M ht ur uc F) (h4 : pMn X tb M ht ur uc r) (h5 : pSi X S e F ur uc) : pOk X i i2 op cr cc S C tb e E M ht (vaR ur r V w) (vaC uc V (xPK X w)) := by
  obtain ⟨g1, g2, g3, g4, g5, g6, g7, g8, g9, g10⟩ := h
  have hp := hX.p12
  have hr : ∀ k j, ¬ (k = 17 ∨ k = 18) → zI (vaR ur r V w) k j = zI ur k j := fun k j q => vaR_W k j (by omega) (by omega)
  have hc : ∀ k j, ¬ (k = 2 ∧ j = 8) → zI (vaC uc V (xPK X w)) k j = zI uc k j := fun k j q => vaC_W k j q
  have hl : ∀ k j, k ≠ 3 → zL (vaC uc V (xPK X w)) k j = zL uc k j := fun k j q => vaC_L k j q
  have hok : zI (vaC uc V (xPK X w)) 2 3 = 0 → zI uc 2 3 = 0 := fun q => by rw [hc 2 3 (by omega)] at q; exact q
  refine ⟨fPR_I (fPR_I g1 (by unfold pwR; omega)) (by unfold pwR; omega), fPC_I (fPC_L g2 (by unfold pwC; omega)) (by unfold pwC; omega), pAt_keep g3 (hr 0 10 (by omega)) (fun j => hc 7 j (by omega)) (fun j => hl 7 j (by omega)) (fun j => hl 11 j (by omega)), ⟨(hr 0 15 (by omega)).trans g4.1, (hc 2 2 (by omega)).trans g4.2⟩, ⟨g5.1, (hr 0 26 (by omega)).trans g5.2.1, (hc 2 5 (by omega)).trans g5.2.2⟩, ⟨r, V + 1, F, vw', h0, pRo_keep h1 (hr 0 27 (by omega)) (hc 2 6 (by omega)), hv, ?_, ?_, ?_⟩, ?_, ?_, ?_, ?_⟩
  · exact pFn_keep h3 (Nat.le_refl _) (fun q _ => ⟨rfl, rfl⟩) (fun k j q => hr k j (by omega)) (fun k j q => hc k j (by omega)) (fun j => hl _ j (by omega))
  · exact pMn_keep h4 (Nat.le_refl _) (fun q _ => ⟨rfl, rfl⟩) (hr 0 34 (by omega)) (hc _ 13 (by omega))
  · exact pSi_keep h5 (fun k j q => hr k j (by omega)) (fun k j q => hc k j (by omega)) (fun j => hl _ j (by omega)) hok
  · exact pFt_keep g7 (Nat.le_refl _) (fun j q => hr 0 j (by omega)) (fun j q => hc 2 j (by omega))
  · exact pCo_keep g8 hok (fun k j q => hr k j (by omega)) (fun k j q => hc k j (by omega))
  · exact pSx_keep g9 (fun k j q => hr k j (by omega)) hok
  · exact pCa_keep g10 (fun k j q => hr k j (by omega)) (fun k j q => hc k j (by omega)) (fun j => hl 4 j (by omega))
theorem pOk_addVar (n : Nat) (hn : 2000 ≤ n) {X : pCx} {i i2 op cr cc S C tb e : Nat} {E : Nat → Prop} {M ht : Nat → Nat} {ur uc : zMu} (hX : xOk X) (h : pOk X i i2 op cr cc S C tb e E M ht ur uc) {w P : Nat} (hw : w < xN X) (hP : P ≤ 1500) (hno : rf_findVar n ur (nI w) = some (-1, ur)) :
    ∃ vr vc v x, rf_addVar n ur (nI w) (nI P) = some ((), vr) ∧ ce_C_addVariable n uc (xPK X w) (nI P) = some (nI v, vc) ∧ pOk X i i2 op cr cc S C tb e E M ht vr vc ∧ rf_findVar n vr (nI w) = some (x, vr) ∧ (zI vc 2 3 = 0 → v < 12 ∧ x = nI v) ∧ (zI vc 2 3 = 0 → zI uc 2 3 = 0) ∧ (∀ k q, 10 ≤ k → k ≤ 15 → zI vr k q = zI ur k q) ∧ (∀ s, zI vr 19 s = zI ur 19 s) := by
  obtain ⟨r, V, F, vw, h0, h1, h2, h3, h4, h5⟩ := h.2.2.2.2.2.1
  have hfr : ∀ j, j < V → vw j ≠ w := by
    rcases p_findVar n hn hX.2.2.1 hX.2.2.2.1 h2 h1 hw with ⟨j, j1, j2, j3, j4⟩ | ⟨j1, j2, j3⟩
    · rw [hno] at j3
      exact absurd (congrArg Prod.fst (Option.some.inj j3)).symm (nI_m1 (by have := h2.2.1; omega))
    · exact j1
  by_cases hV : V < 12
  · obtain ⟨a1, a2, a3⟩ := p_addVar n hn h2 h1 hw hno hV (nI P) (nI P)
    have hk := pOk_va hX h a3 h0 h1 h3 h4 h5
    have hro : pRo (vaR ur r V w) (vaC uc V (xPK X w)) r := pRo_keep h1 (vaR_W 0 27 (by omega) (by omega)) (vaC_W 2 6 (by omega))
    refine ⟨_, _, V, nI V, a1, a2, hk, ?_, fun _ => ⟨hV, rfl⟩, fun q => by rw [vaC_W 2 3 (by omega)] at q; exact q, fun k q _ _ => vaR_W k q (by omega) (by omega), fun q => vaR_W 19 q (by omega) (by omega)⟩
    rcases p_findVar n hn hX.2.2.1 hX.2.2.2.1 a3 hro hw with ⟨j, j1, j2, j3, j4⟩ | ⟨j1, j2, j3⟩
    · have : j = V := by
        by_cases g : j = V
        · exact g
        · rw [if_neg g] at j2
          exact absurd j2 (hfr j (by omega))
      subst this
      exact j3
    · exact absurd (if_pos rfl) (j1 V (by omega))
  · have hV12 : V = 12 := by have := h2.2.1; omega
    subst hV12
    obtain ⟨b, b1, b2, b3, b4⟩ := pOk_note n (w := P) (k := 3) hX h (by omega) hP
    refine ⟨notR ur b P 3, notC uc b P 3, 0, ?_⟩
    have hz : zin (nI r) 10 = true := zin_nI (by have := h2.1; omega) (by decide)
    have hx : zx (nI r) = r := zx_nI (by have := h2.1; omega)
    have j17 : rf_addVar_J17 n ur (nI w) (nI P) (nI r) = some ((), notR ur b P 3) := by
      unfold rf_addVar_J17
      rw [zbd_e hno, if_pos rfl, hz, hx, h2.2.2.1, zgd_t, if_pos (show nI 12 = 12 from rfl), show (3 : Int32) = nI 3 from rfl, zbd_e b1]
    have fin : ∃ x, rf_findVar n (notR ur b P 3) (nI w) = some (x, notR ur b P 3) := by
      rcases pOk_find n hn hX b3 hw with ⟨j, -, j2, -⟩ | ⟨j1, -⟩
      · exact ⟨_, j2⟩
      · exact ⟨_, j1⟩
    obtain ⟨x, fx⟩ := fin
    refine ⟨x, ?_, ?_, b3, fx, fun q => absurd q b4, fun q => absurd q b4, fun k q _ _ => notR_W k q (by omega), fun q => notR_W 19 q (by omega)⟩
    · unfold rf_addVar
      rcases h1 with ⟨rfl, q1, -⟩ | ⟨-, q1, -⟩
      · rw [if_pos q1]; exact j17
      · rw [if_neg (by rw [q1]; exact nI_m1 (by have := h2.1; omega)), q1]; exact j17
    · unfold ce_C_addVariable
      rw [h2.2.2.2.1, if_neg (show ¬ nI 12 < 12 by decide)]
      show zbd (ce_C_note n uc (nI 3) (nI P)) _ = _
      rw [zbd_e b2]
      rfl
/-! calls -/
def caR (u : zMu) (C : Nat) (q w m P : Int32) : zMu := zsI (zsI (zsI (zsI (zsI u 23 C q) 24 C w) 25 C m) 26 C P) 0 44 (nI (C + 1))
def caC (u : zMu) (C : Nat) (x : Int64) (m q : Int32) : zMu := zsI (zsI (zsI (zsL u 4 C x) 5 C m) 6 C q) 2 12 (nI (C + 1))
theorem caR_W {u : zMu} {C : Nat} {q w m P : Int32} (k j : Nat) (h : ¬ (k = 0 ∧ j = 44)) (h2 : ¬ (23 ≤ k ∧ k ≤ 26 ∧ j = C)) : zI (caR u C q w m P) k j = zI u k j := by
  unfold caR
  rw [gI_sI, if_neg (by omega), gI_sI, if_neg (by omega), gI_sI, if_neg (by omega), gI_sI, if_neg (by omega), gI_sI, if_neg (by omega)]
theorem caC_W {u : zMu} {C : Nat} {x : Int64} {m q : Int32} (k j : Nat) (h : ¬ (k = 2 ∧ j = 12)) (h2 : ¬ (5 ≤ k ∧ k ≤ 6 ∧ j = C)) : zI (caC u C x m q) k j = zI u k j := by
  unfold caC
  rw [gI_sI, if_neg (by omega), gI_sI, if_neg (by omega), gI_sI, if_neg (by omega), gI_sL]
theorem caC_L {u : zMu} {C : Nat} {x : Int64} {m q : Int32} (k j : Nat) (h : ¬ (k = 4 ∧ j = C)) : zL (caC u C x m q) k j = zL u k j := by
  unfold caC
  rw [gL_sI, gL_sI, gL_sI, gL_sL, if_neg h]
theorem pOk_call {X : pCx} {i i2 op cr cc S C tb e : Nat} {E : Nat → Prop} {M ht : Nat → Nat} {ur uc : zMu} (hX : xOk X) (h : pOk X i i2 op cr cc S C tb e E M ht ur uc) {w nn P : Nat} (hw : w < xN X) (hn : nn ≤ 4) (hP : P ≤ 1500) (hC : C < 500) (hh : ht cr ≤ 60) (hnn : nn + 1 ≤ ht cr) :
    pOk X i i2 op (cr + 1) (cc + 1) S (C + 1) tb e E (fun r => if r = cr + 1 then cc + 1 else M r) (fun r => if r = cr + 1 then ht cr + 1 - nn else ht r) (emR (caR ur C (nI cr) (nI w) (nI nn) (nI P)) cr (nI 17) (nI 0) (nI nn) (nI P)) (caC (emC uc (xp X) cc (nI 20) (nI 0) (nI P)) C (xPK X w) (nI nn) (nI cc)) := by
  have htb := h.tb
  have hS : S ≤ 800 := by obtain ⟨r, V, F, vw, h0⟩ := h.2.2.2.2.2.1; exact h0.2.2.2.2.2.1
  obtain ⟨g1, g2, g3, g4, g5, g6, g7, g8, g9, g10⟩ := h
  have hp := hX.p12
  have hr : ∀ k j, ¬ (k = 0 ∧ (j = 24 ∨ j = 44)) → ¬ (10 ≤ k ∧ k ≤ 13 ∧ j = cr) → ¬ (23 ≤ k ∧ k ≤ 26 ∧ j = C) → zI (emR (caR ur C (nI cr) (nI w) (nI nn) (nI P)) cr (nI 17) (nI 0) (nI nn) (nI P)) k j = zI ur k j := fun k j q q2 q3 => by rw [emR_W k j (by omega) (by omega), caR_W k j (by omega) (by omega)]
  have hc : ∀ k j, ¬ (k = xp X ∧ j = 3) → ¬ (xp X + 1 ≤ k ∧ k ≤ xp X + 3 ∧ j = cc) → ¬ (k = 2 ∧ j = 12) → ¬ (5 ≤ k ∧ k ≤ 6 ∧ j = C) → zI (caC (emC uc (xp X) cc (nI 20) (nI 0) (nI P)) C (xPK X w) (nI nn) (nI cc)) k j = zI uc k j := fun k j q q2 q3 q4 => by rw [caC_W k j (by omega) (by omega), emC_W k j (by omega) (by omega)]
  have hl : ∀ k j, ¬ (k = 4 ∧ j = C) → zL (caC (emC uc (xp X) cc (nI 20) (nI 0) (nI P)) C (xPK X w) (nI nn) (nI cc)) k j = zL uc k j := fun k j q => by rw [caC_L k j q]; rfl
  have hok : zI (caC (emC uc (xp X) cc (nI 20) (nI 0) (nI P)) C (xPK X w) (nI nn) (nI cc)) 2 3 = 0 → zI uc 2 3 = 0 := fun q => by rw [hc 2 3 (by omega) (by omega) (by omega) (by omega)] at q; exact q
  have hmono := pCo_mono g8
  have hM4 := g8.2.2.2.1
  refine ⟨fPR_em (fPR_I (fPR_I (fPR_I (fPR_I (fPR_I g1 (by unfold pwR; omega)) (by unfold pwR; omega)) (by unfold pwR; omega)) (by unfold pwR; omega)) (by unfold pwR; omega)), fPC_I (fPC_I (fPC_I (fPC_L (fPC_em g2) (by unfold pwC; omega)) (by unfold pwC; omega)) (by unfold pwC; omega)) (by unfold pwC; omega), pAt_keep g3 (hr 0 10 (by omega) (by omega) (by omega)) (fun j => hc 7 j (by omega) (by omega) (by omega) (by omega)) (fun j => hl 7 j (by omega)) (fun j => hl 11 j (by omega)), ⟨(hr 0 15 (by omega) (by omega) (by omega)).trans g4.1, (hc 2 2 (by omega) (by omega) (by omega) (by omega)).trans g4.2⟩, ⟨g5.1, (hr 0 26 (by omega) (by omega) (by omega)).trans g5.2.1, (hc 2 5 (by omega) (by omega) (by omega) (by omega)).trans g5.2.2⟩, ?_, ?_, ?_, ?_, ?_⟩
  · exact pVs_keep g6 (Nat.le_refl _) (fun q hq => ⟨if_neg (by omega), if_neg (by omega)⟩) (fun k j q => hr k j (by omega) (by omega) (by omega)) (fun k j q => hc k j (by omega) (by omega) (by omega) (by omega)) (fun k j q => hl k j (by omega)) hok
  · exact pFt_keep g7 (Nat.le_refl _) (fun j q => hr 0 j (by omega) (by omega) (by omega)) (fun j q => hc 2 j (by omega) (by omega) (by omega) (by omega))
  · have g8' : pCo (xp X) 80 (caR ur C (nI cr) (nI w) (nI nn) (nI P)) uc cr cc tb M ht (zI uc 2 3 = 0) := pCo_keep g8 (fun q => q) (fun k j q => caR_W k j (by omega) (by omega)) (fun _ _ _ => rfl)
    refine pCo_keep (pCo_emit (o := 17) (a := 0) (b := nn) (w := P) (c := 20) (x := 0) (wc := P) hp g8' (nI 0) (nI 0) (ht cr + 1 - nn) hP hh (fun _ => rfl) (fun _ => rfl) (fun _ => rfl) (fun _ => insC_17.mpr ⟨rfl, rfl, hn, rfl, hnn, by omega⟩)) hok (fun _ _ _ => rfl) (fun k j q => caC_W k j (by omega) (by omega))
  · have g9' : pSx S cr E (caR ur C (nI cr) (nI w) (nI nn) (nI P)) uc := pSx_keep g9 (fun k j q => caR_W k j (by omega) (by omega)) (fun q => q)
    exact pSx_emit (o := 17) (a := 0) (b := nn) (w := P) g9' (fun _ q => q) (by omega) hok (fun a1 a2 a3 => by omega) hS
  · have hMq : ∀ q, q ≤ cr → (fun r => if r = cr + 1 then cc + 1 else M r) q = M q := fun q hq => if_neg (by omega)
    obtain ⟨c1, c2, c3, c4, c5⟩ := g10
    refine ⟨by rw [emR_W 0 44 (by omega) (by omega)]; simp [caR, gI_sI], by simp [caC, gI_sI], by omega, fun c hc' => ?_, fun r hr' hx => ?_⟩
    · by_cases ec : c = C
      · subst ec
        refine ⟨cr, w, nn, P, by omega, by simp [emR, gI_sI], ?_, ?_, ?_, hw, ?_, hn, ?_, ?_, by simp [emR, gI_sI], hP, ?_, ?_⟩
        · rw [emR_W 23 c (by omega) (by omega)]; simp [caR, gI_sI]
        · rw [hMq cr (Nat.le_refl _), hM4]; simp [caC, gI_sI]
        · rw [emR_W 24 c (by omega) (by omega)]; simp [caR, gI_sI]
        · simp [caC, gL_sI, gL_sL]
        · rw [emR_W 25 c (by omega) (by omega)]; simp [caR, gI_sI]
        · simp [caC, gI_sI]
        · rw [emR_W 26 c (by omega) (by omega)]; simp [caR, gI_sI]
        · rw [hMq cr (Nat.le_refl _), hM4, caC_W _ _ (by omega) (by omega)]; simp [emC, gI_sI]
      · obtain ⟨q, w, nn, P, d1, d2, d3, d4, d5, d6, d7, d8, d9, d10, d11, d12, d13, d14⟩ := c4 c (by omega)
        have hq : M q < cc := by have := hmono q cr (by omega) (by omega); omega
        refine ⟨q, w, nn, P, by omega, by rw [hr 10 q (by omega) (by omega) (by omega)]; exact d2, by rw [hr 23 c (by omega) (by omega) (by omega)]; exact d3, by rw [hc 6 c (by omega) (by omega) (by omega) (by omega), hMq q (by omega)]; exact d4, by rw [hr 24 c (by omega) (by omega) (by omega)]; exact d5, d6, by rw [hl 4 c (by omega)]; exact d7, d8, by rw [hr 25 c (by omega) (by omega) (by omega)]; exact d9, by rw [hc 5 c (by omega) (by omega) (by omega) (by omega)]; exact d10, by rw [hr 12 q (by omega) (by omega) (by omega)]; exact d11, d12, by rw [hr 26 c (by omega) (by omega) (by omega)]; exact d13, by rw [hMq q (by omega), hc _ (M q) (by omega) (by omega) (by omega) (by omega)]; exact d14⟩
    · by_cases er : r = cr
      · subst er
        exact ⟨C, by omega, by rw [emR_W 23 C (by omega) (by omega)]; simp [caR, gI_sI]⟩
      · rw [hr 10 r (by omega) (by omega) (by omega)] at hx
        obtain ⟨c, e1, e2⟩ := c5 r (by omega) hx
        exact ⟨c, by omega, by rw [hr 23 c (by omega) (by omega) (by omega)]; exact e2⟩
