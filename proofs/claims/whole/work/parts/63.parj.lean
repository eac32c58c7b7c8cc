/-! PARSING, tenth part: writing an instruction -/
theorem emR_W {u : zMu} {cr : Nat} {o a b w : Int32} (k j : Nat) (h1 : ¬ (k = 0 ∧ j = 24)) (h2 : ¬ (10 ≤ k ∧ k ≤ 13 ∧ j = cr)) : zI (emR u cr o a b w) k j = zI u k j := by
  unfold emR
  rw [gI_sI, if_neg (by omega), gI_sI, if_neg (by omega), gI_sI, if_neg (by omega), gI_sI, if_neg (by omega), gI_sI, if_neg (by omega)]
theorem emC_W {u : zMu} {p cc : Nat} {o a w : Int32} (k j : Nat) (h1 : ¬ (k = p ∧ j = 3)) (h2 : ¬ (p + 1 ≤ k ∧ k ≤ p + 3 ∧ j = cc)) : zI (emC u p cc o a w) k j = zI u k j := by
  unfold emC
  rw [gI_sI, if_neg (by omega), gI_sI, if_neg (by omega), gI_sI, if_neg (by omega), gI_sI, if_neg (by omega)]
theorem emC_L {u : zMu} {p cc : Nat} {o a w : Int32} (k j : Nat) : zL (emC u p cc o a w) k j = zL u k j := rfl
theorem fPR_em {u v : zMu} {cr : Nat} {o a b w : Int32} (h : fPR u v) : fPR u (emR v cr o a b w) := fPR_I (fPR_I (fPR_I (fPR_I (fPR_I h (by unfold pwR; omega)) (by unfold pwR; omega)) (by unfold pwR; omega)) (by unfold pwR; omega)) (by unfold pwR; omega)
theorem fPC_em {p : Nat} {u v : zMu} {cc : Nat} {o a w : Int32} (h : fPC p u v) : fPC p u (emC v p cc o a w) := fPC_I (fPC_I (fPC_I (fPC_I h (by unfold pwC; omega)) (by unfold pwC; omega)) (by unfold pwC; omega)) (by unfold pwC; omega)
theorem pSx_emit {S cr : Nat} {E E' : Nat → Prop} {ur uc vc : zMu} {o a b w : Nat} {a' : Int32} (h : pSx S cr E ur uc) (hE : ∀ s, E' s → E s) (ho : o ≤ 23) (hok : zI vc 2 3 = 0 → zI uc 2 3 = 0) (hs : 5 ≤ o → o ≤ 8 → zI uc 2 3 = 0 → a' = nI a ∧ E a ∧ ¬ E' a ∧ zI ur 19 a = nI (o - 5)) (hS : S ≤ 800) : pSx S (cr + 1) E' (emR ur cr (nI o) a' (nI b) (nI w)) vc := by
  refine ⟨fun s q => h.1 s (hE s q), fun q => ?_⟩
  obtain ⟨h1, h2⟩ := h.2 (hok q)
  have top : ∀ o', zI (emR ur cr (nI o) a' (nI b) (nI w)) 10 cr = nI o' → o' ≤ 8 → o' = o := fun o' g hb => by
    have e : zI (emR ur cr (nI o) a' (nI b) (nI w)) 10 cr = nI o := by simp [emR, gI_sI]
    rw [e] at g
    exact ((nI_eq (by omega) (by omega)).mp g).symm
  have ta : zI (emR ur cr (nI o) a' (nI b) (nI w)) 11 cr = a' := by simp [emR, gI_sI]
  refine ⟨fun r o' a1 b1 c1 d1 => ?_, fun r r' o1 o2 a1 b1 c1 d1 e1 f1 g1 i1 j1 => ?_⟩
  · by_cases er : r = cr
    · subst er
      have := top o' b1 d1
      subst this
      obtain ⟨k1, k2, k3, k4⟩ := hs c1 d1 (hok q)
      refine ⟨a, h.1 a k2, k3, by rw [ta]; exact k1, ?_⟩
      rw [emR_W 19 a (by omega) (by omega)]; exact k4
    · rw [emR_keep (by omega) (by decide)] at b1
      obtain ⟨x, x1, x2, x3, x4⟩ := h1 r o' (by omega) b1 c1 d1
      refine ⟨x, x1, fun z => x2 (hE x z), by rw [emR_keep (by omega) (by decide)]; exact x3, by rw [emR_W 19 x (by omega) (by omega)]; exact x4⟩
  · by_cases er : r = cr
    · by_cases er' : r' = cr
      · omega
      · exfalso
        subst er
        rw [ta, emR_keep (show r' < r by omega) (by decide)] at j1
        rw [emR_keep (show r' < r by omega) (by decide)] at f1
        obtain ⟨x, x1, x2, x3, x4⟩ := h1 r' o2 (by omega) f1 g1 i1
        have := top o1 c1 e1
        subst this
        obtain ⟨k1, k2, k3, k4⟩ := hs d1 e1 (hok q)
        rw [k1, x3] at j1
        have hb := h.1 a k2
        have := (nI_eq (by omega) (by omega)).mp j1
        subst this
        exact x2 k2
    · by_cases er' : r' = cr
      · exfalso
        subst er'
        rw [ta, emR_keep (show r < r' by omega) (by decide)] at j1
        rw [emR_keep (show r < r' by omega) (by decide)] at c1
        obtain ⟨x, x1, x2, x3, x4⟩ := h1 r o1 (by omega) c1 d1 e1
        have := top o2 f1 i1
        subst this
        obtain ⟨k1, k2, k3, k4⟩ := hs g1 i1 (hok q)
        rw [k1, x3] at j1
        have hb := h.1 a k2
        have := (nI_eq (by omega) (by omega)).mp j1
        subst this
        exact x2 k2
      · rw [emR_keep (by omega) (by decide)] at c1 f1 j1
        rw [emR_keep (by omega) (by decide)] at j1
        exact h2 r r' o1 o2 (by omega) (by omega) c1 d1 e1 f1 g1 i1 j1
theorem pCa_emit {X : pCx} {C cr cc : Nat} {M M' : Nat → Nat} {ur uc vc : zMu} {o : Nat} {a' b w : Int32} (h : pCa X C cr M ur uc) (ho : o ≤ 23) (h17 : o ≠ 17) (hM : ∀ q, q < cr → M' q = M q ∧ M q < cc) (hc : ∀ k j, (k = 2 ∧ j = 12) ∨ k = 5 ∨ k = 6 ∨ (k = xp X + 3 ∧ j < cc) → zI vc k j = zI uc k j) (hl : ∀ j, zL vc 4 j = zL uc 4 j) : pCa X C (cr + 1) M' (emR ur cr (nI o) a' b w) vc := by
  obtain ⟨c1, c2, c3, c4, c5⟩ := h
  refine ⟨by rw [emR_W 0 44 (by omega) (by omega)]; exact c1, by rw [hc 2 12 (by omega)]; exact c2, c3, fun c hc' => ?_, fun r hr' hx => ?_⟩
  · obtain ⟨q, w, nn, P, d1, d2, d3, d4, d5, d6, d7, d8, d9, d10, d11, d12, d13, d14⟩ := c4 c hc'
    obtain ⟨m1, m2⟩ := hM q d1
    refine ⟨q, w, nn, P, by omega, by rw [emR_keep d1 (by decide)]; exact d2, by rw [emR_W 23 c (by omega) (by omega)]; exact d3, by rw [hc 6 c (by omega), m1]; exact d4, by rw [emR_W 24 c (by omega) (by omega)]; exact d5, d6, by rw [hl]; exact d7, d8, by rw [emR_W 25 c (by omega) (by omega)]; exact d9, by rw [hc 5 c (by omega)]; exact d10, by rw [emR_keep d1 (by decide)]; exact d11, d12, by rw [emR_W 26 c (by omega) (by omega)]; exact d13, by rw [m1, hc _ (M q) (by omega)]; exact d14⟩
  · by_cases er : r = cr
    · subst er
      exfalso
      have e : zI (emR ur r (nI o) a' b w) 10 r = nI o := by simp [emR, gI_sI]
      rw [e] at hx
      exact h17 ((nI_eq (by omega) (by omega)).mp hx)
    · rw [emR_keep (by omega) (by decide)] at hx
      obtain ⟨c, e1, e2⟩ := c5 r (by omega) hx
      exact ⟨c, e1, by rw [emR_W 23 c (by omega) (by omega)]; exact e2⟩
theorem pOk_emit {X : pCx} {i i2 op cr cc S C tb e : Nat} {E : Nat → Prop} {M ht : Nat → Nat} {ur uc : zMu} (hX : xOk X) (h : pOk X i i2 op cr cc S C tb e E M ht ur uc) {o a b w c x wc : Nat} {a' x' : Int32} (h1 : Nat) (E' : Nat → Prop) (hE : ∀ s, E' s → E s) (hw : w ≤ 1500) (hh : ht cr ≤ 60) (ho : o ≤ 23) (h17 : o ≠ 17) (ha : zI uc 2 3 = 0 → a' = nI a) (hx : zI uc 2 3 = 0 → x' = nI x) (hpl : plc o ∨ (o = 12 ∧ a = 1) → wc = w)
    (hi : zI uc 2 3 = 0 → insC 80 o a b c x cc (cc + 1) (ht cr) h1 (jT tb M ht ur cr) 0) (hs : 5 ≤ o → o ≤ 8 → zI uc 2 3 = 0 → E a ∧ ¬ E' a ∧ zI ur 19 a = nI (o - 5)) :
    pOk X i i2 op (cr + 1) (cc + 1) S C tb e E' (fun r => if r = cr + 1 then cc + 1 else M r) (fun r => if r = cr + 1 then h1 else ht r) (emR ur cr (nI o) a' (nI b) (nI w)) (emC uc (xp X) cc (nI c) x' (nI wc)) := by
  have htb := h.tb
  have hS : S ≤ 800 := by obtain ⟨r, V, F, vw, h0⟩ := h.2.2.2.2.2.1; exact h0.2.2.2.2.2.1
  obtain ⟨g1, g2, g3, g4, g5, g6, g7, g8, g9, g10⟩ := h
  have hp := hX.p12
  have hr : ∀ k j, ¬ (k = 0 ∧ j = 24) → ¬ (10 ≤ k ∧ k ≤ 13) → zI (emR ur cr (nI o) a' (nI b) (nI w)) k j = zI ur k j := fun k j q q2 => emR_W k j q (by omega)
  have hc : ∀ k j, ¬ (k = xp X ∧ j = 3) → ¬ (xp X + 1 ≤ k ∧ k ≤ xp X + 3 ∧ j = cc) → zI (emC uc (xp X) cc (nI c) x' (nI wc)) k j = zI uc k j := fun k j q q2 => emC_W k j q q2
  have hok : zI (emC uc (xp X) cc (nI c) x' (nI wc)) 2 3 = 0 → zI uc 2 3 = 0 := fun q => by rw [hc 2 3 (by omega) (by omega)] at q; exact q
  have hmono := pCo_mono g8
  have hM4 := g8.2.2.2.1
  refine ⟨fPR_em g1, fPC_em g2, pAt_keep g3 (hr 0 10 (by omega) (by omega)) (fun j => hc 7 j (by omega) (by omega)) (fun _ => rfl) (fun _ => rfl), ⟨(hr 0 15 (by omega) (by omega)).trans g4.1, (hc 2 2 (by omega) (by omega)).trans g4.2⟩, ⟨g5.1, (hr 0 26 (by omega) (by omega)).trans g5.2.1, (hc 2 5 (by omega) (by omega)).trans g5.2.2⟩, ?_, ?_, ?_, ?_, ?_⟩
  · exact pVs_keep g6 (Nat.le_refl _) (fun q hq => ⟨if_neg (by omega), if_neg (by omega)⟩) (fun k j q => hr k j (by omega) (by omega)) (fun k j q => hc k j (by omega) (by omega)) (fun k j q => rfl) hok
  · exact pFt_keep g7 (Nat.le_refl _) (fun j q => hr 0 j (by omega) (by omega)) (fun j q => hc 2 j (by omega) (by omega))
  · exact pCo_keep (pCo_emit hp g8 a' x' h1 hw hh ha hx hpl hi) hok (fun _ _ _ => rfl) (fun _ _ _ => rfl)
  · exact pSx_emit g9 hE ho hok (fun a1 a2 a3 => ⟨ha a3, hs a1 a2 a3⟩) hS
  · exact pCa_emit (cc := cc) g10 ho h17 (fun q hq => ⟨if_neg (by omega), by have := hmono q cr (by omega) (by omega); omega⟩) (fun k j q => hc k j (by omega) (by omega)) (fun _ => rfl)
