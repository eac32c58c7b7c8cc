/-! PARSING, whole: fns and the main -/
theorem p_main (n k : Nat) (hn : 2000 ≤ n) (hkk : 120 ≤ k) {X : pCx} (hX : xOk X) (p3 : Nat) {i F : Nat} {ur uc : zMu} (h : pTp X i F ur uc) :
    Rp (rf_takes_J73 n k ur) (cm_J80 n k uc) (fun _ vr _ vc => pPg (setF X F 9) vr vc ∨ pWx X (kS 0 + 1) vr vc) := by
  have hp := hX.p12
  have hT := hX.T
  have hX' : xOk (setF X F 9) := hX
  obtain ⟨cr, cc, S, C, tb, M, ht, h, b1, b2, b3, h0, h00, hZ⟩ := h
  obtain ⟨t1, t2, ⟨V0, t3, t3'⟩, t4⟩ := h.2.2.2.2.2.1
  have hM4 := h.2.2.2.2.2.2.2.1.2.2.2.1
  have htb : tb ≤ cr := h.2.2.2.2.2.2.2.1.2.2.2.2.2.1
  have hr : ∀ a j, ¬ (a = 0 ∧ (j = 27 ∨ j = 34)) → ¬ (a = 17 ∧ j = 9) → zI (zsI (zsI (zsI ur 0 27 (-1)) 17 9 0) 0 34 (nI cr)) a j = zI ur a j := fun a j q1 q2 => by rw [gI_sI, if_neg (by omega), gI_sI, if_neg q2, gI_sI, if_neg (by omega)]
  have hc : ∀ a j, ¬ (a = 2 ∧ (j = 6 ∨ j = 8)) → ¬ (a = xp X ∧ j = 13) → zI (zsI (zsI (zsI uc 2 6 (-1)) 2 8 0) (xp X) 13 (nI cc)) a j = zI uc a j := fun a j q1 q2 => by rw [gI_sI, if_neg q2, gI_sI, if_neg (by omega), gI_sI, if_neg (by omega)]
  have ok : pOk (setF X F 9) i i 0 cr cc S C cr 5000 pE0 M ht (zsI (zsI (zsI ur 0 27 (-1)) 17 9 0) 0 34 (nI cr)) (zsI (zsI (zsI uc 2 6 (-1)) 2 8 0) (xp X) 13 (nI cc)) := by
    refine pGn_ok.mpr (pGn_step hX' (show pGn (setF X F 9) i i 0 cr cc S C tb pE0 M ht (pVt X tb S F M ht) ur uc from h) (fPR_I (fPR_I (fPR_I h.1 (by unfold pwR; omega)) (by unfold pwR; omega)) (by unfold pwR; omega)) (show fPC (xp X) (xc X) _ from fPC_I (fPC_I (fPC_I h.2.1 (by unfold pwC; omega)) (by unfold pwC; omega)) (by unfold pwC; omega)) (pAt_keep (X := setF X F 9) h.2.2.1 (hr 0 10 (by omega) (by omega)) (fun j => hc 7 j (by omega) (by omega)) (fun _ => rfl) (fun _ => rfl)) ⟨h.2.2.2.2.1.1, by rw [hr 0 26 (by omega) (by omega)]; exact h.2.2.2.2.1.2.1, by rw [hc 2 5 (by omega) (by omega)]; exact h.2.2.2.2.1.2.2⟩ ?_ (pFt_keep (X := setF X F 9) h.2.2.2.2.2.2.1 (Nat.le_refl _) (fun j q => hr 0 j (by omega) (by omega)) (fun j q => hc 2 j (by omega) (by omega))) (fun q => by rw [hc 2 3 (by omega) (by omega)] at q; exact q) htb (Nat.le_refl _) (fun a j q => hr a j (by omega) (by omega)) (fun a j q => hc a j (by have e : xp (setF X F 9) = xp X := rfl; omega) (by have e : xp (setF X F 9) = xp X := rfl; omega)) (fun _ => rfl))
    refine ⟨9, 0, F, fun _ => 0, ⟨Or.inl rfl, rfl, rfl⟩, Or.inl ⟨rfl, ?_, ?_⟩, ⟨by omega, by omega, ?_, ?_, fun j hj => absurd hj (Nat.not_lt_zero j)⟩, ?_, fun _ => ⟨cr, Nat.le_refl _, h0, ?_, ?_⟩, ?_⟩
    · rw [gI_sI, if_neg (by omega), gI_sI, if_neg (by omega)]; simp [gI_sI]
    · rw [gI_sI, if_neg (by omega), gI_sI, if_neg (by omega)]; simp [gI_sI]
    · rw [gI_sI, if_neg (by omega), gI_sI, if_pos ⟨rfl, rfl⟩]; rfl
    · rw [gI_sI, if_neg (by omega), gI_sI, if_pos ⟨rfl, rfl⟩]; rfl
    · exact pFn_keep (X := X) t1 htb (fun _ _ => ⟨rfl, rfl⟩) (fun a j q => hr a j (by omega) (by omega)) (fun a j q => hc a j (by omega) (by omega)) (fun _ => rfl)
    · simp [gI_sI]
    · show zI (zsI (zsI (zsI uc 2 6 (-1)) 2 8 0) (xp X) 13 (nI cc)) (xp X) 13 = nI (M cr)
      rw [gI_sI, if_pos ⟨rfl, rfl⟩, hM4]
    · exact pSi_keep (X := X) t2 (fun a j q => hr a j (by omega) (by omega)) (fun a j q => hc a j (by omega) (by omega)) (fun _ => rfl) (fun q => by rw [hc 2 3 (by omega) (by omega)] at q; exact q)
  unfold rf_takes_J73 cm_J80 cm_main
  have z9 : zx 9 = 9 := zx_nI (n := 9) (by decide)
  have zR2 : zR (zsI (zsI uc 2 6 (-1)) 2 8 0) 2 1 = xp X := h.zp hX
  have c3 : zI (zsI (zsI uc 2 6 (-1)) 2 8 0) (xp X) 3 = nI cc := by rw [gI_sI, if_neg (by omega), gI_sI, if_neg (by omega)]; exact h.cc
  have r24 : zI (zsI (zsI ur 0 27 (-1)) 17 9 0) 0 24 = nI cr := by rw [gI_sI, if_neg (by omega), gI_sI, if_neg (by omega)]; exact h.cr
  refine rp_ll (rp_lg (by decide) (rp_ll (rp_ll ?_)))
  rw [z9, r24]
  show Rp _ (zbd (zgd (zpr (zR (zsI (zsI uc 2 6 (-1)) 2 8 0) 2 1)) (zgd (zpr (zR (zsI (zsI uc 2 6 (-1)) 2 8 0) 2 1)) (cm_L26 n k n (zsI (zsI (zsI uc 2 6 (-1)) 2 8 0) (zR (zsI (zsI uc 2 6 (-1)) 2 8 0) 2 1) 13 (zI (zsI (zsI uc 2 6 (-1)) 2 8 0) (zR (zsI (zsI uc 2 6 (-1)) 2 8 0) 2 1) 3)) 0))) _) _
  rw [zR2, hX.zpr, zgd_t, zgd_t, c3]
  have hi := h.i
  refine p_mainL n k hn hkk hX' p3 rfl cr (xT X - i) i n n 0 _ _ rfl (by omega) (by omega) (by omega) ⟨cr, cc, S, C, cr, M, ht, ok, b1, b2, b3, h0, h00, Nat.le_refl _, fun okz => ?_⟩
  rw [hc 2 3 (by omega) (by omega)] at okz
  exact pZn_keep (p_zone (X := X) h.2.2.2.2.2.2.2.1 t1 hZ okz) (fun q _ => hr 10 q (by omega) (by omega)) (fun q => hr 15 q (by omega) (by omega)) (fun q _ _ => hr 11 q (by omega) (by omega))
theorem p_main0w (n k : Nat) (hn : 2000 ≤ n) {X : pCx} (hX : xOk X) (p3 : Nat) {w : Nat} {ur uc : zMu} (w1 : bR1 X w (kS 0) ur) (w2 : bC1 X w uc) : Rp (rf_takes_J73 n k ur) (cm_J80 n k uc) (fun _ vr _ vc => (∃ F, pPg (setF X F 9) vr vc) ∨ pWx X (kS 0 + 1) vr vc) := by
  have hp := hX.p12
  have z9 : zx 9 = 9 := zx_nI (n := 9) (by decide)
  obtain ⟨m, hm⟩ : ∃ y, n = y + 1 := ⟨n - 1, by omega⟩
  unfold rf_takes_J73 cm_J80 cm_main
  refine rp_ll (rp_lg (by decide) (rp_ll (rp_ll ?_)))
  rw [z9]
  have w2a : bC1 X w (zsI (zsI uc 2 6 (-1)) 2 8 0) := by
    obtain ⟨f, L, S, V, C, F, b1, b2, b3, b4, b5, b6, b7, b8, b9, b10⟩ := w2.1
    have hk : ∀ a j, ¬ (a = 2 ∧ (j = 6 ∨ j = 8)) → zI (zsI (zsI uc 2 6 (-1)) 2 8 0) a j = zI uc a j := fun a j q => by rw [gI_sI, if_neg (by omega), gI_sI, if_neg (by omega)]
    exact bC1_keep w2 ⟨fPC_I (fPC_I f (by unfold pwC; omega)) (by unfold pwC; omega), L, S, 0, C, F, b1, by rw [hk _ _ (by omega)]; exact b2, b3, by rw [hk _ _ (by omega)]; exact b4, by omega, by simp [gI_sI]; rfl, b7, by rw [hk _ _ (by omega)]; exact b8, b9, by rw [hk _ _ (by omega)]; exact b10⟩ (fun a j q => hk a j (by omega))
  have w2b : bC1 X w (zsI (zsI (zsI uc 2 6 (-1)) 2 8 0) (xp X) 13 (zI (zsI (zsI uc 2 6 (-1)) 2 8 0) (xp X) 3)) := bC1_keep w2a (bC_keep w2a.1 (fPC_I w2a.1.1 (by unfold pwC; omega)) (fun k j z => by rw [gI_sI, if_neg (by omega)])) (fun k j z => by rw [gI_sI, if_neg (by omega)])
  have w1b : bR1 X w (kS 0) (zsI (zsI (zsI ur 0 27 (-1)) 17 9 0) 0 34 (zI (zsI (zsI ur 0 27 (-1)) 17 9 0) 0 24)) := by
    obtain ⟨h1, h2, h3, ⟨c, c1, c2⟩, ⟨C, d1, d2⟩, -⟩ := w1
    have hk : ∀ a j, ¬ (a = 0 ∧ (j = 27 ∨ j = 34)) → a ≠ 17 → zI (zsI (zsI (zsI ur 0 27 (-1)) 17 9 0) 0 34 (zI (zsI (zsI ur 0 27 (-1)) 17 9 0) 0 24)) a j = zI ur a j := fun a j q q2 => by rw [gI_sI, if_neg (by omega), gI_sI, if_neg (by omega), gI_sI, if_neg (by omega)]
    refine ⟨fPR_I (fPR_I (fPR_I h1 (by unfold pwR; omega)) (by unfold pwR; omega)) (by unfold pwR; omega), h2, by rw [hk _ _ (by omega) (by omega)]; exact h3, ⟨c, c1, by rw [hk _ _ (by omega) (by omega)]; exact c2⟩, ⟨C, d1, by rw [hk _ _ (by omega) (by omega)]; exact d2⟩, 9, 0, by omega, by omega, Or.inl ⟨rfl, ?_⟩, ?_⟩
    · rw [gI_sI, if_neg (by omega), gI_sI, if_neg (by omega)]; simp [gI_sI]
    · rw [gI_sI, if_neg (by omega), gI_sI, if_pos ⟨rfl, rfl⟩]; rfl
  show Rp _ (zbd (zgd (zpr (zR (zsI (zsI uc 2 6 (-1)) 2 8 0) 2 1)) (zgd (zpr (zR (zsI (zsI uc 2 6 (-1)) 2 8 0) 2 1)) (cm_L26 n k n (zsI (zsI (zsI uc 2 6 (-1)) 2 8 0) (zR (zsI (zsI uc 2 6 (-1)) 2 8 0) 2 1) 13 (zI (zsI (zsI uc 2 6 (-1)) 2 8 0) (zR (zsI (zsI uc 2 6 (-1)) 2 8 0) 2 1) 3)) 0))) _) _
  rw [bC_zp hX w2a.1, hX.zpr, zgd_t, zgd_t]
  have main := p_mainw n k hX m m 0 w1b w2b
  rw [← hm] at main
  refine rp_mono main (fun _ vr _ vc g => ?_)
  rcases g with g | g
  · exact Or.inl ⟨xF X, by
      obtain ⟨g1, g2⟩ := g
      have e : setF X (xF X) 9 = X := by
        obtain ⟨⟨a, b, c, d, e, f⟩, r⟩ := X
        have : f = 9 := g1
        subst this
        rfl
      rw [e]; exact ⟨g1, g2⟩⟩
  · exact Or.inr g
theorem p_fnsL (n k : Nat) (hn : 2000 ≤ n) (hkk : 120 ≤ k) {X : pCx} (hX : xOk X) (p3 : Nat) :
    ∀ d i m m' F ur uc, xT X - i = d → d + 1 < m → 10 - F < m' → F ≤ 8 → pTp X i F ur uc →
      Rp (rf_takes_L49 n k m ur) (ce_C_compile_L18 n k p3 m' uc (nI F)) (fun _ vr _ vc => (∃ F', pPg (setF X F' 9) vr vc) ∨ pWx X (kS 0 + 1) vr vc) := by
  have k200 : kRel 200 300 := by unfold kRel; omega
  intro d
  induction d using Nat.strongRecOn with
  | ind d ih =>
    intro i m m' F ur uc hd hm hm' hF h
    obtain ⟨m, rfl⟩ : ∃ y, m = y + 2 := ⟨m - 2, by omega⟩
    obtain ⟨m', rfl⟩ : ∃ y, m' = y + 2 := ⟨m' - 2, by omega⟩
    obtain ⟨cr, cc, S, C, tb, M, ht, g, -⟩ := id h
    have hi := g.i
    rw [rf_takes_L49, cm_e18, if_neg (show ¬ 8 < nI F from nI_nlt (b := F) (a := 8) hF (by decide))]
    refine rp_l (g.nw n) (rp_lt rfl (rp_l (g.now hX n) ?_))
    by_cases hk : xrk X i = 200
    · refine rp_lt ((hX.rk hi 200 (by decide)).mpr hk) (rp_rt (by rw [g.kd]; exact (hX.ck hi k200).mpr hk) ?_)
      refine rp_bd (rp_mono (p_function n k hn hkk hX h hk) (fun _ vr _ vc q => ?_))
      refine rp_rl ?_
      rw [nI_1]
      rcases q with ⟨i', q1, q2⟩ | ⟨w, w1, w2⟩
      · obtain ⟨cr', cc', S', C', tb', M', ht', g', -⟩ := id q2
        have hi' := g'.i
        have hF' : F + 1 ≤ 8 := g'.2.2.2.2.2.1.1.1
        exact ih (xT X - i') (by omega) i' (m + 1) (m' + 1) (F + 1) vr vc rfl (by omega) (by omega) hF' q2
      · rw [rf_takes_L49, cm_e18, if_neg (show ¬ zI vc 7 6 = 300 from by rw [w2.2.2.2.2.1]; decide)]
        refine rp_l (r1_isWrong n w1) (rp_lf (by decide) ?_)
        by_cases z : 8 < nI (F + 1)
        · rw [if_pos z]; exact p_main0w n k hn hX p3 w1 w2
        · rw [if_neg z]; exact p_main0w n k hn hX p3 w1 w2
    · refine rp_lf (fun q => hk ((hX.rk hi 200 (by decide)).mp q)) (rp_rf (g.ne hX k200 hk) ?_)
      refine rp_mono (p_main n k hn hkk hX p3 h) (fun _ vr _ vc q => ?_)
      rcases q with q | q
      · exact Or.inl ⟨F, q⟩
      · exact Or.inr q
