/-! PARSING, steps, eighth part: if, while -/
theorem p_cond (n k : Nat) (hn : 2000 ≤ n) (hkk : 120 ≤ k) {op b KB : Nat} (hb1 : 1 ≤ b) (HB : sBl n k op b KB) (hKB : KB + 1 ≤ kS op) {X : pCx} (hX : xOk X) {i cr cc S C tb : Nat} {M ht : Nat → Nat} {ur uc : zMu} (hb : pSb X i op cr cc S C tb M ht ur uc) (h00 : ht 0 = 0) (hk : xrk X i ≠ 0) {jR jC : Nat} (hjR : b ≤ jR) (hjC : b ≤ jC) {KR : Int32 → zMu → Option (Unit × zMu)} {KC : Int32 → zMu → Option (Unit × zMu)} {Q : Unit → zMu → Unit → zMu → Prop}
    (Hk : ∀ vr vc i3 cr1 cr3 cc3 S3 C3 tb3 M3 ht3, pOk X i3 i3 op cr3 cc3 S3 C3 tb3 5000 pE0 M3 ht3 vr vc → cr + 1 < cr1 → cr1 < cr3 → zI vr 10 cr1 = nI 21 → i + 3 < i3 → S ≤ S3 → 2 * cc3 + 6 + 3 * i ≤ 2 * cc + 3 * i3 → 2 * S3 + 4 + i ≤ 2 * S + i3 → 3 * C3 + 3 + i ≤ 3 * C + i3 → pEx (cr + 1) 0 M ht M3 ht3 ur vr uc vc → ht3 cr3 = 0 → Rp (KR (nI cr1) vr) (KC (nI (M3 cr1)) vc) Q)
    (Hw : ∀ vr vc c y, pWx X (kS op - 1) vr vc → c < 4000 → Rp (KR (nI c) vr) (KC y vc) Q) :
    Rp (zlet (zsI ur 0 10 ((zI ur 0 10) + 1)) fun u1 => zbd (rf_expr n k u1) fun _ u3 => zlet (zI u3 0 24) fun v4 => zbd (rf_emit n u3 21 0 0 (nI (xpl X i))) fun _ u6 => zbd ((rf_S_block n k jR).1 u6) fun _ u8 => KR v4 u8) (zbd (ce_X_advance n uc) fun _ u3 => zbd (ce_C_compileE n k u3 0) fun r4 u5 => zgd (zpr (zR u5 2 1)) (zlet (zR u5 2 1) fun p6 => zbd (ce_P_emit n p6 u5 24 0 (nI (xpl X i))) fun r7 u8 => zbd ((ce_G_compileBlock n k jC).1 u8) fun _ u10 => KC r7 u10)) Q := by
  obtain ⟨h, b0, b1, b2, b3, b4, b5, b6, b7⟩ := hb
  have hp := hX.p12
  have hT := hX.T
  have hi := h.i
  have hop := h.op8
  have hP := hX.pl hi
  have hit := hX.nx hi hk
  have h1 := pOk_advC hX (pOk_advR hX h hit) hit
  have kSb : kS op = 2280 + 8 * (9 - op) := rfl
  refine rp_ll ?_
  rw [h.at, nI_1]
  refine rp_r (h.adv hX hit n) (rp_bd (rp_mono (s_E n hn hop X hX k k (i + 1) (cr + 1) (cc + 1) S C tb 5000 pE0 M ht _ _ hkk hkk h1 (by omega) (by omega) (by omega) (by omega)) (fun _ vr rc vc g => ?_)))
  rcases g with ⟨i1, cr1, cc1, S1, C1, M1, ht1, kd, k1, k2, ⟨f1, f2, f3, f4, f5⟩, k4', k5, -⟩ | ⟨w', w1, w2⟩
  · have hi1 := k1.i
    have hle1 := k1.le
    have hM0 : M1 0 = 0 := k1.2.2.2.2.2.2.2.1.2.2.1
    have ht10 : ht1 0 = 0 := by rw [(k4'.1 0 (by omega)).2]; exact h00
    rw [k1.zp hX, hX.zpr, zgd_t]
    have em := pOk_emit hX k1 (o := 21) (a := 0) (b := 0) (w := xpl X i) (c := 24) (x := 0) (wc := xpl X i) (a' := 0) (x' := 0) 0 pE0 (fun _ q => q) hP (by omega) (by omega) (by omega) (fun _ => rfl) (fun _ => rfl) (fun _ => rfl)
      (fun q => insC_21.mpr ⟨rfl, ⟨by omega, hM0.symm, ht10, by omega, Or.inr (Or.inr rfl)⟩, rfl, by omega, rfl⟩) (fun z1 z2 _ => by omega)
    refine rp_ll ?_
    rw [k1.cr]
    refine rp_l (r_emit n k1.cr (by omega) 21 0 0 (nI (xpl X i))) (rp_rl (rp_r (c_emit n (xp X) k1.cc (by omega) (o := 24) (w := xpl X i) (by omega) (by omega) 0) ?_))
    refine rp_bd (rp_mono (HB X hX jR jC i1 (cr1 + 1) (cc1 + 1) S1 C1 tb _ _ _ _ hjR hjC em (if_pos rfl) ((if_neg (by omega)).trans ht10) (by omega) (by omega) (by omega)) (fun _ yr _ yc g => ?_))
    rcases g with ⟨i3, cr3, cc3, S3, C3, tb3, M3, ht3, q1, q2, q3, q4, q5, q6, q7, q8, q9⟩ | ⟨w', w1, w2⟩
    · have hM3 : M3 cr1 = cc1 := by
        rw [(q8.1 cr1 (by omega)).1]
        show (if cr1 = cr1 + 1 then cc1 + 1 else M1 cr1) = cc1
        rw [if_neg (by omega)]; exact k1.2.2.2.2.2.2.2.1.2.2.2.1
      have hx1 : pEx (cr + 1) 0 M ht M3 ht3 ur yr uc yc := pEx_tr (pEx_0 (pEx_tr (pEx_tr ((pSm_tr (pSm_R 10 _) (pSm_adv _)).ex (cr + 1) S M ht) k4' (Nat.le_refl _) (Nat.le_refl _)) (pEx_em (S := S1) hp) (by omega) f2)) q8 (by omega) (Nat.le_refl _)
      have h21 : zI yr 10 cr1 = nI 21 := by rw [q8.2.1 10 cr1 (by unfold pRw; omega)]; simp [emR, gI_sI]; rfl
      rw [← hM3]
      exact Hk yr yc i3 cr1 cr3 cc3 S3 C3 tb3 M3 ht3 q1 k2 (by omega) h21 (by omega) (by omega) (by omega) (by omega) (by omega) hx1 q9
    · exact Hw yr yc cr1 _ ⟨w', bR1_K w1 (by omega), w2⟩ (by omega)
  · obtain ⟨c, hc1, hc2⟩ := w1.2.2.2.1
    rw [bC_zp hX w2.1, hX.zpr, zgd_t]
    refine rp_ll ?_
    rw [hc2]
    obtain ⟨jR, rfl⟩ : ∃ y, jR = y + 1 := ⟨jR - 1, by omega⟩
    obtain ⟨jC, rfl⟩ : ∃ y, jC = y + 1 := ⟨jC - 1, by omega⟩
    obtain ⟨v3, e3, q3⟩ := r1_emit n w1 (by omega) 21 0 0 (nI (xpl X i))
    obtain ⟨v4, e4, q4⟩ := r1_block n k jR hn q3
    obtain ⟨r5, v5, e5, q5⟩ := w1_emit n hX w2 24 0 (nI (xpl X i))
    obtain ⟨v6, e6, q6⟩ := w1_block n k jC hn hX q5
    exact rp_l e3 (rp_l e4 (rp_rl (rp_r e5 (rp_r e6 (Hw v4 v6 c r5 ⟨w', bR1_K q4 (by omega), q6⟩ (by omega))))))
theorem p_if (n k : Nat) (hn : 2000 ≤ n) (hkk : 120 ≤ k) {op b KB : Nat} (hb1 : 1 ≤ b) (HB : sBl n k op b KB) (hKB : KB + 1 ≤ kS op) {X : pCx} (hX : xOk X) {i cr cc S C tb : Nat} {M ht : Nat → Nat} {ur uc : zMu} (hb : pSb X i op cr cc S C tb M ht ur uc) (h00 : ht 0 = 0) (hk : xrk X i = 202) {jR jC : Nat} (hjR : b ≤ jR) (hjC : b ≤ jC) (x3 : Int32) :
    Rp (rf_step_J51 n k (rf_S_block n k jR).1 ur (nI 202) (nI (xpl X i)) x3) (ce_C_compileIf_b n k (ce_G_compileBlock n k jC).1 uc) (fun _ vr _ vc => pSq X i op cr cc S C M ht ur uc vr vc ∨ pWx X (kS op) vr vc) := by
  have hp := hX.p12
  have hT := hX.T
  have kSb : kS op = 2280 + 8 * (9 - op) := rfl
  have hpc := hb.1.pc
  have hP := hX.pl hb.1.i
  have hbb := hb
  obtain ⟨-, -, -, -, -, b4, b5, b6, -⟩ := hbb
  unfold rf_step_J51 ce_C_compileIf_b
  simp only [if_neg (show ¬ nI 202 = 204 by decide)]
  refine rp_rl ?_
  rw [hpc]
  have k203 : kRel 203 303 := by unfold kRel; omega
  have wr : ∀ vr vc c y, pWx X (kS op - 1) vr vc → c < 4000 → Rp (zbd (rf_isWrong n vr) fun r13 u14 => if r13 = 0 then (zbd (rf_now n u14) fun r16 u17 => if r16 = 203 then (zlet (zsI u17 0 10 ((zI u17 0 10) + 1)) fun u19 => zlet (zI u19 0 24) fun v20 => zbd (rf_emit n u19 22 0 0 (nI (xpl X i))) fun _ u22 => zgd (zin (nI c) 4000) (zlet (zsI u22 11 (zx (nI c)) (zI u22 0 24)) fun u23 => zbd ((rf_S_block n k jR).1 u23) fun _ u25 => zgd (zin v20 4000) (zlet (zsI u25 11 (zx v20) (zI u25 0 24)) fun u26 => some ((), u26)))) else (zgd (zin (nI c) 4000) (zlet (zsI u17 11 (zx (nI c)) (zI u17 0 24)) fun u27 => some ((), u27)))) else (zgd (zin (nI c) 4000) (zlet (zsI u14 11 (zx (nI c)) (zI u14 0 24)) fun u28 => some ((), u28)))) (zbd (ce_C_takes n vc 303) fun r11 u12 => if r11 = 0 then (zgd (zpr (zR u12 2 1)) (zlet (zR u12 2 1) fun p14 => zbd (ce_P_aim n p14 u12 y) fun _ u16 => some ((), u16))) else (zgd (zpr (zR u12 2 1)) (zlet (zR u12 2 1) fun p17 => zbd (ce_P_emit n p17 u12 23 0 (nI (xpl X i))) fun r18 u19 => zgd (zpr (zR u19 2 1)) (zlet (zR u19 2 1) fun p20 => zbd (ce_P_aim n p20 u19 y) fun _ u22 => zbd ((ce_G_compileBlock n k jC).1 u22) fun _ u24 => zgd (zpr (zR u24 2 1)) (zlet (zR u24 2 1) fun p25 => zbd (ce_P_aim n p25 u24 r18) fun _ u27 => some ((), u27)))))) (fun _ vr _ vc => pSq X i op cr cc S C M ht ur uc vr vc ∨ pWx X (kS op) vr vc) := by
    intro vr vc c y ⟨w, w1, w2⟩ hc
    obtain ⟨v, e, hv⟩ := w1_aim n hX w2 y
    refine rp_l (r1_isWrong n w1) (rp_lf (by decide) (rp_lg (zin_nI hc (by decide)) (rp_ll (rp_r (w1_takes n w2 (by decide)) (rp_rt rfl ?_)))))
    rw [bC_zp hX w2.1, hX.zpr, zgd_t]
    exact rp_rl (rp_r e (rp_end (Or.inr ⟨w, bR1_K (bR1_set w1 _ (by unfold pwR; omega) (by omega)) (by omega), hv⟩)))
  refine p_cond n k hn hkk hb1 HB hKB hX hb h00 (by omega) hjR hjC (KR := fun v4 u8 => zbd (rf_isWrong n u8) fun r13 u14 => if r13 = 0 then (zbd (rf_now n u14) fun r16 u17 => if r16 = 203 then (zlet (zsI u17 0 10 ((zI u17 0 10) + 1)) fun u19 => zlet (zI u19 0 24) fun v20 => zbd (rf_emit n u19 22 0 0 (nI (xpl X i))) fun _ u22 => zgd (zin v4 4000) (zlet (zsI u22 11 (zx v4) (zI u22 0 24)) fun u23 => zbd ((rf_S_block n k jR).1 u23) fun _ u25 => zgd (zin v20 4000) (zlet (zsI u25 11 (zx v20) (zI u25 0 24)) fun u26 => some ((), u26)))) else (zgd (zin v4 4000) (zlet (zsI u17 11 (zx v4) (zI u17 0 24)) fun u27 => some ((), u27)))) else (zgd (zin v4 4000) (zlet (zsI u14 11 (zx v4) (zI u14 0 24)) fun u28 => some ((), u28)))) (KC := fun r7 u10 => zbd (ce_C_takes n u10 303) fun r11 u12 => if r11 = 0 then (zgd (zpr (zR u12 2 1)) (zlet (zR u12 2 1) fun p14 => zbd (ce_P_aim n p14 u12 r7) fun _ u16 => some ((), u16))) else (zgd (zpr (zR u12 2 1)) (zlet (zR u12 2 1) fun p17 => zbd (ce_P_emit n p17 u12 23 0 (nI (xpl X i))) fun r18 u19 => zgd (zpr (zR u19 2 1)) (zlet (zR u19 2 1) fun p20 => zbd (ce_P_aim n p20 u19 r7) fun _ u22 => zbd ((ce_G_compileBlock n k jC).1 u22) fun _ u24 => zgd (zpr (zR u24 2 1)) (zlet (zR u24 2 1) fun p25 => zbd (ce_P_aim n p25 u24 r18) fun _ u27 => some ((), u27)))))) ?_ wr
  intro vr vc i3 cr1 cr3 cc3 S3 C3 tb3 M3 ht3 h3 g1 g2 g3 g4 g5 g6 g7 g8 g9 g10
  have hi3 := h3.i
  have hle3 := h3.le
  have hmono := pCo_mono h3.2.2.2.2.2.2.2.1
  have hM3 := h3.2.2.2.2.2.2.2.1.2.2.2.1
  have hM1 : M3 cr1 < cc3 := by have := hmono cr1 cr3 (by omega) (by omega); omega
  refine rp_l (h3.nw n) (rp_lt rfl (rp_l (h3.now hX n) ?_))
  by_cases hE : xrk X i3 = 203
  · have hit3 := hX.nx hi3 (by omega)
    have h4 := pOk_advC hX (pOk_advR hX h3 hit3) hit3
    have et : ce_C_takes n vc 303 = some (1, advU vc (i3 + 1)) := by
      unfold ce_C_takes
      rw [h3.kd, if_pos (show nI (xck X i3) = 303 from (hX.ck hi3 k203).mpr hE), zbd_e (h3.adv hX hit3 n)]
    refine rp_lt ((hX.rk hi3 203 (by decide)).mpr hE) (rp_ll ?_)
    rw [h3.at, nI_1]
    refine rp_ll (rp_r et (rp_rf (by decide) ?_))
    rw [h4.cr, h4.zp hX, hX.zpr, zgd_t]
    have hM0 : M3 0 = 0 := h3.2.2.2.2.2.2.2.1.2.2.1
    have ht30 : ht3 0 = 0 := by rw [(g9.1 0 (by omega)).2]; exact h00
    have em := pOk_emit hX h4 (o := 22) (a := 0) (b := 0) (w := xpl X i) (c := 23) (x := 0) (wc := xpl X i) (a' := 0) (x' := 0) 0 pE0 (fun _ q => q) hP (by omega) (by omega) (by omega) (fun _ => rfl) (fun _ => rfl) (fun _ => rfl)
      (fun q => insC_22.mpr ⟨rfl, ⟨by omega, hM0.symm, ht30, by omega, Or.inr (Or.inr rfl)⟩, rfl, by omega, rfl⟩) (fun z1 z2 _ => by omega)
    refine rp_l (r_emit n h4.cr (by omega) (nI 22) 0 (nI 0) (nI (xpl X i))) (rp_rl (rp_r (c_emit n (xp X) h4.cc (by omega) (o := 23) (w := xpl X i) (by omega) (by omega) 0) ?_))
    have e21 : zI (emR (zsI vr 0 10 (nI (i3 + 1))) cr3 (nI 22) 0 (nI 0) (nI (xpl X i))) 10 cr1 = nI 21 := by rw [emR_keep g2 (by decide), gI_sI, if_neg (by omega)]; exact g3
    have am := pOk_aim hX em (sk := cr1) (by omega) (if_pos rfl) (Or.inl e21)
    have hMs : (if cr1 = cr3 + 1 then cc3 + 1 else M3 cr1) = M3 cr1 := if_neg (by omega)
    rw [hMs] at am
    refine rp_lg (zin_nI (by omega) (by decide)) (rp_ll ?_)
    rw [em.cr, zx_nI (show cr1 < 2 ^ 31 by omega), em.zp hX, hX.zpr, zgd_t]
    refine rp_rl (rp_r (c_aim n (xp X) em.cc (by omega) (by omega)) ?_)
    have h0a : (fun r => if r = cr3 + 1 then 0 else ht3 r) 0 = 0 := (if_neg (by omega)).trans ht30
    refine rp_bd (rp_mono (HB X hX jR jC (i3 + 1) (cr3 + 1) (cc3 + 1) S3 C3 (cr3 + 1) _ _ _ _ hjR hjC am (if_pos rfl) h0a (by omega) (by omega) (by omega)) (fun _ yr _ yc g => ?_))
    rcases g with ⟨i5, cr5, cc5, S5, C5, tb5, M5, ht5, q1, q2, q3, q4, q5, q6, q7, q8, q9⟩ | ⟨w, w1, w2⟩
    · have hi5 := q1.i
      have hle5 := q1.le
      have e22 : zI yr 10 cr3 = nI 22 := by rw [q8.2.1 10 cr3 (by unfold pRw; omega), gI_sI, if_neg (by omega)]; simp [emR, gI_sI]
      have am2 := pOk_aim hX q1 (sk := cr3) (by omega) q9 (Or.inr e22)
      have hM5 : M5 cr3 = cc3 := by
        rw [(q8.1 cr3 (by omega)).1]
        show (if cr3 = cr3 + 1 then cc3 + 1 else M3 cr3) = cc3
        rw [if_neg (by omega)]; exact hM3
      rw [hM5] at am2
      refine rp_lg (zin_nI (by omega) (by decide)) (rp_ll ?_)
      have hmono5 := pCo_mono q1.2.2.2.2.2.2.2.1
      have hc5 := q1.2.2.2.2.2.2.2.1.2.2.2.1
      have : cc3 < cc5 := by have := hmono5 cr3 cr5 (by omega) (by omega); omega
      rw [q1.cr, zx_nI (show cr3 < 2 ^ 31 by omega), q1.zp hX, hX.zpr, zgd_t]
      refine rp_rl (rp_r (c_aim n (xp X) q1.cc (by omega) (by omega)) (rp_end (Or.inl ⟨i5, cr5, cc5, S5, C5, cr5, M5, ht5, am2, by omega, ⟨by omega, by omega, by omega, by omega, by omega⟩, ?_, q9⟩)))
      have x3 : pEx cr1 0 (fun r => if r = cr3 + 1 then cc3 + 1 else M3 r) (fun r => if r = cr3 + 1 then 0 else ht3 r) M5 ht5 (emR (zsI vr 0 10 (nI (i3 + 1))) cr3 (nI 22) 0 (nI 0) (nI (xpl X i))) yr (emC (advU vc (i3 + 1)) (xp X) cc3 (nI 23) 0 (nI (xpl X i))) yc := ⟨fun q hq => q8.1 q (by omega), fun k q hq => by rw [q8.2.1 k q (pRw_le hq (by omega)), gI_sI, if_neg (by unfold pRw at hq; omega)], fun s z => absurd z (Nat.not_lt_zero s), fun z => by have := q8.2.2.2 z; rw [gI_sI, if_neg (by omega)] at this; exact this⟩
      have x4 : pEx cr3 0 M5 ht5 M5 ht5 yr (zsI yr 11 cr3 (nI cr5)) yc (zsI yc (xp X + 2) cc3 (nI cc5)) := ⟨fun _ _ => ⟨rfl, rfl⟩, fun k q hq => by rw [gI_sI, if_neg (by unfold pRw at hq; omega)], fun s z => absurd z (Nat.not_lt_zero s), fun z => by rw [gI_sI, if_neg (by omega)] at z; exact z⟩
      exact pEx_tr (pEx_tr (pEx_tr (pEx_tr g9 ((pSm_tr (pSm_R 10 _) (pSm_adv _)).ex cr3 0 M3 ht3) (by omega) (Nat.le_refl _)) (pEx_em (S := 0) hp) (by omega) (Nat.le_refl _)) x3 (by omega) (Nat.le_refl _)) x4 (by omega) (Nat.le_refl _)
    · obtain ⟨v, e, hv⟩ := w1_aim n hX w2 (nI cc3)
      refine rp_lg (zin_nI (by omega) (by decide)) (rp_ll ?_)
      rw [bC_zp hX w2.1, hX.zpr, zgd_t]
      exact rp_rl (rp_r e (rp_end (Or.inr ⟨w, bR1_K (bR1_set w1 _ (by unfold pwR; omega) (by omega)) (by omega), hv⟩)))
  · have et : ce_C_takes n vc 303 = some (0, vc) := by
      unfold ce_C_takes
      rw [if_neg (show ¬ zI vc 7 6 = 303 from c_ne hX h3 k203 hE)]
    have am := pOk_aim hX h3 (sk := cr1) g2 g10 (Or.inl g3)
    refine rp_lf (fun q => hE ((hX.rk hi3 203 (by decide)).mp q)) (rp_lg (zin_nI (by omega) (by decide)) (rp_ll (rp_r et (rp_rt rfl ?_))))
    rw [h3.cr, zx_nI (show cr1 < 2 ^ 31 by omega), h3.zp hX, hX.zpr, zgd_t]
    refine rp_rl (rp_r (c_aim n (xp X) h3.cc hM1 (by omega)) (rp_end (Or.inl ⟨i3, cr3, cc3, S3, C3, cr3, M3, ht3, am, by omega, ⟨by omega, by omega, by omega, by omega, by omega⟩, ?_, g10⟩)))
    have x4 : pEx cr1 0 M3 ht3 M3 ht3 vr (zsI vr 11 cr1 (nI cr3)) vc (zsI vc (xp X + 2) (M3 cr1) (nI cc3)) := ⟨fun _ _ => ⟨rfl, rfl⟩, fun k q hq => by rw [gI_sI, if_neg (by unfold pRw at hq; omega)], fun s z => absurd z (Nat.not_lt_zero s), fun z => by rw [gI_sI, if_neg (by omega)] at z; exact z⟩
    exact pEx_tr g9 x4 (by omega) (Nat.le_refl _)
