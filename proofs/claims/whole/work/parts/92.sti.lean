/-! PARSING, steps, ninth part: while, a step, every depth -/
theorem p_while (n k : Nat) (hn : 2000 ≤ n) (hkk : 120 ≤ k) {op b KB : Nat} (hb1 : 1 ≤ b) (HB : sBl n k op b KB) (hKB : KB + 1 ≤ kS op) {X : pCx} (hX : xOk X) {i cr cc S C tb : Nat} {M ht : Nat → Nat} {ur uc : zMu} (hb : pSb X i op cr cc S C tb M ht ur uc) (h00 : ht 0 = 0) (hk : xrk X i = 204) {jR jC : Nat} (hjR : b ≤ jR) (hjC : b ≤ jC) :
    Rp (rf_step_J51 n k (rf_S_block n k jR).1 ur (nI 204) (nI (xpl X i)) (nI cr)) (ce_C_compileWhile_b n k (ce_G_compileBlock n k jC).1 uc) (fun _ vr _ vc => pSq X i op cr cc S C M ht ur uc vr vc ∨ pWx X (kS op) vr vc) := by
  have hp := hX.p12
  have hT := hX.T
  have kSb : kS op = 2280 + 8 * (9 - op) := rfl
  have hpc := hb.1.pc
  have hP := hX.pl hb.1.i
  have hbb := hb
  obtain ⟨h, b0, -, bM, bh, b4, b5, b6, b9⟩ := hbb
  unfold rf_step_J51 ce_C_compileWhile_b
  simp only [if_pos (show nI 204 = 204 from rfl)]
  refine rp_rl ?_
  rw [hpc, h.zp hX, hX.zpr, zgd_t]
  refine rp_rl (rp_rl ?_)
  rw [h.cc, nI_pred]
  refine p_cond n k hn hkk hb1 HB hKB hX hb h00 (by omega) hjR hjC (KR := fun v4 u8 => zbd (rf_emit n u8 22 (nI cr) 0 (nI (xpl X i))) fun _ u11 => zgd (zin v4 4000) (zlet (zsI u11 11 (zx v4) (zI u11 0 24)) fun u12 => some ((), u12))) (KC := fun r9 u12 => zgd (zpr (zR u12 2 1)) (zlet (zR u12 2 1) fun p13 => zbd (ce_P_emit n p13 u12 23 (nI cc) (nI (xpl X i))) fun r14 u15 => zgd (zpr (zR u15 2 1)) (zlet (zR u15 2 1) fun p16 => zbd (ce_P_aim n p16 u15 r9) fun _ u18 => some ((), u18)))) ?_ ?_
  · intro vr vc i3 cr1 cr3 cc3 S3 C3 tb3 M3 ht3 h3 g1 g2 g3 g4 g5 g6 g7 g8 g9 g10
    have hi3 := h3.i
    have hle3 := h3.le
    have hmono := pCo_mono h3.2.2.2.2.2.2.2.1
    have hM3 := h3.2.2.2.2.2.2.2.1.2.2.2.1
    have hM1 : M3 cr1 < cc3 := by have := hmono cr1 cr3 (by omega) (by omega); omega
    have h4 := pOk_tb h3 h3.tb (Nat.le_refl _)
    have em := pOk_emit hX h4 (o := 22) (a := cr) (b := 0) (w := xpl X i) (c := 23) (x := cc) (wc := xpl X i) (a' := nI cr) (x' := nI cc) 0 pE0 (fun _ q => q) hP (by omega) (by omega) (by omega) (fun _ => rfl) (fun _ => rfl) (fun _ => rfl)
      (fun q => insC_22.mpr ⟨rfl, ⟨by omega, by rw [(g9.1 cr (by omega)).1]; exact bM.symm, by rw [(g9.1 cr (by omega)).2]; exact bh, by omega, Or.inr (Or.inl ⟨by omega, by rw [g9.2.1 10 cr (by unfold pRw; omega)]; exact b9⟩)⟩, rfl, by omega, rfl⟩) (fun z1 z2 _ => by omega)
    rw [h3.zp hX, hX.zpr, zgd_t]
    refine rp_l (r_emit n h3.cr (by omega) (nI 22) (nI cr) (nI 0) (nI (xpl X i))) (rp_rl (rp_r (c_emit n (xp X) h3.cc (by omega) (o := 23) (w := xpl X i) (by omega) (by omega) (nI cc)) ?_))
    have e21 : zI (emR vr cr3 (nI 22) (nI cr) (nI 0) (nI (xpl X i))) 10 cr1 = nI 21 := by rw [emR_keep g2 (by decide)]; exact g3
    have am := pOk_aim hX em (sk := cr1) (by omega) (if_pos rfl) (Or.inl e21)
    have hMs : (if cr1 = cr3 + 1 then cc3 + 1 else M3 cr1) = M3 cr1 := if_neg (by omega)
    rw [hMs] at am
    refine rp_lg (zin_nI (by omega) (by decide)) (rp_ll ?_)
    rw [em.cr, zx_nI (show cr1 < 2 ^ 31 by omega), em.zp hX, hX.zpr, zgd_t]
    refine rp_rl (rp_r (c_aim n (xp X) em.cc (by omega) (by omega)) (rp_end (Or.inl ⟨i3, cr3 + 1, cc3 + 1, S3, C3, cr3 + 1, _, _, am, by omega, ⟨by omega, by omega, by omega, by omega, by omega⟩, ?_, if_pos rfl⟩)))
    have x4 : pEx cr1 0 (fun r => if r = cr3 + 1 then cc3 + 1 else M3 r) (fun r => if r = cr3 + 1 then 0 else ht3 r) (fun r => if r = cr3 + 1 then cc3 + 1 else M3 r) (fun r => if r = cr3 + 1 then 0 else ht3 r) (emR vr cr3 (nI 22) (nI cr) (nI 0) (nI (xpl X i))) (zsI (emR vr cr3 (nI 22) (nI cr) (nI 0) (nI (xpl X i))) 11 cr1 (nI (cr3 + 1))) (emC vc (xp X) cc3 (nI 23) (nI cc) (nI (xpl X i))) (zsI (emC vc (xp X) cc3 (nI 23) (nI cc) (nI (xpl X i))) (xp X + 2) (M3 cr1) (nI (cc3 + 1))) := ⟨fun _ _ => ⟨rfl, rfl⟩, fun k q hq => by rw [gI_sI, if_neg (by unfold pRw at hq; omega)], fun s z => absurd z (Nat.not_lt_zero s), fun z => by rw [gI_sI, if_neg (by omega)] at z; exact z⟩
    exact pEx_tr (pEx_tr g9 (pEx_em (S := 0) hp) (by omega) (Nat.le_refl _)) x4 (by omega) (Nat.le_refl _)
  · intro vr vc c y ⟨w, w1, w2⟩ hc
    obtain ⟨v3, e3, q3⟩ := r1_emit n w1 (by omega) 22 (nI cr) 0 (nI (xpl X i))
    obtain ⟨r5, v5, e5, q5⟩ := w1_emit n hX w2 23 (nI cc) (nI (xpl X i))
    obtain ⟨v, e, hv⟩ := w1_aim n hX q5 y
    refine rp_l e3 (rp_lg (zin_nI hc (by decide)) (rp_ll ?_))
    rw [bC_zp hX w2.1, hX.zpr, zgd_t]
    refine rp_rl (rp_r e5 ?_)
    rw [bC_zp hX q5.1, hX.zpr, zgd_t]
    exact rp_rl (rp_r e (rp_end (Or.inr ⟨w, bR1_K (bR1_set q3 _ (by unfold pwR; omega) (by omega)) (by omega), hv⟩)))
theorem p_step (n k : Nat) (hn : 2000 ≤ n) (hkk : 120 ≤ k) {op b KB : Nat} (hb1 : 1 ≤ b) (HB : sBl n k op b KB) (hKB : KB + 1 ≤ kS op) : sSt n k op (b + 2) (kS op) := by
  intro X hX jR jC i cr cc S C tb M ht ur uc hR hC h h0 h00 b1 b2 b3
  obtain ⟨jR, rfl⟩ : ∃ y, jR = y + 1 := ⟨jR - 1, by omega⟩
  obtain ⟨jC, rfl⟩ : ∃ y, jC = y + 2 := ⟨jC - 2, by omega⟩
  have hp := hX.p12
  have hT := hX.T
  have hi := h.i
  have hle := h.le
  have hP := hX.pl hi
  have kr := hX.kr hi
  rw [rfSt_s, ceSt_s n k (jC + 1)]
  unfold rf_step_b ce_C_compileStep_b
  have h' := pOk_tb h h.tb (Nat.le_refl _)
  have em := pOk_emit hX h' (o := 0) (a := 0) (b := 0) (w := xpl X i) (c := 0) (x := 0) (wc := xpl X i) (a' := 0) (x' := 0) 1 pE0 (fun _ q => q) hP (by omega) (by omega) (by omega) (fun _ => rfl) (fun _ => rfl) (fun _ => rfl) (fun q => insC_0.mpr ⟨rfl, rfl, h0, rfl⟩) (fun z1 z2 _ => by omega)
  have hM := h.2.2.2.2.2.2.2.1.2.2.2.1
  rw [h.zp hX, hX.zpr, zgd_t, h.pc]
  refine rp_l (h.now hX n) (rp_l (h.place hX n) (rp_ll ?_))
  rw [h.cr]
  refine rp_l (r_emit n h.cr (by omega) 0 0 0 (nI (xpl X i))) (rp_rl (rp_r (c_emit n (xp X) h.cc (by omega) (o := 0) (w := xpl X i) (by omega) (by omega) 0) (rp_rl ?_)))
  have hb : pSb X i op cr cc S C cr (fun r => if r = cr + 1 then cc + 1 else M r) (fun r => if r = cr + 1 then 1 else ht r) (emR ur cr (nI 0) 0 (nI 0) (nI (xpl X i))) (emC uc (xp X) cc (nI 0) 0 (nI (xpl X i))) := ⟨em, rfl, if_pos rfl, (if_neg (by omega)).trans hM, (if_neg (by omega)).trans h0, b1, b2, b3, by simp [emR, gI_sI]⟩
  have h00' : (fun r => if r = cr + 1 then 1 else ht r) 0 = 0 := (if_neg (by omega)).trans h00
  rw [em.kd]
  have ck : ∀ k c, kRel k c → xrk X i = k → xck X i = c := fun k c a b => (kRel_inj kr a).mp b
  have nk : ∀ k, k < 300 → ¬ xrk X i = k → ¬ nI (xrk X i) = nI k := fun k a b q => b ((hX.rk hi k (by omega)).mp q)
  have nc : ∀ k c, kRel k c → ¬ xrk X i = k → ¬ nI (xck X i) = nI c := fun k c a b q => b ((hX.ck hi a).mp q)
  have post : ∀ vr vc, (pSq X i op cr cc S C (fun r => if r = cr + 1 then cc + 1 else M r) (fun r => if r = cr + 1 then 1 else ht r) (emR ur cr (nI 0) 0 (nI 0) (nI (xpl X i))) (emC uc (xp X) cc (nI 0) 0 (nI (xpl X i))) vr vc ∨ pWx X (kS op) vr vc) → pSo X i op cr cc S C M ht ur uc vr vc ∨ pWx X (kS op) vr vc := by
    intro vr vc g
    rcases g with ⟨i', cr', cc', S', C', tb', M', ht', q1, q2, q3, q4, q5⟩ | g
    · exact Or.inl ⟨i', cr', cc', S', C', tb', M', ht', q1, by omega, q3, pEx_tr (pEx_em (S := 0) hp) q4 (by omega) (Nat.le_refl _), q5⟩
    · exact Or.inr g
  have wrap : ∀ {x : Option (Unit × zMu)}, (zbd x fun _ u => some ((), u)) = x := fun {x} => zbd_id x
  by_cases t201 : xrk X i = 201
  · rw [t201, ck 201 301 (by unfold kRel; omega) t201]
    refine rp_lt rfl (rp_rt rfl ?_)
    rw [wrap, wrap]
    exact rp_mono (p_let n k hn hkk hX hb t201) (fun _ vr _ vc g => post vr vc g)
  by_cases t202 : xrk X i = 202
  · rw [t202, ck 202 302 (by unfold kRel; omega) t202]
    refine rp_lf (by decide) (rp_lt rfl (rp_rf (by decide) (rp_rt rfl ?_)))
    rw [wrap, ceIf_s]
    exact rp_mono (p_if n k hn hkk hb1 HB hKB hX hb h00' t202 (by omega) (by omega) _) (fun _ vr _ vc g => post vr vc g)
  by_cases t204 : xrk X i = 204
  · rw [t204, ck 204 304 (by unfold kRel; omega) t204]
    refine rp_lf (by decide) (rp_lf (by decide) (rp_lt rfl (rp_rf (by decide) (rp_rf (by decide) (rp_rt rfl ?_)))))
    rw [wrap, ceW_s]
    exact rp_mono (p_while n k hn hkk hb1 HB hKB hX hb h00' t204 (by omega) (by omega)) (fun _ vr _ vc g => post vr vc g)
  by_cases t205 : xrk X i = 205
  · rw [t205, ck 205 305 (by unfold kRel; omega) t205]
    refine rp_lf (by decide) (rp_lf (by decide) (rp_lf (by decide) (rp_lt rfl (rp_rf (by decide) (rp_rf (by decide) (rp_rf (by decide) (rp_rt rfl ?_)))))))
    rw [wrap]
    exact rp_mono (p_plain n k hn hkk hX hb (kx := 205) (o := 18) (c := 22) (by omega) t205 _) (fun _ vr _ vc g => post vr vc g)
  by_cases t206 : xrk X i = 206
  · rw [t206, ck 206 306 (by unfold kRel; omega) t206]
    refine rp_lf (by decide) (rp_lf (by decide) (rp_lf (by decide) (rp_lf (by decide) (rp_lt rfl (rp_rf (by decide) (rp_rf (by decide) (rp_rf (by decide) (rp_rf (by decide) (rp_rt rfl ?_)))))))))
    rw [wrap]
    exact rp_mono (p_plain n k hn hkk hX hb (kx := 206) (o := 19) (c := 21) (by omega) t206 _) (fun _ vr _ vc g => post vr vc g)
  by_cases t207 : xrk X i = 207
  · rw [t207, ck 207 307 (by unfold kRel; omega) t207]
    refine rp_lf (by decide) (rp_lf (by decide) (rp_lf (by decide) (rp_lf (by decide) (rp_lf (by decide) (rp_lt rfl (rp_rf (by decide) (rp_rf (by decide) (rp_rf (by decide) (rp_rf (by decide) (rp_rf (by decide) (rp_rt rfl ?_)))))))))))
    rw [wrap]
    exact rp_mono (p_del n k hn hkk hX hb t207 _) (fun _ vr _ vc g => post vr vc g)
  refine rp_lf (nk 201 (by omega) t201) (rp_lf (nk 202 (by omega) t202) (rp_lf (nk 204 (by omega) t204) (rp_lf (nk 205 (by omega) t205) (rp_lf (nk 206 (by omega) t206) (rp_lf (nk 207 (by omega) t207) ?_)))))
  refine rp_rf (nc 201 301 (by unfold kRel; omega) t201) (rp_rf (nc 202 302 (by unfold kRel; omega) t202) (rp_rf (nc 204 304 (by unfold kRel; omega) t204) (rp_rf (nc 205 305 (by unfold kRel; omega) t205) (rp_rf (nc 206 306 (by unfold kRel; omega) t206) (rp_rf (nc 207 307 (by unfold kRel; omega) t207) ?_)))))
  rw [wrap, wrap]
  exact rp_mono (p_put n k hn hkk hX hb) (fun _ vr _ vc g => post vr vc g)
theorem sBl_w {n k op b b' K : Nat} (h : sBl n k op b K) (hb : b ≤ b') : sBl n k op b' K := by
  intro X hX jR jC i cr cc S C tb M ht ur uc a1 a2 a3 a4 a5 a6 a7 a8
  exact h X hX jR jC i cr cc S C tb M ht ur uc (by omega) (by omega) a3 a4 a5 a6 a7 a8
theorem s_steps (n k : Nat) (hn : 2000 ≤ n) (hkk : 120 ≤ k) : ∀ d op, op + d = 8 → sBl n k op (3 * d + 1) (kS (op + 1)) ∧ sSt n k op (3 * d + 3) (kS op) := by
  have fin : ∀ d op, op ≤ 8 → sBl n k op (3 * d + 1) (kS (op + 1)) → sSt n k op (3 * d + 3) (kS op) := fun d op hop h => p_step n k hn hkk (by omega) h (by unfold kS; omega)
  intro d
  induction d with
  | zero =>
    intro op hd
    have hB : sBl n k op (3 * 0 + 1) (kS (op + 1)) := p_block n k hn (b := 0) (by omega) (by unfold kS; omega) (fun q => by omega)
    exact ⟨hB, fin 0 op (by omega) hB⟩
  | succ d ih =>
    intro op hd
    have hB : sBl n k op (3 * (d + 1) + 1) (kS (op + 1)) := p_block n k hn (b := 3 * d + 3) (by omega) (by unfold kS; omega) (fun _ => (ih (op + 1) (by omega)).2)
    exact ⟨hB, fin (d + 1) op (by omega) hB⟩
theorem s_block0 (n k : Nat) (hn : 2000 ≤ n) (hkk : 120 ≤ k) : sBl n k 0 25 (kS 1) := (s_steps n k hn hkk 8 0 (by omega)).1
theorem s_step0 (n k : Nat) (hn : 2000 ≤ n) (hkk : 120 ≤ k) : sSt n k 0 27 (kS 0) := (s_steps n k hn hkk 8 0 (by omega)).2
