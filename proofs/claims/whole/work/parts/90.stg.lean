/-! PARSING, steps, seventh part: blocks, if, while -/
def sBl (n k op b K : Nat) : Prop := ∀ X, xOk X → ∀ jR jC i cr cc S C tb M ht ur uc, b ≤ jR → b ≤ jC → pOk X i i op cr cc S C tb 5000 pE0 M ht ur uc → ht cr = 0 → ht 0 = 0 → 2 * cc ≤ 3 * i → 2 * S ≤ i → 3 * C ≤ i →
  Rp ((rf_S_block n k jR).1 ur) ((ce_G_compileBlock n k jC).1 uc) (fun _ vr _ vc => (∃ i' cr' cc' S' C' tb' M' ht', pOk X i' i' op cr' cc' S' C' tb' 5000 pE0 M' ht' vr vc ∧ cr ≤ cr' ∧ i + 2 ≤ i' ∧ S ≤ S' ∧ 2 * cc' + 6 + 3 * i ≤ 2 * cc + 3 * i' ∧ 2 * S' + 2 + i ≤ 2 * S + i' ∧ 3 * C' + 2 + i ≤ 3 * C + i' ∧ pEx cr 0 M ht M' ht' ur vr uc vc ∧ ht' cr' = 0) ∨ pWx X K vr vc)
def sSt (n k op b K : Nat) : Prop := ∀ X, xOk X → ∀ jR jC i cr cc S C tb M ht ur uc, b ≤ jR → b ≤ jC → pOk X i i op cr cc S C tb 5000 pE0 M ht ur uc → ht cr = 0 → ht 0 = 0 → 2 * cc ≤ 3 * i → 2 * S ≤ i → 3 * C ≤ i →
  Rp ((rf_S_block n k jR).2 ur) ((ce_G_compileBlock n k jC).2.1 uc) (fun _ vr _ vc => pSo X i op cr cc S C M ht ur uc vr vc ∨ pWx X K vr vc)
theorem rfB_s (n k j : Nat) (u : zMu) : (rf_S_block n k (j + 1)).1 u = rf_block_b n k (rf_S_block n k j).2 u := rfl
theorem rfSt_s (n k j : Nat) (u : zMu) : (rf_S_block n k (j + 1)).2 u = rf_step_b n k (rf_S_block n k j).1 u := rfl
theorem ceB_s (n k j : Nat) (u : zMu) : (ce_G_compileBlock n k (j + 1)).1 u = ce_C_compileBlock_b n k (ce_G_compileBlock n k j).2.1 u := rfl
theorem ceSt_s (n k j : Nat) (u : zMu) : (ce_G_compileBlock n k (j + 1)).2.1 u = ce_C_compileStep_b n k (ce_G_compileBlock n k j).2.2.1 (ce_G_compileBlock n k j).2.2.2 u := rfl
theorem ceIf_s (n k j : Nat) (u : zMu) : (ce_G_compileBlock n k (j + 1)).2.2.1 u = ce_C_compileIf_b n k (ce_G_compileBlock n k j).1 u := rfl
theorem ceW_s (n k j : Nat) (u : zMu) : (ce_G_compileBlock n k (j + 1)).2.2.2 u = ce_C_compileWhile_b n k (ce_G_compileBlock n k j).1 u := rfl
theorem c_aim (n p : Nat) {u : zMu} {c L : Nat} (h : zI u p 3 = nI L) (hc : c < L) (hL : L ≤ 2400) : ce_P_aim n p u (nI c) = some ((), zsI u (p + 2) c (nI L)) := by
  have hz : zin (nI c) 2400 = true := zin_nI (by omega) (by decide)
  have hx : zx (nI c) = c := zx_nI (by omega)
  unfold ce_P_aim
  rw [if_neg (nI_pos (by omega)), h, if_pos (nI_lt hc (by omega)), hz, hx]
  rfl
theorem w1_aim (n : Nat) {X : pCx} (hX : xOk X) {w : Nat} {u : zMu} (h : bC1 X w u) (x : Int32) : ∃ v, ce_P_aim n (xp X) u x = some ((), v) ∧ bC1 X w v := by
  have hp := hX.p12
  obtain ⟨f, L, S, V, C, F, b1, b2, b3, b4, b5, b6, b7, b8, b9, b10⟩ := h.1
  by_cases g : x < 0
  · exact ⟨u, by unfold ce_P_aim; rw [if_pos g], h⟩
  · obtain ⟨j, hj, rfl⟩ := nI_of g
    by_cases g2 : j < L
    · refine ⟨_, c_aim n (xp X) b2 g2 b1, bC1_keep h (bC_keep h.1 (fPC_I f (by unfold pwC; omega)) (fun k b q => by rw [gI_sI, if_neg (by omega)])) (fun k b q => by rw [gI_sI, if_neg (by omega)])⟩
    · refine ⟨u, ?_, h⟩
      unfold ce_P_aim
      rw [if_neg g, b2, if_neg (nI_nlt (by omega) hj)]
theorem w1_block (n k j : Nat) (hn : 2000 ≤ n) {X : pCx} (hX : xOk X) {w : Nat} {u : zMu} (h : bC1 X w u) : ∃ v, (ce_G_compileBlock n k (j + 1)).1 u = some ((), v) ∧ bC1 X w v := by
  obtain ⟨v, e, hv⟩ := w1_opens n hX h (x := 123) (by decide)
  obtain ⟨v2, e2, hv2⟩ := w1_closes n hX hv (x := 125) (by decide)
  refine ⟨v2, ?_, hv2⟩
  obtain ⟨m, hm⟩ : ∃ y, n = y + 1 := ⟨n - 1, by omega⟩
  rw [ceB_s]
  unfold ce_C_compileBlock_b
  rw [zbd_e e, show ce_C_compileBlock_L8 n k (ce_G_compileBlock n k j).2.1 n v 0 = ce_C_compileBlock_L8 n k (ce_G_compileBlock n k j).2.1 (m + 1) v 0 by rw [← hm], ce_C_compileBlock_L8, if_pos (by decide), hv.2.2.2.2.1, if_neg (by decide), if_pos rfl, zbd_e e2]
theorem r1_block (n k j : Nat) (hn : 2000 ≤ n) {X : pCx} {w K : Nat} {u : zMu} (h : bR1 X w K u) : ∃ v, (rf_S_block n k (j + 1)).1 u = some ((), v) ∧ bR1 X w K v := by
  obtain ⟨v, e, hv⟩ := r1_closes n h 125
  refine ⟨v, ?_, hv⟩
  obtain ⟨m, hm⟩ : ∃ y, n = y + 1 := ⟨n - 1, by omega⟩
  rw [rfB_s]
  unfold rf_block_b
  rw [zbd_e (r1_opens n h 123), show rf_block_L6 n k (rf_S_block n k j).2 n u = rf_block_L6 n k (rf_S_block n k j).2 (m + 1) u by rw [← hm], rf_block_L6, zbd_e (r1_isWrong n h), if_neg (by decide), zbd_e e]
theorem p_blockL (n k : Nat) {op b K : Nat} (hop : op < 8) (hK : 2260 ≤ K) (H : sSt n k (op + 1) b K) {X : pCx} (hX : xOk X) {i0 cr0 cc0 S0 C0 : Nat} {M0 ht0 : Nat → Nat} {ur0 uc0 : zMu} (c1 : 2 * cc0 ≤ 3 * i0) (c2 : 2 * S0 ≤ i0) (c3 : 3 * C0 ≤ i0) (h00 : ht0 0 = 0) {jR jC : Nat} (hjR : b ≤ jR) (hjC : b ≤ jC) :
    ∀ d i m m' j ur uc, xT X - i = d → d + 1 < m → d + 1 < m' → j < i → (∃ cr cc S C tb M ht, pOk X i i (op + 1) cr cc S C tb 5000 pE0 M ht ur uc ∧ cr0 ≤ cr ∧ i0 + 1 ≤ i ∧ S0 ≤ S ∧ 2 * cc + 3 + 3 * i0 ≤ 2 * cc0 + 3 * i ∧ 2 * S + 1 + i0 ≤ 2 * S0 + i ∧ 3 * C + 1 + i0 ≤ 3 * C0 + i ∧ pEx cr0 0 M0 ht0 M ht ur0 ur uc0 uc ∧ ht cr = 0) →
      Rp (rf_block_L6 n k (rf_S_block n k jR).2 m ur) (ce_C_compileBlock_L8 n k (ce_G_compileBlock n k jC).2.1 m' uc (nI j)) (fun _ vr _ vc => (∃ i' cr' cc' S' C' tb' M' ht', pOk X i' i' op cr' cc' S' C' tb' 5000 pE0 M' ht' vr vc ∧ cr0 ≤ cr' ∧ i0 + 2 ≤ i' ∧ S0 ≤ S' ∧ 2 * cc' + 6 + 3 * i0 ≤ 2 * cc0 + 3 * i' ∧ 2 * S' + 2 + i0 ≤ 2 * S0 + i' ∧ 3 * C' + 2 + i0 ≤ 3 * C0 + i' ∧ pEx cr0 0 M0 ht0 M' ht' ur0 vr uc0 vc ∧ ht' cr' = 0) ∨ pWx X K vr vc) := by
  intro d
  induction d using Nat.strongRecOn with
  | ind d ih =>
    intro i m m' j ur uc hd hm hm' hj hL
    obtain ⟨m, rfl⟩ : ∃ y, m = y + 2 := ⟨m - 2, by omega⟩
    obtain ⟨m', rfl⟩ : ∃ y, m' = y + 2 := ⟨m' - 2, by omega⟩
    obtain ⟨cr, cc, S, C, tb, M, ht, h, a1, a2, a3, a4, a5, a6, a7, a8⟩ := hL
    have hT := hX.T
    have hi := h.i
    have hle := h.le
    have k125 : kRel 125 125 := by unfold kRel isSg; omega
    have k0 : kRel 0 256 := by unfold kRel; omega
    rw [rf_block_L6, ce_C_compileBlock_L8]
    refine rp_l (h.nw n) (rp_lt rfl (rp_l (h.now hX n) (rp_rt (show nI j < 1500 from nI_lt (b := 1500) (by omega) (by decide)) ?_)))
    have cl : Rp (zbd (rf_closes n ur 125) fun _ u8 => some ((), u8)) (zbd (ce_C_closes n uc 125) fun _ u4 => some ((), u4)) (fun _ vr _ vc => (∃ i' cr' cc' S' C' tb' M' ht', pOk X i' i' op cr' cc' S' C' tb' 5000 pE0 M' ht' vr vc ∧ cr0 ≤ cr' ∧ i0 + 2 ≤ i' ∧ S0 ≤ S' ∧ 2 * cc' + 6 + 3 * i0 ≤ 2 * cc0 + 3 * i' ∧ 2 * S' + 2 + i0 ≤ 2 * S0 + i' ∧ 3 * C' + 2 + i0 ≤ 3 * C0 + i' ∧ pEx cr0 0 M0 ht0 M' ht' ur0 vr uc0 vc ∧ ht' cr' = 0) ∨ pWx X K vr vc) := by
      refine rp_bd (rp_mono (p_closes n hX h (k := 125) (K := K) k125 (by omega) (by omega) (by omega) (by omega)) (fun _ vr _ vc g => rp_end ?_))
      rcases g with ⟨-, g5, g6, g7⟩ | g
      · exact Or.inl ⟨i + 1, cr, cc, S, C, tb, M, ht, g6, a1, by omega, a3, by omega, by omega, by omega, pEx_tr a7 (g7.ex cr 0 M ht) a1 (Nat.le_refl _), a8⟩
      · exact Or.inr g
    by_cases hk : xrk X i = 125
    · refine rp_lt ((hX.rk hi 125 (by decide)).mpr hk) (rp_rt (by rw [h.kd]; exact (hX.ck hi k125).mpr hk) cl)
    · refine rp_lf (fun q => hk ((hX.rk hi 125 (by decide)).mp q)) (rp_l (h.now hX n) (rp_rf (c_ne hX h k125 hk) ?_))
      by_cases hk2 : xrk X i = 0
      · refine rp_lt ((hX.rk hi 0 (by decide)).mpr hk2) (rp_rt (by rw [h.kd]; exact (hX.ck hi k0).mpr hk2) cl)
      · refine rp_lf (fun q => hk2 ((hX.rk hi 0 (by decide)).mp q)) (rp_rf (c_ne hX h k0 hk2) ?_)
        refine rp_bd (rp_mono (H X hX jR jC i cr cc S C tb M ht ur uc hjR hjC h a8 (by rw [(a7.1 0 (by omega)).2]; exact h00) (by omega) (by omega) (by omega)) (fun _ vr _ vc g => ?_))
        refine rp_rl ?_
        rw [nI_1]
        rcases g with ⟨i', cr', cc', S', C', tb', M', ht', k1, k2, ⟨f1, f2, f3, f4, f5⟩, k4, k5⟩ | ⟨w, w1, w2⟩
        · have hi' := k1.i
          exact ih (xT X - i') (by omega) i' (m + 1) (m' + 1) (j + 1) vr vc rfl (by omega) (by omega) (by omega) ⟨cr', cc', S', C', tb', M', ht', k1, by omega, by omega, by omega, by omega, by omega, by omega, pEx_tr a7 k4 a1 (Nat.le_refl _), k5⟩
        · obtain ⟨v, e, hv⟩ := r1_closes n w1 125
          obtain ⟨v2, e2, hv2⟩ := w1_closes n hX w2 (x := 125) (by decide)
          rw [rf_block_L6, ce_C_compileBlock_L8]
          refine rp_l (r1_isWrong n w1) (rp_lf (by decide) ?_)
          rw [w2.2.2.2.2.1, if_neg (show ¬ (256 : Int32) = 125 by decide), if_pos (show (256 : Int32) = 256 from rfl)]
          by_cases z : nI (j + 1) < 1500
          · rw [if_pos z]; exact rp_l e (rp_r e2 (rp_end (Or.inr ⟨w, hv, hv2⟩)))
          · rw [if_neg z]; exact rp_l e (rp_r e2 (rp_end (Or.inr ⟨w, hv, hv2⟩)))
theorem p_block (n k : Nat) (hn : 2000 ≤ n) {op b K : Nat} (hop : op ≤ 8) (hK : 2260 ≤ K) (H : op < 8 → sSt n k (op + 1) b K) : sBl n k op (b + 1) K := by
  intro X hX jR jC i cr cc S C tb M ht ur uc hR hC h h0 h00 b1 b2 b3
  obtain ⟨jR, rfl⟩ : ∃ y, jR = y + 1 := ⟨jR - 1, by omega⟩
  obtain ⟨jC, rfl⟩ : ∃ y, jC = y + 1 := ⟨jC - 1, by omega⟩
  have hT := hX.T
  have hi := h.i
  have hle := h.le
  rw [rfB_s, ceB_s]
  unfold rf_block_b ce_C_compileBlock_b
  refine rp_bd (rp_mono (p_opens n hX h (k := 123) (K := K) (by unfold kRel isSg; omega) (by omega) (by omega) (by omega) (by omega)) (fun _ vr _ vc g => ?_))
  rcases g with ⟨-, g1, g2, g3, g4⟩ | ⟨w, w1, w2⟩
  · have hi1 := g3.i
    exact p_blockL n k g1 hK (H g1) hX b1 b2 b3 h00 (by omega) (by omega) (xT X - (i + 1)) (i + 1) n n 0 vr vc rfl (by omega) (by omega) (by omega) ⟨cr, cc, S, C, tb, M, ht, g3, Nat.le_refl _, by omega, Nat.le_refl _, by omega, by omega, by omega, g4.ex cr 0 M ht, h0⟩
  · obtain ⟨v, e, hv⟩ := r1_closes n w1 125
    obtain ⟨v2, e2, hv2⟩ := w1_closes n hX w2 (x := 125) (by decide)
    obtain ⟨m, hm⟩ : ∃ y, n = y + 1 := ⟨n - 1, by omega⟩
    rw [show rf_block_L6 n k (rf_S_block n k jR).2 n vr = rf_block_L6 n k (rf_S_block n k jR).2 (m + 1) vr by rw [← hm], show ce_C_compileBlock_L8 n k (ce_G_compileBlock n k jC).2.1 n vc 0 = ce_C_compileBlock_L8 n k (ce_G_compileBlock n k jC).2.1 (m + 1) vc 0 by rw [← hm], rf_block_L6, ce_C_compileBlock_L8, w2.2.2.2.2.1, if_neg (show ¬ (256 : Int32) = 125 by decide), if_pos (show (256 : Int32) = 256 from rfl)]
    exact rp_l (r1_isWrong n w1) (rp_lf (by decide) (rp_rt (by decide) (rp_l e (rp_r e2 (rp_end (Or.inr ⟨w, hv, hv2⟩))))))
