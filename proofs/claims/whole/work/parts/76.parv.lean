/-! PARSING, twenty-fourth part: SUM and E -/
theorem p_sumL (n : Nat) (hn : 2000 ≤ n) {op bR bC hb K : Nat} (hhb : hb ≤ 57) (hK2 : K < 3990) (H : sSp n op bR bC (hb + 1) K (rf_term n) (fun k u => ce_C_compileE n k u (nI 2))) {X : pCx} (hX : xOk X) {i0 cr0 cc0 S0 C0 tb e : Nat} {E : Nat → Prop} {M0 ht0 : Nat → Nat} {h0 : Nat} {ur0 uc0 : zMu} (c1 : 2 * cc0 ≤ 3 * i0 + 2) (c2 : 2 * S0 ≤ i0) (c3 : 3 * C0 ≤ i0) (ch : 1 ≤ h0 ∧ h0 ≤ hb) {kR kC : Nat} (hkR : bR ≤ kR) (hkC : bC ≤ kC) :
    ∀ d i m m' j ur rc uc, xT X - i = d → d < m → d < m' → j < i → pLp X i0 op cr0 cc0 S0 C0 tb e E M0 ht0 h0 ur0 uc0 i ur rc uc →
      Rp (rf_sum_L4 n (rf_term n kR) m ur) (ce_C_compileE_L20 n (ce_C_compileE n (kC + 1)) (ce_C_compileRest n (kC + 1)) (ce_C_compilePost n (kC + 1)) m' uc (nI 1) rc (nI j)) (fun _ vr rc vc => pPo X i0 op cr0 cc0 S0 C0 tb e E M0 ht0 h0 ur0 uc0 vr rc vc ∨ pWx X (K + 1) vr vc) := by
  intro d
  induction d using Nat.strongRecOn with
  | ind d ih =>
    intro i m m' j ur rc uc hd hm hm' hj hL
    obtain ⟨m, rfl⟩ : ∃ y, m = y + 1 := ⟨m - 1, by omega⟩
    obtain ⟨m', rfl⟩ : ∃ y, m' = y + 1 := ⟨m' - 1, by omega⟩
    obtain ⟨cr, cc, S, C, M, ht, kd, h, a1, a2, a3, a4, a5⟩ := id hL
    have hT := hX.T
    have hi := h.i
    have hlt := kRel_lt (hX.kr hi)
    obtain ⟨f1, f2, f3, f4, f5⟩ := id a2
    rw [rf_sum_L4, ce_C_compileE_L20]
    refine rp_l (h.nw n) (rp_lt rfl (rp_l (h.now hX n) (rp_rt (show nI j < 1500 from nI_lt (b := 1500) (by omega) (by decide)) ?_)))
    have kr := hX.kr hi
    have body : ∀ sg c, (sg = 43 ∧ c = 7) ∨ (sg = 45 ∧ c = 8) → xrk X i = sg → Rp (rf_sum_J29 n (rf_term n kR) (rf_sum_L4 n (rf_term n kR) m) ur) (zbd (ce_C_bindsAt n uc (nI 1)) fun r2 u3 => if r2 = 0 then some (rc, u3) else zbd (ce_C_compileRest n (kC + 1) u3 (nI 1)) fun _ u6 => if nI 1 = 0 then some (0, u6) else zlet (nI j + 1) fun v8 => ce_C_compileE_L20 n (ce_C_compileE n (kC + 1)) (ce_C_compileRest n (kC + 1)) (ce_C_compilePost n (kC + 1)) m' u6 (nI 1) 0 v8) (fun _ vr rc vc => pPo X i0 op cr0 cc0 S0 C0 tb e E M0 ht0 h0 ur0 uc0 vr rc vc ∨ pWx X (K + 1) vr vc) := by
      intro sg c hsg hk
      have hc : xck X i = sg := (kRel_inj kr (show kRel sg sg by unfold kRel isSg; omega)).mp hk
      unfold rf_sum_J29
      refine rp_r (binds_yes n (by rw [h.kd]) (by omega)) (rp_rf (by decide) (rp_l (h.now hX n) (rp_l (h.place hX n) ?_)))
      rw [ceR_s, hk]
      refine p_bin n hX h (by omega) (by omega) (by omega) (by omega) (sg := sg) (c := c) (by omega) hk (K := K) (by omega) (nI 1) (by decide) (rf_term n kR) (ce_C_compileE n kC) (fun E1 vr vc h1 => ?_) (fun vr vc hb => ?_) (fun vr vc hw => ?_)
      · exact H X hX kR kC (i + 1) cr cc (S + 1) C tb e E1 M ht vr vc hkR hkC h1 (by omega) (by omega) (by omega) (by omega)
      · obtain ⟨i', hi', hL'⟩ := hb.lp a1 a2 a3 a4
        refine rp_rf (by decide) (rp_rl ?_)
        rw [nI_1]
        have hi2 : i' ≤ xT X := by obtain ⟨_, _, _, _, _, _, _, q, -⟩ := hL'; exact q.i
        exact ih (xT X - i') (by omega) i' m m' (j + 1) vr 0 vc rfl (by omega) (by omega) (by omega) hL'
      · obtain ⟨w, w1, w2⟩ := hw
        obtain ⟨m, rfl⟩ : ∃ y, m = y + 1 := ⟨m - 1, by have := hX.nx hi (by omega); omega⟩
        obtain ⟨m', rfl⟩ : ∃ y, m' = y + 1 := ⟨m' - 1, by have := hX.nx hi (by omega); omega⟩
        exact rp_rf (by decide) (rp_rl (rp_eq (r1_sumL n m _ w1) (w1_L20 n m' _ _ _ w2 _ _ _) (Or.inr ⟨w, w1, w2⟩)))
    by_cases hk : xrk X i = 43
    · exact rp_lt ((hX.rk hi 43 (by decide)).mpr hk) (body 43 7 (by omega) hk)
    · refine rp_lf (fun q => hk ((hX.rk hi 43 (by decide)).mp q)) (rp_l (h.now hX n) ?_)
      by_cases hk2 : xrk X i = 45
      · exact rp_lt ((hX.rk hi 45 (by decide)).mpr hk2) (body 45 8 (by omega) hk2)
      · have hc : xck X i ≠ 43 := fun q => hk ((kRel_inj kr (show kRel 43 43 by unfold kRel isSg; omega)).mpr q)
        have hc2 : xck X i ≠ 45 := fun q => hk2 ((kRel_inj kr (show kRel 45 45 by unfold kRel isSg; omega)).mpr q)
        exact rp_lf (fun q => hk2 ((hX.rk hi 45 (by decide)).mp q)) (rp_r (binds_no n h.kd hlt.2 (by omega)) (rp_rt rfl (rp_end (Or.inl hL.po))))
theorem p_sum (n : Nat) (hn : 2000 ≤ n) {op bR bC hb K : Nat} (hhb : hb ≤ 57) (hK2 : K < 3990) (H : sSp n op bR bC (hb + 1) K (rf_term n) (fun k u => ce_C_compileE n k u (nI 2))) : sSp n op (bR + 1) (bC + 2) hb (K + 1) (rf_sum n) (fun k u => ce_C_compileE n k u (nI 1)) := by
  intro X hX kR kC i cr cc S C tb e E M ht ur uc hR hC h hh b1 b2 b3
  obtain ⟨kR, rfl⟩ : ∃ y, kR = y + 1 := ⟨kR - 1, by omega⟩
  obtain ⟨kC, rfl⟩ : ∃ y, kC = y + 2 := ⟨kC - 2, by omega⟩
  have hT := hX.T
  show Rp (rf_sum n (kR + 1) ur) (ce_C_compileE n (kC + 1 + 1) uc (nI 1)) _
  rw [rfS_s, cEl n (kC + 1) uc (by omega)]
  unfold rf_sum_b
  refine rp_bd (rp_mono (H X hX kR (kC + 1) i cr cc S C tb e E M ht ur uc (by omega) (by omega) h (by omega) b1 b2 b3) (fun _ vr rc vc g => ?_))
  rcases g with g | ⟨w, w1, w2⟩
  · obtain ⟨i', hi', hL⟩ := g.lp
    exact p_sumL n hn hhb hK2 H hX b1 b2 b3 hh (by omega) (by omega) (xT X - i') i' n n 0 vr rc vc rfl (by omega) (by omega) (by omega) hL
  · obtain ⟨m, rfl⟩ : ∃ y, n = y + 1 := ⟨n - 1, by omega⟩
    exact rp_eq (r1_sumL _ m _ w1) (w1_L20 _ m _ _ _ w2 _ _ _) (Or.inr ⟨w, bR1_K w1 (by omega), w2⟩)
def pSg (sg s0 c : Nat) : Prop := (sg = 60 ∧ s0 = 60 ∧ c = 10) ∨ (sg = 150 ∧ s0 = 260 ∧ c = 11)
theorem pSg.b {sg s0 c : Nat} (h : pSg sg s0 c) : kRel sg s0 ∧ c < 128 ∧ c ≤ 23 ∧ c ≠ 17 ∧ ¬ c ≤ 8 ∧ sg ≠ 0 ∧ (s0 = 60 ∨ s0 = 260) := by
  unfold pSg at h; unfold kRel isSg; omega
theorem pSg.op {sg s0 c : Nat} (h : pSg sg s0 c) : (s0 = 43 ∧ c = 7) ∨ (s0 = 45 ∧ c = 8) ∨ (s0 = 42 ∧ c = 9) ∨ (s0 = 60 ∧ c = 10) ∨ (s0 = 260 ∧ c = 11) := by
  unfold pSg at h; omega
theorem p_expr (n : Nat) (hn : 2000 ≤ n) {op bR bC hb K : Nat} (hhb : hb ≤ 57) (hK2 : K < 3990) (H : sSp n op bR bC (hb + 1) K (rf_sum n) (fun k u => ce_C_compileE n k u (nI 1))) : sSp n op (bR + 1) (bC + 2) hb (K + 1) (rf_expr n) (fun k u => ce_C_compileE n k u (nI 0)) := by
  intro X hX kR kC i0 cr0 cc0 S0 C0 tb e E M0 ht0 ur0 uc0 hR hC h0 hh c1 c2 c3
  obtain ⟨kR, rfl⟩ : ∃ y, kR = y + 1 := ⟨kR - 1, by omega⟩
  obtain ⟨kC, rfl⟩ : ∃ y, kC = y + 2 := ⟨kC - 2, by omega⟩
  have hT := hX.T
  have hp := hX.p12
  show Rp (rf_expr n (kR + 1) ur0) (ce_C_compileE n (kC + 1 + 1) uc0 (nI 0)) _
  rw [rfE_s, cEl n (kC + 1) uc0 (by omega)]
  unfold rf_expr_b
  refine rp_bd (rp_mono (H X hX kR (kC + 1) i0 cr0 cc0 S0 C0 tb e E M0 ht0 ur0 uc0 (by omega) (by omega) h0 (by omega) c1 c2 c3) (fun _ ur rc uc g => ?_))
  obtain ⟨m, hm⟩ : ∃ y, n = y + 1 := ⟨n - 1, by omega⟩
  rcases g with g | ⟨w, w1, w2⟩
  · obtain ⟨i, hi0, hL⟩ := g.lp
    obtain ⟨cr, cc, S, C, M, ht, kd, h, a1, a2, a3, a4, a5⟩ := id hL
    have hi := h.i
    have kr := hX.kr hi
    have hlt := kRel_lt kr
    obtain ⟨f1, f2, f3, f4, f5⟩ := id a2
    have hP := hX.pl hi
    rw [show ce_C_compileE_L20 n (ce_C_compileE n (kC + 1)) (ce_C_compileRest n (kC + 1)) (ce_C_compilePost n (kC + 1)) n uc (nI 0) rc 0 = ce_C_compileE_L20 n (ce_C_compileE n (kC + 1)) (ce_C_compileRest n (kC + 1)) (ce_C_compilePost n (kC + 1)) (m + 1) uc (nI 0) rc 0 by rw [← hm], ce_C_compileE_L20]
    refine rp_l (h.nw n) (rp_lt rfl (rp_l (h.now hX n) (rp_rt (by decide) ?_)))
    have body : ∀ sg c s0, pSg sg s0 c → xrk X i = sg → Rp (rf_expr_J31 n (rf_sum n kR) ur) (zbd (ce_C_bindsAt n uc (nI 0)) fun r2 u3 => if r2 = 0 then some (rc, u3) else zbd (ce_C_compileRest n (kC + 1) u3 (nI 0)) fun _ u6 => if nI 0 = 0 then some (0, u6) else zlet (0 + 1) fun v8 => ce_C_compileE_L20 n (ce_C_compileE n (kC + 1)) (ce_C_compileRest n (kC + 1)) (ce_C_compilePost n (kC + 1)) m u6 (nI 0) 0 v8) (fun _ vr rc vc => pPo X i0 op cr0 cc0 S0 C0 tb e E M0 ht0 (ht0 cr0) ur0 uc0 vr rc vc ∨ pWx X (K + 1) vr vc) := by
      intro sg c s0 hsg hk
      obtain ⟨hkc, g1, g2, g3, g4, g5, g6⟩ := hsg.b
      have hc : xck X i = s0 := (kRel_inj kr hkc).mp hk
      have hit := hX.nx hi (by rw [hk]; exact g5)
      refine rp_r (binds_yes n (by rw [h.kd]) (Or.inr (Or.inr ⟨rfl, by rw [hc]; exact g6⟩))) (rp_rf (by decide) ?_)
      clear g6
      have hj : rf_expr_J31 n (rf_sum n kR) ur = rf_expr_J48 n (rf_sum n kR) ur (nI c) := by
        unfold rf_expr_J31
        rw [zbd_e (h.now hX n), hk]
        unfold pSg at hsg
        rcases hsg with ⟨rfl, rfl, rfl⟩ | ⟨rfl, rfl, rfl⟩ <;> rfl
      rw [hj, ceR_s]
      unfold rf_expr_J48
      have h1 := pOk_advC hX (pOk_advR hX h hit) hit
      refine rp_l (h.place hX n) (rp_ll ?_)
      rw [h.at, nI_1]
      obtain ⟨_, xr, rc2, xc, q1, q2, post⟩ := H X hX kR kC (i + 1) cr cc S C tb e E M ht _ _ (by omega) (by omega) h1 (by omega) (by omega) (by omega) (by omega)
      refine rp_l q1 ?_
      have ec : ce_C_compileRest_b n (ce_C_compileE n kC) uc (nI 0) = zgd (zpr (zR xc 2 1)) (zbd (ce_C_opOf n xc (nI s0)) fun r6 u7 => zbd (ce_P_emit n (zR xc 2 1) u7 r6 0 (nI (xpl X i))) fun r8 u9 => some ((), u9)) := by
        unfold ce_C_compileRest_b
        simp only [zlet]
        rw [if_pos (show nI 0 = 0 from rfl), h.pc, h.kd, hc]
        unfold ce_C_compileRest_J31
        rw [zbd_e (h.adv hX hit n), show ce_C_compileE n kC (advU uc (i + 1)) (nI 0 + 1) = ce_C_compileE n kC (advU uc (i + 1)) (nI 1) from rfl, zbd_e q2]
        rfl
      rcases post with ⟨i', cr', cc', S', C', M', ht', kd, k1, k2, ⟨d1, d2, d3, d4, d5⟩, k4', k5, -⟩ | ⟨w, w1, w2⟩
      · have hcr := k1.le
        have hi' := k1.i
        rw [ec, k1.zp hX, hX.zpr, zgd_t, zbd_e (c_opOf n (sg := s0) (c := c) hsg.op), zbd_e (c_emit n (xp X) k1.cc (by omega) (o := c) (w := xpl X i) g1 (by omega) 0)]
        refine rp_l (r_emit n k1.cr (by omega) (nI c) 0 0 (nI (xpl X i))) (rp_ll ?_)
        have em := pOk_emit hX k1 (o := c) (a := 0) (b := 0) (w := xpl X i) (c := c) (x := 0) (wc := xpl X i) (a' := 0) (x' := 0) (ht cr) E (fun s q => q) hP (by omega) g2 g3 (fun _ => rfl) (fun _ => rfl) (fun _ => rfl)
          (fun q => by
            unfold pSg at hsg
            rcases hsg with ⟨-, -, rfl⟩ | ⟨-, -, rfl⟩
            · exact insC_10.mpr ⟨rfl, rfl, by omega, by omega⟩
            · exact insC_11.mpr ⟨rfl, rfl, by omega, by omega⟩)
          (fun _ z _ => absurd z g4)
        refine rp_r rfl (rp_rt rfl (rp_end (Or.inl ⟨i', cr' + 1, cc' + 1, S', C', _, _, 0, pOk_kind hX em 0, by omega, ⟨by omega, by omega, by omega, by omega, by omega⟩, ?_, (if_pos rfl).trans a4, by simp [gI_sI]; rfl, rfl, by omega, fun q => absurd rfl q⟩)))
        have x1 : pEx cr S M ht M ht ur (zsI ur 0 10 (nI (i + 1))) uc (advU uc (i + 1)) := (pSm_tr (pSm_R 10 _) (pSm_adv _)).ex _ _ _ _
        exact pEx_tr a3 (pEx_tr (pEx_tr (pEx_tr x1 k4' (Nat.le_refl _) (by omega)) (pEx_em (S := S') hp) (by omega) (by omega)) ((pSm_R 25 _).ex (cr' + 1) S' _ _) (by omega) (by omega)) (by omega) (by omega)
      · obtain ⟨v1, m1, m2⟩ := r1_emit n w1 (by omega) (nI c) 0 0 (nI (xpl X i))
        obtain ⟨r8, v2, m3, m4⟩ := w1_emit n hX w2 (nI c) 0 (nI (xpl X i))
        rw [ec, bC_zp hX w2.1, hX.zpr, zgd_t, zbd_e (c_opOf n (sg := s0) (c := c) hsg.op), zbd_e m3]
        exact rp_l m1 (rp_ll (rp_r rfl (rp_rt rfl (rp_end (Or.inr ⟨w, bR1_set m2 0 (by unfold pwR; omega) (by omega), m4⟩)))))
    by_cases hk : xrk X i = 60
    · exact rp_lt ((hX.rk hi 60 (by decide)).mpr hk) (body 60 10 60 (by unfold pSg; omega) hk)
    · refine rp_lf (fun q => hk ((hX.rk hi 60 (by decide)).mp q)) (rp_l (h.now hX n) ?_)
      by_cases hk2 : xrk X i = 150
      · exact rp_lt ((hX.rk hi 150 (by decide)).mpr hk2) (body 150 11 260 (by unfold pSg; omega) hk2)
      · have hc : xck X i ≠ 60 := fun q => hk ((kRel_inj kr (show kRel 60 60 by unfold kRel isSg; omega)).mpr q)
        have hc2 : xck X i ≠ 260 := fun q => hk2 ((kRel_inj kr (show kRel 150 260 by unfold kRel isSg; omega)).mpr q)
        exact rp_lf (fun q => hk2 ((hX.rk hi 150 (by decide)).mp q)) (rp_r (binds_no n h.kd hlt.2 (by omega)) (rp_rt rfl (rp_end (Or.inl hL.po))))
  · refine rp_l (r1_isWrong n w1) (rp_lf (by decide) ?_)
    rw [show ce_C_compileE_L20 n (ce_C_compileE n (kC + 1)) (ce_C_compileRest n (kC + 1)) (ce_C_compilePost n (kC + 1)) n uc (nI 0) rc 0 = ce_C_compileE_L20 n (ce_C_compileE n (kC + 1)) (ce_C_compileRest n (kC + 1)) (ce_C_compilePost n (kC + 1)) (m + 1) uc (nI 0) rc 0 by rw [← hm], w1_L20 n m _ _ _ w2 _ _ _]
    exact rp_end (Or.inr ⟨w, bR1_K w1 (by omega), w2⟩)
