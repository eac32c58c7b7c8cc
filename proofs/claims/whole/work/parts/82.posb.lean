/-! PARSING, thirtieth part: POST, ONE, and E whole -/
theorem w1_L7 (n m : Nat) (f g : zMu → Option (Int32 × zMu)) {X : pCx} {u : zMu} {w : Nat} (h : bC1 X w u) (r x : Int32) : ce_C_compilePost_L7 n f g (m + 1) u r x = some (r, u) := by
  rw [ce_C_compilePost_L7, h.2.2.2.2.1]
  by_cases z : x < 1500
  · rw [if_pos z, if_neg (show ¬ (256 : Int32) = 46 by decide), if_neg (show ¬ (256 : Int32) = 91 by decide)]
  · rw [if_neg z]
theorem p_postL (n : Nat) (hn : 2000 ≤ n) {op bR bC K : Nat} (hop : op ≤ 8) (hbR : 5 ≤ bR) (hbC : 6 ≤ bC) (hK : 2260 ≤ K) (hK2 : K < 2480) (H : op < 8 → sSp n (op + 1) bR bC (6 * op + 9) K (rf_expr n) (fun k u => ce_C_compileE n k u (nI 0))) {X : pCx} (hX : xOk X) {i0 cr0 cc0 S0 C0 tb e : Nat} {E : Nat → Prop} {M0 ht0 : Nat → Nat} {h0 : Nat} {ur0 uc0 : zMu} (c1 : 2 * cc0 ≤ 3 * i0 + 2) (c2 : 2 * S0 ≤ i0) (c3 : 3 * C0 ≤ i0) (ch : 1 ≤ h0 ∧ h0 ≤ 6 * op + 6) {kR kC : Nat} (hkR : bR ≤ kR) (hkC : bC ≤ kC) (g : zMu → Option (Unit × zMu)) (gC : zMu → Option (Int32 × zMu)) :
    ∀ d i m m' j ur rc uc, xT X - i = d → d + 1 < m → d + 1 < m' → j < i → pLp X i0 op cr0 cc0 S0 C0 tb e E M0 ht0 h0 ur0 uc0 i ur rc uc →
      Rp (rf_post_L4 n (rf_expr n kR) g m ur) (ce_C_compilePost_L7 n (ce_C_compileItem n (kC + 1)) gC m' uc rc (nI j)) (fun _ vr rc vc => pPo X i0 op cr0 cc0 S0 C0 tb e E M0 ht0 h0 ur0 uc0 vr rc vc ∨ pWx X (K + 1) vr vc) := by
  intro d
  induction d using Nat.strongRecOn with
  | ind d ih =>
    intro i m m' j ur rc uc hd hm hm' hj hL
    obtain ⟨m, rfl⟩ : ∃ y, m = y + 2 := ⟨m - 2, by omega⟩
    obtain ⟨m', rfl⟩ : ∃ y, m' = y + 2 := ⟨m' - 2, by omega⟩
    obtain ⟨cr, cc, S, C, M, ht, kd, h, a1, a2, a3, a4, a5⟩ := id hL
    have hT := hX.T
    have hi := h.i
    obtain ⟨f1, f2, f3, f4, f5⟩ := id a2
    have k46 : kRel 46 46 := by unfold kRel isSg; omega
    have k91 : kRel 91 91 := by unfold kRel isSg; omega
    rw [rf_post_L4, ce_C_compilePost_L7]
    refine rp_l (h.nw n) (rp_lt rfl (rp_l (h.now hX n) (rp_rt (show nI j < 1500 from nI_lt (b := 1500) (by omega) (by decide)) ?_)))
    have fin : ∀ w vr vc (r x : Int32), bR1 X w (K + 1) vr → bC1 X w vc → Rp (rf_post_L4 n (rf_expr n kR) g (m + 1) vr) (ce_C_compilePost_L7 n (ce_C_compileItem n (kC + 1)) gC (m' + 1) vc r x) (fun _ vr rc vc => pPo X i0 op cr0 cc0 S0 C0 tb e E M0 ht0 h0 ur0 uc0 vr rc vc ∨ pWx X (K + 1) vr vc) := fun w vr vc r x w1 w2 => rp_eq (r1_postL n m _ _ w1) (w1_L7 n m' _ _ w2 _ _) (Or.inr ⟨w, w1, w2⟩)
    by_cases hk : xrk X i = 46
    · refine rp_lt ((hX.rk hi 46 (by decide)).mpr hk) ?_
      rw [if_pos (show zI uc 7 6 = 46 from by rw [h.kd]; exact (hX.ck hi k46).mpr hk)]
      unfold ce_C_compilePost_J38
      rw [if_pos (show zI uc 7 6 = 46 from by rw [h.kd]; exact (hX.ck hi k46).mpr hk)]
      refine p_member n hX h (by omega) (by omega) (by omega) (by omega) hk (K := K + 1) (by omega) _ _ (fun vr vc q1 q2 q3 q4 q5 q9 => ?_) (fun vr vc hw => ?_)
      · refine rp_rl ?_
        rw [nI_1]
        have hi2 := q1.i
        refine ih (xT X - (i + 2)) (by omega) (i + 2) (m + 1) (m' + 1) (j + 1) vr 2 vc rfl (by omega) (by omega) (by omega) ⟨cr + 1, cc + 1, S + 1, C, _, _, 2, q1, by omega, ⟨by omega, by omega, by omega, by omega, by omega⟩, pEx_tr a3 q2 (by omega) (by omega), (if_pos rfl).trans a4, q3, rfl, by omega, fun _ => ⟨cr, rfl, ?_, ?_, fun q => by omega, fun _ => ⟨q4, S, by omega, q5, q9⟩, fun q => by omega⟩⟩
        · show (if cr = cr + 1 then cc + 1 else M cr) + 1 = cc + 1
          rw [if_neg (by omega), h.2.2.2.2.2.2.2.1.2.2.2.1]
        · show (if cr = cr + 1 then ht cr else ht cr) + 2 = (if cr + 1 = cr + 1 then ht cr else ht (cr + 1)) + 2
          rw [if_neg (by omega), if_pos rfl]
      · obtain ⟨w, w1, w2⟩ := hw
        exact rp_rl (rp_eq rfl (w1_L7 n m' _ _ w2 _ _) (Or.inr ⟨w, w1, w2⟩))
    · refine rp_lf (fun q => hk ((hX.rk hi 46 (by decide)).mp q)) (rp_l (h.now hX n) ?_)
      rw [if_neg (show ¬ zI uc 7 6 = 46 from c_ne hX h k46 hk)]
      by_cases hk2 : xrk X i = 91
      · refine rp_lt ((hX.rk hi 91 (by decide)).mpr hk2) ?_
        rw [if_pos (show zI uc 7 6 = 91 from by rw [h.kd]; exact (hX.ck hi k91).mpr hk2)]
        unfold ce_C_compilePost_J38
        rw [if_neg (show ¬ zI uc 7 6 = 46 from c_ne hX h k46 hk)]
        refine p_item n hn hop hbR hbC hK hK2 H hX h (by omega) (by omega) (by omega) (by omega) (by omega) hk2 hkR hkC _ (fun vr vc i' cr' cc' S' C' M' ht' q1 q2 q3 q4 q5 q6 q10 q7 q8 => ?_) (fun vr vc hw => ?_)
        · refine rp_rl ?_
          rw [nI_1]
          have hi2 := q1.i
          obtain ⟨d1, d2, d3, d4, d5⟩ := q3
          exact ih (xT X - i') (by omega) i' (m + 1) (m' + 1) (j + 1) vr 3 vc rfl (by omega) (by omega) (by omega) ⟨cr' + 1, cc' + 1, S', C', M', ht', 3, q1, by omega, ⟨by omega, by omega, by omega, by omega, by omega⟩, pEx_tr a3 q4 (by omega) f2, q5.trans a4, q7, rfl, by omega, fun _ => ⟨cr', rfl, by rw [q6], by omega, fun q => by omega, fun q => by omega, fun _ => q8⟩⟩
        · obtain ⟨w, w1, w2⟩ := hw
          exact rp_rl (fin w vr vc _ _ w1 w2)
      · rw [if_neg (show ¬ zI uc 7 6 = 91 from c_ne hX h k91 hk2)]
        exact rp_lf (fun q => hk2 ((hX.rk hi 91 (by decide)).mp q)) (rp_end (Or.inl hL.po))
theorem p_post (n : Nat) (hn : 2000 ≤ n) {op bR bC K dR dC : Nat} (hop : op ≤ 8) (hbR : 5 ≤ bR) (hbC : 6 ≤ bC) (hK : 2260 ≤ K) (hK2 : K < 2480) (hdR : bR ≤ dR) (hdC : bC + 1 ≤ dC) (H : op < 8 → sSp n (op + 1) bR bC (6 * op + 9) K (rf_expr n) (fun k u => ce_C_compileE n k u (nI 0))) (H1 : sSp n op dR dC (6 * op + 6) (K + 1) (rf_one n) (ce_C_compileOne n)) : sSp n op (dR + 1) (dC + 1) (6 * op + 6) (K + 1) (rf_post n) (ce_C_compilePost n) := by
  intro X hX kR kC i cr cc S C tb e E M ht ur uc hR hC h hh b1 b2 b3
  obtain ⟨kR, rfl⟩ : ∃ y, kR = y + 1 := ⟨kR - 1, by omega⟩
  obtain ⟨kC, rfl⟩ : ∃ y, kC = y + 2 := ⟨kC - 2, by omega⟩
  have hT := hX.T
  rw [rfP_s, ceP_s n (kC + 1)]
  unfold rf_post_b ce_C_compilePost_b
  refine rp_bd (rp_mono (H1 X hX kR (kC + 1) i cr cc S C tb e E M ht ur uc (by omega) (by omega) h hh b1 b2 b3) (fun _ vr rc vc g => ?_))
  rcases g with g | ⟨w, w1, w2⟩
  · obtain ⟨i', hi', hL⟩ := g.lp
    exact p_postL n hn hop hbR hbC hK hK2 H hX b1 b2 b3 hh (by omega) (by omega) _ _ (xT X - i') i' n n 0 vr rc vc rfl (by omega) (by omega) (by omega) hL
  · obtain ⟨m, rfl⟩ : ∃ y, n = y + 1 := ⟨n - 1, by omega⟩
    exact rp_eq (r1_postL _ m _ _ w1) (w1_L7 _ m _ _ w2 _ _) (Or.inr ⟨w, w1, w2⟩)
theorem p_one (n : Nat) (hn : 2000 ≤ n) {op bR bC K : Nat} (hop : op ≤ 8) (hbR : 5 ≤ bR) (hbC : 6 ≤ bC) (hK : 2260 ≤ K) (hK2 : K < 2480) (H : op < 8 → sSp n (op + 1) bR bC (6 * op + 9) K (rf_expr n) (fun k u => ce_C_compileE n k u (nI 0))) (HO : op < 8 → sSp n (op + 1) bR bC (6 * op + 12) K (rf_one n) (ce_C_compileOne n)) : sSp n op (bR + 2) (bC + 3) (6 * op + 6) (K + 1) (rf_one n) (ce_C_compileOne n) := by
  intro X hX kR kC i cr cc S C tb e E M ht ur uc hR hC h hh b1 b2 b3
  obtain ⟨kR, rfl⟩ : ∃ y, kR = y + 2 := ⟨kR - 2, by omega⟩
  obtain ⟨kC, rfl⟩ : ∃ y, kC = y + 3 := ⟨kC - 3, by omega⟩
  have hT := hX.T
  have hp := hX.p12
  have hi := h.i
  have kr := hX.kr hi
  have hle := h.le
  have hP := hX.pl hi
  have z6 : zx (nI i) = i := zx_nI (by omega)
  rw [rfO_s n (kR + 1), ceO_s n (kC + 2)]
  unfold rf_one_b ce_C_compileOne_b
  refine rp_l (h.nw n) (rp_lt rfl (rp_l (h.place hX n) (rp_l (h.now hX n) (rp_lg (by rw [h.at]; exact zin_nI (by omega) (by decide)) (rp_ll (rp_rl ?_))))))
  rw [h.at, z6, h.kd, h.zp hX, h.pc]
  have ck : ∀ k c, kRel k c → xrk X i = k → xck X i = c := fun k c a b => (kRel_inj kr a).mp b
  have nk : ∀ k, k < 300 → ¬ xrk X i = k → ¬ nI (xrk X i) = nI k := fun k a b q => b ((hX.rk hi k (by omega)).mp q)
  have nc : ∀ k c, kRel k c → ¬ xrk X i = k → ¬ nI (xck X i) = nI c := fun k c a b q => b ((hX.ck hi a).mp q)
  by_cases t2 : xrk X i = 2
  · rw [t2, ck 2 258 (by unfold kRel; omega) t2]
    have hit := hX.nx hi (by omega)
    obtain ⟨v, v1, v2, v3⟩ := h.nb hX t2
    obtain ⟨vr, vc, r, p1, p2, p3, p4⟩ := p_push n hX h hit (by omega) b1 (o := 1) (a := v) (Or.inl ⟨rfl, v1⟩)
    refine rp_lt rfl (rp_ll ?_)
    rw [h.va, v3, lN_i, v2, nI_1]
    refine rp_rf (by decide) (rp_rf (by decide) (rp_rt rfl (rp_rg hX.zpr (rp_rl (rp_r p2 (rp_r p3 (rp_eq p1 rfl (Or.inl p4))))))))
  by_cases t211 : xrk X i = 211
  · rw [t211, ck 211 311 (by unfold kRel; omega) t211]
    have hit := hX.nx hi (by omega)
    obtain ⟨vr, vc, r, p1, p2, p3, p4⟩ := p_push n hX h hit (by omega) b1 (o := 2) (a := 0) (Or.inr ⟨rfl, rfl⟩)
    refine rp_lf (by decide) (rp_lt rfl (rp_ll ?_))
    rw [nI_1]
    refine rp_rf (by decide) (rp_rf (by decide) (rp_rf (by decide) (rp_rf (by decide) (rp_rf (by decide) (rp_rf (by decide) (rp_rf (by decide) (rp_rt rfl (rp_rg hX.zpr (rp_rl (rp_r p2 (rp_r p3 (rp_eq p1 rfl (Or.inl p4)))))))))))))
  by_cases t45 : xrk X i = 45
  · rw [t45, ck 45 45 (by unfold kRel isSg; omega) t45]
    refine rp_lf (by decide) (rp_lf (by decide) (rp_lt rfl (rp_rf (by decide) (rp_rt rfl ?_))))
    exact p_neg n (by omega) (by omega) hK hK2 HO hX b1 b2 b3 hh hP (by omega) (by omega) h h.pc
  by_cases t40 : xrk X i = 40
  · rw [t40, ck 40 40 (by unfold kRel isSg; omega) t40]
    refine rp_lf (by decide) (rp_lf (by decide) (rp_lf (by decide) (rp_lt rfl (rp_rt rfl ?_))))
    exact p_paren n hn hbR hbC hK hK2 H hX b1 b2 b3 hh (by omega) (by omega) h
  by_cases t1 : xrk X i = 1
  · have hit := hX.nx hi (by omega)
    obtain ⟨w, w1, w2, w3⟩ := h.nm hX t1
    have h1 := pOk_advC hX (pOk_advR hX h hit) hit
    have hsm : pSm ur (zsI ur 0 10 (nI (i + 1))) uc (advU uc (i + 1)) := pSm_tr (pSm_R 10 _) (pSm_adv _)
    rw [t1, ck 1 259 (by unfold kRel; omega) t1, w2]
    refine rp_lf (by decide) (rp_lf (by decide) (rp_lf (by decide) (rp_lf (by decide) (rp_lt rfl (rp_ll ?_)))))
    rw [nI_1]
    refine rp_rf (by decide) (rp_rf (by decide) (rp_rf (by decide) (rp_rt rfl ?_)))
    rw [ceD_s n (kC + 1)]
    unfold ce_C_compileNamed_b
    show Rp _ (zbd (zbd (ce_X_advance n uc) fun _ u4 => if zI u4 7 6 = 40 then (zbd (ce_C_compileArguments n (kC + 1) u4) fun r6 u7 => cG n (zL uc 7 8) (zI uc 7 7) r6 u7) else (zbd (ce_C_variableNamed n u4 (zL uc 7 8)) fun r13 u14 => if r13 = (-1) then (zbd (ce_C_note n u14 2 (zI uc 7 7)) fun _ u17 => ce_C_compileNamed_J80 n (ce_C_compileArguments n (kC + 1)) u17 (zI uc 7 7) r13) else ce_C_compileNamed_J80 n (ce_C_compileArguments n (kC + 1)) u14 (zI uc 7 7) r13)) fun r18 u19 => some (r18, u19)) _
    rw [zbd_id, h.va, w3, h.pc]
    refine rp_r (h.adv hX hit n) (rp_l (h1.now hX n) ?_)
    have k40 : kRel 40 40 := by unfold kRel isSg; omega
    have hi1 := h1.i
    by_cases hp40 : xrk X (i + 1) = 40
    · refine rp_lt ((hX.rk hi1 40 (by decide)).mpr hp40) ?_
      rw [if_pos (show zI (advU uc (i + 1)) 7 6 = 40 from by rw [h1.kd]; exact (hX.ck hi1 k40).mpr hp40)]
      have hc := p_call n hn hop hbR hbC hK hK2 H hX b1 b2 b3 hh w1 hP (kR := kR) (kC := kC) (by omega) (by omega) h1 hsm rfl
      obtain ⟨a, u, b, v, x1, x2, x3⟩ := hc
      exact rp_l x1 (rp_eq rfl x2 x3)
    · refine rp_lf (fun q => hp40 ((hX.rk hi1 40 (by decide)).mp q)) ?_
      rw [if_neg (show ¬ zI (advU uc (i + 1)) 7 6 = 40 from c_ne hX h1 k40 hp40)]
      obtain ⟨a, u, b, v, x1, x2, x3⟩ := p_variable n hn hX h1 hsm rfl (by omega) b1 w1 hP (ce_C_compileArguments n (kC + 1))
      exact rp_l x1 (rp_eq rfl x2 (Or.inl x3))
  by_cases t208 : xrk X i = 208
  · have := p_made n hn (kx := 208) (o := 12) (c := 12) (by unfold mK; omega) hbR hbC hK hK2 H (rf_one n (kR + 1)) (rf_callOf n (kR + 1)) hX b1 b2 b3 hh (kR := kR + 1) (kC := kC + 1) (by omega) (by omega) h t208
    rw [t208, ck 208 308 (by unfold kRel; omega) t208]
    refine rp_lf (by decide) (rp_lf (by decide) (rp_lf (by decide) (rp_lf (by decide) (rp_lf (by decide) (rp_lt rfl (rp_rf (by decide) (rp_rf (by decide) (rp_rf (by decide) (rp_rf (by decide) (rp_rt rfl this))))))))))
  by_cases t209 : xrk X i = 209
  · have := p_made n hn (kx := 209) (o := 13) (c := 16) (by unfold mK; omega) hbR hbC hK hK2 H (rf_one n (kR + 1)) (rf_callOf n (kR + 1)) hX b1 b2 b3 hh (kR := kR + 1) (kC := kC + 1) (by omega) (by omega) h t209
    rw [t209, ck 209 309 (by unfold kRel; omega) t209]
    refine rp_lf (by decide) (rp_lf (by decide) (rp_lf (by decide) (rp_lf (by decide) (rp_lf (by decide) (rp_lf (by decide) (rp_lt rfl (rp_rf (by decide) (rp_rf (by decide) (rp_rf (by decide) (rp_rf (by decide) (rp_rf (by decide) (rp_rt rfl this))))))))))))
  by_cases t210 : xrk X i = 210
  · have := p_made n hn (kx := 210) (o := 14) (c := 19) (by unfold mK; omega) hbR hbC hK hK2 H (rf_one n (kR + 1)) (rf_callOf n (kR + 1)) hX b1 b2 b3 hh (kR := kR + 1) (kC := kC + 1) (by omega) (by omega) h t210
    rw [t210, ck 210 310 (by unfold kRel; omega) t210]
    refine rp_lf (by decide) (rp_lf (by decide) (rp_lf (by decide) (rp_lf (by decide) (rp_lf (by decide) (rp_lf (by decide) (rp_lf (by decide) (rp_lt rfl (rp_rf (by decide) (rp_rf (by decide) (rp_rf (by decide) (rp_rf (by decide) (rp_rf (by decide) (rp_rf (by decide) (rp_rt rfl this))))))))))))))
  obtain ⟨v, e1, hv⟩ := h.faulty n hX (K := K + 1) (by omega) (by omega)
  obtain ⟨v2, e2, hv2⟩ := h.refuse n hX (by omega)
  refine rp_lf (nk 2 (by omega) t2) (rp_lf (nk 211 (by omega) t211) (rp_lf (nk 45 (by omega) t45) (rp_lf (nk 40 (by omega) t40) (rp_lf (nk 1 (by omega) t1) (rp_lf (nk 208 (by omega) t208) (rp_lf (nk 209 (by omega) t209) (rp_lf (nk 210 (by omega) t210) ?_)))))))
  refine rp_rf (nc 40 40 (by unfold kRel isSg; omega) t40) (rp_rf (nc 45 45 (by unfold kRel isSg; omega) t45) (rp_rf (nc 2 258 (by unfold kRel; omega) t2) (rp_rf (nc 1 259 (by unfold kRel; omega) t1) (rp_rf (nc 208 308 (by unfold kRel; omega) t208) (rp_rf (nc 209 309 (by unfold kRel; omega) t209) (rp_rf (nc 210 310 (by unfold kRel; omega) t210) (rp_rf (nc 211 311 (by unfold kRel; omega) t211) ?_)))))))
  exact rp_l e1 (rp_r e2 (rp_end (Or.inr ⟨_, hv, hv2⟩)))
