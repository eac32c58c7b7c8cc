/-! PARSING, fns, fourth part: the names' loop -/
theorem p_namesL (n k : Nat) (hn : 2000 ≤ n) {X : pCx} (hX : xOk X) {cr cc S C tb F K : Nat} {M ht : Nat → Nat} (hK : cr ≤ K) (hK2 : 2200 ≤ K) (hcc : cc ≤ 2400) {G : Unit → zMu → Option (Unit × zMu)} {Q : Unit → zMu → Unit → zMu → Prop} {i0 : Nat}
    (Hend : ∀ i c vr vc, i0 ≤ i → c ≤ 4 → pGn X i i 1 cr cc S C tb pE0 M ht (pVn X tb S cc F c M ht) vr vc → Rp (rf_function_J268 n k vr (nI F) (nI c)) (zbd (ce_C_closes n vc 41) fun _ u => G () u) Q)
    (Hw : ∀ vr vc, pWx X K vr vc → Rp (some ((), vr)) (G () vc) Q) :
    ∀ d i m m' c ur uc, 4 - c = d → d + 1 < m → d + 1 < m' → c ≤ 4 → i0 ≤ i → pGn X i i 1 cr cc S C tb pE0 M ht (pVn X tb S cc F c M ht) ur uc →
      Rp (rf_function_L145 n k m ur (nI F) (nI c) 1) (zbd (ce_C_compileNames_L26 n m' uc 1 (nI c)) G) Q := by
  have hp := hX.p12
  have hT := hX.T
  intro d
  induction d with
  | zero =>
    intro i m m' c ur uc hd hm hm' hc hi0 h
    obtain ⟨m, rfl⟩ : ∃ y, m = y + 2 := ⟨m - 2, by omega⟩
    obtain ⟨m', rfl⟩ : ∃ y, m' = y + 2 := ⟨m' - 2, by omega⟩
    have e4 : c = 4 := by omega
    subst e4
    obtain ⟨v, v2, e1, e2, q1, q2⟩ := h.refuse n hX vRf_n hK hK2 hcc
    rw [rf_function_L145, ce_C_compileNames_L26, if_neg (show ¬ 4 < nI 4 by decide), if_neg (show ¬ (1 : Int32) = 0 by decide), if_pos (show nI 4 = 4 from rfl), if_neg (show ¬ (1 : Int32) = 0 by decide), zbd_e e2]
    refine rp_l (h.now hX n) ?_
    by_cases hN : xrk X i = 1
    · exact rp_lt ((hX.rk h.i 1 (by decide)).mpr hN) (rp_lt rfl (rp_l e1 (Hw _ _ ⟨_, q1, q2⟩)))
    · exact rp_lf (fun q => hN ((hX.rk h.i 1 (by decide)).mp q)) (rp_l e1 (Hw _ _ ⟨_, q1, q2⟩))
  | succ d ih =>
    intro i m m' c ur uc hd hm hm' hc hi0 h
    obtain ⟨m, rfl⟩ : ∃ y, m = y + 2 := ⟨m - 2, by omega⟩
    obtain ⟨m', rfl⟩ : ∃ y, m' = y + 2 := ⟨m' - 2, by omega⟩
    have n4 : ¬ nI c = 4 := fun q => by have := (nI_eq (a := c) (b := 4) (by omega) (by decide)).mp q; omega
    have k259 : kRel 1 259 := by unfold kRel; omega
    have k44 : kRel 44 44 := by unfold kRel isSg; omega
    have n4c : ¬ 4 < nI c := nI_nlt (b := c) (a := 4) (by omega) (by decide)
    rw [rf_function_L145, ce_C_compileNames_L26, if_neg n4c, if_neg (show ¬ (1 : Int32) = 0 by decide), if_neg n4, if_neg (show ¬ (1 : Int32) = 0 by decide)]
    refine rp_l (h.now hX n) ?_
    by_cases hN : xrk X i = 1
    · refine rp_lt ((hX.rk h.i 1 (by decide)).mpr hN) (rp_lf n4 ?_)
      rw [if_pos (show zI uc 7 6 = 259 from by rw [h.kd]; exact (hX.ck h.i k259).mpr hN), zbd_as]
      obtain ⟨w, w2, w8, vr, vc, alt, s1, s2, s3, s4, s5, s6, s7, s8, s9, s10, s11, g⟩ := p_name n hn hX h (by omega) hN
      refine rp_lg (by rw [h.at]; exact zin_nI (by have := h.i; omega) (by decide)) ?_
      rw [h.at, zx_nI (show i < 2 ^ 31 by have := h.i; omega), w2, w8]
      have hi1 := g.i
      have hF8 := h.2.2.2.2.2.1.1
      have body : Rp (rf_function_J193 n k (rf_function_L145 n k (m + 1)) vr (nI F) (nI c)) (zbd (ce_C_compileNames_J85 n (ce_C_compileNames_L26 n (m' + 1)) vc (nI c)) G) Q := by
        unfold rf_function_J193 ce_C_compileNames_J85
        have hidx : (13 : Int32) * nI F + nI c = nI (13 * F + c) := by
          rw [show (13 : Int32) * nI F = nI (13 * F) from pk_mul 13 F, nI_add]
        rw [zin_nI (show F < 10 by omega) (by decide), zgd_t, zx_nI (show F < 2 ^ 31 by omega), s3]
        refine rp_ll ?_
        rw [zgd_t]
        refine rp_ll ?_
        rw [nI_1, show zI (zsI vr 17 F (nI (c + 1))) 0 10 = nI i by rw [gI_sI, if_neg (by omega)]; exact s1, zin_nI (show i < 1502 by have := h.i; omega) (by decide), zgd_t, hidx, zin_nI (show 13 * F + c < 130 by omega) (by decide), zgd_t, zx_nI (show 13 * F + c < 2 ^ 31 by omega), zx_nI (show i < 2 ^ 31 by have := h.i; omega), show zI (zsI vr 17 F (nI (c + 1))) 6 i = nI w by rw [gI_sI, if_neg (by omega)]; exact s2]
        refine rp_ll (rp_ll (rp_ll ?_))
        rw [show zI (zsI (zsI vr 17 F (nI (c + 1))) 18 (13 * F + c) (nI w)) 0 10 = nI i by rw [gI_sI, if_neg (by omega), gI_sI, if_neg (by omega)]; exact s1, nI_1, s4, s5]
        refine rp_l (g.now hX n) ?_
        rw [zbd_as]
        refine rp_r (c_addVariable n s6 (by omega) (xPK X w) (nI (xpl X i))) ?_
        have z1 : zR (vaC vc c (xPK X w)) 2 1 = xp X := s10
        have z2 : zI (vaC vc c (xPK X w)) 2 6 = nI F := by rw [vaC_W _ _ (by omega)]; exact s7
        have z3 : zI (vaC vc c (xPK X w)) (xp X) 12 = nI (F + 1) := by rw [vaC_W _ _ (by omega)]; exact s8
        have z4 : zI (vaC vc c (xPK X w)) (xp X + 10) F = nI c := by rw [vaC_W _ _ (by omega)]; exact s9
        rw [z1, hX.zpr, zgd_t]
        have an : ce_P_addName n (xp X) (vaC vc c (xPK X w)) (nI F) = some ((), zsI (vaC vc c (xPK X w)) (xp X + 10) F (nI (c + 1))) := by
          unfold ce_P_addName ce_P_isFn
          rw [if_neg (nI_pos (by omega)), z3, if_pos (nI_lt (by omega) (by omega)), zbd_e rfl, if_neg (show ¬ (1 : Int32) = 0 by decide), zin_nI (show F < 8 by omega) (by decide), zgd_t, zgd_t, zx_nI (show F < 2 ^ 31 by omega), z4, nI_1]
          rfl
        rw [show (zlet (xp X) fun p3 => zbd (ce_P_addName n p3 (vaC vc c (xPK X w)) (zI (vaC vc c (xPK X w)) 2 6)) fun _ u5 => zbd (ce_X_advance n u5) fun _ u7 => zbd (ce_C_takes n u7 44) fun r8 u9 => zlet (nI (c + 1)) fun v10 => ce_C_compileNames_L26 n (m' + 1) u9 r8 v10) = zbd (ce_P_addName n (xp X) (vaC vc c (xPK X w)) (zI (vaC vc c (xPK X w)) 2 6)) fun _ u5 => zbd (ce_X_advance n u5) fun _ u7 => zbd (ce_C_takes n u7 44) fun r8 u9 => ce_C_compileNames_L26 n (m' + 1) u9 r8 (nI (c + 1)) from rfl, z2, zbd_as]
        refine rp_r an ?_
        rw [zbd_as]
        refine rp_r s11 ?_
        rw [zbd_as]
        by_cases hk : xrk X (i + 1) = 44
        · have hit1 := hX.nx hi1 (by omega)
          have g2 := pGn_advC hX (vKeep_n hX) (pGn_advR hX (vKeep_n hX) g hit1) hit1
          have et : ce_C_takes n (advU (zsI (vaC vc c (xPK X w)) (xp X + 10) F (nI (c + 1))) (i + 1)) 44 = some (1, advU (advU (zsI (vaC vc c (xPK X w)) (xp X + 10) F (nI (c + 1))) (i + 1)) (i + 1 + 1)) := by
            unfold ce_C_takes
            rw [g.kd, if_pos (show nI (xck X (i + 1)) = 44 from (hX.ck hi1 k44).mpr hk), zbd_e (g.adv hX hit1 n)]
          unfold rf_function_J250
          refine rp_lt ((hX.rk hi1 44 (by decide)).mpr hk) (rp_lf (by decide) (rp_ll (rp_r et ?_)))
          rw [g.at, nI_1]
          exact ih (i + 1 + 1) (m + 1) (m' + 1) (c + 1) _ _ (by omega) (by omega) (by omega) (by omega) (by omega) g2
        · have et : ce_C_takes n (advU (zsI (vaC vc c (xPK X w)) (xp X + 10) F (nI (c + 1))) (i + 1)) 44 = some (0, advU (zsI (vaC vc c (xPK X w)) (xp X + 10) F (nI (c + 1))) (i + 1)) := by
            unfold ce_C_takes
            rw [if_neg (show ¬ zI (advU (zsI (vaC vc c (xPK X w)) (xp X + 10) F (nI (c + 1))) (i + 1)) 7 6 = 44 from g.ne hX k44 hk)]
          unfold rf_function_J250
          refine rp_lf (fun q => hk ((hX.rk hi1 44 (by decide)).mp q)) (rp_lt rfl (rp_r et ?_))
          rw [rf_function_L145, ce_C_compileNames_L26]
          refine rp_lt rfl ?_
          have hE := Hend (i + 1) (c + 1) _ _ (by omega) (by omega) g
          by_cases z : 4 < nI (c + 1)
          · rw [if_pos z, zbd_as]; exact hE
          · rw [if_neg z, if_pos rfl, zbd_as]; exact hE
      rcases alt with ⟨a1, a2, rfl, rfl⟩ | ⟨j, j1, a1, a2, a3, a4⟩
      · refine rp_l a1 (rp_lt rfl (rp_r a2 ?_))
        rw [if_pos (show (-1 : Int32) = -1 from rfl)]
        exact body
      · refine rp_l a1 (rp_lf (nI_m1 (by omega)) (rp_l (h.place hX n) (rp_l a3 (rp_r a2 ?_))))
        rw [if_neg (nI_m1 (by omega)), h.pc, zbd_as]
        exact rp_r a4 body
    · obtain ⟨v, v2, e1, e2, q1, q2⟩ := h.refuse n hX vRf_n hK hK2 hcc
      refine rp_lf (fun q => hN ((hX.rk h.i 1 (by decide)).mp q)) (rp_l e1 ?_)
      rw [if_neg (show ¬ zI uc 7 6 = 259 from h.ne hX k259 hN), zbd_e e2]
      exact Hw _ _ ⟨_, q1, q2⟩
