/-! PARSING, fns, sixth part: a fn whole -/
theorem p_fnNamed (n : Nat) (hn : 2000 ≤ n) {X : pCx} (hX : xOk X) {tb F : Nat} {M ht : Nat → Nat} {ur uc : zMu} (hF : F ≤ 8) (h12 : zI uc (xp X) 12 = nI F) (h : pFo X tb M ht ur uc F) {w : Nat} (hw : w < xN X) :
    (∃ f, f < F ∧ zI ur 14 f = nI w ∧ (∀ g, g < f → ¬ zI ur 14 g = nI w) ∧ ce_P_fnNamed n (xp X) uc (xPK X w) = some (nI f, uc)) ∨ ((∀ f, f < F → ¬ zI ur 14 f = nI w) ∧ ce_P_fnNamed n (xp X) uc (xPK X w) = some (-1, uc)) := by
  have hN := hX.2.2.1
  have main : ∀ d j m, F - j = d → j ≤ F → d < m → (∀ g, g < j → ¬ zI ur 14 g = nI w) → ((∃ f, f < F ∧ zI ur 14 f = nI w ∧ (∀ g, g < f → ¬ zI ur 14 g = nI w) ∧ ce_P_fnNamed_L2 n (xp X) m uc (xPK X w) (nI j) = some (nI f, uc)) ∨ ((∀ f, f < F → ¬ zI ur 14 f = nI w) ∧ ce_P_fnNamed_L2 n (xp X) m uc (xPK X w) (nI j) = some (-1, uc))) := by
    intro d
    induction d with
    | zero =>
      intro j m hd hj hm hno
      obtain ⟨m, rfl⟩ : ∃ y, m = y + 1 := ⟨m - 1, by omega⟩
      refine Or.inr ⟨fun f hf => hno f (by omega), ?_⟩
      unfold ce_P_fnNamed_L2
      rw [h12, if_neg (nI_nlt (by omega) (by omega))]
    | succ d ih =>
      intro j m hd hj hm hno
      obtain ⟨m, rfl⟩ : ∃ y, m = y + 1 := ⟨m - 1, by omega⟩
      obtain ⟨w', q, nn, g1, g2, g3, -⟩ := h j (by omega)
      rw [ce_P_fnNamed_L2, h12, if_pos (nI_lt (by omega) (by omega)), zin_nI (show j < 8 by omega) (by decide), zgd_t, zx_nI (show j < 2 ^ 31 by omega), g3]
      by_cases e : w' = w
      · subst e
        exact Or.inl ⟨j, by omega, g2, hno, by rw [if_pos ((lgc_eq _ _).mpr rfl)]⟩
      · have ne : ¬ zI ur 14 j = nI w := by rw [g2]; exact fun z => e ((nI_eq (by omega) (by omega)).mp z)
        rw [if_neg (fun z => e (hX.2.2.2.1 _ _ g1 hw ((lgc_eq _ _).mp z)))]
        show _ ∨ (_ ∧ ce_P_fnNamed_L2 n (xp X) m uc (xPK X w) (nI j + 1) = _)
        rw [show (zlet (nI j + 1) fun v3 => ce_P_fnNamed_L2 n (xp X) m uc (xPK X w) v3) = ce_P_fnNamed_L2 n (xp X) m uc (xPK X w) (nI (j + 1)) from by rw [← nI_1]; rfl, nI_1]
        exact ih (j + 1) m (by omega) (by omega) (by omega) (fun g hg => by
          by_cases z : g = j
          · rw [z]; exact ne
          · exact hno g (by omega))
  exact main F 0 n (by omega) (by omega) (by omega) (fun g hg => by omega)
theorem l44_skip (n k : Nat) {u : zMu} {F i w P : Nat} (hF : F ≤ 8) (hi : i ≤ 1500) (hat : zI u 0 10 = nI i) (h6 : zI u 6 i = nI w) (hpl : rf_place n u = some (nI P, u)) : ∀ d j m, F - j = d → j ≤ F → d < m → (∀ f, j ≤ f → f < F → ¬ zI u 14 f = nI w ∨ rf_notes n u (nI P) 2 = some ((), u)) → rf_function_L44 n k m u (nI F) (nI j) = rf_function_L44 n k 1 u (nI F) (nI F) := by
  intro d
  induction d with
  | zero =>
    intro j m hd hj hm hno
    obtain ⟨m, rfl⟩ : ∃ y, m = y + 1 := ⟨m - 1, by omega⟩
    have e : j = F := by omega
    subst e
    rw [rf_function_L44, rf_function_L44, if_neg (nI_nlt (Nat.le_refl _) (by omega)), if_neg (nI_nlt (Nat.le_refl _) (by omega))]
  | succ d ih =>
    intro j m hd hj hm hno
    obtain ⟨m, rfl⟩ : ∃ y, m = y + 1 := ⟨m - 1, by omega⟩
    have e1 : rf_function_L44 n k (m + 1) u (nI F) (nI j) = if zI u 14 j = nI w then (zbd (rf_place n u) fun r3 u4 => zbd (rf_notes n u4 r3 2) fun _ u6 => rf_function_L44 n k m u6 (nI F) (nI (j + 1))) else rf_function_L44 n k m u (nI F) (nI (j + 1)) := by
      rw [rf_function_L44, if_pos (nI_lt (by omega) (by omega)), zin_nI (show j < 9 by omega) (by decide), zgd_t, hat, zin_nI (show i < 1502 by omega) (by decide), zgd_t, zx_nI (show j < 2 ^ 31 by omega), zx_nI (show i < 2 ^ 31 by omega), h6, nI_1]
      rfl
    rw [e1]
    have hr := ih (j + 1) m (by omega) (by omega) (by omega) (fun f h1 h2 => hno f (by omega) h2)
    by_cases g : zI u 14 j = nI w
    · rw [if_pos g, zbd_e hpl]
      rcases hno j (Nat.le_refl _) (by omega) with z | z
      · exact absurd g z
      · rw [zbd_e z]; exact hr
    · rw [if_neg g]; exact hr
theorem l44_to (n k : Nat) {u u' : zMu} {F i w P : Nat} (hF : F ≤ 8) (hi : i ≤ 1500) (hat : zI u 0 10 = nI i) (h6 : zI u 6 i = nI w) (hpl : rf_place n u = some (nI P, u)) (hnt : rf_notes n u (nI P) 2 = some ((), u')) : ∀ d j m, F - j = d → j ≤ F → d < m → (∃ f, j ≤ f ∧ f < F ∧ zI u 14 f = nI w) → ∃ j' m', j' ≤ F ∧ F - j' < m' ∧ rf_function_L44 n k m u (nI F) (nI j) = rf_function_L44 n k m' u' (nI F) (nI j') := by
  intro d
  induction d with
  | zero =>
    intro j m hd hj hm ⟨f, f1, f2, f3⟩
    omega
  | succ d ih =>
    intro j m hd hj hm ⟨f, f1, f2, f3⟩
    obtain ⟨m, rfl⟩ : ∃ y, m = y + 1 := ⟨m - 1, by omega⟩
    have e1 : rf_function_L44 n k (m + 1) u (nI F) (nI j) = if zI u 14 j = nI w then (zbd (rf_place n u) fun r3 u4 => zbd (rf_notes n u4 r3 2) fun _ u6 => rf_function_L44 n k m u6 (nI F) (nI (j + 1))) else rf_function_L44 n k m u (nI F) (nI (j + 1)) := by
      rw [rf_function_L44, if_pos (nI_lt (by omega) (by omega)), zin_nI (show j < 9 by omega) (by decide), zgd_t, hat, zin_nI (show i < 1502 by omega) (by decide), zgd_t, zx_nI (show j < 2 ^ 31 by omega), zx_nI (show i < 2 ^ 31 by omega), h6, nI_1]
      rfl
    rw [e1]
    by_cases g : zI u 14 j = nI w
    · rw [if_pos g, zbd_e hpl, zbd_e hnt]
      exact ⟨j + 1, m, by omega, by omega, rfl⟩
    · rw [if_neg g]
      exact ih (j + 1) m (by omega) (by omega) (by omega) ⟨f, by
        by_cases z : f = j
        · exact absurd (z ▸ f3) g
        · omega, f2, f3⟩
theorem p_dupl (n k : Nat) (hn : 2000 ≤ n) {X : pCx} (hX : xOk X) {i cr cc S C tb F w : Nat} {M ht : Nat → Nat} {ur uc : zMu} (h : pGn X i i 0 cr cc S C tb pE0 M ht (pVt X tb S F M ht) ur uc) (hw : w < xN X) (w2 : zI ur 6 i = nI w) (w3 : zL uc 11 i = xPK X w) :
    ∃ vr vc, rf_function_L44 n k n ur (nI F) 0 = rf_function_L44 n k 1 vr (nI F) (nI F) ∧ (zbd (ce_P_fnNamed n (xp X) uc (zL uc 7 8)) fun r9 u10 => if r9 = (-1) then oFn72 n k u10 else (zbd (ce_C_note n u10 2 (zI u10 7 7)) fun _ u13 => oFn72 n k u13)) = oFn72 n k vc ∧ pGn X i i 0 cr cc S C tb pE0 M ht (pVt X tb S F M ht) vr vc ∧ zI vr 6 i = nI w ∧ zL vc 11 i = xPK X w := by
  have hT := hX.T
  have hi := h.i
  have hP := hX.pl hi
  have hF := h.2.2.2.2.2.1.1
  have hpl := h.place hX n
  rw [h.va, w3]
  rcases p_fnNamed n hn hX hF.1 hF.2.2.1 hF.2.2.2 hw with ⟨f, f1, f2, f3, f4⟩ | ⟨f1, f2⟩
  · obtain ⟨b, n1, n2, n3⟩ := pGn_note n (w := xpl X i) (k := 2) hX (vKeep_t hX) h (by omega) hP
    obtain ⟨j', m', j1, j2, j3⟩ := l44_to n k hF.1 (by omega) h.at w2 hpl n1 F 0 n (by omega) (by omega) (by have := hF.1; omega) ⟨f, by omega, f1, f2⟩
    have h6 : zI (notR ur b (xpl X i) 2) 6 i = nI w := by rw [notR_W 6 i (by omega)]; exact w2
    have sk := l44_skip n k hF.1 (by omega) n3.at h6 (n3.place hX n) (F - j') j' m' rfl j1 j2 (fun _ _ _ => Or.inr (notes_again n hP n1))
    refine ⟨_, notC uc b (xpl X i) 2, ?_, ?_, n3, h6, by rw [notC_L]; exact w3⟩
    · exact (show rf_function_L44 n k n ur (nI F) (nI 0) = _ from j3).trans sk
    · rw [zbd_e f4, if_neg (nI_m1 (by have := hF.1; omega)), h.pc, show (2 : Int32) = nI 2 from rfl, zbd_e n2]
  · refine ⟨ur, uc, ?_, ?_, h, w2, w3⟩
    · exact l44_skip n k hF.1 (by omega) h.at w2 hpl F 0 n (by omega) (by omega) (by have := hF.1; omega) (fun f _ hf => Or.inl (f1 f hf))
    · rw [zbd_e f2, if_pos rfl]
theorem p_function (n k : Nat) (hn : 2000 ≤ n) (hkk : 120 ≤ k) {X : pCx} (hX : xOk X) {i F : Nat} {ur uc : zMu} (ht0 : pTp X i F ur uc) (hk : xrk X i = 200) :
    Rp (rf_function n k ur) (oFn n k uc) (fun _ vr _ vc => (∃ i', i < i' ∧ pTp X i' (F + 1) vr vc) ∨ pWx X (kS 0) vr vc) := by
  obtain ⟨cr, cc, S, C, tb, M, ht, h, b1, b2, b3, h0, h00, -⟩ := ht0
  have hp := hX.p12
  have hT := hX.T
  have hi := h.i
  have hle := h.le
  have hit := hX.nx hi (by omega)
  have kS0 : kS 0 = 2352 := rfl
  have hF := h.2.2.2.2.2.1.1
  have k259 : kRel 1 259 := by unfold kRel; omega
  have k41 : kRel 41 41 := by unfold kRel isSg; omega
  unfold rf_function
  rw [oFn_eq, h.zp hX, hX.zpr, zgd_t]
  refine rp_rl ?_
  rw [hF.2.1, hF.2.2.1]
  by_cases h8 : F = 8
  · subst h8
    obtain ⟨v, v2, e1, e2, q1, q2⟩ := h.refuse n hX vRf_t (K := kS 0) (by omega) (by omega) (by omega)
    obtain ⟨v3, e3, q3⟩ := w1_fG n k hn hkk hX q2
    exact rp_lt rfl (rp_rt rfl (rp_l e1 (rp_r e2 (rp_eq rfl e3 (Or.inr ⟨_, q1, q3⟩)))))
  have hF8 : F < 8 := by have := hF.1; omega
  have n8 : ¬ nI F = 8 := fun q => h8 ((nI_eq (a := F) (b := 8) (by omega) (by decide)).mp q)
  have h1 := pGn_advC hX (vKeep_t hX) (pGn_advR hX (vKeep_t hX) h hit) hit
  have hi1 := h1.i
  refine rp_lf n8 (rp_rf n8 (rp_ll ?_))
  rw [h.at, nI_1]
  refine rp_l (h1.now hX n) (rp_r (h.adv hX hit n) ?_)
  by_cases hNn : ¬ xrk X (i + 1) = 1
  · obtain ⟨v, v2, e1, e2, q1, q2⟩ := h1.refuse n hX vRf_t (K := kS 0) (by omega) (by omega) (by omega)
    obtain ⟨v3, e3, q3⟩ := w1_fG n k hn hkk hX q2
    exact rp_lf (fun q => hNn ((hX.rk hi1 1 (by decide)).mp q)) (rp_rf (h1.ne hX k259 hNn) (rp_l e1 (rp_r e2 (rp_eq rfl e3 (Or.inr ⟨_, q1, q3⟩)))))
  have hN : xrk X (i + 1) = 1 := Decidable.not_not.mp hNn
  have hit1 := hX.nx hi1 (by omega)
  obtain ⟨w, w1, w2, w3⟩ := h1.nm hX hN
  refine rp_lt ((hX.rk hi1 1 (by decide)).mpr hN) (rp_rt (by rw [h1.kd]; exact (hX.ck hi1 k259).mpr hN) (rp_ll ?_))
  rw [h1.2.2.2.2.2.1.1.2.1, h1.zp hX, hX.zpr, zgd_t]
  refine rp_rl ?_
  obtain ⟨vr, vc, d1, d2, h2, d3, d4⟩ := p_dupl n k hn hX h1 w1 w2 w3
  rw [d1, d2]
  obtain ⟨t1, t2, ⟨V0, t3, t3'⟩, t4⟩ := h2.2.2.2.2.2.1
  have zF9 : zin (nI F) 9 = true := zin_nI (by omega) (by decide)
  have zF10 : zin (nI F) 10 = true := zin_nI (by omega) (by decide)
  have zF8 : zin (nI F) 8 = true := zin_nI (by omega) (by decide)
  have zxF : zx (nI F) = F := zx_nI (by omega)
  have zi : zin (nI (i + 1)) 1502 = true := zin_nI (by omega) (by decide)
  have zxi : zx (nI (i + 1)) = i + 1 := zx_nI (by omega)
  have eR : rf_function_L44 n k 1 vr (nI F) (nI F) = zbd (rf_opens n (zsI (zsI (zsI (zsI vr 14 F (nI w)) 0 10 (nI (i + 1 + 1))) 0 27 (nI F)) 17 F 0) 40) fun _ u14 => zbd (rf_isWrong n u14) fun r15 u16 => if r15 = 0 then (zbd (rf_now n u16) fun r18 u19 => if r18 = 41 then rf_function_J268 n k u19 (nI F) 0 else rf_function_L145 n k n u19 (nI F) 0 1) else rf_function_J268 n k u16 (nI F) 0 := by
    rw [rf_function_L44, if_neg (nI_nlt (Nat.le_refl _) (by omega)), h2.at, zi, zgd_t, zF9, zgd_t, zxi, zxF, d3]
    show zgd (zin (nI F) 10) (zbd (rf_opens n (zsI (zsI (zsI (zsI vr 14 F (nI w)) 0 10 (zI (zsI vr 14 F (nI w)) 0 10 + 1)) 0 27 (nI F)) 17 F 0) 40) _) = _
    rw [zF10, zgd_t, show zI (zsI vr 14 F (nI w)) 0 10 = nI (i + 1) by rw [gI_sI, if_neg (by omega)]; exact h2.at, nI_1]
  have eA : ce_P_addFn n (xp X) vc (zL vc 7 8) = some (nI F, zsI (zsI (zsI (zsL vc (xp X + 8) F (xPK X w)) (xp X + 9) F (nI cc)) (xp X + 10) F 0) (xp X) 12 (nI (F + 1))) := by
    rw [h2.va, d4]
    unfold ce_P_addFn
    rw [t1.2.2.1, if_pos (show nI F < 8 from nI_lt (b := 8) hF8 (by decide)), zF8, zgd_t, zxF]
    have c12 : zI (zsL vc (xp X + 8) F (xPK X w)) (xp X) 12 = nI F := t1.2.2.1
    have c3 : zI (zsL vc (xp X + 8) F (xPK X w)) (xp X) 3 = nI cc := h2.cc
    simp [zlet, zgd, gI_sI, c12, c3, zF8, zxF, nI_1]
  have hr : ∀ a j, ¬ (a = 14 ∧ j = F) → ¬ (a = 0 ∧ (j = 10 ∨ j = 27)) → ¬ (a = 17 ∧ j = F) → zI (zsI (zsI (zsI (zsI vr 14 F (nI w)) 0 10 (nI (i + 1 + 1))) 0 27 (nI F)) 17 F 0) a j = zI vr a j := fun a j q1 q2 q3 => by rw [gI_sI, if_neg q3, gI_sI, if_neg (by omega), gI_sI, if_neg (by omega), gI_sI, if_neg q1]
  have hc1 : ∀ a j, ¬ (a = xp X + 9 ∧ j = F) → ¬ (a = xp X + 10 ∧ j = F) → ¬ (a = xp X ∧ j = 12) → ¬ (a = 2 ∧ (j = 6 ∨ j = 8)) → zI (zsI (zsI (zsI (zsI (zsI (zsL vc (xp X + 8) F (xPK X w)) (xp X + 9) F (nI cc)) (xp X + 10) F 0) (xp X) 12 (nI (F + 1))) 2 6 (nI F)) 2 8 0) a j = zI vc a j := fun a j q1 q2 q3 q4 => by rw [gI_sI, if_neg (by omega), gI_sI, if_neg (by omega), gI_sI, if_neg q3, gI_sI, if_neg q2, gI_sI, if_neg q1, gI_sL]
  have hl1 : ∀ a j, ¬ (a = xp X + 8 ∧ j = F) → zL (zsI (zsI (zsI (zsI (zsI (zsL vc (xp X + 8) F (xPK X w)) (xp X + 9) F (nI cc)) (xp X + 10) F 0) (xp X) 12 (nI (F + 1))) 2 6 (nI F)) 2 8 0) a j = zL vc a j := fun a j q => by rw [gL_sI, gL_sI, gL_sI, gL_sI, gL_sI, gL_sL, if_neg q]
  have f1 : fPC (xp X) (xc X) (zsI (zsI (zsI (zsI (zsI (zsL vc (xp X + 8) F (xPK X w)) (xp X + 9) F (nI cc)) (xp X + 10) F 0) (xp X) 12 (nI (F + 1))) 2 6 (nI F)) 2 8 0) := fPC_I (fPC_I (fPC_I (fPC_I (fPC_I (fPC_L h2.2.1 (by unfold pwC; omega)) (by unfold pwC; omega)) (by unfold pwC; omega)) (by unfold pwC; omega)) (by unfold pwC; omega)) (by unfold pwC; omega)
  have v8 : zI (zsI (zsI (zsI (zsI (zsI (zsL vc (xp X + 8) F (xPK X w)) (xp X + 9) F (nI cc)) (xp X + 10) F 0) (xp X) 12 (nI (F + 1))) 2 6 (nI F)) 2 8 0) 2 8 = 0 := by simp [gI_sI]
  have v6 : zI (zsI (zsI (zsI (zsI (zsI (zsL vc (xp X + 8) F (xPK X w)) (xp X + 9) F (nI cc)) (xp X + 10) F 0) (xp X) 12 (nI (F + 1))) 2 6 (nI F)) 2 8 0) 2 6 = nI F := by simp [gI_sI]
  have v12 : zI (zsI (zsI (zsI (zsI (zsI (zsL vc (xp X + 8) F (xPK X w)) (xp X + 9) F (nI cc)) (xp X + 10) F 0) (xp X) 12 (nI (F + 1))) 2 6 (nI F)) 2 8 0) (xp X) 12 = nI (F + 1) := by rw [gI_sI, if_neg (by omega), gI_sI, if_neg (by omega)]; simp [gI_sI]
  have v9 : zI (zsI (zsI (zsI (zsI (zsI (zsL vc (xp X + 8) F (xPK X w)) (xp X + 9) F (nI cc)) (xp X + 10) F 0) (xp X) 12 (nI (F + 1))) 2 6 (nI F)) 2 8 0) (xp X + 9) F = nI cc := by rw [gI_sI, if_neg (by omega), gI_sI, if_neg (by omega), gI_sI, if_neg (by omega), gI_sI, if_neg (by omega)]; simp [gI_sI]
  have v10 : zI (zsI (zsI (zsI (zsI (zsI (zsL vc (xp X + 8) F (xPK X w)) (xp X + 9) F (nI cc)) (xp X + 10) F 0) (xp X) 12 (nI (F + 1))) 2 6 (nI F)) 2 8 0) (xp X + 10) F = 0 := by rw [gI_sI, if_neg (by omega), gI_sI, if_neg (by omega), gI_sI, if_neg (by omega)]; simp [gI_sI]
  have vL8 : zL (zsI (zsI (zsI (zsI (zsI (zsL vc (xp X + 8) F (xPK X w)) (xp X + 9) F (nI cc)) (xp X + 10) F 0) (xp X) 12 (nI (F + 1))) 2 6 (nI F)) 2 8 0) (xp X + 8) F = xPK X w := by rw [gL_sI, gL_sI, gL_sI, gL_sI, gL_sI]; simp [gL_sL]
  have eJ : oFn72 n k vc = zbd (ce_X_advance n (zsI (zsI (zsI (zsI (zsI (zsL vc (xp X + 8) F (xPK X w)) (xp X + 9) F (nI cc)) (xp X + 10) F 0) (xp X) 12 (nI (F + 1))) 2 6 (nI F)) 2 8 0)) fun _ u7 => zbd (ce_C_compileNames n u7) fun _ u9 => fG n k () u9 := by
    rw [oFn72_eq, h2.zp hX, hX.zpr, zgd_t]
    show zbd (ce_P_addFn n (xp X) vc (zL vc 7 8)) _ = _
    rw [zbd_e eA]
    rfl
  rw [eR, eJ]
  revert hc1 hl1 f1 v8 v6 v12 v9 v10 vL8
  generalize (zsI (zsI (zsI (zsI (zsI (zsL vc (xp X + 8) F (xPK X w)) (xp X + 9) F (nI cc)) (xp X + 10) F 0) (xp X) 12 (nI (F + 1))) 2 6 (nI F)) 2 8 0) = vd
  intro hc1 hl1 f1 v8 v6 v12 v9 v10 vL8
  have hadv : ce_X_advance n vd = some ((), advU vd (i + 1 + 1)) := c_adv n (by rw [hc1 7 5 (by omega) (by omega) (by omega) (by omega)]; exact h2.2.2.1.2.2.1) (nI_1 (i + 1)) (hX.tk h2.1 f1).2.2.2.2 (by omega) (by omega)
  have hc2 : ∀ a j, a ≠ 7 → ¬ (a = xp X + 9 ∧ j = F) → ¬ (a = xp X + 10 ∧ j = F) → ¬ (a = xp X ∧ j = 12) → ¬ (a = 2 ∧ (j = 6 ∨ j = 8)) → zI (advU vd (i + 1 + 1)) a j = zI vc a j := fun a j q0 q1 q2 q3 q4 => by rw [advU_I a j q0]; exact hc1 a j q1 q2 q3 q4
  have hl2 : ∀ a j, a ≠ 7 → ¬ (a = xp X + 8 ∧ j = F) → zL (advU vd (i + 1 + 1)) a j = zL vc a j := fun a j q0 q => by rw [advU_L a j q0]; exact hl1 a j q
  have g : pGn X (i + 1 + 1) (i + 1 + 1) 0 cr cc S C tb pE0 M ht (pVn X tb S cc F 0 M ht) (zsI (zsI (zsI (zsI vr 14 F (nI w)) 0 10 (nI (i + 1 + 1))) 0 27 (nI F)) 17 F 0) (advU vd (i + 1 + 1)) := by
    refine pGn_step hX h2 (fPR_I (fPR_I (fPR_I (fPR_I h2.1 (by unfold pwR; omega)) (by unfold pwR; omega)) (by unfold pwR; omega)) (by unfold pwR; omega)) (fPC_adv f1) ⟨⟨hit1, by rw [gI_sI, if_neg (by omega), gI_sI, if_neg (by omega)]; simp [gI_sI]⟩, pAc_adv hX f1 hit1⟩ ⟨h2.2.2.2.2.1.1, by rw [hr 0 26 (by omega) (by omega) (by omega)]; exact h2.2.2.2.2.1.2.1, by rw [hc2 2 5 (by omega) (by omega) (by omega) (by omega) (by omega)]; exact h2.2.2.2.2.1.2.2⟩ ?_ (pFt_keep h2.2.2.2.2.2.2.1 (Nat.le_of_lt (hX.plt hit1)) (fun j q => hr 0 j (by omega) (by omega) (by omega)) (fun j q => hc2 2 j (by omega) (by omega) (by omega) (by omega) (by omega))) (fun q => by rw [hc2 2 3 (by omega) (by omega) (by omega) (by omega) (by omega)] at q; exact q) (Nat.le_refl _) h2.2.2.2.2.2.2.2.1.2.2.2.2.2.1 (fun a j q => hr a j (by omega) (by omega) (by omega)) (fun a j q => hc2 a j (by omega) (by omega) (by omega) (by omega) (by omega)) (fun j => hl2 4 j (by omega) (by omega))
    refine ⟨hF8, by omega, Or.inr ⟨hF8, by rw [gI_sI, if_neg (by omega)]; simp [gI_sI], by rw [advU_I 2 6 (by omega)]; exact v6⟩, ⟨fun _ => 0, by omega, by omega, by simp [gI_sI]; rfl, by rw [advU_I 2 8 (by omega)]; exact v8, fun j hj => absurd hj (Nat.not_lt_zero j)⟩, by rw [hr 0 33 (by omega) (by omega) (by omega)]; exact t1.2.1, by rw [advU_I _ 12 (by omega)]; exact v12, pFo_keep t1.2.2.2 (Nat.le_refl _) (fun a j _ _ q => hr a j (by omega) (by omega) (by omega)) (fun a j q q2 => hc2 a j (by omega) (by omega) (by omega) (by omega) (by omega)) (fun j q => hl2 _ j (by omega) (by omega)), ⟨w, w1, by rw [gI_sI, if_neg (by omega), gI_sI, if_neg (by omega), gI_sI, if_neg (by omega)]; simp [gI_sI], by rw [advU_L _ F (by omega)]; exact vL8⟩, by rw [advU_I _ F (by omega)]; exact v9, by rw [advU_I _ F (by omega)]; exact v10, pSi_keep t2 (fun a j q => hr a j (by omega) (by omega) (by omega)) (fun a j q => hc2 a j (by omega) (by omega) (by omega) (by omega) (by omega)) (fun j => hl2 _ j (by omega) (by omega)) (fun q => by rw [hc2 2 3 (by omega) (by omega) (by omega) (by omega) (by omega)] at q; exact q)⟩
  refine rp_r hadv ?_
  unfold ce_C_compileNames
  rw [zbd_as]
  refine rp_bd (rp_mono (p_opensG n hX (vKeep_n hX) vRf_n g (k := 40) (K := kS 0 - 1) (by unfold kRel isSg; omega) (by omega) (by omega) (by omega) (by omega)) (fun _ xr _ xc gg => ?_))
  rcases gg with ⟨-, g2, g3⟩ | ⟨w', q1, q2⟩
  · have hi3 := g3.i
    refine rp_l (g3.nw n) (rp_lt rfl (rp_l (g3.now hX n) ?_))
    have fin : ∀ j c yr yc, i + 1 ≤ j → c ≤ 4 → 2 * cc ≤ 3 * j → 2 * S ≤ j → 3 * C ≤ j → pGn X j j 1 cr cc S C tb pE0 M ht (pVn X tb S cc F c M ht) yr yc → Rp (rf_function_J268 n k yr (nI F) (nI c)) (zbd (ce_C_closes n yc 41) fun _ u => fG n k () u) (fun _ vr _ vc => (∃ i', i < i' ∧ pTp X i' (F + 1) vr vc) ∨ pWx X (kS 0) vr vc) := by
      intro j c yr yc hj hc z1 z2 z3 hg
      refine rp_mono (p_fnEnd n k hn hkk hX hg hc hj z1 z2 z3 h0 h00) (fun _ ar _ ac q => ?_)
      rcases q with ⟨i', q1, q2⟩ | q
      · exact Or.inl ⟨i', by omega, q2⟩
      · exact Or.inr q
    by_cases hk2 : xrk X (i + 1 + 1 + 1) = 41
    · refine rp_lt ((hX.rk hi3 41 (by decide)).mpr hk2) ?_
      obtain ⟨m, hm⟩ : ∃ y, n = y + 1 := ⟨n - 1, by omega⟩
      rw [if_pos (show zI xc 7 6 = 41 from by rw [g3.kd]; exact (hX.ck hi3 k41).mpr hk2), show ce_C_compileNames_L26 n n xc 0 0 = ce_C_compileNames_L26 n (m + 1) xc 0 0 by rw [← hm], ce_C_compileNames_L26, if_neg (by decide), if_pos rfl, zbd_as]
      exact fin (i + 1 + 1 + 1) 0 xr xc (by omega) (by omega) (by omega) (by omega) (by omega) g3
    · refine rp_lf (fun q => hk2 ((hX.rk hi3 41 (by decide)).mp q)) ?_
      rw [if_neg (show ¬ zI xc 7 6 = 41 from g3.ne hX k41 hk2)]
      refine p_namesL n k hn hX (K := kS 0 - 1) (by omega) (by omega) (by omega) (i0 := i + 1 + 1 + 1) (fun j c yr yc hj hc hg => fin j c yr yc (by omega) hc (by omega) (by omega) (by omega) hg) (fun yr yc hw => ?_) 4 (i + 1 + 1 + 1) n n 0 xr xc (by omega) (by omega) (by omega) (by omega) (Nat.le_refl _) g3
      obtain ⟨w', q1, q2⟩ := hw
      obtain ⟨v2, e2', hv2⟩ := w1_fG n k hn hkk hX q2
      exact rp_eq rfl e2' (Or.inr ⟨w', bR1_K q1 (by omega), hv2⟩)
  · obtain ⟨v3, e3, q3⟩ := r1_closes n q1 41
    obtain ⟨v4, e4, q4⟩ := r1_J268 n k hn hkk e3 q3 hF8 (by omega) 0
    obtain ⟨v5, e5, q5⟩ := bC1_refuse n hX q2
    obtain ⟨v6', e6, q6⟩ := w1_fG n k hn hkk hX q5
    obtain ⟨m, hm⟩ : ∃ y, n = y + 1 := ⟨n - 1, by omega⟩
    rw [if_neg (show ¬ zI xc 7 6 = 41 from by rw [q2.2.2.2.2.1]; decide), show ce_C_compileNames_L26 n n xc 1 0 = ce_C_compileNames_L26 n (m + 1) xc 1 0 by rw [← hm], ce_C_compileNames_L26, if_neg (by decide), if_neg (by decide), if_neg (by decide), if_neg (show ¬ zI xc 7 6 = 259 from by rw [q2.2.2.2.2.1]; decide), zbd_e e5]
    exact rp_l (r1_isWrong n q1) (rp_lf (by decide) (rp_r rfl (rp_eq e4 e6 (Or.inr ⟨w', bR1_K q4 (by omega), q6⟩))))
