/-! PARSING, twenty-eighth part: new, row, size -/
theorem zsI_cm {u : zMu} {k j k' j' : Nat} {v v' : Int32} (h : ¬ (k = k' ∧ j = j')) : zsI (zsI u k j v) k' j' v' = zsI (zsI u k' j' v') k j v := by
  unfold zsI
  congr 1
  funext a b
  show (if a = k' ∧ b = j' then v' else if a = k ∧ b = j then v else u.1 a b) = (if a = k ∧ b = j then v else if a = k' ∧ b = j' then v' else u.1 a b)
  by_cases c1 : a = k' ∧ b = j'
  · have c2 : ¬ (a = k ∧ b = j) := fun q => h ⟨q.1.symm.trans c1.1, q.2.symm.trans c1.2⟩
    rw [if_pos c1, if_neg c2, if_pos c1]
  · rw [if_neg c1, if_neg c1]
theorem emC_I {u : zMu} {p cc k j : Nat} {o a w v : Int32} (h : k < p) : zsI (emC u p cc o a w) k j v = emC (zsI u k j v) p cc o a w := by
  unfold emC
  rw [zsI_cm (by omega), zsI_cm (k := p + 3) (by omega), zsI_cm (k := p + 2) (by omega), zsI_cm (k := p + 1) (by omega)]
theorem emC_adv {u : zMu} {p cc i : Nat} {o a w : Int32} (h : 12 ≤ p) : advU (emC u p cc o a w) i = emC (advU u i) p cc o a w := by
  unfold advU
  rw [emC_W 9 i (by omega) (by omega), emC_W 10 i (by omega) (by omega), emC_I (by omega), emC_I (by omega), emC_I (by omega)]
  rfl
def mK (kx o c : Nat) : Prop := (kx = 208 ∧ o = 12 ∧ c = 12) ∨ (kx = 209 ∧ o = 13 ∧ c = 16) ∨ (kx = 210 ∧ o = 14 ∧ c = 19)
theorem mK.b {kx o c : Nat} (h : mK kx o c) : kx < 212 ∧ 0 < kx ∧ o ≤ 23 ∧ o ≠ 17 ∧ ¬ o ≤ 8 ∧ c < 128 ∧ (kx = 208 ↔ c = 12) := by unfold mK at h; omega
theorem mK.ins {kx o c m0 h0 : Nat} {tg : Nat → Nat → Prop} (h : mK kx o c) (hh : 2 ≤ h0) : insC 80 o 1 0 c 0 m0 (m0 + 1) h0 h0 tg 0 := by
  unfold mK at h
  rcases h with ⟨-, rfl, rfl⟩ | ⟨-, rfl, rfl⟩ | ⟨-, rfl, rfl⟩
  · exact insC_12.mpr (Or.inl ⟨rfl, rfl, rfl, hh, rfl⟩)
  · exact insC_13.mpr ⟨rfl, rfl, hh, rfl⟩
  · exact insC_14.mpr ⟨rfl, rfl, hh, rfl⟩
theorem r_J283 (n : Nat) (fE fO : zMu → Option (Unit × zMu)) (fC : zMu → Int32 → Int32 → Option (Unit × zMu)) {u u2 : zMu} {kx o c : Nat} (hm : mK kx o c) (e : rf_closes n u 41 = some ((), u2)) (P : Int32) : rf_one_J283 n fE fO fC u P (nI kx) 0 = zbd (rf_emit n u2 (nI o) 1 0 P) fun _ u3 => zlet (zsI u3 0 25 0) fun u4 => some ((), u4) := by
  unfold rf_one_J283 rf_one_J316
  rw [zbd_e e]
  unfold mK at hm
  rcases hm with ⟨rfl, rfl, rfl⟩ | ⟨rfl, rfl, rfl⟩ | ⟨rfl, rfl, rfl⟩ <;> rfl
theorem p_madeE (n : Nat) (hn : 2000 ≤ n) {op bR bC K kx o c : Nat} (hm : mK kx o c) (hbR : 5 ≤ bR) (hbC : 6 ≤ bC) (hK : 2260 ≤ K) (hK2 : K < 2480) (fO : zMu → Option (Unit × zMu)) (fC : zMu → Int32 → Int32 → Option (Unit × zMu)) {X : pCx} (hX : xOk X) {kR kC P : Nat} (hP : P ≤ 1500) {i0 cr cc S C tb e : Nat} {E : Nat → Prop} {M ht : Nat → Nat} (b1 : 2 * cc ≤ 3 * i0 + 2) (hh : 1 ≤ ht cr ∧ ht cr ≤ 58) {ur0 uc0 vr vc yr yc : zMu} {rc : Int32} (q1 : rf_expr n kR vr = some ((), yr)) (q2 : ce_C_compileE n kC vc 0 = some (rc, yc)) (hx : pSm ur0 vr uc0 vc) {i1 : Nat} (hi1 : i0 + 2 = i1) (hop : op ≤ 8)
    (post : pPo X i1 (op + 1) cr cc S C tb e E M ht (ht cr) vr vc yr rc yc ∨ pWx X K yr yc) :
    Rp (rf_one_J272 n (rf_expr n kR) fO fC vr (nI P) (nI kx) 0) (zbd (ce_C_compileMade_J53 n (ce_C_compileE n kC) vc (nI c) (nI P)) fun _ u22 => some ((0 : Int32), u22)) (fun _ vr rc vc => pPo X i0 op cr cc S C tb e E M ht (ht cr) ur0 uc0 vr rc vc ∨ pWx X (K + 1) vr vc) := by
  have hp := hX.p12
  have hT := hX.T
  obtain ⟨m1, m2, m3, m4, m5, m6, m7⟩ := hm.b
  unfold rf_one_J272 ce_C_compileMade_J53
  rw [if_pos (show (0 : Int32) = 0 from rfl), zbd_e q1, zbd_e q2]
  unfold ce_C_compileMade_J59
  rw [zbd_as]
  have wrong : ∀ w' xr xc, rf_closes n yr 41 = some ((), xr) → ce_C_closes n yc 41 = some ((), xc) → bR1 X w' K xr → bC1 X w' xc → Rp (rf_one_J283 n (rf_expr n kR) fO fC yr (nI P) (nI kx) 0) (zbd (ce_C_closes n yc 41) fun _ u2 => zbd (zgd (zpr (zR u2 2 1)) (zlet (zR u2 2 1) fun p3 => zbd (ce_P_emit n p3 u2 (nI c) 0 (nI P)) fun r4 u5 => some ((), u5))) fun _ u22 => some ((0 : Int32), u22)) (fun _ vr rc vc => pPo X i0 op cr cc S C tb e E M ht (ht cr) ur0 uc0 vr rc vc ∨ pWx X (K + 1) vr vc) := by
    intro w' xr xc e1 e2 w1 w2
    obtain ⟨v1, e3, q3⟩ := r1_emit n w1 (by omega) (nI o) 1 0 (nI P)
    obtain ⟨r8, v2, e4, q4⟩ := w1_emit n hX w2 (nI c) 0 (nI P)
    rw [r_J283 n _ _ _ hm e1, zbd_e e2, bC_zp hX w2.1, hX.zpr, zgd_t]
    exact rp_l e3 (rp_ll (rp_eq rfl (by show zbd (zbd (ce_P_emit n (xp X) xc (nI c) 0 (nI P)) _) _ = _; rw [zbd_e e4]; rfl) (Or.inr ⟨w', bR1_set q3 0 (by unfold pwR; omega) (by omega), q4⟩)))
  rcases post with ⟨i', cr', cc', S', C', M', ht', kd, k1, k2, ⟨f1, f2, f3, f4, f5⟩, k4', k5, -⟩ | ⟨w', w1, w2⟩
  · have hi' := k1.i
    have hle' := k1.le
    obtain ⟨_, xr, _, xc, e1, e2, post⟩ := p_closes n hX k1 (k := 41) (K := K) (by unfold kRel isSg; omega) (by omega) (by omega) (by omega) (by omega)
    rcases post with ⟨-, g5, g6, g7⟩ | ⟨w', w1, w2⟩
    · rw [r_J283 n _ _ _ hm e1, zbd_e (show ce_C_closes n yc 41 = some ((), xc) from e2), g6.zp hX, hX.zpr, zgd_t]
      have em := pOk_emit hX g6 (o := o) (a := 1) (b := 0) (w := P) (c := c) (x := 0) (wc := P) (a' := 1) (x' := 0) (ht cr + 1) E (fun s q => q) hP (by omega) m3 m4 (fun _ => rfl) (fun _ => rfl) (fun _ => rfl)
        (fun q => by rw [k5]; exact hm.ins (by omega)) (fun z1 z2 _ => absurd z2 m5)
      refine rp_l (r_emit n g6.cr (by omega) (nI o) 1 0 (nI P)) (rp_ll (rp_eq rfl (by show zbd (zbd (ce_P_emit n (xp X) xc (nI c) 0 (nI P)) _) _ = _; rw [zbd_e (c_emit n (xp X) g6.cc (by omega) m6 (by omega) 0)]; rfl) (Or.inl ⟨i' + 1, cr' + 1, cc' + 1, S', C', _, _, 0, pOk_kind hX em 0, by omega, ⟨by omega, by omega, by omega, by omega, by omega⟩, ?_, if_pos rfl, by simp [gI_sI]; rfl, rfl, by omega, fun q => absurd rfl q⟩)))
      exact pEx_tr (pEx_tr (pEx_tr (pEx_tr (hx.ex cr S M ht) k4' (Nat.le_refl _) (Nat.le_refl _)) (g7.ex cr' S' M' ht') (by omega) f2) (pEx_em (S := S') hp) (by omega) f2) ((pSm_R 25 _).ex (cr' + 1) S' _ _) (by omega) f2
    · exact wrong w' xr xc e1 e2 w1 w2
  · obtain ⟨v1, e1, q1⟩ := r1_closes n w1 41
    obtain ⟨v2, e2, q2⟩ := w1_closes n hX w2 (x := 41) (by decide)
    exact wrong w' v1 v2 e1 e2 q1 q2
theorem p_made (n : Nat) (hn : 2000 ≤ n) {op bR bC K kx o c : Nat} (hm : mK kx o c) (hbR : 5 ≤ bR) (hbC : 6 ≤ bC) (hK : 2260 ≤ K) (hK2 : K < 2480) (H : op < 8 → sSp n (op + 1) bR bC (6 * op + 9) K (rf_expr n) (fun k u => ce_C_compileE n k u (nI 0))) (fO : zMu → Option (Unit × zMu)) (fC : zMu → Int32 → Int32 → Option (Unit × zMu)) {X : pCx} (hX : xOk X) {i cr cc S C tb e : Nat} {E : Nat → Prop} {M ht : Nat → Nat} {ur uc : zMu} (c1 : 2 * cc ≤ 3 * i + 2) (c2 : 2 * S ≤ i) (c3 : 3 * C ≤ i) (hh : 1 ≤ ht cr ∧ ht cr ≤ 6 * op + 6) {kR kC : Nat} (hkR : bR ≤ kR) (hkC : bC ≤ kC) (h : pOk X i i op cr cc S C tb e E M ht ur uc) (hk : xrk X i = kx) :
    Rp (rf_one_J228 n (rf_expr n kR) fO fC ur (nI (xpl X i)) (nI kx)) (zbd (ce_C_compileMade n (kC + 1) uc (nI c)) fun _ u22 => some ((0 : Int32), u22)) (fun _ vr rc vc => pPo X i op cr cc S C tb e E M ht (ht cr) ur uc vr rc vc ∨ pWx X (K + 1) vr vc) := by
  have hp := hX.p12
  have hT := hX.T
  have hit0 := h.i
  have hle := h.le
  have hop := h.op8
  have hP := hX.pl hit0
  obtain ⟨m1, m2, m3, m4, m5, m6, m7⟩ := hm.b
  have hit := hX.nx hit0 (by omega)
  have h1 := pOk_advC hX (pOk_advR hX h hit) hit
  have c208 : (nI kx = 208) ↔ kx = 208 := nI_eq (a := kx) (b := 208) (by omega) (by decide)
  have c12 : (nI c = 12) ↔ c = 12 := nI_eq (a := c) (b := 12) (by omega) (by decide)
  have k41 : kRel 41 41 := by unfold kRel isSg; omega
  unfold rf_one_J228
  refine rp_ll ?_
  rw [h.at, nI_1, ceM_s]
  unfold ce_C_compileMade_b
  show Rp _ (zbd (zbd (ce_X_advance n uc) fun _ u3 => zbd (ce_C_opens n u3 40) fun _ u5 => if nI c = 12 then (if zI u5 7 6 = 41 then (zgd (zpr (zR u5 2 1)) (zlet (zR u5 2 1) fun p8 => zbd (ce_P_emit n p8 u5 2 0 (zI uc 7 7)) fun r9 u10 => ce_C_compileMade_J59 n (ce_C_compileE n kC) u10 (nI c) (zI uc 7 7))) else ce_C_compileMade_J53 n (ce_C_compileE n kC) u5 (nI c) (zI uc 7 7)) else ce_C_compileMade_J53 n (ce_C_compileE n kC) u5 (nI c) (zI uc 7 7)) fun _ u22 => some ((0 : Int32), u22)) _
  rw [zbd_as, h.pc]
  refine rp_r (h.adv hX hit n) ?_
  rw [zbd_as]
  refine rp_bd (rp_mono (p_opens n hX h1 (k := 40) (K := K) (by unfold kRel isSg; omega) (by omega) (by omega) (by omega) (by omega)) (fun _ vr _ vc g => ?_))
  rcases g with ⟨-, g1, g2, g3, g4⟩ | ⟨w', w1, w2⟩
  · have hi1 := g3.i
    have hsm : pSm ur vr uc vc := pSm_tr (pSm_tr (pSm_R 10 _) (pSm_adv _)) g4
    have full : Rp (rf_one_J272 n (rf_expr n kR) fO fC vr (nI (xpl X i)) (nI kx) 0) (zbd (ce_C_compileMade_J53 n (ce_C_compileE n kC) vc (nI c) (nI (xpl X i))) fun _ u22 => some ((0 : Int32), u22)) (fun _ vr rc vc => pPo X i op cr cc S C tb e E M ht (ht cr) ur uc vr rc vc ∨ pWx X (K + 1) vr vc) := by
      obtain ⟨_, yr, rc, yc, q1, q2, post⟩ := H g1 X hX kR kC (i + 1 + 1) cr cc S C tb e E M ht _ _ hkR hkC g3 (by omega) (by omega) (by omega) (by omega)
      exact p_madeE n hn hm hbR hbC hK hK2 fO fC hX hP c1 (by omega) q1 q2 hsm rfl hop post
    by_cases h208 : kx = 208
    · refine rp_lt (c208.mpr h208) (rp_l (g3.nw n) (rp_lt rfl (rp_l (g3.now hX n) ?_)))
      rw [if_pos (c12.mpr (m7.mp h208))]
      by_cases hb : xrk X (i + 1 + 1) = 41
      · refine rp_lt ((hX.rk hi1 41 (by decide)).mpr hb) ?_
        have hc12 := m7.mp h208
        subst h208
        subst hc12
        rw [if_pos (show zI vc 7 6 = 41 from by rw [g3.kd]; exact (hX.ck hi1 k41).mpr hb), g3.zp hX, hX.zpr, zgd_t]
        show Rp _ (zbd (zbd (ce_P_emit n (xp X) vc 2 0 (nI (xpl X i))) fun r9 u10 => ce_C_compileMade_J59 n (ce_C_compileE n kC) u10 (nI 12) (nI (xpl X i))) fun _ u22 => some ((0 : Int32), u22)) _
        rw [zbd_as]
        refine rp_r (c_emit n (xp X) g3.cc (by omega) (o := 2) (w := xpl X i) (by omega) (by omega) 0) ?_
        have hit2 := hX.nx hi1 (by omega)
        have k2 := pOk_op hX (pOk_advC hX (pOk_advR hX g3 hit2) hit2) (op' := op) hop
        have er : rf_closes n vr 41 = some ((), zsI (zsI vr 0 10 (nI (i + 1 + 1 + 1))) 0 26 (nI op)) := by
          unfold rf_closes
          rw [show (41 : Int32) = nI 41 from rfl, zbd_e (r_want_ok n hX g3 hb)]
          show some ((), zsI (zsI vr 0 10 (nI (i + 1 + 1 + 1))) 0 26 (zI (zsI vr 0 10 (nI (i + 1 + 1 + 1))) 0 26 - 1)) = _
          rw [gI_sI, if_neg (by omega), g3.2.2.2.2.1.2.1, nI_pred]
        have ec : ce_C_closes n (emC vc (xp X) cc (nI 2) 0 (nI (xpl X i))) 41 = some ((), emC (zsI (advU vc (i + 1 + 1 + 1)) 2 5 (nI op)) (xp X) cc (nI 2) 0 (nI (xpl X i))) := by
          rw [c_closes_eq]
          unfold ce_C_expect
          have hadv : ce_X_advance n (emC vc (xp X) cc (nI 2) 0 (nI (xpl X i))) = some ((), advU (emC vc (xp X) cc (nI 2) 0 (nI (xpl X i))) (i + 1 + 1 + 1)) := c_adv n (by rw [emC_W 7 5 (by omega) (by omega)]; exact g3.2.2.1.2.2.1) (nI_1 (i + 1 + 1)) (by rw [emC_W 7 4 (by omega) (by omega)]; exact (hX.tk g3.1 g3.2.1).2.2.2.2) (by omega) (by omega)
          rw [emC_W 7 6 (by omega) (by omega), if_pos (show zI vc 7 6 = 41 from by rw [g3.kd]; exact (hX.ck hi1 k41).mpr hb), zbd_e hadv, emC_adv hp]
          show some ((), zsI (emC (advU vc (i + 1 + 1 + 1)) (xp X) cc (nI 2) 0 (nI (xpl X i))) 2 5 (zI (emC (advU vc (i + 1 + 1 + 1)) (xp X) cc (nI 2) 0 (nI (xpl X i))) 2 5 - 1)) = _
          rw [emC_W 2 5 (by omega) (by omega), advU_I 2 5 (by omega), g3.2.2.2.2.1.2.2, nI_pred, emC_I (by omega)]
        have j272 : rf_one_J272 n (rf_expr n kR) fO fC vr (nI (xpl X i)) (nI 208) 1 = zbd (rf_emit n (zsI (zsI vr 0 10 (nI (i + 1 + 1 + 1))) 0 26 (nI op)) 12 0 0 (nI (xpl X i))) fun _ u6 => zlet (zsI u6 0 25 0) fun u7 => some ((), u7) := by
          unfold rf_one_J272 rf_one_J283 rf_one_J316
          rw [if_neg (by decide), zbd_e er]
          rfl
        rw [j272]
        unfold ce_C_compileMade_J59
        rw [zbd_as]
        refine rp_r ec ?_
        have em := pOk_emit2 hX k2 (o := 12) (a := 0) (b := 0) (w := xpl X i) (c := 2) (x := 0) (c2 := 12) (wc := xpl X i) (wc2 := xpl X i) (x2 := 0) (ht cr + 1) hP (by omega) (by omega) rfl (fun _ => rfl) (fun _ => insC_12.mpr (Or.inr ⟨rfl, rfl, rfl, rfl, rfl, hh.1⟩))
        have z2 : zR (emC (zsI (advU vc (i + 1 + 1 + 1)) 2 5 (nI op)) (xp X) cc (nI 2) 0 (nI (xpl X i))) 2 1 = xp X := k2.zp hX
        have cc2 : zI (emC (zsI (advU vc (i + 1 + 1 + 1)) 2 5 (nI op)) (xp X) cc (nI 2) 0 (nI (xpl X i))) (xp X) 3 = nI (cc + 1) := by simp [emC, gI_sI]
        rw [z2, hX.zpr, zgd_t]
        refine rp_l (r_emit n k2.cr (by omega) 12 0 0 (nI (xpl X i))) (rp_ll (rp_eq rfl (by show zbd (zbd (ce_P_emit n (xp X) _ (nI 12) 0 (nI (xpl X i))) _) _ = _; rw [zbd_e (c_emit n (xp X) cc2 (by omega) (o := 12) (w := xpl X i) (by omega) (by omega) 0)]; rfl) (Or.inl ⟨i + 1 + 1 + 1, cr + 1, cc + 2, S, C, _, _, 0, pOk_kind hX em 0, by omega, ⟨by omega, by omega, by omega, by omega, by omega⟩, ?_, if_pos rfl, by simp [gI_sI]; rfl, rfl, by omega, fun q => absurd rfl q⟩)))
        refine pEx_tr (pEx_tr ((pSm_tr hsm (pSm_tr (pSm_tr (pSm_R 10 _) (pSm_adv _)) (pSm_tr (pSm_R 26 _) (pSm_op _)))).ex cr S M ht) ⟨fun q hq => ⟨if_neg (by omega), if_neg (by omega)⟩, fun k q hq => emR_rw hq, fun s _ => emR_W 19 s (by omega) (by omega), fun q => by rw [emC_W 2 3 (by omega) (by omega), emC_W 2 3 (by omega) (by omega)] at q; exact q⟩ (Nat.le_refl cr) (Nat.le_refl S)) ((pSm_R 25 _).ex (cr + 1) S _ _) (by omega) (by omega)
      · refine rp_lf (fun q => hb ((hX.rk hi1 41 (by decide)).mp q)) ?_
        rw [if_neg (show ¬ zI vc 7 6 = 41 from c_ne hX g3 k41 hb)]
        exact full
    · rw [if_neg (fun q => h208 (m7.mpr (c12.mp q)))]
      exact rp_lf (fun q => h208 (c208.mp q)) full
  · obtain ⟨r4, v4, e4, q4⟩ := w1_E n hn hX w2 0 kC (by omega) (by omega)
    obtain ⟨k, rfl⟩ : ∃ y, kR = y + 5 := ⟨kR - 5, by omega⟩
    have hw : pSm ur ur uc uc := pSm_rf _ _
    have full : Rp (rf_one_J272 n (rf_expr n (k + 5)) fO fC vr (nI (xpl X i)) (nI kx) 0) (zbd (ce_C_compileMade_J53 n (ce_C_compileE n kC) vc (nI c) (nI (xpl X i))) fun _ u22 => some ((0 : Int32), u22)) (fun _ vr rc vc => pPo X i op cr cc S C tb e E M ht (ht cr) ur uc vr rc vc ∨ pWx X (K + 1) vr vc) := by
      unfold rf_one_J272 ce_C_compileMade_J53 ce_C_compileMade_J59
      obtain ⟨v1, e1, q1⟩ := r1_closes n w1 41
      obtain ⟨v2, e2, q2⟩ := w1_closes n hX q4 (x := 41) (by decide)
      obtain ⟨v3, e3, q3⟩ := r1_emit n q1 (by omega) (nI o) 1 0 (nI (xpl X i))
      obtain ⟨r8, v5, e5, q5⟩ := w1_emit n hX q2 (nI c) 0 (nI (xpl X i))
      rw [if_pos (show (0 : Int32) = 0 from rfl), zbd_e (r1_expr n k hn w1), zbd_e (show ce_C_compileE n kC vc 0 = some (r4, v4) from e4), zbd_e e2, r_J283 n _ _ _ hm e1, bC_zp hX q2.1, hX.zpr, zgd_t]
      exact rp_l e3 (rp_ll (rp_eq rfl (by show zbd (zbd (ce_P_emit n (xp X) v2 (nI c) 0 (nI (xpl X i))) _) _ = _; rw [zbd_e e5]; rfl) (Or.inr ⟨w', bR1_set q3 0 (by unfold pwR; omega) (by omega), q5⟩)))
    have cl : (if nI c = 12 then (if zI vc 7 6 = 41 then (zgd (zpr (zR vc 2 1)) (zlet (zR vc 2 1) fun p8 => zbd (ce_P_emit n p8 vc 2 0 (nI (xpl X i))) fun r9 u10 => ce_C_compileMade_J59 n (ce_C_compileE n kC) u10 (nI c) (nI (xpl X i)))) else ce_C_compileMade_J53 n (ce_C_compileE n kC) vc (nI c) (nI (xpl X i))) else ce_C_compileMade_J53 n (ce_C_compileE n kC) vc (nI c) (nI (xpl X i))) = ce_C_compileMade_J53 n (ce_C_compileE n kC) vc (nI c) (nI (xpl X i)) := by
      rw [if_neg (show ¬ zI vc 7 6 = 41 from by rw [w2.2.2.2.2.1]; decide)]
      by_cases z : nI c = 12
      · rw [if_pos z]
      · rw [if_neg z]
    rw [cl]
    by_cases h208 : kx = 208
    · exact rp_lt (c208.mpr h208) (rp_l (r1_isWrong n w1) (rp_lf (by decide) full))
    · exact rp_lf (fun q => h208 (c208.mp q)) full
