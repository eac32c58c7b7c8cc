/-! PARSING, twenty-ninth part: POST -/
theorem p_member (n : Nat) {X : pCx} (hX : xOk X) {i op cr cc S C tb e : Nat} {E : Nat → Prop} {M ht : Nat → Nat} {ur uc : zMu} (h : pOk X i i op cr cc S C tb e E M ht ur uc) (b1 : 2 * cc ≤ 3 * i + 1) (b2 : 2 * S + 1 ≤ i) (hh : 2 ≤ ht cr) (h60 : ht cr ≤ 60) (hk : xrk X i = 46) {K : Nat} (hK : 2260 ≤ K) (f g : zMu → Option (Unit × zMu)) {k4 : zMu → Option (Unit × zMu)} {G : Int32 → zMu → Option (Int32 × zMu)} {Q : Unit → zMu → Int32 → zMu → Prop}
    (Hk : ∀ vr vc, pOk X (i + 2) (i + 2) op (cr + 1) (cc + 1) (S + 1) C tb e E (fun r => if r = cr + 1 then cc + 1 else M r) (fun r => if r = cr + 1 then ht cr else ht r) vr vc → pEx cr S M ht (fun r => if r = cr + 1 then cc + 1 else M r) (fun r => if r = cr + 1 then ht cr else ht r) ur vr uc vc → zI vr 0 25 = nI 2 → zI vr 10 cr = nI 5 → zI vr 11 cr = nI S → zI vr 20 S = zI vr 13 cr → Rp (k4 vr) (G 2 vc) Q) (Hw : ∀ vr vc, pWx X K vr vc → Rp (some ((), vr)) (G 2 vc) Q) :
    Rp (rf_post_J29 n f g k4 ur) (zbd (ce_C_compileMember n uc) G) Q := by
  have hp := hX.p12
  have hT := hX.T
  have hit0 := h.i
  have hle := h.le
  have hP := hX.pl hit0
  have hit := hX.nx hit0 (by omega)
  obtain ⟨u6, u5, v, e1, e2, e3, bc5, b22, c7, hName, hA, k6, f6, hv, r10, r19, r19S, r20S⟩ := p_siteM n hX h hit (by omega) (by omega)
  have hS0 : zR u5 2 1 = xp X := hX.zp bc5.1
  unfold rf_post_J29
  refine rp_l (h.place hX n) (rp_l (h.now hX n) (rp_lt ((hX.rk hit0 46 (by decide)).mpr hk) (rp_l e1 (rp_ll ?_))))
  rw [e3, nI_1]
  have enow : rf_now n (zsI u6 0 10 (nI (i + 1))) = some (nI (xrk X (i + 1)), zsI u6 0 10 (nI (i + 1))) := by
    have hA2 := hA.now hX n
    unfold rf_now at hA2 ⊢
    rw [show zI (zsI u6 0 10 (nI (i + 1))) 0 10 = nI (i + 1) by simp [gI_sI]]
    rw [show zI (zsI ur 0 10 (nI (i + 1))) 0 10 = nI (i + 1) by simp [gI_sI], zin_nI (show i + 1 < 1502 by omega) (by decide), zgd_t, gI_sI, if_neg (by omega)] at hA2
    have e4 : zI ur 4 (zx (nI (i + 1))) = nI (xrk X (i + 1)) := congrArg Prod.fst (Option.some.inj hA2)
    rw [zin_nI (show i + 1 < 1502 by omega) (by decide), zgd_t, gI_sI, if_neg (by omega), k6 4 _ (by omega), e4]
  refine rp_l enow ?_
  have em : ce_C_compileMember n uc = zbd (ce_P_emit n (xp X) u5 13 (nI v) (nI (xpl X i))) fun r7 u8 => zbd (ce_C_expect n u8 259) fun _ u10 => some ((2 : Int32), u10) := by
    unfold ce_C_compileMember
    show zbd (ce_X_advance n uc) _ = _
    rw [zbd_e (h.adv hX hit n), hA.zp hX, hX.zpr, zgd_t]
    show zbd (ce_C_addSite n (advU uc (i + 1)) 0 (zI uc 7 7) (zL (advU uc (i + 1)) 7 8)) _ = _
    rw [h.pc, zbd_e e2]
  rw [em]
  have hi1 : i + 1 ≤ xT X := by omega
  by_cases hN : xrk X (i + 1) = 1
  · obtain ⟨w, hw, wr, wc⟩ := hA.nm hX hN
    have wr' : zI ur 6 (i + 1) = nI w := by rw [gI_sI, if_neg (by omega)] at wr; exact wr
    have wc' : zL uc 11 (i + 1) = xPK X w := by rw [advU_L 11 _ (by omega)] at wc; exact wc
    have k1 := hName w hN hw wc'
    have hit2 := hX.nx hi1 (by omega)
    refine rp_lt ((hX.rk hi1 1 (by decide)).mpr hN) ?_
    have a10 : zI (zsI u6 0 10 (nI (i + 1))) 0 10 = nI (i + 1) := by simp [gI_sI]
    have a6 : zI (zsI u6 0 10 (nI (i + 1))) 6 (i + 1) = nI w := by rw [gI_sI, if_neg (by omega), k6 6 _ (by omega)]; exact wr'
    rw [a10, zin_nI (show i + 1 < 1502 by omega) (by decide), zgd_t, zin_nI (show S < 800 by omega) (by decide), zgd_t, zx_nI (show i + 1 < 2 ^ 31 by omega), zx_nI (show S < 2 ^ 31 by omega), a6]
    have k2 := pOk_advR hX k1 hit2
    have hE0 : ∀ s, E s → s < S := h.2.2.2.2.2.2.2.2.1.1
    refine rp_ll (rp_ll ?_)
    rw [show zI (zsI (zsI u6 0 10 (nI (i + 1))) 22 S (nI w)) 0 10 = nI (i + 1) from k1.at, nI_1]
    have em2 := pOk_emit hX k2 (o := 5) (a := S) (b := 0) (w := xpl X i) (c := 13) (x := S) (wc := xpl X i) (a' := nI S) (x' := nI v) (ht cr) E (fun s q => Or.inl q) hP h60 (by omega) (by omega) (fun _ => rfl) (fun q => by rw [(hv q).1]) (fun _ => rfl)
      (fun q => insC_5.mpr ⟨rfl, rfl, by have := k2.S80 q; omega, rfl, hh, rfl⟩)
      (fun _ _ q => ⟨Or.inr rfl, fun z => Nat.lt_irrefl _ (hE0 S z), by rw [gI_sI, if_neg (by omega), gI_sI, if_neg (by omega), gI_sI, if_neg (by omega)]; exact r19S⟩)
    refine rp_l (r_emit n k2.cr (by omega) 5 (nI S) 0 (nI (xpl X i))) (rp_ll (rp_r (by rw [show (13 : Int32) = nI 13 from rfl, zbd_e (c_emit n (xp X) k2.cc (by omega) (o := 13) (w := xpl X i) (by omega) (by omega) (nI v)), show (259 : Int32) = nI 259 from rfl, zbd_e (c_expect_ok n hX em2 (k := 1) (c := 259) (by unfold kRel; omega) hN (by omega))]) ?_))
    refine Hk _ _ (pOk_kind hX (pOk_advC hX em2 hit2) 2) ?_ (by simp [gI_sI]; rfl) ?_ ?_ ?_
    · refine ⟨fun q hq => ⟨if_neg (by omega), if_neg (by omega)⟩, fun k q hq => ?_, fun s hs => ?_, fun q => ?_⟩
      · have hk10 := pRw_10 hq
        rw [gI_sI, if_neg (by omega), emR_rw hq, gI_sI, if_neg (by omega), gI_sI, if_neg (by omega), gI_sI, if_neg (by omega)]; exact r10 k q hk10.1 hk10.2
      · rw [gI_sI, if_neg (by omega), emR_W 19 s (by omega) (by omega), gI_sI, if_neg (by omega), gI_sI, if_neg (by omega), gI_sI, if_neg (by omega)]; exact r19 s hs
      · rw [advU_I 2 3 (by omega), emC_W 2 3 (by omega) (by omega)] at q; exact (hv q).2
    · rw [gI_sI, if_neg (by omega)]; simp [emR, gI_sI]; rfl
    · rw [gI_sI, if_neg (by omega)]; simp [emR, gI_sI]
    · rw [gI_sI, if_neg (by omega), emR_W 20 S (by omega) (by omega), gI_sI, if_neg (by omega), gI_sI, if_neg (by omega), gI_sI, if_neg (by omega), r20S, gI_sI, if_neg (by omega)]; simp [emR, gI_sI]
  · have b0 : bC0 X (xpl X (i + 1)) u5 := ⟨bc5, b22, by rw [c7 7]; exact hA.pc⟩
    obtain ⟨r7, v7, e7, q7, q76⟩ := w0_emit n hX b0 13 (nI v) (nI (xpl X i))
    obtain ⟨v8, e8, q8⟩ := w0_expect n hX q7 (x := 259) (by rw [q76, c7 6]; exact c_ne hX hA (k := 1) (c := 259) (by unfold kRel; omega) hN)
    have hb : ∃ y, rf_faulty n (zsI u6 0 10 (nI (i + 1))) = some ((), y) ∧ bR1 X (xpl X (i + 1)) K y := by
      have ga : zI (zsI u6 0 10 (nI (i + 1))) 0 10 = nI (i + 1) := by simp [gI_sI]
      have gp : rf_place n (zsI u6 0 10 (nI (i + 1))) = some (nI (xpl X (i + 1)), zsI u6 0 10 (nI (i + 1))) := place_of n ga (by omega) (by rw [gI_sI, if_neg (by omega), k6 5 _ (by omega)]; exact ((hX.tk h.1 h.2.1).1 (i + 1) hi1).1.2.2.2.1)
      have gw : zI (zsI u6 0 10 (nI (i + 1))) 0 15 = -1 := by rw [gI_sI, if_neg (by omega), k6 0 15 (by omega)]; exact h.2.2.2.1.1
      refine ⟨zsI (zsI u6 0 10 (nI (i + 1))) 0 15 (nI (xpl X (i + 1))), ?_, ?_⟩
      · unfold rf_faulty
        rw [if_pos gw, zbd_e gp]
        rfl
      · obtain ⟨r, V, F, vw, y0, y1, y2, -⟩ := h.2.2.2.2.2.1
        have hg10 := h.2.2.2.2.2.2.2.2.2
        have hk : ∀ k j, ¬ (k = 0 ∧ (j = 15 ∨ j = 10)) → zI (zsI (zsI u6 0 10 (nI (i + 1))) 0 15 (nI (xpl X (i + 1)))) k j = zI u6 k j := fun k j q => by rw [gI_sI, if_neg (by omega), gI_sI, if_neg (by omega)]
        refine ⟨fPR_I (fPR_I f6 (by unfold pwR; omega)) (by unfold pwR; omega), hX.pl hi1, by simp [gI_sI], ⟨cr, by omega, by rw [hk _ _ (by omega), k6 _ _ (by omega)]; exact h.cr⟩, ⟨C, by have := hg10.2.2.1; omega, by rw [hk _ _ (by omega), k6 _ _ (by omega)]; exact hg10.1⟩, r, V, y2.1, y2.2.1, ?_, by rw [hk _ _ (by omega), k6 _ _ (by omega)]; exact y2.2.2.1⟩
        rw [hk _ _ (by omega), k6 _ _ (by omega)]
        rcases y1 with ⟨z, z1, -⟩ | ⟨z, z1, -⟩
        · exact Or.inl ⟨z, z1⟩
        · exact Or.inr ⟨z, z1⟩
    obtain ⟨y, e9, q9⟩ := hb
    refine rp_lf (fun q => hN ((hX.rk hi1 1 (by decide)).mp q)) (rp_l e9 ?_)
    refine rp_r (by rw [zbd_e e7, zbd_e e8]) (Hw _ _ ⟨_, q9, q8⟩)
theorem p_item (n : Nat) (hn : 2000 ≤ n) {op bR bC K : Nat} (hop : op ≤ 8) (hbR : 5 ≤ bR) (hbC : 6 ≤ bC) (hK : 2260 ≤ K) (hK2 : K < 2480) (H : op < 8 → sSp n (op + 1) bR bC (6 * op + 9) K (rf_expr n) (fun k u => ce_C_compileE n k u (nI 0))) {X : pCx} (hX : xOk X) {i cr cc S C tb e : Nat} {E : Nat → Prop} {M ht : Nat → Nat} {ur uc : zMu} (h : pOk X i i op cr cc S C tb e E M ht ur uc) (c1 : 2 * cc ≤ 3 * i + 1) (c2 : 2 * S + 1 ≤ i) (c3 : 3 * C ≤ i) (hh : 2 ≤ ht cr) (h60 : ht cr ≤ 6 * op + 7) (hk : xrk X i = 91) {kR kC : Nat} (hkR : bR ≤ kR) (hkC : bC ≤ kC) (g : zMu → Option (Unit × zMu)) {k4 : zMu → Option (Unit × zMu)} {G : Int32 → zMu → Option (Int32 × zMu)} {Q : Unit → zMu → Int32 → zMu → Prop}
    (Hk : ∀ vr vc i' cr' cc' S' C' M' ht', pOk X i' i' op (cr' + 1) (cc' + 1) S' C' tb e E M' ht' vr vc → cr < cr' → pDl i cc S C i' (cc' + 1) S' C' 0 → pEx cr S M ht M' ht' ur vr uc vc → ht' (cr' + 1) = ht cr → M' cr' = cc' → ht' cr' = ht cr + 1 → zI vr 0 25 = nI 3 → zI vr 10 cr' = nI 15 → Rp (k4 vr) (G 3 vc) Q) (Hw : ∀ vr vc, pWx X (K + 1) vr vc → Rp (k4 vr) (G 3 vc) Q) :
    Rp (rf_post_J29 n (rf_expr n kR) g k4 ur) (zbd (ce_C_compileItem n (kC + 1) uc) G) Q := by
  have hp := hX.p12
  have hT := hX.T
  have hit0 := h.i
  have hle := h.le
  have hP := hX.pl hit0
  have hit := hX.nx hit0 (by omega)
  unfold rf_post_J29
  refine rp_l (h.place hX n) (rp_l (h.now hX n) (rp_lf (fun q => by have := (hX.rk hit0 46 (by decide)).mp q; omega) ?_))
  rw [ceI_s]
  unfold ce_C_compileItem_b
  show Rp _ (zbd (zbd (ce_C_opens n uc 91) fun _ u3 => zbd (ce_C_compileE n kC u3 0) fun r4 u5 => zbd (ce_C_closes n u5 93) fun _ u7 => zgd (zpr (zR u7 2 1)) (zlet (zR u7 2 1) fun p8 => zbd (ce_P_emit n p8 u7 17 0 (zI uc 7 7)) fun r9 u10 => some ((3 : Int32), u10))) G) _
  rw [zbd_as, h.pc]
  have wrong : ∀ w' xr xc, bR1 X w' K xr → bC1 X w' xc → Rp (zbd (rf_emit n xr 15 0 0 (nI (xpl X i))) fun _ u26 => zlet (zsI u26 0 25 3) fun u27 => k4 u27) (zbd (zgd (zpr (zR xc 2 1)) (zlet (zR xc 2 1) fun p8 => zbd (ce_P_emit n p8 xc 17 0 (nI (xpl X i))) fun r9 u10 => some ((3 : Int32), u10))) G) Q := by
    intro w' xr xc w1 w2
    obtain ⟨v3, e3, q3⟩ := r1_emit n w1 (by omega) 15 0 0 (nI (xpl X i))
    obtain ⟨r8, v5, e5, q5⟩ := w1_emit n hX w2 17 0 (nI (xpl X i))
    rw [bC_zp hX w2.1, hX.zpr, zgd_t]
    exact rp_l e3 (rp_ll (rp_r (by show zbd (ce_P_emit n (xp X) xc 17 0 (nI (xpl X i))) _ = _; rw [zbd_e e5]) (Hw _ _ ⟨w', bR1_set q3 3 (by unfold pwR; omega) (by omega), q5⟩)))
  refine rp_bd (rp_mono (p_opens n hX h (k := 91) (K := K) (by unfold kRel isSg; omega) (by omega) (by omega) (by omega) (by omega)) (fun _ vr _ vc g => ?_))
  rw [zbd_as]
  rcases g with ⟨-, g1, g2, g3, g4⟩ | ⟨w', w1, w2⟩
  · have hi1 := g3.i
    refine rp_bd (rp_mono (H g1 X hX kR kC (i + 1) cr cc S C tb e E M ht _ _ hkR hkC g3 (by omega) (by omega) (by omega) (by omega)) (fun _ yr rc yc g => ?_))
    rw [zbd_as]
    rcases g with ⟨i', cr', cc', S', C', M', ht', kd, k1, k2, ⟨f1, f2, f3, f4, f5⟩, k4', k5, -⟩ | ⟨w', w1, w2⟩
    · have hi' := k1.i
      have hle' := k1.le
      refine rp_bd (rp_mono (p_closes n hX k1 (k := 93) (K := K) (by unfold kRel isSg; omega) (by omega) (by omega) (by omega) (by omega)) (fun _ xr _ xc g => ?_))
      rcases g with ⟨-, g5, g6, g7⟩ | ⟨w', w1, w2⟩
      · rw [g6.zp hX, hX.zpr, zgd_t]
        have em := pOk_emit hX g6 (o := 15) (a := 0) (b := 0) (w := xpl X i) (c := 17) (x := 0) (wc := xpl X i) (a' := 0) (x' := 0) (ht cr) E (fun s q => q) hP (by omega) (by omega) (by omega) (fun _ => rfl) (fun _ => rfl) (fun _ => rfl)
          (fun q => insC_15.mpr ⟨rfl, rfl, by omega, by omega⟩) (fun z1 z2 _ => by omega)
        refine rp_l (r_emit n g6.cr (by omega) 15 0 0 (nI (xpl X i))) (rp_ll (rp_r (by show zbd (ce_P_emit n (xp X) xc (nI 17) 0 (nI (xpl X i))) _ = _; rw [zbd_e (c_emit n (xp X) g6.cc (by omega) (o := 17) (w := xpl X i) (by omega) (by omega) 0)]) (Hk _ _ (i' + 1) cr' cc' S' C' _ _ (pOk_kind hX em 3) k2 ⟨by omega, by omega, by omega, by omega, by omega⟩ ?_ (if_pos rfl) ?_ ((if_neg (by omega)).trans k5) (by simp [gI_sI]; rfl) ?_)))
        · exact pEx_tr (pEx_tr (pEx_tr (pEx_tr (g4.ex cr S M ht) k4' (Nat.le_refl _) (Nat.le_refl _)) (g7.ex cr' S' M' ht') (by omega) f2) (pEx_em (S := S') hp) (by omega) f2) ((pSm_R 25 _).ex (cr' + 1) S' _ _) (by omega) f2
        · show (if cr' = cr' + 1 then cc' + 1 else M' cr') = cc'
          rw [if_neg (by omega), g6.2.2.2.2.2.2.2.1.2.2.2.1]
        · rw [gI_sI, if_neg (by omega)]; simp [emR, gI_sI]; rfl
      · exact wrong w' xr xc w1 w2
    · obtain ⟨v1, e1, q1⟩ := r1_closes n w1 93
      obtain ⟨v2, e2, q2⟩ := w1_closes n hX w2 (x := 93) (by decide)
      exact rp_l e1 (rp_r e2 (wrong w' v1 v2 q1 q2))
  · obtain ⟨r4, v4, e4, q4⟩ := w1_E n hn hX w2 0 kC (by omega) (by omega)
    obtain ⟨k, rfl⟩ : ∃ y, kR = y + 5 := ⟨kR - 5, by omega⟩
    obtain ⟨v1, e1, q1⟩ := r1_closes n w1 93
    obtain ⟨v2, e2, q2⟩ := w1_closes n hX q4 (x := 93) (by decide)
    refine rp_l (r1_expr n k hn w1) (rp_l e1 (rp_r e4 ?_))
    rw [zbd_as]
    exact rp_r e2 (wrong w' v1 v2 q1 q2)
