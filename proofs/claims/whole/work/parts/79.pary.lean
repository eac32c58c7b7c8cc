/-! PARSING, twenty-seventh part: a call whole; ( E ); - ONE -/
theorem p_call (n : Nat) (hn : 2000 ≤ n) {op bR bC K : Nat} (hop : op ≤ 8) (hbR : 5 ≤ bR) (hbC : 6 ≤ bC) (hK : 2260 ≤ K) (hK2 : K < 2480) (H : op < 8 → sSp n (op + 1) bR bC (6 * op + 9) K (rf_expr n) (fun k u => ce_C_compileE n k u (nI 0))) {X : pCx} (hX : xOk X) {i0 i cr0 cc0 S0 C0 tb e : Nat} {E : Nat → Prop} {M0 ht0 : Nat → Nat} {ur0 uc0 ur uc : zMu} (c1 : 2 * cc0 ≤ 3 * i0 + 2) (c2 : 2 * S0 ≤ i0) (c3 : 3 * C0 ≤ i0) (hh : 1 ≤ ht0 cr0 ∧ ht0 cr0 ≤ 6 * op + 6) {w P kR kC : Nat} (hw : w < xN X) (hP : P ≤ 1500) (hkR : bR ≤ kR) (hkC : bC ≤ kC) (h : pOk X i i op cr0 cc0 S0 C0 tb e E M0 ht0 ur uc) (hx : pSm ur0 ur uc0 uc) (hi : i0 + 1 = i) :
    Rp (rf_callOf n (kR + 1) ur (nI w) (nI P)) (zbd (ce_C_compileArguments n (kC + 1) uc) (cG n (xPK X w) (nI P))) (fun _ vr rc vc => pPo X i0 op cr0 cc0 S0 C0 tb e E M0 ht0 (ht0 cr0) ur0 uc0 vr rc vc ∨ pWx X (K + 1) vr vc) := by
  have hT := hX.T
  have hit := h.i
  have hle := h.le
  rw [rfC_s, ceA_s]
  unfold rf_callOf_b ce_C_compileArguments_b
  rw [zbd_as]
  refine rp_bd (rp_mono (p_opens n hX h (k := 40) (K := K) (by unfold kRel isSg; omega) (by omega) (by omega) (by omega) (by omega)) (fun _ vr _ vc g => ?_))
  obtain ⟨m, hm⟩ : ∃ y, n = y + 1 := ⟨n - 1, by omega⟩
  have k41 : kRel 41 41 := by unfold kRel isSg; omega
  rcases g with ⟨-, g1, g2, g3, g4⟩ | ⟨w', w1, w2⟩
  · have hi1 := g3.i
    have hA : pAg X i0 (op + 1) cr0 cc0 S0 C0 tb e E M0 ht0 (ht0 cr0) ur0 uc0 0 (i + 1) vr vc := ⟨cr0, cc0, S0, C0, M0, ht0, g3, Nat.le_refl _, ⟨by omega, by omega, by omega, by omega, by omega⟩, (pSm_tr hx g4).ex _ _ _ _, rfl⟩
    refine rp_l (g3.nw n) (rp_lt rfl (rp_l (g3.now hX n) ?_))
    by_cases hk : xrk X (i + 1) = 41
    · refine rp_lt ((hX.rk hi1 41 (by decide)).mpr hk) ?_
      rw [if_pos (show zI vc 7 6 = 41 from by rw [g3.kd]; exact (hX.ck hi1 k41).mpr hk), show ce_C_compileArguments_L26 n (ce_C_compileE n kC) n vc 0 0 = ce_C_compileArguments_L26 n (ce_C_compileE n kC) (m + 1) vc 0 0 by rw [← hm], ce_C_compileArguments_L26, if_neg (by decide), if_pos rfl, zbd_as]
      exact p_callEnd n hX c1 c3 hw hP (c := 0) (by omega) (by omega) hK (by omega) _ hA
    · refine rp_lf (fun q => hk ((hX.rk hi1 41 (by decide)).mp q)) ?_
      rw [if_neg (show ¬ zI vc 7 6 = 41 from c_ne hX g3 k41 hk), show ce_C_compileArguments_L26 n (ce_C_compileE n kC) n vc 0 1 = ce_C_compileArguments_L26 n (ce_C_compileE n kC) (m + 1) vc 0 1 by rw [← hm], ce_C_compileArguments_L26, if_neg (by decide), if_neg (by decide), if_neg (by decide), zbd_as]
      refine rp_bd (rp_mono (H g1 X hX kR kC (i + 1) cr0 cc0 S0 C0 tb e E M0 ht0 _ _ hkR hkC g3 (by omega) (by omega) (by omega) (by omega)) (fun _ yr rc yc g => ?_))
      rw [zbd_as]
      rcases g with ⟨i', cr', cc', S', C', M', ht', kd, k1, k2, ⟨f1, f2, f3, f4, f5⟩, k4', k5, -⟩ | ⟨w', w1, w2⟩
      · have hi' := k1.i
        exact p_argsL n g1 hbR hbC hK hK2 (H g1) hX c1 c2 c3 hh hw hP hkR hkC (xT X - i') i' n m 1 yr yc rfl (by omega) (by omega) (by omega) (by omega) ⟨cr', cc', S', C', M', ht', k1, by omega, ⟨by omega, by omega, by omega, by omega, by omega⟩, pEx_tr ((pSm_tr hx g4).ex cr0 S0 M0 ht0) k4' (by omega) (by omega), by omega⟩
      · obtain ⟨v1, e1, g1⟩ := r1_J76 n (rf_expr n kR) w1 (by omega) (nI w) (nI P) (nI 1)
        obtain ⟨m2, hm2⟩ : ∃ y, m = y + 1 := ⟨m - 1, by omega⟩
        obtain ⟨v2, e2, g2⟩ := w1_L26z n m2 (ce_C_compileE n kC) hX w2 (nI 1)
        obtain ⟨v3, e3, g3⟩ := w1_cG n hX g2 (xPK X w) (nI P) (nI 1)
        rw [show rf_callOf_L30 n (rf_expr n kR) n yr (nI w) (nI P) 1 = rf_callOf_L30 n (rf_expr n kR) (m + 1) yr (nI w) (nI P) 1 by rw [← hm], rf_callOf_L30, hm2]
        exact rp_l (r1_isWrong n w1) (rp_lf (by decide) (rp_r (w1_takes n w2 (by decide)) (rp_rl (rp_r e2 (rp_eq e1 e3 (Or.inr ⟨w', g1, g3⟩))))))
  · obtain ⟨v1, e1, g1⟩ := r1_J76 n (rf_expr n kR) w1 (by omega) (nI w) (nI P) 0
    obtain ⟨m2, hm2⟩ : ∃ y, m = y + 1 := ⟨m - 1, by omega⟩
    obtain ⟨r4, v4, e4, g4⟩ := w1_E n hn hX w2 0 kC (by omega) (by omega)
    obtain ⟨v2, e2, g2⟩ := w1_L26z n m2 (ce_C_compileE n kC) hX g4 (nI 1)
    obtain ⟨v3, e3, g3⟩ := w1_cG n hX g2 (xPK X w) (nI P) (nI 1)
    have e5 : ce_C_compileArguments_L26 n (ce_C_compileE n kC) n vc 0 1 = some (nI 1, v2) := by
      rw [show ce_C_compileArguments_L26 n (ce_C_compileE n kC) n vc 0 1 = ce_C_compileArguments_L26 n (ce_C_compileE n kC) (m + 1) vc 0 1 by rw [← hm], ce_C_compileArguments_L26, if_neg (by decide), if_neg (by decide), if_neg (by decide), show ce_C_compileE n kC vc 0 = some (r4, v4) from e4, zbd_e rfl, zbd_e (w1_takes n g4 (by decide)), hm2]
      exact e2
    rw [if_neg (show ¬ zI vc 7 6 = 41 from by rw [w2.2.2.2.2.1]; decide)]
    exact rp_l (r1_isWrong n w1) (rp_lf (by decide) (rp_r e5 (rp_eq e1 e3 (Or.inr ⟨w', g1, g3⟩))))
theorem p_paren (n : Nat) (hn : 2000 ≤ n) {op bR bC K : Nat} (hbR : 5 ≤ bR) (hbC : 6 ≤ bC) (hK : 2260 ≤ K) (hK2 : K < 2480) (H : op < 8 → sSp n (op + 1) bR bC (6 * op + 9) K (rf_expr n) (fun k u => ce_C_compileE n k u (nI 0))) {X : pCx} (hX : xOk X) {i cr cc S C tb e : Nat} {E : Nat → Prop} {M ht : Nat → Nat} {ur uc : zMu} (c1 : 2 * cc ≤ 3 * i + 2) (c2 : 2 * S ≤ i) (c3 : 3 * C ≤ i) (hh : 1 ≤ ht cr ∧ ht cr ≤ 6 * op + 6) {kR kC : Nat} (hkR : bR ≤ kR) (hkC : bC ≤ kC) (h : pOk X i i op cr cc S C tb e E M ht ur uc) :
    Rp (zbd (rf_opens n ur 40) fun _ u30 => zbd (rf_expr n kR u30) fun _ u32 => zbd (rf_closes n u32 41) fun _ u34 => zlet (zsI u34 0 25 0) fun u35 => some ((), u35)) (zbd (ce_C_opens n uc 40) fun _ u3 => zbd (ce_C_compileE n kC u3 0) fun r4 u5 => zbd (ce_C_closes n u5 41) fun _ u7 => some ((0 : Int32), u7)) (fun _ vr rc vc => pPo X i op cr cc S C tb e E M ht (ht cr) ur uc vr rc vc ∨ pWx X (K + 1) vr vc) := by
  have hT := hX.T
  have hit := h.i
  have hle := h.le
  refine rp_bd (rp_mono (p_opens n hX h (k := 40) (K := K) (by unfold kRel isSg; omega) (by omega) (by omega) (by omega) (by omega)) (fun _ vr _ vc g => ?_))
  rcases g with ⟨-, g1, g2, g3, g4⟩ | ⟨w', w1, w2⟩
  · have hi1 := g3.i
    refine rp_bd (rp_mono (H g1 X hX kR kC (i + 1) cr cc S C tb e E M ht _ _ hkR hkC g3 (by omega) (by omega) (by omega) (by omega)) (fun _ yr rc yc g => ?_))
    rcases g with ⟨i', cr', cc', S', C', M', ht', kd, k1, k2, ⟨f1, f2, f3, f4, f5⟩, k4', k5, -⟩ | ⟨w', w1, w2⟩
    · have hi' := k1.i
      have hle' := k1.le
      refine rp_bd (rp_mono (p_closes n hX k1 (k := 41) (K := K) (by unfold kRel isSg; omega) (by omega) (by omega) (by omega) (by omega)) (fun _ xr _ xc g => ?_))
      refine rp_ll (rp_end ?_)
      rcases g with ⟨-, g5, g6, g7⟩ | ⟨w', w1, w2⟩
      · exact Or.inl ⟨i' + 1, cr', cc', S', C', M', ht', 0, pOk_kind hX g6 0, k2, ⟨by omega, by omega, by omega, by omega, by omega⟩, pEx_tr (pEx_tr (g4.ex cr S M ht) k4' (Nat.le_refl _) (Nat.le_refl _)) ((pSm_tr g7 (pSm_R 25 _)).ex cr' S' M' ht') (by omega) f2, k5, by simp [gI_sI]; rfl, rfl, by omega, fun q => absurd rfl q⟩
      · exact Or.inr ⟨w', bR1_K (bR1_set w1 0 (by unfold pwR; omega) (by omega)) (by omega), w2⟩
    · obtain ⟨v1, e1, q1⟩ := r1_closes n w1 41
      obtain ⟨v2, e2, q2⟩ := w1_closes n hX w2 (x := 41) (by decide)
      exact rp_l e1 (rp_r e2 (rp_ll (rp_end (Or.inr ⟨w', bR1_K (bR1_set q1 0 (by unfold pwR; omega) (by omega)) (by omega), q2⟩))))
  · obtain ⟨r4, v4, e4, q4⟩ := w1_E n hn hX w2 0 kC (by omega) (by omega)
    obtain ⟨v1, e1, q1⟩ := r1_closes n w1 41
    obtain ⟨v2, e2, q2⟩ := w1_closes n hX q4 (x := 41) (by decide)
    obtain ⟨k, rfl⟩ : ∃ y, kR = y + 5 := ⟨kR - 5, by omega⟩
    exact rp_l (r1_expr n k hn w1) (rp_l e1 (rp_r e4 (rp_r e2 (rp_ll (rp_end (Or.inr ⟨w', bR1_K (bR1_set q1 0 (by unfold pwR; omega) (by omega)) (by omega), q2⟩))))))
theorem p_neg (n : Nat) {op bR bC K : Nat} (hbR : 1 ≤ bR) (hbC : 1 ≤ bC) (hK : 2260 ≤ K) (hK2 : K < 2480) (H : op < 8 → sSp n (op + 1) bR bC (6 * op + 12) K (rf_one n) (ce_C_compileOne n)) {X : pCx} (hX : xOk X) {i cr cc S C tb e : Nat} {E : Nat → Prop} {M ht : Nat → Nat} {ur uc : zMu} (c1 : 2 * cc ≤ 3 * i + 2) (c2 : 2 * S ≤ i) (c3 : 3 * C ≤ i) (hh : 1 ≤ ht cr ∧ ht cr ≤ 6 * op + 6) {kR kC P : Nat} (hP : P ≤ 1500) (hkR : bR ≤ kR) (hkC : bC ≤ kC) (h : pOk X i i op cr cc S C tb e E M ht ur uc) (hPc : zI uc 7 7 = nI P) :
    Rp (zbd (rf_opens n ur 45) fun _ u21 => zbd (rf_one n kR u21) fun _ u23 => zlet (zsI u23 0 26 ((zI u23 0 26) - 1)) fun u24 => zbd (rf_emit n u24 9 0 0 (nI P)) fun _ u26 => zlet (zsI u26 0 25 0) fun u27 => some ((), u27)) (zbd (ce_C_compileNegated n (kC + 1) uc) fun _ u10 => some ((0 : Int32), u10)) (fun _ vr rc vc => pPo X i op cr cc S C tb e E M ht (ht cr) ur uc vr rc vc ∨ pWx X (K + 1) vr vc) := by
  have hp := hX.p12
  have hT := hX.T
  have hit := h.i
  have hle := h.le
  have hop := h.op8
  rw [ceN_s]
  unfold ce_C_compileNegated_b
  show Rp _ (zbd (zbd (ce_C_opens n uc 45) fun _ u3 => zbd (ce_C_compileOne n kC u3) fun r4 u5 => zlet (zsI u5 2 5 ((zI u5 2 5) - 1)) fun u6 => zgd (zpr (zR u6 2 1)) (zlet (zR u6 2 1) fun p7 => zbd (ce_P_emit n p7 u6 6 0 (zI uc 7 7)) fun r8 u9 => some ((), u9))) fun _ u10 => some ((0 : Int32), u10)) _
  rw [zbd_as, hPc]
  refine rp_bd (rp_mono (p_opens n hX h (k := 45) (K := K) (by unfold kRel isSg; omega) (by omega) (by omega) (by omega) (by omega)) (fun _ vr _ vc g => ?_))
  rw [zbd_as]
  have wrong : ∀ w' yr yc (r : Int32), bR1 X w' K yr → bC1 X w' yc → Rp (zlet (zsI yr 0 26 ((zI yr 0 26) - 1)) fun u24 => zbd (rf_emit n u24 9 0 0 (nI P)) fun _ u26 => zlet (zsI u26 0 25 0) fun u27 => some ((), u27)) (zbd (zlet (zsI yc 2 5 ((zI yc 2 5) - 1)) fun u6 => zgd (zpr (zR u6 2 1)) (zlet (zR u6 2 1) fun p7 => zbd (ce_P_emit n p7 u6 6 0 (nI P)) fun r8 u9 => some ((), u9))) fun _ u10 => some ((0 : Int32), u10)) (fun _ vr rc vc => pPo X i op cr cc S C tb e E M ht (ht cr) ur uc vr rc vc ∨ pWx X (K + 1) vr vc) := by
    intro w' yr yc r w1 w2
    have w1' : bR1 X w' K (zsI yr 0 26 ((zI yr 0 26) - 1)) := bR1_set w1 _ (by unfold pwR; omega) (by omega)
    have w2' := w1_op n hX w2 ((zI yc 2 5) - 1)
    obtain ⟨v1, e1, q1⟩ := r1_emit n w1' (by omega) 9 0 0 (nI P)
    obtain ⟨r8, v2, e2, q2⟩ := w1_emit n hX w2' 6 0 (nI P)
    refine rp_ll (rp_l e1 (rp_ll ?_))
    show Rp _ (zbd (zgd (zpr (zR (zsI yc 2 5 ((zI yc 2 5) - 1)) 2 1)) (zbd (ce_P_emit n (zR (zsI yc 2 5 ((zI yc 2 5) - 1)) 2 1) (zsI yc 2 5 ((zI yc 2 5) - 1)) 6 0 (nI P)) fun r8 u9 => some ((), u9))) fun _ u10 => some ((0 : Int32), u10)) _
    rw [bC_zp hX w2'.1, hX.zpr, zgd_t, zbd_e e2]
    exact rp_r rfl (rp_end (Or.inr ⟨w', bR1_set q1 0 (by unfold pwR; omega) (by omega), q2⟩))
  rcases g with ⟨-, g1, g2, g3, g4⟩ | ⟨w', w1, w2⟩
  · have hi1 := g3.i
    refine rp_bd (rp_mono (H g1 X hX kR kC (i + 1) cr cc S C tb e E M ht _ _ hkR hkC g3 (by omega) (by omega) (by omega) (by omega)) (fun _ yr rc yc g => ?_))
    rcases g with ⟨i', cr', cc', S', C', M', ht', kd, k1, k2, ⟨f1, f2, f3, f4, f5⟩, k4', k5, -⟩ | ⟨w', w1, w2⟩
    · have hi' := k1.i
      have hle' := k1.le
      have k0 := pOk_op hX k1 (op' := op) hop
      refine rp_ll ?_
      show Rp _ (zbd (zgd (zpr (zR (zsI yc 2 5 ((zI yc 2 5) - 1)) 2 1)) (zbd (ce_P_emit n (zR (zsI yc 2 5 ((zI yc 2 5) - 1)) 2 1) (zsI yc 2 5 ((zI yc 2 5) - 1)) 6 0 (nI P)) fun r8 u9 => some ((), u9))) fun _ u10 => some ((0 : Int32), u10)) _
      rw [k1.2.2.2.2.1.2.1, k1.2.2.2.2.1.2.2, nI_pred, k0.zp hX, hX.zpr, zgd_t, show (6 : Int32) = nI 6 from rfl, zbd_e (c_emit n (xp X) k0.cc (by omega) (o := 6) (w := P) (by omega) (by omega) 0)]
      have em := pOk_emit hX k0 (o := 9) (a := 0) (b := 0) (w := P) (c := 6) (x := 0) (wc := P) (a' := 0) (x' := 0) (ht cr + 1) E (fun s q => q) hP (by omega) (by omega) (by omega) (fun _ => rfl) (fun _ => rfl) (fun _ => rfl)
        (fun q => insC_9.mpr ⟨rfl, rfl, by omega, by omega⟩) (fun z1 z2 _ => by omega)
      refine rp_l (r_emit n k0.cr (by omega) 9 0 0 (nI P)) (rp_ll (rp_r rfl (rp_end (Or.inl ⟨i', cr' + 1, cc' + 1, S', C', _, _, 0, pOk_kind hX em 0, by omega, ⟨by omega, by omega, by omega, by omega, by omega⟩, ?_, if_pos rfl, by simp [gI_sI]; rfl, rfl, by omega, fun q => absurd rfl q⟩))))
      exact pEx_tr (pEx_tr (pEx_tr (pEx_tr (g4.ex cr S M ht) k4' (Nat.le_refl _) (Nat.le_refl _)) ((pSm_tr (pSm_R 26 _) (pSm_op _)).ex cr' S' M' ht') (by omega) f2) (pEx_em (S := S') hp) (by omega) f2) ((pSm_R 25 _).ex (cr' + 1) S' _ _) (by omega) f2
    · exact wrong w' yr yc rc w1 w2
  · obtain ⟨k, rfl⟩ : ∃ y, kR = y + 1 := ⟨kR - 1, by omega⟩
    obtain ⟨k2, rfl⟩ : ∃ y, kC = y + 1 := ⟨kC - 1, by omega⟩
    obtain ⟨r4, v4, e4, q4⟩ := w1_one n k2 hX w2
    exact rp_l (r1_one n k w1) (rp_r e4 (wrong w' vr v4 r4 w1 q4))
