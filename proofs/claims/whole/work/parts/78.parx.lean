/-! PARSING, twenty-sixth part: a call -/
def cG (n : Nat) (x : Int64) (P : Int32) (r6 : Int32) (u7 : zMu) : Option (Int32 × zMu) := zgd (zpr (zR u7 2 1)) (zbd (ce_P_emit n (zR u7 2 1) u7 20 0 P) fun r9 u10 => zbd (ce_C_keepCall n u10 x r6 r9) fun _ u12 => some (0, u12))
theorem w1_cG (n : Nat) {X : pCx} {u : zMu} {w : Nat} (hX : xOk X) (h : bC1 X w u) (x : Int64) (P r : Int32) : ∃ v, cG n x P r u = some (0, v) ∧ bC1 X w v := by
  obtain ⟨r9, v1, e1, h1⟩ := w1_emit n hX h 20 0 P
  obtain ⟨v2, e2, h2⟩ := w1_keepCall n hX h1 x r r9
  refine ⟨v2, ?_, h2⟩
  unfold cG
  rw [bC_zp hX h.1, hX.zpr, zgd_t, zbd_e e1, zbd_e e2]
theorem r_J76 (n : Nat) (f : zMu → Option (Unit × zMu)) {u u2 : zMu} {C cr : Nat} (e : rf_closes n u 41 = some ((), u2)) (hC : zI u2 0 44 = nI C) (hc : C < 800) (hcr : zI u2 0 24 = nI cr) (x1 x2 x3 : Int32) : rf_callOf_J76 n f u x1 x2 x3 = zbd (rf_emit n (caR u2 C (nI cr) x1 x3 x2) 17 0 x3 x2) fun _ u9 => zlet (zsI u9 0 25 0) fun u10 => some ((), u10) := by
  have hz : zin (nI C) 800 = true := zin_nI hc (by decide)
  have hx : zx (nI C) = C := zx_nI (by omega)
  unfold rf_callOf_J76 caR
  rw [zbd_e e]
  simp [zlet, zgd, gI_sI, hC, hz, hx, hcr, nI_1]
theorem r1_J76 (n : Nat) (f : zMu → Option (Unit × zMu)) {X : pCx} {w K : Nat} {u : zMu} (h : bR1 X w K u) (hK : K < 2490) (x1 x2 x3 : Int32) : ∃ v, rf_callOf_J76 n f u x1 x2 x3 = some ((), v) ∧ bR1 X w (K + 1) v := by
  obtain ⟨u2, e, h'⟩ := r1_closes n h 41
  obtain ⟨h1, h2, h3, ⟨cr, c1, c2⟩, ⟨C, d1, d2⟩, r, V, r1, r2, r3, r4⟩ := id h'
  rw [r_J76 n f e d2 (by omega) c2]
  have hb : bR1 X w (K + 1) (caR u2 C (nI cr) x1 x3 x2) := by
    refine ⟨fPR_I (fPR_I (fPR_I (fPR_I (fPR_I h1 (by unfold pwR; omega)) (by unfold pwR; omega)) (by unfold pwR; omega)) (by unfold pwR; omega)) (by unfold pwR; omega), h2, ?_, ⟨cr, by omega, ?_⟩, ⟨C + 1, by omega, by simp [caR, gI_sI]⟩, r, V, r1, r2, ?_, ?_⟩
    · rw [caR_W _ _ (by omega) (by omega)]; exact h3
    · rw [caR_W _ _ (by omega) (by omega)]; exact c2
    · rw [caR_W _ _ (by omega) (by omega)]; exact r3
    · rw [caR_W _ _ (by omega) (by omega)]; exact r4
  have cr2 : zI (caR u2 C (nI cr) x1 x3 x2) 0 24 = nI cr := by rw [caR_W _ _ (by omega) (by omega)]; exact c2
  rw [zbd_e (r_emit n cr2 (by omega) 17 0 x3 x2)]
  refine ⟨_, rfl, ?_⟩
  refine bR1_set ?_ 0 (by unfold pwR; omega) (by omega)
  obtain ⟨g1, g2, g3, -, ⟨C', d3, d4⟩, r', V', r5, r6, r7, r8⟩ := hb
  refine ⟨fPR_em g1, g2, ?_, ⟨cr + 1, by omega, rfl⟩, ⟨C', d3, ?_⟩, r', V', r5, r6, ?_, ?_⟩
  · rw [emR_W _ _ (by omega) (by omega)]; exact g3
  · rw [emR_W _ _ (by omega) (by omega)]; exact d4
  · rw [emR_W _ _ (by omega) (by omega)]; exact r7
  · rw [emR_W _ _ (by omega) (by omega)]; exact r8
/-- the state among the arguments of a call: c of them are behind -/
def pAg (X : pCx) (i0 op cr0 cc0 S0 C0 tb e : Nat) (E : Nat → Prop) (M0 ht0 : Nat → Nat) (h0 : Nat) (ur0 uc0 : zMu) (c i : Nat) (ur uc : zMu) : Prop :=
  ∃ cr cc S C M ht, pOk X i i op cr cc S C tb e E M ht ur uc ∧ cr0 ≤ cr ∧ (i0 + 2 ≤ i ∧ S0 ≤ S ∧ 2 * cc + 6 + 3 * i0 ≤ 2 * cc0 + 3 * i ∧ 2 * S + 2 + i0 ≤ 2 * S0 + i ∧ 3 * C + 2 + i0 ≤ 3 * C0 + i) ∧ pEx cr0 S0 M0 ht0 M ht ur0 ur uc0 uc ∧ ht cr = h0 + c
theorem p_callEnd (n : Nat) {X : pCx} (hX : xOk X) {i0 op cr0 cc0 S0 C0 tb e : Nat} {E : Nat → Prop} {M0 ht0 : Nat → Nat} {h0 : Nat} {ur0 uc0 : zMu} (c1 : 2 * cc0 ≤ 3 * i0 + 2) (c3 : 3 * C0 ≤ i0) {w P c i K : Nat} (hw : w < xN X) (hP : P ≤ 1500) (hc : c ≤ 4) (hh : 1 ≤ h0 ∧ h0 ≤ 55) (hK : 2260 ≤ K) (hK2 : K < 2490) {ur uc : zMu} (f : zMu → Option (Unit × zMu)) (hA : pAg X i0 (op + 1) cr0 cc0 S0 C0 tb e E M0 ht0 h0 ur0 uc0 c i ur uc) :
    Rp (rf_callOf_J76 n f ur (nI w) (nI P) (nI c)) (zbd (ce_C_closes n uc 41) fun _ u3 => cG n (xPK X w) (nI P) (nI c) u3) (fun _ vr rc vc => pPo X i0 op cr0 cc0 S0 C0 tb e E M0 ht0 h0 ur0 uc0 vr rc vc ∨ pWx X (K + 1) vr vc) := by
  obtain ⟨cr, cc, S, C, M, ht, h, a1, ⟨d1, d2, d3, d4, d5⟩, a3, a4⟩ := hA
  have hp := hX.p12
  have hT := hX.T
  have hi := h.i
  have hle := h.le
  obtain ⟨_, vr, _, vc, e1, e2, post⟩ := p_closes n hX h (k := 41) (K := K) (by unfold kRel isSg; omega) (by omega) (by omega) (by omega) (by omega)
  have e1' : rf_closes n ur 41 = some ((), vr) := e1
  refine rp_r e2 ?_
  rcases post with ⟨g1, g2, g3, g4⟩ | ⟨w', w1, w2⟩
  · rw [r_J76 n f e1' g3.2.2.2.2.2.2.2.2.2.1 (by omega) g3.cr]
    unfold cG
    rw [g3.zp hX, hX.zpr, zgd_t]
    have cr2 : zI (caR vr C (nI cr) (nI w) (nI c) (nI P)) 0 24 = nI cr := by rw [caR_W _ _ (by omega) (by omega)]; exact g3.cr
    refine rp_l (r_emit n cr2 (by omega) 17 0 (nI c) (nI P)) (rp_ll (rp_r (c_emit n (xp X) g3.cc (by omega) (o := 20) (w := P) (by omega) (by omega) 0) ?_))
    have hkc : ce_C_keepCall n (emC vc (xp X) cc (nI 20) 0 (nI P)) (xPK X w) (nI c) (nI cc) = some ((), caC (emC vc (xp X) cc (nI 20) 0 (nI P)) C (xPK X w) (nI c) (nI cc)) := by
      have b8 : zI (emC vc (xp X) cc (nI 20) 0 (nI P)) 2 12 = nI C := by rw [emC_W _ _ (by omega) (by omega)]; exact g3.2.2.2.2.2.2.2.2.2.2.1
      have hz : zin (nI C) 500 = true := zin_nI (by omega) (by decide)
      have hx : zx (nI C) = C := zx_nI (by omega)
      unfold ce_C_keepCall caC
      rw [b8, if_pos (show nI C < 500 from nI_lt (b := 500) (by omega) (by decide))]
      simp [zlet, zgd, gI_sI, gI_sL, b8, hz, hx, nI_1]
    refine rp_r hkc (rp_end (Or.inl ?_))
    have em := pOk_kind hX (pOk_call hX g3 hw hc hP (by omega) (by omega) (by omega)) 0
    refine ⟨i + 1, cr + 1, cc + 1, S, C + 1, _, _, 0, em, by omega, ⟨by omega, by omega, by omega, by omega, by omega⟩, ?_, (if_pos rfl).trans (by omega), by simp [gI_sI]; rfl, rfl, by omega, fun q => absurd rfl q⟩
    have x1 : pEx cr S M ht (fun r => if r = cr + 1 then cc + 1 else M r) (fun r => if r = cr + 1 then ht cr + 1 - c else ht r) vr (emR (caR vr C (nI cr) (nI w) (nI c) (nI P)) cr (nI 17) (nI 0) (nI c) (nI P)) vc (caC (emC vc (xp X) cc (nI 20) (nI 0) (nI P)) C (xPK X w) (nI c) (nI cc)) :=
      ⟨fun q hq => ⟨if_neg (by omega), if_neg (by omega)⟩, fun k q hq => by rw [emR_rw hq, caR_W _ _ (by have := pRw_10 hq; omega) (by have := pRw_10 hq; omega)], fun s _ => by rw [emR_W 19 s (by omega) (by omega), caR_W _ _ (by omega) (by omega)], fun q => by rw [caC_W 2 3 (by omega) (by omega), emC_W 2 3 (by omega) (by omega)] at q; exact q⟩
    exact pEx_tr (pEx_tr (pEx_tr a3 (g4.ex cr S M ht) a1 d2) x1 (by omega) (by omega)) ((pSm_R 25 _).ex (cr + 1) S _ _) (by omega) (by omega)
  · have e3 : ∃ v, rf_callOf_J76 n f ur (nI w) (nI P) (nI c) = some ((), v) ∧ bR1 X w' (K + 1) v := by
      obtain ⟨h1, h2, h3, ⟨crx, c1, c2⟩, ⟨Cx, d1, d2⟩, r, V, r1, r2, r3, r4⟩ := id w1
      rw [r_J76 n f e1' d2 (by omega) c2]
      have hb : bR1 X w' (K + 1) (caR vr Cx (nI crx) (nI w) (nI c) (nI P)) := by
        refine ⟨fPR_I (fPR_I (fPR_I (fPR_I (fPR_I h1 (by unfold pwR; omega)) (by unfold pwR; omega)) (by unfold pwR; omega)) (by unfold pwR; omega)) (by unfold pwR; omega), h2, ?_, ⟨crx, by omega, ?_⟩, ⟨Cx + 1, by omega, by simp [caR, gI_sI]⟩, r, V, r1, r2, ?_, ?_⟩
        · rw [caR_W _ _ (by omega) (by omega)]; exact h3
        · rw [caR_W _ _ (by omega) (by omega)]; exact c2
        · rw [caR_W _ _ (by omega) (by omega)]; exact r3
        · rw [caR_W _ _ (by omega) (by omega)]; exact r4
      have cr2 : zI (caR vr Cx (nI crx) (nI w) (nI c) (nI P)) 0 24 = nI crx := by rw [caR_W _ _ (by omega) (by omega)]; exact c2
      rw [zbd_e (r_emit n cr2 (by omega) 17 0 (nI c) (nI P))]
      refine ⟨_, rfl, ?_⟩
      refine bR1_set ?_ 0 (by unfold pwR; omega) (by omega)
      obtain ⟨g1, g2, g3, -, ⟨C', d3, d4⟩, r', V', r5, r6, r7, r8⟩ := hb
      refine ⟨fPR_em g1, g2, ?_, ⟨crx + 1, by omega, rfl⟩, ⟨C', d3, ?_⟩, r', V', r5, r6, ?_, ?_⟩
      · rw [emR_W _ _ (by omega) (by omega)]; exact g3
      · rw [emR_W _ _ (by omega) (by omega)]; exact d4
      · rw [emR_W _ _ (by omega) (by omega)]; exact r7
      · rw [emR_W _ _ (by omega) (by omega)]; exact r8
    obtain ⟨v, e3, h3⟩ := e3
    obtain ⟨v2, e4, h4⟩ := w1_cG n hX w2 (xPK X w) (nI P) (nI c)
    exact rp_eq e3 e4 (Or.inr ⟨w', h3, h4⟩)
theorem w1_L26z (n m : Nat) (f : zMu → Int32 → Option (Int32 × zMu)) {X : pCx} {u : zMu} {w : Nat} (hX : xOk X) (h : bC1 X w u) (x1 : Int32) : ∃ v, ce_C_compileArguments_L26 n f (m + 1) u x1 0 = some (x1, v) ∧ bC1 X w v := by
  obtain ⟨v, e, hv⟩ := w1_closes n hX h (x := 41) (by decide)
  refine ⟨v, ?_, hv⟩
  rw [ce_C_compileArguments_L26]
  by_cases g : 4 < x1
  · rw [if_pos g, zbd_e e]
  · rw [if_neg g, if_pos rfl, zbd_e e]
theorem p_argsL (n : Nat) {op bR bC K : Nat} (hop : op < 8) (hbR : 5 ≤ bR) (hbC : 6 ≤ bC) (hK : 2260 ≤ K) (hK2 : K < 2480) (H : sSp n (op + 1) bR bC (6 * op + 9) K (rf_expr n) (fun k u => ce_C_compileE n k u (nI 0))) {X : pCx} (hX : xOk X) {i0 cr0 cc0 S0 C0 tb e : Nat} {E : Nat → Prop} {M0 ht0 : Nat → Nat} {h0 : Nat} {ur0 uc0 : zMu} (c1 : 2 * cc0 ≤ 3 * i0 + 2) (c2 : 2 * S0 ≤ i0) (c3 : 3 * C0 ≤ i0) (hh : 1 ≤ h0 ∧ h0 ≤ 6 * op + 6) {w P kR kC : Nat} (hw : w < xN X) (hP : P ≤ 1500) (hkR : bR ≤ kR) (hkC : bC ≤ kC) :
    ∀ d i m m' c ur uc, xT X - i = d → d < m → d + 1 < m' → 1 ≤ c → c ≤ 4 → pAg X i0 (op + 1) cr0 cc0 S0 C0 tb e E M0 ht0 h0 ur0 uc0 c i ur uc →
      Rp (rf_callOf_L30 n (rf_expr n kR) m ur (nI w) (nI P) (nI c)) (zbd (ce_C_takes n uc 44) fun r12 u13 => zbd (ce_C_compileArguments_L26 n (ce_C_compileE n kC) m' u13 (nI c) r12) (cG n (xPK X w) (nI P))) (fun _ vr rc vc => pPo X i0 op cr0 cc0 S0 C0 tb e E M0 ht0 h0 ur0 uc0 vr rc vc ∨ pWx X (K + 1) vr vc) := by
  intro d
  induction d using Nat.strongRecOn with
  | ind d ih =>
    intro i m m' c ur uc hd hm hm' hc1 hc4 hA
    obtain ⟨m, rfl⟩ : ∃ y, m = y + 1 := ⟨m - 1, by omega⟩
    obtain ⟨m', rfl⟩ : ∃ y, m' = y + 2 := ⟨m' - 2, by omega⟩
    obtain ⟨cr, cc, S, C, M, ht, h, a1, ⟨d1, d2, d3, d4, d5⟩, a3, a4⟩ := id hA
    have hT := hX.T
    have hi := h.i
    have hle := h.le
    rw [rf_callOf_L30]
    refine rp_l (h.nw n) (rp_lt rfl (rp_l (h.now hX n) ?_))
    have kr := hX.kr hi
    have k44 : kRel 44 44 := by unfold kRel isSg; omega
    by_cases hk : xrk X i = 44
    · have hit := hX.nx hi (by omega)
      have h1 := pOk_advC hX (pOk_advR hX h hit) hit
      have et : ce_C_takes n uc 44 = some (1, advU uc (i + 1)) := by
        unfold ce_C_takes
        rw [h.kd, if_pos (show nI (xck X i) = 44 from (hX.ck hi k44).mpr hk), zbd_e (h.adv hX hit n)]
      refine rp_lt ((hX.rk hi 44 (by decide)).mpr hk) (rp_ll (rp_r et ?_))
      rw [h.at, nI_1, ce_C_compileArguments_L26, if_neg (show ¬ 4 < nI c from nI_nlt (b := c) (a := 4) hc4 (by decide)), if_neg (show ¬ (1 : Int32) = 0 by decide)]
      by_cases h4 : c = 4
      · subst h4
        obtain ⟨v, e1, hv⟩ := h1.faulty n hX (K := K + 1) (by omega) (by omega)
        obtain ⟨v2, e2, hv2⟩ := h1.refuse n hX (by omega)
        obtain ⟨v3, e3, hv3⟩ := w1_cG n hX hv2 (xPK X w) (nI P) (nI 4)
        refine rp_lt rfl ?_
        rw [if_pos (show nI 4 = 4 from rfl), zbd_as]
        exact (rp_l e1 (rp_r e2 (rp_r rfl (rp_eq rfl e3 (Or.inr ⟨_, hv, hv3⟩)))))
      · have n4 : ¬ nI c = 4 := fun q => h4 ((nI_eq (a := c) (b := 4) (by omega) (by decide)).mp q)
        refine rp_lf n4 ?_
        rw [if_neg n4, zbd_as]
        refine (rp_bd (rp_mono (H X hX kR kC (i + 1) cr cc S C tb e E M ht _ _ hkR hkC h1 (by omega) (by omega) (by omega) (by omega)) (fun _ vr rc vc g => ?_)))
        refine rp_ll ?_
        rw [zbd_as, nI_1]
        rcases g with ⟨i', cr', cc', S', C', M', ht', kd, k1, k2, ⟨f1, f2, f3, f4, f5⟩, k4', k5, -⟩ | ⟨w', w1, w2⟩
        · have hi' := k1.i
          refine ih (xT X - i') (by omega) i' m (m' + 1) (c + 1) vr vc rfl (by omega) (by omega) (by omega) (by omega) ⟨cr', cc', S', C', M', ht', k1, by omega, ⟨by omega, by omega, by omega, by omega, by omega⟩, ?_, by omega⟩
          exact pEx_tr (pEx_tr a3 ((pSm_tr (pSm_R 10 _) (pSm_adv _)).ex cr S M ht) a1 d2) k4' (by omega) (by omega)
        · obtain ⟨m, rfl⟩ : ∃ y, m = y + 1 := ⟨m - 1, by omega⟩
          obtain ⟨v1, e1, g1⟩ := r1_J76 n (rf_expr n kR) w1 (by omega) (nI w) (nI P) (nI (c + 1))
          obtain ⟨v2, e2, g2⟩ := w1_L26z n m' (ce_C_compileE n kC) hX w2 (nI (c + 1))
          obtain ⟨v3, e3, g3⟩ := w1_cG n hX g2 (xPK X w) (nI P) (nI (c + 1))
          rw [rf_callOf_L30]
          refine rp_l (r1_isWrong n w1) (rp_lf (by decide) (rp_r (w1_takes n w2 (by decide)) (rp_r e2 (rp_eq e1 e3 (Or.inr ⟨w', g1, g3⟩)))))
    · have et : ce_C_takes n uc 44 = some (0, uc) := by
        unfold ce_C_takes
        rw [if_neg (show ¬ zI uc 7 6 = 44 from c_ne hX h k44 hk)]
      refine rp_lf (fun q => hk ((hX.rk hi 44 (by decide)).mp q)) (rp_r et ?_)
      rw [ce_C_compileArguments_L26, if_neg (show ¬ 4 < nI c from nI_nlt (b := c) (a := 4) hc4 (by decide)), if_pos rfl, zbd_as]
      exact p_callEnd n hX c1 c3 hw hP hc4 (by omega) hK (by omega) _ hA
