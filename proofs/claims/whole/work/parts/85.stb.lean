/-! PARSING, steps, second part: what a faulty text's code may hold; let -/
theorem c_emit_any (n p : Nat) {u : zMu} {cc : Nat} (h : zI u p 3 = nI cc) (hc : cc < 2400) {o : Nat} (ho : o < 128) (a w : Int32) : ce_P_emit n p u (nI o) a w = some (nI cc, emC u p cc (nI o) a (vp_nar .short (w.toInt16.toInt32))) := by
  have hz : zin (nI cc) 2400 = true := zin_nI hc (by decide)
  have hx : zx (nI cc) = cc := zx_nI (by omega)
  have hl : nI cc < 2400 := nI_lt (b := 2400) hc (by decide)
  unfold ce_P_emit emC
  rw [h, if_pos hl]
  simp [zlet, zgd, gI_sI, h, hz, hx, nI_1, nar_b ho]
theorem pCo_emitN {p S : Nat} {ur uc : zMu} {cr cc tb : Nat} {M ht : Nat → Nat} {ok : Prop} (h : pCo p S ur uc cr cc tb M ht ok) (o a b w c x y : Int32) (h1 : Nat) (hok : ¬ ok) : pCo p S (emR ur cr o a b w) (emC uc p cc c x y) (cr + 1) (cc + 1) tb (fun r => if r = cr + 1 then cc + 1 else M r) (fun r => if r = cr + 1 then h1 else ht r) ok := by
  obtain ⟨g1, g2, g3, g4, g5, gt, g6⟩ := h
  refine ⟨rfl, by simp [emC, gI_sI], by simp [g3], by simp, fun r hr => ?_, by omega, fun q => absurd q hok⟩
  by_cases e : r = cr
  · subst e
    simp [g4]
  · have e1 : ¬ r = cr + 1 := by omega
    have e2 : ¬ r + 1 = cr + 1 := by omega
    simp only [e1, e2, if_false]
    exact g5 r (by omega)
theorem pOk_emitN {X : pCx} {i i2 op cr cc S C tb e : Nat} {E : Nat → Prop} {M ht : Nat → Nat} {ur uc : zMu} (hX : xOk X) (h : pOk X i i2 op cr cc S C tb e E M ht ur uc) (hok : ¬ zI uc 2 3 = 0) {o : Nat} (ho : o ≤ 23) (h17 : o ≠ 17) (a b w c x y : Int32) (h1 : Nat) (E' : Nat → Prop) (hE : ∀ s, E' s → E s) :
    pOk X i i2 op (cr + 1) (cc + 1) S C tb e E' (fun r => if r = cr + 1 then cc + 1 else M r) (fun r => if r = cr + 1 then h1 else ht r) (emR ur cr (nI o) a b w) (emC uc (xp X) cc c x y) := by
  have htb := h.tb
  obtain ⟨g1, g2, g3, g4, g5, g6, g7, g8, g9, g10⟩ := h
  have hp := hX.p12
  have hr : ∀ k j, ¬ (k = 0 ∧ j = 24) → ¬ (10 ≤ k ∧ k ≤ 13) → zI (emR ur cr (nI o) a b w) k j = zI ur k j := fun k j q q2 => emR_W k j q (by omega)
  have hc : ∀ k j, ¬ (k = xp X ∧ j = 3) → ¬ (xp X + 1 ≤ k ∧ k ≤ xp X + 3 ∧ j = cc) → zI (emC uc (xp X) cc c x y) k j = zI uc k j := fun k j q q2 => emC_W k j q q2
  have hok' : zI (emC uc (xp X) cc c x y) 2 3 = 0 → zI uc 2 3 = 0 := fun q => by rw [hc 2 3 (by omega) (by omega)] at q; exact q
  have hmono := pCo_mono g8
  have hM4 := g8.2.2.2.1
  refine ⟨fPR_em g1, fPC_em g2, pAt_keep g3 (hr 0 10 (by omega) (by omega)) (fun j => hc 7 j (by omega) (by omega)) (fun _ => rfl) (fun _ => rfl), ⟨(hr 0 15 (by omega) (by omega)).trans g4.1, (hc 2 2 (by omega) (by omega)).trans g4.2⟩, ⟨g5.1, (hr 0 26 (by omega) (by omega)).trans g5.2.1, (hc 2 5 (by omega) (by omega)).trans g5.2.2⟩, ?_, ?_, ?_, ?_, ?_⟩
  · exact pVs_keep g6 (Nat.le_refl _) (fun q hq => ⟨if_neg (by omega), if_neg (by omega)⟩) (fun k j q => hr k j (by omega) (by omega)) (fun k j q => hc k j (by omega) (by omega)) (fun k j q => rfl) hok'
  · exact pFt_keep g7 (Nat.le_refl _) (fun j q => hr 0 j (by omega) (by omega)) (fun j q => hc 2 j (by omega) (by omega))
  · exact pCo_keep (pCo_emitN g8 (nI o) a b w c x y h1 hok) hok' (fun _ _ _ => rfl) (fun _ _ _ => rfl)
  · exact ⟨fun s q => g9.1 s (hE s q), fun q => absurd (hok' q) hok⟩
  · exact pCa_emit (cc := cc) g10 ho h17 (fun q hq => ⟨if_neg (by omega), by have := hmono q cr (by omega) (by omega); omega⟩) (fun k j q => hc k j (by omega) (by omega)) (fun _ => rfl)
theorem pOk_turnN {X : pCx} {i i2 op cr cc S C tb e : Nat} {E : Nat → Prop} {M ht : Nat → Nat} {ur uc vr vc : zMu} (hX : xOk X) (h : pOk X i i2 op cr cc S C tb e E M ht ur uc) (hok : ¬ zI uc 2 3 = 0) (f1 : fPR (xr X) vr) (f2 : fPC (xp X) (xc X) vc) (hr : ∀ k j, k ≠ 19 → zI vr k j = zI ur k j) (hc : ∀ k j, k ≠ xp X + 4 → zI vc k j = zI uc k j) (hl : ∀ k j, zL vc k j = zL uc k j) : pOk X i i2 op cr cc S C tb e E M ht vr vc := by
  obtain ⟨g1, g2, g3, g4, g5, g6, g7, g8, g9, g10⟩ := h
  have hp := hX.p12
  have hok' : zI vc 2 3 = 0 → zI uc 2 3 = 0 := fun q => by rw [hc 2 3 (by omega)] at q; exact q
  refine ⟨f1, f2, pAt_keep g3 (hr 0 10 (by omega)) (fun j => hc 7 j (by omega)) (fun j => hl 7 j) (fun j => hl 11 j), ⟨(hr 0 15 (by omega)).trans g4.1, (hc 2 2 (by omega)).trans g4.2⟩, ⟨g5.1, (hr 0 26 (by omega)).trans g5.2.1, (hc 2 5 (by omega)).trans g5.2.2⟩, ?_, ?_, ?_, ?_, ?_⟩
  · obtain ⟨r, V, F, vw, h0, h1, h2, h3, h5, h6⟩ := g6
    refine ⟨r, V, F, vw, h0, pRo_keep h1 (hr 0 27 (by omega)) (hc 2 6 (by omega)), pVa_keep h2 (fun k j a b => hr k j (by omega)) (hc 2 8 (by omega)) (fun j => hl 3 j), pFn_keep h3 (Nat.le_refl _) (fun q _ => ⟨rfl, rfl⟩) (fun k j q => hr k j (by omega)) (fun k j q => hc k j (by omega)) (fun j => hl _ j), pMn_keep h5 (Nat.le_refl _) (fun q _ => ⟨rfl, rfl⟩) (hr 0 34 (by omega)) (hc _ 13 (by omega)), ?_⟩
    obtain ⟨s1, s2, s3, s4, s5⟩ := h6
    exact ⟨s1, s2, by rw [hr 0 39 (by omega)]; exact s3, by rw [hc _ 8 (by omega)]; exact s4, fun q => absurd (hok' q) hok⟩
  · exact pFt_keep g7 (Nat.le_refl _) (fun j q => hr 0 j (by omega)) (fun j q => hc 2 j (by omega))
  · exact pCo_keep g8 hok' (fun k j q => hr k j (by omega)) (fun k j q => hc k j (by omega))
  · exact ⟨g9.1, fun q => absurd (hok' q) hok⟩
  · exact pCa_keep g10 (fun k j q => hr k j (by omega)) (fun k j q => hc k j (by omega)) (fun j => hl 4 j)
/-- the end of a step, with any instruction that both may write -/
theorem p_tail2 (n : Nat) {X : pCx} (hX : xOk X) {i op cr cc S C tb e0 e : Nat} {E0 E' : Nat → Prop} {M ht M' ht' : Nat → Nat} {ur uc : zMu} (h : pOk X i i op cr cc S C tb e0 E0 M ht ur uc) (mid : zMu → zMu) (hm : ∀ u, zI (mid u) 0 24 = zI u 0 24) (T3 : ∀ w K u, bR1 X w K u → bR1 X w K (mid u)) {K : Nat} (hK : 2260 ≤ K) (hK2 : K < 3000) (hcc : 2 * cc ≤ 3 * i + 3) {o : Nat} {a' b' c' x' y' z' : Int32} {wf : zMu → Int32} {r : Int32}
    (ec : ce_P_emit n (xp X) uc c' x' y' = some (r, emC uc (xp X) cc c' x' z'))
    (EM1 : pOk X i i op (cr + 1) (cc + 1) S C tb e E' M' ht' (emR (mid ur) cr (nI o) a' b' (wf ur)) (emC uc (xp X) cc c' x' z')) (EM2 : i < xT X → pOk X (i + 1) i op (cr + 1) (cc + 1) S C tb e E' M' ht' (emR (mid (zsI ur 0 10 (nI (i + 1)))) cr (nI o) a' b' (wf (zsI ur 0 10 (nI (i + 1))))) (emC uc (xp X) cc c' x' z')) :
    Rp (zbd (rf_want n ur 59) fun _ u5 => zbd (rf_emit n (mid u5) (nI o) a' b' (wf u5)) fun _ u8 => some ((), u8)) (zbd (ce_P_emit n (xp X) uc c' x' y') fun r6 u7 => zbd (ce_C_expect n u7 59) fun _ u9 => some ((), u9))
      (fun _ vr _ vc => (i < xT X ∧ pOk X (i + 1) (i + 1) op (cr + 1) (cc + 1) S C tb e E' M' ht' vr vc ∧ vr = emR (mid (zsI ur 0 10 (nI (i + 1)))) cr (nI o) a' b' (wf (zsI ur 0 10 (nI (i + 1)))) ∧ vc = advU (emC uc (xp X) cc c' x' z') (i + 1)) ∨ pWx X (K + 1) vr vc) := by
  have hT := hX.T
  have hii := h.i
  have hle := h.le
  have k59 : kRel 59 59 := by unfold kRel isSg; omega
  refine rp_r ec ?_
  by_cases hk : xrk X i = 59
  · have hit := hX.nx hii (by omega)
    have em := EM2 hit
    have hcr : zI (mid (zsI ur 0 10 (nI (i + 1)))) 0 24 = nI cr := by rw [hm, gI_sI, if_neg (by omega)]; exact h.cr
    exact rp_l (show rf_want n ur 59 = _ from r_want_ok n hX h hk) (rp_l (r_emit n hcr (by omega) (nI o) a' b' _) (rp_r (show ce_C_expect n _ 59 = _ from c_expect_ok n hX em k59 hk (by omega)) (rp_end (Or.inl ⟨hit, pOk_advC hX em hit, rfl, rfl⟩))))
  · obtain ⟨v, e1, hv⟩ := r_want_no n hX h (k := 59) (K := K) (by decide) hk (by omega) (by omega)
    obtain ⟨v3, e3, q3⟩ := r1_emit n (T3 _ _ _ hv) (by omega) (nI o) a' b' (wf v)
    obtain ⟨v2, e2, hv2⟩ := w0_expect n hX (EM1.bC (by omega)) (x := 59) (c_ne hX EM1 k59 hk)
    exact rp_l (show rf_want n ur 59 = _ from e1) (rp_l e3 (rp_r e2 (rp_end (Or.inr ⟨_, q3, hv2⟩))))
/-- a let's variable, found or new -/
theorem p_lvar (n k : Nat) (hn : 2000 ≤ n) {X : pCx} (hX : xOk X) {i i2 op cr cc S C tb e : Nat} {E : Nat → Prop} {M ht : Nat → Nat} {ur uc : zMu} (h : pOk X i i2 op cr cc S C tb e E M ht ur uc) {w P : Nat} (hw : w < xN X) (hP : P ≤ 1500) :
    ∃ vr vc x v, rf_addVar n ur (nI w) (nI P) = some ((), vr) ∧ rf_findVar n vr (nI w) = some (x, vr) ∧ (zbd (ce_C_variableNamed n uc (xPK X w)) fun r11 u12 => if r11 = (-1) then (zbd (ce_C_addVariable n u12 (xPK X w) (nI P)) fun r14 u15 => ce_C_compileLet_J63 n k u15 (nI P) r14) else ce_C_compileLet_J63 n k u12 (nI P) r11) = ce_C_compileLet_J63 n k vc (nI P) (nI v) ∧ pOk X i i2 op cr cc S C tb e E M ht vr vc ∧ (zI vc 2 3 = 0 → v < 12 ∧ x = nI v) ∧ (zI vc 2 3 = 0 → zI uc 2 3 = 0) ∧ (∀ k q, 10 ≤ k → k ≤ 15 → zI vr k q = zI ur k q) ∧ (∀ s, zI vr 19 s = zI ur 19 s) := by
  rcases pOk_find n hn hX h hw with ⟨j, j1, j2, j3⟩ | ⟨j1, j2⟩
  · refine ⟨ur, uc, nI j, j, ?_, j2, ?_, h, fun _ => ⟨j1, rfl⟩, fun q => q, fun _ _ _ _ => rfl, fun _ => rfl⟩
    · have j17 : ∀ r, rf_addVar_J17 n ur (nI w) (nI P) r = some ((), ur) := fun r => by
        unfold rf_addVar_J17
        rw [zbd_e j2, if_neg (nI_m1 (by omega))]
      unfold rf_addVar
      by_cases z : zI ur 0 27 = -1
      · rw [if_pos z]; exact j17 _
      · rw [if_neg z]; exact j17 _
    · rw [zbd_e j3, if_neg (nI_m1 (by omega))]
  · obtain ⟨vr, vc, v, x, a1, a2, a3, a4, a5, a6, a7, a8⟩ := pOk_addVar n hn hX h hw hP j1
    exact ⟨vr, vc, x, v, a1, a4, by rw [zbd_e j2, if_pos rfl, zbd_e a2], a3, a5, a6, a7, a8⟩
