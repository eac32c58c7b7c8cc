/-! PARSING, steps, third part: let -/
theorem w1_J63 (n k : Nat) {X : pCx} (hX : xOk X) {w : Nat} {u : zMu} (h : bC1 X w u) (a b : Int32) : ∃ v, ce_C_compileLet_J63 n k u a b = some ((), v) ∧ bC1 X w v := by
  obtain ⟨r, v, e, hv⟩ := w1_emit n hX h 4 b a
  obtain ⟨v2, e2, hv2⟩ := w1_expect n hX hv (x := 59) (by decide)
  refine ⟨v2, ?_, hv2⟩
  unfold ce_C_compileLet_J63
  rw [bC_zp hX h.1, hX.zpr, zgd_t]
  show zbd (ce_P_emit n (xp X) u 4 b a) _ = _
  rw [zbd_e e, zbd_e e2]
theorem w1_letTail (n k : Nat) (hn : 2000 ≤ n) {X : pCx} (hX : xOk X) {w : Nat} {u : zMu} (h : bC1 X w u) (x : Int64) (P : Int32) : ∃ v, (zbd (ce_C_variableNamed n u x) fun r11 u12 => if r11 = (-1) then (zbd (ce_C_addVariable n u12 x P) fun r14 u15 => ce_C_compileLet_J63 n k u15 P r14) else ce_C_compileLet_J63 n k u12 P r11) = some ((), v) ∧ bC1 X w v := by
  obtain ⟨r, e⟩ := b_named n hn h.1 x
  rw [zbd_e e]
  by_cases z : r = -1
  · rw [if_pos z]
    obtain ⟨r2, v2, e2, h2⟩ := w1_addV n hX h x P
    rw [zbd_e e2]
    exact w1_J63 n k hX h2 _ _
  · rw [if_neg z]
    exact w1_J63 n k hX h _ _
theorem p_letTail (n k : Nat) (hn : 2000 ≤ n) {X : pCx} (hX : xOk X) {i op cr cc S C tb : Nat} {M ht : Nat → Nat} {ur uc : zMu} (h : pOk X i i op cr cc S C tb 5000 pE0 M ht ur uc) (hh : ht cr = 2) (hcc : 2 * cc ≤ 3 * i + 3) {w P K : Nat} (hw : w < xN X) (hP : P ≤ 1500) (hK : 2260 ≤ K) (hK2 : K < 3000) :
    Rp (zbd (rf_want n ur 59) fun _ u17 => zbd (rf_addVar n u17 (nI w) (nI P)) fun _ u19 => zbd (rf_findVar n u19 (nI w)) fun r20 u21 => zbd (rf_emit n u21 4 r20 0 (nI P)) fun _ u23 => some ((), u23)) (zbd (ce_C_variableNamed n uc (xPK X w)) fun r11 u12 => if r11 = (-1) then (zbd (ce_C_addVariable n u12 (xPK X w) (nI P)) fun r14 u15 => ce_C_compileLet_J63 n k u15 (nI P) r14) else ce_C_compileLet_J63 n k u12 (nI P) r11)
      (fun _ vr _ vc => (i < xT X ∧ ∃ M' ht', pOk X (i + 1) (i + 1) op (cr + 1) (cc + 1) S C tb 5000 pE0 M' ht' vr vc ∧ pEx cr S M ht M' ht' ur vr uc vc ∧ ht' (cr + 1) = 0) ∨ pWx X (K + 1) vr vc) := by
  have hp := hX.p12
  have hT := hX.T
  have hii := h.i
  have hle := h.le
  have k59 : kRel 59 59 := by unfold kRel isSg; omega
  have ins : ∀ (u : zMu) v, v < 12 → insC 80 4 v 0 4 v cc (cc + 1) (ht cr) 0 (jT tb M ht u cr) 0 := fun u v hv => insC_4.mpr ⟨rfl, rfl, hv, rfl, hh, rfl⟩
  have em : ∀ j vr vc (x : Int32) v, pOk X j i op cr cc S C tb 5000 pE0 M ht vr vc → (zI vc 2 3 = 0 → v < 12 ∧ x = nI v) → pOk X j i op (cr + 1) (cc + 1) S C tb 5000 pE0 (fun r => if r = cr + 1 then cc + 1 else M r) (fun r => if r = cr + 1 then 0 else ht r) (emR vr cr (nI 4) x (nI 0) (nI P)) (emC vc (xp X) cc (nI 4) (nI v) (nI P)) := by
    intro j vr vc x v hk hv
    exact pOk_emit hX hk (o := 4) (a := v) (b := 0) (w := P) (c := 4) (x := v) (wc := P) 0 pE0 (fun _ q => q) hP (by omega) (by omega) (by omega) (fun q => (hv q).2) (fun _ => rfl) (fun _ => rfl) (fun q => ins _ v (hv q).1) (fun z1 z2 _ => by omega)
  by_cases hk : xrk X i = 59
  · have hit := hX.nx hii (by omega)
    have h2 := pOk_advR hX h hit
    obtain ⟨vr, vc, x, v, a1, a2, a3, a4, a5, a6, a7, a8⟩ := p_lvar n k hn hX h2 hw hP
    have e2 := em _ vr vc x v a4 a5
    rw [a3]
    unfold ce_C_compileLet_J63
    rw [a4.zp hX, hX.zpr, zgd_t]
    refine rp_l (show rf_want n ur 59 = _ from r_want_ok n hX h hk) (rp_l a1 (rp_l a2 (rp_l (r_emit n a4.cr (by omega) 4 x 0 (nI P)) (rp_rl (rp_r (c_emit n (xp X) a4.cc (by omega) (o := 4) (w := P) (by omega) (by omega) (nI v)) (rp_r (show ce_C_expect n _ 59 = _ from c_expect_ok n hX e2 k59 hk (by omega)) (rp_end (Or.inl ⟨hit, _, _, pOk_advC hX e2 hit, ?_, if_pos rfl⟩))))))))
    have x1 : pEx cr S M ht M ht ur vr uc vc := ⟨fun _ _ => ⟨rfl, rfl⟩, fun k q hq => by rw [a7 k q (pRw_10 hq).1 (pRw_10 hq).2, gI_sI, if_neg (by have := pRw_10 hq; omega)], fun q _ => by rw [a8, gI_sI, if_neg (by omega)], a6⟩
    exact pEx_tr (pEx_tr x1 (pEx_em (S := S) hp) (Nat.le_refl _) (Nat.le_refl _)) ((pSm_adv _).ex (cr + 1) S _ _) (by omega) (by omega)
  · obtain ⟨vr, vc, x, v, a1, a2, a3, a4, a5, a6, a7, a8⟩ := p_lvar n k hn hX h hw hP
    have e2 := em _ vr vc x v a4 a5
    obtain ⟨v1, e1, hv⟩ := r_want_no n hX h (k := 59) (K := K) (by decide) hk (by omega) (by omega)
    obtain ⟨v3, e3, q3⟩ := r1_addVar n hn hv (nI w) (nI P)
    obtain ⟨y, e4⟩ := r1_find n hn q3 (nI w)
    obtain ⟨v5, e5, q5⟩ := r1_emit n q3 (by omega) 4 y 0 (nI P)
    obtain ⟨v6, e6, hv6⟩ := w0_expect n hX (e2.bC (by omega)) (x := 59) (c_ne hX e2 k59 hk)
    rw [a3]
    unfold ce_C_compileLet_J63
    rw [a4.zp hX, hX.zpr, zgd_t]
    exact rp_l (show rf_want n ur 59 = _ from e1) (rp_l e3 (rp_l e4 (rp_l e5 (rp_rl (rp_r (c_emit n (xp X) a4.cc (by omega) (o := 4) (w := P) (by omega) (by omega) (nI v)) (rp_r e6 (rp_end (Or.inr ⟨_, q5, hv6⟩))))))))
theorem p_let (n k : Nat) (hn : 2000 ≤ n) (hkk : 120 ≤ k) {X : pCx} (hX : xOk X) {i op cr cc S C tb : Nat} {M ht : Nat → Nat} {ur uc : zMu} (hb : pSb X i op cr cc S C tb M ht ur uc) (hk : xrk X i = 201) :
    Rp (rf_lets n k ur) (ce_C_compileLet n k uc) (fun _ vr _ vc => pSq X i op cr cc S C M ht ur uc vr vc ∨ pWx X (kS op) vr vc) := by
  obtain ⟨h, b0, b1, b2, b3, b4, b5, b6, b7⟩ := hb
  have hT := hX.T
  have hi := h.i
  have hop := h.op8
  have hle := h.le
  have hit := hX.nx hi (by omega)
  have h1 := pOk_advC hX (pOk_advR hX h hit) hit
  have hi1 := h1.i
  have hP := hX.pl hi1
  unfold rf_lets ce_C_compileLet
  refine rp_ll ?_
  rw [h.at, nI_1]
  refine rp_l (h1.now hX n) (rp_r (h.adv hX hit n) (rp_rl (rp_rl ?_)))
  rw [h1.va, h1.pc]
  by_cases hN : xrk X (i + 1) = 1
  · obtain ⟨w, w1, w2, w3⟩ := h1.nm hX hN
    have hit2 := hX.nx hi1 (by omega)
    have h2 := pOk_advC hX (pOk_advR hX h1 hit2) hit2
    have hi2 := h2.i
    rw [w3]
    refine rp_lt ((hX.rk hi1 1 (by decide)).mpr hN) (rp_lg (by rw [h1.at]; exact zin_nI (by omega) (by decide)) (rp_ll ?_))
    rw [h1.at, zx_nI (show i + 1 < 2 ^ 31 by omega), w2]
    refine rp_l (h1.place hX n) (rp_ll ?_)
    rw [h1.at, nI_1]
    refine rp_r (show ce_C_expect n _ 259 = _ from c_expect_ok n hX h1 (k := 1) (c := 259) (by unfold kRel; omega) hN (by omega)) ?_
    refine rp_bd (rp_mono (p_want n hX h2 (k := 61) (c := 61) (K := kS op) (by unfold kRel isSg; omega) (by omega) (by unfold kS; omega) (by unfold kS; omega) (by omega)) (fun _ vr _ vc g => ?_))
    rcases g with ⟨-, g2, g3, g4⟩ | ⟨w', q1, q2⟩
    · refine rp_l (g3.nw n) (rp_lt rfl (rp_bd (rp_mono (s_E n hn hop X hX k k (i + 1 + 1 + 1) (cr + 1) (cc + 1) S C tb 5000 pE0 M ht _ _ hkk hkk g3 (by omega) (by omega) (by omega) (by omega)) (fun _ yr rc yc g => ?_))))
      rcases g with ⟨i', cr', cc', S', C', M', ht', kd, k1, k2, ⟨f1, f2, f3, f4, f5⟩, k4', k5, -⟩ | ⟨w', q1, q2⟩
      · have hi' := k1.i
        refine rp_mono (p_letTail n k hn hX k1 (by omega) (by omega) w1 hP (K := 2270 + 8 * (9 - op) + 4) (by omega) (by omega)) (fun _ xr _ xc g => ?_)
        rcases g with ⟨q0, M2, ht2, q1, q2, q3⟩ | ⟨w', q1, q2⟩
        · exact Or.inl ⟨i' + 1, cr' + 1, cc' + 1, S', C', tb, M2, ht2, q1, by omega, ⟨by omega, by omega, by omega, by omega, by omega⟩, pEx_0 (pEx_tr (pEx_tr ((pSm_tr (pSm_tr (pSm_tr (pSm_R 10 _) (pSm_adv _)) (pSm_tr (pSm_R 10 _) (pSm_adv _))) g4).ex (cr + 1) S M ht) k4' (Nat.le_refl _) (Nat.le_refl _)) q2 (by omega) f2), q3⟩
        · exact Or.inr ⟨w', bR1_K q1 (by unfold kS; omega), q2⟩
      · obtain ⟨v3, e3, q3⟩ := r1_addVar n hn q1 (nI w) (nI (xpl X (i + 1)))
        obtain ⟨y, e4⟩ := r1_find n hn q3 (nI w)
        obtain ⟨v5, e5, q5⟩ := r1_emit n q3 (by omega) 4 y 0 (nI (xpl X (i + 1)))
        obtain ⟨v6, e6, q6⟩ := w1_letTail n k hn hX q2 (xPK X w) (nI (xpl X (i + 1)))
        exact rp_l (r1_want n q1 59) (rp_l e3 (rp_l e4 (rp_l e5 (rp_eq rfl e6 (Or.inr ⟨w', bR1_K q5 (by unfold kS; omega), q6⟩)))))
    · obtain ⟨r4, v4, e4, q4⟩ := w1_E n hn hX q2 0 k (by omega) (by omega)
      obtain ⟨v6, e6, q6⟩ := w1_letTail n k hn hX q4 (xPK X w) (nI (xpl X (i + 1)))
      exact rp_l (r1_isWrong n q1) (rp_lf (by decide) (rp_r e4 (rp_eq rfl e6 (Or.inr ⟨w', q1, q6⟩))))
  · obtain ⟨v, e1, hv⟩ := h1.faulty n hX (K := kS op) (by unfold kS; omega) (by unfold kS; omega)
    obtain ⟨v2, e2, q2⟩ := w0_expect n hX (h1.bC (by omega)) (x := 259) (c_ne hX h1 (k := 1) (c := 259) (by unfold kRel; omega) hN)
    obtain ⟨v3, e3, q3⟩ := w1_expect n hX q2 (x := 61) (by decide)
    obtain ⟨r4, v4, e4, q4⟩ := w1_E n hn hX q3 0 k (by omega) (by omega)
    obtain ⟨v6, e6, q6⟩ := w1_letTail n k hn hX q4 (zL (advU uc (i + 1)) 11 (i + 1)) (nI (xpl X (i + 1)))
    exact rp_lf (fun q => hN ((hX.rk hi1 1 (by decide)).mp q)) (rp_l e1 (rp_r e2 (rp_r e3 (rp_r e4 (rp_eq rfl e6 (Or.inr ⟨_, hv, q6⟩))))))
