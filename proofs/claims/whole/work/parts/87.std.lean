/-! PARSING, steps, fourth part: taking back; del -/
theorem c_takeBack (n p : Nat) {u : zMu} {c : Nat} (h : zI u p 3 = nI (c + 1)) (hc : c < 2400) : ce_P_takeBack n p u = some (zI u (p + 2) c, zsI u p 3 (nI c)) := by
  unfold ce_P_takeBack
  rw [h, if_neg (nI_ne0 (by omega) (by omega)), nI_pred]
  have hz : zin (nI c) 2400 = true := zin_nI hc (by decide)
  have hx : zx (nI c) = c := zx_nI (by omega)
  simp [zlet, zgd, gI_sI, hz, hx]
theorem c_placeTaken (n p : Nat) {u : zMu} {c : Nat} (h : zI u p 3 = nI c) (hc : c < 2400) : ce_P_placeTakenBack n p u = some (zI u (p + 3) c, u) := by
  unfold ce_P_placeTakenBack
  have hz : zin (nI c) 2400 = true := zin_nI hc (by decide)
  have hx : zx (nI c) = c := zx_nI (by omega)
  rw [h, if_pos (show nI c < 2400 from nI_lt (b := 2400) hc (by decide)), hz, hx]
  rfl
theorem c_turnSite (n p : Nat) {u c0 : zMu} {S : Nat} (h : zI u p 8 = nI S) (hS : S ≤ 80) (f : fPC p c0 u) (x kd : Int32) : ∃ v, ce_P_turnSite n p u x kd = some ((), v) ∧ fPC p c0 v ∧ (∀ k j, k ≠ p + 4 → zI v k j = zI u k j) ∧ (∀ k j, zL v k j = zL u k j) ∧ (∀ s, x = nI s → s < S → v = zsI u (p + 4) s kd) := by
  unfold ce_P_turnSite
  rw [zbd_e (c_isSite n p h hS x)]
  by_cases g : x.toInt < 0 ∨ (S : Int) ≤ x.toInt
  · rw [if_pos g, if_pos rfl]
    refine ⟨u, rfl, f, fun _ _ _ => rfl, fun _ _ => rfl, fun s e hs => ?_⟩
    subst e
    rw [nI_toInt (by omega)] at g
    omega
  · rw [if_neg g, if_neg (by decide)]
    have hx : ¬ x < 0 := fun q => g (Or.inl (by have := (lt_lit (n := 0) (by decide)).mp q; simpa using this))
    obtain ⟨j, hj, rfl⟩ := nI_of hx
    rw [nI_toInt hj] at g
    have hz : zin (nI j) 80 = true := zin_nI (by omega) (by decide)
    have hx2 : zx (nI j) = j := zx_nI hj
    rw [hz, hx2]
    refine ⟨zsI u (p + 4) j kd, rfl, fPC_I f (by unfold pwC; omega), fun k b q => by rw [gI_sI, if_neg (by omega)], fun _ _ => rfl, fun s e hs => ?_⟩
    have := (nI_eq hj (by omega)).mp e
    rw [this]
theorem w1_back (n : Nat) {X : pCx} (hX : xOk X) {w : Nat} {u : zMu} (h : bC1 X w u) : ∃ r v, ce_P_takeBack n (xp X) u = some (r, v) ∧ bC1 X w v := by
  have hp := hX.p12
  obtain ⟨f, L, S, V, C, F, b1, b2, b3, b4, b5, b6, b7, b8, b9, b10⟩ := h.1
  by_cases g : L = 0
  · subst g
    refine ⟨0, u, ?_, h⟩
    unfold ce_P_takeBack
    rw [b2, if_pos (show nI 0 = 0 from rfl)]
  · obtain ⟨c, rfl⟩ : ∃ y, L = y + 1 := ⟨L - 1, by omega⟩
    refine ⟨_, _, c_takeBack n (xp X) b2 (by omega), bC1_keep h ⟨fPC_I f (by unfold pwC; omega), c, S, V, C, F, by omega, by simp [gI_sI], b3, ?_, b5, ?_, b7, ?_, b9, ?_⟩ (fun k j q => by rw [gI_sI, if_neg (by omega)])⟩
    · rw [gI_sI, if_neg (by omega)]; exact b4
    · rw [gI_sI, if_neg (by omega)]; exact b6
    · rw [gI_sI, if_neg (by omega)]; exact b8
    · rw [gI_sI, if_neg (by omega)]; exact b10
theorem w1_turn (n : Nat) {X : pCx} (hX : xOk X) {w : Nat} {u : zMu} (h : bC1 X w u) (x kd : Int32) : ∃ v, ce_P_turnSite n (xp X) u x kd = some ((), v) ∧ bC1 X w v := by
  have hp := hX.p12
  obtain ⟨f, L, S, V, C, F, b1, b2, b3, b4, b5, b6, b7, b8, b9, b10⟩ := h.1
  obtain ⟨v, e, f2, k, -, -⟩ := c_turnSite n (xp X) b4 b3 f x kd
  exact ⟨v, e, bC1_keep h (bC_keep h.1 f2 (fun a j q => k a j (by omega))) (fun a j q => k a j (by omega))⟩
theorem w1_plc (n : Nat) {X : pCx} {w : Nat} {u : zMu} (h : bC1 X w u) : ∃ r, ce_P_placeTakenBack n (xp X) u = some (r, u) := by
  obtain ⟨f, L, S, V, C, F, b1, b2, -⟩ := h.1
  by_cases g : L < 2400
  · exact ⟨_, c_placeTaken n (xp X) b2 g⟩
  · refine ⟨0, ?_⟩
    unfold ce_P_placeTakenBack
    rw [b2, if_neg (show ¬ nI L < 2400 from nI_nlt (b := 2400) (by omega) (by omega))]
theorem r1_J284 (n k : Nat) (f : zMu → Option (Unit × zMu)) {X : pCx} {w K : Nat} {u : zMu} (h : bR1 X w K u) : rf_step_J284 n k f u = some ((), u) := by
  unfold rf_step_J284
  rw [zbd_e (r1_isWrong n h), if_neg (by decide)]
/-- the instruction of a place that is taken back, as far as the text has no fault -/
theorem pOk.bk {X : pCx} {i i2 op q cc S C tb e : Nat} {E : Nat → Prop} {M ht : Nat → Nat} {ur uc : zMu} (h : pOk X i i2 op (q + 1) cc S C tb e E M ht ur uc) (ok : zI uc 2 3 = 0) {o : Nat} (ho : o ≤ 23) (e0 : zI ur 10 q = nI o) : ∃ a b c x c2 w, zI ur 11 q = nI a ∧ zI ur 13 q = nI w ∧ w ≤ 1500 ∧ zI uc (xp X + 2) (M q) = nI x ∧ (plc o → zI uc (xp X + 3) (M q) = nI w) ∧ insC 80 o a b c x (M q) (M (q + 1)) (ht q) (ht (q + 1)) (jT tb M ht ur q) c2 := by
  have g := h.2.2.2.2.2.2.2.1.2.2.2.2.2.2 ok q (by omega)
  obtain ⟨a, b, c, x, c2, w, i2, i3, i4, i5, i6, i7, i8, i9, i10, i11⟩ := pIns_o g ho e0
  exact ⟨a, b, c, x, c2, w, i2, i4, i5, i7, fun z => i9 (Or.inl z), i11⟩
theorem p_del (n k : Nat) (hn : 2000 ≤ n) (hkk : 120 ≤ k) {X : pCx} (hX : xOk X) {i op cr cc S C tb : Nat} {M ht : Nat → Nat} {ur uc : zMu} (hb : pSb X i op cr cc S C tb M ht ur uc) (hk : xrk X i = 207) (f : zMu → Option (Unit × zMu)) :
    Rp (zlet (zsI ur 0 10 ((zI ur 0 10) + 1)) fun u16 => zbd (rf_expr n k u16) fun _ u18 => zbd (rf_isWrong n u18) fun r19 u20 => if r19 = 0 then (if zI u20 0 25 = 2 then rf_step_J284 n k f u20 else zbd (rf_faulty n u20) fun _ u24 => rf_step_J284 n k f u24) else rf_step_J284 n k f u20) (ce_C_compileDel n k uc) (fun _ vr _ vc => pSq X i op cr cc S C M ht ur uc vr vc ∨ pWx X (kS op) vr vc) := by
  obtain ⟨h, b0, b1, b2, b3, b4, b5, b6, b7⟩ := hb
  have hp := hX.p12
  have hT := hX.T
  have hi := h.i
  have hop := h.op8
  have hit := hX.nx hi (by omega)
  have h1 := pOk_advC hX (pOk_advR hX h hit) hit
  unfold ce_C_compileDel
  refine rp_ll ?_
  rw [h.at, nI_1]
  refine rp_r (h.adv hX hit n) (rp_bd (rp_mono (s_E n hn hop X hX k k (i + 1) (cr + 1) (cc + 1) S C tb 5000 pE0 M ht _ _ hkk hkk h1 (by omega) (by omega) (by omega) (by omega)) (fun _ vr rc vc g => ?_)))
  rcases g with ⟨i', cr', cc', S', C', M', ht', kd, k1, k2, ⟨f1, f2, f3, f4, f5⟩, k4', k5, d1, d2, d3, d4⟩ | ⟨w', w1, w2⟩
  · have hi' := k1.i
    have hle' := k1.le
    refine rp_l (k1.nw n) (rp_lt rfl ?_)
    rw [d1, d2]
    by_cases hkd : kd = 2
    · subst hkd
      refine rp_lt rfl (rp_rt rfl ?_)
      obtain ⟨q, hq, dM, dh, -, d5, -⟩ := d4 (by omega)
      obtain ⟨d5, s, d6, d7, d8⟩ := d5 rfl
      subst hq
      subst dM
      have hS800 : s < 800 := by omega
      have kb := pOk_back hX k1 (by omega) (o := 5) (by omega) (by omega) d5 (fun x => x = s) (fun x z => Or.inr ⟨by omega, by omega, by omega, by rw [z]; exact d7⟩)
      rw [k1.zp hX, hX.zpr, zgd_t]
      refine rp_rl (rp_r (c_takeBack n (xp X) k1.cc (by omega)) ?_)
      rw [kb.zp hX, hX.zpr, zgd_t]
      obtain ⟨r, V, F, vw, y0, y1, y2, y3, y4, y5⟩ := kb.2.2.2.2.2.1
      obtain ⟨vT, t1, t2, t3, t4, t5⟩ := c_turnSite n (xp X) (c0 := xc X) y5.2.2.2.1 (by omega) kb.2.1 (zI vc (xp X + 2) (M' q)) 2
      refine rp_rl (rp_r t1 ?_)
      have zT : zR vT 2 1 = xp X := hX.zp t2
      have cT : zI vT (xp X) 3 = nI (M' q) := by rw [t3 _ _ (by omega)]; exact kb.cc
      rw [zT, hX.zpr, zgd_t]
      refine rp_rl ?_
      rw [zgd_t]
      refine rp_rl (rp_r (c_placeTaken n (xp X) cT (by omega)) ?_)
      have pT : zI vT (xp X + 3) (M' q) = zI vc (xp X + 3) (M' q) := by rw [t3 _ _ (by omega), gI_sI, if_neg (by omega)]
      rw [pT]
      have okT : zI vT 2 3 = 0 ↔ zI vc 2 3 = 0 := by rw [t3 2 3 (by omega), gI_sI, if_neg (by omega)]
      unfold rf_step_J284
      refine rp_l (k1.nw n) (rp_lt rfl (rp_ll ?_))
      rw [k1.cr, nI_pred]
      have a11 : zI (zsI vr 0 24 (nI q)) 11 q = nI s := by rw [gI_sI, if_neg (by omega)]; exact d7
      rw [kb.cr, zin_nI (show q < 4000 by omega) (by decide), zgd_t, zx_nI (show q < 2 ^ 31 by omega)]
      refine rp_ll ?_
      have hz800 : zin (nI s) 800 = true := zin_nI hS800 (by decide)
      have hxs : zx (nI s) = s := zx_nI (by omega)
      rw [a11]
      simp only [hz800, hxs, zgd_t]
      refine rp_ll ?_
      have kt : pOk X i' i' op q (M' q) S' C' tb 5000 (fun x => x = s) M' ht' (zsI (zsI vr 0 24 (nI q)) 19 s 2) vT := by
        by_cases ok : zI vc 2 3 = 0
        · obtain ⟨a, b, c, x, c2, w, z1, z2, z3, z4, z5, z6⟩ := k1.bk ok (o := 5) (by omega) d5
          obtain ⟨z7, z8, z9, -⟩ := insC_5.mp z6
          rw [d7] at z1
          have := (nI_eq (by omega) (by omega)).mp z1
          subst this
          have hS80 := k1.S80 ok
          have hvT := t5 s (by rw [z4, z8]) (by omega)
          refine pOk_turn hX kb (a := s) (kr := 2) 5000 d6 (fun _ => rfl) (Or.inr (by omega)) (Or.inr (by omega)) (by omega) t2 (fun k j => gI_sI _ _ _ _ _ _) (fPR_I (fPR_I k1.1 (by unfold pwR; omega)) (by unfold pwR; omega)) (fun k j z => t3 k j z) (fun k j => t4 k j) (fun _ => ⟨?_, fun j => ?_⟩)
          · have gx := (k1.2.2.2.2.2.2.2.2.1.2 ok).1 q 5 (by omega) d5 (by omega) (by omega)
            obtain ⟨a, g1, -, g2, g3⟩ := gx
            rw [d7] at g2
            have := (nI_eq (by omega) (by omega)).mp g2
            subst this
            rw [gI_sI, if_neg (by omega)]; exact g3
          · rw [hvT, gI_sI, if_neg (show ¬ 5000 = s by omega)]
            by_cases z : j = s
            · rw [if_pos ⟨rfl, z⟩, if_pos z]; rfl
            · rw [if_neg (by omega), if_neg z]
        · exact pOk_turnN hX kb (fun z => ok (by rw [gI_sI, if_neg (by omega)] at z; exact z)) (fPR_I kb.1 (by unfold pwR; omega)) t2 (fun k j z => by rw [gI_sI, if_neg (by omega)]) (fun k j z => t3 k j z) (fun k j => t4 k j)
      have r20 : ∀ u, (∀ j, zI u 20 j = zI vr 20 j) → zI u 20 s = zI vr 20 s := fun u z => z s
      have em : ∀ j u, pOk X j i' op q (M' q) S' C' tb 5000 (fun x => x = s) M' ht' u vT → (∀ a, zI u 19 a = zI (zsI (zsI vr 0 24 (nI q)) 19 s 2) 19 a) → zI u 20 s = zI vr 20 s → pOk X j i' op (q + 1) (M' q + 1) S' C' tb 5000 pE0 (fun r => if r = q + 1 then M' q + 1 else M' r) (fun r => if r = q + 1 then 0 else ht' r) (emR u q (nI 7) (nI s) 0 (zI u 20 s)) (emC vT (xp X) (M' q) (nI 15) (zI vc (xp X + 2) (M' q)) (vp_nar .short ((zI vc (xp X + 3) (M' q)).toInt16.toInt32))) := by
        intro j u hu u19 u20
        by_cases ok : zI vc 2 3 = 0
        · obtain ⟨a, b, c, x, c2, w, z1, z2, z3, z4, z5, z6⟩ := k1.bk ok (o := 5) (by omega) d5
          obtain ⟨z7, z8, z9, z10, z11, z12⟩ := insC_5.mp z6
          rw [d7] at z1
          have := (nI_eq (by omega) (by omega)).mp z1
          subst this
          rw [u20, d8, z2, z4, z8, z5 (by unfold plc; omega), vp_nar_short, sh16 (k := w) (by omega), sh16 (k := w) (by omega)]
          exact pOk_emit hX hu (o := 7) (a := s) (b := 0) (w := w) (c := 15) (x := s) (wc := w) 0 pE0 (fun _ z => absurd z id) z3 (by omega) (by omega) (by omega) (fun _ => rfl) (fun _ => rfl) (fun _ => rfl) (fun _ => insC_7.mpr ⟨rfl, rfl, z9, rfl, by omega, rfl⟩) (fun _ _ _ => ⟨rfl, id, by rw [u19, gI_sI, if_pos ⟨rfl, rfl⟩]; rfl⟩)
        · exact pOk_emitN hX hu (fun z => ok (okT.mp z)) (by omega) (by omega) _ _ _ _ _ _ 0 pE0 (fun _ z => absurd z id)
      refine rp_mono (p_tail2 n hX kt (fun u => u) (fun _ => rfl) (fun _ _ _ q => q) (K := 2270 + 8 * (9 - op) + 4) (by omega) (by omega) (by omega) (o := 7) (a' := nI s) (b' := 0) (wf := fun u => zI u 20 s) (c_emit_any n (xp X) cT (by omega) (o := 15) (by omega) (zI vc (xp X + 2) (M' q)) (zI vc (xp X + 3) (M' q))) (em _ _ kt (fun _ => rfl) ?_) (fun z => em _ _ (pOk_advR hX kt z) (fun a => by rw [gI_sI, if_neg (by omega)]) ?_)) (fun _ xr _ xc g => ?_)
      · rw [gI_sI, if_neg (by omega), gI_sI, if_neg (by omega)]
      · rw [gI_sI, if_neg (by omega), gI_sI, if_neg (by omega), gI_sI, if_neg (by omega)]
      · rcases g with ⟨q0, q1, q2, q3⟩ | ⟨w', q1, q2⟩
        · refine Or.inl ⟨i' + 1, q + 1, M' q + 1, S', C', tb, _, _, q1, by omega, ⟨by omega, by omega, by omega, by omega, by omega⟩, ?_, if_pos rfl⟩
          refine pEx_tr (pEx_0 (pEx_tr ((pSm_tr (pSm_R 10 _) (pSm_adv _)).ex (cr + 1) S M ht) k4' (Nat.le_refl _) (Nat.le_refl _))) (cr' := q) (S' := 0) ⟨fun r hr => ⟨if_neg (by omega), if_neg (by omega)⟩, fun k r hr => ?_, fun s z => absurd z (Nat.not_lt_zero s), fun z => ?_⟩ (by omega) (by omega)
          · have hk10 := pRw_10 hr
            rw [q2, emR_rw hr, gI_sI, if_neg (by omega), gI_sI, if_neg (by omega), gI_sI, if_neg (by omega)]
          · rw [q3, advU_I 2 3 (by omega), emC_W 2 3 (by omega) (by omega)] at z
            exact okT.mp z
        · exact Or.inr ⟨w', bR1_K q1 (by unfold kS; omega), q2⟩
    · have n2 : ¬ nI kd = 2 := fun z => hkd ((nI_eq (a := kd) (b := 2) (by omega) (by decide)).mp z)
      obtain ⟨v, e1, hv⟩ := k1.faulty n hX (K := kS op) (by unfold kS; omega) (by unfold kS; omega)
      obtain ⟨v2, e2, hv2⟩ := k1.refuse n hX (by omega)
      exact rp_lf n2 (rp_l e1 (rp_rf n2 (rp_r e2 (rp_eq (r1_J284 n k f hv) rfl (Or.inr ⟨_, hv, hv2⟩)))))
  · refine rp_l (r1_isWrong n w1) (rp_lf (by decide) ?_)
    rw [r1_J284 n k f w1]
    have w1' : bR1 X w' (kS op) vr := bR1_K w1 (by unfold kS; omega)
    by_cases z : rc = 2
    · refine rp_rt z ?_
      obtain ⟨r3, v3, e3, q3⟩ := w1_back n hX w2
      obtain ⟨v4, e4, q4⟩ := w1_turn n hX q3 r3 2
      obtain ⟨r5, e5⟩ := w1_plc n q4
      obtain ⟨r6, v6, e6, q6⟩ := w1_emit n hX q4 15 r3 r5
      obtain ⟨v7, e7, q7⟩ := w1_expect n hX q6 (x := 59) (by decide)
      rw [bC_zp hX w2.1, hX.zpr, zgd_t]
      refine rp_rl (rp_r e3 ?_)
      rw [bC_zp hX q3.1, hX.zpr, zgd_t]
      refine rp_rl (rp_r e4 ?_)
      rw [bC_zp hX q4.1, hX.zpr, zgd_t]
      refine rp_rl ?_
      rw [zgd_t]
      exact rp_rl (rp_r e5 (rp_r e6 (rp_r e7 (rp_end (Or.inr ⟨w', w1', q7⟩)))))
    · obtain ⟨v2, e2, hv2⟩ := bC1_refuse n hX w2
      exact rp_rf z (rp_r e2 (rp_end (Or.inr ⟨w', w1', hv2⟩)))
