/-! PARSING, steps, sixth part: E ; and E = E ; -/
theorem p_put (n k : Nat) (hn : 2000 ≤ n) (hkk : 120 ≤ k) {X : pCx} (hX : xOk X) {i op cr cc S C tb : Nat} {M ht : Nat → Nat} {ur uc : zMu} (hb : pSb X i op cr cc S C tb M ht ur uc) :
    Rp (rf_assigns n k ur) (ce_C_compilePut n k uc) (fun _ vr _ vc => pSq X i op cr cc S C M ht ur uc vr vc ∨ pWx X (kS op) vr vc) := by
  obtain ⟨h, b0, b1, b2, b3, b4, b5, b6, b7⟩ := hb
  have hp := hX.p12
  have hT := hX.T
  have hi := h.i
  have hop := h.op8
  have k61 : kRel 61 61 := by unfold kRel isSg; omega
  unfold rf_assigns ce_C_compilePut
  refine rp_bd (rp_mono (s_E n hn hop X hX k k i (cr + 1) (cc + 1) S C tb 5000 pE0 M ht _ _ hkk hkk h (by omega) (by omega) (by omega) (by omega)) (fun _ vr rc vc g => ?_))
  rcases g with ⟨i', cr', cc', S', C', M', ht', kd, k1, k2, ⟨f1, f2, f3, f4, f5⟩, k4', k5, d1, d2, d3, d4⟩ | ⟨w', w1, w2⟩
  · have hi' := k1.i
    have hle' := k1.le
    refine rp_l (k1.nw n) (rp_lt rfl (rp_l (k1.now hX n) ?_))
    by_cases hk : xrk X i' = 61
    · have hit' := hX.nx hi' (by omega)
      refine rp_lt ((hX.rk hi' 61 (by decide)).mpr hk) ?_
      rw [if_pos (show zI vc 7 6 = 61 from by rw [k1.kd]; exact (hX.ck hi' k61).mpr hk), d1, d2]
      by_cases hkd : kd = 0
      · subst hkd
        obtain ⟨v, e1, hv⟩ := k1.faulty n hX (K := kS op) (by unfold kS; omega) (by unfold kS; omega)
        obtain ⟨v2, e2, hv2⟩ := k1.refuse n hX (by omega)
        exact rp_lt rfl (rp_rt rfl (rp_l e1 (rp_r e2 (rp_end (Or.inr ⟨_, hv, hv2⟩)))))
      · have n0 : ¬ nI kd = 0 := fun z => hkd ((nI_eq (a := kd) (b := 0) (by omega) (by decide)).mp z)
        refine rp_lf n0 (rp_rf n0 ?_)
        have h123 : kd = 1 ∨ kd = 2 ∨ kd = 3 := by clear d4; omega
        obtain ⟨q, hq, dM, dh, t1, t2, t3⟩ := d4 hkd
        subst hq
        subst dM
        obtain ⟨o, ho, e0⟩ : ∃ o, ((kd = 1 ∧ o = 3) ∨ (kd = 2 ∧ o = 5) ∨ (kd = 3 ∧ o = 15)) ∧ zI vr 10 q = nI o := by
          rcases h123 with z | z | z
          · exact ⟨3, by omega, t1 z⟩
          · exact ⟨5, by omega, (t2 z).1⟩
          · exact ⟨15, by omega, t3 z⟩
        obtain ⟨s, hs⟩ : ∃ s, kd = 2 → s < S' ∧ zI vr 11 q = nI s := by
          by_cases z : kd = 2
          · obtain ⟨-, s, z1, z2, -⟩ := t2 z
            exact ⟨s, fun _ => ⟨z1, z2⟩⟩
          · exact ⟨0, fun z2 => absurd z2 z⟩
        have kb := pOk_back hX k1 (by omega) (o := o) (by omega) (by omega) e0 (fun x => kd = 2 ∧ x = s) (fun x z => Or.inr ⟨by rw [z.2]; exact (hs z.1).1, by omega, by omega, by rw [z.2]; exact (hs z.1).2⟩)
        have ka := pOk_advC hX (pOk_advR hX kb hit') hit'
        rw [k1.zp hX, hX.zpr, zgd_t]
        refine rp_rl (rp_r (c_takeBack n (xp X) k1.cc (by omega)) ?_)
        rw [kb.zp hX, hX.zpr, zgd_t]
        refine rp_rl (rp_r (c_placeTaken n (xp X) kb.cc (by omega)) ?_)
        rw [show zI (zsI vc (xp X) 3 (nI (M' q))) (xp X + 3) (M' q) = zI vc (xp X + 3) (M' q) by rw [gI_sI, if_neg (by omega)]]
        refine rp_r (kb.adv hX hit' n) (rp_ll ?_)
        rw [k1.cr, nI_pred]
        have r25 : zI (zsI vr 0 24 (nI q)) 0 25 = nI kd := by rw [gI_sI, if_neg (by omega)]; exact d1
        have r11' : zI (zsI vr 0 24 (nI q)) 11 q = zI vr 11 q := by rw [gI_sI, if_neg (by omega)]
        have r13' : zI (zsI vr 0 24 (nI q)) 13 q = zI vr 13 q := by rw [gI_sI, if_neg (by omega)]
        refine rp_ll ?_
        rw [r25, kb.cr, zin_nI (show q < 4000 by omega) (by decide), zgd_t, zx_nI (show q < 2 ^ 31 by omega), r11', r13']
        refine rp_ll ?_
        rw [zgd_t]
        refine rp_ll (rp_ll ?_)
        rw [kb.at, nI_1]
        have okA : zI (advU (zsI vc (xp X) 3 (nI (M' q))) (i' + 1)) 2 3 = 0 ↔ zI vc 2 3 = 0 := by rw [advU_I 2 3 (by omega), gI_sI, if_neg (by omega)]
        have bk := fun ok : zI vc 2 3 = 0 => k1.bk ok (o := o) (by omega) e0
        have hF : zI vc 2 3 = 0 → ∃ w, w ≤ 1500 ∧ zI vr 13 q = nI w ∧ (2 ≤ kd → zI vc (xp X + 3) (M' q) = nI w) := fun ok => by
          obtain ⟨a, b, c, x, c2, w, z1, z2, z3, z4, z5, z6⟩ := bk ok
          exact ⟨w, z3, z2, fun z => z5 (by unfold plc; omega)⟩
        have hF1 : kd = 1 → zI vc 2 3 = 0 → ∃ a, a < 12 ∧ zI vr 11 q = nI a ∧ zI vc (xp X + 2) (M' q) = nI a := fun z ok => by
          obtain ⟨a, b, c, x, c2, w, z1, z2, z3, z4, z5, z6⟩ := bk ok
          have : o = 3 := by omega
          subst this
          obtain ⟨-, y1, y2, -⟩ := insC_3.mp z6
          exact ⟨a, y2, z1, by rw [z4, y1]⟩
        have hF3 : kd = 3 → zI vc 2 3 = 0 → ∃ x, zI vc (xp X + 2) (M' q) = nI x := fun z ok => by
          obtain ⟨a, b, c, x, c2, w, z1, z2, z3, z4, z5, z6⟩ := bk ok
          exact ⟨x, z4⟩
        have post : ∀ ub, (zI ub 2 3 = 0 ↔ zI vc 2 3 = 0) → ∀ xr xc, ((∃ i2 cr2 cc2 S2 C2 M2 ht2, pOk X i2 i2 op cr2 cc2 S2 C2 tb 5000 pE0 M2 ht2 xr xc ∧ q < cr2 ∧ i' + 1 + 1 < i2 ∧ S' ≤ S2 ∧ 2 * cc2 + 2 + 3 * (i' + 1) ≤ 2 * M' q + 3 * i2 ∧ 2 * S2 + (i' + 1) ≤ 2 * S' + i2 ∧ 3 * C2 + (i' + 1) ≤ 3 * C' + i2 ∧ pEx q 0 M' ht' M2 ht2 (zsI (zsI vr 0 24 (nI q)) 0 10 (nI (i' + 1))) xr ub xc ∧ ht2 cr2 = 0) ∨ pWx X (kS op) xr xc) → pSq X i op cr cc S C M ht ur uc xr xc ∨ pWx X (kS op) xr xc := by
          intro ub hub xr xc g
          rcases g with ⟨i2, cr2, cc2, S2, C2, M2, ht2, q1, q2, q3, q4, q5, q6, q7, q8, q9⟩ | g
          · refine Or.inl ⟨i2, cr2, cc2, S2, C2, tb, M2, ht2, q1, by omega, ⟨by omega, by omega, by omega, by omega, by omega⟩, pEx_tr (pEx_0 k4') (cr' := q) (S' := 0) ⟨q8.1, fun k r hr => ?_, fun s z => absurd z (Nat.not_lt_zero s), fun z => hub.mp (q8.2.2.2 z)⟩ (by omega) (by omega), q9⟩
            have hk10 := pRw_10 hr
            rw [q8.2.1 k r hr, gI_sI, if_neg (by omega), gI_sI, if_neg (by omega)]
          · exact Or.inr g
        by_cases h2 : kd = 2
        · obtain ⟨hs1, hs2⟩ := hs h2
          refine rp_rt (show nI kd = 2 by rw [h2]; rfl) ?_
          rw [ka.zp hX, hX.zpr, zgd_t]
          obtain ⟨r, V, F', vw, y0, y1, y2, y3, y4, y5⟩ := ka.2.2.2.2.2.1
          obtain ⟨vT, u1, u2, u3, u4, u5⟩ := c_turnSite n (xp X) (c0 := xc X) y5.2.2.2.1 (by omega) ka.2.1 (zI vc (xp X + 2) (M' q)) 1
          refine rp_rl (rp_r u1 ?_)
          have okT : zI vT 2 3 = 0 ↔ zI vc 2 3 = 0 := by rw [u3 2 3 (by omega)]; exact okA
          have E1s : (fun x => kd = 2 ∧ x = s) s := ⟨h2, rfl⟩
          by_cases ok : zI vc 2 3 = 0
          · obtain ⟨a, b, c, x, c2, w, z1, z2, z3, z4, z5, z6⟩ := bk ok
            have ho5 : o = 5 := by omega
            subst ho5
            obtain ⟨z7, z8, z9, -⟩ := insC_5.mp z6
            have hS80 := k1.S80 ok
            have has : a = s := by rw [hs2] at z1; exact ((nI_eq (by omega) (by omega)).mp z1).symm
            have a19 : zI (zsI (zsI vr 0 24 (nI q)) 0 10 (nI (i' + 1))) 19 s = nI 0 := by
              obtain ⟨a', g1, -, g2, g3⟩ := (k1.2.2.2.2.2.2.2.2.1.2 ok).1 q 5 (by omega) e0 (by omega) (by omega)
              rw [hs2] at g2
              have := (nI_eq (by omega) (by omega)).mp g2
              subst this
              rw [gI_sI, if_neg (by omega), gI_sI, if_neg (by omega)]; exact g3
            have hvT := u5 s (by rw [z4, z8, has]) (by omega)
            have kt : pOk X (i' + 1) (i' + 1) op q (M' q) S' C' tb s (fun x => kd = 2 ∧ x = s) M' ht' (zsI (zsI vr 0 24 (nI q)) 0 10 (nI (i' + 1))) vT := by
              refine pOk_turn hX ka (a := s) (kr := 0) s hs1 (fun _ => E1s) (Or.inr (by omega)) (Or.inl rfl) (by omega) u2 (fun k j => ?_) ka.1 (fun k j z => u3 k j z) (fun k j => u4 k j) (fun _ => ⟨a19, fun j => ?_⟩)
              · by_cases z : k = 19 ∧ j = s
                · rw [if_pos z, z.1, z.2]; exact a19
                · rw [if_neg z]
              · rw [hvT, gI_sI, if_pos (show s = s from rfl)]
                by_cases z : j = s
                · rw [if_pos ⟨rfl, z⟩, if_pos z]; rfl
                · rw [if_neg (by omega), if_neg z]
            exact rp_mono (p_put2 n k hn hkk hX kt (kd := kd) (s := s) (by omega) (by omega) (by omega) (by omega) (by omega) _ _ _ _ (fun z => hF (okT.mp z)) (fun z z2 => hF1 z (okT.mp z2)) (fun z z2 => hF3 z (okT.mp z2)) (fun _ => ⟨hs2, hs1, fun _ => ⟨by rw [z4, z8, has], by omega, rfl, E1s, a19⟩⟩) (fun _ z => absurd h2 z)) (fun _ xr _ xc g => post vT okT xr xc g)
          · have kt := pOk_turnN hX ka (fun z => ok (okA.mp z)) ka.1 u2 (fun _ _ _ => rfl) (fun k j z => u3 k j z) (fun k j => u4 k j)
            exact rp_mono (p_put2 n k hn hkk hX kt (kd := kd) (s := s) (by omega) (by omega) (by omega) (by omega) (by omega) _ _ _ _ (fun z => hF (okT.mp z)) (fun z z2 => hF1 z (okT.mp z2)) (fun z z2 => hF3 z (okT.mp z2)) (fun _ => ⟨hs2, hs1, fun z => absurd (okT.mp z) ok⟩) (fun _ z => absurd h2 z)) (fun _ xr _ xc g => post vT okT xr xc g)
        · refine rp_rf (fun z => h2 ((nI_eq (a := kd) (b := 2) (by omega) (by decide)).mp z)) ?_
          exact rp_mono (p_put2 n k hn hkk hX ka (kd := kd) (s := s) (by omega) (by omega) (by omega) (by omega) (by omega) _ _ _ _ (fun z => hF (okA.mp z)) (fun z z2 => hF1 z (okA.mp z2)) (fun z z2 => hF3 z (okA.mp z2)) (fun z => absurd z h2) (fun _ _ => rfl)) (fun _ xr _ xc g => post _ okA xr xc g)
    · refine rp_lf (fun z => hk ((hX.rk hi' 61 (by decide)).mp z)) ?_
      rw [if_neg (show ¬ zI vc 7 6 = 61 from c_ne hX k1 k61 hk), k1.zp hX, hX.zpr, zgd_t]
      refine rp_rl ?_
      refine rp_mono (p_tail n hX k1 (fun u => u) k1 (fun q => pOk_advR hX k1 q) (fun _ _ _ q => q) (K := 2270 + 8 * (9 - op) + 4) (by omega) (by omega) (by omega) (o := 20) (a := 0) (b := 0) (w := 0) (c := 5) (x := 0) (wc := 0) (a' := 0) (x' := 0) 0 pE0 (fun _ q => q) (by omega) (by omega) (by omega) (by omega) (by omega) (by omega) (fun _ => rfl) (fun _ => rfl) (fun q => by unfold plc at q; omega)
        (fun _ q => insC_20.mpr ⟨rfl, rfl, by omega, rfl⟩) (fun _ _ z1 z2 _ => by omega)) (fun _ vr2 _ vc2 g => ?_)
      rcases g with ⟨q0, M2, ht2, q1, q2, q3⟩ | ⟨w', w1, w2⟩
      · exact Or.inl ⟨i' + 1, cr' + 1, cc' + 1, S', C', tb, M2, ht2, q1, by omega, ⟨by omega, by omega, by omega, by omega, by omega⟩, pEx_0 (pEx_tr (pEx_tr k4' ((pSm_R 10 _).ex cr' S' M' ht') (by omega) f2) q2 (by omega) f2), q3⟩
      · exact Or.inr ⟨w', bR1_K w1 (by unfold kS; omega), w2⟩
  · refine rp_l (r1_isWrong n w1) (rp_lf (by decide) ?_)
    rw [if_neg (show ¬ zI vc 7 6 = 61 from by rw [w2.2.2.2.2.1]; decide), bC_zp hX w2.1, hX.zpr, zgd_t]
    obtain ⟨r6, v6, e6, q6⟩ := w1_emit n hX w2 5 0 0
    obtain ⟨v7, e7, q7⟩ := w1_expect n hX q6 (x := 59) (by decide)
    exact rp_rl (rp_r e6 (rp_r e7 (rp_end (Or.inr ⟨w', bR1_K w1 (by unfold kS; omega), q7⟩))))
