/-! PARSING, steps, fifth part: an instruction whose place in the class may be any -/
theorem pCo_emitP {p S : Nat} {ur uc : zMu} {cr cc tb : Nat} {M ht : Nat → Nat} {ok : Prop} (hp : 12 ≤ p) (h : pCo p S ur uc cr cc tb M ht ok) {o a b w c x : Nat} {y : Int32} (a' : Int32) (x' : Int32) (h1 : Nat) (hw : w ≤ 1500) (hh : ht cr ≤ 60) (ha : ok → a' = nI a) (hx : ok → x' = nI x) (hpl : plc o ∨ (o = 12 ∧ a = 1) → y = nI w)
    (hi : ok → insC S o a b c x cc (cc + 1) (ht cr) h1 (jT tb M ht ur cr) 0) :
    pCo p S (emR ur cr (nI o) a' (nI b) (nI w)) (emC uc p cc (nI c) x' y) (cr + 1) (cc + 1) tb (fun r => if r = cr + 1 then cc + 1 else M r) (fun r => if r = cr + 1 then h1 else ht r) ok := by
  have hmono := pCo_mono h
  obtain ⟨g1, g2, g3, g4, g5, gt, g6⟩ := h
  refine ⟨rfl, by simp [emC, gI_sI], by simp [g3], by simp, fun r hr => ?_, by omega, fun hok r hr => ?_⟩
  · by_cases e : r = cr
    · subst e
      simp [g4]
    · have e1 : ¬ r = cr + 1 := by omega
      have e2 : ¬ r + 1 = cr + 1 := by omega
      simp only [e1, e2, if_false]
      exact g5 r (by omega)
  · by_cases e : r = cr
    · subst e
      have e1 : ¬ r = r + 1 := by omega
      refine ⟨o, a, b, c, x, 0, w, ?_, ?_, ?_, ?_, hw, ?_, ?_, ?_, ?_, ?_, ?_⟩
      · simp [emR, gI_sI]
      · rw [← ha hok]; simp [emR, gI_sI]
      · simp [emR, gI_sI]
      · simp [emR, gI_sI]
      · simp only [e1, if_false, g4]; simp [emC, gI_sI]
      · simp only [e1, if_false, g4]; rw [← hx hok]; simp [emC, gI_sI]
      · intro q
        simp only [e1, if_false, if_true, g4] at q
        omega
      · intro q
        rw [← hpl q]
        simp only [e1, if_false, g4]
        simp [emC, gI_sI]
      · simp only [e1, if_false]; exact hh
      · simp only [e1, if_false, if_true, g4]
        refine insC_mono (hi hok) (fun q => ?_)
        obtain ⟨q1, q2, q3, q4, q5⟩ := q
        have e3 : ¬ a = r + 1 := by omega
        refine ⟨q1, q2.trans (if_neg e3).symm, (if_neg e3).trans q3, q4, ?_⟩
        rcases q5 with q5 | ⟨q5, q6⟩ | q5
        · exact Or.inl q5
        · exact Or.inr (Or.inl ⟨q5, by rw [emR_keep q5 (by decide)]; exact q6⟩)
        · exact Or.inr (Or.inr q5)
    · have e1 : ¬ r = cr + 1 := by omega
      have e2 : ¬ r + 1 = cr + 1 := by omega
      have hr' : r < cr := by omega
      obtain ⟨o, a, b, c, x, c2, w, i1, i2, i3, i4, i5, i6, i7, i8, i9, i10, i11⟩ := g6 hok r hr'
      have hM : M r < cc := by have := hmono r cr (by omega) (by omega); omega
      have hM2 : M (r + 1) ≤ cc := by have := hmono (r + 1) cr (by omega) (by omega); omega
      refine ⟨o, a, b, c, x, c2, w, ?_, ?_, ?_, ?_, i5, ?_, ?_, ?_, ?_, ?_, ?_⟩
      · rw [emR_keep hr' (by decide)]; exact i1
      · rw [emR_keep hr' (by decide)]; exact i2
      · rw [emR_keep hr' (by decide)]; exact i3
      · rw [emR_keep hr' (by decide)]; exact i4
      · simp only [e1, if_false]; rw [emC_keep hM (by omega)]; exact i6
      · simp only [e1, if_false]; rw [emC_keep hM (by omega)]; exact i7
      · simp only [e1, e2, if_false]
        intro q
        rw [emC_keep (show M r + 1 < cc by omega) (by omega), emC_keep (show M r + 1 < cc by omega) (by omega)]
        exact i8 q
      · simp only [e1, if_false]; rw [emC_keep hM (by omega)]; exact i9
      · simp only [e1, if_false]; exact i10
      · simp only [e1, e2, if_false]
        refine insC_mono i11 (fun q => ?_)
        obtain ⟨q1, q2, q3, q4, q5⟩ := q
        have e3 : ¬ a = cr + 1 := by omega
        refine ⟨q1, q2.trans (if_neg e3).symm, (if_neg e3).trans q3, q4, ?_⟩
        rcases q5 with q5 | ⟨q5, q6⟩ | q5
        · exact Or.inl q5
        · exact Or.inr (Or.inl ⟨q5, by rw [emR_keep (by omega) (by decide)]; exact q6⟩)
        · exact Or.inr (Or.inr q5)
theorem pOk_emitP {X : pCx} {i i2 op cr cc S C tb e : Nat} {E : Nat → Prop} {M ht : Nat → Nat} {ur uc : zMu} (hX : xOk X) (h : pOk X i i2 op cr cc S C tb e E M ht ur uc) {o a b w c x : Nat} {a' x' y : Int32} (h1 : Nat) (E' : Nat → Prop) (hE : ∀ s, E' s → E s) (hw : w ≤ 1500) (hh : ht cr ≤ 60) (ho : o ≤ 23) (h17 : o ≠ 17) (ha : zI uc 2 3 = 0 → a' = nI a) (hx : zI uc 2 3 = 0 → x' = nI x) (hpl : plc o ∨ (o = 12 ∧ a = 1) → y = nI w)
    (hi : zI uc 2 3 = 0 → insC 80 o a b c x cc (cc + 1) (ht cr) h1 (jT tb M ht ur cr) 0) (hs : 5 ≤ o → o ≤ 8 → zI uc 2 3 = 0 → E a ∧ ¬ E' a ∧ zI ur 19 a = nI (o - 5)) :
    pOk X i i2 op (cr + 1) (cc + 1) S C tb e E' (fun r => if r = cr + 1 then cc + 1 else M r) (fun r => if r = cr + 1 then h1 else ht r) (emR ur cr (nI o) a' (nI b) (nI w)) (emC uc (xp X) cc (nI c) x' y) := by
  have htb := h.tb
  have hS : S ≤ 800 := by obtain ⟨r, V, F, vw, h0⟩ := h.2.2.2.2.2.1; exact h0.2.2.2.2.2.1
  obtain ⟨g1, g2, g3, g4, g5, g6, g7, g8, g9, g10⟩ := h
  have hp := hX.p12
  have hr : ∀ k j, ¬ (k = 0 ∧ j = 24) → ¬ (10 ≤ k ∧ k ≤ 13) → zI (emR ur cr (nI o) a' (nI b) (nI w)) k j = zI ur k j := fun k j q q2 => emR_W k j q (by omega)
  have hc : ∀ k j, ¬ (k = xp X ∧ j = 3) → ¬ (xp X + 1 ≤ k ∧ k ≤ xp X + 3 ∧ j = cc) → zI (emC uc (xp X) cc (nI c) x' y) k j = zI uc k j := fun k j q q2 => emC_W k j q q2
  have hok : zI (emC uc (xp X) cc (nI c) x' y) 2 3 = 0 → zI uc 2 3 = 0 := fun q => by rw [hc 2 3 (by omega) (by omega)] at q; exact q
  have hmono := pCo_mono g8
  have hM4 := g8.2.2.2.1
  refine ⟨fPR_em g1, fPC_em g2, pAt_keep g3 (hr 0 10 (by omega) (by omega)) (fun j => hc 7 j (by omega) (by omega)) (fun _ => rfl) (fun _ => rfl), ⟨(hr 0 15 (by omega) (by omega)).trans g4.1, (hc 2 2 (by omega) (by omega)).trans g4.2⟩, ⟨g5.1, (hr 0 26 (by omega) (by omega)).trans g5.2.1, (hc 2 5 (by omega) (by omega)).trans g5.2.2⟩, ?_, ?_, ?_, ?_, ?_⟩
  · exact pVs_keep g6 (Nat.le_refl _) (fun q hq => ⟨if_neg (by omega), if_neg (by omega)⟩) (fun k j q => hr k j (by omega) (by omega)) (fun k j q => hc k j (by omega) (by omega)) (fun k j q => rfl) hok
  · exact pFt_keep g7 (Nat.le_refl _) (fun j q => hr 0 j (by omega) (by omega)) (fun j q => hc 2 j (by omega) (by omega))
  · exact pCo_keep (pCo_emitP hp g8 a' x' h1 hw hh ha hx hpl hi) hok (fun _ _ _ => rfl) (fun _ _ _ => rfl)
  · exact pSx_emit g9 hE ho hok (fun a1 a2 a3 => ⟨ha a3, hs a1 a2 a3⟩) hS
  · exact pCa_emit (cc := cc) g10 ho h17 (fun q hq => ⟨if_neg (by omega), by have := hmono q cr (by omega) (by omega); omega⟩) (fun k j q => hc k j (by omega) (by omega)) (fun _ => rfl)
theorem pOk_eN {X : pCx} {i i2 op cr cc S C tb e : Nat} {E : Nat → Prop} {M ht : Nat → Nat} {ur uc : zMu} (h : pOk X i i2 op cr cc S C tb e E M ht ur uc) (ok : ¬ zI uc 2 3 = 0) : pOk X i i2 op cr cc S C tb 5000 E M ht ur uc := by
  obtain ⟨g1, g2, g3, g4, g5, ⟨r, V, F, vw, h0, h1, h2, h3, h4, s1, s2, s3, s4, s5⟩, g7⟩ := h
  exact ⟨g1, g2, g3, g4, g5, ⟨r, V, F, vw, h0, h1, h2, h3, h4, s1, Or.inr (by omega), s3, s4, fun q => absurd q ok⟩, g7⟩
/-- the second E of a put, and the put -/
theorem p_put2 (n k : Nat) (hn : 2000 ≤ n) (hkk : 120 ≤ k) {X : pCx} (hX : xOk X) {i op q cc S C tb e1 kd s : Nat} {E1 : Nat → Prop} {M ht : Nat → Nat} {ur uc : zMu} (h : pOk X i i op q cc S C tb e1 E1 M ht ur uc) (hh : ht q = kd) (c1 : 2 * cc ≤ 3 * i + 2) (c2 : 2 * S ≤ i) (c3 : 3 * C ≤ i) (hkd : 1 ≤ kd ∧ kd ≤ 3) (v14 v15 r8 r11 : Int32)
    (F : zI uc 2 3 = 0 → ∃ w, w ≤ 1500 ∧ v15 = nI w ∧ (2 ≤ kd → r11 = nI w))
    (F1 : kd = 1 → zI uc 2 3 = 0 → ∃ a, a < 12 ∧ v14 = nI a ∧ r8 = nI a) (F3 : kd = 3 → zI uc 2 3 = 0 → ∃ x, r8 = nI x)
    (F2 : kd = 2 → v14 = nI s ∧ s < S ∧ (zI uc 2 3 = 0 → r8 = nI s ∧ s < 80 ∧ e1 = s ∧ E1 s ∧ zI ur 19 s = nI 0)) (F0 : zI uc 2 3 = 0 → kd ≠ 2 → e1 = 5000) :
    Rp (zbd (rf_expr n k ur) fun _ u18 => zbd (rf_want n u18 59) fun _ u20 => if nI kd = 1 then (zbd (rf_emit n u20 4 v14 0 v15) fun _ u23 => some ((), u23)) else (if nI kd = 2 then (zgd (zin v14 800) (zlet (zsI u20 19 (zx v14) 1) fun u25 => zbd (rf_emit n u25 6 v14 0 v15) fun _ u27 => some ((), u27))) else (zbd (rf_emit n u20 16 0 0 v15) fun _ u29 => some ((), u29)))) (ce_C_compilePut_J82 n k uc (nI kd) r8 r11)
      (fun _ vr _ vc => (∃ i' cr' cc' S' C' M' ht', pOk X i' i' op cr' cc' S' C' tb 5000 pE0 M' ht' vr vc ∧ q < cr' ∧ i + 1 < i' ∧ S ≤ S' ∧ 2 * cc' + 2 + 3 * i ≤ 2 * cc + 3 * i' ∧ 2 * S' + i ≤ 2 * S + i' ∧ 3 * C' + i ≤ 3 * C + i' ∧ pEx q 0 M ht M' ht' ur vr uc vc ∧ ht' cr' = 0) ∨ pWx X (kS op) vr vc) := by
  have hp := hX.p12
  have hT := hX.T
  have hop := h.op8
  have hi := h.i
  unfold ce_C_compilePut_J82
  refine rp_bd (rp_mono (s_E n hn hop X hX k k i q cc S C tb e1 E1 M ht ur uc hkk hkk h (by omega) c1 c2 c3) (fun _ yr rc yc g => ?_))
  rcases g with ⟨i2, cr2, cc2, S2, C2, M2, ht2, kd2, k1, k2, ⟨f1, f2, f3, f4, f5⟩, k4', k5, -⟩ | ⟨w', w1, w2⟩
  · have hi2 := k1.i
    have hle2 := k1.le
    have ok1 : zI yc 2 3 = 0 → zI uc 2 3 = 0 := k4'.2.2.2
    have fin : ∀ (mid : zMu → zMu) o a' b' c' z', (∀ u k r, 10 ≤ k → k ≤ 15 → zI (mid u) k r = zI u k r) → ∀ vr vc, ((i2 < xT X ∧ pOk X (i2 + 1) (i2 + 1) op (cr2 + 1) (cc2 + 1) S2 C2 tb 5000 pE0 (fun r => if r = cr2 + 1 then cc2 + 1 else M2 r) (fun r => if r = cr2 + 1 then 0 else ht2 r) vr vc ∧ vr = emR (mid (zsI yr 0 10 (nI (i2 + 1)))) cr2 (nI o) a' b' v15 ∧ vc = advU (emC yc (xp X) cc2 c' r8 z') (i2 + 1)) ∨ pWx X (2270 + 8 * (9 - op) + 4 + 1) vr vc) → (∃ i' cr' cc' S' C' M' ht', pOk X i' i' op cr' cc' S' C' tb 5000 pE0 M' ht' vr vc ∧ q < cr' ∧ i + 1 < i' ∧ S ≤ S' ∧ 2 * cc' + 2 + 3 * i ≤ 2 * cc + 3 * i' ∧ 2 * S' + i ≤ 2 * S + i' ∧ 3 * C' + i ≤ 3 * C + i' ∧ pEx q 0 M ht M' ht' ur vr uc vc ∧ ht' cr' = 0) ∨ pWx X (kS op) vr vc := by
      intro mid o a' b' c' z' hmid vr vc g
      rcases g with ⟨q0, q1, q2, q3⟩ | ⟨w', q1, q2⟩
      · refine Or.inl ⟨i2 + 1, cr2 + 1, cc2 + 1, S2, C2, _, _, q1, by omega, by omega, by omega, by omega, by omega, by omega, ?_, if_pos rfl⟩
        refine pEx_tr (pEx_0 k4') (cr' := cr2) (S' := 0) ⟨fun r hr => ⟨if_neg (by omega), if_neg (by omega)⟩, fun k r hr => ?_, fun s z => absurd z (Nat.not_lt_zero s), fun z => ?_⟩ (by omega) (by omega)
        · have hk10 := pRw_10 hr
          rw [q2, emR_rw hr, hmid _ _ _ hk10.1 hk10.2, gI_sI, if_neg (by omega)]
        · rw [q3, advU_I 2 3 (by omega), emC_W 2 3 (by omega) (by omega)] at z; exact z
      · exact Or.inr ⟨w', bR1_K q1 (by unfold kS; omega), q2⟩
    have sh : ∀ w, w ≤ 1500 → vp_nar .short ((nI w).toInt16.toInt32) = nI w := fun w hw => by rw [vp_nar_short, sh16 (k := w) (by omega), sh16 (k := w) (by omega)]
    by_cases h1 : kd = 1
    · subst h1
      rw [if_pos (show nI 1 = 1 from rfl), k1.zp hX, hX.zpr, zgd_t]
      simp only [if_pos (show nI 1 = 1 from rfl)]
      have em : ∀ j u, pOk X j i2 op cr2 cc2 S2 C2 tb e1 E1 M2 ht2 u yc → pOk X j i2 op (cr2 + 1) (cc2 + 1) S2 C2 tb 5000 pE0 (fun r => if r = cr2 + 1 then cc2 + 1 else M2 r) (fun r => if r = cr2 + 1 then 0 else ht2 r) (emR u cr2 (nI 4) v14 0 v15) (emC yc (xp X) cc2 (nI 4) r8 (vp_nar .short (r11.toInt16.toInt32))) := by
        intro j u hu
        by_cases ok : zI yc 2 3 = 0
        · obtain ⟨w, z1, z2, -⟩ := F (ok1 ok)
          obtain ⟨a, z3, z4, z5⟩ := F1 rfl (ok1 ok)
          rw [F0 (ok1 ok) (by omega)] at hu
          rw [z4, z2, z5]
          exact pOk_emitP hX hu (o := 4) (a := a) (b := 0) (w := w) (c := 4) (x := a) 0 pE0 (fun _ z => absurd z id) z1 (by omega) (by omega) (by omega) (fun _ => rfl) (fun _ => rfl) (fun z => by unfold plc at z; omega) (fun _ => insC_4.mpr ⟨rfl, rfl, z3, rfl, by omega, rfl⟩) (fun z1 z2 _ => by omega)
        · exact pOk_emitN hX (pOk_eN hu ok) ok (by omega) (by omega) _ _ _ _ _ _ 0 pE0 (fun _ z => absurd z id)
      exact rp_mono (p_tail2 n hX k1 (fun u => u) (fun _ => rfl) (fun _ _ _ q => q) (K := 2270 + 8 * (9 - op) + 4) (by omega) (by omega) (by omega) (o := 4) (a' := v14) (b' := 0) (wf := fun _ => v15) (c_emit_any n (xp X) k1.cc (by omega) (o := 4) (by omega) r8 r11) (em _ _ k1) (fun z => em _ _ (pOk_advR hX k1 z))) (fun _ xr _ xc g => fin (fun u => u) _ _ _ _ _ (fun _ _ _ _ _ => rfl) xr xc g)
    · have n1 : ¬ nI kd = 1 := fun z => h1 ((nI_eq (a := kd) (b := 1) (by omega) (by decide)).mp z)
      rw [if_neg n1, k1.zp hX, hX.zpr, zgd_t]
      simp only [if_neg n1]
      refine rp_rl ?_
      by_cases h2 : kd = 2
      · subst h2
        obtain ⟨d1, d2, d3⟩ := F2 rfl
        rw [if_pos (show nI 2 = 2 from rfl)]
        have hz : zin (nI s) 800 = true := zin_nI (by omega) (by decide)
        have hx : zx (nI s) = s := zx_nI (by omega)
        simp only [if_pos (show nI 2 = 2 from rfl), d1, hz, hx, zgd_t]
        have em : ∀ j u, pOk X j i2 op cr2 cc2 S2 C2 tb e1 E1 M2 ht2 u yc → zI u 19 s = zI yr 19 s → pOk X j i2 op (cr2 + 1) (cc2 + 1) S2 C2 tb 5000 pE0 (fun r => if r = cr2 + 1 then cc2 + 1 else M2 r) (fun r => if r = cr2 + 1 then 0 else ht2 r) (emR (zsI u 19 s 1) cr2 (nI 6) (nI s) 0 v15) (emC yc (xp X) cc2 (nI 14) r8 (vp_nar .short (r11.toInt16.toInt32))) := by
          intro j u hu u19
          by_cases ok : zI yc 2 3 = 0
          · obtain ⟨w, z1, z2, z3⟩ := F (ok1 ok)
            obtain ⟨y1, y2, y3, y4, y5⟩ := d3 (ok1 ok)
            have y6 : zI u 19 s = nI 0 := by rw [u19, k4'.2.2.1 s d2]; exact y5
            have hS80 := k1.S80 ok
            obtain ⟨r, V, F', vw, x0, x1, x2, x3, x4, x5⟩ := hu.2.2.2.2.2.1
            have kt : pOk X j i2 op cr2 cc2 S2 C2 tb 5000 E1 M2 ht2 (zsI u 19 s 1) yc := by
              refine pOk_turn hX hu (a := s) (kr := 1) 5000 (by omega) (fun _ => y4) (Or.inl y3) (Or.inr (by omega)) (by omega) hu.2.1 (fun k j => gI_sI _ _ _ _ _ _) (fPR_I hu.1 (by unfold pwR; omega)) (fun _ _ _ => rfl) (fun _ _ => rfl) (fun _ => ⟨y6, fun jj => ?_⟩)
              by_cases z : jj = s
              · rw [if_pos z, if_neg (show ¬ 5000 = s by omega), z]
                obtain ⟨kk, P, g1, g2, g3, g4, -⟩ := (x5.2.2.2.2 ok).2 s (by omega)
                rw [g4, if_pos y3.symm]
              · rw [if_neg z]
            rw [z2, z3 (by omega), y1, sh w z1]
            exact pOk_emit hX kt (o := 6) (a := s) (b := 0) (w := w) (c := 14) (x := s) (wc := w) 0 pE0 (fun _ z => absurd z id) z1 (by omega) (by omega) (by omega) (fun _ => rfl) (fun _ => rfl) (fun _ => rfl) (fun _ => insC_6.mpr ⟨rfl, rfl, y2, rfl, by omega, rfl⟩) (fun _ _ _ => ⟨y4, id, by rw [gI_sI, if_pos ⟨rfl, rfl⟩]; rfl⟩)
          · have kt := pOk_turnN hX (pOk_eN hu ok) ok (fPR_I hu.1 (k := 19) (j := s) (x := 1) (by unfold pwR; omega)) hu.2.1 (fun k j z => by rw [gI_sI, if_neg (by omega)]) (fun _ _ _ => rfl) (fun _ _ => rfl)
            exact pOk_emitN hX kt ok (by omega) (by omega) _ _ _ _ _ _ 0 pE0 (fun _ z => absurd z id)
        exact rp_mono (p_tail2 n hX k1 (fun u => zsI u 19 s 1) (fun u => by rw [gI_sI, if_neg (by omega)]) (fun _ _ _ q => bR1_set q 1 (by unfold pwR; omega) (by omega)) (K := 2270 + 8 * (9 - op) + 4) (by omega) (by omega) (by omega) (o := 6) (a' := nI s) (b' := 0) (wf := fun _ => v15) (c_emit_any n (xp X) k1.cc (by omega) (o := 14) (by omega) r8 r11) (em _ _ k1 rfl) (fun z => em _ _ (pOk_advR hX k1 z) (by rw [gI_sI, if_neg (by omega)]))) (fun _ xr _ xc g => fin (fun u => zsI u 19 s 1) _ _ _ _ _ (fun u k r _ _ => by rw [gI_sI, if_neg (by omega)]) xr xc g)
      · have h3 : kd = 3 := by omega
        subst h3
        rw [if_neg (show ¬ nI 3 = 2 by decide)]
        simp only [if_neg (show ¬ nI 3 = 2 by decide)]
        have em : ∀ j u, pOk X j i2 op cr2 cc2 S2 C2 tb e1 E1 M2 ht2 u yc → pOk X j i2 op (cr2 + 1) (cc2 + 1) S2 C2 tb 5000 pE0 (fun r => if r = cr2 + 1 then cc2 + 1 else M2 r) (fun r => if r = cr2 + 1 then 0 else ht2 r) (emR u cr2 (nI 16) 0 0 v15) (emC yc (xp X) cc2 (nI 18) r8 (vp_nar .short (r11.toInt16.toInt32))) := by
          intro j u hu
          by_cases ok : zI yc 2 3 = 0
          · obtain ⟨w, z1, z2, z3⟩ := F (ok1 ok)
            obtain ⟨x, z4⟩ := F3 rfl (ok1 ok)
            rw [F0 (ok1 ok) (by omega)] at hu
            rw [z2, z3 (by omega), z4, sh w z1]
            exact pOk_emit hX hu (o := 16) (a := 0) (b := 0) (w := w) (c := 18) (x := x) (wc := w) 0 pE0 (fun _ z => absurd z id) z1 (by omega) (by omega) (by omega) (fun _ => rfl) (fun _ => rfl) (fun _ => rfl) (fun _ => insC_16.mpr ⟨rfl, rfl, by omega, rfl⟩) (fun z1 z2 _ => by omega)
          · exact pOk_emitN hX (pOk_eN hu ok) ok (by omega) (by omega) _ _ _ _ _ _ 0 pE0 (fun _ z => absurd z id)
        exact rp_mono (p_tail2 n hX k1 (fun u => u) (fun _ => rfl) (fun _ _ _ q => q) (K := 2270 + 8 * (9 - op) + 4) (by omega) (by omega) (by omega) (o := 16) (a' := 0) (b' := 0) (wf := fun _ => v15) (c_emit_any n (xp X) k1.cc (by omega) (o := 18) (by omega) r8 r11) (em _ _ k1) (fun z => em _ _ (pOk_advR hX k1 z))) (fun _ xr _ xc g => fin (fun u => u) _ _ _ _ _ (fun _ _ _ _ _ => rfl) xr xc g)
  · rw [bC_zp hX w2.1, hX.zpr, zgd_t, zgd_t]
    have wq : ∀ vr vc, pWx X (2270 + 8 * (9 - op) + 4 + 1) vr vc → pWx X (kS op) vr vc := fun vr vc ⟨w, a, b⟩ => ⟨w, bR1_K a (by unfold kS; omega), b⟩
    by_cases h1 : kd = 1
    · subst h1
      rw [if_pos (show nI 1 = 1 from rfl)]
      simp only [if_pos (show nI 1 = 1 from rfl)]
      exact p_tailw n hX w1 w2 (by omega) (fun u => u) (fun _ _ _ q => q) _ _ _ _ _ _ _ (fun vr vc z => Or.inr (wq _ _ z))
    · have n1 : ¬ nI kd = 1 := fun z => h1 ((nI_eq (a := kd) (b := 1) (by omega) (by decide)).mp z)
      rw [if_neg n1]
      simp only [if_neg n1]
      refine rp_rl ?_
      by_cases h2 : kd = 2
      · subst h2
        obtain ⟨d1, d2, -⟩ := F2 rfl
        rw [if_pos (show nI 2 = 2 from rfl)]
        have hS := h.2.2.2.2.2.1
        obtain ⟨r, V, F', vw, x0, x1, x2, x3, x4, x5⟩ := hS
        have hz : zin (nI s) 800 = true := zin_nI (by have := x5.1; omega) (by decide)
        have hx : zx (nI s) = s := zx_nI (by have := x5.1; omega)
        simp only [if_pos (show nI 2 = 2 from rfl), d1, hz, hx, zgd_t]
        exact p_tailw n hX w1 w2 (by omega) (fun u => zsI u 19 s 1) (fun _ _ _ q => bR1_set q 1 (by unfold pwR; omega) (by omega)) _ _ _ _ _ _ _ (fun vr vc z => Or.inr (wq _ _ z))
      · have h3 : kd = 3 := by omega
        subst h3
        rw [if_neg (show ¬ nI 3 = 2 by decide)]
        simp only [if_neg (show ¬ nI 3 = 2 by decide)]
        exact p_tailw n hX w1 w2 (by omega) (fun u => u) (fun _ _ _ q => q) _ _ _ _ _ _ _ (fun vr vc z => Or.inr (wq _ _ z))
