/-! PARSING, steps, first part -/
theorem pOk_tb {X : pCx} {i i2 op cr cc S C tb e tb' : Nat} {E : Nat → Prop} {M ht : Nat → Nat} {ur uc : zMu} (h : pOk X i i2 op cr cc S C tb e E M ht ur uc) (h1 : tb ≤ tb') (h2 : tb' ≤ cr) : pOk X i i2 op cr cc S C tb' e E M ht ur uc := by
  obtain ⟨g1, g2, g3, g4, g5, g6, g7, g8, g9, g10⟩ := h
  obtain ⟨d1, d2, d3, d4, d5, d6, d7⟩ := g8
  exact ⟨g1, g2, g3, g4, g5, pVs_keep g6 h1 (fun _ _ => ⟨rfl, rfl⟩) (fun _ _ _ => rfl) (fun _ _ _ => rfl) (fun _ _ _ => rfl) (fun q => q), g7, ⟨d1, d2, d3, d4, d5, h2, fun q r hr => pIns_tb (d7 q r hr) h1⟩, g9, g10⟩
/-- the end of a step: ; for the reference, then an instruction; the class the other way round -/
theorem p_tail (n : Nat) {X : pCx} (hX : xOk X) {i op cr cc S C tb e0 e : Nat} {E0 E : Nat → Prop} {M ht : Nat → Nat} {ur uc : zMu} (h : pOk X i i op cr cc S C tb e0 E0 M ht ur uc) (mid : zMu → zMu) (T1 : pOk X i i op cr cc S C tb e E M ht (mid ur) uc) (T2 : i < xT X → pOk X (i + 1) i op cr cc S C tb e E M ht (mid (zsI ur 0 10 (nI (i + 1)))) uc) (T3 : ∀ w K u, bR1 X w K u → bR1 X w K (mid u)) {K : Nat} (hK : 2260 ≤ K) (hK2 : K < 3000) (hcc : 2 * cc ≤ 3 * i + 3)
    {o a b w c x wc : Nat} {a' x' : Int32} (h1 : Nat) (E' : Nat → Prop) (hE : ∀ s, E' s → E s) (hw : w ≤ 1500) (hh : ht cr ≤ 60) (ho : o ≤ 23) (h17 : o ≠ 17) (hc : c < 128) (hwc : wc ≤ 1500) (ha : zI uc 2 3 = 0 → a' = nI a) (hx : zI uc 2 3 = 0 → x' = nI x) (hpl : plc o ∨ (o = 12 ∧ a = 1) → wc = w)
    (hi : ∀ u, zI uc 2 3 = 0 → insC 80 o a b c x cc (cc + 1) (ht cr) h1 (jT tb M ht u cr) 0) (hs : ∀ u, (u = mid ur ∨ u = mid (zsI ur 0 10 (nI (i + 1)))) → 5 ≤ o → o ≤ 8 → zI uc 2 3 = 0 → E a ∧ ¬ E' a ∧ zI u 19 a = nI (o - 5)) :
    Rp (zbd (rf_want n ur 59) fun _ u5 => zbd (rf_emit n (mid u5) (nI o) a' (nI b) (nI w)) fun _ u8 => some ((), u8)) (zbd (ce_P_emit n (xp X) uc (nI c) x' (nI wc)) fun r6 u7 => zbd (ce_C_expect n u7 59) fun _ u9 => some ((), u9))
      (fun _ vr _ vc => (i < xT X ∧ ∃ M' ht', pOk X (i + 1) (i + 1) op (cr + 1) (cc + 1) S C tb e E' M' ht' vr vc ∧ pEx cr S M ht M' ht' (mid (zsI ur 0 10 (nI (i + 1)))) vr uc vc ∧ ht' (cr + 1) = h1) ∨ pWx X (K + 1) vr vc) := by
  have hp := hX.p12
  have hT := hX.T
  have hii := h.i
  have hle := h.le
  have k59 : kRel 59 59 := by unfold kRel isSg; omega
  refine rp_r (c_emit n (xp X) h.cc (by omega) hc (by omega) x') ?_
  by_cases hk : xrk X i = 59
  · have hit := hX.nx hii (by omega)
    have em := pOk_emit hX (T2 hit) h1 E' hE hw hh ho h17 ha hx hpl (hi _) (hs _ (Or.inr rfl))
    refine rp_l (show rf_want n ur 59 = _ from r_want_ok n hX h hk) (rp_l (r_emit n (T2 hit).cr (by omega) (nI o) a' (nI b) (nI w)) (rp_r (show ce_C_expect n _ 59 = _ from c_expect_ok n hX em k59 hk (by omega)) (rp_end (Or.inl ⟨hit, _, _, pOk_advC hX em hit, ?_, if_pos rfl⟩))))
    exact pEx_tr (pEx_em (S := S) hp) ((pSm_adv _).ex (cr + 1) S _ _) (by omega) (by omega)
  · have em := pOk_emit hX T1 h1 E' hE hw hh ho h17 ha hx hpl (hi _) (hs _ (Or.inl rfl))
    obtain ⟨v, e1, hv⟩ := r_want_no n hX h (k := 59) (K := K) (by decide) hk (by omega) (by omega)
    obtain ⟨v3, e3, q3⟩ := r1_emit n (T3 _ _ _ hv) (by omega) (nI o) a' (nI b) (nI w)
    obtain ⟨v2, e2, hv2⟩ := w0_expect n hX (em.bC (by omega)) (x := 59) (c_ne hX em k59 hk)
    exact rp_l (show rf_want n ur 59 = _ from e1) (rp_l e3 (rp_r e2 (rp_end (Or.inr ⟨_, q3, hv2⟩))))
theorem p_tailw (n : Nat) {X : pCx} (hX : xOk X) {w' K : Nat} {ur uc : zMu} (w1 : bR1 X w' K ur) (w2 : bC1 X w' uc) (hK2 : K < 3000) (mid : zMu → zMu) (T3 : ∀ w K u, bR1 X w K u → bR1 X w K (mid u)) (o a b w c x wc : Int32) {Q : Unit → zMu → Unit → zMu → Prop} (hQ : ∀ vr vc, pWx X (K + 1) vr vc → Q () vr () vc) :
    Rp (zbd (rf_want n ur 59) fun _ u5 => zbd (rf_emit n (mid u5) o a b w) fun _ u8 => some ((), u8)) (zbd (ce_P_emit n (xp X) uc c x wc) fun r6 u7 => zbd (ce_C_expect n u7 59) fun _ u9 => some ((), u9)) Q := by
  obtain ⟨v3, e3, q3⟩ := r1_emit n (T3 _ _ _ w1) (by omega) o a b w
  obtain ⟨r8, v5, e5, q5⟩ := w1_emit n hX w2 c x wc
  obtain ⟨v6, e6, q6⟩ := w1_expect n hX q5 (x := 59) (by decide)
  exact rp_l (r1_want n w1 59) (rp_l e3 (rp_r e5 (rp_r e6 (rp_end (hQ _ _ ⟨w', q3, q6⟩)))))
def pE0 : Nat → Prop := fun _ => False
def pSo (X : pCx) (i op cr cc S C : Nat) (M ht : Nat → Nat) (ur uc vr vc : zMu) : Prop :=
  ∃ i' cr' cc' S' C' tb' M' ht', pOk X i' i' op cr' cc' S' C' tb' 5000 pE0 M' ht' vr vc ∧ cr < cr' ∧ pDl i cc S C i' cc' S' C' 0 ∧ pEx cr 0 M ht M' ht' ur vr uc vc ∧ ht' cr' = 0
def kS (op : Nat) : Nat := 2280 + 8 * (9 - op)
/-- what a step's body is given: its first instruction is written -/
def pSb (X : pCx) (i op cr cc S C tb : Nat) (M ht : Nat → Nat) (ur uc : zMu) : Prop := pOk X i i op (cr + 1) (cc + 1) S C tb 5000 pE0 M ht ur uc ∧ tb = cr ∧ ht (cr + 1) = 1 ∧ M cr = cc ∧ ht cr = 0 ∧ 2 * cc ≤ 3 * i ∧ 2 * S ≤ i ∧ 3 * C ≤ i ∧ zI ur 10 cr = nI 0
theorem pEx_0 {cr S : Nat} {M ht M' ht' : Nat → Nat} {ur vr uc vc : zMu} (h : pEx cr S M ht M' ht' ur vr uc vc) : pEx cr 0 M ht M' ht' ur vr uc vc := ⟨h.1, h.2.1, fun s q => absurd q (Nat.not_lt_zero s), h.2.2.2⟩
def pSq (X : pCx) (i op cr cc S C : Nat) (M ht : Nat → Nat) (ur uc vr vc : zMu) : Prop := ∃ i' cr' cc' S' C' tb' M' ht', pOk X i' i' op cr' cc' S' C' tb' 5000 pE0 M' ht' vr vc ∧ cr + 1 < cr' ∧ pDl i cc S C i' cc' S' C' 0 ∧ pEx (cr + 1) 0 M ht M' ht' ur vr uc vc ∧ ht' cr' = 0
/-- print, return -/
theorem p_plain (n k : Nat) (hn : 2000 ≤ n) (hkk : 120 ≤ k) {X : pCx} (hX : xOk X) {i op cr cc S C tb : Nat} {M ht : Nat → Nat} {ur uc : zMu} (hb : pSb X i op cr cc S C tb M ht ur uc) {kx o c : Nat} (hm : (kx = 205 ∧ o = 18 ∧ c = 22) ∨ (kx = 206 ∧ o = 19 ∧ c = 21)) (hk : xrk X i = kx) (f : zMu → Option (Unit × zMu)) :
    Rp (rf_step_J200 n k f ur (nI kx) (nI (xpl X i))) (ce_C_compilePlain n k uc (nI c)) (fun _ vr _ vc => pSq X i op cr cc S C M ht ur uc vr vc ∨ pWx X (kS op) vr vc) := by
  obtain ⟨h, b0, b1, b2, b3, b4, b5, b6, b7⟩ := hb
  have hT := hX.T
  have hi := h.i
  have hop := h.op8
  have hP := hX.pl hi
  have hit := hX.nx hi (by omega)
  have h1 := pOk_advC hX (pOk_advR hX h hit) hit
  unfold rf_step_J200 ce_C_compilePlain
  refine rp_ll ?_
  rw [h.at, nI_1]
  refine rp_r (h.adv hX hit n) (rp_bd (rp_mono (s_E n hn hop X hX k k (i + 1) (cr + 1) (cc + 1) S C tb 5000 pE0 M ht _ _ hkk hkk h1 (by omega) (by omega) (by omega) (by omega)) (fun _ vr rc vc g => ?_)))
  have ro : ∀ u5, (if nI kx = 205 then (zbd (rf_emit n u5 18 0 0 (nI (xpl X i))) fun _ u8 => some ((), u8)) else (zbd (rf_emit n u5 19 0 0 (nI (xpl X i))) fun _ u10 => some ((), u10))) = zbd (rf_emit n u5 (nI o) (nI 0) (nI 0) (nI (xpl X i))) fun _ u8 => some ((), u8) := fun u5 => by
    rcases hm with ⟨rfl, rfl, rfl⟩ | ⟨rfl, rfl, rfl⟩ <;> rfl
  simp only [ro]
  rcases g with ⟨i', cr', cc', S', C', M', ht', kd, k1, k2, ⟨f1, f2, f3, f4, f5⟩, k4', k5, -⟩ | ⟨w', w1, w2⟩
  · rw [k1.zp hX, hX.zpr, zgd_t]
    have hi' := k1.i
    refine rp_mono (p_tail n hX k1 (fun u => u) k1 (fun q => pOk_advR hX k1 q) (fun _ _ _ q => q) (K := 2270 + 8 * (9 - op) + 4) (by omega) (by omega) (by omega) (o := o) (a := 0) (b := 0) (w := xpl X i) (c := c) (x := 0) (wc := 0) (a' := nI 0) (x' := 0) 0 pE0 (fun _ q => q) hP (by omega) (by omega) (by omega) (by omega) (by omega) (fun _ => rfl) (fun _ => rfl) (fun q => by unfold plc at q; omega)
      (fun _ q => by
        rcases hm with ⟨-, rfl, rfl⟩ | ⟨-, rfl, rfl⟩
        · exact insC_18.mpr ⟨rfl, rfl, by omega, rfl⟩
        · exact insC_19.mpr ⟨rfl, rfl, by omega, rfl⟩) (fun _ _ z1 z2 _ => by omega)) (fun _ vr2 _ vc2 g => ?_)
    rcases g with ⟨q0, M2, ht2, q1, q2, q3⟩ | ⟨w', w1, w2⟩
    · exact Or.inl ⟨i' + 1, cr' + 1, cc' + 1, S', C', tb, M2, ht2, q1, by omega, ⟨by omega, by omega, by omega, by omega, by omega⟩, pEx_0 (pEx_tr (pEx_tr (pEx_tr ((pSm_tr (pSm_R 10 _) (pSm_adv _)).ex (cr + 1) S M ht) k4' (Nat.le_refl _) (Nat.le_refl _)) ((pSm_R 10 _).ex cr' S' M' ht') (by omega) f2) q2 (by omega) f2), q3⟩
    · exact Or.inr ⟨w', bR1_K w1 (by unfold kS; omega), w2⟩
  · rw [bC_zp hX w2.1, hX.zpr, zgd_t]
    exact p_tailw n hX w1 w2 (by omega) (fun u => u) (fun _ _ _ q => q) _ _ _ _ _ _ _ (fun vr vc ⟨w, a, b⟩ => Or.inr ⟨w, bR1_K a (by unfold kS; omega), b⟩)
