/-! PARSING, twenty-second part: what an E leaves; two operands -/
def pKd (kd cr cc S : Nat) (M ht : Nat → Nat) (vr : zMu) (rc : Int32) : Prop := zI vr 0 25 = nI kd ∧ rc = nI kd ∧ kd ≤ 3 ∧ (kd ≠ 0 → ∃ q, cr = q + 1 ∧ M q + 1 = cc ∧ ht q + 2 = ht cr + kd ∧ (kd = 1 → zI vr 10 q = nI 3) ∧ (kd = 2 → zI vr 10 q = nI 5 ∧ ∃ s, s < S ∧ zI vr 11 q = nI s ∧ zI vr 20 s = zI vr 13 q) ∧ (kd = 3 → zI vr 10 q = nI 15))
def pDl (i cc S C i' cc' S' C' d : Nat) : Prop := i < i' ∧ S ≤ S' ∧ 2 * cc' + d + 3 * i ≤ 2 * cc + 3 * i' ∧ 2 * S' + d + i ≤ 2 * S + i' ∧ 3 * C' + i ≤ 3 * C + i'
def pPo (X : pCx) (i op cr cc S C tb e : Nat) (E : Nat → Prop) (M ht : Nat → Nat) (h : Nat) (ur uc vr : zMu) (rc : Int32) (vc : zMu) : Prop :=
  ∃ i' cr' cc' S' C' M' ht' kd, pOk X i' i' op cr' cc' S' C' tb e E M' ht' vr vc ∧ cr < cr' ∧ pDl i cc S C i' cc' S' C' 1 ∧ pEx cr S M ht M' ht' ur vr uc vc ∧ ht' cr' = h + 1 ∧ pKd kd cr' cc' S' M' ht' vr rc
def pBo (X : pCx) (i op cr cc S C tb e : Nat) (E : Nat → Prop) (M ht : Nat → Nat) (ur uc vr vc : zMu) : Prop :=
  ∃ i' cr' cc' S' C' M' ht', pOk X i' i' op cr' cc' S' C' tb e E M' ht' vr vc ∧ cr < cr' ∧ pDl i cc S C i' cc' S' C' 0 ∧ pEx cr S M ht M' ht' ur vr uc vc ∧ ht' cr' = ht cr ∧ zI vr 0 25 = 0
theorem emR_rw {u : zMu} {cr k j : Nat} {o a b w : Int32} (h : pRw cr k j) : zI (emR u cr o a b w) k j = zI u k j := emR_W k j (by unfold pRw at h; omega) (by unfold pRw at h; omega)
theorem pEx_em {p cr cc S m h1 : Nat} {M ht : Nat → Nat} {ur uc : zMu} {o a b w c x y : Int32} (hp : 12 ≤ p) : pEx cr S M ht (fun r => if r = cr + 1 then m else M r) (fun r => if r = cr + 1 then h1 else ht r) ur (emR ur cr o a b w) uc (emC uc p cc c x y) :=
  ⟨fun q hq => ⟨if_neg (by omega), if_neg (by omega)⟩, fun k q hq => emR_rw hq, fun s _ => emR_W 19 s (by omega) (by omega), fun q => by rw [emC_W 2 3 (by omega) (by omega)] at q; exact q⟩
theorem pOk.S80 {X : pCx} {i i2 op cr cc S C tb e : Nat} {E : Nat → Prop} {M ht : Nat → Nat} {ur uc : zMu} (h : pOk X i i2 op cr cc S C tb e E M ht ur uc) (ok : zI uc 2 3 = 0) : S ≤ 80 := by
  obtain ⟨r, V, F, vw, h0⟩ := h.2.2.2.2.2.1
  exact (h0.2.2.2.2.2.2.2.2.2 ok).1
theorem c_opOf (n : Nat) {u : zMu} {sg c : Nat} (h : (sg = 43 ∧ c = 7) ∨ (sg = 45 ∧ c = 8) ∨ (sg = 42 ∧ c = 9) ∨ (sg = 60 ∧ c = 10) ∨ (sg = 260 ∧ c = 11)) : ce_C_opOf n u (nI sg) = some (nI c, u) := by
  unfold ce_C_opOf
  rcases h with ⟨rfl, rfl⟩ | ⟨rfl, rfl⟩ | ⟨rfl, rfl⟩ | ⟨rfl, rfl⟩ | ⟨rfl, rfl⟩ <;> rfl
theorem p_bin (n : Nat) {X : pCx} {i op cr cc S C tb e : Nat} {E : Nat → Prop} {M ht : Nat → Nat} {ur uc : zMu} (hX : xOk X) (h : pOk X i i op cr cc S C tb e E M ht ur uc) (b2 : 2 * S + 1 ≤ i) (b1 : 2 * cc ≤ 3 * i + 1) (hh : 2 ≤ ht cr) (h60 : ht cr + 1 ≤ 60) {sg c : Nat} (hsg : (sg = 43 ∧ c = 7) ∨ (sg = 45 ∧ c = 8) ∨ (sg = 42 ∧ c = 9)) (hk : xrk X i = sg) {K : Nat} (hK2 : K < 3999) (l : Int32) (hl : l ≠ 0)
    (f : zMu → Option (Unit × zMu)) (g : zMu → Int32 → Option (Int32 × zMu))
    (Hop : ∀ E1 vr vc, pOk X (i + 1) (i + 1) op cr cc (S + 1) C tb e E1 M ht vr vc → Rp (f vr) (g vc (l + 1)) (fun _ xr rc xc => pPo X (i + 1) op cr cc (S + 1) C tb e E1 M ht (ht cr) vr vc xr rc xc ∨ pWx X K xr xc))
    {k4 : zMu → Option (Unit × zMu)} {G : Unit → zMu → Option (Int32 × zMu)} {Q : Unit → zMu → Int32 → zMu → Prop}
    (Hk : ∀ vr vc, pBo X i op cr cc S C tb e E M ht ur uc vr vc → Rp (k4 vr) (G () vc) Q) (Hw : ∀ vr vc, pWx X (K + 1) vr vc → Rp (k4 vr) (G () vc) Q) :
    Rp (zbd (rf_newSite n ur 3 (-1)) fun r5 u6 => zlet (zsI u6 0 10 ((zI u6 0 10) + 1)) fun u7 => zbd (f u7) fun _ u9 => zbd (rf_emit n u9 8 r5 (nI sg) (nI (xpl X i))) fun _ u11 => zlet (zsI u11 0 25 0) fun u12 => k4 u12) (zbd (ce_C_compileRest_b n g uc l) G) Q := by
  have hp := hX.p12
  have hkc : kRel sg sg := by unfold kRel isSg; omega
  have hi := hX.nx h.i (by omega)
  have hT := hX.T
  have hP := hX.pl h.i
  obtain ⟨u6, u5, v, e1, e2, e3, e4, hk1, hv, r10, r19, r19S⟩ := p_siteS n hX h hi (by omega)
  refine rp_l e1 (rp_ll ?_)
  rw [e3, nI_1]
  obtain ⟨_, xr, rc, xc, q1, q2, post⟩ := Hop _ _ _ hk1
  refine rp_l q1 ?_
  have ec : ce_C_compileRest_b n g uc l = zgd (zpr (zR xc 2 1)) (zbd (ce_C_opOf n xc (nI sg)) fun r6 u7 => zbd (ce_P_emit n (zR xc 2 1) u7 r6 (nI v) (nI (xpl X i))) fun r8 u9 => some ((), u9)) := by
    unfold ce_C_compileRest_b
    show (if l = 0 then _ else zbd (ce_C_addSite n uc 3 (zI uc 7 7) 0) fun r4 u5 => ce_C_compileRest_J31 n g u5 l (zI uc 7 6) (zI uc 7 7) r4) = _
    rw [if_neg hl, h.pc, zbd_e e2, h.kd, (hX.ck h.i hkc).mpr hk]
    unfold ce_C_compileRest_J31
    rw [zbd_e e4, zbd_e q2]
    rfl
  rcases post with ⟨i', cr', cc', S', C', M', ht', kd, k1, k2, ⟨d1, d2, d3, d4, d5⟩, k4', k5, -⟩ | ⟨w, w1, w2⟩
  · have hcr := k1.le
    have hi' := k1.i
    rw [ec, k1.zp hX, hX.zpr, zgd_t, zbd_e (c_opOf n (sg := sg) (c := c) (by omega)), zbd_e (c_emit n (xp X) k1.cc (by omega) (o := c) (w := xpl X i) (by omega) (by omega) (nI v))]
    refine rp_l (r_emit n k1.cr (by omega) 8 (nI S) (nI sg) (nI (xpl X i))) (rp_ll (Hk _ _ ?_))
    have hE0 : ∀ s, E s → s < S := h.2.2.2.2.2.2.2.2.1.1
    have em := pOk_emit hX k1 (o := 8) (a := S) (b := sg) (w := xpl X i) (c := c) (x := S) (wc := xpl X i) (a' := nI S) (x' := nI v) (ht cr) E (fun s q => Or.inl q) hP (by omega) (by omega) (by omega) (fun _ => rfl)
      (fun q => by
        have z := k4'.2.2.2 q
        rw [advU_I 2 3 (by omega)] at z
        rw [(hv z).1]) (fun _ => rfl)
      (fun q => insC_8.mpr ⟨by omega, rfl, by have := k1.S80 q; omega, rfl, by omega, by omega⟩)
      (fun _ _ q => ⟨Or.inr rfl, fun z => Nat.lt_irrefl _ (hE0 S z), by rw [k4'.2.2.1 S (by omega), gI_sI, if_neg (by omega)]; exact r19S⟩)
    refine ⟨i', cr' + 1, cc' + 1, S', C', _, _, pOk_kind hX em 0, by omega, ⟨by omega, by omega, by omega, by omega, by omega⟩, ?_, ?_, by simp [gI_sI]⟩
    · have x1 : pEx cr S M ht M ht ur (zsI u6 0 10 (nI (i + 1))) uc (advU u5 (i + 1)) := ⟨fun _ _ => ⟨rfl, rfl⟩, fun k q hq => by rw [gI_sI, if_neg (by have := pRw_10 hq; omega)]; exact r10 k q (pRw_10 hq).1 (pRw_10 hq).2, fun s hs => by rw [gI_sI, if_neg (by omega)]; exact r19 s hs, fun q => by rw [advU_I 2 3 (by omega)] at q; exact (hv q).2⟩
      exact pEx_tr (pEx_tr (pEx_tr x1 k4' (Nat.le_refl _) (by omega)) (pEx_em (S := S') hp) (by omega) (by omega)) ((pSm_R 25 _).ex (cr' + 1) S' _ _) (by omega) (by omega)
    · exact if_pos rfl
  · obtain ⟨v1, m1, m2⟩ := r1_emit n w1 (by omega) 8 (nI S) (nI sg) (nI (xpl X i))
    obtain ⟨r8, v2, m3, m4⟩ := w1_emit n hX w2 (nI c) (nI v) (nI (xpl X i))
    rw [ec, bC_zp hX w2.1, hX.zpr, zgd_t, zbd_e (c_opOf n (sg := sg) (c := c) (by omega)), zbd_e m3]
    exact rp_l m1 (rp_ll (Hw _ _ ⟨w, bR1_set m2 0 (by unfold pwR; omega) (by omega), m4⟩))
