/-! PARSING, twentieth part: signs that must stand there -/
theorem r_want_ok (n : Nat) {X : pCx} {i i2 op cr cc S C tb e : Nat} {E : Nat → Prop} {M ht : Nat → Nat} {ur uc : zMu} (hX : xOk X) (h : pOk X i i2 op cr cc S C tb e E M ht ur uc) {k : Nat} (hk : xrk X i = k) : rf_want n ur (nI k) = some ((), zsI ur 0 10 (nI (i + 1))) := by
  unfold rf_want
  rw [zbd_e (h.nw n), if_pos rfl, zbd_e (h.now hX n), hk, if_pos rfl]
  show some ((), zsI ur 0 10 (zI ur 0 10 + 1)) = _
  rw [h.at, nI_1]
theorem r_want_no (n : Nat) {X : pCx} {i i2 op cr cc S C tb e : Nat} {E : Nat → Prop} {M ht : Nat → Nat} {ur uc : zMu} (hX : xOk X) (h : pOk X i i2 op cr cc S C tb e E M ht ur uc) {k K : Nat} (hk2 : k < 2 ^ 31) (hk : ¬ xrk X i = k) (hK : cr ≤ K) (hK2 : 2200 ≤ K) : ∃ v, rf_want n ur (nI k) = some ((), v) ∧ bR1 X (xpl X i) K v := by
  obtain ⟨v, e1, hv⟩ := h.faulty n hX hK hK2
  refine ⟨v, ?_, hv⟩
  unfold rf_want
  rw [zbd_e (h.nw n), if_pos rfl, zbd_e (h.now hX n), if_neg (fun q => hk ((hX.rk h.i k hk2).mp q)), zbd_e e1]
theorem c_expect_ok (n : Nat) {X : pCx} {i i2 op cr cc S C tb e : Nat} {E : Nat → Prop} {M ht : Nat → Nat} {ur uc : zMu} (hX : xOk X) (h : pOk X i i2 op cr cc S C tb e E M ht ur uc) {k c : Nat} (hkc : kRel k c) (hk : xrk X i2 = k) (h0 : k ≠ 0) : ce_C_expect n uc (nI c) = some ((), advU uc (i2 + 1)) := by
  have hi := hX.nx h.i2 (by rw [hk]; exact h0)
  unfold ce_C_expect
  rw [h.kd, if_pos ((hX.ck h.i2 hkc).mpr hk), zbd_e (h.adv hX hi n)]
theorem c_ne {X : pCx} {i i2 op cr cc S C tb e : Nat} {E : Nat → Prop} {M ht : Nat → Nat} {ur uc : zMu} (hX : xOk X) (h : pOk X i i2 op cr cc S C tb e E M ht ur uc) {k c : Nat} (hkc : kRel k c) (hk : ¬ xrk X i2 = k) : zI uc 7 6 ≠ nI c := by
  rw [h.kd]
  exact fun q => hk ((hX.ck h.i2 hkc).mp q)
/-- nothing of code, sites, faults is touched -/
def pSm (ur vr uc vc : zMu) : Prop := (∀ k j, 10 ≤ k → zI vr k j = zI ur k j) ∧ zI vc 2 3 = zI uc 2 3
/-- what a step leaves as it was: the code below cr, the fns' starts -/
def pRw (cr k q : Nat) : Prop := (10 ≤ k ∧ k ≤ 13 ∧ q < cr) ∨ k = 15
theorem pRw_le {cr cr' k q : Nat} (h : pRw cr k q) (hc : cr ≤ cr') : pRw cr' k q := by unfold pRw at h ⊢; omega
theorem pRw_10 {cr k q : Nat} (h : pRw cr k q) : 10 ≤ k ∧ k ≤ 15 := by unfold pRw at h; omega
def pEx (cr S : Nat) (M ht M' ht' : Nat → Nat) (ur vr uc vc : zMu) : Prop := (∀ q, q ≤ cr → M' q = M q ∧ ht' q = ht q) ∧ (∀ k q, pRw cr k q → zI vr k q = zI ur k q) ∧ (∀ s, s < S → zI vr 19 s = zI ur 19 s) ∧ (zI vc 2 3 = 0 → zI uc 2 3 = 0)
theorem pSm.ex {ur vr uc vc : zMu} (h : pSm ur vr uc vc) (cr S : Nat) (M ht : Nat → Nat) : pEx cr S M ht M ht ur vr uc vc := ⟨fun _ _ => ⟨rfl, rfl⟩, fun k q hq => h.1 k q (pRw_10 hq).1, fun s _ => h.1 19 s (by omega), fun q => by rw [h.2] at q; exact q⟩
theorem pEx_tr {cr S cr' S' : Nat} {M ht M' ht' M'' ht'' : Nat → Nat} {ur vr xr uc vc xc : zMu} (h : pEx cr S M ht M' ht' ur vr uc vc) (k : pEx cr' S' M' ht' M'' ht'' vr xr vc xc) (hc : cr ≤ cr') (hS : S ≤ S') : pEx cr S M ht M'' ht'' ur xr uc xc := by
  obtain ⟨a1, a2, a3, a4⟩ := h
  obtain ⟨b1, b2, b3, b4⟩ := k
  exact ⟨fun q hq => ⟨(b1 q (by omega)).1.trans (a1 q hq).1, (b1 q (by omega)).2.trans (a1 q hq).2⟩, fun k q hq => (b2 k q (pRw_le hq hc)).trans (a2 k q hq), fun s hs => (b3 s (by omega)).trans (a3 s hs), fun q => a4 (b4 q)⟩
theorem pSm_rf (ur uc : zMu) : pSm ur ur uc uc := ⟨fun _ _ _ => rfl, rfl⟩
theorem pSm_tr {ur vr xr uc vc xc : zMu} (h : pSm ur vr uc vc) (k : pSm vr xr vc xc) : pSm ur xr uc xc := ⟨fun a j q => (k.1 a j q).trans (h.1 a j q), k.2.trans h.2⟩
theorem pSm_R {ur uc : zMu} (j : Nat) (v : Int32) : pSm ur (zsI ur 0 j v) uc uc := ⟨fun k b q => by rw [gI_sI, if_neg (by omega)], rfl⟩
theorem pSm_adv {ur uc : zMu} (i : Nat) : pSm ur ur uc (advU uc i) := ⟨fun _ _ _ => rfl, advU_I 2 3 (by omega)⟩
theorem pSm_op {ur uc : zMu} (v : Int32) : pSm ur ur uc (zsI uc 2 5 v) := ⟨fun _ _ _ => rfl, by rw [gI_sI, if_neg (by omega)]⟩
theorem p_want (n : Nat) {X : pCx} {i op cr cc S C tb e : Nat} {E : Nat → Prop} {M ht : Nat → Nat} {ur uc : zMu} (hX : xOk X) (h : pOk X i i op cr cc S C tb e E M ht ur uc) {k c K : Nat} (hkc : kRel k c) (h0 : k ≠ 0) (hK : cr ≤ K) (hK2 : 2200 ≤ K) (hcc : cc ≤ 2400) :
    Rp (rf_want n ur (nI k)) (ce_C_expect n uc (nI c)) (fun _ vr _ vc => (xrk X i = k ∧ i < xT X ∧ pOk X (i + 1) (i + 1) op cr cc S C tb e E M ht vr vc ∧ pSm ur vr uc vc) ∨ pWx X K vr vc) := by
  by_cases hk : xrk X i = k
  · have hi := hX.nx h.i (by rw [hk]; exact h0)
    exact rp_eq (r_want_ok n hX h hk) (c_expect_ok n hX h hkc hk h0) (Or.inl ⟨hk, hi, pOk_advC hX (pOk_advR hX h hi) hi, pSm_tr (pSm_R 10 _) (pSm_adv _)⟩)
  · obtain ⟨v, e1, hv⟩ := r_want_no n hX h (by have := (kRel_lt hkc).1; omega) hk hK hK2
    obtain ⟨v2, e2, hv2⟩ := w0_expect n hX (h.bC hcc) (c_ne hX h hkc hk)
    exact rp_eq e1 e2 (Or.inr ⟨_, hv, hv2⟩)
theorem p_closes (n : Nat) {X : pCx} {i op cr cc S C tb e : Nat} {E : Nat → Prop} {M ht : Nat → Nat} {ur uc : zMu} (hX : xOk X) (h : pOk X i i (op + 1) cr cc S C tb e E M ht ur uc) {k K : Nat} (hkc : kRel k k) (h0 : k ≠ 0) (hK : cr ≤ K) (hK2 : 2200 ≤ K) (hcc : cc ≤ 2400) :
    Rp (rf_closes n ur (nI k)) (ce_C_closes n uc (nI k)) (fun _ vr _ vc => (xrk X i = k ∧ i < xT X ∧ pOk X (i + 1) (i + 1) op cr cc S C tb e E M ht vr vc ∧ pSm ur vr uc vc) ∨ pWx X K vr vc) := by
  unfold rf_closes
  rw [c_closes_eq]
  refine rp_bd (rp_mono (p_want n hX h hkc h0 hK hK2 hcc) (fun _ vr _ vc g => ?_))
  refine rp_ll (rp_rl (rp_end ?_))
  rcases g with ⟨g1, g2, g3, g4⟩ | ⟨w, g1, g2⟩
  · refine Or.inl ⟨g1, g2, ?_, pSm_tr g4 (pSm_tr (pSm_R 26 _) (pSm_op _))⟩
    rw [g3.2.2.2.2.1.2.1, g3.2.2.2.2.1.2.2, nI_pred]
    exact pOk_op hX g3 (by have := g3.op8; omega)
  · exact Or.inr ⟨w, bR1_set g1 _ (by unfold pwR; omega) (by omega), w1_op n hX g2 _⟩
theorem p_opens (n : Nat) {X : pCx} {i op cr cc S C tb e : Nat} {E : Nat → Prop} {M ht : Nat → Nat} {ur uc : zMu} (hX : xOk X) (h : pOk X i i op cr cc S C tb e E M ht ur uc) {k K : Nat} (hkc : kRel k k) (h0 : k ≠ 0) (hK : cr ≤ K) (hK2 : 2200 ≤ K) (hcc : cc ≤ 2400) :
    Rp (rf_opens n ur (nI k)) (ce_C_opens n uc (nI k)) (fun _ vr _ vc => (xrk X i = k ∧ op < 8 ∧ i < xT X ∧ pOk X (i + 1) (i + 1) (op + 1) cr cc S C tb e E M ht vr vc ∧ pSm ur vr uc vc) ∨ pWx X K vr vc) := by
  have h8 := h.op8
  have hk31 : k < 2 ^ 31 := by have := (kRel_lt hkc).1; omega
  obtain ⟨v, e1, hv⟩ := h.faulty n hX hK hK2
  obtain ⟨v2, e2, hv2⟩ := h.refuse n hX hcc
  unfold rf_opens ce_C_opens
  refine rp_l (h.nw n) (rp_lt rfl (rp_l (h.now hX n) ?_))
  by_cases hk : xrk X i = k
  · have hi := hX.nx h.i (by rw [hk]; exact h0)
    refine rp_lt ((hX.rk h.i k hk31).mpr hk) (rp_rt (by rw [h.kd]; exact (hX.ck h.i hkc).mpr hk) ?_)
    rw [h.2.2.2.2.1.2.1, h.2.2.2.2.1.2.2]
    by_cases ho : op = 8
    · subst ho
      refine rp_lt rfl (rp_rf (by decide) (rp_l e1 (rp_r e2 (rp_end (Or.inr ⟨_, hv, hv2⟩)))))
    · refine rp_lf (fun q => ho ((nI_eq (a := op) (b := 8) (by omega) (by decide)).mp q)) (rp_rt (show nI op < 8 from nI_lt (b := 8) (by omega) (by decide)) ?_)
      have hk1 := pOk_op hX h (op' := op + 1) (by omega)
      rw [nI_1]
      refine rp_ll (rp_ll (rp_rl (rp_r (hk1.adv hX hi n) (rp_end (Or.inl ⟨hk, by omega, hi, ?_, ?_⟩)))))
      · rw [show zI (zsI ur 0 26 (nI (op + 1))) 0 10 = nI i from hk1.at, nI_1]
        exact pOk_advC hX (pOk_advR hX hk1 hi) hi
      · exact pSm_tr (pSm_tr (pSm_R 26 _) (pSm_R 10 _)) (pSm_tr (pSm_op _) (pSm_adv _))
  · refine rp_lf (fun q => hk ((hX.rk h.i k hk31).mp q)) (rp_rf (c_ne hX h hkc hk) (rp_l e1 (rp_r e2 (rp_end (Or.inr ⟨_, hv, hv2⟩)))))
