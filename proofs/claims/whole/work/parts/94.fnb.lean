/-! PARSING, fns, second part: signs and faults ahead of a routine -/
def vKeep (X : pCx) (Vf : zMu → zMu → Prop) : Prop := ∀ ur uc vr vc, Vf ur uc → (∀ k j, ¬ (k = 0 ∧ (j = 10 ∨ j = 16 ∨ j = 17 ∨ j = 26)) → zI vr k j = zI ur k j) → (∀ k j, k ≠ 7 → ¬ (k = 2 ∧ (j = 3 ∨ j = 4 ∨ j = 5)) → zI vc k j = zI uc k j) → (∀ k j, k ≠ 7 → zL vc k j = zL uc k j) → (zI vc 2 3 = 0 → zI uc 2 3 = 0) → Vf vr vc
theorem vKeep_t {X : pCx} (hX : xOk X) {tb S F : Nat} {M ht : Nat → Nat} : vKeep X (pVt X tb S F M ht) := by
  intro ur uc vr vc h hr hc hl ho
  have hp := hX.p12
  exact pVt_keep h (Nat.le_refl _) (fun k j q => hr k j (by omega)) (fun k j q => hc k j (by omega) (by omega)) (fun k j q => hl k j (by omega)) ho
theorem pGn_advR {X : pCx} {i i2 op cr cc S C tb : Nat} {E : Nat → Prop} {M ht : Nat → Nat} {Vf : zMu → zMu → Prop} {ur uc : zMu} (hX : xOk X) (hV : vKeep X Vf) (h : pGn X i i2 op cr cc S C tb E M ht Vf ur uc) (hi : i < xT X) : pGn X (i + 1) i2 op cr cc S C tb E M ht Vf (zsI ur 0 10 (nI (i + 1))) uc := by
  have hr : ∀ k j, ¬ (k = 0 ∧ j = 10) → zI (zsI ur 0 10 (nI (i + 1))) k j = zI ur k j := fun k j q => by rw [gI_sI, if_neg q]
  refine pGn_step hX h (fPR_I h.1 (by unfold pwR; omega)) h.2.1 ⟨⟨hi, by simp [gI_sI]⟩, h.2.2.1.2⟩ ⟨h.2.2.2.2.1.1, by rw [hr _ _ (by omega)]; exact h.2.2.2.2.1.2.1, h.2.2.2.2.1.2.2⟩ (hV ur uc _ _ h.2.2.2.2.2.1 (fun k j q => hr k j (by omega)) (fun _ _ _ _ => rfl) (fun _ _ _ => rfl) (fun q => q)) (pFt_keep h.2.2.2.2.2.2.1 (Nat.le_of_lt (hX.plt hi)) (fun j q => hr 0 j (by omega)) (fun _ _ => rfl)) (fun q => q) (Nat.le_refl _) h.2.2.2.2.2.2.2.1.2.2.2.2.2.1 (fun k j q => hr k j (by omega)) (fun _ _ _ => rfl) (fun _ => rfl)
theorem pGn_advC {X : pCx} {i i2 op cr cc S C tb : Nat} {E : Nat → Prop} {M ht : Nat → Nat} {Vf : zMu → zMu → Prop} {ur uc : zMu} (hX : xOk X) (hV : vKeep X Vf) (h : pGn X i i2 op cr cc S C tb E M ht Vf ur uc) (hi : i2 < xT X) : pGn X i (i2 + 1) op cr cc S C tb E M ht Vf ur (advU uc (i2 + 1)) := by
  have hp := hX.p12
  refine pGn_step hX h h.1 (fPC_adv h.2.1) ⟨h.2.2.1.1, pAc_adv hX h.2.1 hi⟩ ⟨h.2.2.2.2.1.1, h.2.2.2.2.1.2.1, by rw [advU_I 2 5 (by omega)]; exact h.2.2.2.2.1.2.2⟩ (hV ur uc _ _ h.2.2.2.2.2.1 (fun _ _ _ => rfl) (fun k j q _ => advU_I k j q) (fun k j q => advU_L k j q) (fun q => by rw [advU_I 2 3 (by omega)] at q; exact q)) (pFt_keep h.2.2.2.2.2.2.1 (Nat.le_refl _) (fun _ _ => rfl) (fun j q => advU_I 2 j (by omega))) (fun q => by rw [advU_I 2 3 (by omega)] at q; exact q) (Nat.le_refl _) h.2.2.2.2.2.2.2.1.2.2.2.2.2.1 (fun _ _ _ => rfl) (fun k j q => advU_I k j (by omega)) (fun j => advU_L 4 j (by omega))
theorem pGn_op {X : pCx} {i i2 op op' cr cc S C tb : Nat} {E : Nat → Prop} {M ht : Nat → Nat} {Vf : zMu → zMu → Prop} {ur uc : zMu} (hX : xOk X) (hV : vKeep X Vf) (h : pGn X i i2 op cr cc S C tb E M ht Vf ur uc) (ho : op' ≤ 8) : pGn X i i2 op' cr cc S C tb E M ht Vf (zsI ur 0 26 (nI op')) (zsI uc 2 5 (nI op')) := by
  have hp := hX.p12
  have hr : ∀ k j, ¬ (k = 0 ∧ j = 26) → zI (zsI ur 0 26 (nI op')) k j = zI ur k j := fun k j q => by rw [gI_sI, if_neg q]
  have hc : ∀ k j, ¬ (k = 2 ∧ j = 5) → zI (zsI uc 2 5 (nI op')) k j = zI uc k j := fun k j q => by rw [gI_sI, if_neg q]
  exact pGn_step hX h (fPR_I h.1 (by unfold pwR; omega)) (fPC_I h.2.1 (by unfold pwC; omega)) (pAt_keep h.2.2.1 (hr 0 10 (by omega)) (fun j => hc 7 j (by omega)) (fun _ => rfl) (fun _ => rfl)) ⟨ho, by simp [gI_sI], by simp [gI_sI]⟩ (hV ur uc _ _ h.2.2.2.2.2.1 (fun k j q => hr k j (by omega)) (fun k j q q2 => hc k j (by omega)) (fun _ _ _ => rfl) (fun q => by rw [hc 2 3 (by omega)] at q; exact q)) (pFt_keep h.2.2.2.2.2.2.1 (Nat.le_refl _) (fun j q => hr 0 j (by omega)) (fun j q => hc 2 j (by omega))) (fun q => by rw [hc 2 3 (by omega)] at q; exact q) (Nat.le_refl _) h.2.2.2.2.2.2.2.1.2.2.2.2.2.1 (fun k j q => hr k j (by omega)) (fun k j q => hc k j (by omega)) (fun _ => rfl)
theorem pGn_note (n : Nat) {X : pCx} {i i2 op cr cc S C tb : Nat} {E : Nat → Prop} {M ht : Nat → Nat} {Vf : zMu → zMu → Prop} {ur uc : zMu} (hX : xOk X) (hV : vKeep X Vf) (h : pGn X i i2 op cr cc S C tb E M ht Vf ur uc) {w k : Nat} (hk : k = 2 ∨ k = 3) (hw : w ≤ 1500) :
    ∃ b, rf_notes n ur (nI w) (nI k) = some ((), notR ur b w k) ∧ ce_C_note n uc (nI k) (nI w) = some ((), notC uc b w k) ∧ pGn X i i2 op cr cc S C tb E M ht Vf (notR ur b w k) (notC uc b w k) := by
  obtain ⟨fk, fp, a1, a2⟩ := h.2.2.2.2.2.2.1
  obtain ⟨b, fk', fp', b1, b2, b3, b4, b5, b6⟩ := p_note n a1 h.2.2.2.1.2 hk hw
  have hp := hX.p12
  have bad : ¬ zI (notC uc b w k) 2 3 = 0 := by
    rcases b3 with ⟨q, -⟩ | ⟨q1, q2, q3, q4, q5, q6⟩
    · exact absurd q b4
    · rw [q5]; exact nI_ne0 (by omega) (by omega)
  have hr : ∀ a j, ¬ (a = 0 ∧ (j = 16 ∨ j = 17)) → zI (notR ur b w k) a j = zI ur a j := fun a j q => notR_W a j q
  have hc : ∀ a j, ¬ (a = 2 ∧ (j = 3 ∨ j = 4)) → zI (notC uc b w k) a j = zI uc a j := fun a j q => notC_W a j q
  have hl : ∀ a j, zL (notC uc b w k) a j = zL uc a j := fun a j => notC_L a j
  exact ⟨b, b1, b2, pGn_step hX h (fPR_not h.1) (fPC_not h.2.1) (pAt_keep h.2.2.1 (hr 0 10 (by omega)) (fun j => hc 7 j (by omega)) (fun j => hl 7 j) (fun j => hl 11 j)) ⟨h.2.2.2.2.1.1, by rw [hr _ _ (by omega)]; exact h.2.2.2.2.1.2.1, by rw [hc _ _ (by omega)]; exact h.2.2.2.2.1.2.2⟩ (hV ur uc _ _ h.2.2.2.2.2.1 (fun k j q => hr k j (by omega)) (fun k j q q2 => hc k j (by omega)) (fun k j _ => hl k j) (fun q => absurd q bad)) ⟨fk', fp', b3, fun q => ⟨b4, by have := a2 q; have := b6 this.1; omega⟩⟩ (fun q => absurd q bad) (Nat.le_refl _) h.2.2.2.2.2.2.2.1.2.2.2.2.2.1 (fun k j q => hr k j (by omega)) (fun k j q => hc k j (by omega)) (fun j => hl 4 j)⟩
/-- the same fault again changes nothing -/
theorem notes_again (n : Nat) {u : zMu} {b : Bool} {w k : Nat} (hw : w ≤ 1500) (e : rf_notes n u (nI w) (nI k) = some ((), notR u b w k)) : rf_notes n (notR u b w k) (nI w) (nI k) = some ((), notR u b w k) := by
  cases b
  · exact e
  · have e1 : zI (notR u true w k) 0 16 = nI w := by simp [notR, gI_sI]
    have e2 : zI (notR u true w k) 0 17 = nI k := by simp [notR, gI_sI]
    unfold rf_notes
    rw [e1, e2, if_neg (nI_m1 (by omega)), if_neg (nI_nlt (Nat.le_refl _) (by omega)), if_pos rfl]
    by_cases g : nI k < nI k
    · exact absurd g (Int32.lt_irrefl)
    · rw [if_neg g]
/-- closing and opening ahead of a routine: what both need to refuse is told by Vf -/
def vRf (X : pCx) (Vf : zMu → zMu → Prop) : Prop := ∀ ur uc, Vf ur uc → (∃ r V, r ≤ 9 ∧ V ≤ 12 ∧ ((r = 9 ∧ zI ur 0 27 = -1) ∨ (r < 8 ∧ zI ur 0 27 = nI r)) ∧ zI ur 17 r = nI V) ∧ ∃ S' V F, S' ≤ 80 ∧ zI uc (xp X) 8 = nI S' ∧ V ≤ 12 ∧ zI uc 2 8 = nI V ∧ F ≤ 8 ∧ zI uc (xp X) 12 = nI F
theorem vRf_t {X : pCx} {tb S F : Nat} {M ht : Nat → Nat} : vRf X (pVt X tb S F M ht) := fun ur uc h => ⟨h.2.2.2, h.rt⟩
theorem pGn.refuse (n : Nat) {X : pCx} {i op cr cc S C tb : Nat} {E : Nat → Prop} {M ht : Nat → Nat} {Vf : zMu → zMu → Prop} {ur uc : zMu} (h : pGn X i i op cr cc S C tb E M ht Vf ur uc) (hX : xOk X) (hR : vRf X Vf) {K : Nat} (hK : cr ≤ K) (hK2 : 2200 ≤ K) (hcc : cc ≤ 2400) : ∃ v v2, rf_faulty n ur = some ((), v) ∧ ce_C_refuse n uc = some ((), v2) ∧ bR1 X (xpl X i) K v ∧ bC1 X (xpl X i) v2 := by
  obtain ⟨r1, r2⟩ := hR ur uc h.2.2.2.2.2.1
  obtain ⟨v, e1, q1⟩ := h.faulty n hX hK hK2 r1
  obtain ⟨v2, e2, q2⟩ := bC0_refuse n hX (h.bC0 hcc r2)
  exact ⟨v, v2, e1, e2, q1, q2⟩
theorem p_wantG (n : Nat) {X : pCx} {i op cr cc S C tb : Nat} {E : Nat → Prop} {M ht : Nat → Nat} {Vf : zMu → zMu → Prop} {ur uc : zMu} (hX : xOk X) (hV : vKeep X Vf) (hR : vRf X Vf) (h : pGn X i i op cr cc S C tb E M ht Vf ur uc) {k c K : Nat} (hkc : kRel k c) (h0 : k ≠ 0) (hK : cr ≤ K) (hK2 : 2200 ≤ K) (hcc : cc ≤ 2400) :
    Rp (rf_want n ur (nI k)) (ce_C_expect n uc (nI c)) (fun _ vr _ vc => (xrk X i = k ∧ i < xT X ∧ pGn X (i + 1) (i + 1) op cr cc S C tb E M ht Vf vr vc) ∨ pWx X K vr vc) := by
  obtain ⟨v, v2, e1, e2, q1, q2⟩ := h.refuse n hX hR hK hK2 hcc
  unfold rf_want ce_C_expect
  refine rp_l (h.nw n) (rp_lt rfl (rp_l (h.now hX n) ?_))
  by_cases hk : xrk X i = k
  · have hi := hX.nx h.i (by rw [hk]; exact h0)
    refine rp_lt (by rw [hk]) (rp_rt (by rw [h.kd]; exact (hX.ck h.i hkc).mpr hk) (rp_ll (rp_r (h.adv hX hi n) (rp_end (Or.inl ⟨hk, hi, ?_⟩)))))
    rw [h.at, nI_1]
    exact pGn_advC hX hV (pGn_advR hX hV h hi) hi
  · exact rp_lf (fun q => hk ((hX.rk h.i k (by have := (kRel_lt hkc).1; omega)).mp q)) (rp_rf (h.ne hX hkc hk) (rp_l e1 (rp_r e2 (rp_end (Or.inr ⟨_, q1, q2⟩)))))
theorem p_closesG (n : Nat) {X : pCx} {i op cr cc S C tb : Nat} {E : Nat → Prop} {M ht : Nat → Nat} {Vf : zMu → zMu → Prop} {ur uc : zMu} (hX : xOk X) (hV : vKeep X Vf) (hR : vRf X Vf) (h : pGn X i i (op + 1) cr cc S C tb E M ht Vf ur uc) {k K : Nat} (hkc : kRel k k) (h0 : k ≠ 0) (hK : cr ≤ K) (hK2 : 2200 ≤ K) (hcc : cc ≤ 2400) :
    Rp (rf_closes n ur (nI k)) (ce_C_closes n uc (nI k)) (fun _ vr _ vc => (xrk X i = k ∧ i < xT X ∧ pGn X (i + 1) (i + 1) op cr cc S C tb E M ht Vf vr vc) ∨ pWx X K vr vc) := by
  unfold rf_closes
  rw [c_closes_eq]
  refine rp_bd (rp_mono (p_wantG n hX hV hR h hkc h0 hK hK2 hcc) (fun _ vr _ vc g => ?_))
  refine rp_ll (rp_rl (rp_end ?_))
  rcases g with ⟨g1, g2, g3⟩ | ⟨w, g1, g2⟩
  · refine Or.inl ⟨g1, g2, ?_⟩
    rw [g3.2.2.2.2.1.2.1, g3.2.2.2.2.1.2.2, nI_pred]
    exact pGn_op hX hV g3 (by have := g3.2.2.2.2.1.1; omega)
  · exact Or.inr ⟨w, bR1_set g1 _ (by unfold pwR; omega) (by omega), w1_op n hX g2 _⟩
theorem p_opensG (n : Nat) {X : pCx} {i cr cc S C tb : Nat} {E : Nat → Prop} {M ht : Nat → Nat} {Vf : zMu → zMu → Prop} {ur uc : zMu} (hX : xOk X) (hV : vKeep X Vf) (hR : vRf X Vf) (h : pGn X i i 0 cr cc S C tb E M ht Vf ur uc) {k K : Nat} (hkc : kRel k k) (h0 : k ≠ 0) (hK : cr ≤ K) (hK2 : 2200 ≤ K) (hcc : cc ≤ 2400) :
    Rp (rf_opens n ur (nI k)) (ce_C_opens n uc (nI k)) (fun _ vr _ vc => (xrk X i = k ∧ i < xT X ∧ pGn X (i + 1) (i + 1) 1 cr cc S C tb E M ht Vf vr vc) ∨ pWx X K vr vc) := by
  have hk31 : k < 2 ^ 31 := by have := (kRel_lt hkc).1; omega
  obtain ⟨v, v2, e1, e2, q1, q2⟩ := h.refuse n hX hR hK hK2 hcc
  unfold rf_opens ce_C_opens
  refine rp_l (h.nw n) (rp_lt rfl (rp_l (h.now hX n) ?_))
  by_cases hk : xrk X i = k
  · have hi := hX.nx h.i (by rw [hk]; exact h0)
    refine rp_lt ((hX.rk h.i k hk31).mpr hk) (rp_rt (by rw [h.kd]; exact (hX.ck h.i hkc).mpr hk) ?_)
    rw [h.2.2.2.2.1.2.1, h.2.2.2.2.1.2.2]
    refine rp_lf (by decide) (rp_rt (by decide) ?_)
    have hk1 := pGn_op hX hV h (op' := 1) (by omega)
    rw [nI_1]
    refine rp_ll (rp_ll (rp_rl (rp_r (hk1.adv hX hi n) (rp_end (Or.inl ⟨hk, hi, ?_⟩)))))
    rw [show zI (zsI ur 0 26 (nI (0 + 1))) 0 10 = nI i from hk1.at, nI_1]
    exact pGn_advC hX hV (pGn_advR hX hV hk1 hi) hi
  · refine rp_lf (fun q => hk ((hX.rk h.i k hk31).mp q)) (rp_rf (h.ne hX hkc hk) (rp_l e1 (rp_r e2 (rp_end (Or.inr ⟨_, q1, q2⟩)))))
