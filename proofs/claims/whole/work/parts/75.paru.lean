/-! PARSING, twenty-third part: TERM, SUM, E -/
def sSp (n op bR bC hb K : Nat) (fR : Nat → zMu → Option (Unit × zMu)) (fC : Nat → zMu → Option (Int32 × zMu)) : Prop :=
  ∀ X, xOk X → ∀ kR kC i cr cc S C tb e E M ht ur uc, bR ≤ kR → bC ≤ kC → pOk X i i op cr cc S C tb e E M ht ur uc → (1 ≤ ht cr ∧ ht cr ≤ hb) → 2 * cc ≤ 3 * i + 2 → 2 * S ≤ i → 3 * C ≤ i →
    Rp (fR kR ur) (fC kC uc) (fun _ vr rc vc => pPo X i op cr cc S C tb e E M ht (ht cr) ur uc vr rc vc ∨ pWx X K vr vc)
theorem sSp_K {n op bR bC hb K K' : Nat} {fR : Nat → zMu → Option (Unit × zMu)} {fC : Nat → zMu → Option (Int32 × zMu)} (h : sSp n op bR bC hb K fR fC) (k : K ≤ K') : sSp n op bR bC hb K' fR fC := by
  intro X hX kR kC i cr cc S C tb e E M ht ur uc a b c d e1 f g
  refine rp_mono (h X hX kR kC i cr cc S C tb e E M ht ur uc a b c d e1 f g) (fun _ vr rc vc q => ?_)
  rcases q with q | ⟨w, q1, q2⟩
  · exact Or.inl q
  · exact Or.inr ⟨w, bR1_K q1 k, q2⟩
theorem zbd_id {ρ : Type} (x : Option (ρ × zMu)) : (zbd x fun r u => some (r, u)) = x := by
  cases x <;> rfl
theorem cE3 (n k : Nat) (u : zMu) : ce_C_compileE n (k + 1) u 3 = ce_C_compilePost n k u := by
  rw [ceE_s]
  unfold ce_C_compileE_b
  rw [if_neg (by decide), zbd_id]
theorem cEl (n k : Nat) (u : zMu) {l : Nat} (hl : l < 3) : ce_C_compileE n (k + 1) u (nI l) = zbd (ce_C_compileE n k u (nI (l + 1))) fun r2 u3 => ce_C_compileE_L20 n (ce_C_compileE n k) (ce_C_compileRest n k) (ce_C_compilePost n k) n u3 (nI l) r2 0 := by
  rw [ceE_s]
  unfold ce_C_compileE_b
  rw [if_pos (show nI l < 3 from nI_lt (b := 3) hl (by decide)), nI_1]
theorem binds_no (n : Nat) {u : zMu} {c l : Nat} (hc : zI u 7 6 = nI c) (hb : c < 32768) (h : (l = 1 ∧ c ≠ 43 ∧ c ≠ 45) ∨ (l = 2 ∧ c ≠ 42) ∨ (l = 0 ∧ c ≠ 60 ∧ c ≠ 260)) : ce_C_bindsAt n u (nI l) = some (0, u) := by
  have ne : ∀ k, k < 300 → c ≠ k → ¬ nI c = nI k := fun k hk q z => q ((nI_eq (by omega) (by omega)).mp z)
  unfold ce_C_bindsAt
  rw [hc]
  rcases h with ⟨rfl, h1, h2⟩ | ⟨rfl, h1⟩ | ⟨rfl, h1, h2⟩
  · simp only [zlet]
    rw [if_neg (show ¬ nI 1 = 0 by decide), if_pos (show nI 1 = 1 from rfl), if_neg (show ¬ nI c = 43 from ne 43 (by omega) h1), if_neg (show ¬ nI c = 45 from ne 45 (by omega) h2)]
  · simp only [zlet]
    rw [if_neg (show ¬ nI 2 = 0 by decide), if_neg (show ¬ nI 2 = 1 by decide), if_neg (show ¬ nI c = 42 from ne 42 (by omega) h1)]
  · simp only [zlet]
    rw [if_pos (show nI 0 = 0 from rfl), if_neg (show ¬ nI c = 60 from ne 60 (by omega) h1), if_neg (show ¬ nI c = 260 from ne 260 (by omega) h2)]
theorem binds_yes (n : Nat) {u : zMu} {c l : Nat} (hc : zI u 7 6 = nI c) (h : (l = 1 ∧ (c = 43 ∨ c = 45)) ∨ (l = 2 ∧ c = 42) ∨ (l = 0 ∧ (c = 60 ∨ c = 260))) : ce_C_bindsAt n u (nI l) = some (1, u) := by
  unfold ce_C_bindsAt
  rw [hc]
  rcases h with ⟨rfl, rfl | rfl⟩ | ⟨rfl, rfl⟩ | ⟨rfl, rfl | rfl⟩ <;> rfl
/-- what a loop of operands holds -/
def pLp (X : pCx) (i0 op cr0 cc0 S0 C0 tb e : Nat) (E : Nat → Prop) (M0 ht0 : Nat → Nat) (h0 : Nat) (ur0 uc0 : zMu) (i : Nat) (ur : zMu) (rc : Int32) (uc : zMu) : Prop :=
  ∃ cr cc S C M ht kd, pOk X i i op cr cc S C tb e E M ht ur uc ∧ cr0 < cr ∧ pDl i0 cc0 S0 C0 i cc S C 1 ∧ pEx cr0 S0 M0 ht0 M ht ur0 ur uc0 uc ∧ ht cr = h0 + 1 ∧ pKd kd cr cc S M ht ur rc
theorem pLp.po {X : pCx} {i0 op cr0 cc0 S0 C0 tb e : Nat} {E : Nat → Prop} {M0 ht0 : Nat → Nat} {h0 : Nat} {ur0 uc0 : zMu} {i : Nat} {ur : zMu} {rc : Int32} {uc : zMu} (h : pLp X i0 op cr0 cc0 S0 C0 tb e E M0 ht0 h0 ur0 uc0 i ur rc uc) : pPo X i0 op cr0 cc0 S0 C0 tb e E M0 ht0 h0 ur0 uc0 ur rc uc := by
  obtain ⟨cr, cc, S, C, M, ht, kd, h⟩ := h
  exact ⟨i, cr, cc, S, C, M, ht, kd, h⟩
theorem pPo.lp {X : pCx} {i0 op cr0 cc0 S0 C0 tb e : Nat} {E : Nat → Prop} {M0 ht0 : Nat → Nat} {h0 : Nat} {ur0 uc0 : zMu} {ur : zMu} {rc : Int32} {uc : zMu} (h : pPo X i0 op cr0 cc0 S0 C0 tb e E M0 ht0 h0 ur0 uc0 ur rc uc) : ∃ i, i0 < i ∧ pLp X i0 op cr0 cc0 S0 C0 tb e E M0 ht0 h0 ur0 uc0 i ur rc uc := by
  obtain ⟨i, cr, cc, S, C, M, ht, kd, h1, h2, h3, h4⟩ := h
  exact ⟨i, h3.1, cr, cc, S, C, M, ht, kd, h1, h2, h3, h4⟩
theorem pBo.lp {X : pCx} {i0 op cr0 cc0 S0 C0 tb e : Nat} {E : Nat → Prop} {M0 ht0 : Nat → Nat} {h0 : Nat} {ur0 uc0 ur uc vr vc : zMu} {i cr cc S C : Nat} {M ht : Nat → Nat} (h : pBo X i op cr cc S C tb e E M ht ur uc vr vc) (a1 : cr0 < cr) (a2 : pDl i0 cc0 S0 C0 i cc S C 1) (a3 : pEx cr0 S0 M0 ht0 M ht ur0 ur uc0 uc) (a4 : ht cr = h0 + 1) : ∃ i', i < i' ∧ pLp X i0 op cr0 cc0 S0 C0 tb e E M0 ht0 h0 ur0 uc0 i' vr 0 vc := by
  obtain ⟨i', cr', cc', S', C', M', ht', b1, b2, ⟨d1, d2, d3, d4, d5⟩, b4, b5, b6⟩ := h
  obtain ⟨f1, f2, f3, f4, f5⟩ := a2
  exact ⟨i', d1, cr', cc', S', C', M', ht', 0, b1, by omega, ⟨by omega, by omega, by omega, by omega, by omega⟩, pEx_tr a3 b4 (by omega) f2, b5.trans a4, b6, rfl, by omega, fun q => absurd rfl q⟩
theorem p_termL (n : Nat) (hn : 2000 ≤ n) {op bR bC hb K : Nat} (hhb : hb ≤ 57) (hK2 : K < 3990) (H : sSp n op bR bC (hb + 1) K (rf_post n) (ce_C_compilePost n)) {X : pCx} (hX : xOk X) {i0 cr0 cc0 S0 C0 tb e : Nat} {E : Nat → Prop} {M0 ht0 : Nat → Nat} {h0 : Nat} {ur0 uc0 : zMu} (c1 : 2 * cc0 ≤ 3 * i0 + 2) (c2 : 2 * S0 ≤ i0) (c3 : 3 * C0 ≤ i0) (ch : 1 ≤ h0 ∧ h0 ≤ hb) {kR kC : Nat} (hkR : bR ≤ kR) (hkC : bC ≤ kC) :
    ∀ d i m m' j ur rc uc, xT X - i = d → d < m → d < m' → j < i → pLp X i0 op cr0 cc0 S0 C0 tb e E M0 ht0 h0 ur0 uc0 i ur rc uc →
      Rp (rf_term_L4 n (rf_post n kR) m ur) (ce_C_compileE_L20 n (ce_C_compileE n (kC + 2)) (ce_C_compileRest n (kC + 2)) (ce_C_compilePost n (kC + 2)) m' uc (nI 2) rc (nI j)) (fun _ vr rc vc => pPo X i0 op cr0 cc0 S0 C0 tb e E M0 ht0 h0 ur0 uc0 vr rc vc ∨ pWx X (K + 1) vr vc) := by
  intro d
  induction d using Nat.strongRecOn with
  | ind d ih =>
    intro i m m' j ur rc uc hd hm hm' hj hL
    obtain ⟨m, rfl⟩ : ∃ y, m = y + 1 := ⟨m - 1, by omega⟩
    obtain ⟨m', rfl⟩ : ∃ y, m' = y + 1 := ⟨m' - 1, by omega⟩
    obtain ⟨cr, cc, S, C, M, ht, kd, h, a1, a2, a3, a4, a5⟩ := id hL
    have hT := hX.T
    have hi := h.i
    have hlt := kRel_lt (hX.kr hi)
    obtain ⟨f1, f2, f3, f4, f5⟩ := id a2
    rw [rf_term_L4, ce_C_compileE_L20]
    refine rp_l (h.nw n) (rp_lt rfl (rp_l (h.now hX n) (rp_rt (show nI j < 1500 from nI_lt (b := 1500) (by omega) (by decide)) ?_)))
    have kr := hX.kr hi
    by_cases hk : xrk X i = 42
    · have hc : xck X i = 42 := (kRel_inj kr (show kRel 42 42 by unfold kRel isSg; omega)).mp hk
      refine rp_lt ((hX.rk hi 42 (by decide)).mpr hk) (rp_r (binds_yes n (by rw [h.kd]) (by omega)) (rp_rf (by decide) (rp_l (h.place hX n) ?_)))
      rw [ceR_s]
      refine p_bin n hX h (by omega) (by omega) (by omega) (by omega) (sg := 42) (c := 9) (by omega) hk (K := K) (by omega) (nI 2) (by decide) (rf_post n kR) (ce_C_compileE n (kC + 1)) (fun E1 vr vc h1 => ?_) (fun vr vc hb => ?_) (fun vr vc hw => ?_)
      · rw [show ce_C_compileE n (kC + 1) vc (nI 2 + 1) = ce_C_compilePost n kC vc from cE3 n kC vc]
        exact H X hX kR kC (i + 1) cr cc (S + 1) C tb e E1 M ht vr vc hkR hkC h1 (by omega) (by omega) (by omega) (by omega)
      · obtain ⟨i', hi', hL'⟩ := hb.lp a1 a2 a3 a4
        refine rp_rf (by decide) (rp_rl ?_)
        rw [nI_1]
        have hi2 : i' ≤ xT X := by obtain ⟨_, _, _, _, _, _, _, q, -⟩ := hL'; exact q.i
        exact ih (xT X - i') (by omega) i' m m' (j + 1) vr 0 vc rfl (by omega) (by omega) (by omega) hL'
      · obtain ⟨w, w1, w2⟩ := hw
        obtain ⟨m, rfl⟩ : ∃ y, m = y + 1 := ⟨m - 1, by have := hX.nx hi (by omega); omega⟩
        obtain ⟨m', rfl⟩ : ∃ y, m' = y + 1 := ⟨m' - 1, by have := hX.nx hi (by omega); omega⟩
        exact rp_rf (by decide) (rp_rl (rp_eq (r1_termL n m _ w1) (w1_L20 n m' _ _ _ w2 _ _ _) (Or.inr ⟨w, w1, w2⟩)))
    · have hc : xck X i ≠ 42 := fun q => hk ((kRel_inj kr (show kRel 42 42 by unfold kRel isSg; omega)).mpr q)
      refine rp_lf (fun q => hk ((hX.rk hi 42 (by decide)).mp q)) (rp_r (binds_no n h.kd hlt.2 (by omega)) (rp_rt rfl (rp_end (Or.inl hL.po))))
theorem p_term (n : Nat) (hn : 2000 ≤ n) {op bR bC hb K : Nat} (hhb : hb ≤ 57) (hK2 : K < 3990) (H : sSp n op bR bC (hb + 1) K (rf_post n) (ce_C_compilePost n)) : sSp n op (bR + 1) (bC + 3) hb (K + 1) (rf_term n) (fun k u => ce_C_compileE n k u (nI 2)) := by
  intro X hX kR kC i cr cc S C tb e E M ht ur uc hR hC h hh b1 b2 b3
  obtain ⟨kR, rfl⟩ : ∃ y, kR = y + 1 := ⟨kR - 1, by omega⟩
  obtain ⟨kC, rfl⟩ : ∃ y, kC = y + 3 := ⟨kC - 3, by omega⟩
  have hT := hX.T
  show Rp (rf_term n (kR + 1) ur) (ce_C_compileE n (kC + 2 + 1) uc (nI 2)) _
  rw [rfT_s, cEl n (kC + 2) uc (by omega), show ce_C_compileE n (kC + 2) uc (nI (2 + 1)) = ce_C_compilePost n (kC + 1) uc from cE3 n (kC + 1) uc]
  unfold rf_term_b
  refine rp_bd (rp_mono (H X hX kR (kC + 1) i cr cc S C tb e E M ht ur uc (by omega) (by omega) h (by omega) b1 b2 b3) (fun _ vr rc vc g => ?_))
  rcases g with g | ⟨w, w1, w2⟩
  · obtain ⟨i', hi', hL⟩ := g.lp
    exact p_termL n hn hhb hK2 H hX b1 b2 b3 hh (by omega) (by omega) (xT X - i') i' n n 0 vr rc vc rfl (by omega) (by omega) (by omega) hL
  · obtain ⟨m, rfl⟩ : ∃ y, n = y + 1 := ⟨n - 1, by omega⟩
    exact rp_eq (r1_termL _ m _ w1) (w1_L20 _ m _ _ _ w2 _ _ _) (Or.inr ⟨w, bR1_K w1 (by omega), w2⟩)
