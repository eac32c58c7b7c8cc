/-! PARSING, links, first part -/
theorem pCo_link {p S : Nat} {ur uc : zMu} {cr cc tb q f : Nat} {M ht : Nat → Nat} {ok : Prop} (hp : 12 ≤ p) (h : pCo p S ur uc cr cc tb M ht ok) (hq : q < cr) (ho : zI ur 10 q = nI 17) :
    pCo p S (zsI ur 11 q (nI f)) (zsI uc (p + 2) (M q) (nI f)) cr cc tb M ht ok := by
  have hmono := pCo_mono h
  obtain ⟨g1, g2, g3, g4, g5, gt, g6⟩ := h
  have kc : ∀ k j, k ≠ p + 2 → zI (zsI uc (p + 2) (M q) (nI f)) k j = zI uc k j := fun k j hk => by rw [gI_sI, if_neg (fun z => hk z.1)]
  have kr : ∀ k j, k ≠ 11 → zI (zsI ur 11 q (nI f)) k j = zI ur k j := fun k j hk => by rw [gI_sI, if_neg (fun z => hk z.1)]
  refine ⟨by rw [kr _ _ (by omega)]; exact g1, by rw [kc _ _ (by omega)]; exact g2, g3, g4, g5, gt, fun hok r hr => ?_⟩
  by_cases e : r = q
  · subst e
    obtain ⟨a, b, c, x, c2, w, i2, i3, i4, i5, i6, i7, i8, i9, i10, i11⟩ := pIns_o (g6 hok r hr) (o := 17) (by omega) ho
    obtain ⟨t1, t2, t3⟩ := insC_17.mp i11
    refine ⟨17, f, b, c, f, c2, w, by rw [kr _ _ (by omega)]; exact ho, by rw [gI_sI, if_pos ⟨rfl, rfl⟩], by rw [kr _ _ (by omega)]; exact i3, by rw [kr _ _ (by omega)]; exact i4, i5, by rw [kc _ _ (by omega)]; exact i6, by rw [gI_sI, if_pos ⟨rfl, rfl⟩], by rw [kc _ _ (by omega), kc _ _ (by omega)]; exact i8, fun z => ?_, i10, insC_17.mpr ⟨t1, rfl, t3⟩⟩
    rw [kc _ _ (by omega)]
    exact i9 (Or.inl (by unfold plc; omega))
  · have hM : M r ≠ M q := by
      rcases Nat.lt_or_ge r q with z | z
      · have := hmono r q (by omega) (by omega); omega
      · have := hmono q r (by omega) (by omega); omega
    obtain ⟨o, a, b, c, x, c2, w, i1, i2, i3, i4, i5, i6, i7, i8, i9, i10, i11⟩ := g6 hok r hr
    exact ⟨o, a, b, c, x, c2, w, by rw [kr _ _ (by omega)]; exact i1, by rw [gI_sI, if_neg (fun z => e z.2)]; exact i2, by rw [kr _ _ (by omega)]; exact i3, by rw [kr _ _ (by omega)]; exact i4, i5, by rw [kc _ _ (by omega)]; exact i6, by rw [gI_sI, if_neg (fun z => hM z.2)]; exact i7, by rw [kc _ _ (by omega), kc _ _ (by omega)]; exact i8, by rw [kc _ _ (by omega)]; exact i9, i10, insC_mono i11 (fun q => ⟨q.1, q.2.1, q.2.2.1, q.2.2.2.1, by rw [kr 10 a (by omega)]; exact q.2.2.2.2⟩)⟩
theorem pOk_link {X : pCx} {i i2 op cr cc S C tb e q f : Nat} {E : Nat → Prop} {M ht : Nat → Nat} {ur uc : zMu} (hX : xOk X) (h : pOk X i i2 op cr cc S C tb e E M ht ur uc) (hq : q < cr) (ho : zI ur 10 q = nI 17) :
    pOk X i i2 op cr cc S C tb e E M ht (zsI ur 11 q (nI f)) (zsI uc (xp X + 2) (M q) (nI f)) := by
  obtain ⟨g1, g2, g3, g4, g5, g6, g7, g8, g9, g10⟩ := h
  have hp := hX.p12
  have hr : ∀ k j, ¬ (k = 11) → zI (zsI ur 11 q (nI f)) k j = zI ur k j := fun k j z => by rw [gI_sI, if_neg (by omega)]
  have hc : ∀ k j, ¬ (k = xp X + 2) → zI (zsI uc (xp X + 2) (M q) (nI f)) k j = zI uc k j := fun k j z => by rw [gI_sI, if_neg (by omega)]
  have hok : zI (zsI uc (xp X + 2) (M q) (nI f)) 2 3 = 0 → zI uc 2 3 = 0 := fun z => by rw [hc 2 3 (by omega)] at z; exact z
  refine ⟨fPR_I g1 (by unfold pwR; omega), fPC_I g2 (by unfold pwC; omega), pAt_keep g3 (hr 0 10 (by omega)) (fun j => hc 7 j (by omega)) (fun _ => rfl) (fun _ => rfl), ⟨(hr 0 15 (by omega)).trans g4.1, (hc 2 2 (by omega)).trans g4.2⟩, ⟨g5.1, (hr 0 26 (by omega)).trans g5.2.1, (hc 2 5 (by omega)).trans g5.2.2⟩, ?_, ?_, ?_, ?_, ?_⟩
  · exact pVs_keep g6 (Nat.le_refl _) (fun q _ => ⟨rfl, rfl⟩) (fun k j q => hr k j (by omega)) (fun k j q => hc k j (by omega)) (fun k j q => rfl) hok
  · exact pFt_keep g7 (Nat.le_refl _) (fun j q => hr 0 j (by omega)) (fun j q => hc 2 j (by omega))
  · exact pCo_keep (pCo_link hp g8 hq ho) hok (fun _ _ _ => rfl) (fun _ _ _ => rfl)
  · refine ⟨g9.1, fun z => ?_⟩
    obtain ⟨h1, h2⟩ := g9.2 (hok z)
    have ne : ∀ r o, zI ur 10 r = nI o → o ≤ 8 → r ≠ q := fun r o a b c => by
      subst c
      rw [a] at ho; have := (nI_eq (by omega) (by omega)).mp ho; omega
    have k11 : ∀ r, r ≠ q → zI (zsI ur 11 q (nI f)) 11 r = zI ur 11 r := fun r z => by rw [gI_sI, if_neg (by omega)]
    refine ⟨fun r o a b c d => ?_, fun r r' o o' a b c d e f g i j => ?_⟩
    · rw [hr 10 r (by omega)] at b
      obtain ⟨x, x1, x2, x3, x4⟩ := h1 r o a b c d
      exact ⟨x, x1, x2, by rw [k11 r (ne r o b d)]; exact x3, by rw [hr 19 x (by omega)]; exact x4⟩
    · rw [hr 10 _ (by omega)] at c f
      rw [k11 r (ne r o c e), k11 r' (ne r' o' f i)] at j
      exact h2 r r' o o' a b c d e f g i j
  · exact pCa_keep g10 (fun k j q => hr k j (by omega)) (fun k j q => hc k j (by omega)) (fun _ => rfl)
/-- a text with a fault: the arguments of its code may be any -/
theorem pOk_bad {X : pCx} {i i2 op cr cc S C tb e : Nat} {E : Nat → Prop} {M ht : Nat → Nat} {ur uc vr vc : zMu} (hX : xOk X) (h : pOk X i i2 op cr cc S C tb e E M ht ur uc) (bad : ¬ zI vc 2 3 = 0) (f1 : fPR (xr X) vr) (f2 : fPC (xp X) (xc X) vc) (hr : ∀ k j, ¬ (k = 0 ∧ (j = 16 ∨ j = 17)) → k ≠ 11 → zI vr k j = zI ur k j) (hc : ∀ k j, ¬ (k = 2 ∧ (j = 3 ∨ j = 4)) → k ≠ xp X + 2 → zI vc k j = zI uc k j) (hl : ∀ k j, zL vc k j = zL uc k j) (hf : pFt X i S vr vc) : pOk X i i2 op cr cc S C tb e E M ht vr vc := by
  obtain ⟨g1, g2, g3, g4, g5, g6, g7, g8, g9, g10⟩ := h
  have hp := hX.p12
  refine ⟨f1, f2, pAt_keep g3 (hr 0 10 (by omega) (by omega)) (fun j => hc 7 j (by omega) (by omega)) (fun j => hl 7 j) (fun j => hl 11 j), ⟨(hr 0 15 (by omega) (by omega)).trans g4.1, (hc 2 2 (by omega) (by omega)).trans g4.2⟩, ⟨g5.1, (hr 0 26 (by omega) (by omega)).trans g5.2.1, (hc 2 5 (by omega) (by omega)).trans g5.2.2⟩, ?_, hf, ?_, ⟨g9.1, fun z => absurd z bad⟩, ?_⟩
  · exact pVs_keep g6 (Nat.le_refl _) (fun q _ => ⟨rfl, rfl⟩) (fun k j q => hr k j (by omega) (by omega)) (fun k j q => hc k j (by omega) (by omega)) (fun k j q => hl k j) (fun z => absurd z bad)
  · obtain ⟨d1, d2, d3, d4, d5, d6, d7⟩ := g8
    exact ⟨by rw [hr 0 24 (by omega) (by omega)]; exact d1, by rw [hc _ 3 (by omega) (by omega)]; exact d2, d3, d4, d5, d6, fun z => absurd z bad⟩
  · exact pCa_keep g10 (fun k j q => hr k j (by omega) (by omega)) (fun k j q => hc k j (by omega) (by omega)) (fun j => hl 4 j)
/-- which calls are linked -/
def pLn (c F : Nat) (ur uc : zMu) : Prop := zI uc 2 3 = 0 → ∀ d, d < c → ∃ q f nn, zI ur 23 d = nI q ∧ q < 4000 ∧ zI ur 11 q = nI f ∧ f < F ∧ zI ur 16 f = nI nn ∧ nn ≤ 4 ∧ zI ur 12 q = nI nn
/-- the fn that is meant, downwards -/
theorem l19 (n : Nat) (k2 : zMu → Int32 → Option (Unit × zMu)) {u : zMu} {c w : Nat} (hc : c < 800) (h24 : zI u 24 c = nI w) : ∀ j m (x2 : Int32), j ≤ 8 → j < m → ∃ x m', 0 < m' ∧ rf_links_L19 n k2 m u (nI c) x2 (nI j - 1) = rf_links_L19 n k2 m' u (nI c) x (-1) ∧ ((∃ f, f < j ∧ x = nI f ∧ zI u 14 f = nI w ∧ ∀ g, g < f → ¬ zI u 14 g = nI w) ∨ ((∀ g, g < j → ¬ zI u 14 g = nI w) ∧ x = x2)) := by
  intro j
  induction j with
  | zero =>
    intro m x2 hj hm
    exact ⟨x2, m, hm, rfl, Or.inr ⟨fun g hg => absurd hg (Nat.not_lt_zero g), rfl⟩⟩
  | succ j ih =>
    intro m x2 hj hm
    obtain ⟨m, rfl⟩ : ∃ y, m = y + 1 := ⟨m - 1, by omega⟩
    have e1 : rf_links_L19 n k2 (m + 1) u (nI c) x2 (nI (j + 1) - 1) = if zI u 14 j = nI w then rf_links_L19 n k2 m u (nI c) (nI j) (nI j - 1) else rf_links_L19 n k2 m u (nI c) x2 (nI j - 1) := by
      rw [nI_pred, rf_links_L19, if_neg (nI_pos (by omega)), zin_nI (show j < 9 by omega) (by decide), zgd_t, zin_nI hc (by decide), zgd_t, zx_nI (show j < 2 ^ 31 by omega), zx_nI (show c < 2 ^ 31 by omega), h24, Int32.sub_eq_add_neg]
      rfl
    rw [e1]
    by_cases g : zI u 14 j = nI w
    · rw [if_pos g]
      obtain ⟨x, m', a1, a2, a3⟩ := ih m (nI j) (by omega) (by omega)
      refine ⟨x, m', a1, a2, ?_⟩
      rcases a3 with ⟨f, f1, f2, f3, f4⟩ | ⟨f1, f2⟩
      · exact Or.inl ⟨f, by omega, f2, f3, f4⟩
      · exact Or.inl ⟨j, by omega, f2, g, f1⟩
    · rw [if_neg g]
      obtain ⟨x, m', a1, a2, a3⟩ := ih m x2 (by omega) (by omega)
      refine ⟨x, m', a1, a2, ?_⟩
      rcases a3 with ⟨f, f1, f2, f3, f4⟩ | ⟨f1, f2⟩
      · exact Or.inl ⟨f, by omega, f2, f3, f4⟩
      · refine Or.inr ⟨fun g' hg => ?_, f2⟩
        by_cases z : g' = j
        · rw [z]; exact g
        · exact f1 g' (by omega)
