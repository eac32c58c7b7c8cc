/-! PARSING, twelfth part: aiming, taking back, two for one, calls -/
theorem insC_o {S o a b c x m0 m1 h0 h1 c2 : Nat} {tg : Nat → Nat → Prop} (h : insC S o a b c x m0 m1 h0 h1 tg c2) : o ≤ 23 := by
  unfold insC at h
  rcases h with q | q | q | q | q | q | q | q | q | q | q | q | q | q | q | q | q | q | q | q | q | q | q | q | q
  all_goals (have h1 := q.1; clear q; omega)
theorem pIns_o {p S tb : Nat} {M ht : Nat → Nat} {ur uc : zMu} {r : Nat} (h : pIns p S tb M ht ur uc r) {o : Nat} (ho : o ≤ 23) (e : zI ur 10 r = nI o) :
    ∃ a b c x c2 w, zI ur 11 r = nI a ∧ zI ur 12 r = nI b ∧ zI ur 13 r = nI w ∧ w ≤ 1500 ∧ zI uc (p + 1) (M r) = nI c ∧ zI uc (p + 2) (M r) = nI x ∧ (M (r + 1) = M r + 2 → zI uc (p + 1) (M r + 1) = nI c2 ∧ (o = 12 → zI uc (p + 3) (M r + 1) = nI w)) ∧
    (plc o ∨ (o = 12 ∧ a = 1) → zI uc (p + 3) (M r) = nI w) ∧ ht r ≤ 60 ∧ insC S o a b c x (M r) (M (r + 1)) (ht r) (ht (r + 1)) (jT tb M ht ur r) c2 := by
  obtain ⟨o', a, b, c, x, c2, w, i1, i2, i3, i4, i5, i6, i7, i8, i9, i10, i11⟩ := h
  have hb := insC_o i11
  rw [i1] at e
  have := (nI_eq (by omega) (by omega)).mp e
  subst this
  exact ⟨a, b, c, x, c2, w, i2, i3, i4, i5, i6, i7, i8, i9, i10, i11⟩
theorem pIns_tb {p S tb tb' : Nat} {M ht : Nat → Nat} {ur uc : zMu} {r : Nat} (h : pIns p S tb M ht ur uc r) (k : tb ≤ tb') : pIns p S tb' M ht ur uc r := by
  obtain ⟨o, a, b, c, x, c2, w, i1, i2, i3, i4, i5, i6, i7, i8, i9, i10, i11⟩ := h
  exact ⟨o, a, b, c, x, c2, w, i1, i2, i3, i4, i5, i6, i7, i8, i9, i10, insC_mono i11 (fun q => ⟨Nat.le_trans q.1 k, q.2⟩)⟩
/-- both aim a jump at the end of the code -/
theorem pCo_aim {p S : Nat} {ur uc : zMu} {cr cc tb sk : Nat} {M ht : Nat → Nat} {ok : Prop} (hp : 12 ≤ p) (h : pCo p S ur uc cr cc tb M ht ok) (hs : sk < cr) (hh : ht cr = 0) (ho : zI ur 10 sk = nI 21 ∨ zI ur 10 sk = nI 22) :
    pCo p S (zsI ur 11 sk (nI cr)) (zsI uc (p + 2) (M sk) (nI cc)) cr cc cr M ht ok := by
  have hmono := pCo_mono h
  obtain ⟨g1, g2, g3, g4, g5, gt, g6⟩ := h
  have kc : ∀ k j, k ≠ p + 2 → zI (zsI uc (p + 2) (M sk) (nI cc)) k j = zI uc k j := fun k j hk => by rw [gI_sI, if_neg (fun q => hk q.1)]
  have kr : ∀ k j, k ≠ 11 → zI (zsI ur 11 sk (nI cr)) k j = zI ur k j := fun k j hk => by rw [gI_sI, if_neg (fun q => hk q.1)]
  refine ⟨by rw [kr _ _ (by omega)]; exact g1, by rw [kc _ _ (by omega)]; exact g2, g3, g4, g5, Nat.le_refl _, fun hok r hr => ?_⟩
  by_cases e : r = sk
  · subst e
    have fin : ∀ o, o = 21 ∨ o = 22 → zI ur 10 r = nI o → pIns p S cr M ht (zsI ur 11 r (nI cr)) (zsI uc (p + 2) (M r) (nI cc)) r := by
      intro o ho2 e1
      obtain ⟨a, b, c, x, c2, w, i2, i3, i4, i5, i6, i7, i8, i9, i10, i11⟩ := pIns_o (g6 hok r hr) (by omega) e1
      refine ⟨o, cr, b, c, cc, c2, w, by rw [kr _ _ (by omega)]; exact e1, by rw [gI_sI, if_pos ⟨rfl, rfl⟩], by rw [kr _ _ (by omega)]; exact i3, by rw [kr _ _ (by omega)]; exact i4, i5, by rw [kc _ _ (by omega)]; exact i6, by rw [gI_sI, if_pos ⟨rfl, rfl⟩], by rw [kc _ _ (by omega), kc _ _ (by omega)]; exact i8, fun q => ?_, i10, ?_⟩
      · rw [kc _ _ (by omega)]
        refine i9 ?_
        rcases q with q | q
        · exact Or.inl q
        · exact absurd q.1 (by omega)
      · rcases ho2 with rfl | rfl
        · have t := insC_21.mp i11
          exact insC_21.mpr ⟨t.1, ⟨Nat.le_refl _, g4.symm, hh, t.2.1.2.2.2.1, Or.inl hr⟩, t.2.2⟩
        · have t := insC_22.mp i11
          exact insC_22.mpr ⟨t.1, ⟨Nat.le_refl _, g4.symm, hh, t.2.1.2.2.2.1, Or.inl hr⟩, t.2.2⟩
    rcases ho with q | q
    · exact fin 21 (Or.inl rfl) q
    · exact fin 22 (Or.inr rfl) q
  · have hM : M r ≠ M sk := by
      rcases Nat.lt_or_ge r sk with q | q
      · have := hmono r sk (by omega) (by omega); omega
      · have := hmono sk r (by omega) (by omega); omega
    obtain ⟨o, a, b, c, x, c2, w, i1, i2, i3, i4, i5, i6, i7, i8, i9, i10, i11⟩ := pIns_tb (g6 hok r hr) gt
    exact ⟨o, a, b, c, x, c2, w, by rw [kr _ _ (by omega)]; exact i1, by rw [gI_sI, if_neg (fun q => e q.2)]; exact i2, by rw [kr _ _ (by omega)]; exact i3, by rw [kr _ _ (by omega)]; exact i4, i5, by rw [kc _ _ (by omega)]; exact i6, by rw [gI_sI, if_neg (fun q => hM q.2)]; exact i7, by rw [kc _ _ (by omega), kc _ _ (by omega)]; exact i8, by rw [kc _ _ (by omega)]; exact i9, i10, insC_mono i11 (fun q => ⟨q.1, q.2.1, q.2.2.1, q.2.2.2.1, by rw [kr 10 a (by omega)]; exact q.2.2.2.2⟩)⟩
theorem pOk_aim {X : pCx} {i i2 op cr cc S C tb e sk : Nat} {E : Nat → Prop} {M ht : Nat → Nat} {ur uc : zMu} (hX : xOk X) (h : pOk X i i2 op cr cc S C tb e E M ht ur uc) (hs : sk < cr) (hh : ht cr = 0) (ho : zI ur 10 sk = nI 21 ∨ zI ur 10 sk = nI 22) :
    pOk X i i2 op cr cc S C cr e E M ht (zsI ur 11 sk (nI cr)) (zsI uc (xp X + 2) (M sk) (nI cc)) := by
  have htb := h.tb
  obtain ⟨g1, g2, g3, g4, g5, g6, g7, g8, g9, g10⟩ := h
  have hp := hX.p12
  have hr : ∀ k j, ¬ (k = 11) → zI (zsI ur 11 sk (nI cr)) k j = zI ur k j := fun k j q => by rw [gI_sI, if_neg (by omega)]
  have hc : ∀ k j, ¬ (k = xp X + 2) → zI (zsI uc (xp X + 2) (M sk) (nI cc)) k j = zI uc k j := fun k j q => by rw [gI_sI, if_neg (by omega)]
  have hok : zI (zsI uc (xp X + 2) (M sk) (nI cc)) 2 3 = 0 → zI uc 2 3 = 0 := fun q => by rw [hc 2 3 (by omega)] at q; exact q
  refine ⟨fPR_I g1 (by unfold pwR; omega), fPC_I g2 (by unfold pwC; omega), pAt_keep g3 (hr 0 10 (by omega)) (fun j => hc 7 j (by omega)) (fun _ => rfl) (fun _ => rfl), ⟨(hr 0 15 (by omega)).trans g4.1, (hc 2 2 (by omega)).trans g4.2⟩, ⟨g5.1, (hr 0 26 (by omega)).trans g5.2.1, (hc 2 5 (by omega)).trans g5.2.2⟩, ?_, ?_, ?_, ?_, ?_⟩
  · exact pVs_keep g6 htb (fun q _ => ⟨rfl, rfl⟩) (fun k j q => hr k j (by omega)) (fun k j q => hc k j (by omega)) (fun k j q => rfl) hok
  · exact pFt_keep g7 (Nat.le_refl _) (fun j q => hr 0 j (by omega)) (fun j q => hc 2 j (by omega))
  · exact pCo_keep (pCo_aim hp g8 hs hh ho) hok (fun _ _ _ => rfl) (fun _ _ _ => rfl)
  · refine ⟨g9.1, fun q => ?_⟩
    obtain ⟨h1, h2⟩ := g9.2 (hok q)
    have ne : ∀ r o, zI ur 10 r = nI o → o ≤ 8 → r ≠ sk := fun r o a b c => by
      subst c
      rcases ho with z | z
      · rw [a] at z; have := (nI_eq (by omega) (by omega)).mp z; omega
      · rw [a] at z; have := (nI_eq (by omega) (by omega)).mp z; omega
    have k11 : ∀ r, r ≠ sk → zI (zsI ur 11 sk (nI cr)) 11 r = zI ur 11 r := fun r q => by rw [gI_sI, if_neg (by omega)]
    refine ⟨fun r o a b c d => ?_, fun r r' o o' a b c d e f g i j => ?_⟩
    · rw [hr 10 r (by omega)] at b
      obtain ⟨x, x1, x2, x3, x4⟩ := h1 r o a b c d
      exact ⟨x, x1, x2, by rw [k11 r (ne r o b d)]; exact x3, by rw [hr 19 x (by omega)]; exact x4⟩
    · rw [hr 10 _ (by omega)] at c f
      rw [k11 r (ne r o c e), k11 r' (ne r' o' f i)] at j
      exact h2 r r' o o' a b c d e f g i j
  · exact pCa_keep g10 (fun k j q => hr k j (by omega)) (fun k j q => hc k j (by omega)) (fun _ => rfl)
/-- both take back a variable, a member or an item -/
theorem pOk_back {X : pCx} {i i2 op k cc S C tb e : Nat} {E : Nat → Prop} {M ht : Nat → Nat} {ur uc : zMu} (hX : xOk X) (h : pOk X i i2 op (k + 1) cc S C tb e E M ht ur uc) (hk : tb ≤ k) {o : Nat} (ho : o ≤ 23) (h17 : o ≠ 17) (e0 : zI ur 10 k = nI o) (E' : Nat → Prop) (hE : ∀ s, E' s → E s ∨ (s < S ∧ 5 ≤ o ∧ o ≤ 8 ∧ zI ur 11 k = nI s)) :
    pOk X i i2 op k (M k) S C tb e E' M ht (zsI ur 0 24 (nI k)) (zsI uc (xp X) 3 (nI (M k))) := by
  have hS : S ≤ 800 := by obtain ⟨r, V, F, vw, h0⟩ := h.2.2.2.2.2.1; exact h0.2.2.2.2.2.1
  obtain ⟨g1, g2, g3, g4, g5, g6, g7, g8, g9, g10⟩ := h
  have hp := hX.p12
  have hr : ∀ a j, ¬ (a = 0 ∧ j = 24) → zI (zsI ur 0 24 (nI k)) a j = zI ur a j := fun a j q => by rw [gI_sI, if_neg (by omega)]
  have hc : ∀ a j, ¬ (a = xp X ∧ j = 3) → zI (zsI uc (xp X) 3 (nI (M k))) a j = zI uc a j := fun a j q => by rw [gI_sI, if_neg (by omega)]
  have hok : zI (zsI uc (xp X) 3 (nI (M k))) 2 3 = 0 → zI uc 2 3 = 0 := fun q => by rw [hc 2 3 (by omega)] at q; exact q
  refine ⟨fPR_I g1 (by unfold pwR; omega), fPC_I g2 (by unfold pwC; omega), pAt_keep g3 (hr 0 10 (by omega)) (fun j => hc 7 j (by omega)) (fun _ => rfl) (fun _ => rfl), ⟨(hr 0 15 (by omega)).trans g4.1, (hc 2 2 (by omega)).trans g4.2⟩, ⟨g5.1, (hr 0 26 (by omega)).trans g5.2.1, (hc 2 5 (by omega)).trans g5.2.2⟩, ?_, ?_, ?_, ?_, ?_⟩
  · exact pVs_keep g6 (Nat.le_refl _) (fun q _ => ⟨rfl, rfl⟩) (fun k j q => hr k j (by omega)) (fun k j q => hc k j (by omega)) (fun k j q => rfl) hok
  · exact pFt_keep g7 (Nat.le_refl _) (fun j q => hr 0 j (by omega)) (fun j q => hc 2 j (by omega))
  · exact pCo_keep (pCo_back hp g8 hk) hok (fun _ _ _ => rfl) (fun _ _ _ => rfl)
  · refine ⟨fun s q => ?_, fun q => ?_⟩
    · rcases hE s q with z | z
      · exact g9.1 s z
      · exact z.1
    obtain ⟨h1, h2⟩ := g9.2 (hok q)
    refine ⟨fun r o' a b c d => ?_, fun r r' o o' a b c d e f g i j => ?_⟩
    · rw [hr 10 r (by omega)] at b
      obtain ⟨x, x1, x2, x3, x4⟩ := h1 r o' (by omega) b c d
      refine ⟨x, x1, fun z => ?_, by rw [hr 11 r (by omega)]; exact x3, by rw [hr 19 x (by omega)]; exact x4⟩
      rcases hE x z with y | ⟨y1, y2, y3, y4⟩
      · exact x2 y
      · have := h2 r k o' o (by omega) (by omega) b c d e0 y2 y3 (by rw [x3, y4])
        omega
    · rw [hr 10 _ (by omega)] at c f
      rw [hr 11 _ (by omega), hr 11 _ (by omega)] at j
      exact h2 r r' o o' (by omega) (by omega) c d e f g i j
  · obtain ⟨c1, c2, c3, c4, c5⟩ := g10
    refine ⟨by rw [hr 0 44 (by omega)]; exact c1, by rw [hc 2 12 (by omega)]; exact c2, c3, fun c hc' => ?_, fun r hr' hx => ?_⟩
    · obtain ⟨q, w, nn, P, d1, d2, d3, d4, d5, d6, d7, d8, d9, d10, d11, d12, d13, d14⟩ := c4 c hc'
      have hq : q ≠ k := fun z => by
        subst z
        rw [e0] at d2
        exact h17 ((nI_eq (by omega) (by omega)).mp d2)
      exact ⟨q, w, nn, P, by omega, by rw [hr 10 q (by omega)]; exact d2, by rw [hr 23 c (by omega)]; exact d3, by rw [hc 6 c (by omega)]; exact d4, by rw [hr 24 c (by omega)]; exact d5, d6, d7, d8, by rw [hr 25 c (by omega)]; exact d9, by rw [hc 5 c (by omega)]; exact d10, by rw [hr 12 q (by omega)]; exact d11, d12, by rw [hr 26 c (by omega)]; exact d13, by rw [hc _ (M q) (by omega)]; exact d14⟩
    · rw [hr 10 r (by omega)] at hx
      obtain ⟨c, e1, e2⟩ := c5 r (by omega) hx
      exact ⟨c, e1, by rw [hr 23 c (by omega)]; exact e2⟩
