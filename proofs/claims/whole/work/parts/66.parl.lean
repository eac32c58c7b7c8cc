/-! PARSING, thirteenth part: two instructions for one -/
theorem pCo_emit2 {p S : Nat} {ur uc : zMu} {cr cc tb : Nat} {M ht : Nat → Nat} {ok : Prop} (hp : 12 ≤ p) (h : pCo p S ur uc cr cc tb M ht ok) {o a b w c x c2 wc wc2 : Nat} (x2 : Int32) (h1 : Nat) (hw : w ≤ 1500) (hh : ht cr ≤ 60) (hn : ¬ (plc o ∨ (o = 12 ∧ a = 1))) (h12 : o = 12 → wc2 = w)
    (hi : ok → insC S o a b c x cc (cc + 2) (ht cr) h1 (jT tb M ht ur cr) c2) :
    pCo p S (emR ur cr (nI o) (nI a) (nI b) (nI w)) (emC (emC uc p cc (nI c) (nI x) (nI wc)) p (cc + 1) (nI c2) x2 (nI wc2)) (cr + 1) (cc + 2) tb (fun r => if r = cr + 1 then cc + 2 else M r) (fun r => if r = cr + 1 then h1 else ht r) ok := by
  have hmono := pCo_mono h
  obtain ⟨g1, g2, g3, g4, g5, gt, g6⟩ := h
  have ek : ∀ k j, j < cc → (k = p + 1 ∨ k = p + 2 ∨ k = p + 3) → zI (emC (emC uc p cc (nI c) (nI x) (nI wc)) p (cc + 1) (nI c2) x2 (nI wc2)) k j = zI uc k j := fun k j hj hk => by
    rw [emC_keep (by omega) hk, emC_keep hj hk]
  refine ⟨rfl, by simp [emC, gI_sI], by simp [g3], by simp, fun r hr => ?_, by omega, fun hok r hr => ?_⟩
  · by_cases e : r = cr
    · subst e
      simp [g4]
    · have e1 : ¬ r = cr + 1 := by omega
      have e2 : ¬ r + 1 = cr + 1 := by omega
      simp only [e1, e2, if_false]
      exact g5 r (by omega)
  · by_cases e : r = cr
    · subst e
      have e1 : ¬ r = r + 1 := by omega
      refine ⟨o, a, b, c, x, c2, w, ?_, ?_, ?_, ?_, hw, ?_, ?_, ?_, ?_, ?_, ?_⟩
      · simp [emR, gI_sI]
      · simp [emR, gI_sI]
      · simp [emR, gI_sI]
      · simp [emR, gI_sI]
      · simp only [e1, if_false, g4]; rw [emC_keep (by omega) (by omega)]; simp [emC, gI_sI]
      · simp only [e1, if_false, g4]; rw [emC_keep (by omega) (by omega)]; simp [emC, gI_sI]
      · intro q
        simp only [e1, if_false, g4]
        exact ⟨by simp [emC, gI_sI], fun z => by rw [← h12 z]; simp [emC, gI_sI]⟩
      · exact fun q => absurd q hn
      · simp only [e1, if_false]; exact hh
      · simp only [e1, if_false, if_true, g4]
        refine insC_mono (hi hok) (fun q => ?_)
        obtain ⟨q1, q2, q3, q4, q5⟩ := q
        have e3 : ¬ a = r + 1 := by omega
        refine ⟨q1, q2.trans (if_neg e3).symm, (if_neg e3).trans q3, q4, ?_⟩
        rcases q5 with q5 | ⟨q5, q6⟩ | q5
        · exact Or.inl q5
        · exact Or.inr (Or.inl ⟨q5, by rw [emR_keep q5 (by decide)]; exact q6⟩)
        · exact Or.inr (Or.inr q5)
    · have e1 : ¬ r = cr + 1 := by omega
      have e2 : ¬ r + 1 = cr + 1 := by omega
      have hr' : r < cr := by omega
      obtain ⟨o, a, b, c, x, c2, w, i1, i2, i3, i4, i5, i6, i7, i8, i9, i10, i11⟩ := g6 hok r hr'
      have hM : M r < cc := by have := hmono r cr (by omega) (by omega); omega
      have hM2 : M (r + 1) ≤ cc := by have := hmono (r + 1) cr (by omega) (by omega); omega
      refine ⟨o, a, b, c, x, c2, w, ?_, ?_, ?_, ?_, i5, ?_, ?_, ?_, ?_, ?_, ?_⟩
      · rw [emR_keep hr' (by decide)]; exact i1
      · rw [emR_keep hr' (by decide)]; exact i2
      · rw [emR_keep hr' (by decide)]; exact i3
      · rw [emR_keep hr' (by decide)]; exact i4
      · simp only [e1, if_false]; rw [ek _ _ hM (by omega)]; exact i6
      · simp only [e1, if_false]; rw [ek _ _ hM (by omega)]; exact i7
      · simp only [e1, e2, if_false]
        intro q
        rw [ek _ _ (show M r + 1 < cc by omega) (by omega), ek _ _ (show M r + 1 < cc by omega) (by omega)]
        exact i8 q
      · simp only [e1, if_false]; rw [ek _ _ hM (by omega)]; exact i9
      · simp only [e1, if_false]; exact i10
      · simp only [e1, e2, if_false]
        refine insC_mono i11 (fun q => ?_)
        obtain ⟨q1, q2, q3, q4, q5⟩ := q
        have e3 : ¬ a = cr + 1 := by omega
        refine ⟨q1, q2.trans (if_neg e3).symm, (if_neg e3).trans q3, q4, ?_⟩
        rcases q5 with q5 | ⟨q5, q6⟩ | q5
        · exact Or.inl q5
        · exact Or.inr (Or.inl ⟨q5, by rw [emR_keep (by omega) (by decide)]; exact q6⟩)
        · exact Or.inr (Or.inr q5)
theorem pOk_emit2 {X : pCx} {i i2 op cr cc S C tb e : Nat} {E : Nat → Prop} {M ht : Nat → Nat} {ur uc : zMu} (hX : xOk X) (h : pOk X i i2 op cr cc S C tb e E M ht ur uc) {o a b w c x c2 wc wc2 : Nat} {x2 : Int32} (h1 : Nat) (hw : w ≤ 1500) (hh : ht cr ≤ 60) (ho : o = 12 ∨ o = 23) (ha : a = 0) (h12 : o = 12 → wc2 = w)
    (hi : zI uc 2 3 = 0 → insC 80 o a b c x cc (cc + 2) (ht cr) h1 (jT tb M ht ur cr) c2) :
    pOk X i i2 op (cr + 1) (cc + 2) S C tb e E (fun r => if r = cr + 1 then cc + 2 else M r) (fun r => if r = cr + 1 then h1 else ht r) (emR ur cr (nI o) (nI a) (nI b) (nI w)) (emC (emC uc (xp X) cc (nI c) (nI x) (nI wc)) (xp X) (cc + 1) (nI c2) x2 (nI wc2)) := by
  have htb := h.tb
  have hS : S ≤ 800 := by obtain ⟨r, V, F, vw, h0⟩ := h.2.2.2.2.2.1; exact h0.2.2.2.2.2.1
  obtain ⟨g1, g2, g3, g4, g5, g6, g7, g8, g9, g10⟩ := h
  have hp := hX.p12
  have hr : ∀ k j, ¬ (k = 0 ∧ j = 24) → ¬ (10 ≤ k ∧ k ≤ 13) → zI (emR ur cr (nI o) (nI a) (nI b) (nI w)) k j = zI ur k j := fun k j q q2 => emR_W k j q (by omega)
  have hc : ∀ k j, ¬ (k = xp X ∧ j = 3) → ¬ (xp X + 1 ≤ k ∧ k ≤ xp X + 3 ∧ cc ≤ j) → zI (emC (emC uc (xp X) cc (nI c) (nI x) (nI wc)) (xp X) (cc + 1) (nI c2) x2 (nI wc2)) k j = zI uc k j := fun k j q q2 => by rw [emC_W k j q (by omega), emC_W k j q (by omega)]
  have hok : zI (emC (emC uc (xp X) cc (nI c) (nI x) (nI wc)) (xp X) (cc + 1) (nI c2) x2 (nI wc2)) 2 3 = 0 → zI uc 2 3 = 0 := fun q => by rw [hc 2 3 (by omega) (by omega)] at q; exact q
  have hmono := pCo_mono g8
  have hM4 := g8.2.2.2.1
  refine ⟨fPR_em g1, fPC_em (fPC_em g2), pAt_keep g3 (hr 0 10 (by omega) (by omega)) (fun j => hc 7 j (by omega) (by omega)) (fun _ => rfl) (fun _ => rfl), ⟨(hr 0 15 (by omega) (by omega)).trans g4.1, (hc 2 2 (by omega) (by omega)).trans g4.2⟩, ⟨g5.1, (hr 0 26 (by omega) (by omega)).trans g5.2.1, (hc 2 5 (by omega) (by omega)).trans g5.2.2⟩, ?_, ?_, ?_, ?_, ?_⟩
  · exact pVs_keep g6 (Nat.le_refl _) (fun q hq => ⟨if_neg (by omega), if_neg (by omega)⟩) (fun k j q => hr k j (by omega) (by omega)) (fun k j q => hc k j (by omega) (by omega)) (fun k j q => rfl) hok
  · exact pFt_keep g7 (Nat.le_refl _) (fun j q => hr 0 j (by omega) (by omega)) (fun j q => hc 2 j (by omega) (by omega))
  · exact pCo_keep (pCo_emit2 hp g8 x2 h1 hw hh (by unfold plc; omega) h12 hi) hok (fun _ _ _ => rfl) (fun _ _ _ => rfl)
  · exact pSx_emit (a := a) g9 (fun _ q => q) (by omega) hok (fun a1 a2 a3 => by omega) hS
  · exact pCa_emit (cc := cc) g10 (by omega) (by omega) (fun q hq => ⟨if_neg (by omega), by have := hmono q cr (by omega) (by omega); omega⟩) (fun k j q => hc k j (by omega) (by omega)) (fun _ => rfl)
/-! a fault of kind 2 or 3 -/
theorem notR_W {u : zMu} {b : Bool} {w x : Nat} (k j : Nat) (h : ¬ (k = 0 ∧ (j = 16 ∨ j = 17))) : zI (notR u b w x) k j = zI u k j := by
  cases b
  · rfl
  · show zI (zsI (zsI u 0 16 (nI w)) 0 17 (nI x)) k j = _
    rw [gI_sI, if_neg (by omega), gI_sI, if_neg (by omega)]
theorem notC_W {u : zMu} {b : Bool} {w x : Nat} (k j : Nat) (h : ¬ (k = 2 ∧ (j = 3 ∨ j = 4))) : zI (notC u b w x) k j = zI u k j := by
  cases b
  · rfl
  · show zI (zsI (zsI u 2 3 (nI x)) 2 4 (nI w)) k j = _
    rw [gI_sI, if_neg (by omega), gI_sI, if_neg (by omega)]
theorem notC_L {u : zMu} {b : Bool} {w x : Nat} (k j : Nat) : zL (notC u b w x) k j = zL u k j := by
  cases b <;> rfl
theorem fPR_not {u v : zMu} {b : Bool} {w x : Nat} (h : fPR u v) : fPR u (notR v b w x) := by
  cases b
  · exact h
  · exact fPR_I (fPR_I h (by unfold pwR; omega)) (by unfold pwR; omega)
theorem fPC_not {p : Nat} {u v : zMu} {b : Bool} {w x : Nat} (h : fPC p u v) : fPC p u (notC v b w x) := by
  cases b
  · exact h
  · exact fPC_I (fPC_I h (by unfold pwC; omega)) (by unfold pwC; omega)
theorem p_note (n : Nat) {ur uc : zMu} {fk fp w k : Nat} (h : pFa ur uc fk fp) (hc : zI uc 2 2 = 0) (hk : k = 2 ∨ k = 3) (hw : w ≤ 1500) :
    ∃ b fk' fp', rf_notes n ur (nI w) (nI k) = some ((), notR ur b w k) ∧ ce_C_note n uc (nI k) (nI w) = some ((), notC uc b w k) ∧ pFa (notR ur b w k) (notC uc b w k) fk' fp' ∧ fk' ≠ 0 ∧ fp' ≤ w ∧ (fk ≠ 0 → fp' ≤ fp) := by
  obtain ⟨b, fk', fp', e1, e2, e3, e4⟩ := p_notes n h hc hk hw
  refine ⟨b, fk', fp', e1, e2, e3, e4, ?_⟩
  rcases e3 with ⟨q, -⟩ | ⟨q1, q2, q3, q4, q5, q6⟩
  · exact absurd q e4
  cases b with
  | true =>
    have : nI w = nI fp' := by rw [← q3]; simp [notR, gI_sI]
    have hfw := (nI_eq (by omega) (by omega)).mp this
    refine ⟨by omega, fun hf => ?_⟩
    rcases h with ⟨z, -⟩ | ⟨z1, z2, z3, z4, z5, z6⟩
    · exact absurd z hf
    · rcases Nat.lt_or_ge fp w with g | g
      · exfalso
        have n1 : ¬ zI ur 0 16 = -1 := by rw [z3]; exact nI_m1 (by omega)
        have ne : ¬ nI w = nI fp := fun q => by have := (nI_eq (by omega) (by omega)).mp q; omega
        unfold rf_notes at e1
        rw [if_neg n1, z3, if_neg (nI_nlt (by omega) (by omega)), if_neg ne] at e1
        have e5 : ur = notR ur true w k := congrArg Prod.snd (Option.some.inj e1)
        have e6 : zI ur 0 16 = nI w := by rw [e5]; simp [notR, gI_sI]
        rw [z3] at e6
        exact ne e6.symm
      · omega
  | false =>
    rcases h with ⟨z, z1, z2, z3⟩ | ⟨z1, z2, z3, z4, z5, z6⟩
    · exfalso
      have : zI ur 0 16 = nI fp' := q3
      rw [z1] at this
      exact nI_m1 (by omega) this.symm
    · have : zI ur 0 16 = nI fp' := q3
      rw [z3] at this
      have hfp := (nI_eq (by omega) (by omega)).mp this
      subst hfp
      refine ⟨?_, fun _ => Nat.le_refl _⟩
      rcases Nat.lt_or_ge w fp with g | g
      · exfalso
        have n1 : ¬ zI ur 0 16 = -1 := by rw [z3]; exact nI_m1 (by omega)
        unfold rf_notes at e1
        rw [if_neg n1, z3, if_pos (nI_lt g (by omega))] at e1
        have e5 : zsI (zsI ur 0 16 (nI w)) 0 17 (nI k) = notR ur false w k := congrArg Prod.snd (Option.some.inj e1)
        have e6 : zI ur 0 16 = nI w := by
          have : zI (notR ur false w k) 0 16 = nI w := by rw [← e5]; simp [gI_sI]
          exact this
        rw [z3] at e6
        have := (nI_eq (by omega) (by omega)).mp e6
        omega
      · omega
theorem pOk_note (n : Nat) {X : pCx} {i i2 op cr cc S C tb e : Nat} {E : Nat → Prop} {M ht : Nat → Nat} {ur uc : zMu} (hX : xOk X) (h : pOk X i i2 op cr cc S C tb e E M ht ur uc) {w k : Nat} (hk : k = 2 ∨ k = 3) (hw : w ≤ 1500) :
    ∃ b, rf_notes n ur (nI w) (nI k) = some ((), notR ur b w k) ∧ ce_C_note n uc (nI k) (nI w) = some ((), notC uc b w k) ∧ pOk X i i2 op cr cc S C tb e E M ht (notR ur b w k) (notC uc b w k) ∧ ¬ zI (notC uc b w k) 2 3 = 0 := by
  obtain ⟨g1, g2, g3, g4, g5, g6, g7, g8, g9, g10⟩ := h
  obtain ⟨fk, fp, a1, a2⟩ := g7
  obtain ⟨b, fk', fp', b1, b2, b3, b4, b5, b6⟩ := p_note n a1 g4.2 hk hw
  have hp := hX.p12
  have bad : ¬ zI (notC uc b w k) 2 3 = 0 := by
    rcases b3 with ⟨q, -⟩ | ⟨q1, q2, q3, q4, q5, q6⟩
    · exact absurd q b4
    · rw [q5]; exact nI_ne0 (by omega) (by omega)
  have hr : ∀ a j, ¬ (a = 0 ∧ (j = 16 ∨ j = 17)) → zI (notR ur b w k) a j = zI ur a j := fun a j q => notR_W a j q
  have hc : ∀ a j, ¬ (a = 2 ∧ (j = 3 ∨ j = 4)) → zI (notC uc b w k) a j = zI uc a j := fun a j q => notC_W a j q
  have hl : ∀ a j, zL (notC uc b w k) a j = zL uc a j := fun a j => notC_L a j
  have hok : zI (notC uc b w k) 2 3 = 0 → zI uc 2 3 = 0 := fun q => absurd q bad
  refine ⟨b, b1, b2, ⟨fPR_not g1, fPC_not g2, pAt_keep g3 (hr 0 10 (by omega)) (fun j => hc 7 j (by omega)) (fun j => hl 7 j) (fun j => hl 11 j), ⟨(hr 0 15 (by omega)).trans g4.1, (hc 2 2 (by omega)).trans g4.2⟩, ⟨g5.1, (hr 0 26 (by omega)).trans g5.2.1, (hc 2 5 (by omega)).trans g5.2.2⟩, ?_, ?_, ?_, ?_, ?_⟩, bad⟩
  · exact pVs_keep g6 (Nat.le_refl _) (fun q hq => ⟨rfl, rfl⟩) (fun k j q => hr k j (by omega)) (fun k j q => hc k j (by omega)) (fun k j q => hl k j) hok
  · exact ⟨fk', fp', b3, fun q => ⟨b4, by have := a2 q; have := b6 this.1; omega⟩⟩
  · exact pCo_keep g8 hok (fun k j q => hr k j (by omega)) (fun k j q => hc k j (by omega))
  · exact pSx_keep g9 (fun k j q => hr k j (by omega)) hok
  · exact pCa_keep g10 (fun k j q => hr k j (by omega)) (fun k j q => hc k j (by omega)) (fun j => hl 4 j)
