/-! PARSING, fourteenth part: a new site -/
theorem place_of (n : Nat) {u : zMu} {i P : Nat} (h1 : zI u 0 10 = nI i) (hi : i ≤ 1500) (h5 : zI u 5 i = nI P) : rf_place n u = some (nI P, u) := by
  unfold rf_place
  rw [h1, zin_nI (show i < 1502 by omega) (by decide), zx_nI (by omega), h5]
  rfl
theorem siR_W {u : zMu} {S : Nat} {k P f w : Int32} (a j : Nat) (h : ¬ (19 ≤ a ∧ a ≤ 22 ∧ j = S)) : zI (siR u S k P f w) a j = zI u a j := by
  unfold siR
  rw [gI_sI, if_neg (by omega), gI_sI, if_neg (by omega), gI_sI, if_neg (by omega), gI_sI, if_neg (by omega)]
theorem siC_W {u : zMu} {p S : Nat} {k P f : Int32} {x : Int64} (a j : Nat) (h : ¬ (a = p ∧ j = 8)) (h2 : ¬ (p + 4 ≤ a ∧ a ≤ p + 6 ∧ j = S)) : zI (siC u p S k P f x) a j = zI u a j := by
  unfold siC
  rw [gI_sI, if_neg (by omega), gI_sL, gI_sI, if_neg (by omega), gI_sI, if_neg (by omega), gI_sI, if_neg (by omega)]
theorem siC_L {u : zMu} {p S : Nat} {k P f : Int32} {x : Int64} (a j : Nat) (h : ¬ (a = p + 7 ∧ j = S)) : zL (siC u p S k P f x) a j = zL u a j := by
  unfold siC
  rw [gL_sI, gL_sL, if_neg h]; rfl
theorem fPR_si {u v : zMu} {S : Nat} {k P f w : Int32} (h : fPR u v) : fPR u (siR v S k P f w) := fPR_I (fPR_I (fPR_I (fPR_I h (by unfold pwR; omega)) (by unfold pwR; omega)) (by unfold pwR; omega)) (by unfold pwR; omega)
theorem fPC_si {p : Nat} {u v : zMu} {S : Nat} {k P f : Int32} {x : Int64} (h : fPC p u v) : fPC p u (siC v p S k P f x) := fPC_I (fPC_L (fPC_I (fPC_I (fPC_I h (by unfold pwC; omega)) (by unfold pwC; omega)) (by unfold pwC; omega)) (by unfold pwC; omega)) (by unfold pwC; omega)
theorem zbd_e {ρ σ : Type} {X : Option (ρ × zMu)} {F : ρ → zMu → Option (σ × zMu)} {a : ρ} {u : zMu} (e : X = some (a, u)) : zbd X F = F a u := by subst e; rfl
theorem p_site (n : Nat) {p : Nat} (hzp : zpr p = true) {ur uc : zMu} {S fk fp i P : Nat} (fa : pFa ur uc fk fp) (h2 : zI uc 2 2 = 0) (hz : zR uc 2 1 = p) (hS : S < 800) (s1 : zI ur 0 39 = nI S) (s2 : zI uc p 8 = nI (min S 80)) (h80 : 80 < S → fk ≠ 0 ∧ fp < P) (hP : P ≤ 1500) (t1 : zI ur 0 10 = nI i) (t2 : i ≤ 1500) (t3 : zI ur 5 i = nI P) (k w0 : Int32) (x : Int64) :
    ∃ b fk' fp' v, rf_newSite n ur k w0 = some (nI S, zsI (notR (siR ur S k (nI P) (zI ur 0 27) w0) b P 3) 0 39 (nI (S + 1))) ∧ ce_C_addSite n uc k (nI P) x = some (nI v, if S < 80 then siC uc p S k (nI P) (zI uc 2 6) x else notC uc b P 3) ∧ pFa (notR ur b P 3) (notC uc b P 3) fk' fp' ∧ (80 ≤ S → fk' ≠ 0 ∧ fp' ≤ P) ∧ (S < 80 → b = false ∧ v = S) := by
  have hpl : ∀ v, rf_place n (zsI ur 19 S v) = some (nI P, zsI ur 19 S v) := fun v => place_of n (by rw [gI_sI, if_neg (by omega)]; exact t1) t2 (by rw [gI_sI, if_neg (by omega)]; exact t3)
  rcases Nat.lt_trichotomy S 80 with g | g | g
  · refine ⟨false, fk, fp, S, r_newSite n s1 hS (by omega) hpl k w0, ?_, fa, fun q => by omega, fun _ => ⟨rfl, rfl⟩⟩
    have hm : min S 80 = S := by omega
    rw [hm] at s2
    unfold ce_C_addSite
    rw [hz, hzp]
    show zbd (ce_P_addSite n p uc k (nI P) (zI uc 2 6) x) _ = _
    rw [c_pAddSite n p s2 g, if_pos g]
    show (if nI S = -1 then _ else _) = _
    rw [if_neg (nI_m1 (by omega))]
    show some ((if 0 < nI S then nI S else 0), _) = _
    by_cases z : S = 0
    · subst z; rfl
    · rw [if_pos (show (0 : Int32) < nI S from nI_lt (a := 0) (by omega) (by omega))]
  · subst g
    have fa2 : pFa (siR ur 80 k (nI P) (zI ur 0 27) w0) uc fk fp := pFa_keep fa (fun j q => siR_W 0 j (by omega)) (fun _ _ => rfl)
    obtain ⟨b, fk', fp', b1, b2, b3, b4, b5, b6⟩ := p_note n (w := P) (k := 3) fa2 h2 (by omega) hP
    refine ⟨b, fk', fp', 0, ?_, ?_, ?_, fun _ => ⟨b4, b5⟩, fun q => by omega⟩
    · have hz1 : zin (nI 80) 800 = true := by decide
      have hx1 : zx (nI 80) = 80 := zx_nI (by decide)
      have hp2 : rf_place n (siR ur 80 k (nI P) (zI ur 0 27) w0) = some (nI P, siR ur 80 k (nI P) (zI ur 0 27) w0) := place_of n (by rw [siR_W _ _ (by omega)]; exact t1) t2 (by rw [siR_W _ _ (by omega)]; exact t3)
      have e39 : zI (notR (siR ur 80 k (nI P) (zI ur 0 27) w0) b P 3) 0 39 = nI 80 := by rw [notR_W _ _ (by omega), siR_W _ _ (by omega)]; exact s1
      have step : rf_newSite n ur k w0 = zbd (rf_place n (siR ur 80 k (nI P) (zI ur 0 27) w0)) fun r8 u9 => zbd (rf_notes n u9 r8 3) fun _ u11 => some (zI u11 0 39, zsI u11 0 39 (zI u11 0 39 + 1)) := by
        unfold rf_newSite siR
        simp [zbd, zlet, zgd, gI_sI, s1, hz1, hx1, hpl]
        exact fun q => absurd rfl q
      rw [step, hp2]
      show zbd (rf_notes n (siR ur 80 k (nI P) (zI ur 0 27) w0) (nI P) (nI 3)) _ = _
      rw [b1]
      show some (zI (notR (siR ur 80 k (nI P) (zI ur 0 27) w0) b P 3) 0 39, zsI _ 0 39 (zI (notR (siR ur 80 k (nI P) (zI ur 0 27) w0) b P 3) 0 39 + 1)) = _
      rw [e39]
      rfl
    · unfold ce_C_addSite
      rw [hz, hzp]
      show zbd (ce_P_addSite n p uc k (nI P) (zI uc 2 6) x) _ = _
      rw [zbd_e (c_pAddSite80 n p s2 _ _ _ _), if_pos rfl, show (3 : Int32) = nI 3 from rfl, zbd_e b2]
      rfl
    · refine pFa_keep b3 (fun j q => ?_) (fun _ _ => rfl)
      cases b
      · exact (siR_W 0 j (by omega)).symm
      · show zI (zsI (zsI _ 0 16 _) 0 17 _) 0 j = zI (zsI (zsI _ 0 16 _) 0 17 _) 0 j
        rcases q with rfl | rfl <;> simp [gI_sI]
  · refine ⟨false, fk, fp, 0, r_newSite n s1 hS (by omega) hpl k w0, ?_, fa, fun q => ⟨(h80 g).1, Nat.le_of_lt (h80 g).2⟩, fun q => by omega⟩
    have hm : min S 80 = 80 := by omega
    rw [hm] at s2
    have hno : ce_C_note n uc (nI 3) (nI P) = some ((), uc) := by
      rcases fa with ⟨q, -⟩ | ⟨q1, q2, q3, q4, q5, q6⟩
      · exact absurd q (h80 g).1
      · have n2 : ¬ zI uc 2 3 = 0 := by rw [q5]; exact nI_ne0 (by omega) (by omega)
        have ne : ¬ nI P = nI fp := fun q => by have := (nI_eq (by omega) (by omega)).mp q; have := (h80 g).2; omega
        unfold ce_C_note ce_C_note_J28
        rw [if_pos h2, if_neg n2, q6, if_neg (nI_nlt (by have := (h80 g).2; omega) (by omega)), if_pos rfl, if_neg ne]
    unfold ce_C_addSite
    rw [hz, hzp]
    show zbd (ce_P_addSite n p uc k (nI P) (zI uc 2 6) x) _ = _
    rw [zbd_e (c_pAddSite80 n p s2 _ _ _ _), if_pos rfl, show (3 : Int32) = nI 3 from rfl, zbd_e hno, if_neg (show ¬ S < 80 by omega)]
    rfl
/-- both have a new site, pending, and stand behind its sign -/
theorem pOk_site {X : pCx} {i i2 i3 op cr cc S C tb e : Nat} {E : Nat → Prop} {M ht : Nat → Nat} {ur uc vr vc : zMu} (hX : xOk X) (h : pOk X i i2 op cr cc S C tb e E M ht ur uc) (hi : i < xT X) (hS : S < 800) {k : Nat} (hk : k ≤ 3) (f1 : fPR (xr X) vr) (f2 : fPC (xp X) (xc X) vc) (ha : pAr X vr (i + 1) ∧ pAc X vc i3) (hf : pFt X (i + 1) (S + 1) vr vc)
    (hr : ∀ a j, ¬ (a = 0 ∧ (j = 10 ∨ j = 16 ∨ j = 17 ∨ j = 39)) → ¬ (19 ≤ a ∧ a ≤ 22 ∧ j = S) → zI vr a j = zI ur a j) (hc : ∀ a j, a ≠ 7 → ¬ (a = 2 ∧ (j = 3 ∨ j = 4)) → ¬ (a = xp X ∧ j = 8) → ¬ (xp X + 4 ≤ a ∧ a ≤ xp X + 6 ∧ j = S) → zI vc a j = zI uc a j) (hl : ∀ a j, a ≠ 7 → ¬ (a = xp X + 7 ∧ j = S) → zL vc a j = zL uc a j) (hok : zI vc 2 3 = 0 → zI uc 2 3 = 0 ∧ S < 80)
    (v39 : zI vr 0 39 = nI (S + 1)) (v8 : zI vc (xp X) 8 = nI (min (S + 1) 80)) (v19 : zI vr 19 S = nI k) (v20 : zI vr 20 S = nI (xpl X i)) (v21 : zI vr 21 S = zI ur 0 27)
    (w : S < 80 → zI vc (xp X + 4) S = nI k ∧ zI vc (xp X + 5) S = nI (xpl X i) ∧ zI vc (xp X + 6) S = zI uc 2 6 ∧ (k ≠ 3 → ∃ w, w < xN X ∧ zI vr 22 S = nI w ∧ zL vc (xp X + 7) S = xPK X w)) :
    pOk X (i + 1) i3 op cr cc (S + 1) C tb e (fun s => E s ∨ s = S) M ht vr vc := by
  obtain ⟨g1, g2, g3, g4, g5, g6, g7, g8, g9, g10⟩ := h
  have hp := hX.p12
  have hok' : zI vc 2 3 = 0 → zI uc 2 3 = 0 := fun q => (hok q).1
  have hP := hX.pl (Nat.le_of_lt hi)
  refine ⟨f1, f2, ha, ⟨(hr 0 15 (by omega) (by omega)).trans g4.1, (hc 2 2 (by omega) (by omega) (by omega) (by omega)).trans g4.2⟩, ⟨g5.1, (hr 0 26 (by omega) (by omega)).trans g5.2.1, (hc 2 5 (by omega) (by omega) (by omega) (by omega)).trans g5.2.2⟩, ?_, hf, ?_, ?_, ?_⟩
  · obtain ⟨r, V, F, vw, h0, h1, h2, h3, h4, h5⟩ := g6
    refine ⟨r, V, F, vw, h0, pRo_keep h1 (hr 0 27 (by omega) (by omega)) (hc 2 6 (by omega) (by omega) (by omega) (by omega)), pVa_keep h2 (fun k j a b => hr k j (by omega) (by omega)) (hc 2 8 (by omega) (by omega) (by omega) (by omega)) (fun j => hl 3 j (by omega) (by omega)), pFn_keep h3 (Nat.le_refl _) (fun q _ => ⟨rfl, rfl⟩) (fun k j q => hr k j (by omega) (by omega)) (fun k j q => hc k j (by omega) (by omega) (by omega) (by omega)) (fun j => hl _ j (by omega) (by omega)), pMn_keep h4 (Nat.le_refl _) (fun q _ => ⟨rfl, rfl⟩) (hr 0 34 (by omega) (by omega)) (hc _ 13 (by omega) (by omega) (by omega) (by omega)), ?_⟩
    obtain ⟨s1, s2, s3, s4, s5⟩ := h5
    refine ⟨by omega, by omega, v39, v8, fun q => ⟨by have := (hok q).2; omega, fun s hs => ?_⟩⟩
    by_cases es : s = S
    · subst es
      obtain ⟨w1, w2, w3, w4⟩ := w (hok q).2
      have ne : s ≠ e := by
        intro z
        rcases s2 with q | q
        · exact absurd q (Nat.not_lt.mpr (Nat.le_of_eq z))
        · exact absurd hS (Nat.not_lt.mpr (z ▸ q))
      refine ⟨k, xpl X i, hk, hP, v19, by rw [if_neg ne]; exact w1, v20, w2, ?_, ?_, w4⟩
      · rw [w3, v21]
        rcases h1 with ⟨-, q1, q2⟩ | ⟨-, q1, q2⟩ <;> rw [q1, q2]
      · rw [v21]
        rcases h1 with ⟨-, q1, q2⟩ | ⟨q0, q1, q2⟩
        · exact Or.inl q1
        · exact Or.inr ⟨r, h0.1.resolve_left (fun z => absurd q0 (by rw [z]; decide)), q1⟩
    · have g := (s5 (hok' q)).2 s (by omega)
      rw [hr 19 s (by omega) (by omega), hr 20 s (by omega) (by omega), hr 21 s (by omega) (by omega), hr 22 s (by omega) (by omega), hc (xp X + 4) s (by omega) (by omega) (by omega) (by omega), hc (xp X + 5) s (by omega) (by omega) (by omega) (by omega), hc (xp X + 6) s (by omega) (by omega) (by omega) (by omega), hl _ s (by omega) (by omega)]
      exact g
  · exact pCo_keep g8 hok' (fun k j q => hr k j (by omega) (by omega)) (fun k j q => hc k j (by omega) (by omega) (by omega) (by omega))
  · refine ⟨fun s q => ?_, fun q => ?_⟩
    · rcases q with z | z
      · have := g9.1 s z; omega
      · omega
    obtain ⟨h1, h2⟩ := g9.2 (hok' q)
    refine ⟨fun r o' a b c d => ?_, fun r r' o o' a b c d e f g i j => ?_⟩
    · rw [hr 10 r (by omega) (by omega)] at b
      obtain ⟨x, x1, x2, x3, x4⟩ := h1 r o' (by omega) b c d
      refine ⟨x, by omega, fun z => ?_, by rw [hr 11 r (by omega) (by omega)]; exact x3, by rw [hr 19 x (by omega) (by omega)]; exact x4⟩
      rcases z with z | z
      · exact x2 z
      · omega
    · rw [hr 10 _ (by omega) (by omega)] at c f
      rw [hr 11 _ (by omega) (by omega), hr 11 _ (by omega) (by omega)] at j
      exact h2 r r' o o' a b c d e f g i j
  · exact pCa_keep g10 (fun k j q => hr k j (by omega) (by omega)) (fun k j q => hc k j (by omega) (by omega) (by omega) (by omega)) (fun j => hl 4 j (by omega) (by omega))
