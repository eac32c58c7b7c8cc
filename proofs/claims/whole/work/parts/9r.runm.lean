/-! RUNNING: a made fn is left, both; sums -/
theorem kS1_W {F : Nat} {ub : zMu} {W V : kW} {ur uc : zMu} {s : Nat} (h : kS1 F ub W ur uc s) (e1 : wO V = wO W) (e2 : wS V = wS W) (e3 : wp V = wp W) (e4 : ws V = ws W) (e5 : wf V = wf W) : kS1 F ub V ur uc s := by
  unfold kS1 kEn at h ⊢
  rw [e1, e2, e3, e4, e5]
  exact h
theorem k_leave (n : Nat) (hn : 100 ≤ n) {C : kC} (P : kPs C) {W : kW} {ur uc : zMu} (B : kBs C ur uc) (hS : kSi (cF C) (cS C) (cb C) W ur uc) (hF : kFn (cF C) W ur uc) {s f : Nat} (hs : s < cS C) (hf : f < cF C) (ef : zI (cb C) 21 s = nI f) (em : wf W f = 1) : ∃ vr vc, rf_leaves n ur (nI s) = some ((), vr) ∧ ce_M_leaveMade n uc (nI s) = some ((), vc) ∧ fT tgR [9, 10] ur vr ∧ fT tgC [9, 10] uc vc ∧ kSi (cF C) (cS C) (cb C) (wSF W f 0) vr vc ∧ kFn (cF C) (wSF W f 0) vr vc := by
  obtain ⟨pp, pz, p12⟩ := B.p P
  obtain ⟨-, -, -, ⟨F8, pF⟩, ⟨S80, pS1, pS2⟩, pS3⟩ := P
  obtain ⟨f1, f2, f3⟩ := hF
  obtain ⟨a1, a2, a3, a4, a5, a6, a7, l, l1, l2, l3, l4, l5⟩ := f3 f hf
  have l5 := l5 em
  -- the reference
  have r21 : zI ur 21 s = nI f := (B.r (show tgR 21 s = 0 from rfl)).trans ef
  obtain ⟨u6, hu6⟩ : ∃ u6, zsI (zsI (zsI (zsI (zsI ur 66 f 0) 62 f 0) 64 f (nI (l + 1))) 0 66 (zI ur 0 66 + 1)) 65 f (nI s) = u6 := ⟨_, rfl⟩
  obtain ⟨u8, hu8⟩ : ∃ u8, (if l + 1 = 3 then zsI u6 67 f 1 else u6) = u8 := ⟨_, rfl⟩
  have F6 : fT tgR [10] ur u6 := by subst hu6; exact fT_I (fT_I (fT_I (fT_I (fT_I (fT_rf _ _ _) _ 10 rfl (by decide)) _ 10 rfl (by decide)) _ 10 rfl (by decide)) _ 10 rfl (by decide)) _ 10 rfl (by decide)
  have F8' : fT tgR [10] ur u8 := by
    subst hu8
    by_cases z : l + 1 = 3
    · rw [if_pos z]; exact fT_I F6 _ 10 rfl (by decide)
    · rw [if_neg z]; exact F6
  have i39 : zI u8 0 39 = nI (cS C) := (fT_i F8' (by decide) (show tgR 0 39 = 0 from rfl)).trans ((B.r (show tgR 0 39 = 0 from rfl)).trans pS1)
  obtain ⟨vr, er, gr1, gr2, gr3⟩ := kr_drop n (cS C) (nI f) S80 (cS C) 0 n u8 (by omega) (by omega) i39
  have er0 : rf_leaves n ur (nI s) = some ((), vr) := by
    unfold rf_leaves
    rw [zin_nI (show s < 800 by omega) (by decide), zgd_t, zx_nI (show s < 2 ^ 31 by omega), r21]
    show zgd (zin (nI f) 9) (zlet (zsI ur 66 (zx (nI f)) (vp_nar .boolean 0)) fun u2 => zgd (zin (nI f) 9) (zlet (zsI u2 62 (zx (nI f)) 0) fun u3 => zgd (zin (nI f) 9) (zgd (zin (nI f) 9) (zlet (zsI u3 64 (zx (nI f)) ((zI u3 64 (zx (nI f))) + 1)) fun u4 => zlet (zsI u4 0 66 ((zI u4 0 66) + 1)) fun u5 => zgd (zin (nI f) 9) (zlet (zsI u5 65 (zx (nI f)) (nI s)) fun u6 => zgd (zin (nI f) 9) (if zI u6 64 (zx (nI f)) = 3 then (zgd (zin (nI f) 9) (zlet (zsI u6 67 (zx (nI f)) (vp_nar .boolean 1)) fun u8 => rf_leaves_L67 n n u8 (nI f) 0)) else rf_leaves_L67 n n u6 (nI f) 0)))))) = _
    rw [zin_nI (show f < 9 by omega) (by decide), zgd_t, zx_nI (show f < 2 ^ 31 by omega)]
    show (if zI (zsI (zsI (zsI (zsI (zsI ur 66 f 0) 62 f 0) 64 f (zI ur 64 f + 1)) 0 66 (zI ur 0 66 + 1)) 65 f (nI s)) 64 f = 3 then rf_leaves_L67 n n (zsI (zsI (zsI (zsI (zsI (zsI ur 66 f 0) 62 f 0) 64 f (zI ur 64 f + 1)) 0 66 (zI ur 0 66 + 1)) 65 f (nI s)) 67 f 1) (nI f) 0 else rf_leaves_L67 n n (zsI (zsI (zsI (zsI (zsI ur 66 f 0) 62 f 0) 64 f (zI ur 64 f + 1)) 0 66 (zI ur 0 66 + 1)) 65 f (nI s)) (nI f) 0) = _
    rw [l2, nI_1, hu6]
    have i64 : zI u6 64 f = nI (l + 1) := by subst hu6; rw [gI_sI, if_neg (by omega), gI_sI, if_neg (by omega), gI_sI, if_pos ⟨rfl, rfl⟩]
    rw [i64]
    by_cases z : l + 1 = 3
    · rw [if_pos z] at hu8
      rw [if_pos (by rw [z]; rfl), hu8]
      exact er
    · rw [if_neg z] at hu8
      rw [if_neg (show ¬ nI (l + 1) = (3 : Int32) from fun q => z ((nI_eq (b := 3) (by omega) (by decide)).mp q)), hu8]
      exact er
  -- the class
  have c6 : zI uc (xp (cX C) + 6) s = nI f := by
    obtain ⟨k, k1, k2, k3, k4, k5⟩ := pS3 s hs
    rw [B.c (a := xp (cX C) + 6) (by omega) (by omega), k4, ef]
  obtain ⟨w5, hw5⟩ : ∃ w5, zsI (zsI (zsI (zsI (zsI uc 62 f 0) 61 f 0) 64 f (nI (l + 1))) 65 f (nI s)) 59 7 (zI uc 59 7 + 1) = w5 := ⟨_, rfl⟩
  have G5 : fT tgC [10] uc w5 := by subst hw5; exact fT_I (fT_I (fT_I (fT_I (fT_I (fT_rf _ _ _) _ 10 rfl (by decide)) _ 10 rfl (by decide)) _ 10 rfl (by decide)) _ 10 rfl (by decide)) _ 10 rfl (by decide)
  have B5 : ∀ a j, 12 ≤ a → a ≤ 33 → zI w5 a j = zI (cv C) a j := fun a j x y => (fT_i G5 (by decide) (tgC_p x y j)).trans (B.c x y j)
  obtain ⟨vc, ec, gc1, gc2, gc3⟩ := kc_drop n (xp (cX C)) (cS C) (nI f) p12 S80 (cS C) 0 n w5 (by omega) (by omega) (by rw [B5 _ 8 (by omega) (by omega)]; exact pS2)
  have ec0 : ce_M_leaveMade n uc (nI s) = some ((), vc) := by
    unfold ce_M_leaveMade
    rw [pp, pz, zgd_t]
    show zgd (zin (nI s) 80) (zlet (zI uc (xp (cX C) + 6) (zx (nI s))) fun v2 => zgd true (zlet (xp (cX C)) fun p3 => zbd (ce_P_isFn n p3 uc v2) fun r4 u5 => if r4 = 0 then some ((), u5) else (zbd (ce_F_leave n u5 v2 (nI s)) fun _ u8 => zgd (zpr (zR u8 34 6)) (zlet (zR u8 34 6) fun p9 => zbd (ce_T_dropGuesses n p9 u8 v2) fun _ u11 => some ((), u11))))) = _
    rw [zin_nI (show s < 80 by omega) (by decide), zgd_t, zx_nI (show s < 2 ^ 31 by omega), c6]
    show zbd (ce_P_isFn n (xp (cX C)) uc (nI f)) _ = _
    rw [zbd_e (ck_isFn n (F := cF C) (by rw [B.c (by omega) (by omega)]; exact pF) (by omega) hf), if_neg (by decide)]
    have el : ce_F_leave n uc (nI f) (nI s) = some ((), w5) := by
      unfold ce_F_leave
      rw [zin_nI (show f < 8 by omega) (by decide), zgd_t, zx_nI (show f < 2 ^ 31 by omega)]
      show some ((), zsI (zsI (zsI (zsI (zsI uc 62 f 0) 61 f 0) 64 f (zI uc 64 f + 1)) 65 f (nI s)) 59 7 (zI uc 59 7 + 1)) = _
      rw [l3, nI_1, hw5]
    rw [zbd_e el]
    have pp5 : zR w5 34 6 = xp (cX C) := (fT_R G5 34 6).trans pp
    rw [pp5, pz, zgd_t]
    show zbd (ce_T_dropGuesses n (xp (cX C)) w5 (nI f)) _ = _
    rw [zbd_u]
    exact ec
  refine ⟨vr, vc, er0, ec0, fT_tr (fT_mono F8' (by decide)) (fT_mono gr1 (by decide)), fT_tr (fT_mono G5 (by decide)) (fT_mono gc1 (by decide)), ?_, ?_⟩
  · obtain ⟨h1, h2, h3, h4⟩ := hS
    have jr : ∀ a i, ¬ a = 59 → tgR a i ≠ 10 → zI vr a i = zI ur a i := fun a i q q2 => (gr2 a i q).trans (F8'.1 a i (by simp; exact q2))
    have jc : ∀ a i, ¬ a = 58 → tgC a i ≠ 10 → zI vc a i = zI uc a i := fun a i q q2 => (gc2 a i q).trans (G5.1 a i (by simp; exact q2))
    refine ⟨?_, ?_, ?_, fun s' hs' => ?_⟩
    · rw [jr 0 62 (by decide) (by decide), jc 49 9 (by decide) (by decide)]; exact h1
    · rw [jr 0 63 (by decide) (by decide), jc 49 10 (by decide) (by decide)]; exact h2
    · rw [jr 0 64 (by decide) (by decide), jc 49 11 (by decide) (by decide)]; exact h3
    · obtain ⟨k, k1, k2, k3, k4, k5, -⟩ := pS3 s' hs'
      have e21 : zI u8 21 s' = zI (cb C) 21 s' := (fT_i F8' (by decide) (show tgR 21 s' = 0 from rfl)).trans (B.r (show tgR 21 s' = 0 from rfl))
      have e6 : zI w5 (xp (cX C) + 6) s' = zI (cb C) 21 s' := (B5 _ s' (by omega) (by omega)).trans k4
      have v59 : zI vr 59 s' = if zI (cb C) 21 s' = nI f then 0 else zI ur 59 s' := by
        rw [gr3, e21, fT_i F8' (by decide) (show tgR 59 s' = 9 from rfl)]
        by_cases z : zI (cb C) 21 s' = nI f
        · rw [if_pos ⟨by omega, hs', z⟩, if_pos z]
        · rw [if_neg (fun q => z q.2.2), if_neg z]
      have v58 : zI vc 58 s' = if zI (cb C) 21 s' = nI f then 0 else zI uc 58 s' := by
        rw [gc3, e6, fT_i G5 (by decide) (show tgC 58 s' = 9 from rfl)]
        by_cases z : zI (cb C) 21 s' = nI f
        · rw [if_pos ⟨by omega, hs', z⟩, if_pos z]
        · rw [if_neg (fun q => z q.2.2), if_neg z]
      have kr : ∀ a i, 52 ≤ a → a ≤ 60 → ¬ a = 59 → zI vr a i = zI ur a i := fun a i x y q => jr a i q (by rw [tgR_9 x y]; decide)
      have kc : ∀ a i, 50 ≤ a → a ≤ 58 → ¬ a = 58 → zI vc a i = zI uc a i := fun a i x y q => jc a i q (by rw [tgC_9 (by omega) y]; decide)
      obtain ⟨g1, g2, g3, g4, g, g5, g6, g7, g8, g9⟩ := h4 s' hs'
      refine ⟨?_, ?_, fun q => ?_, fun q => ?_, ?_⟩
      · rw [kr 52 _ (by omega) (by omega) (by omega), kc 50 _ (by omega) (by omega) (by omega)]; exact g1
      · rw [kr 53 _ (by omega) (by omega) (by omega), kc 51 _ (by omega) (by omega) (by omega)]; exact g2
      · rw [kr 54 _ (by omega) (by omega) (by omega), kc 54 _ (by omega) (by omega) (by omega), kc 52 _ (by omega) (by omega) (by omega), kc 53 _ (by omega) (by omega) (by omega), kr 58 _ (by omega) (by omega) (by omega)]; exact g3 q
      · obtain ⟨k, k1, k2, k3, k4, k5, k6⟩ := g4 q
        refine ⟨k, k1, ?_, ?_, ?_, ?_, fun i hi => kEn_q (k6 i hi) (kr 55 _ (by omega) (by omega) (by omega)) (kr 56 _ (by omega) (by omega) (by omega)) (kr 57 _ (by omega) (by omega) (by omega)) (kc 55 _ (by omega) (by omega) (by omega)) (kc 56 _ (by omega) (by omega) (by omega))⟩
        · rw [kr 54 _ (by omega) (by omega) (by omega)]; exact k2
        · rw [kc 52 _ (by omega) (by omega) (by omega)]; exact k3
        · rw [kr 58 _ (by omega) (by omega) (by omega), kc 53 _ (by omega) (by omega) (by omega)]; exact k4
        · rw [kr 58 _ (by omega) (by omega) (by omega)]; exact k5
      · rw [v59, v58]
        by_cases z : zI (cb C) 21 s' = nI f
        · rw [if_pos z, if_pos z]
          exact ⟨0, by omega, rfl, rfl, fun q => absurd q (by omega), fun _ i hi => absurd hi (by omega)⟩
        · rw [if_neg z, if_neg z]
          refine ⟨g, g5, g6, g7, fun q => ?_, fun q i hi => ?_⟩
          · obtain ⟨y1, f', y2, y3, y4⟩ := g8 q
            refine ⟨y1, f', y2, y3, ?_⟩
            rw [wSF_f, if_neg]
            · exact y4
            · intro q; subst q; exact z y3
          · rw [kr 60 _ (by omega) (by omega) (by omega), kc 57 _ (by omega) (by omega) (by omega)]; exact g9 q i hi
  · have jr : ∀ a i, ¬ a = 59 → zI vr a i = zI u8 a i := fun a i q => gr2 a i q
    have jc : ∀ a i, ¬ a = 58 → zI vc a i = zI w5 a i := fun a i q => gc2 a i q
    have u8o : ∀ a i, ¬ a = 67 → zI u8 a i = zI u6 a i := fun a i q => by
      subst hu8
      by_cases z : l + 1 = 3
      · rw [if_pos z, gI_sI, if_neg (by omega)]
      · rw [if_neg z]
    have u67 : ∀ i, zI u8 67 i = if i = f ∧ l + 1 = 3 then 1 else zI ur 67 i := fun i => by
      have h6 : zI u6 67 i = zI ur 67 i := by subst hu6; rw [gI_sI, if_neg (by omega), gI_sI, if_neg (by omega), gI_sI, if_neg (by omega), gI_sI, if_neg (by omega), gI_sI, if_neg (by omega)]
      subst hu8
      by_cases z : l + 1 = 3
      · rw [if_pos z, gI_sI]
        by_cases y : i = f
        · rw [if_pos ⟨rfl, y⟩, if_pos ⟨y, z⟩]
        · rw [if_neg (by omega), if_neg (by omega), h6]
      · rw [if_neg z, if_neg (by omega), h6]
    refine ⟨?_, ?_, fun g hg => ?_⟩
    · rw [jr 0 65 (by decide), jc 59 6 (by decide), u8o 0 65 (by decide)]
      subst hu6; subst hw5
      rw [gI_sI, if_neg (by omega), gI_sI, if_neg (by omega), gI_sI, if_neg (by omega), gI_sI, if_neg (by omega), gI_sI, if_neg (by omega), gI_sI, if_neg (by omega), gI_sI, if_neg (by omega), gI_sI, if_neg (by omega), gI_sI, if_neg (by omega), gI_sI, if_neg (by omega)]
      exact f1
    · rw [jr 0 66 (by decide), jc 59 7 (by decide), u8o 0 66 (by decide)]
      subst hu6; subst hw5
      rw [gI_sI, if_pos ⟨rfl, rfl⟩, gI_sI, if_neg (by omega), gI_sI, if_pos ⟨rfl, rfl⟩, f2]
    · have R : ∀ a, 61 ≤ a → a ≤ 66 → zI vr a g = zI u6 a g := fun a x y => (jr a g (by omega)).trans (u8o a g (by omega))
      rw [R 61 (by omega) (by omega), R 62 (by omega) (by omega), R 63 (by omega) (by omega), R 64 (by omega) (by omega), R 65 (by omega) (by omega), R 66 (by omega) (by omega), jr 67 g (by decide), u67, jc 60 g (by decide), jc 61 g (by decide), jc 62 g (by decide), jc 63 g (by decide), jc 64 g (by decide), jc 65 g (by decide), wSF_f]
      by_cases y : g = f
      · subst y
        have b61 : zI u6 61 g = zI ur 61 g := by subst hu6; simp [gI_sI]
        have b62 : zI u6 62 g = 0 := by subst hu6; simp [gI_sI]
        have b63 : zI u6 63 g = zI ur 63 g := by subst hu6; simp [gI_sI]
        have b64 : zI u6 64 g = nI (l + 1) := by subst hu6; simp [gI_sI]
        have b65 : zI u6 65 g = nI s := by subst hu6; simp [gI_sI]
        have b66 : zI u6 66 g = 0 := by subst hu6; simp [gI_sI]
        have d60 : zI w5 60 g = zI uc 60 g := by subst hw5; simp [gI_sI]
        have d61 : zI w5 61 g = 0 := by subst hw5; simp [gI_sI]
        have d62 : zI w5 62 g = 0 := by subst hw5; simp [gI_sI]
        have d63 : zI w5 63 g = zI uc 63 g := by subst hw5; simp [gI_sI]
        have d64 : zI w5 64 g = nI (l + 1) := by subst hw5; simp [gI_sI]
        have d65 : zI w5 65 g = nI s := by subst hw5; simp [gI_sI]
        rw [b61, b62, b63, b64, b65, b66, d60, d61, d62, d63, d64, d65, if_pos rfl]
        refine ⟨a1, rfl, a3, rfl, by omega, rfl, rfl, l + 1, by omega, rfl, rfl, ?_, fun q => absurd q (by omega)⟩
        by_cases z : l + 1 = 3
        · rw [if_pos ⟨rfl, z⟩, if_pos z]; rfl
        · rw [if_neg (fun q => z q.2), if_neg z, l4, if_neg (by omega)]
      · have br : ∀ a, 61 ≤ a → a ≤ 66 → zI u6 a g = zI ur a g := fun a x x' => by subst hu6; rw [gI_sI, if_neg (by omega), gI_sI, if_neg (by omega), gI_sI, if_neg (by omega), gI_sI, if_neg (by omega), gI_sI, if_neg (by omega)]
        have dr : ∀ a, 60 ≤ a → zI w5 a g = zI uc a g := fun a x => by subst hw5; rw [gI_sI, if_neg (by omega), gI_sI, if_neg (by omega), gI_sI, if_neg (by omega), gI_sI, if_neg (by omega), gI_sI, if_neg (by omega)]
        rw [br 61 (by omega) (by omega), br 62 (by omega) (by omega), br 63 (by omega) (by omega), br 64 (by omega) (by omega), br 65 (by omega) (by omega), br 66 (by omega) (by omega), dr 60 (by omega), dr 61 (by omega), dr 62 (by omega), dr 63 (by omega), dr 64 (by omega), dr 65 (by omega), if_neg y, if_neg (fun q => y q.1)]
        exact f3 g hg
