/-! RUNNING: a new object -/
/-- one object more, of parent q -/
def wAO (W : kW) (q : Nat) : kW := ((wO W + 1, wR W, wS W, wM W, wP W), fun o => if o = wO W then q else wp W o, W.2.2.1, fun o => if o = wO W then [] else wl W o, wf W)
theorem wAO_p (W : kW) (q o : Nat) : wp (wAO W q) o = if o = wO W then q else wp W o := rfl
theorem wAO_l (W : kW) (q o : Nat) : wl (wAO W q) o = if o = wO W then [] else wl W o := rfl
theorem wAO_le (W : kW) (q : Nat) : wLe W (wAO W q) := ⟨Nat.le_succ _, Nat.le_refl _, Nat.le_refl _, fun o ho => by rw [wAO_p, if_neg (by omega)], fun _ _ => ⟨rfl, rfl, rfl⟩⟩
theorem wLe_tr {A B D : kW} (h : wLe A B) (k : wLe B D) : wLe A D := by
  obtain ⟨a1, a2, a3, a4, a5⟩ := h
  obtain ⟨b1, b2, b3, b4, b5⟩ := k
  refine ⟨by omega, by omega, by omega, fun o ho => (b4 o (by omega)).trans (a4 o ho), fun s hs => ?_⟩
  obtain ⟨x1, x2, x3⟩ := a5 s hs
  obtain ⟨y1, y2, y3⟩ := b5 s (by omega)
  exact ⟨y1.trans x1, y2.trans x2, y3.trans x3⟩
/-- both make an object of parent q -/
theorem k_addO (n : Nat) (hn : 20000 ≤ n) {C : kC} {W : kW} {ur uc : zMu} (hO : kOb W ur uc) (hM : kMb (cX C) (cb C) W ur uc) (hS : kSh (cX C) W ur uc) (hd : zdy uc = true) (h2 : wO W < 200) {q : Nat} (hq : q ≤ wO W) : ∃ V vr vc, (∀ v2 : Int32, rf_news_J63 n ur v2 (iP q) = (zbd (rf_pushes n vr 2 ((nI (wO W)).toInt64)) fun _ u14 => some ((-1 : Int32), u14))) ∧ ce_H_addObject n uc (iP q) = some (nI (wO W), vc) ∧ fT tgR [5, 6, 7] ur vr ∧ fT tgC [5, 6, 7] uc vc ∧ wLe W V ∧ wO V = wO W + 1 ∧ wR V = wR W ∧ wM V = wM W ∧ wP V = wP W ∧ wf V = wf W ∧ kOb V vr vc ∧ kMb (cX C) (cb C) V vr vc ∧ kSh (cX C) V vr vc := by
  -- the reference ahead of the shape
  obtain ⟨u9, hu9⟩ : ∃ u9, zsI (zsI (zsI (zsI (zsI ur 0 57 (nI (wO W + 1))) 35 (wO W) (iP q)) 37 (wO W) (-1)) 38 (wO W) (-1)) 39 (wO W) 0 = u9 := ⟨_, rfl⟩
  have F9 : fT tgR [5, 6] ur u9 := by subst hu9; exact fT_I (fT_I (fT_I (fT_I (fT_I (fT_rf _ _ _) _ 5 rfl (by decide)) _ 5 rfl (by decide)) _ 6 rfl (by decide)) _ 6 rfl (by decide)) _ 6 rfl (by decide)
  have i9 : ∀ a j, ¬ ((a = 0 ∧ j = 57) ∨ ((a = 35 ∨ a = 37 ∨ a = 38 ∨ a = 39) ∧ j = wO W)) → zI u9 a j = zI ur a j := fun a j z => by subst hu9; rw [gI_sI, if_neg (by omega), gI_sI, if_neg (by omega), gI_sI, if_neg (by omega), gI_sI, if_neg (by omega), gI_sI, if_neg (by omega)]
  obtain ⟨u5, hu5⟩ : ∃ u5, zsI (zsI uc 36 7 (nI (wO W + 1))) 38 (wO W) (iP q) = u5 := ⟨_, rfl⟩
  have G5 : fT tgC [5, 6] uc u5 := by subst hu5; exact fT_I (fT_I (fT_rf _ _ _) _ 5 rfl (by decide)) _ 5 rfl (by decide)
  have i5 : ∀ a j, ¬ ((a = 36 ∧ j = 7) ∨ (a = 38 ∧ j = wO W)) → zI u5 a j = zI uc a j := fun a j z => by subst hu5; rw [gI_sI, if_neg (by omega), gI_sI, if_neg (by omega)]
  have hS9 := kSh_k hS F9 G5 (by decide)
  have kb : kSn W ur ≤ wO W * 9 := kSm_le _ (fun o ho => by
    by_cases z : zI ur 36 o = -1
    · rw [if_pos z]; exact Nat.le_refl _
    · rw [if_neg z]
      obtain ⟨-, -, y⟩ := hS.2.2.2.2.2.2.2.2 o ho
      rcases y with y | ⟨s, -, -, -, -, y⟩
      · exact absurd y z
      · omega)
  have s18 : wS W < 1800 := by have := hS.1.1; omega
  obtain ⟨s, V1, vr1, vc1, r1, r2, r3, r4, r5, r6, r7, r8, r9, ⟨x1, x2, x3, x4⟩, x5, x6⟩ := k_root n hn (kSh_t hS9) s18 h2 ((fT_dy G5).trans hd) hq
  have V1O : wO V1 = wO W ∧ wR V1 = wR W ∧ wM V1 = wM W ∧ wP V1 = wP W ∧ wp V1 = wp W ∧ wl V1 = wl W ∧ wf V1 = wf W ∧ wLe W V1 ∧ wS V1 ≤ wS W + 1 := by
    rcases r9 with rfl | rfl
    · exact ⟨rfl, rfl, rfl, rfl, rfl, rfl, rfl, wLe_rf _, by omega⟩
    · exact ⟨rfl, rfl, rfl, rfl, rfl, rfl, rfl, wAS_le _ _ _ _, Nat.le_refl _⟩
  obtain ⟨vO, vR', vM, vP', vp, vl, vf, vle, vS'⟩ := V1O
  have s31 : s < 2 ^ 31 := by omega
  -- behind the shape
  obtain ⟨vr, hvr⟩ : ∃ vr, zsI vr1 36 (wO W) (nI s) = vr := ⟨_, rfl⟩
  obtain ⟨wc, hwc⟩ : ∃ wc, zsI (zsI (zsI (zsI vc1 37 (wO W) (nI s)) 39 (wO W) 0) 40 (wO W) (-1)) 41 (wO W) (-1) = wc := ⟨_, rfl⟩
  obtain ⟨vc, e79, f79, g1, g2, g3⟩ := kc_line n (by omega) h2 hq wc
  have z0 : zx (nI (wO W)) = wO W := zx_nI (by omega)
  have er : ∀ v2 : Int32, rf_news_J63 n ur v2 (iP q) = (zbd (rf_pushes n vr 2 ((nI (wO W)).toInt64)) fun _ u14 => some ((-1 : Int32), u14)) := by
    intro v2
    unfold rf_news_J63
    rw [hO.2.1, if_neg (show ¬ nI (wO W) = (200 : Int32) from fun z => absurd ((nI_eq (b := 200) (by omega) (by decide)).mp z) (by omega))]
    simp only [zlet]
    rw [zin_nI (show wO W < 201 by omega) (by decide), z0, nI_1]
    simp only [zgd_t]
    rw [hu9, zbd_e r1, hvr]
  have ec : ce_H_addObject n uc (iP q) = some (nI (wO W), vc) := by
    have lt : iP q < nI (wO W) := by
      cases q with
      | zero => exact Int32.lt_of_lt_of_le (b := 0) (by decide) (nI_pos' (by omega))
      | succ q => rw [iP_s]; exact nI_lt (by omega) (by omega)
    unfold ce_H_addObject
    rw [hO.2.2.1, if_pos (show nI (wO W) < (200 : Int32) from nI_lt (b := 200) h2 (by decide)), if_pos lt]
    simp only [zlet]
    rw [zin_nI (show wO W < 200 by omega) (by decide), z0, nI_1]
    simp only [zgd_t]
    rw [hu5, zbd_e r2, hwc]
    exact e79
  have ivr : ∀ a j, ¬ (a = 36 ∧ j = wO W) → zI vr a j = zI vr1 a j := fun a j z => by subst hvr; rw [gI_sI, if_neg z]
  have iwc : ∀ a j, ¬ ((a = 37 ∨ a = 39 ∨ a = 40 ∨ a = 41) ∧ j = wO W) → zI wc a j = zI vc1 a j := fun a j z => by subst hwc; rw [gI_sI, if_neg (by omega), gI_sI, if_neg (by omega), gI_sI, if_neg (by omega), gI_sI, if_neg (by omega)]
  have x36 : zI vr 36 (wO W) = nI s := by subst hvr; rw [gI_sI, if_pos ⟨rfl, rfl⟩]
  have x37 : zI vc 37 (wO W) = nI s := by rw [g1]; subst hwc; simp [gI_sI]
  have x39 : zI vc 39 (wO W) = 0 := by rw [g1]; subst hwc; simp [gI_sI]
  have x40 : zI vc 40 (wO W) = -1 := by rw [g1]; subst hwc; simp [gI_sI]
  have x41 : zI vc 41 (wO W) = -1 := by rw [g1]; subst hwc; simp [gI_sI]
  -- frames
  have FA : fT tgR [7] u9 vr := by subst hvr; exact fT_I r3 _ 7 rfl (by decide)
  have GA : fT tgC [5, 6, 7] u5 vc := fT_tr (fT_mono r4 (by decide)) (fT_tr (by subst hwc; exact fT_I (fT_I (fT_I (fT_I (fT_rf _ _ _) _ 7 rfl (by decide)) _ 6 rfl (by decide)) _ 6 rfl (by decide)) _ 6 rfl (by decide)) (fT_mono f79 (by decide)))
  have FB : fT tgR [5, 6, 7] ur vr := fT_tr (fT_mono F9 (by decide)) (fT_mono FA (by decide))
  have GB : fT tgC [5, 6, 7] uc vc := fT_tr (fT_mono G5 (by decide)) GA
  have jc : ∀ {a j t : Nat}, tgC a j = t → ¬ t = 7 → ¬ ((a = 37 ∨ a = 39 ∨ a = 40 ∨ a = 41) ∧ j = wO W) → ¬ ((a = 36 ∧ j = 7) ∨ (a = 38 ∧ j = wO W)) → zI vc a j = zI uc a j := fun {a j t} e y1 y2 y3 => by
    rw [g1, iwc a j y2, fT_i r4 (by simpa using y1) e, i5 a j y3]
  have jr : ∀ {a j t : Nat}, tgR a j = t → ¬ t = 7 → ¬ ((a = 0 ∧ j = 57) ∨ ((a = 35 ∨ a = 37 ∨ a = 38 ∨ a = 39) ∧ j = wO W)) → zI vr a j = zI ur a j := fun {a j t} e y1 y2 => by
    rw [fT_i FA (by simpa using y1) e, i9 a j y2]
  have lr : ∀ {a : Nat} (j : Nat) {t : Nat}, tgR a 0 = t → ¬ t = 7 → zL vr a j = zL ur a j := fun {a} j {t} e y1 => by
    rw [fT_l FA (by simpa using y1) e]
    subst hu9; rfl
  have lc : ∀ {a : Nat} (j : Nat) {t : Nat}, tgC a 0 = t → ¬ t = 7 → ¬ a = 42 → zL vc a j = zL uc a j := fun {a} j {t} e y1 y2 => by
    rw [g2 a j (by omega)]
    have : zL wc a j = zL vc1 a j := by subst hwc; rfl
    rw [this, fT_l r4 (by simpa using y1) e]
    subst hu5; rfl
  have nc : ∀ {a t : Nat}, tgC a 0 = t → ¬ t = 7 → ¬ t = 5 → zN vc a = zN uc a := fun {a t} e y1 y2 => by
    rw [fT_n f79 (by simpa using y2) e]
    have : zN wc a = zN vc1 a := by subst hwc; rfl
    rw [this, fT_n r4 (by simpa using y1) e]
    subst hu5; rfl
  have y57 : zI vr 0 57 = nI (wO W + 1) := by rw [fT_i FA (by decide) (show tgR 0 57 = 5 from rfl)]; subst hu9; simp [gI_sI]
  have y35 : zI vr 35 (wO W) = iP q := by rw [fT_i FA (by decide) (show tgR 35 (wO W) = 5 from rfl)]; subst hu9; simp [gI_sI]
  have y37 : zI vr 37 (wO W) = -1 := by rw [fT_i FA (by decide) (show tgR 37 (wO W) = 6 from rfl)]; subst hu9; simp [gI_sI]
  have y38 : zI vr 38 (wO W) = -1 := by rw [fT_i FA (by decide) (show tgR 38 (wO W) = 6 from rfl)]; subst hu9; simp [gI_sI]
  have y39 : zI vr 39 (wO W) = 0 := by rw [fT_i FA (by decide) (show tgR 39 (wO W) = 6 from rfl)]; subst hu9; simp [gI_sI]
  have z7 : zI vc 36 7 = nI (wO W + 1) := by rw [g1, iwc 36 7 (by omega), fT_i r4 (by decide) (show tgC 36 7 = 5 from rfl)]; subst hu5; simp [gI_sI]
  have z38 : zI vc 38 (wO W) = iP q := by rw [g1, iwc 38 _ (by omega), fT_i r4 (by decide) (show tgC 38 (wO W) = 5 from rfl)]; subst hu5; simp [gI_sI]
  have pO : wO (wAO V1 q) = wO W + 1 := by show wO V1 + 1 = _; rw [vO]
  have pp : ∀ o, wp (wAO V1 q) o = if o = wO W then q else wp W o := fun o => by rw [wAO_p, vO, vp]
  have pl : ∀ o, wl (wAO V1 q) o = if o = wO W then [] else wl W o := fun o => by rw [wAO_l, vO, vl]
  have le2 : wLe W (wAO V1 q) := wLe_tr vle (wAO_le V1 q)
  have hpW : ∀ o, o < wO W → wp W o ≤ o := fun o ho => (hO.2.2.2 o ho).1
  have hpV : ∀ o, o ≤ wO W → wp (wAO V1 q) o ≤ o := fun o ho => by
    rw [pp]
    by_cases z : o = wO W
    · rw [if_pos z]; omega
    · rw [if_neg z]; exact hpW o (by omega)
  refine ⟨wAO V1 q, vr, vc, er, ec, FB, GB, le2, pO, vR', vM, vP', vf, ?_, ?_, ?_⟩
  · -- objects
    refine ⟨by omega, by rw [pO]; exact y57, by rw [pO]; exact z7, fun o ho => ?_⟩
    rw [pO] at ho
    by_cases z : o = wO W
    · subst z
      rw [pp, if_pos rfl]
      refine ⟨hq, y35, z38, fun x hx => ?_⟩
      rw [g3 x hx, anc_st (fun j hj => hpV j hj), pp, if_pos rfl]
      constructor
      · rintro (y | ⟨y1, y2⟩)
        · exact Or.inl y.symm
        · refine Or.inr ⟨y1, ?_⟩
          rw [anc_cg (q - 1) (q - 1) (Nat.le_refl _) (fun j hj => hpW j (by omega)) (fun j hj => by rw [pp, if_neg (by omega)])]
          refine ((hO.2.2.2 (q - 1) (by omega)).2.2.2 x hx).mp ?_
          unfold lnB at y2 ⊢
          have : zL wc 42 (4 * (q - 1) + x / 64) = zL uc 42 (4 * (q - 1) + x / 64) := by
            have h1 : zL wc 42 (4 * (q - 1) + x / 64) = zL vc1 42 (4 * (q - 1) + x / 64) := by subst hwc; rfl
            rw [h1, fT_l r4 (by decide) (show tgC 42 0 = 5 from rfl)]
            subst hu5; rfl
          rw [← this]; exact y2
      · rintro (y | ⟨y1, y2⟩)
        · exact Or.inl y.symm
        · refine Or.inr ⟨y1, ?_⟩
          rw [anc_cg (q - 1) (q - 1) (Nat.le_refl _) (fun j hj => hpW j (by omega)) (fun j hj => by rw [pp, if_neg (by omega)])] at y2
          have y3 := ((hO.2.2.2 (q - 1) (by omega)).2.2.2 x hx).mpr y2
          unfold lnB at y3 ⊢
          have : zL wc 42 (4 * (q - 1) + x / 64) = zL uc 42 (4 * (q - 1) + x / 64) := by
            have h1 : zL wc 42 (4 * (q - 1) + x / 64) = zL vc1 42 (4 * (q - 1) + x / 64) := by subst hwc; rfl
            rw [h1, fT_l r4 (by decide) (show tgC 42 0 = 5 from rfl)]
            subst hu5; rfl
          rw [this]; exact y3
    · obtain ⟨a1, a2, a3, a4⟩ := hO.2.2.2 o (by omega)
      rw [pp, if_neg z]
      refine ⟨a1, ?_, ?_, fun x hx => ?_⟩
      · rw [jr (show tgR 35 o = 5 from rfl) (by decide) (by omega)]; exact a2
      · rw [jc (show tgC 38 o = 5 from rfl) (by decide) (by omega) (by omega)]; exact a3
      · rw [anc_cg o o (Nat.le_refl _) (fun j hj => hpW j (by omega)) (fun j hj => by rw [pp, if_neg (by omega)]), ← a4 x hx]
        unfold lnB
        have : zL vc 42 (4 * o + x / 64) = zL uc 42 (4 * o + x / 64) := by
          rw [g2 42 _ (by omega)]
          have h1 : zL wc 42 (4 * o + x / 64) = zL vc1 42 (4 * o + x / 64) := by subst hwc; rfl
          rw [h1, fT_l r4 (by decide) (show tgC 42 0 = 5 from rfl)]
          subst hu5; rfl
        rw [this]
  · -- members
    obtain ⟨h1, h2', U, frl, ov, ow, ⟨a1, a2, a3, a4, a5, a6, a7, a8⟩, ⟨b1, b2, b3⟩, h5⟩ := hM
    have eM : wM (wAO V1 q) = wM W := vM
    have vw : pVw 66 16000 vc ∧ (∀ j, vS 66 vc j = vS 66 uc j) ∧ (∀ j, vX 66 vc j = vX 66 uc j) := by
      have n67 : zN vc 67 = zN uc 67 := nc (show tgC 67 0 = 6 from rfl) (by decide) (by decide)
      have n68 : zN vc 68 = zN uc 68 := nc (show tgC 68 0 = 6 from rfl) (by decide) (by decide)
      have i66 : zI vc 66 0 = zI uc 66 0 := jc (show tgC 66 0 = 6 from rfl) (by decide) (by omega) (by omega)
      have i67 : ∀ j, zI vc 67 j = zI uc 67 j := fun j => jc (show tgC 67 j = 6 from rfl) (by decide) (by omega) (by omega)
      have l68 : ∀ j, zL vc 68 j = zL uc 68 j := fun j => lc j (show tgC 68 0 = 6 from rfl) (by decide) (by decide)
      exact ⟨pVw_keep a7 i66 i67 n67 n68, vS_keep i67 n67, vX_keep l68 n67⟩
    have n88 : zN vc 88 = zN uc 88 := nc (show tgC 88 0 = 6 from rfl) (by decide) (by decide)
    have n89 : zN vc 89 = zN uc 89 := nc (show tgC 89 0 = 6 from rfl) (by decide) (by decide)
    have i89 : (fun c => zI vc 89 c) = fun c => zI uc 89 c := funext fun c => jc (show tgC 89 c = 6 from rfl) (by decide) (by omega) (by omega)
    have i42 : (fun c => zI vr 42 c) = fun c => zI ur 42 c := funext fun c => jr (show tgR 42 c = 6 from rfl) (by decide) (by omega)
    refine ⟨?_, by rw [eM]; exact h2', U, frl, ov, ow, ⟨?_, a2, by omega, by omega, by omega, by omega, vw.1, ?_⟩, ⟨?_, b2, b3⟩, fun o ho => ?_⟩
    · rw [eM, jr (show tgR 0 80 = 6 from rfl) (by decide) (by omega)]; exact h1
    · rw [jc (show tgC 36 12 = 6 from rfl) (by decide) (by omega) (by omega)]; exact a1
    · rw [pO, kSm, pl, if_pos rfl, kSm_cg (g := fun o => (wl W o).length) _ (fun o ho => by rw [pl, if_neg (show ¬ o = wO W by omega)])]
      exact a8
    · rw [i89, jc (show tgC 36 13 = 6 from rfl) (by decide) (by omega) (by omega)]; exact b1
    · rw [pO] at ho
      by_cases z : o = wO W
      · subst z
        refine ⟨?_, fun m hm => ?_⟩
        · unfold kMo
          rw [pl, if_pos rfl]
          exact ⟨y37, y38, y39, x40, x41, x39, List.nodup_nil, List.nodup_nil, List.nodup_nil⟩
        · rw [pl, if_pos rfl] at hm
          exact absurd hm (by simp)
      · obtain ⟨c1, c2⟩ := h5 o (by omega)
        refine ⟨?_, fun m hm => ?_⟩
        · unfold kMo at c1 ⊢
          rw [pl, if_neg z, i42, i89, jr (show tgR 37 o = 6 from rfl) (by decide) (by omega), jr (show tgR 38 o = 6 from rfl) (by decide) (by omega), jr (show tgR 39 o = 6 from rfl) (by decide) (by omega), jc (show tgC 39 o = 6 from rfl) (by decide) (by omega) (by omega), jc (show tgC 40 o = 6 from rfl) (by decide) (by omega) (by omega), jc (show tgC 41 o = 6 from rfl) (by decide) (by omega) (by omega)]
          exact c1
        · rw [pl, if_neg z] at hm
          obtain ⟨d1, d2, d3, d4, d5, d6, d7, d8, d9⟩ := c2 m hm
          refine ⟨d1, d2, by rw [eM]; exact d3, d4, d5, d6, ?_, ?_, ?_⟩
          · rw [jr (show tgR 40 m.2.1 = 6 from rfl) (by decide) (by omega)]; exact d7
          · rw [lc _ (show tgC 88 0 = 6 from rfl) (by decide) (by decide)]; exact d8
          · rw [jr (show tgR 41 m.2.1 = 6 from rfl) (by decide) (by omega), lr _ (show tgR 43 0 = 6 from rfl) (by decide), vw.2.1, vw.2.2]
            exact vR_mono d9 (by omega) (by show wR W ≤ wR V1; omega)
  · -- shapes
    obtain ⟨t1, t2, t3, ⟨Ch, t4⟩, t5, t6⟩ := r5
    have wcT : ∀ {a j : Nat}, ¬ ((a = 37 ∨ a = 39 ∨ a = 40 ∨ a = 41) ∧ j = wO W) → zI vc a j = zI vc1 a j := fun {a j} y => by rw [g1, iwc a j y]
    have ncT : ∀ a, 81 ≤ a → a ≤ 87 → zN vc a = zN vc1 a := fun a p p' => by
      have t7 : tgC a 0 = 7 := by
        have : a = 81 ∨ a = 82 ∨ a = 83 ∨ a = 84 ∨ a = 85 ∨ a = 86 ∨ a = 87 := by omega
        rcases this with rfl | rfl | rfl | rfl | rfl | rfl | rfl <;> rfl
      rw [fT_n f79 (by decide) t7]
      subst hwc; rfl
    have i36 : ∀ o, ¬ o = wO W → zI vr 36 o = zI ur 36 o := fun o y => by rw [ivr 36 o (by omega), x1, i9 36 o (by omega)]
    have kn : kSn (wAO V1 q) vr = kSn W ur + 1 := by
      unfold kSn
      rw [pO, kSm, pl, if_pos rfl, x36, if_neg (nI_m1 s31), kSm_cg (g := fun o => if zI ur 36 o = -1 then 9 else 1 + (wl W o).length) _ (fun o ho => by rw [pl, if_neg (show ¬ o = wO W by omega), i36 o (by omega)])]
      rfl
    have wS2 : wS (wAO V1 q) = wS V1 := rfl
    refine ⟨⟨by rw [kn, wS2]; have := hS.1.1; omega, by rw [wS2]; omega⟩, ?_, ?_, ?_, ⟨?_, ?_, ?_, fun a p p' => ?_⟩, ⟨Ch, fun s' hs' => ?_⟩, t5, fun q' hq' => ?_, fun o ho => ?_⟩
    · rw [ivr 0 58 (by omega)]; exact t1
    · rw [wcT (by omega)]; exact t2
    · rw [wcT (by omega), x4, ivr 0 61 (by omega), x2, i5 36 8 (by omega), i9 0 61 (by omega)]; exact hS.2.2.2.1
    · rw [ncT 81 (by omega) (by omega)]; exact t3.1
    · rw [ncT 81 (by omega) (by omega)]; exact t3.2.1
    · rw [ncT 81 (by omega) (by omega)]; exact t3.2.2.1
    · rw [ncT a (by omega) p', ncT 81 (by omega) (by omega)]; exact t3.2.2.2 a p p'
    · obtain ⟨⟨e1, e1'⟩, e2, e3, e4, e5, e6, ⟨e7, e7'⟩, e8, e9, e10⟩ := t4 s' hs'
      refine ⟨⟨by rw [pO]; have e1 : ws V1 s' ≤ wO V1 := e1; show ws V1 s' ≤ _; omega, e1'⟩, ?_, ?_, ?_, ?_, ?_, ⟨?_, ?_⟩, ?_, ?_, e10⟩
      · rw [ivr 46 s' (by omega)]
        have : zL vc 85 s' = zL vc1 85 s' := by
          rw [g2 85 _ (by omega)]
          subst hwc; rfl
        rw [this]
        exact e2
      · rw [ivr 44 s' (by omega)]; exact e3
      · rw [wcT (by omega)]; exact e4
      · rw [ivr 45 s' (by omega)]; exact e5
      · rw [wcT (by omega)]; exact e6
      · rw [ivr 47 s' (by omega)]; exact e7
      · rw [wcT (by omega)]; exact e7'
      · rw [show (fun c => zI vc 87 c) = fun c => zI vc1 87 c from funext fun c => wcT (by omega), wcT (by omega)]; exact e8
      · rw [wcT (by omega)]; exact e9
    · rw [wcT (by omega)]; exact t6 q' hq'
    · rw [pO] at ho
      have v44 : ∀ q', zI vc 44 q' = zI vc1 44 q' := fun q' => wcT (by omega)
      by_cases z : o = wO W
      · subst z
        refine ⟨by rw [x37, x36], ?_, Or.inr ⟨s, r6, x36, ?_, ?_, ?_⟩⟩
        · rw [pp, if_pos rfl, v44]; exact x6
        · rw [pp, if_pos rfl]; exact r7
        · rw [pl, if_pos rfl]; exact r8
        · rw [pl, if_pos rfl]; simp
      · obtain ⟨d1, d2, d3⟩ := hS.2.2.2.2.2.2.2.2 o (by omega)
        refine ⟨?_, ?_, ?_⟩
        · rw [wcT (by omega), x3, i5 37 o (by omega), i36 o z]; exact d1
        · rw [pp, if_neg z, v44]
          by_cases y : wp W o = q
          · rw [y]; exact x6
          · rw [x5 _ y, i5 44 _ (by omega)]; exact d2
        · rw [i36 o z, pl, if_neg z]
          rcases d3 with d3 | ⟨s', e1, e2, e3, e4, e5⟩
          · exact Or.inl d3
          · refine Or.inr ⟨s', by rw [wS2]; have := vle.2.2.1; omega, e2, ?_, ?_, e5⟩
            · rw [pp, if_neg z]
              show ws V1 s' = _
              rw [(vle.2.2.2.2 s' e1).1]; exact e3
            · show wn V1 s' = _
              rw [(vle.2.2.2.2 s' e1).2.2]; exact e4
