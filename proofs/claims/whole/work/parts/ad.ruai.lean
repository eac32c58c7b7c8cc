/-! RUNNING: a fn is made: guesses are taken -/
theorem kr_copy (n : Nat) {y k : Nat} (hy : y < 80) (hk : k ≤ 4) {u0 : zMu} (r54 : zI u0 54 y = nI k) (f : Int32) (K : zMu → Int32 → Int32 → Option (Unit × zMu)) : ∀ d i m u, i + d = k → d < m → (∀ a t, ¬ a = 60 → zI u a t = zI u0 a t) → (∀ t, zI u 60 t = if 4 * y ≤ t ∧ t < 4 * y + i then zI u0 55 t else zI u0 60 t) → fT tgR [9] u0 u → ∃ v, rf_makes_L77 n K m u f (nI y) (nI i) = K v f (nI (y + 1)) ∧ (∀ a t, ¬ a = 60 → ¬ (a = 59 ∧ t = y) → zI v a t = zI u0 a t) ∧ (∀ t, zI v 60 t = if 4 * y ≤ t ∧ t < 4 * y + k then zI u0 55 t else zI u0 60 t) ∧ zI v 59 y = nI k ∧ fT tgR [9] u0 v := by
  intro d
  induction d with
  | zero =>
    intro i m u hi hm h1 h2 h3
    obtain ⟨m, rfl⟩ : ∃ k, m = k + 1 := ⟨m - 1, by omega⟩
    have e : i = k := by omega
    subst e
    refine ⟨zsI u 59 y (nI i), ?_, fun a t q1 q2 => by rw [gI_sI, if_neg q2]; exact h1 a t q1, fun t => by rw [gI_sI, if_neg (by omega)]; exact h2 t, by rw [gI_sI, if_pos ⟨rfl, rfl⟩], fT_I h3 _ 9 rfl (by decide)⟩
    rw [rf_makes_L77, zin_nI (show y < 81 by omega) (by decide), zgd_t, zx_nI (show y < 2 ^ 31 by omega), h1 54 y (by omega), r54, if_neg (nI_nlt (by omega) (by omega)), zgd_t, zgd_t, nI_1]
    rfl
  | succ d ih =>
    intro i m u hi hm h1 h2 h3
    obtain ⟨m, rfl⟩ : ∃ k, m = k + 1 := ⟨m - 1, by omega⟩
    obtain ⟨v, e, g1, g2, g3, g4⟩ := ih (i + 1) m (zsI u 60 (4 * y + i) (zI u0 55 (4 * y + i))) (by omega) (by omega) (fun a t q => by rw [gI_sI, if_neg (by omega)]; exact h1 a t q) (fun t => by
      rw [gI_sI]
      by_cases z : t = 4 * y + i
      · rw [if_pos ⟨rfl, z⟩, if_pos (by omega), z]
      · rw [if_neg (by omega), h2]
        by_cases x : 4 * y ≤ t ∧ t < 4 * y + i
        · rw [if_pos x, if_pos (by omega)]
        · rw [if_neg x, if_neg (by omega)]) (fT_I h3 _ 9 rfl (by decide))
    refine ⟨v, ?_, g1, g2, g3, g4⟩
    rw [rf_makes_L77, zin_nI (show y < 81 by omega) (by decide), zgd_t, zx_nI (show y < 2 ^ 31 by omega), h1 54 y (by omega), r54, if_pos (nI_lt (by omega) (by omega)), (sh4 y i).2, zin_nI (show 4 * y + i < 330 by omega) (by decide), zgd_t, zgd_t, zx_nI (show 4 * y + i < 2 ^ 31 by omega), h1 55 _ (by omega), nI_1]
    exact e
theorem kc_copy (n : Nat) {y k : Nat} (hy : y < 80) (hk : k ≤ 4) {u0 : zMu} (c52 : zI u0 52 y = nI k) : ∀ d i m u, i + d = k → d < m → (∀ a t, ¬ a = 57 → zI u a t = zI u0 a t) → (∀ t, zI u 57 t = if 4 * y ≤ t ∧ t < 4 * y + i then zI u0 55 t else zI u0 57 t) → fT tgC [9] u0 u → ∃ v, ce_T_guessShapes_L14 n m u (nI y) (nI i) = some ((), v) ∧ (∀ a t, ¬ a = 57 → zI v a t = zI u0 a t) ∧ (∀ t, zI v 57 t = if 4 * y ≤ t ∧ t < 4 * y + k then zI u0 55 t else zI u0 57 t) ∧ fT tgC [9] u0 v := by
  intro d
  induction d with
  | zero =>
    intro i m u hi hm h1 h2 h3
    obtain ⟨m, rfl⟩ : ∃ k, m = k + 1 := ⟨m - 1, by omega⟩
    have e : i = k := by omega
    subst e
    refine ⟨u, ?_, h1, h2, h3⟩
    rw [ce_T_guessShapes_L14, zin_nI hy (by decide), zgd_t, zx_nI (show y < 2 ^ 31 by omega), h1 52 y (by omega), c52, if_neg (nI_nlt (by omega) (by omega))]
  | succ d ih =>
    intro i m u hi hm h1 h2 h3
    obtain ⟨m, rfl⟩ : ∃ k, m = k + 1 := ⟨m - 1, by omega⟩
    obtain ⟨v, e, g1, g2, g3⟩ := ih (i + 1) m (zsI u 57 (4 * y + i) (zI u0 55 (4 * y + i))) (by omega) (by omega) (fun a t q => by rw [gI_sI, if_neg (by omega)]; exact h1 a t q) (fun t => by
      rw [gI_sI]
      by_cases z : t = 4 * y + i
      · rw [if_pos ⟨rfl, z⟩, if_pos (by omega), z]
      · rw [if_neg (by omega), h2]
        by_cases x : 4 * y ≤ t ∧ t < 4 * y + i
        · rw [if_pos x, if_pos (by omega)]
        · rw [if_neg x, if_neg (by omega)]) (fT_I h3 _ 9 rfl (by decide))
    refine ⟨v, ?_, g1, g2, g3⟩
    rw [ce_T_guessShapes_L14, zin_nI hy (by decide), zgd_t, zx_nI (show y < 2 ^ 31 by omega), h1 52 y (by omega), c52, if_pos (nI_lt (by omega) (by omega)), (sh4 y i).1, zin_nI (show 4 * y + i < 320 by omega) (by decide), zgd_t, zgd_t, zx_nI (show 4 * y + i < 2 ^ 31 by omega), h1 55 _ (by omega), nI_1]
    exact e
theorem kc_shapes (n : Nat) (hn : 100 ≤ n) {y k : Nat} (hy : y < 80) (hk : k ≤ 4) {u0 : zMu} (c52 : zI u0 52 y = nI k) : ∃ v, ce_T_guessShapes n u0 (nI y) = some ((), v) ∧ (∀ a t, ¬ a = 57 → ¬ (a = 58 ∧ t = y) → zI v a t = zI u0 a t) ∧ (∀ t, zI v 57 t = if 4 * y ≤ t ∧ t < 4 * y + k then zI u0 55 t else zI u0 57 t) ∧ zI v 58 y = nI k ∧ fT tgC [9] u0 v := by
  obtain ⟨u1, hu1⟩ : ∃ u1, zsI u0 58 y (nI k) = u1 := ⟨_, rfl⟩
  have i1 : ∀ a t, ¬ (a = 58 ∧ t = y) → zI u1 a t = zI u0 a t := fun a t q => by subst hu1; rw [gI_sI, if_neg q]
  obtain ⟨v, e, g1, g2, g3⟩ := kc_copy n (u0 := u1) hy hk ((i1 52 y (by omega)).trans c52) k 0 n u1 (by omega) (by omega) (fun _ _ _ => rfl) (fun t => by rw [if_neg (by omega)]) (fT_rf _ _ _)
  refine ⟨v, ?_, fun a t q1 q2 => (g1 a t q1).trans (i1 a t q2), fun t => ?_, ?_, fT_tr (by subst hu1; exact fT_I (fT_rf _ _ _) _ 9 rfl (by decide)) g3⟩
  · unfold ce_T_guessShapes
    rw [zin_nI hy (by decide), zgd_t, zgd_t, zx_nI (show y < 2 ^ 31 by omega), c52, hu1]
    exact e
  · rw [g2, i1 55 t (by omega), i1 57 t (by omega)]
  · rw [g1 58 y (by omega)]; subst hu1; rw [gI_sI, if_pos ⟨rfl, rfl⟩]
/-- both take the guesses of all sites from y on of fn f -/
theorem k_mkL (n : Nat) (hn : 20000 ≤ n) {C : kC} (P : kPs C) {W : kW} {f : Nat} (hf : f < cF C) : ∀ d y m m' (u w : zMu), y + d = cS C → d < m → d < m' → kBs C u w → kSi (cF C) (cS C) (cb C) (wSF W f 1) u w → ∃ v v', rf_makes_L29 n m u (nI f) (nI y) = some ((), v) ∧ ce_T_takeGuesses_L2 n (xp (cX C)) m' w (nI f) (nI y) = some ((), v') ∧ fT tgR [9] u v ∧ fT tgC [9] w v' ∧ kSi (cF C) (cS C) (cb C) (wSF W f 1) v v' := by
  have S80 : cS C ≤ 80 := P.2.2.2.2.1.1
  have F8 : cF C ≤ 8 := P.2.2.2.1.1
  have p12 := P.1.1
  intro d
  induction d with
  | zero =>
    intro y m m' u w hy hm hm' B hSi
    obtain ⟨m, rfl⟩ : ∃ k, m = k + 1 := ⟨m - 1, by omega⟩
    obtain ⟨m', rfl⟩ : ∃ k, m' = k + 1 := ⟨m' - 1, by omega⟩
    have i39 : zI u 0 39 = nI (cS C) := (B.r (show tgR 0 39 = 0 from rfl)).trans P.2.2.2.2.1.2.1
    have i8 : zI w (xp (cX C)) 8 = nI (cS C) := (B.c (by omega) (by omega) 8).trans P.2.2.2.2.1.2.2
    refine ⟨u, w, ?_, ?_, fT_rf _ _ _, fT_rf _ _ _, hSi⟩
    · rw [rf_makes_L29, i39, if_neg (nI_nlt (by omega) (by omega))]
    · rw [ce_T_takeGuesses_L2, i8, if_neg (nI_nlt (by omega) (by omega))]
  | succ d ih =>
    intro y m m' u w hy hm hm' B hSi
    obtain ⟨m, rfl⟩ : ∃ k, m = k + 1 := ⟨m - 1, by omega⟩
    obtain ⟨m', rfl⟩ : ∃ k, m' = k + 1 := ⟨m' - 1, by omega⟩
    have i39 : zI u 0 39 = nI (cS C) := (B.r (show tgR 0 39 = 0 from rfl)).trans P.2.2.2.2.1.2.1
    have i8 : zI w (xp (cX C)) 8 = nI (cS C) := (B.c (by omega) (by omega) 8).trans P.2.2.2.2.1.2.2
    obtain ⟨kd, kd1, kd2, kd3, kd4, kd5, kd6⟩ := P.2.2.2.2.2 y (by omega)
    have r21 : zI u 21 y = zI (cb C) 21 y := B.r (show tgR 21 y = 0 from rfl)
    have r19 : zI u 19 y = nI kd := (B.r (show tgR 19 y = 0 from rfl)).trans kd2
    have c6 : zI w (xp (cX C) + 6) y = zI (cb C) 21 y := (B.c (by omega) (by omega) y).trans kd4
    have c4 : zI w (xp (cX C) + 4) y = nI kd := (B.c (by omega) (by omega) y).trans kd3
    -- one site
    suffices st : ∃ v v', rf_makes_L29 n (m + 1) u (nI f) (nI y) = rf_makes_L29 n m v (nI f) (nI (y + 1)) ∧ ce_T_takeGuesses_L2 n (xp (cX C)) (m' + 1) w (nI f) (nI y) = ce_T_takeGuesses_L2 n (xp (cX C)) m' v' (nI f) (nI (y + 1)) ∧ fT tgR [9] u v ∧ fT tgC [9] w v' ∧ kSi (cF C) (cS C) (cb C) (wSF W f 1) v v' by
      obtain ⟨v, v', e1, e2, f1, f2, h1⟩ := st
      obtain ⟨z, z', d1, d2, d3, d4, d5⟩ := ih (y + 1) m m' v v' (by omega) (by omega) (by omega) (B.tr f1 f2 (by decide)) h1
      exact ⟨z, z', e1.trans d1, e2.trans d2, fT_tr f1 d3, fT_tr f2 d4, d5⟩
    obtain ⟨g1, g2, g3, g4, g, g5, g6, g7, g8, g9⟩ := hSi.2.2.2 y (by omega)
    by_cases z : zI (cb C) 21 y = nI f
    · obtain ⟨u3, hu3⟩ : ∃ u3, zsI u 59 y 0 = u3 := ⟨_, rfl⟩
      have F3 : fT tgR [9] u u3 := by rw [← hu3]; exact fT_I (fT_rf _ _ _) _ 9 rfl (by decide)
      have i3 : ∀ a t, ¬ (a = 59 ∧ t = y) → zI u3 a t = zI u a t := fun a t q => by rw [← hu3, gI_sI, if_neg q]
      have x59 : zI u3 59 y = nI 0 := by rw [← hu3, gI_sI, if_pos ⟨rfl, rfl⟩]; rfl
      have er : ∀ Y, rf_makes_L29 n (m + 1) u (nI f) (nI y) = Y ↔ (if nI kd = 0 then (if zI u3 58 y = 0 then rf_makes_L77 n (rf_makes_L29 n m) n u3 (nI f) (nI y) 0 else rf_makes_J128 n (rf_makes_L29 n m) u3 (nI f) (nI y)) else rf_makes_J128 n (rf_makes_L29 n m) u3 (nI f) (nI y)) = Y := by
        intro Y
        rw [rf_makes_L29, i39, if_pos (nI_lt (by omega) (by omega)), zin_nI (show y < 800 by omega) (by decide), zgd_t, zx_nI (show y < 2 ^ 31 by omega), r21, if_pos z, zin_nI (show y < 81 by omega) (by decide), zgd_t, hu3]
        simp only [zlet, zgd_t]
        rw [i3 19 y (by omega), r19]
      have eJ : rf_makes_J128 n (rf_makes_L29 n m) u3 (nI f) (nI y) = (if kd = 3 then (if zI u3 54 y = 1 then rf_makes_L29 n m (zsI u3 59 y 1) (nI f) (nI (y + 1)) else rf_makes_L29 n m u3 (nI f) (nI (y + 1))) else rf_makes_L29 n m u3 (nI f) (nI (y + 1))) := by
        unfold rf_makes_J128
        rw [zin_nI (show y < 800 by omega) (by decide), zgd_t, zx_nI (show y < 2 ^ 31 by omega), i3 19 y (by omega), r19, zin_nI (show y < 81 by omega) (by decide), zgd_t, zgd_t, nI_1]
        by_cases k3 : kd = 3
        · rw [if_pos k3, if_pos (by rw [k3]; rfl)]; rfl
        · rw [if_neg k3, if_neg (show ¬ nI kd = (3 : Int32) from fun q => k3 ((nI_eq (b := 3) (by omega) (by decide)).mp q))]; rfl
      have ec : ∀ Y, ce_T_takeGuesses_L2 n (xp (cX C)) (m' + 1) w (nI f) (nI y) = Y ↔ (if kd = 0 then (zbd (ce_T_guessShapes n w (nI y)) fun _ u5 => ce_T_takeGuesses_L2 n (xp (cX C)) m' u5 (nI f) (nI (y + 1))) else (if kd = 3 then (if zI w 54 y = 1 then ce_T_takeGuesses_L2 n (xp (cX C)) m' (zsI w 58 y 1) (nI f) (nI (y + 1)) else ce_T_takeGuesses_L2 n (xp (cX C)) m' (zsI w 58 y 0) (nI f) (nI (y + 1))) else ce_T_takeGuesses_L2 n (xp (cX C)) m' w (nI f) (nI (y + 1)))) = Y := by
        intro Y
        rw [ce_T_takeGuesses_L2, i8, if_pos (nI_lt (by omega) (by omega)), zin_nI (show y < 80 by omega) (by decide), zgd_t, zx_nI (show y < 2 ^ 31 by omega), c6, if_pos z, zgd_t, c4, zgd_t, zgd_t, zgd_t, zgd_t, nI_1]
        by_cases k0 : kd = 0
        · rw [if_pos k0, if_pos (by rw [k0]; rfl)]; exact Iff.rfl
        · rw [if_neg k0, if_neg (show ¬ nI kd = (0 : Int32) from fun q => k0 ((nI_eq (b := 0) (by omega) (by decide)).mp q))]
          by_cases k3 : kd = 3
          · rw [if_pos k3, if_pos (by rw [k3]; rfl)]; exact Iff.rfl
          · rw [if_neg k3, if_neg (show ¬ nI kd = (3 : Int32) from fun q => k3 ((nI_eq (b := 3) (by omega) (by decide)).mp q))]; exact Iff.rfl
      -- the site's part anew, when only guesses changed
      have mk : ∀ (v v' : zMu) (g' : Nat), (∀ a t, ¬ (a = 59 ∧ t = y) → ¬ (a = 60 ∧ 4 * y ≤ t ∧ t < 4 * y + 4) → zI v a t = zI u a t) → (∀ a t, ¬ (a = 58 ∧ t = y) → ¬ (a = 57 ∧ 4 * y ≤ t ∧ t < 4 * y + 4) → zI v' a t = zI w a t) → g' ≤ 4 → zI v 59 y = nI g' → zI v' 58 y = nI g' → (0 < g' → kd = 0 ∨ kd = 3) → (kd = 0 → ∀ i, i < g' → zI v' 57 (4 * y + i) = zI v 60 (4 * y + i)) → kSi (cF C) (cS C) (cb C) (wSF W f 1) v v' := by
        intro v v' g' h1 h2 h3 h4 h5 h6 h7
        refine kSi_one (s := y) hSi (fun a j q => h1 a j (by unfold sR at q; omega) (by unfold sR at q; omega)) (fun a j q => h2 a j (by unfold sC at q; omega) (by unfold sC at q; omega)) ?_
        refine ⟨by rw [h1 52 _ (by omega) (by omega), h2 50 _ (by omega) (by omega)]; exact g1, by rw [h1 53 _ (by omega) (by omega), h2 51 _ (by omega) (by omega)]; exact g2, fun q => by rw [h1 54 _ (by omega) (by omega), h2 54 _ (by omega) (by omega), h2 52 _ (by omega) (by omega), h2 53 _ (by omega) (by omega), h1 58 _ (by omega) (by omega)]; exact g3 q, fun q => ?_, g', h3, h4, h5, fun q => ⟨?_, f, hf, z, by rw [wSF_f, if_pos rfl]⟩, fun q => ?_⟩
        · obtain ⟨k, k1, k2, k3, k4, k5, k6⟩ := g4 q
          exact ⟨k, k1, by rw [h1 54 _ (by omega) (by omega)]; exact k2, by rw [h2 52 _ (by omega) (by omega)]; exact k3, by rw [h1 58 _ (by omega) (by omega), h2 53 _ (by omega) (by omega)]; exact k4, by rw [h1 58 _ (by omega) (by omega)]; exact k5, fun i hi => kEn_q (k6 i hi) (h1 55 _ (by omega) (by omega)) (h1 56 _ (by omega) (by omega)) (h1 57 _ (by omega) (by omega)) (h2 55 _ (by omega) (by omega)) (h2 56 _ (by omega) (by omega))⟩
        · rcases h6 q with y | y
          · exact Or.inl (by rw [kd2, y])
          · exact Or.inr (by rw [kd2, y])
        · exact h7 ((nI_eq (by omega) (by decide)).mp (kd2.symm.trans q))
      by_cases k0 : kd = 0
      · have k3 : ¬ zI (cb C) 19 y = nI 3 := by rw [kd2, k0]; decide
        obtain ⟨k, k1, k2, kk3, k4, k5, k6⟩ := g4 k3
        obtain ⟨v', e', a1, a2, a3, a4⟩ := kc_shapes n (by omega) (show y < 80 by omega) k1 kk3
        have ent : ∀ i, i < k → zI w 55 (4 * y + i) = zI u 55 (4 * y + i) := fun i hi => by
          obtain ⟨a, b, -, b2, b3, -⟩ := k6 i hi
          rw [b2, b3]
        by_cases many : zI u3 58 y = 0
        · obtain ⟨v, e, b1, b2, b3, b4⟩ := kr_copy n (show y < 80 by omega) k1 (u0 := u3) ((i3 54 y (by omega)).trans k2) (nI f) (rf_makes_L29 n m) k 0 n u3 (by omega) (by omega) (fun _ _ _ => rfl) (fun t => by rw [if_neg (by omega)]) (fT_rf _ _ _)
          refine ⟨v, v', (er _).mpr (by rw [if_pos (by rw [k0]; rfl), if_pos many]; exact e), (ec _).mpr (by rw [if_pos k0, zbd_e e']), fT_tr F3 b4, a4, mk v v' k (fun a t q1 q2 => ?_) (fun a t q1 q2 => ?_) k1 b3 a3 (fun _ => Or.inl k0) (fun _ i hi => ?_)⟩
          · by_cases y6 : a = 60
            · subst y6
              rw [b2, if_neg (by omega), i3 60 t (by omega)]
            · rw [b1 a t y6 q1, i3 a t q1]
          · by_cases y6 : a = 57
            · subst y6
              rw [a2, if_neg (by omega)]
            · exact a1 a t y6 q1
          · rw [a2, if_pos (by omega), b2, if_pos (by omega), i3 55 _ (by omega)]
            exact ent i hi
        · have kz : k = 0 := by
            rw [i3 58 y (by omega)] at many
            rcases k5 with q | q
            · exact absurd q many
            · exact q.2
          refine ⟨u3, v', (er _).mpr (by rw [if_pos (by rw [k0]; rfl), if_neg many, eJ, if_neg (by omega)]), (ec _).mpr (by rw [if_pos k0, zbd_e e']), F3, a4, mk u3 v' 0 (fun a t q1 q2 => i3 a t q1) (fun a t q1 q2 => ?_) (by omega) x59 (by rw [a3, kz]) (fun q => absurd q (by omega)) (fun _ i hi => absurd hi (by omega))⟩
          by_cases y6 : a = 57
          · subst y6
            rw [a2, if_neg (by omega)]
          · exact a1 a t y6 q1
      · have nk0 : ¬ nI kd = (0 : Int32) := fun q => k0 ((nI_eq (b := 0) (by omega) (by decide)).mp q)
        by_cases k3 : kd = 3
        · have gv := (g3 (by rw [kd2, k3])).1
          by_cases one : zI u 54 y = 1
          · refine ⟨zsI u3 59 y 1, zsI w 58 y 1, (er _).mpr (by rw [if_neg nk0, eJ, if_pos k3, if_pos (by rw [i3 54 y (by omega)]; exact one)]), (ec _).mpr (by rw [if_neg k0, if_pos k3, if_pos (gv.trans one)]), fT_I F3 _ 9 rfl (by decide), fT_I (fT_rf _ _ _) _ 9 rfl (by decide), mk _ _ 1 (fun a t q1 q2 => by rw [gI_sI, if_neg q1, i3 a t q1]) (fun a t q1 q2 => by rw [gI_sI, if_neg q1]) (by omega) (by rw [gI_sI, if_pos ⟨rfl, rfl⟩]; rfl) (by rw [gI_sI, if_pos ⟨rfl, rfl⟩]; rfl) (fun _ => Or.inr k3) (fun q => absurd q k0)⟩
          · refine ⟨u3, zsI w 58 y 0, (er _).mpr (by rw [if_neg nk0, eJ, if_pos k3, if_neg (by rw [i3 54 y (by omega)]; exact one)]), (ec _).mpr (by rw [if_neg k0, if_pos k3, if_neg (fun q => one (gv.symm.trans q))]), F3, fT_I (fT_rf _ _ _) _ 9 rfl (by decide), mk _ _ 0 (fun a t q1 q2 => i3 a t q1) (fun a t q1 q2 => by rw [gI_sI, if_neg q1]) (by omega) x59 (by rw [gI_sI, if_pos ⟨rfl, rfl⟩]; rfl) (fun q => absurd q (by omega)) (fun q => absurd q k0)⟩
        · have gz : g = 0 := by
            by_cases q : 0 < g
            · rcases (g8 q).1 with x | x
              · exact absurd ((nI_eq (by omega) (by decide)).mp (kd2.symm.trans x)) k0
              · exact absurd ((nI_eq (by omega) (by decide)).mp (kd2.symm.trans x)) k3
            · omega
          refine ⟨u3, w, (er _).mpr (by rw [if_neg nk0, eJ, if_neg k3]), (ec _).mpr (by rw [if_neg k0, if_neg k3]), F3, fT_rf _ _ _, mk _ _ 0 (fun a t q1 q2 => i3 a t q1) (fun a t q1 q2 => rfl) (by omega) x59 (by rw [g7, gz]) (fun q => absurd q (by omega)) (fun q => absurd q k0)⟩
    · refine ⟨u, w, ?_, ?_, fT_rf _ _ _, fT_rf _ _ _, hSi⟩
      · rw [rf_makes_L29, i39, if_pos (nI_lt (by omega) (by omega)), zin_nI (show y < 800 by omega) (by decide), zgd_t, zx_nI (show y < 2 ^ 31 by omega), r21, if_neg z, nI_1]
        rfl
      · rw [ce_T_takeGuesses_L2, i8, if_pos (nI_lt (by omega) (by omega)), zin_nI (show y < 80 by omega) (by decide), zgd_t, zx_nI (show y < 2 ^ 31 by omega), c6, if_neg z, nI_1]
        rfl
