/-! RUNNING: a call is counted, its fn may be made -/
theorem kSi_wf {F S : Nat} {ub : zMu} {W : kW} {ur uc : zMu} (h : kSi F S ub W ur uc) (f : Nat) : kSi F S ub (wSF W f 1) ur uc := by
  obtain ⟨h1, h2, h3, h4⟩ := h
  refine ⟨h1, h2, h3, fun s hs => ?_⟩
  obtain ⟨g1, g2, g3, g4, g, g5, g6, g7, g8, g9⟩ := h4 s hs
  refine ⟨g1, g2, g3, g4, g, g5, g6, g7, fun q => ?_, g9⟩
  obtain ⟨y1, f', y2, y3, y4⟩ := g8 q
  refine ⟨y1, f', y2, y3, ?_⟩
  rw [wSF_f]
  by_cases z : f' = f
  · rw [if_pos z]
  · rw [if_neg z]; exact y4
theorem k_count (n : Nat) (hn : 20000 ≤ n) {C : kC} (P : kPs C) {W : kW} {u w : zMu} (B : kBs C u w) (hSi : kSi (cF C) (cS C) (cb C) W u w) (hFn : kFn (cF C) W u w) {f : Nat} (hf : f < cF C) : ∃ V v w', rf_enters_L108 n 1 u (nI f) 0 0 0 = some ((), v) ∧ (∀ G : zMu → Option (Unit × zMu), (zbd (ce_F_makes n w (nI f)) fun r10 u11 => if r10 = 0 then G u11 else zgd (zpr (zR u11 34 6)) (zlet (zR u11 34 6) fun p13 => zbd (ce_T_takeGuesses n p13 u11 (nI f)) fun _ u15 => G u15)) = G w') ∧ fT tgR [9, 10] u v ∧ fT tgC [9, 10] w w' ∧ kSi (cF C) (cS C) (cb C) V v w' ∧ kFn (cF C) V v w' ∧ (V = W ∨ V = wSF W f 1) := by
  have F8 : cF C ≤ 8 := P.2.2.2.1.1
  obtain ⟨f1, f2, f3⟩ := id hFn
  obtain ⟨a1, a2, a3, a4, a5, a6, a7, l, l1, l2, l3, l4, l5⟩ := f3 f hf
  obtain ⟨u6, hu6⟩ : ∃ u6, zsI (zsI u 61 f (zI u 61 f + 1)) 62 f (zI u 62 f + 1) = u6 := ⟨_, rfl⟩
  obtain ⟨w6, hw6⟩ : ∃ w6, zsI (zsI w 60 f (zI w 60 f + 1)) 61 f (zI w 61 f + 1) = w6 := ⟨_, rfl⟩
  have F6 : fT tgR [10] u u6 := by rw [← hu6]; exact fT_I (fT_I (fT_rf _ _ _) _ 10 rfl (by decide)) _ 10 rfl (by decide)
  have G6 : fT tgC [10] w w6 := by rw [← hw6]; exact fT_I (fT_I (fT_rf _ _ _) _ 10 rfl (by decide)) _ 10 rfl (by decide)
  have i6 : ∀ a j, ¬ ((a = 61 ∨ a = 62) ∧ j = f) → zI u6 a j = zI u a j := fun a j q => by rw [← hu6, gI_sI, if_neg (by omega), gI_sI, if_neg (by omega)]
  have j6 : ∀ a j, ¬ ((a = 60 ∨ a = 61) ∧ j = f) → zI w6 a j = zI w a j := fun a j q => by rw [← hw6, gI_sI, if_neg (by omega), gI_sI, if_neg (by omega)]
  have x61 : zI u6 61 f = zI u 61 f + 1 := by rw [← hu6, gI_sI, if_neg (by omega), gI_sI, if_pos ⟨rfl, rfl⟩]
  have x62 : zI u6 62 f = zI u 62 f + 1 := by rw [← hu6, gI_sI, if_pos ⟨rfl, rfl⟩]
  have y60 : zI w6 60 f = zI w 60 f + 1 := by rw [← hw6, gI_sI, if_neg (by omega), gI_sI, if_pos ⟨rfl, rfl⟩]
  have y61 : zI w6 61 f = zI w 61 f + 1 := by rw [← hw6, gI_sI, if_pos ⟨rfl, rfl⟩]
  have hFn6 : kFn (cF C) W u6 w6 := by
    refine ⟨by rw [i6 0 65 (by omega), j6 59 6 (by omega)]; exact f1, by rw [i6 0 66 (by omega), j6 59 7 (by omega)]; exact f2, fun g hg => ?_⟩
    rw [i6 63 g (by omega), i6 64 g (by omega), i6 65 g (by omega), i6 66 g (by omega), i6 67 g (by omega), j6 62 g (by omega), j6 63 g (by omega), j6 64 g (by omega), j6 65 g (by omega)]
    obtain ⟨b1, b2, b3⟩ := f3 g hg
    refine ⟨?_, ?_, b3⟩
    · by_cases z : g = f
      · rw [z, x61, y60, a1]
      · rw [i6 61 g (by omega), j6 60 g (by omega)]; exact b1
    · by_cases z : g = f
      · rw [z, x62, y61, a2]
      · rw [i6 62 g (by omega), j6 61 g (by omega)]; exact b2
  have hSi6 := kSi_k hSi F6 G6 (by decide)
  have x66 : zI u6 66 f = nI (wf W f) := by rw [i6 66 f (by omega)]; exact a6
  have x67 : zI u6 67 f = nI (if l = 3 then 1 else 0) := by rw [i6 67 f (by omega)]; exact l4
  have y62 : zI w6 62 f = nI (wf W f) := by rw [j6 62 f (by omega)]; exact a7
  have y64 : zI w6 64 f = nI l := by rw [j6 64 f (by omega)]; exact l3
  have eqc : zI w6 61 f = zI u6 62 f := by rw [x62, y61, a2]
  have er : ∀ Y, rf_enters_L108 n 1 u (nI f) 0 0 0 = Y ↔ (if zI u6 62 f = 4 then (if nI (wf W f) = 0 then (if nI (if l = 3 then 1 else 0) = 0 then (zbd (rf_makes n u6 (nI f)) fun _ u11 => some ((), u11)) else some ((), u6)) else some ((), u6)) else some ((), u6)) = Y := by
    intro Y
    rw [rf_enters_L108, if_neg (show ¬ (0 : Int32) < 0 from by decide), zin_nI (show f < 9 by omega) (by decide), zgd_t, zgd_t, zx_nI (show f < 2 ^ 31 by omega)]
    simp only [zlet, zgd_t]
    rw [show zI (zsI u 61 f (zI u 61 f + 1)) 62 f = zI u 62 f from by rw [gI_sI, if_neg (by omega)], hu6, x66, x67]
  have cold : ce_F_isCold n w6 (nI f) = some (if l < 3 then 0 else 1, w6) := by
    unfold ce_F_isCold
    rw [zin_nI (show f < 8 by omega) (by decide), zgd_t, zx_nI (show f < 2 ^ 31 by omega), y64]
    by_cases z : l < 3
    · rw [if_pos (show nI l < (3 : Int32) from nI_lt (b := 3) z (by decide)), if_pos z]
    · rw [if_neg (show ¬ nI l < (3 : Int32) from nI_nlt (b := 3) (by omega) (by omega)), if_neg z]
  obtain ⟨w9, hw9⟩ : ∃ w9, zsI (zsI (zsI w6 62 f 1) 63 f (zI w6 63 f + 1)) 59 6 (zI w6 59 6 + 1) = w9 := ⟨_, rfl⟩
  have ec : ce_F_makes n w (nI f) = (if zI u6 62 f = 4 then (if nI (wf W f) = 0 then (if l < 3 then some (1, w9) else some (0, w6)) else some (0, w6)) else some (0, w6)) := by
    unfold ce_F_makes
    rw [zin_nI (show f < 8 by omega) (by decide), zgd_t, zgd_t, zx_nI (show f < 2 ^ 31 by omega)]
    simp only [zlet, zgd_t]
    rw [show zI (zsI w 60 f (zI w 60 f + 1)) 61 f = zI w 61 f from by rw [gI_sI, if_neg (by omega)], hw6, eqc, y62, zbd_e cold]
    by_cases z1 : zI u6 62 f = 4
    · rw [if_pos z1, if_pos z1]
      by_cases z2 : nI (wf W f) = 0
      · rw [if_pos z2, if_pos z2]
        by_cases z3 : l < 3
        · rw [if_pos z3, if_pos z3, if_pos rfl]
          show some ((1 : Int32), zsI (zsI (zsI w6 62 f 1) 63 f (zI (zsI w6 62 f 1) 63 f + 1)) 59 6 (zI (zsI (zsI w6 62 f 1) 63 f (zI (zsI w6 62 f 1) 63 f + 1)) 59 6 + 1)) = _
          rw [show zI (zsI w6 62 f 1) 63 f = zI w6 63 f from by rw [gI_sI, if_neg (by omega)], show zI (zsI (zsI w6 62 f 1) 63 f (zI w6 63 f + 1)) 59 6 = zI w6 59 6 from by rw [gI_sI, if_neg (by omega), gI_sI, if_neg (by omega)], hw9]
        · rw [if_neg z3, if_neg z3, if_neg (by decide)]
      · rw [if_neg z2, if_neg z2]
    · rw [if_neg z1, if_neg z1]
  -- nothing is made
  have plain : rf_enters_L108 n 1 u (nI f) 0 0 0 = some ((), u6) → ce_F_makes n w (nI f) = some (0, w6) → ∃ V v w', rf_enters_L108 n 1 u (nI f) 0 0 0 = some ((), v) ∧ (∀ G : zMu → Option (Unit × zMu), (zbd (ce_F_makes n w (nI f)) fun r10 u11 => if r10 = 0 then G u11 else zgd (zpr (zR u11 34 6)) (zlet (zR u11 34 6) fun p13 => zbd (ce_T_takeGuesses n p13 u11 (nI f)) fun _ u15 => G u15)) = G w') ∧ fT tgR [9, 10] u v ∧ fT tgC [9, 10] w w' ∧ kSi (cF C) (cS C) (cb C) V v w' ∧ kFn (cF C) V v w' ∧ (V = W ∨ V = wSF W f 1) := fun q1 q2 => ⟨W, u6, w6, q1, fun G => by rw [zbd_e q2, if_pos rfl], fT_mono F6 (by decide), fT_mono G6 (by decide), hSi6, hFn6, Or.inl rfl⟩
  by_cases z1 : zI u6 62 f = 4
  · by_cases z2 : nI (wf W f) = 0
    · by_cases z3 : l < 3
      · -- it is made
        have ec1 : ce_F_makes n w (nI f) = some (1, w9) := by rw [ec, if_pos z1, if_pos z2, if_pos z3]
        obtain ⟨u9, hu9⟩ : ∃ u9, zsI (zsI (zsI u6 66 f 1) 63 f (zI u6 63 f + 1)) 0 65 (zI u6 0 65 + 1) = u9 := ⟨_, rfl⟩
        have F9 : fT tgR [10] u6 u9 := by rw [← hu9]; exact fT_I (fT_I (fT_I (fT_rf _ _ _) _ 10 rfl (by decide)) _ 10 rfl (by decide)) _ 10 rfl (by decide)
        have G9 : fT tgC [10] w6 w9 := by rw [← hw9]; exact fT_I (fT_I (fT_I (fT_rf _ _ _) _ 10 rfl (by decide)) _ 10 rfl (by decide)) _ 10 rfl (by decide)
        have i9 : ∀ a j, ¬ (((a = 66 ∨ a = 63) ∧ j = f) ∨ (a = 0 ∧ j = 65)) → zI u9 a j = zI u6 a j := fun a j q => by rw [← hu9, gI_sI, if_neg (by omega), gI_sI, if_neg (by omega), gI_sI, if_neg (by omega)]
        have j9 : ∀ a j, ¬ (((a = 62 ∨ a = 63) ∧ j = f) ∨ (a = 59 ∧ j = 6)) → zI w9 a j = zI w6 a j := fun a j q => by rw [← hw9, gI_sI, if_neg (by omega), gI_sI, if_neg (by omega), gI_sI, if_neg (by omega)]
        have FF : fT tgR [10] u u9 := fT_tr F6 F9
        have GG : fT tgC [10] w w9 := fT_tr G6 G9
        have B9 : kBs C u9 w9 := B.tr FF GG (by decide)
        have hSi9 := kSi_wf (kSi_k hSi FF GG (by decide)) f
        have hFn9 : kFn (cF C) (wSF W f 1) u9 w9 := by
          obtain ⟨h1, h2, h3⟩ := hFn6
          refine ⟨?_, by rw [i9 0 66 (by omega), j9 59 7 (by omega)]; exact h2, fun g hg => ?_⟩
          · rw [← hu9, ← hw9, gI_sI, if_pos ⟨rfl, rfl⟩, gI_sI, if_pos ⟨rfl, rfl⟩, h1]
          · obtain ⟨b1, b2, b3, b4, b5, b6, b7, l', c1, c2, c3, c4, c5⟩ := h3 g hg
            rw [i9 61 g (by omega), i9 62 g (by omega), i9 64 g (by omega), i9 65 g (by omega), i9 67 g (by omega), j9 60 g (by omega), j9 61 g (by omega), j9 64 g (by omega), j9 65 g (by omega), wSF_f]
            by_cases z : g = f
            · subst z
              have e63 : zI u9 63 g = zI u6 63 g + 1 := by rw [← hu9, gI_sI, if_neg (by omega), gI_sI, if_pos ⟨rfl, rfl⟩]
              have e66 : zI u9 66 g = 1 := by rw [← hu9, gI_sI, if_neg (by omega), gI_sI, if_neg (by omega), gI_sI, if_pos ⟨rfl, rfl⟩]
              have d63 : zI w9 63 g = zI w6 63 g + 1 := by rw [← hw9, gI_sI, if_neg (by omega), gI_sI, if_pos ⟨rfl, rfl⟩]
              have d62 : zI w9 62 g = 1 := by rw [← hw9, gI_sI, if_neg (by omega), gI_sI, if_neg (by omega), gI_sI, if_pos ⟨rfl, rfl⟩]
              have ll : l' = l := (nI_eq (by omega) (by omega)).mp (c2.symm.trans ((i6 64 g (by omega)).trans l2))
              rw [e63, e66, d63, d62, if_pos rfl]
              exact ⟨b1, b2, by rw [b3], b4, by omega, rfl, rfl, l', c1, c2, c3, c4, fun _ => by omega⟩
            · rw [i9 63 g (by omega), i9 66 g (by omega), j9 62 g (by omega), j9 63 g (by omega), if_neg z]
              exact ⟨b1, b2, b3, b4, b5, b6, b7, l', c1, c2, c3, c4, c5⟩
        obtain ⟨v, v', e1, e2, e3, e4, e5⟩ := k_mkL n hn P hf (cS C) 0 n n u9 w9 (by omega) (by have := P.2.2.2.2.1.1; omega) (by have := P.2.2.2.2.1.1; omega) B9 hSi9
        obtain ⟨pp9, pz9, -⟩ := B9.p P
        refine ⟨wSF W f 1, v, v', (er _).mpr ?_, fun G => ?_, fT_tr (fT_mono FF (by decide)) (fT_mono e3 (by decide)), fT_tr (fT_mono GG (by decide)) (fT_mono e4 (by decide)), e5, kFn_k hFn9 e3 e4 (by decide), Or.inr rfl⟩
        · rw [if_pos z1, if_pos z2, if_neg (show ¬ l = 3 by omega), if_pos (show nI 0 = 0 from rfl), zbd_u]
          unfold rf_makes
          rw [zin_nI (show f < 9 by omega) (by decide), zgd_t, zx_nI (show f < 2 ^ 31 by omega)]
          simp only [zlet, zgd_t]
          rw [show vp_nar .boolean 1 = 1 from rfl, show zI (zsI u6 66 f 1) 63 f = zI u6 63 f from by rw [gI_sI, if_neg (by omega)], show zI (zsI (zsI u6 66 f 1) 63 f (zI u6 63 f + 1)) 0 65 = zI u6 0 65 from by rw [gI_sI, if_neg (by omega), gI_sI, if_neg (by omega)], hu9]
          exact e1
        · rw [zbd_e ec1, if_neg (show ¬ (1 : Int32) = 0 from by decide), pp9, pz9, zgd_t]
          show (zbd (ce_T_takeGuesses n (xp (cX C)) w9 (nI f)) fun _ u15 => G u15) = _
          rw [zbd_e (show ce_T_takeGuesses n (xp (cX C)) w9 (nI f) = some ((), v') from e2)]
      · exact plain ((er _).mpr (by rw [if_pos z1, if_pos z2, if_pos (show l = 3 by omega), if_neg (by decide)])) (by rw [ec, if_pos z1, if_pos z2, if_neg z3])
    · exact plain ((er _).mpr (by rw [if_pos z1, if_neg z2])) (by rw [ec, if_pos z1, if_neg z2])
  · exact plain ((er _).mpr (by rw [if_neg z1])) (by rw [ec, if_neg z1])
/-! variables of a new call -/
theorem kr_clrV (n : Nat) {b base : Nat} (hb : base + 12 ≤ 160) (x1 : Int32) : ∀ d j m u, j + d = 12 → d < m → ∃ v, rf_enters_L71 n m u x1 (nI b) (nI base) (nI j) = rf_enters_L108 n n (zsI v 0 51 ((zI u 0 51) - nI b)) x1 (nI b) (nI base) (nI 0) ∧ fT tgR [2] u v ∧ (∀ a i, ¬ a = 28 → zI v a i = zI u a i) ∧ (∀ a i, zL v a i = zL u a i) ∧ (∀ i, zI v 28 i = if base + j ≤ i ∧ i < base + 12 then 0 else zI u 28 i) := by
  intro d
  induction d with
  | zero =>
    intro j m u hj hm
    obtain ⟨m, rfl⟩ : ∃ k, m = k + 1 := ⟨m - 1, by omega⟩
    refine ⟨u, ?_, fT_rf _ _ _, fun _ _ _ => rfl, fun _ _ => rfl, fun i => by rw [if_neg (by omega)]⟩
    rw [rf_enters_L71, if_neg (show ¬ nI j < (12 : Int32) from nI_nlt (b := 12) (by omega) (by omega))]
    rfl
  | succ d ih =>
    intro j m u hj hm
    obtain ⟨m, rfl⟩ : ∃ k, m = k + 1 := ⟨m - 1, by omega⟩
    obtain ⟨v, e, f1, f2, f3, f4⟩ := ih (j + 1) m (zsI u 28 (base + j) 0) (by omega) (by omega)
    refine ⟨v, ?_, fT_tr (fT_I (fT_rf _ _ _) _ 2 rfl (by decide)) f1, fun a i q => by rw [f2 a i q, gI_sI, if_neg (by omega)], fun a i => f3 a i, fun i => ?_⟩
    · rw [rf_enters_L71, if_pos (show nI j < (12 : Int32) from nI_lt (b := 12) (by omega) (by decide)), nI_add, zin_nI (show base + j < 160 by omega) (by decide), zgd_t, zx_nI (show base + j < 2 ^ 31 by omega), nI_1]
      exact e
    · rw [f4, gI_sI]
      by_cases z : i = base + j
      · rw [if_neg (by omega), if_pos ⟨rfl, z⟩, if_pos (by omega)]
      · rw [if_neg (show ¬ ((28 : Nat) = 28 ∧ i = base + j) from fun q => z q.2)]
        by_cases x : base + (j + 1) ≤ i ∧ i < base + 12
        · rw [if_pos x, if_pos (by omega)]
        · rw [if_neg x, if_neg (by omega)]
theorem kr_arg (n : Nat) {b base k : Nat} (hb : base + 12 ≤ 160) (hb4 : b ≤ 4) (hk : k + b ≤ 2200) (x1 : Int32) {u0 : zMu} (i51 : zI u0 0 51 = nI k) : ∀ d i m u, i + d = b → d < m → (∀ a t, ¬ a = 28 → zI u a t = zI u0 a t) → (∀ a t, ¬ a = 32 → zL u a t = zL u0 a t) → (∀ t, zI u 28 t = if base ≤ t ∧ t < base + i then zI u0 27 (k + (t - base)) else zI u0 28 t) → (∀ t, zL u 32 t = if base ≤ t ∧ t < base + i then zL u0 31 (k + (t - base)) else zL u0 32 t) → fT tgR [2] u0 u → ∃ v, rf_enters_L108 n m u x1 (nI b) (nI base) (nI i) = rf_enters_L108 n 1 v x1 0 0 0 ∧ (∀ a t, ¬ a = 28 → zI v a t = zI u0 a t) ∧ (∀ a t, ¬ a = 32 → zL v a t = zL u0 a t) ∧ (∀ t, zI v 28 t = if base ≤ t ∧ t < base + b then zI u0 27 (k + (t - base)) else zI u0 28 t) ∧ (∀ t, zL v 32 t = if base ≤ t ∧ t < base + b then zL u0 31 (k + (t - base)) else zL u0 32 t) ∧ fT tgR [2] u0 v := by
  intro d
  induction d with
  | zero =>
    intro i m u hi hm h1 h2 h3 h4 h5
    obtain ⟨m, rfl⟩ : ∃ k, m = k + 1 := ⟨m - 1, by omega⟩
    have e : i = b := by omega
    subst e
    refine ⟨u, ?_, h1, h2, h3, h4, h5⟩
    rw [rf_enters_L108, rf_enters_L108, if_neg (nI_nlt (Nat.le_refl _) (by omega)), if_neg (show ¬ (0 : Int32) < 0 from by decide)]
  | succ d ih =>
    intro i m u hi hm h1 h2 h3 h4 h5
    obtain ⟨m, rfl⟩ : ∃ k, m = k + 1 := ⟨m - 1, by omega⟩
    obtain ⟨u3, hu3⟩ : ∃ u3, zsL (zsI u 28 (base + i) (zI u0 27 (k + i))) 32 (base + i) (zL u0 31 (k + i)) = u3 := ⟨_, rfl⟩
    obtain ⟨v, e, g⟩ := ih (i + 1) m u3 (by omega) (by omega) (fun a t q => by rw [← hu3, gI_sL, gI_sI, if_neg (by omega)]; exact h1 a t q) (fun a t q => by rw [← hu3, gL_sL, if_neg (by omega), gL_sI]; exact h2 a t q) (fun t => by
      rw [← hu3, gI_sL, gI_sI]
      by_cases z : t = base + i
      · rw [if_pos ⟨rfl, z⟩, if_pos (by omega), z, show base + i - base = i by omega]
      · rw [if_neg (fun q => z q.2), h3]
        by_cases x : base ≤ t ∧ t < base + i
        · rw [if_pos x, if_pos (by omega)]
        · rw [if_neg x, if_neg (by omega)]) (fun t => by
      rw [← hu3, gL_sL, gL_sI]
      by_cases z : t = base + i
      · rw [if_pos ⟨rfl, z⟩, if_pos (by omega), z, show base + i - base = i by omega]
      · rw [if_neg (fun q => z q.2), h4]
        by_cases x : base ≤ t ∧ t < base + i
        · rw [if_pos x, if_pos (by omega)]
        · rw [if_neg x, if_neg (by omega)]) (by rw [← hu3]; exact fT_L (fT_I h5 _ 2 rfl (by decide)) _ 2 rfl (by decide))
    refine ⟨v, ?_, g⟩
    rw [rf_enters_L108, if_pos (nI_lt (by omega) (by omega)), h1 0 51 (by omega), i51, nI_add, nI_add, zin_nI (show k + i < 2200 by omega) (by decide), zgd_t, zin_nI (show base + i < 160 by omega) (by decide), zgd_t, zx_nI (show k + i < 2 ^ 31 by omega), zx_nI (show base + i < 2 ^ 31 by omega), h1 27 _ (by omega)]
    simp only [zlet]
    have j51 : zI (zsI u 28 (base + i) (zI u0 27 (k + i))) 0 51 = nI k := by rw [gI_sI, if_neg (by omega), h1 0 51 (by omega)]; exact i51
    rw [j51, nI_add, zin_nI (show k + i < 2200 by omega) (by decide), zgd_t, zgd_t, zx_nI (show k + i < 2 ^ 31 by omega), gL_sI, h2 31 _ (by omega), hu3, nI_1]
    exact e
