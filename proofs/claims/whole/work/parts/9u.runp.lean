/-! RUNNING: the line from an object, as the reference walks it; names of a shape -/
theorem kHo_u {W : kW} {o w q q' : Nat} (h : kHo W o w q) (h' : kHo W o w q') : q = q' := by
  obtain ⟨a1, ⟨m, a2, a3⟩, a4⟩ := h
  obtain ⟨b1, ⟨m', b2, b3⟩, b4⟩ := h'
  by_cases x : q < q'
  · exact absurd b3 (a4 q' b1 x m' b2)
  · by_cases y : q' < q
    · exact absurd a3 (b4 q a1 y m a2)
    · omega
theorem kHo_n {W : kW} {o w q : Nat} (h : kHo W o w q) (h' : kHn W o w) : False := by
  obtain ⟨a1, ⟨m, a2, a3⟩, a4⟩ := h
  exact h' q a1 m a2 a3
/-- one step up the line -/
theorem kHo_s {W : kW} {o w f : Nat} (hp : ∀ j, j ≤ o → wp W j ≤ j) (hf : wp W o = f + 1) (no : ∀ m, m ∈ wl W o → ¬ m.1 = w) : (∀ q, kHo W f w q → kHo W o w q) ∧ (kHn W f w → kHn W o w) ∧ (∀ q, kHo W o w q → kHo W f w q) ∧ (kHn W o w → kHn W f w) := by
  have st : ∀ x, anc (wp W) o x ↔ (o = x ∨ anc (wp W) f x) := fun x => by
    rw [anc_st hp, hf]
    exact ⟨fun q => q.elim Or.inl (fun q => Or.inr q.2), fun q => q.elim Or.inl (fun q => Or.inr ⟨by omega, q⟩)⟩
  refine ⟨fun q h => ⟨(st q).mpr (Or.inr h.1), h.2.1, fun x hx hx2 => ?_⟩, fun h x hx => ?_, fun q h => ⟨?_, h.2.1, fun x hx hx2 => h.2.2 x ((st x).mpr (Or.inr hx)) hx2⟩, fun h x hx => h x ((st x).mpr (Or.inr hx))⟩
  · rcases (st x).mp hx with y | y
    · rw [← y]; exact no
    · exact h.2.2 x y hx2
  · rcases (st x).mp hx with y | y
    · rw [← y]; exact no
    · exact h x y
  · rcases (st q).mp h.1 with y | y
    · obtain ⟨m, m1, m2⟩ := h.2.1
      rw [← y] at m1
      exact absurd m2 (no m m1)
    · exact y
theorem kH_0 {W : kW} {o w : Nat} (hp : ∀ j, j ≤ o → wp W j ≤ j) (hf : wp W o = 0) (no : ∀ m, m ∈ wl W o → ¬ m.1 = w) : kHn W o w := by
  intro x hx
  rcases (anc_st hp).mp hx with q | q
  · rw [← q]; exact no
  · exact absurd hf q.1
theorem kH_own {W : kW} {o w : Nat} (hp : ∀ j, j ≤ o → wp W j ≤ j) {m : Nat × Nat × Nat} (h : m ∈ wl W o) (e : m.1 = w) : kHo W o w o := ⟨anc_rf o, ⟨m, h, e⟩, fun x hx hx2 => absurd (anc_le o o (Nat.le_refl _) hp hx) (by omega)⟩
theorem k_walk (n : Nat) (hn : 20000 ≤ n) {X : pCx} {ub : zMu} {W : kW} {ur uc : zMu} (hI : ∀ w w', w < xN X → w' < xN X → xPK X w = xPK X w' → w = w') (hN : xN X ≤ 1501) (hO : kOb W ur uc) (h : kMb X ub W ur uc) {w s : Nat} (hw : w < xN X) (hs : s < 800) (es : zI ur 22 s = nI w) : ∀ d x m r, x ≤ d → x < wO W → x + 1 < m → rf_memberOf n ur (nI x) (nI w) = some (r, ur) → (∃ q mm, kHo W x w q ∧ mm ∈ wl W q ∧ mm.1 = w ∧ rf_reads_L161 n m ur (nI s) (nI x) r = rf_reads_J204 n ur (nI mm.2.1)) ∨ (kHn W x w ∧ rf_reads_L161 n m ur (nI s) (nI x) r = rf_reads_J204 n ur (-1)) := by
  intro d
  induction d with
  | zero =>
    intro x m r hd hx hm hr
    have e : x = 0 := by omega
    subst e
    obtain ⟨m, rfl⟩ : ∃ k, m = k + 1 := ⟨m - 1, by omega⟩
    have hp := kOb_p hO hx
    have o2 := hO.1
    obtain ⟨b1, b2, b3, b4⟩ := hO.2.2.2 0 hx
    rcases k_find n hn hI hN hO h hx hw with ⟨q, q1, q2, q3, -⟩ | ⟨q1, q3, -⟩
    · rw [hr] at q3
      cases q3
      have lt : q.2.1 < 20001 := by
        obtain ⟨h1, h2, U, fr, ov, ow, -, -, h5⟩ := h
        have := ((h5 0 hx).2 q q1).2.2.1
        omega
      exact Or.inl ⟨0, q, kH_own hp q1 q2, q1, q2, by rw [rf_reads_L161, if_neg (nI_m1 (by omega))]⟩
    · rw [hr] at q3
      cases q3
      refine Or.inr ⟨kH_0 hp (by omega) q1, ?_⟩
      rw [rf_reads_L161, if_pos rfl, zin_nI (show 0 < 201 by omega) (by decide), zgd_t, zx_nI (show 0 < 2 ^ 31 by omega), b2, show wp W 0 = 0 by omega, iP_0, if_pos rfl]
  | succ d ih =>
    intro x m r hd hx hm hr
    obtain ⟨m, rfl⟩ : ∃ k, m = k + 1 := ⟨m - 1, by omega⟩
    have hp := kOb_p hO hx
    have o2 := hO.1
    obtain ⟨b1, b2, b3, b4⟩ := hO.2.2.2 x hx
    rcases k_find n hn hI hN hO h hx hw with ⟨q, q1, q2, q3, -⟩ | ⟨q1, q3, -⟩
    · rw [hr] at q3
      cases q3
      have lt : q.2.1 < 20001 := by
        obtain ⟨h1, h2, U, fr, ov, ow, -, -, h5⟩ := h
        have := ((h5 x hx).2 q q1).2.2.1
        omega
      exact Or.inl ⟨x, q, kH_own hp q1 q2, q1, q2, by rw [rf_reads_L161, if_neg (nI_m1 (by omega))]⟩
    · rw [hr] at q3
      cases q3
      by_cases z : wp W x = 0
      · refine Or.inr ⟨kH_0 hp z q1, ?_⟩
        rw [rf_reads_L161, if_pos rfl, zin_nI (show x < 201 by omega) (by decide), zgd_t, zx_nI (show x < 2 ^ 31 by omega), b2, z, iP_0, if_pos rfl]
      · obtain ⟨f, hf⟩ : ∃ f, wp W x = f + 1 := ⟨wp W x - 1, by omega⟩
        obtain ⟨k1, k2, -, -⟩ := kHo_s hp hf q1
        obtain ⟨r', hr'⟩ : ∃ r', rf_memberOf n ur (nI f) (nI w) = some (r', ur) := by
          rcases k_find n hn hI hN hO h (o := f) (by omega) hw with ⟨q, -, -, q3, -⟩ | ⟨-, q3, -⟩
          · exact ⟨_, q3⟩
          · exact ⟨_, q3⟩
        have e : rf_reads_L161 n (m + 1) ur (nI s) (nI x) (-1) = rf_reads_L161 n m ur (nI s) (nI f) r' := by
          rw [rf_reads_L161, if_pos rfl, zin_nI (show x < 201 by omega) (by decide), zgd_t, zx_nI (show x < 2 ^ 31 by omega), b2, hf, iP_s, if_neg (nI_m1 (by omega)), zgd_t]
          show zgd (zin (nI s) 800) (zbd (rf_memberOf n ur (nI f) (zI ur 22 (zx (nI s)))) fun r4 u5 => rf_reads_L161 n m u5 (nI s) (nI f) r4) = _
          rw [zin_nI hs (by decide), zgd_t, zx_nI (show s < 2 ^ 31 by omega), es, zbd_e hr']
        rw [e]
        rcases ih f m r' (by omega) (by omega) (by omega) hr' with ⟨q, mm, y1, y2, y3, y4⟩ | ⟨y1, y2⟩
        · exact Or.inl ⟨q, mm, k1 q y1, y2, y3, y4⟩
        · exact Or.inr ⟨k2 y1, y2⟩
/-- the way of an entry e from x -/
theorem k_way (n : Nat) (hn : 20000 ≤ n) {X : pCx} {ub : zMu} {W : kW} {uc : zMu} (hI : ∀ w w', w < xN X → w' < xN X → xPK X w = xPK X w' → w = w') (hN : xN X ≤ 1501) {w e : Nat} (hw : w < xN X) (he : e < 330) : ∀ d x m u, x ≤ d → x < wO W → x + 1 < m → kOb W u uc → kMb X ub W u uc → ∃ v T, rf_way_L10 n m u (nI e) (nI w) (nI x) = some ((), v) ∧ fT tgR [9] u v ∧ (∀ a i, ¬ (a = 57 ∧ i = e) → zI v a i = zI u a i) ∧ zI v 57 e = nI T ∧ anc (wp W) x T ∧ (kHo W x w T ∨ (kHn W x w ∧ wp W T = 0)) := by
  intro d
  induction d with
  | zero =>
    intro x m u hd hx hm hO h
    have e0 : x = 0 := by omega
    subst e0
    obtain ⟨m, rfl⟩ : ∃ k, m = k + 1 + 1 := ⟨m - 2, by omega⟩
    obtain ⟨u2, hu2⟩ : ∃ u2, zsI u 57 e (nI 0) = u2 := ⟨_, rfl⟩
    have F : fT tgR [9] u u2 := by subst hu2; exact fT_I (fT_rf _ _ _) _ 9 rfl (by decide)
    have iu : ∀ a i, ¬ (a = 57 ∧ i = e) → zI u2 a i = zI u a i := fun a i q => by subst hu2; rw [gI_sI, if_neg q]
    have i57 : zI u2 57 e = nI 0 := by subst hu2; rw [gI_sI, if_pos ⟨rfl, rfl⟩]
    have hO2 := kOb_k hO F (fT_rf tgC [9] uc) (by decide)
    have h2 := kMb_k h F (fT_rf tgC [9] uc) (by decide)
    have hp := kOb_p hO hx
    have o2 := hO.1
    obtain ⟨b1, b2, b3, b4⟩ := hO2.2.2.2 0 hx
    rcases k_find n hn hI hN hO2 h2 hx hw with ⟨q, q1, q2, q3, -⟩ | ⟨q1, q3, -⟩
    · have lt : q.2.1 < 20001 := by
        obtain ⟨h1, h2, U, fr, ov, ow, -, -, h5⟩ := h2
        have := ((h5 0 hx).2 q q1).2.2.1
        omega
      refine ⟨u2, 0, ?_, F, iu, i57, anc_rf 0, Or.inl (kH_own hp q1 q2)⟩
      rw [rf_way_L10, if_neg (nI_m1 (by decide)), zin_nI he (by decide), zgd_t, zx_nI (show e < 2 ^ 31 by omega)]
      show zbd (rf_memberOf n (zsI u 57 e (nI 0)) (nI 0) (nI w)) _ = _
      rw [hu2, zbd_e q3, if_neg (nI_m1 (by omega))]
    · refine ⟨u2, 0, ?_, F, iu, i57, anc_rf 0, Or.inr ⟨kH_0 hp (by omega) q1, by omega⟩⟩
      rw [rf_way_L10, if_neg (nI_m1 (by decide)), zin_nI he (by decide), zgd_t, zx_nI (show e < 2 ^ 31 by omega)]
      show zbd (rf_memberOf n (zsI u 57 e (nI 0)) (nI 0) (nI w)) _ = _
      rw [hu2, zbd_e q3, if_pos rfl, zin_nI (show 0 < 201 by omega) (by decide), zgd_t, zx_nI (show 0 < 2 ^ 31 by omega), b2, show wp W 0 = 0 by omega, iP_0]
      show rf_way_L10 n (m + 1) u2 (nI e) (nI w) (-1) = _
      rw [rf_way_L10, if_pos rfl]
  | succ d ih =>
    intro x m u hd hx hm hO h
    obtain ⟨m, rfl⟩ : ∃ k, m = k + 1 + 1 := ⟨m - 2, by omega⟩
    obtain ⟨u2, hu2⟩ : ∃ u2, zsI u 57 e (nI x) = u2 := ⟨_, rfl⟩
    have F : fT tgR [9] u u2 := by subst hu2; exact fT_I (fT_rf _ _ _) _ 9 rfl (by decide)
    have iu : ∀ a i, ¬ (a = 57 ∧ i = e) → zI u2 a i = zI u a i := fun a i q => by subst hu2; rw [gI_sI, if_neg q]
    have i57 : zI u2 57 e = nI x := by subst hu2; rw [gI_sI, if_pos ⟨rfl, rfl⟩]
    have hO2 := kOb_k hO F (fT_rf tgC [9] uc) (by decide)
    have h2 := kMb_k h F (fT_rf tgC [9] uc) (by decide)
    have hp := kOb_p hO hx
    have o2 := hO.1
    obtain ⟨b1, b2, b3, b4⟩ := hO2.2.2.2 x hx
    rcases k_find n hn hI hN hO2 h2 hx hw with ⟨q, q1, q2, q3, -⟩ | ⟨q1, q3, -⟩
    · have lt : q.2.1 < 20001 := by
        obtain ⟨h1, h2, U, fr, ov, ow, -, -, h5⟩ := h2
        have := ((h5 x hx).2 q q1).2.2.1
        omega
      refine ⟨u2, x, ?_, F, iu, i57, anc_rf x, Or.inl (kH_own hp q1 q2)⟩
      rw [rf_way_L10, if_neg (nI_m1 (by omega)), zin_nI he (by decide), zgd_t, zx_nI (show e < 2 ^ 31 by omega)]
      show zbd (rf_memberOf n (zsI u 57 e (nI x)) (nI x) (nI w)) _ = _
      rw [hu2, zbd_e q3, if_neg (nI_m1 (by omega))]
    · have st : rf_way_L10 n (m + 1 + 1) u (nI e) (nI w) (nI x) = rf_way_L10 n (m + 1) u2 (nI e) (nI w) (iP (wp W x)) := by
        rw [rf_way_L10, if_neg (nI_m1 (by omega)), zin_nI he (by decide), zgd_t, zx_nI (show e < 2 ^ 31 by omega)]
        show zbd (rf_memberOf n (zsI u 57 e (nI x)) (nI x) (nI w)) _ = _
        rw [hu2, zbd_e q3, if_pos rfl, zin_nI (show x < 201 by omega) (by decide), zgd_t, zx_nI (show x < 2 ^ 31 by omega), b2]
        rfl
      by_cases z : wp W x = 0
      · refine ⟨u2, x, ?_, F, iu, i57, anc_rf x, Or.inr ⟨kH_0 hp z q1, z⟩⟩
        rw [st, z, iP_0, rf_way_L10, if_pos rfl]
      · obtain ⟨f, hf⟩ : ∃ f, wp W x = f + 1 := ⟨wp W x - 1, by omega⟩
        obtain ⟨k1, k2, -, -⟩ := kHo_s hp hf q1
        obtain ⟨v, T, e1, e2, e3, e4, e5, e6⟩ := ih f (m + 1) u2 (by omega) (by omega) (by omega) hO2 h2
        refine ⟨v, T, by rw [st, hf, iP_s]; exact e1, fT_tr F e2, fun a i q => (e3 a i q).trans (iu a i q), e4, (anc_st hp).mpr (Or.inr ⟨z, by rw [hf]; exact e5⟩), ?_⟩
        rcases e6 with y | ⟨y1, y2⟩
        · exact Or.inl (k1 T y)
        · exact Or.inr ⟨k2 y1, y2⟩
/-- the names of a shape -/
theorem k_hasN (n : Nat) {X : pCx} {W : kW} {ur uc : zMu} (hN : xN X ≤ 1501) (h : kSh X W ur uc) {w : Nat} (hw : w < xN X) : ∀ d sh m, sh ≤ d → sh < wS W → sh + 1 < m → rf_hasName_L2 n m ur (nI w) (nI sh) = some (if w ∈ wn W sh then 1 else 0, ur) := by
  obtain ⟨⟨-, hS⟩, -, -, -, -, ⟨Ch, h5⟩, -⟩ := h
  intro d
  induction d with
  | zero =>
    intro sh m hd hx hm
    have e0 : sh = 0 := by omega
    subst e0
    obtain ⟨m, rfl⟩ : ∃ k, m = k + 1 + 1 := ⟨m - 2, by omega⟩
    obtain ⟨⟨-, g1⟩, g2, g3, g4, g5, -⟩ := h5 0 hx
    rcases g2 with ⟨y1, y2, y3⟩ | ⟨y1, -⟩
    · rw [rf_hasName_L2, if_neg (nI_m1 (by decide)), zin_nI (show 0 < 2100 by omega) (by decide), zgd_t, zx_nI (show 0 < 2 ^ 31 by omega), y3, if_neg (fun q => nI_m1 (n := w) (by omega) q.symm), zgd_t, g5, y1, iP_0, y2, if_neg (by simp)]
      show rf_hasName_L2 n (m + 1) ur (nI w) (-1) = _
      rw [rf_hasName_L2, if_pos rfl]
    · exact absurd y1 (by omega)
  | succ d ih =>
    intro sh m hd hx hm
    obtain ⟨m, rfl⟩ : ∃ k, m = k + 1 + 1 := ⟨m - 2, by omega⟩
    obtain ⟨⟨-, g1⟩, g2, g3, g4, g5, -⟩ := h5 sh hx
    rcases g2 with ⟨y1, y2, y3⟩ | ⟨y1, y2, w', y3, y4, y5, y6⟩
    · rw [rf_hasName_L2, if_neg (nI_m1 (by omega)), zin_nI (show sh < 2100 by omega) (by decide), zgd_t, zx_nI (show sh < 2 ^ 31 by omega), y3, if_neg (fun q => nI_m1 (n := w) (by omega) q.symm), zgd_t, g5, y1, iP_0, y2, if_neg (by simp)]
      show rf_hasName_L2 n (m + 1) ur (nI w) (-1) = _
      rw [rf_hasName_L2, if_pos rfl]
    · obtain ⟨f, hf⟩ : ∃ f, wu W sh = f + 1 := ⟨wu W sh - 1, by omega⟩
      rw [rf_hasName_L2, if_neg (nI_m1 (by omega)), zin_nI (show sh < 2100 by omega) (by decide), zgd_t, zx_nI (show sh < 2 ^ 31 by omega), y5, g5, hf, iP_s]
      rw [hf] at y4
      have e1 : f + 1 - 1 = f := by omega
      rw [e1] at y4
      by_cases z : w' = w
      · rw [z, if_pos rfl, zgd_t, if_neg (nI_m1 (by omega)), if_pos (by rw [y4, z]; simp)]
      · rw [if_neg (fun q => z ((nI_eq (by omega) (by omega)).mp q)), zgd_t]
        show rf_hasName_L2 n (m + 1) ur (nI w) (nI f) = _
        rw [ih f (m + 1) (by omega) (by omega) (by omega)]
        have : w ∈ wn W sh ↔ w ∈ wn W f := by rw [y4]; simp; exact fun q => absurd q.symm z
        by_cases y : w ∈ wn W f
        · rw [if_pos y, if_pos (this.mpr y)]
        · rw [if_neg y, if_neg (fun q => y (this.mp q))]
