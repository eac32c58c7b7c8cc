/-! THE OBJECT: rows, shapes, sites, fns -/
theorem c_place (n : Nat) {u : zMu} {r z S j R : Nat} (h3 : zI u 45 5 = nI R) (hR : R ≤ 60) (hr : r < R) (h47 : zI u 47 r = nI z) (h48 : zI u 48 r = nI S) (hz : z ≤ 50) (hj : j < 2 ^ 31) : ce_R_placeOf n u (nI r) (lN j) = some (if j < z then nI (S + j) else -1, u) := by
  unfold ce_R_placeOf
  rw [zbd_e (c_isRow n h3 (by omega) hr), if_neg (show ¬ (1 : Int32) = 0 by decide), zin_nI (show r < 60 by omega) (by decide), zgd_t, zgd_t, zx_nI (show r < 2 ^ 31 by omega), h47, h48, nI_l (show z < 2 ^ 31 by omega), lN_i, nI_add]
  rw [if_neg (show ¬ lg_cmp (lN j) 0 < 0 from fun q => absurd ((lN_lt (b := 0) hj (by decide)).mp ((lgc_lt _ _).mp q)) (by omega))]
  by_cases c : j < z
  · rw [if_pos c, if_pos ((lgc_lt _ _).mpr ((lN_lt hj (by omega)).mpr c))]
  · rw [if_neg c, if_neg (fun q => c ((lN_lt hj (by omega)).mp ((lgc_lt _ _).mp q)))]
theorem sm_row (n : Nat) {W : kW} {ur uc : zMu} (h : kRw W ur uc) (x y : Int32) : Sm ur uc (rf_row n ur x y) (ce_E_row n uc x y) := by
  obtain ⟨h1, h2, h3, h4, h5, z, h6, h7⟩ := h
  unfold rf_row ce_E_row
  by_cases c : x < 0
  · rw [if_pos c]
    unfold ce_R_isRow
    rw [if_pos c]
    exact sm_of (a := -2) rfl rfl rfl
  · rw [if_neg c]
    obtain ⟨r, hr, rfl⟩ := nI_of c
    rw [h2]
    by_cases d : r < wR W
    · rw [if_pos (nI_lt d (by omega)), zbd_e (c_isRow n h3 (by omega) d), if_neg (show ¬ (1 : Int32) = 0 by decide), zin_nI (show r < 61 by omega) (by decide), zin_nI (show r < 60 by omega) (by decide), zx_nI hr]
      simp only [zgd_t]
      obtain ⟨g1, ⟨k, k1, k2, k3⟩, g3, g4, g5, g6⟩ := h7 r d
      by_cases e : y < 0
      · rw [if_pos e, if_pos e]; exact sm_e rfl
      · rw [if_neg e, if_neg e]
        by_cases y0 : y = 0
        · rw [if_pos y0, if_pos y0]; exact sm_e (k3.trans k2.symm)
        · rw [if_neg y0, if_neg y0]
          by_cases y1 : y = 1
          · rw [if_pos y1, if_pos y1]; exact sm_e (g4.trans g3.symm)
          · rw [if_neg y1, if_neg y1]
            obtain ⟨i, hi, rfl⟩ := nI_of e
            have i0 : ¬ i = 0 := fun q => y0 (by rw [q]; rfl)
            have i1 : ¬ i = 1 := fun q => y1 (by rw [q]; rfl)
            have hS : kSm z r ≤ r * 50 := kSm_le _ (fun j hj => (h7 j (by omega)).1)
            rw [show nI i - 2 = nI (i - 2) from nI_sub (b := 2) (by omega), nI_l (show i - 2 < 2 ^ 31 by omega), zbd_e (c_place n h3 h1 d g4 g5 g1 (by omega)), g3]
            by_cases f : i - 2 < z r
            · rw [if_pos (nI_lt f (by omega)), if_pos f, if_neg (nI_m1 (by omega)), show (50 : Int32) * nI r = nI (50 * r) from nI_mul 50 r, nI_add, show nI (50 * r + i) - 2 = nI (50 * r + i - 2) from nI_sub (b := 2) (by omega), show 50 * r + i - 2 = 50 * r + (i - 2) by omega, zin_nI (show 50 * r + (i - 2) < 3100 by omega) (by decide), zx_nI (show 50 * r + (i - 2) < 2 ^ 31 by omega), zgd_t, zgd_t, zbd_e (r_sortOf n (g6 _ f)), zbd_e (v_sortAt n h5 (by omega))]
              exact sm_e rfl
            · rw [if_neg (nI_nlt (by omega) (by omega)), if_neg f, if_pos rfl]
              exact sm_e rfl
    · rw [if_neg (nI_nlt (by omega) hr)]
      unfold ce_R_isRow
      rw [if_neg c, h3, if_neg (nI_nlt (by omega) hr)]
      exact sm_of (a := -2) rfl rfl rfl
theorem i64_neg {x : Int32} : x.toInt64 < 0 ↔ x < 0 := by
  rw [Int32.lt_iff_toInt_lt, Int64.lt_iff_toInt_lt, Int32.toInt_toInt64]
  rfl
theorem sm_item (n : Nat) {W : kW} {ur uc : zMu} (h : kRw W ur uc) (x y : Int32) : Sm ur uc (rf_item n ur x y) (ce_E_item n uc x y) := by
  obtain ⟨h1, h2, h3, h4, h5, z, h6, h7⟩ := h
  unfold rf_item ce_E_item
  by_cases c : x < 0
  · rw [if_pos c]
    unfold ce_R_placeOf ce_R_isRow
    rw [if_pos c]
    exact sm_of (a := 0) rfl rfl rfl
  · rw [if_neg c]
    obtain ⟨r, hr, rfl⟩ := nI_of c
    rw [h2]
    by_cases d : r < wR W
    · rw [if_pos (nI_lt d (by omega)), zin_nI (show r < 61 by omega) (by decide), zx_nI hr]
      simp only [zgd_t]
      obtain ⟨g1, ⟨k, k1, k2, k3⟩, g3, g4, g5, g6⟩ := h7 r d
      by_cases e : y < 0
      · rw [if_pos e]
        unfold ce_R_placeOf
        rw [zbd_e (c_isRow n h3 (by omega) d), if_neg (show ¬ (1 : Int32) = 0 by decide), if_pos ((lgc_lt _ _).mpr (i64_neg.mpr e)), zbd_s, if_pos rfl]
        exact sm_e rfl
      · rw [if_neg e]
        obtain ⟨i, hi, rfl⟩ := nI_of e
        have hS : kSm z r ≤ r * 50 := kSm_le _ (fun j hj => (h7 j (by omega)).1)
        rw [nI_l hi, zbd_e (c_place n h3 h1 d g4 g5 g1 hi), g3]
        by_cases f : i < z r
        · rw [if_pos (nI_lt f (by omega)), if_pos f, if_neg (nI_m1 (by omega)), show (50 : Int32) * nI r = nI (50 * r) from nI_mul 50 r, nI_add, zin_nI (show 50 * r + i < 3100 by omega) (by decide), zx_nI (show 50 * r + i < 2 ^ 31 by omega), zgd_t, zgd_t, zbd_e (v_worthAt n h5 (by omega) (g6 _ f))]
          by_cases e : zI ur 50 (50 * r + i) = 1
          · rw [if_pos e, if_pos e]; exact sm_e rfl
          · rw [if_neg e, if_neg e]; exact sm_e rfl
        · rw [if_neg (nI_nlt (by omega) (by omega)), if_neg f, if_pos rfl]
          exact sm_e rfl
    · rw [if_neg (nI_nlt (by omega) hr)]
      unfold ce_R_placeOf ce_R_isRow
      rw [if_neg c, h3, if_neg (nI_nlt (by omega) hr)]
      exact sm_of (a := 0) rfl rfl rfl
/-! shapes -/
theorem cnt_of (P : Nat → Prop) [DecidablePred P] : ∀ (N : Nat) (l : List Nat), l.Nodup → (∀ c, c ∈ l ↔ (c < N ∧ P c)) → kSm (fun c => if P c then 1 else 0) N = l.length := by
  intro N
  induction N with
  | zero =>
    intro l _ h
    have : l = [] := List.eq_nil_iff_forall_not_mem.mpr (fun c q => by have := (h c).mp q; omega)
    subst this; rfl
  | succ N ih =>
    intro l hl h
    rw [kSm]
    by_cases c : P N
    · have hm : N ∈ l := (h N).mpr ⟨by omega, c⟩
      have e := ih (l.erase N) (hl.erase N) (fun d => by
        rw [hl.mem_erase_iff, h d]
        constructor
        · rintro ⟨a, b, p⟩; exact ⟨by omega, p⟩
        · rintro ⟨a, p⟩; exact ⟨by omega, by omega, p⟩)
      rw [List.length_erase_of_mem hm] at e
      have : 0 < l.length := List.length_pos_of_mem hm
      rw [e, if_pos c]
      omega
    · rw [if_neg c, Nat.add_zero, ih l hl (fun d => by
        rw [h d]
        constructor
        · rintro ⟨a, p⟩; exact ⟨by have : ¬ d = N := fun q => c (q ▸ p); omega, p⟩
        · rintro ⟨a, p⟩; exact ⟨by omega, p⟩)]
theorem r_children (n : Nat) {W : kW} {ur : zMu} {s : Nat} (hs : s < 2 ^ 30) (h0 : zI ur 0 58 = nI (wS W)) (hS : wS W ≤ 1800) (h : ∀ c, c < wS W → wu W c ≤ c ∧ zI ur 45 c = iP (wu W c)) : ∀ (m i : Nat), i ≤ wS W → wS W - i < m → rf_shape_L63 n m ur (nI s) (nI (kSm (fun c => if wu W c = s + 1 then 1 else 0) i)) (nI i) = some (nI (kSm (fun c => if wu W c = s + 1 then 1 else 0) (wS W)), ur) := by
  intro m
  induction m with
  | zero => intro i _ q; omega
  | succ m ih =>
    intro i hi hm
    rw [rf_shape_L63, h0]
    by_cases c : i < wS W
    · obtain ⟨u1, u2⟩ := h i c
      rw [if_pos (nI_lt c (by omega)), zin_nI (show i < 2100 by omega) (by decide), zgd_t, zx_nI (show i < 2 ^ 31 by omega), u2]
      simp only [zlet]
      have e : iP (wu W i) = nI s ↔ wu W i = s + 1 := by rw [← iP_s s]; exact iP_inj (by omega) (by omega)
      have k := ih (i + 1) (by omega) (by omega)
      rw [kSm] at k
      by_cases d : wu W i = s + 1
      · rw [if_pos (e.mpr d), nI_1, nI_1]
        rw [if_pos d] at k
        exact k
      · rw [if_neg (fun q => d (e.mp q)), nI_1]
        rw [if_neg d, Nat.add_zero] at k
        exact k
    · have e : i = wS W := by omega
      subst e
      rw [if_neg (nI_nlt (Nat.le_refl _) (by omega))]
theorem sm_shape (n : Nat) (hn : 50000000 ≤ n) {X : pCx} {W : kW} {ur uc : zMu} (h : kSh X W ur uc) (x y : Int32) : Sm ur uc (rf_shape n ur x y) (ce_E_shape n uc x y) := by
  obtain ⟨⟨h1, h1'⟩, h2, h3, h4, ⟨n1, n2, n3, n4⟩, ⟨Ch, h5⟩, -⟩ := h
  unfold rf_shape ce_E_shape ce_S_isShape
  by_cases c : x < 0
  · rw [if_pos c, if_pos c]
    exact sm_of (a := -2) rfl rfl rfl
  · rw [if_neg c, if_neg c]
    obtain ⟨s, hs, rfl⟩ := nI_of c
    rw [h2, h3]
    by_cases d : s < wS W
    · obtain ⟨⟨-, g0⟩, g2, g3, g4, g5, g6, g7, g8, g9, g10, g11⟩ := h5 s d
      rw [if_pos (nI_lt d (by omega)), if_pos (nI_lt d (by omega)), zbd_s, if_neg (show ¬ (1 : Int32) = 0 by decide), n4 82 (by omega) (by omega), n4 83 (by omega) (by omega), n4 84 (by omega) (by omega), zin_nI (show s < zN uc 81 by omega) (by omega), zin_nI (show s < 2100 by omega) (by decide), zx_nI hs]
      simp only [zgd_t]
      by_cases y0 : y = 0
      · rw [if_pos y0, if_pos y0]; exact sm_e (g4.trans g3.symm)
      · rw [if_neg y0, if_neg y0]
        by_cases y1 : y = 1
        · rw [if_pos y1, if_pos y1]; exact sm_e (g7.2.trans g7.1.symm)
        · rw [if_neg y1, if_neg y1]
          by_cases y2 : y = 2
          · rw [if_pos y2, if_pos y2]; exact sm_e (g6.trans g5.symm)
          · rw [if_neg y2, if_neg y2]
            by_cases y3 : y = 3
            · rw [if_pos y3, if_pos y3]
              have k := r_children n (W := W) (s := s) (by omega) h2 h1' (fun c hc => ⟨(h5 c hc).1.2, (h5 c hc).2.2.2.2.1⟩) n 0 (by omega) (by omega)
              refine sm_of (show rf_shape_L63 n n ur (nI s) 0 0 = _ from k) rfl ?_
              rw [g9, cnt_of (fun c => wu W c = s + 1) (wS W) (Ch s) g10 g11]
            · rw [if_neg y3, if_neg y3]; exact sm_e rfl
    · rw [if_neg (nI_nlt (by omega) hs), if_neg (nI_nlt (by omega) hs)]
      exact sm_of (a := -2) rfl rfl rfl
/-! sites -/
theorem sm_site (n : Nat) {C : kC} {W : kW} {T : Nat} {B : Nat → Nat} {b p : Nat} {ur uc : zMu} (h : kOt C W T ur uc) (o : oOb B b C p ur uc) (hp : p = 12 ∨ p = 23) (hR : zR uc 0 4 = p) (x y : Int32) : Sm ur uc (rf_site n ur x y) (ce_E_site n uc x y) := by
  obtain ⟨-, -, -, -, -, ⟨-, -, -, hSi⟩, -, -⟩ := h
  obtain ⟨-, ⟨o1, o2, o3⟩, o4, -⟩ := o
  have hz : zpr p = true := by rcases hp with rfl | rfl <;> rfl
  unfold rf_site ce_E_site ce_P_isSite
  simp only [zlet]
  rw [hR, hz]
  simp only [zgd_t]
  by_cases c : x < 0
  · rw [if_pos c, if_pos c]
    exact sm_of (a := -2) rfl rfl rfl
  · rw [if_neg c, if_neg c]
    obtain ⟨s, hs, rfl⟩ := nI_of c
    rw [o2, o3]
    by_cases d : s < cS C
    · obtain ⟨k, k1, k2, k3, k4, k5, k6⟩ := o4 s d
      obtain ⟨g1, g2, g3, g4, g, gg1, gg2, gg3, -⟩ := hSi s d
      rw [k4] at g3 g4
      rw [if_pos (nI_lt d (by omega)), if_pos (nI_lt d (by omega)), zbd_s, if_neg (show ¬ (1 : Int32) = 0 by decide), hR, hz, zin_nI (show s < 80 by omega) (by decide), zin_nI (show s < 81 by omega) (by decide), zin_nI (show s < 800 by omega) (by decide), zx_nI hs, k2, k3]
      simp only [zgd_t]
      by_cases e : y < 0
      · rw [if_pos e, if_pos e]; exact sm_e rfl
      rw [if_neg e, if_neg e]
      by_cases y0 : y = 0
      · rw [if_pos y0, if_pos y0]; exact sm_e rfl
      rw [if_neg y0, if_neg y0]
      by_cases y1 : y = 1
      · rw [if_pos y1, if_pos y1]; exact sm_e k5
      rw [if_neg y1, if_neg y1]
      by_cases y2 : y = 2
      · rw [if_pos y2, if_pos y2]; exact sm_e g1
      rw [if_neg y2, if_neg y2]
      by_cases y3 : y = 3
      · rw [if_pos y3, if_pos y3]; exact sm_e g2
      rw [if_neg y3, if_neg y3]
      by_cases y4 : y = 4
      · rw [if_pos y4, if_pos y4]
        by_cases z : k = 3
        · subst z
          rw [if_pos (show nI 3 = 3 from rfl)]; exact sm_e (g3 rfl).1
        · have zz : ¬ nI k = nI 3 := fun q => z ((nI_eq (by omega) (by decide)).mp q)
          obtain ⟨q, q1, q2, q3, -⟩ := g4 zz
          rw [if_neg (show ¬ nI k = 3 from zz)]; exact sm_e (q3.trans q2.symm)
      rw [if_neg y4, if_neg y4]
      by_cases y5 : y = 5
      · rw [if_pos y5, if_pos y5]
        by_cases z : k = 3
        · subst z
          rw [if_pos (g3 rfl).2.2.2]; exact sm_e (g3 rfl).2.2.1
        · have zz : ¬ nI k = nI 3 := fun q => z ((nI_eq (by omega) (by decide)).mp q)
          obtain ⟨q, q1, q2, q3, q4, q5, -⟩ := g4 zz
          rcases q5 with q5 | ⟨q5, -⟩
          · rw [if_pos q5]; exact sm_e (q4.trans q5)
          · rw [if_neg (by rw [q5]; decide)]; exact sm_e (q4.trans q5)
      rw [if_neg y5, if_neg y5]
      by_cases y6 : y = 6
      · rw [if_pos y6, if_pos y6]; exact sm_e k6
      rw [if_neg y6, if_neg y6]
      by_cases y7 : y = 7
      · rw [if_pos y7, if_pos y7]
        unfold ce_T_hasGuess
        rw [zin_nI (show s < 80 by omega) (by decide), zgd_t, zx_nI hs, gg2, gg3]
        by_cases z : 0 < nI g
        · rw [if_pos z, if_pos z]; exact sm_of (a := 1) rfl rfl rfl
        · rw [if_neg z, if_neg z]; exact sm_of (a := 0) rfl rfl rfl
      rw [if_neg y7, if_neg y7]
      obtain ⟨i, hi, rfl⟩ := nI_of e
      have i8 : 8 ≤ i := by
        have a0 : ¬ i = 0 := fun q => y0 (by rw [q]; rfl)
        have a1 : ¬ i = 1 := fun q => y1 (by rw [q]; rfl)
        have a2 : ¬ i = 2 := fun q => y2 (by rw [q]; rfl)
        have a3 : ¬ i = 3 := fun q => y3 (by rw [q]; rfl)
        have a4 : ¬ i = 4 := fun q => y4 (by rw [q]; rfl)
        have a5 : ¬ i = 5 := fun q => y5 (by rw [q]; rfl)
        have a6 : ¬ i = 6 := fun q => y6 (by rw [q]; rfl)
        have a7 : ¬ i = 7 := fun q => y7 (by rw [q]; rfl)
        omega
      have hE : ∀ w : Nat, w ≤ 4 → zI uc 52 s = nI w → ce_T_entryAt n uc (nI s) (nI (i - 8)) = some (if i - 8 < w then zI uc 55 (4 * s + (i - 8)) else -1, uc) := by
        intro w w4 hw
        unfold ce_T_entryAt
        rw [if_neg (nI_pos (show i - 8 < 2 ^ 31 by omega)), zin_nI (show s < 80 by omega) (by decide), zgd_t, zx_nI hs, hw]
        by_cases z : i - 8 < w
        · rw [if_pos z, if_pos (nI_lt z (by omega)), show nI s * 4 = nI (s * 4) from nI_mul s 4, nI_add, zin_nI (show s * 4 + (i - 8) < 320 by omega) (by decide), zgd_t, zx_nI (show s * 4 + (i - 8) < 2 ^ 31 by omega), Nat.mul_comm s 4]
        · rw [if_neg z, if_neg (nI_nlt (by omega) (by omega))]
      rw [show nI i - 8 = nI (i - 8) from nI_sub (b := 8) (by omega)]
      by_cases z : k = 3
      · subst z
        rw [if_neg (show ¬ nI 3 < 2 by decide), zbd_e (hE 0 (by omega) (g3 rfl).2.1), if_neg (by omega)]
        exact sm_e rfl
      · have zz : ¬ nI k = nI 3 := fun q => z ((nI_eq (by omega) (by decide)).mp q)
        obtain ⟨q, q1, q2, q3, q4, q5, q6⟩ := g4 zz
        rw [zbd_e (hE q q1 q3)]
        by_cases z2 : k = 2
        · have hq : q = 0 := by
            by_cases hq : q = 0
            · exact hq
            · exfalso
              obtain ⟨sh, E, e1, e2, e3, ⟨e4, e5⟩, -⟩ := q6 0 (by omega)
              exact e5 (by rw [k4, z2])
          subst hq; subst z2
          rw [if_neg (show ¬ nI 2 < 2 by decide), if_neg (by omega)]
          exact sm_e rfl
        · rw [if_pos (show nI k < 2 from nI_lt (b := 2) (by omega) (by decide)), q2]
          by_cases f : i - 8 < q
          · obtain ⟨sh, E, e1, e2, e3, -⟩ := q6 (i - 8) f
            rw [if_pos (nI_lt f (by omega)), if_pos f, show (4 : Int32) * nI s = nI (4 * s) from nI_mul 4 s, nI_add, show nI (4 * s + i) - 8 = nI (4 * s + i - 8) from nI_sub (b := 8) (by omega), show 4 * s + i - 8 = 4 * s + (i - 8) by omega, zin_nI (show 4 * s + (i - 8) < 330 by omega) (by decide), zgd_t, zx_nI (show 4 * s + (i - 8) < 2 ^ 31 by omega)]
            exact sm_e (e3.trans e2.symm)
          · rw [if_neg (nI_nlt (by omega) (by omega)), if_neg f]
            exact sm_e rfl
    · rw [if_neg (nI_nlt (by omega) hs), if_neg (nI_nlt (by omega) hs)]
      exact sm_of (a := -2) rfl rfl rfl
/-! fns -/
theorem sm_fn (n : Nat) {C : kC} {W : kW} {T : Nat} {B : Nat → Nat} {b p : Nat} {ur uc : zMu} (h : kOt C W T ur uc) (o : oOb B b C p ur uc) (hp : p = 12 ∨ p = 23) (hR : zR uc 0 4 = p) (x y : Int32) : Sm ur uc (rf_fn n ur x y) (ce_E_fn n uc x y) := by
  obtain ⟨-, -, -, -, -, -, ⟨-, -, hFn⟩, -⟩ := h
  obtain ⟨⟨o1, o2, o3⟩, -, -, o4, -⟩ := o
  have hz : zpr p = true := by rcases hp with rfl | rfl <;> rfl
  unfold rf_fn ce_E_fn ce_P_isFn
  simp only [zlet]
  rw [hR, hz]
  simp only [zgd_t]
  by_cases c : x < 0
  · rw [if_pos c, if_pos c]
    exact sm_of (a := -2) rfl rfl rfl
  · rw [if_neg c, if_neg c]
    obtain ⟨s, hs, rfl⟩ := nI_of c
    rw [o2, o3]
    by_cases d : s < cF C
    · obtain ⟨g1, g2, g3, g4, g5, g6, g7, l, l1, l2, l3, l4, -⟩ := hFn s d
      rw [if_pos (nI_lt d (by omega)), if_pos (nI_lt d (by omega)), zbd_s, if_neg (show ¬ (1 : Int32) = 0 by decide), hR, hz, zin_nI (show s < 8 by omega) (by decide), zin_nI (show s < 9 by omega) (by decide), zx_nI hs]
      simp only [zgd_t]
      by_cases y0 : y = 0
      · rw [if_pos y0, if_pos y0]; exact sm_e (o4 s d)
      rw [if_neg y0, if_neg y0]
      by_cases y1 : y = 1
      · rw [if_pos y1, if_pos y1]; exact sm_e g1
      rw [if_neg y1, if_neg y1]
      by_cases y2 : y = 2
      · rw [if_pos y2, if_pos y2]; exact sm_e g2
      rw [if_neg y2, if_neg y2]
      by_cases y3 : y = 3
      · rw [if_pos y3, if_pos y3, g6]
        by_cases z : wf W s = 0
        · rw [if_pos (by rw [z]; rfl)]; exact sm_e (by rw [g7, z]; rfl)
        · have : wf W s = 1 := by omega
          rw [if_neg (by rw [this]; decide)]; exact sm_e (by rw [g7, this]; rfl)
      rw [if_neg y3, if_neg y3]
      by_cases y4 : y = 4
      · rw [if_pos y4, if_pos y4]; exact sm_e g3
      rw [if_neg y4, if_neg y4]
      by_cases y5 : y = 5
      · rw [if_pos y5, if_pos y5]; exact sm_e (l3.trans l2.symm)
      rw [if_neg y5, if_neg y5]
      by_cases y6 : y = 6
      · rw [if_pos y6, if_pos y6, l4]
        unfold ce_F_isCold
        rw [zin_nI (show s < 8 by omega) (by decide), zgd_t, zx_nI hs, l3]
        by_cases z : l = 3
        · subst z
          rw [if_neg (show ¬ nI 3 < 3 by decide), if_neg (show ¬ nI (if 3 = 3 then 1 else 0) = 0 by decide)]; exact sm_of (a := 1) rfl rfl rfl
        · rw [if_pos (show nI l < 3 from nI_lt (b := 3) (by omega) (by decide)), if_neg z, if_pos (show nI 0 = 0 from rfl)]; exact sm_of (a := 0) rfl rfl rfl
      rw [if_neg y6, if_neg y6]
      by_cases y7 : y = 7
      · rw [if_pos y7, if_pos y7]; exact sm_e g4
      rw [if_neg y7, if_neg y7]
      exact sm_e rfl
    · rw [if_neg (nI_nlt (by omega) hs), if_neg (nI_nlt (by omega) hs)]
      exact sm_of (a := -2) rfl rfl rfl
theorem sm_count (n : Nat) {C : kC} {B : Nat → Nat} {b p t : Nat} {ur uc : zMu} (o : oOb B b C p ur uc) (ht : pTape ur uc t) (hx : oTx B b ur) (hp : p = 12 ∨ p = 23) (hR : zR uc 0 4 = p) (x : Int32) : Sm ur uc (rf_count n ur x) (ce_E_count n uc x) := by
  obtain ⟨⟨o1, o2, o3⟩, ⟨s1, s2, s3⟩, -, -, ⟨q1, q2⟩, -⟩ := o
  have hz : zpr p = true := by rcases hp with rfl | rfl <;> rfl
  unfold rf_count ce_E_count
  simp only [zlet]
  rw [hR, hz, show zin 9 10 = true from rfl, show zx 9 = 9 from rfl]
  simp only [zgd_t]
  by_cases y0 : x = 0
  · rw [if_pos y0, if_pos y0]; exact sm_e (q2.trans hx.2.2.1.symm)
  rw [if_neg y0, if_neg y0]
  by_cases y1 : x = 1
  · rw [if_pos y1, if_pos y1]; exact sm_e (o3.trans o2.symm)
  rw [if_neg y1, if_neg y1]
  by_cases y2 : x = 2
  · rw [if_pos y2, if_pos y2]; exact sm_e (s3.trans s2.symm)
  rw [if_neg y2, if_neg y2]
  by_cases y3 : x = 3
  · rw [if_pos y3, if_pos y3]; exact sm_e q1
  rw [if_neg y3, if_neg y3]
  by_cases y4 : x = 4
  · rw [if_pos y4, if_pos y4]; exact sm_e (ht.2.1.trans ht.1.symm)
  rw [if_neg y4, if_neg y4]
  exact sm_e rfl
/-! all of them -/
theorem oAl.n {n k : Nat} {B : Nat → Nat} {s p : Nat} {C : kC} {ur uc : zMu} (h : oAl n k B s p C ur uc) : xN (cX C) ≤ 1500 := by
  rcases h with ⟨-, -, -, -, -, h, -⟩ | ⟨-, -, X, ⟨uc0, vc0, vr0, -, -, -, ⟨h, -⟩, -⟩, h2⟩
  · omega
  · rw [h2.1]; exact h.2.2.1
theorem ob_object (n k m : Nat) {K : Nat × Nat} {ur uc : zMu} (h : oI n k K ur uc) (x y : Int32) : Rp (rf_object m ur x y) (ce_E_object m uc x y) (fun r vr r' vc => r' = r ∧ oI n k K vr vc) := by
  obtain ⟨C, W, T, h11⟩ := h.ot
  exact sm_ob h (sm_object m h11 x y)
theorem ob_member (n k m : Nat) (hm : 50000000 ≤ m) {K : Nat × Nat} {ur uc : zMu} (h : oI n k K ur uc) (x y z : Int32) : Rp (rf_member m ur x y z) (ce_E_member m uc x y z) (fun r vr r' vc => r' = r ∧ oI n k K vr vc) := by
  obtain ⟨C, W, T, h11⟩ := h.ot
  exact sm_ob h (sm_member m hm h11 x y z)
theorem ob_worth (n k m : Nat) (hm : 50000000 ≤ m) {K : Nat × Nat} {ur uc : zMu} (h : oI n k K ur uc) (x y : Int32) : Rp (rf_worth m ur x y) (ce_E_worth m uc x y) (fun r vr r' vc => r' = r ∧ oI n k K vr vc) := by
  obtain ⟨C, W, T, h11⟩ := h.ot
  exact sm_ob h (sm_worth m hm h11 x y)
theorem ob_letter (n k m : Nat) (hm : 50000000 ≤ m) {K : Nat × Nat} {ur uc : zMu} (h : oI n k K ur uc) (x y z : Int32) : Rp (rf_letter m ur x y z) (ce_E_letter m uc x y z) (fun r vr r' vc => r' = r ∧ oI n k K vr vc) := by
  have h' := h
  obtain ⟨t, p, q, B, s, C, W, T, h1, h2, h5, h6, h7, h10, h11, h12, h13⟩ := h'
  exact sm_ob h (sm_letter m hm h11 h10 h13.n h12.2.2.2.2.2 x y z)
theorem ob_row (n k m : Nat) {K : Nat × Nat} {ur uc : zMu} (h : oI n k K ur uc) (x y : Int32) : Rp (rf_row m ur x y) (ce_E_row m uc x y) (fun r vr r' vc => r' = r ∧ oI n k K vr vc) := by
  obtain ⟨C, W, T, h11⟩ := h.ot
  exact sm_ob h (sm_row m h11.2.2.2.2.1 x y)
theorem ob_item (n k m : Nat) {K : Nat × Nat} {ur uc : zMu} (h : oI n k K ur uc) (x y : Int32) : Rp (rf_item m ur x y) (ce_E_item m uc x y) (fun r vr r' vc => r' = r ∧ oI n k K vr vc) := by
  obtain ⟨C, W, T, h11⟩ := h.ot
  exact sm_ob h (sm_item m h11.2.2.2.2.1 x y)
theorem ob_shape (n k m : Nat) (hm : 50000000 ≤ m) {K : Nat × Nat} {ur uc : zMu} (h : oI n k K ur uc) (x y : Int32) : Rp (rf_shape m ur x y) (ce_E_shape m uc x y) (fun r vr r' vc => r' = r ∧ oI n k K vr vc) := by
  obtain ⟨C, W, T, h11⟩ := h.ot
  exact sm_ob h (sm_shape m hm h11.2.2.2.1 x y)
theorem ob_site (n k m : Nat) {K : Nat × Nat} {ur uc : zMu} (h : oI n k K ur uc) (x y : Int32) : Rp (rf_site m ur x y) (ce_E_site m uc x y) (fun r vr r' vc => r' = r ∧ oI n k K vr vc) := by
  have h' := h
  obtain ⟨t, p, q, B, s, C, W, T, h1, h2, h5, h6, ⟨h7, h8, h9⟩, h10, h11, h12, h13⟩ := h'
  exact sm_ob h (sm_site m h11 h12 (by omega) h8 x y)
theorem ob_fn (n k m : Nat) {K : Nat × Nat} {ur uc : zMu} (h : oI n k K ur uc) (x y : Int32) : Rp (rf_fn m ur x y) (ce_E_fn m uc x y) (fun r vr r' vc => r' = r ∧ oI n k K vr vc) := by
  have h' := h
  obtain ⟨t, p, q, B, s, C, W, T, h1, h2, h5, h6, ⟨h7, h8, h9⟩, h10, h11, h12, h13⟩ := h'
  exact sm_ob h (sm_fn m h11 h12 (by omega) h8 x y)
theorem ob_count (n k m : Nat) {K : Nat × Nat} {ur uc : zMu} (h : oI n k K ur uc) (x : Int32) : Rp (rf_count m ur x) (ce_E_count m uc x) (fun r vr r' vc => r' = r ∧ oI n k K vr vc) := by
  have h' := h
  obtain ⟨t, p, q, B, s, C, W, T, h1, h2, h5, h6, ⟨h7, h8, h9⟩, h10, h11, h12, h13⟩ := h'
  exact sm_ob h (sm_count m h12 h1 h10 (by omega) h8 x)
