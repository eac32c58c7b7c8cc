/-! THE OBJECT: what it tells -/
theorem zbd_s {ρ σ : Type} {a : ρ} {u : zMu} {F : ρ → zMu → Option (σ × zMu)} : zbd (some (a, u)) F = F a u := rfl
/-- both answer alike, and nothing changes -/
def Sm {ρ : Type} (ur uc : zMu) (X Y : Option (ρ × zMu)) : Prop := ∃ r, X = some (r, ur) ∧ Y = some (r, uc)
theorem sm_e {ρ : Type} {ur uc : zMu} {a b : ρ} (e : b = a) : Sm ur uc (some (a, ur)) (some (b, uc)) := ⟨a, rfl, by rw [e]⟩
theorem sm_of {ρ : Type} {ur uc : zMu} {X Y : Option (ρ × zMu)} {a b : ρ} (e : X = some (a, ur)) (f : Y = some (b, uc)) (q : b = a) : Sm ur uc X Y := ⟨a, e, by rw [f, q]⟩
theorem sm_ob {ρ : Type} {n k : Nat} {K : Nat × Nat} {ur uc : zMu} {X Y : Option (ρ × zMu)} (h : oI n k K ur uc) (q : Sm ur uc X Y) : Rp X Y (fun r vr r' vc => r' = r ∧ oI n k K vr vc) := by
  obtain ⟨r, e, f⟩ := q
  exact rp_eq e f ⟨rfl, h⟩
theorem lt_two {x : Int32} (h0 : ¬ x = 0) (h1 : ¬ x = 1) : x < 0 ∨ 1 < x := by
  by_cases c : x < 0
  · exact Or.inl c
  · obtain ⟨j, hj, rfl⟩ := nI_of c
    refine Or.inr (show nI 1 < nI j from nI_lt ?_ hj)
    have : ¬ j = 0 := fun q => h0 (by rw [q]; rfl)
    have : ¬ j = 1 := fun q => h1 (by rw [q]; rfl)
    omega
theorem ne_neg {x : Int32} (h : x < 0) {j : Nat} (hj : j < 2 ^ 31) : ¬ x = nI j := fun q => nI_pos hj (q ▸ h)
theorem ne_big {j b : Nat} (hj : j < 2 ^ 31) (hb : b < j) : ¬ nI j = nI b := fun q => by
  have := (nI_eq hj (by omega)).mp q
  omega
/-- told -/
theorem rt_other (n : Nat) {u : zMu} {x : Int32} (h : ∀ i, i < 16 → ¬ x = nI i) : rf_told n u x = some (-2, u) := by
  unfold rf_told
  rw [if_neg (show ¬ x = 0 from h 0 (by decide)), if_neg (show ¬ x = 1 from h 1 (by decide)), if_neg (show ¬ x = 2 from h 2 (by decide)), if_neg (show ¬ x = 3 from h 3 (by decide)), if_neg (show ¬ x = 4 from h 4 (by decide)), if_neg (show ¬ x = 5 from h 5 (by decide)), if_neg (show ¬ x = 6 from h 6 (by decide)), if_neg (show ¬ x = 7 from h 7 (by decide)), if_neg (show ¬ x = 8 from h 8 (by decide)), if_neg (show ¬ x = 9 from h 9 (by decide)), if_neg (show ¬ x = 10 from h 10 (by decide)), if_neg (show ¬ x = 11 from h 11 (by decide)), if_neg (show ¬ x = 12 from h 12 (by decide)), if_neg (show ¬ x = 13 from h 13 (by decide)), if_neg (show ¬ x = 14 from h 14 (by decide)), if_neg (show ¬ x = 15 from h 15 (by decide))]
theorem sm_told (n : Nat) {C : kC} {W : kW} {T : Nat} {ur uc : zMu} (h : kOt C W T ur uc) (x : Int32) : Sm ur uc (rf_told n ur x) (ce_E_told n uc x) := by
  obtain ⟨hPp, hOb, hMb, hSh, hRw, hSi, hFn, hCt⟩ := h
  by_cases c : x < 0
  · refine sm_of (rt_other n fun i hi => ne_neg c (by omega)) ?_ rfl
    unfold ce_E_told
    rw [if_pos c]
  · obtain ⟨j, hj, rfl⟩ := nI_of c
    by_cases c2 : 15 < j
    · refine sm_of (rt_other n fun i hi => ne_big hj (by omega)) ?_ rfl
      unfold ce_E_told
      rw [if_neg c, if_pos (show (15 : Int32) < nI j from nI_lt (a := 15) c2 hj)]
    · have : j = 0 ∨ j = 1 ∨ j = 2 ∨ j = 3 ∨ j = 4 ∨ j = 5 ∨ j = 6 ∨ j = 7 ∨ j = 8 ∨ j = 9 ∨ j = 10 ∨ j = 11 ∨ j = 12 ∨ j = 13 ∨ j = 14 ∨ j = 15 := by omega
      rcases this with rfl | rfl | rfl | rfl | rfl | rfl | rfl | rfl | rfl | rfl | rfl | rfl | rfl | rfl | rfl | rfl
      · exact sm_of (a := zI ur 0 53) (b := zI uc 34 18) rfl rfl hCt.2.2.2.2.1
      · exact sm_of (a := zI ur 0 54) (b := zI uc 34 19) rfl rfl hCt.2.2.2.2.2
      · exact sm_of (a := zI ur 0 55) (b := zI uc 34 15) rfl rfl (hCt.2.1.trans hCt.1.symm)
      · exact sm_of (a := zI ur 0 56) (b := zI uc 34 16) rfl rfl hCt.2.2.1
      · exact sm_of (a := zI ur 0 57) (b := zI uc 36 7) rfl rfl (hOb.2.2.1.trans hOb.2.1.symm)
      · exact sm_of (a := zI ur 0 58) (b := zI uc 43 8) rfl rfl (hSh.2.2.1.trans hSh.2.1.symm)
      · exact sm_of (a := zI ur 0 59) (b := zI uc 45 5) rfl rfl (hRw.2.2.1.trans hRw.2.1.symm)
      · exact sm_of (a := zI ur 0 60) (b := zI uc 34 5) rfl rfl (hPp.2.2.1.trans hPp.2.1.symm)
      · exact sm_of (a := zI ur 0 61) (b := zI uc 36 8) rfl rfl hSh.2.2.2.1
      · exact sm_of (a := zI ur 0 62) (b := zI uc 49 9) rfl rfl hSi.1
      · exact sm_of (a := zI ur 0 63) (b := zI uc 49 10) rfl rfl hSi.2.1
      · exact sm_of (a := zI ur 0 64) (b := zI uc 49 11) rfl rfl hSi.2.2.1
      · exact sm_of (a := zI ur 0 65) (b := zI uc 59 6) rfl rfl hFn.1
      · exact sm_of (a := zI ur 0 66) (b := zI uc 59 7) rfl rfl hFn.2.1
      · exact sm_of (a := zI ur 0 67) (b := zI uc 45 6) rfl rfl hRw.2.2.2.1
      · exact sm_of (a := zI ur 0 68) (b := zI uc 34 12) rfl rfl hCt.2.2.2.1
theorem oI.ot {n k : Nat} {K : Nat × Nat} {ur uc : zMu} (h : oI n k K ur uc) : ∃ C W T, kOt C W T ur uc := by
  obtain ⟨t, p, q, B, s, C, W, T, h1, h2, h5, h6, h7, h10, h11, h12, h13⟩ := h
  exact ⟨C, W, T, h11⟩
theorem ob_told (n k m : Nat) {K : Nat × Nat} {ur uc : zMu} (h : oI n k K ur uc) (x : Int32) : Rp (rf_told m ur x) (ce_E_told m uc x) (fun r vr r' vc => r' = r ∧ oI n k K vr vc) := by
  obtain ⟨C, W, T, h11⟩ := h.ot
  exact sm_ob h (sm_told m h11 x)
/-! values -/
theorem r_sortOf (n : Nat) {u : zMu} {nO nR : Nat} {sr sc : Int32} {xr xc : Int64} (h : vR nO nR sr xr sc xc) : rf_sortOf n u sr xr = some (sc, u) := by
  unfold rf_sortOf
  rcases h with ⟨rfl, rfl, -⟩ | ⟨rfl, -, ⟨⟨a, b⟩, rfl⟩ | ⟨a, rfl⟩⟩ | ⟨rfl, rfl, -⟩ | ⟨rfl, rfl, -⟩
  · rfl
  · rw [if_neg (by decide), if_pos (by decide)]
    unfold rf_isWhole
    rw [if_neg a, if_neg b]
    rfl
  · rw [if_neg (by decide), if_pos (by decide)]
    unfold rf_isWhole
    by_cases c : lg_cmp xr (-1073741824) < 0
    · rw [if_pos c]; rfl
    · rw [if_neg c]
      by_cases d : 0 < lg_cmp xr 1073741823
      · rw [if_pos d]; rfl
      · exact absurd ⟨c, d⟩ a
  · rfl
  · rfl
theorem v_refAt (n : Nat) {v m : Nat} {u : zMu} (h : pVw v m u) {j : Nat} (hj : j < 2 ^ 31) {nO nR : Nat} {sr : Int32} {xr : Int64} (q : vR nO nR sr xr (vS v u j) (vX v u j)) : ce_V_referenceAt n v u (nI j) = some (if sr < 2 then 0 else xr.toInt32, u) := by
  unfold ce_V_referenceAt
  rw [zbd_e (v_isNumberAt n h hj)]
  rcases q with ⟨a, b, c⟩ | ⟨a, c, ⟨-, b⟩ | ⟨-, b⟩⟩ | ⟨a, b, c, -⟩ | ⟨a, b, c, -⟩
  · rw [b, a, if_pos (by decide), zbd_e (v_numberAt n h hj), c]; rfl
  · rw [b, a, if_neg (by decide)]; rfl
  · rw [b, a, if_neg (by decide)]; rfl
  · rw [b, a, if_pos (by decide), zbd_e (v_numberAt n h hj), c]; rfl
  · rw [b, a, if_pos (by decide), zbd_e (v_numberAt n h hj), c]; rfl
theorem v_worthAt (n : Nat) {v m : Nat} {u : zMu} (h : pVw v m u) {j : Nat} (hj : j < 2 ^ 31) {nO nR : Nat} {sr : Int32} {xr : Int64} (q : vR nO nR sr xr (vS v u j) (vX v u j)) : ce_V_worthAt n v u (nI j) = some (if sr = 1 then xr else 0, u) := by
  unfold ce_V_worthAt
  rw [zbd_e (v_isNumberAt n h hj)]
  rcases q with ⟨a, b, c⟩ | ⟨a, c, ⟨-, b⟩ | ⟨-, b⟩⟩ | ⟨a, b, c, -⟩ | ⟨a, b, c, -⟩
  · rw [b, a, if_pos (by decide)]; rfl
  · rw [b, a, if_neg (by decide), zbd_e (v_numberAt n h hj), c]; rfl
  · rw [b, a, if_neg (by decide), zbd_e (v_numberAt n h hj), c]; rfl
  · rw [b, a, if_pos (by decide)]; rfl
  · rw [b, a, if_pos (by decide)]; rfl
/-! paper, printed -/
theorem c_kept (n : Nat) {u : zMu} {P : Nat} (hP : P < 2 ^ 31) (h : zI u 34 5 = nI P) : ce_M_keptOnPaper n u = some (nI (if 200 < P then 200 else P), u) := by
  unfold ce_M_keptOnPaper
  rw [h]
  simp only [zlet]
  by_cases c : 200 < P
  · rw [if_pos c, if_pos (show (200 : Int32) < nI P from nI_lt (a := 200) c hP)]; rfl
  · rw [if_neg c, if_neg (show ¬ (200 : Int32) < nI P from nI_nlt (a := 200) (by omega) (by decide))]
theorem r_isPrinted (n : Nat) {u : zMu} {P j : Nat} (hP : P < 2 ^ 31) (hj : j < 2 ^ 31) (h : zI u 0 60 = nI P) : rf_isPrinted n u (nI j) = some (if j < (if 200 < P then 200 else P) then 1 else 0, u) := by
  unfold rf_isPrinted
  rw [if_neg (nI_pos hj), h]
  by_cases c : j < P
  · rw [if_pos (nI_lt c hP)]
    by_cases d : j < 200
    · rw [if_pos (show nI j < 200 from nI_lt (b := 200) d (by decide)), if_pos]
      by_cases e : 200 < P
      · rw [if_pos e]; exact d
      · rw [if_neg e]; exact c
    · rw [if_neg (show ¬ nI j < 200 from nI_nlt (b := 200) (by omega) hj), if_neg]
      rw [if_pos (show 200 < P by omega)]; exact d
  · rw [if_neg (nI_nlt (by omega) hj), if_neg]
    by_cases e : 200 < P
    · rw [if_pos e]; omega
    · rw [if_neg e]; exact c
theorem sm_paper1 (n : Nat) {W : kW} {ur uc : zMu} (h : kPp W ur uc) (x y : Int32) (hy : y = 0 ∨ y = 1) : Sm ur uc (rf_paper_J12 n ur x y) (ce_E_paper n uc x y) := by
  obtain ⟨h0, h1, h2, h4, h5⟩ := h
  have e1 : ¬ y < 0 := by rcases hy with rfl | rfl <;> decide
  have e2 : ¬ 1 < y := by rcases hy with rfl | rfl <;> decide
  unfold rf_paper_J12 ce_E_paper
  rw [if_neg e1, if_neg e2]
  by_cases c : x < 0
  · rw [if_pos c]
    unfold rf_isPrinted
    rw [if_pos c]
    exact sm_of (a := -1) rfl rfl rfl
  · rw [if_neg c]
    obtain ⟨j, hj, rfl⟩ := nI_of c
    rw [zbd_e (r_isPrinted n (by omega) hj h1), zbd_e (c_kept n (by omega) h2)]
    by_cases d : j < (if 200 < wP W then 200 else wP W)
    · have d1 : j < 200 ∧ j < wP W := by
        by_cases e : 200 < wP W
        · rw [if_pos e] at d; omega
        · rw [if_neg e] at d; omega
      have v := h5 j d1.2 d1.1
      rw [if_pos d, if_neg (by decide), if_pos (nI_lt d (by split <;> omega)), zin_nI d1.1 (by decide), zx_nI hj]
      simp only [zgd_t]
      rcases hy with rfl | rfl
      · rw [if_pos rfl, if_pos rfl, zbd_e (r_sortOf n v), zbd_e (v_sortAt n h4 hj)]
        exact sm_e rfl
      · rw [if_neg (show ¬ (1 : Int32) = 0 by decide), if_neg (show ¬ (1 : Int32) = 0 by decide), zbd_e (v_refAt n h4 hj v)]
        by_cases e : zI ur 33 j < 2
        · rw [if_pos e, if_pos e]; exact sm_e rfl
        · rw [if_neg e, if_neg e]; exact sm_e rfl
    · rw [if_neg d, if_pos rfl, if_neg (nI_nlt (by omega) hj)]
      exact sm_e rfl
theorem sm_paper (n : Nat) {W : kW} {ur uc : zMu} (h : kPp W ur uc) (x y : Int32) : Sm ur uc (rf_paper n ur x y) (ce_E_paper n uc x y) := by
  unfold rf_paper
  by_cases c0 : y = 0
  · rw [if_pos c0]; exact sm_paper1 n h x y (Or.inl c0)
  · rw [if_neg c0]
    by_cases c1 : y = 1
    · rw [if_pos c1]; exact sm_paper1 n h x y (Or.inr c1)
    · rw [if_neg c1]
      unfold ce_E_paper
      rcases lt_two c0 c1 with e | e
      · rw [if_pos e]; exact sm_e rfl
      · rw [if_neg (fun q => absurd (Int32.lt_trans q (Int32.lt_trans (show (0 : Int32) < 1 by decide) e)) (Int32.lt_irrefl)), if_pos e]; exact sm_e rfl
theorem sm_printed (n : Nat) {W : kW} {ur uc : zMu} (h : kPp W ur uc) (x : Int32) : Sm ur uc (rf_printed n ur x) (ce_E_printed n uc x) := by
  obtain ⟨h0, h1, h2, h4, h5⟩ := h
  unfold rf_printed ce_E_printed
  by_cases c : x < 0
  · rw [if_pos c]
    unfold rf_isPrinted
    rw [if_pos c]
    exact sm_of (a := 0) rfl rfl rfl
  · rw [if_neg c]
    obtain ⟨j, hj, rfl⟩ := nI_of c
    rw [zbd_e (r_isPrinted n (by omega) hj h1), zbd_e (c_kept n (by omega) h2)]
    by_cases d : j < (if 200 < wP W then 200 else wP W)
    · have d1 : j < 200 ∧ j < wP W := by
        by_cases e : 200 < wP W
        · rw [if_pos e] at d; omega
        · rw [if_neg e] at d; omega
      have v := h5 j d1.2 d1.1
      rw [if_pos d, if_neg (by decide), if_pos (nI_lt d (by split <;> omega)), zin_nI d1.1 (by decide), zx_nI hj]
      simp only [zgd_t]
      rw [zbd_e (v_worthAt n h4 hj v)]
      by_cases e : zI ur 33 j = 1
      · rw [if_pos e, if_pos e]; exact sm_e rfl
      · rw [if_neg e, if_neg e]; exact sm_e rfl
    · rw [if_neg d, if_pos rfl, if_neg (nI_nlt (by omega) hj)]
      exact sm_e rfl
theorem ob_paper (n k m : Nat) {K : Nat × Nat} {ur uc : zMu} (h : oI n k K ur uc) (x y : Int32) : Rp (rf_paper m ur x y) (ce_E_paper m uc x y) (fun r vr r' vc => r' = r ∧ oI n k K vr vc) := by
  obtain ⟨C, W, T, h11⟩ := h.ot
  exact sm_ob h (sm_paper m h11.1 x y)
theorem ob_printed (n k m : Nat) {K : Nat × Nat} {ur uc : zMu} (h : oI n k K ur uc) (x : Int32) : Rp (rf_printed m ur x) (ce_E_printed m uc x) (fun r vr r' vc => r' = r ∧ oI n k K vr vc) := by
  obtain ⟨C, W, T, h11⟩ := h.ot
  exact sm_ob h (sm_printed m h11.1 x)
