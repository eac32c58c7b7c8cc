/-! RUNNING: how a run begins: what is cleared -/
theorem c_fillL (n c : Nat) {L : Nat} (hL : L < 2 ^ 31) (x : Int32) : ∀ d i m u, i + d = L → d < m → zlen ce_tb u c = L → ∃ v, ce_fill_L5 n c m u x (nI i) (nI L) = some ((), v) ∧ pFr (fun a _ => a = c) u v ∧ (∀ j, j < i → zI v c j = zI u c j) ∧ (∀ j, i ≤ j → j < L → zI v c j = x) := by
  intro d
  induction d with
  | zero =>
    intro i m u hi hm hz
    obtain ⟨m, rfl⟩ : ∃ k, m = k + 1 := ⟨m - 1, by omega⟩
    refine ⟨u, ?_, pFr_rf, fun _ _ => rfl, fun j a b => absurd b (by omega)⟩
    unfold ce_fill_L5
    rw [if_neg (nI_nlt (by omega) (by omega))]
  | succ d ih =>
    intro i m u hi hm hz
    obtain ⟨m, rfl⟩ : ∃ k, m = k + 1 := ⟨m - 1, by omega⟩
    obtain ⟨v, e, f, g0, g⟩ := ih (i + 1) m (zsI u c i x) (by omega) (by omega) hz
    refine ⟨v, ?_, pFr_tr (pFr_set rfl) f, fun j hj => ?_, fun j a b => ?_⟩
    · unfold ce_fill_L5
      rw [if_pos (nI_lt (by omega) (by omega)), hz, zin_nI (show i < L by omega) hL, zgd_t]
      show zlet (zsI u c (zx (nI i)) x) (fun u2 => zlet (nI i + 1) fun v3 => ce_fill_L5 n c m u2 x v3 (nI L)) = _
      rw [zx_nI (show i < 2 ^ 31 by omega), nI_1]
      exact e
    · rw [g0 j (by omega), gI_sI, if_neg (by omega)]
    · by_cases z : j = i
      · subst z
        rw [g0 j (by omega), gI_sI, if_pos ⟨rfl, rfl⟩]
      · exact g j (by omega) b
theorem c_fill (n c : Nat) {L : Nat} (hn : L < n) (hL : L < 2 ^ 31) (x : Int32) (u : zMu) (hz : zlen ce_tb u c = L) : ∃ v, ce_fill n c u x = some ((), v) ∧ pFr (fun a _ => a = c) u v ∧ ∀ j, j < L → zI v c j = x := by
  obtain ⟨v, e, f, -, g⟩ := c_fillL n c hL x L 0 n u (by omega) hn hz
  refine ⟨v, ?_, f, fun j hj => g j (by omega) hj⟩
  unfold ce_fill
  rw [hz]
  exact e
theorem c_Tclear (n : Nat) (hn : 20000 ≤ n) (u : zMu) : ∃ v, ce_T_clear n u = some ((), v) ∧ pFr (fun a _ => 49 ≤ a ∧ a ≤ 58) u v ∧ (∀ a j, a = 50 ∨ a = 51 ∨ a = 52 ∨ a = 53 ∨ a = 54 ∨ a = 58 → j < 80 → zI v a j = 0) ∧ (zI v 49 9 = 0 ∧ zI v 49 10 = 0 ∧ zI v 49 11 = 0) := by
  obtain ⟨u1, e1, f1, g1⟩ := c_fill n 50 (L := 80) (by omega) (by decide) 0 u rfl
  obtain ⟨u2, e2, f2, g2⟩ := c_fill n 51 (L := 80) (by omega) (by decide) 0 u1 rfl
  obtain ⟨u3, e3, f3, g3⟩ := c_fill n 52 (L := 80) (by omega) (by decide) 0 u2 rfl
  obtain ⟨u4, e4, f4, g4⟩ := c_fill n 53 (L := 80) (by omega) (by decide) 0 u3 rfl
  obtain ⟨u5, e5, f5, g5⟩ := c_fill n 54 (L := 80) (by omega) (by decide) 0 u4 rfl
  obtain ⟨u6, e6, f6, g6⟩ := c_fill n 58 (L := 80) (by omega) (by decide) 0 u5 rfl
  refine ⟨zsI (zsI (zsI u6 49 9 0) 49 10 0) 49 11 0, ?_, ⟨fun a j q => ?_, ?_⟩, fun a j q hj => ?_, ?_⟩
  · unfold ce_T_clear
    rw [zbd_e e1, zbd_e e2, zbd_e e3, zbd_e e4, zbd_e e5, zbd_e e6]
    rfl
  · rw [gI_sI, if_neg (by omega), gI_sI, if_neg (by omega), gI_sI, if_neg (by omega), f6.1 a j (by omega), f5.1 a j (by omega), f4.1 a j (by omega), f3.1 a j (by omega), f2.1 a j (by omega), f1.1 a j (by omega)]
  · exact f6.2.trans (f5.2.trans (f4.2.trans (f3.2.trans (f2.2.trans f1.2))))
  · rw [gI_sI, if_neg (by omega), gI_sI, if_neg (by omega), gI_sI, if_neg (by omega)]
    rcases q with rfl | rfl | rfl | rfl | rfl | rfl
    · rw [f6.1 _ j (by omega), f5.1 _ j (by omega), f4.1 _ j (by omega), f3.1 _ j (by omega), f2.1 _ j (by omega)]; exact g1 j hj
    · rw [f6.1 _ j (by omega), f5.1 _ j (by omega), f4.1 _ j (by omega), f3.1 _ j (by omega)]; exact g2 j hj
    · rw [f6.1 _ j (by omega), f5.1 _ j (by omega), f4.1 _ j (by omega)]; exact g3 j hj
    · rw [f6.1 _ j (by omega), f5.1 _ j (by omega)]; exact g4 j hj
    · rw [f6.1 _ j (by omega)]; exact g5 j hj
    · exact g6 j hj
  · refine ⟨?_, ?_, ?_⟩ <;> simp [gI_sI]
theorem c_Fclear (n : Nat) (hn : 20000 ≤ n) (u : zMu) : ∃ v, ce_F_clear n u = some ((), v) ∧ pFr (fun a _ => 59 ≤ a ∧ a ≤ 65) u v ∧ (∀ a j, 60 ≤ a → a ≤ 64 → j < 8 → zI v a j = 0) ∧ (∀ j, j < 8 → zI v 65 j = -1) ∧ (zI v 59 6 = 0 ∧ zI v 59 7 = 0) := by
  obtain ⟨u1, e1, f1, g1⟩ := c_fill n 60 (L := 8) (by omega) (by decide) 0 u rfl
  obtain ⟨u2, e2, f2, g2⟩ := c_fill n 61 (L := 8) (by omega) (by decide) 0 u1 rfl
  obtain ⟨u3, e3, f3, g3⟩ := c_fill n 62 (L := 8) (by omega) (by decide) 0 u2 rfl
  obtain ⟨u4, e4, f4, g4⟩ := c_fill n 63 (L := 8) (by omega) (by decide) 0 u3 rfl
  obtain ⟨u5, e5, f5, g5⟩ := c_fill n 64 (L := 8) (by omega) (by decide) 0 u4 rfl
  obtain ⟨u6, e6, f6, g6⟩ := c_fill n 65 (L := 8) (by omega) (by decide) (-1) u5 rfl
  refine ⟨zsI (zsI u6 59 6 0) 59 7 0, ?_, ⟨fun a j q => ?_, ?_⟩, fun a j q q2 hj => ?_, fun j hj => ?_, ?_⟩
  · unfold ce_F_clear
    rw [zbd_e e1, zbd_e e2, zbd_e e3, zbd_e e4, zbd_e e5, zbd_e e6]
    rfl
  · rw [gI_sI, if_neg (by omega), gI_sI, if_neg (by omega), f6.1 a j (by omega), f5.1 a j (by omega), f4.1 a j (by omega), f3.1 a j (by omega), f2.1 a j (by omega), f1.1 a j (by omega)]
  · exact f6.2.trans (f5.2.trans (f4.2.trans (f3.2.trans (f2.2.trans f1.2))))
  · rw [gI_sI, if_neg (by omega), gI_sI, if_neg (by omega)]
    have q : a = 60 ∨ a = 61 ∨ a = 62 ∨ a = 63 ∨ a = 64 := by omega
    rcases q with rfl | rfl | rfl | rfl | rfl
    · rw [f6.1 _ j (by omega), f5.1 _ j (by omega), f4.1 _ j (by omega), f3.1 _ j (by omega), f2.1 _ j (by omega)]; exact g1 j hj
    · rw [f6.1 _ j (by omega), f5.1 _ j (by omega), f4.1 _ j (by omega), f3.1 _ j (by omega)]; exact g2 j hj
    · rw [f6.1 _ j (by omega), f5.1 _ j (by omega), f4.1 _ j (by omega)]; exact g3 j hj
    · rw [f6.1 _ j (by omega), f5.1 _ j (by omega)]; exact g4 j hj
    · rw [f6.1 _ j (by omega)]; exact g5 j hj
  · rw [gI_sI, if_neg (by omega), gI_sI, if_neg (by omega)]; exact g6 j hj
  · refine ⟨?_, ?_⟩ <;> simp [gI_sI]
theorem c_Hclear (n : Nat) (hn : 20000 ≤ n) (u : zMu) : ∃ v, ce_H_clear n u = some ((), v) ∧ pFr (fun a j => (a = 36 ∧ (j = 7 ∨ j = 8 ∨ j = 12 ∨ j = 13)) ∨ a = 43 ∨ a = 44) u v ∧ (∀ j, j < 201 → zI v 44 j = -1) ∧ (zI v 43 8 = 0 ∧ zI v 36 7 = 0 ∧ zI v 36 8 = 0 ∧ zI v 36 12 = 0 ∧ zI v 36 13 = -1) := by
  obtain ⟨u1, e1, f1, g1⟩ := c_fill n 44 (L := 201) (by omega) (by decide) (-1) u rfl
  refine ⟨zsI (zsI (zsI (zsI (zsI u1 43 8 0) 36 7 0) 36 8 0) 36 12 0) 36 13 (-1), ?_, ⟨fun a j q => ?_, f1.2⟩, fun j hj => ?_, ?_⟩
  · have es : ce_S_clear n u = some ((), zsI u1 43 8 0) := by
      unfold ce_S_clear
      rw [zbd_e e1]
      rfl
    unfold ce_H_clear
    rw [zbd_e es]
    rfl
  · rw [gI_sI, if_neg (by omega), gI_sI, if_neg (by omega), gI_sI, if_neg (by omega), gI_sI, if_neg (by omega), gI_sI, if_neg (by omega), f1.1 a j (by omega)]
  · rw [gI_sI, if_neg (by omega), gI_sI, if_neg (by omega), gI_sI, if_neg (by omega), gI_sI, if_neg (by omega), gI_sI, if_neg (by omega)]; exact g1 j hj
  · refine ⟨?_, ?_, ?_, ?_, ?_⟩ <;> simp [gI_sI]
/-- what load leaves -/
def kLd (w : zMu) : Prop := (∀ j, j < 201 → zI w 44 j = -1) ∧ (zI w 43 8 = 0 ∧ zI w 36 7 = 0 ∧ zI w 36 8 = 0 ∧ zI w 36 12 = 0 ∧ zI w 36 13 = -1) ∧ (∀ a j, a = 50 ∨ a = 51 ∨ a = 52 ∨ a = 53 ∨ a = 54 ∨ a = 58 → j < 80 → zI w a j = 0) ∧ (zI w 49 9 = 0 ∧ zI w 49 10 = 0 ∧ zI w 49 11 = 0) ∧ (∀ a j, 60 ≤ a → a ≤ 64 → j < 8 → zI w a j = 0) ∧ (∀ j, j < 8 → zI w 65 j = -1) ∧ (zI w 59 6 = 0 ∧ zI w 59 7 = 0) ∧ (zI w 45 4 = 0 ∧ zI w 45 5 = 0 ∧ zI w 45 6 = 0) ∧ (∀ j, j = 5 ∨ j = 8 ∨ j = 11 ∨ j = 12 ∨ j = 15 ∨ j = 16 ∨ j = 18 → zI w 34 j = 0) ∧ zI w 34 19 = -1
def kLf (a j : Nat) : Prop := (a = 36 ∧ (j = 7 ∨ j = 8 ∨ j = 12 ∨ j = 13)) ∨ a = 43 ∨ a = 44 ∨ (49 ≤ a ∧ a ≤ 65) ∨ (a = 45 ∧ 4 ≤ j ∧ j ≤ 6) ∨ (a = 34 ∧ (j = 5 ∨ j = 8 ∨ j = 11 ∨ j = 12 ∨ j = 15 ∨ j = 16 ∨ j = 18 ∨ j = 19))
theorem c_load (n p : Nat) (hn : 20000 ≤ n) (u : zMu) : ∃ v, ce_M_load n p u = some ((), v) ∧ pFr kLf (zsR u 34 6 p) v ∧ kLd v := by
  obtain ⟨u3, e3, f3, g3, g3'⟩ := c_Hclear n hn (zsR u 34 6 p)
  have e5 : ce_R_clear n u3 = some ((), zsI (zsI (zsI u3 45 4 0) 45 5 0) 45 6 0) := rfl
  obtain ⟨u5, hu5⟩ : ∃ u5, zsI (zsI (zsI u3 45 4 0) 45 5 0) 45 6 0 = u5 := ⟨_, rfl⟩
  rw [hu5] at e5
  have f5 : pFr (fun a j => a = 45 ∧ 4 ≤ j ∧ j ≤ 6) u3 u5 := by
    subst hu5
    refine ⟨fun a j q => ?_, rfl⟩
    rw [gI_sI, if_neg (by omega), gI_sI, if_neg (by omega), gI_sI, if_neg (by omega)]
  have g5 : zI u5 45 4 = 0 ∧ zI u5 45 5 = 0 ∧ zI u5 45 6 = 0 := by
    subst hu5
    refine ⟨?_, ?_, ?_⟩ <;> simp [gI_sI]
  obtain ⟨u7, e7, f7, g7, g7'⟩ := c_Tclear n hn u5
  obtain ⟨u9, e9, f9, g9, g9', g9''⟩ := c_Fclear n hn u7
  obtain ⟨v, hv⟩ : ∃ v, zsI (zsI (zsI (zsI (zsI (zsI (zsI (zsI u9 34 5 0) 34 8 0) 34 11 0) 34 12 0) 34 15 0) 34 16 0) 34 18 0) 34 19 (-1) = v := ⟨_, rfl⟩
  have fv : pFr (fun a j => a = 34 ∧ (j = 5 ∨ j = 8 ∨ j = 11 ∨ j = 12 ∨ j = 15 ∨ j = 16 ∨ j = 18 ∨ j = 19)) u9 v := by
    subst hv
    refine ⟨fun a j q => ?_, rfl⟩
    rw [gI_sI, if_neg (by omega), gI_sI, if_neg (by omega), gI_sI, if_neg (by omega), gI_sI, if_neg (by omega), gI_sI, if_neg (by omega), gI_sI, if_neg (by omega), gI_sI, if_neg (by omega), gI_sI, if_neg (by omega)]
  have gv : (∀ j, j = 5 ∨ j = 8 ∨ j = 11 ∨ j = 12 ∨ j = 15 ∨ j = 16 ∨ j = 18 → zI v 34 j = 0) ∧ zI v 34 19 = -1 := by
    subst hv
    refine ⟨fun j q => ?_, ?_⟩
    · rcases q with rfl | rfl | rfl | rfl | rfl | rfl | rfl <;> simp [gI_sI]
    · simp [gI_sI]
  refine ⟨v, ?_, ⟨fun a j q => ?_, ?_⟩, ?_, ?_, ?_, ?_, ?_, ?_, ?_, ?_, gv⟩
  · unfold ce_M_load
    show zbd (ce_H_clear n (zsR u 34 6 p)) _ = _
    rw [zbd_e e3, zbd_e e5, zbd_e e7, zbd_e e9, ← hv]
    rfl
  · unfold kLf at q
    rw [fv.1 a j (by omega), f9.1 a j (by omega), f7.1 a j (by omega), f5.1 a j (by omega), f3.1 a j (by omega)]
  · exact fv.2.trans (f9.2.trans (f7.2.trans (f5.2.trans f3.2)))
  · intro j hj
    rw [fv.1 44 j (by omega), f9.1 44 j (by omega), f7.1 44 j (by omega), f5.1 44 j (by omega)]; exact g3 j hj
  · refine ⟨?_, ?_, ?_, ?_, ?_⟩
    · rw [fv.1 43 8 (by omega), f9.1 43 8 (by omega), f7.1 43 8 (by omega), f5.1 43 8 (by omega)]; exact g3'.1
    · rw [fv.1 36 7 (by omega), f9.1 36 7 (by omega), f7.1 36 7 (by omega), f5.1 36 7 (by omega)]; exact g3'.2.1
    · rw [fv.1 36 8 (by omega), f9.1 36 8 (by omega), f7.1 36 8 (by omega), f5.1 36 8 (by omega)]; exact g3'.2.2.1
    · rw [fv.1 36 12 (by omega), f9.1 36 12 (by omega), f7.1 36 12 (by omega), f5.1 36 12 (by omega)]; exact g3'.2.2.2.1
    · rw [fv.1 36 13 (by omega), f9.1 36 13 (by omega), f7.1 36 13 (by omega), f5.1 36 13 (by omega)]; exact g3'.2.2.2.2
  · intro a j q hj
    rw [fv.1 a j (by omega), f9.1 a j (by omega)]; exact g7 a j q hj
  · refine ⟨?_, ?_, ?_⟩
    · rw [fv.1 49 9 (by omega), f9.1 49 9 (by omega)]; exact g7'.1
    · rw [fv.1 49 10 (by omega), f9.1 49 10 (by omega)]; exact g7'.2.1
    · rw [fv.1 49 11 (by omega), f9.1 49 11 (by omega)]; exact g7'.2.2
  · intro a j q1 q2 hj
    rw [fv.1 a j (by omega)]; exact g9 a j q1 q2 hj
  · intro j hj
    rw [fv.1 65 j (by omega)]; exact g9' j hj
  · rw [fv.1 59 6 (by omega), fv.1 59 7 (by omega)]; exact g9''
  · rw [fv.1 45 4 (by omega), fv.1 45 5 (by omega), fv.1 45 6 (by omega), f9.1 45 4 (by omega), f9.1 45 5 (by omega), f9.1 45 6 (by omega), f7.1 45 4 (by omega), f7.1 45 5 (by omega), f7.1 45 6 (by omega)]; exact g5
/-- the reference -/
theorem r_an146 (n : Nat) : ∀ d i m u, i + d = 9 → d < m → ∃ v, rf_anew_L146 n m u (nI i) = some ((), v) ∧ pFr (fun a j => 61 ≤ a ∧ a ≤ 67 ∧ i ≤ j) u v ∧ (∀ a j, 61 ≤ a → a ≤ 67 → i ≤ j → j < 9 → zI v a j = if a = 65 then -1 else 0) := by
  intro d
  induction d with
  | zero =>
    intro i m u hi hm
    obtain ⟨m, rfl⟩ : ∃ k, m = k + 1 := ⟨m - 1, by omega⟩
    refine ⟨u, ?_, pFr_rf, fun a j _ _ x y => absurd y (by omega)⟩
    unfold rf_anew_L146
    rw [if_neg (show ¬ nI i < (9 : Int32) from nI_nlt (b := 9) (by omega) (by omega))]
  | succ d ih =>
    intro i m u hi hm
    obtain ⟨m, rfl⟩ : ∃ k, m = k + 1 := ⟨m - 1, by omega⟩
    obtain ⟨w, hw⟩ : ∃ w, zsI (zsI (zsI (zsI (zsI (zsI (zsI u 61 i 0) 62 i 0) 63 i 0) 64 i 0) 65 i (-1)) 66 i 0) 67 i 0 = w := ⟨_, rfl⟩
    have fw : pFr (fun a j => 61 ≤ a ∧ a ≤ 67 ∧ j = i) u w := by
      subst hw
      refine ⟨fun a j q => ?_, rfl⟩
      rw [gI_sI, if_neg (by omega), gI_sI, if_neg (by omega), gI_sI, if_neg (by omega), gI_sI, if_neg (by omega), gI_sI, if_neg (by omega), gI_sI, if_neg (by omega), gI_sI, if_neg (by omega)]
    have gw : ∀ a, 61 ≤ a → a ≤ 67 → zI w a i = if a = 65 then -1 else 0 := by
      intro a x y
      subst hw
      have q : a = 61 ∨ a = 62 ∨ a = 63 ∨ a = 64 ∨ a = 65 ∨ a = 66 ∨ a = 67 := by omega
      rcases q with rfl | rfl | rfl | rfl | rfl | rfl | rfl <;> simp [gI_sI]
    obtain ⟨v, e, f, g⟩ := ih (i + 1) m w (by omega) (by omega)
    refine ⟨v, ?_, ⟨fun a j q => ?_, f.2.trans fw.2⟩, fun a j x y z zz => ?_⟩
    · unfold rf_anew_L146
      rw [if_pos (show nI i < (9 : Int32) from nI_lt (b := 9) (by omega) (by decide)), zin_nI (show i < 9 by omega) (by decide), zx_nI (show i < 2 ^ 31 by omega)]
      simp only [zgd_t, zlet]
      rw [show vp_nar .boolean 0 = 0 from rfl, hw, nI_1]
      exact e
    · rw [f.1 a j (by omega), fw.1 a j (by omega)]
    · by_cases h : j = i
      · subst h
        rw [f.1 a j (by omega)]
        exact gw a x y
      · exact g a j x y (by omega) zz
theorem r_an97 (n : Nat) (hn : 20000 ≤ n) : ∀ d i m u, i + d = 81 → d < m → ∃ v, rf_anew_L97 n m u (nI i) = some ((), v) ∧ pFr (fun a j => (61 ≤ a ∧ a ≤ 67) ∨ ((a = 52 ∨ a = 53 ∨ a = 54 ∨ a = 58 ∨ a = 59) ∧ i ≤ j)) u v ∧ (∀ a j, a = 52 ∨ a = 53 ∨ a = 54 ∨ a = 58 ∨ a = 59 → i ≤ j → j < 81 → zI v a j = 0) ∧ (∀ a j, 61 ≤ a → a ≤ 67 → j < 9 → zI v a j = if a = 65 then -1 else 0) := by
  intro d
  induction d with
  | zero =>
    intro i m u hi hm
    obtain ⟨m, rfl⟩ : ∃ k, m = k + 1 := ⟨m - 1, by omega⟩
    obtain ⟨v, e, f, g⟩ := r_an146 n 9 0 n u (by omega) (by omega)
    refine ⟨v, ?_, ⟨fun a j q => f.1 a j (by omega), f.2⟩, fun a j _ x y => absurd y (by omega), fun a j x y z => g a j x y (by omega) z⟩
    unfold rf_anew_L97
    rw [if_neg (show ¬ nI i < (81 : Int32) from nI_nlt (b := 81) (by omega) (by omega))]
    exact e
  | succ d ih =>
    intro i m u hi hm
    obtain ⟨m, rfl⟩ : ∃ k, m = k + 1 := ⟨m - 1, by omega⟩
    obtain ⟨w, hw⟩ : ∃ w, zsI (zsI (zsI (zsI (zsI u 52 i 0) 53 i 0) 54 i 0) 58 i 0) 59 i 0 = w := ⟨_, rfl⟩
    have fw : pFr (fun a j => (a = 52 ∨ a = 53 ∨ a = 54 ∨ a = 58 ∨ a = 59) ∧ j = i) u w := by
      subst hw
      refine ⟨fun a j q => ?_, rfl⟩
      rw [gI_sI, if_neg (by omega), gI_sI, if_neg (by omega), gI_sI, if_neg (by omega), gI_sI, if_neg (by omega), gI_sI, if_neg (by omega)]
    have gw : ∀ a, a = 52 ∨ a = 53 ∨ a = 54 ∨ a = 58 ∨ a = 59 → zI w a i = 0 := by
      intro a q
      subst hw
      rcases q with rfl | rfl | rfl | rfl | rfl <;> simp [gI_sI]
    obtain ⟨v, e, f, g, g'⟩ := ih (i + 1) m w (by omega) (by omega)
    refine ⟨v, ?_, ⟨fun a j q => ?_, f.2.trans fw.2⟩, fun a j x z zz => ?_, g'⟩
    · unfold rf_anew_L97
      rw [if_pos (show nI i < (81 : Int32) from nI_lt (b := 81) (by omega) (by decide)), zin_nI (show i < 81 by omega) (by decide), zx_nI (show i < 2 ^ 31 by omega)]
      simp only [zgd_t, zlet]
      rw [show vp_nar .boolean 0 = 0 from rfl, hw, nI_1]
      exact e
    · rw [f.1 a j (by omega), fw.1 a j (by omega)]
    · by_cases h : j = i
      · subst h
        rw [f.1 a j (by omega)]
        exact gw a x
      · exact g a j x (by omega) zz
/-- what anew leaves -/
def kAn0 (w : zMu) : Prop := (∀ j, (51 ≤ j ∧ j ≤ 68) ∨ j = 80 → zI w 0 j = if j = 54 then -1 else 0) ∧ (∀ a j, a = 52 ∨ a = 53 ∨ a = 54 ∨ a = 58 ∨ a = 59 → j < 81 → zI w a j = 0) ∧ (∀ a j, 61 ≤ a → a ≤ 67 → j < 9 → zI w a j = if a = 65 then -1 else 0)
def kAf (a j : Nat) : Prop := (a = 0 ∧ ((51 ≤ j ∧ j ≤ 68) ∨ j = 80)) ∨ (61 ≤ a ∧ a ≤ 67) ∨ (a = 52 ∨ a = 53 ∨ a = 54 ∨ a = 58 ∨ a = 59)
theorem r_anew (n : Nat) (hn : 20000 ≤ n) (u : zMu) : ∃ v, rf_anew n u = some ((), v) ∧ pFr kAf u v ∧ kAn0 v := by
  obtain ⟨w, hw⟩ : ∃ w, zsI (zsI (zsI (zsI (zsI (zsI (zsI (zsI (zsI (zsI (zsI (zsI (zsI (zsI (zsI (zsI (zsI (zsI (zsI u 0 51 0) 0 52 0) 0 53 0) 0 54 (-1)) 0 55 0) 0 56 0) 0 57 0) 0 58 0) 0 59 0) 0 60 0) 0 61 0) 0 62 0) 0 63 0) 0 64 0) 0 65 0) 0 66 0) 0 67 0) 0 68 0) 0 80 0 = w := ⟨_, rfl⟩
  have fw : pFr (fun a j => a = 0 ∧ ((51 ≤ j ∧ j ≤ 68) ∨ j = 80)) u w := by
    subst hw
    refine ⟨fun a j q => ?_, rfl⟩
    rw [gI_sI, if_neg (by omega), gI_sI, if_neg (by omega), gI_sI, if_neg (by omega), gI_sI, if_neg (by omega), gI_sI, if_neg (by omega), gI_sI, if_neg (by omega), gI_sI, if_neg (by omega), gI_sI, if_neg (by omega), gI_sI, if_neg (by omega), gI_sI, if_neg (by omega), gI_sI, if_neg (by omega), gI_sI, if_neg (by omega), gI_sI, if_neg (by omega), gI_sI, if_neg (by omega), gI_sI, if_neg (by omega), gI_sI, if_neg (by omega), gI_sI, if_neg (by omega), gI_sI, if_neg (by omega), gI_sI, if_neg (by omega)]
  have gw : ∀ j, (51 ≤ j ∧ j ≤ 68) ∨ j = 80 → zI w 0 j = if j = 54 then -1 else 0 := by
    intro j q
    subst hw
    have q : j = 51 ∨ j = 52 ∨ j = 53 ∨ j = 54 ∨ j = 55 ∨ j = 56 ∨ j = 57 ∨ j = 58 ∨ j = 59 ∨ j = 60 ∨ j = 61 ∨ j = 62 ∨ j = 63 ∨ j = 64 ∨ j = 65 ∨ j = 66 ∨ j = 67 ∨ j = 68 ∨ j = 80 := by omega
    rcases q with rfl | rfl | rfl | rfl | rfl | rfl | rfl | rfl | rfl | rfl | rfl | rfl | rfl | rfl | rfl | rfl | rfl | rfl | rfl <;> rfl
  obtain ⟨v, e, f, g, g'⟩ := r_an97 n hn 81 0 n w (by omega) (by omega)
  refine ⟨v, ?_, ⟨fun a j q => ?_, f.2.trans fw.2⟩, fun j q => ?_, fun a j q h => g a j q (by omega) h, g'⟩
  · unfold rf_anew
    simp only [zlet]
    rw [hw]
    exact e
  · unfold kAf at q
    rw [f.1 a j (by omega), fw.1 a j (by omega)]
  · rw [f.1 0 j (by omega)]; exact gw j q
