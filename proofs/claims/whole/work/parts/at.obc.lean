/-! THE OBJECT: read -/
/-- an empty text -/
theorem r_empty (n k : Nat) (hn : 2 ≤ n) {u : zMu} (h4 : zI u 0 4 = 0) : ∃ v, rf_takes n k u = some ((), v) ∧ zI v 0 33 = 0 ∧ zI v 0 39 = 0 ∧ zI v 17 9 = 0 := by
  obtain ⟨m, rfl⟩ : ∃ m, n = m + 1 := ⟨n - 1, by omega⟩
  obtain ⟨w, ew, w4⟩ : ∃ w, rf_cuts (m + 1) u = some ((), w) ∧ zI w 4 0 = 0 := by
    obtain ⟨u1, hu1⟩ : ∃ u1, zsI (zsI u 0 9 0) 0 13 0 = u1 := ⟨_, rfl⟩
    have a4 : zI u1 0 4 = 0 := by subst hu1; exact h4
    have a9 : zI u1 0 9 = 0 := by subst hu1; rfl
    refine ⟨zsI (zsI (zsI (zsI u1 4 0 0) 5 0 0) 6 0 0) 0 9 (0 + 1), ?_, rfl⟩
    unfold rf_cuts
    simp only [zlet]
    rw [hu1, rf_cuts_L12, a4, if_neg (by decide)]
    have et : rf_token (m + 1) u1 0 0 0 = some ((), zsI (zsI (zsI (zsI u1 4 0 0) 5 0 0) 6 0 0) 0 9 (0 + 1)) := by
      unfold rf_token
      rw [a9, show zin 0 1502 = true from rfl, zgd_t, show zx 0 = 0 from rfl]
      simp only [zlet]
      rw [show zI (zsI u1 4 0 0) 0 9 = 0 from a9, show zin 0 1502 = true from rfl, zgd_t, show zx 0 = 0 from rfl, show zI (zsI (zsI u1 4 0 0) 5 0 0) 0 9 = 0 from a9, show zin 0 1502 = true from rfl, zgd_t, show zx 0 = 0 from rfl, show zI (zsI (zsI (zsI u1 4 0 0) 5 0 0) 6 0 0) 0 9 = 0 from a9]
    rw [zbd_e et]
  obtain ⟨u2, hu2⟩ : ∃ u2, zsI (zsI (zsI (zsI (zsI (zsI (zsI (zsI (zsI w 0 10 0) 0 15 (-1)) 0 16 (-1)) 0 17 0) 0 24 0) 0 26 0) 0 33 0) 0 39 0) 0 44 0 = u2 := ⟨_, rfl⟩
  have b4 : zI u2 4 0 = 0 := by subst hu2; exact w4
  have b10 : zI u2 0 10 = 0 := by subst hu2; rfl
  have b15 : zI u2 0 15 = -1 := by subst hu2; rfl
  have b24 : zI u2 0 24 = 0 := by subst hu2; rfl
  have b33 : zI u2 0 33 = 0 := by subst hu2; rfl
  have b39 : zI u2 0 39 = 0 := by subst hu2; rfl
  have b44 : zI u2 0 44 = 0 := by subst hu2; rfl
  have now : ∀ x : zMu, zI x 0 10 = 0 → zI x 4 0 = 0 → rf_now (m + 1) x = some (0, x) := fun x e1 e2 => by
    unfold rf_now
    rw [e1, show zin 0 1502 = true from rfl, zgd_t, show zx 0 = 0 from rfl, e2]
  obtain ⟨u3, hu3⟩ : ∃ u3, zsI (zsI (zsI u2 0 27 (-1)) 17 9 0) 0 34 (zI (zsI (zsI u2 0 27 (-1)) 17 9 0) 0 24) = u3 := ⟨_, rfl⟩
  have c4 : zI u3 4 0 = 0 := by subst hu3; exact b4
  have c10 : zI u3 0 10 = 0 := by subst hu3; exact b10
  have c15 : zI u3 0 15 = -1 := by subst hu3; exact b15
  have c24 : zI u3 0 24 = 0 := by subst hu3; exact b24
  have c33 : zI u3 0 33 = 0 := by subst hu3; exact b33
  have c39 : zI u3 0 39 = 0 := by subst hu3; exact b39
  have c44 : zI u3 0 44 = 0 := by subst hu3; exact b44
  have c17 : zI u3 17 9 = 0 := by subst hu3; rfl
  have ee : rf_emit (m + 1) u3 23 0 0 0 = some ((), zsI (zsI (zsI (zsI (zsI u3 10 0 23) 11 0 0) 12 0 0) 13 0 0) 0 24 (0 + 1)) := by
    unfold rf_emit
    rw [c24, show zin 0 4000 = true from rfl, zgd_t, show zx 0 = 0 from rfl]
    simp only [zlet]
    rw [show zI (zsI u3 10 0 23) 0 24 = 0 from c24, show zin 0 4000 = true from rfl, zgd_t, show zx 0 = 0 from rfl, show zI (zsI (zsI u3 10 0 23) 11 0 0) 0 24 = 0 from c24, show zin 0 4000 = true from rfl, zgd_t, show zx 0 = 0 from rfl, show zI (zsI (zsI (zsI u3 10 0 23) 11 0 0) 12 0 0) 0 24 = 0 from c24, show zin 0 4000 = true from rfl, zgd_t, show zx 0 = 0 from rfl, show zI (zsI (zsI (zsI (zsI u3 10 0 23) 11 0 0) 12 0 0) 13 0 0) 0 24 = 0 from c24]
  obtain ⟨u4, hu4⟩ : ∃ u4, zsI (zsI (zsI (zsI (zsI u3 10 0 23) 11 0 0) 12 0 0) 13 0 0) 0 24 (0 + 1) = u4 := ⟨_, rfl⟩
  rw [hu4] at ee
  have d15 : zI u4 0 15 = -1 := by subst hu4; exact c15
  have d44 : zI u4 0 44 = 0 := by subst hu4; exact c44
  refine ⟨u4, ?_, by subst hu4; exact c33, by subst hu4; exact c39, by subst hu4; exact c17⟩
  unfold rf_takes
  rw [zbd_e ew]
  simp only [zlet]
  rw [hu2, rf_takes_L49, zbd_e (r_isWrong0 _ b15), if_pos rfl, zbd_e (now u2 b10 b4), if_neg (by decide)]
  unfold rf_takes_J73
  rw [show zin 9 10 = true from rfl, show zx 9 = 9 from rfl]
  simp only [zlet, zgd_t]
  rw [hu3, rf_takes_L94, zbd_e (r_isWrong0 _ c15), if_pos rfl, zbd_e (now u3 c10 c4), if_pos rfl]
  unfold rf_takes_J115
  have el : rf_links (m + 1) u4 = some ((), u4) := by
    unfold rf_links
    rw [rf_links_L2, d44, if_neg (by decide)]
  rw [zbd_e ee, zbd_e (r_isWrong0 _ d15), if_pos rfl, zbd_e el]
/-- the old text is kept -/
theorem r_L7 (n k : Nat) {s : Nat} (hs : s ≤ 1500) : ∀ d j m u, j + d = s → d < m → ∃ v, rf_read_L7 n k m u (nI s) (nI j) = rf_read_L32 n k n v (nI s) (nI 0) ∧ pFr (fun a _ => a = 3) u v ∧ (∀ i, i < j → zI v 3 i = zI u 3 i) ∧ (∀ i, j ≤ i → i < s → zI v 3 i = zI u 2 i) := by
  intro d
  induction d with
  | zero =>
    intro j m u hj hm
    obtain ⟨m, rfl⟩ : ∃ k, m = k + 1 := ⟨m - 1, by omega⟩
    refine ⟨u, ?_, pFr_rf, fun _ _ => rfl, fun i x y => absurd y (by omega)⟩
    rw [rf_read_L7, if_neg (nI_nlt (by omega) (by omega))]
    rfl
  | succ d ih =>
    intro j m u hj hm
    obtain ⟨m, rfl⟩ : ∃ k, m = k + 1 := ⟨m - 1, by omega⟩
    obtain ⟨v, e, f, g0, g⟩ := ih (j + 1) m (zsI u 3 j (zI u 2 j)) (by omega) (by omega)
    refine ⟨v, ?_, pFr_tr (pFr_set rfl) f, fun i hi => ?_, fun i x y => ?_⟩
    · rw [rf_read_L7, if_pos (nI_lt (by omega) (by omega)), zin_nI (show j < 1500 by omega) (by decide), zgd_t, zgd_t, zx_nI (show j < 2 ^ 31 by omega)]
      show rf_read_L7 n k m (zsI u 3 j (zI u 2 j)) (nI s) (nI j + 1) = _
      rw [nI_1, e]
    · rw [g0 i (by omega), gI_sI, if_neg (by omega)]
    · by_cases z : i = j
      · subst z
        rw [g0 i (by omega), gI_sI, if_pos ⟨rfl, rfl⟩]
      · rw [g i (by omega) y, gI_sI, if_neg (by omega)]
def rdT (n k : Nat) (u : zMu) (x1 : Int32) : Option (Int32 × zMu) :=
  zbd (rf_takes n k (zsI (zsI u 0 4 (zI u 0 3)) 0 3 0)) fun _ u7 => zbd (rf_isWrong n u7) fun r8 u9 => if r8 = 0 then (if zI u9 0 16 = (-1) then rf_read_J103 n k u9 x1 0 else rf_read_J103 n k u9 x1 (zI u9 0 17)) else rf_read_J103 n k u9 x1 1
/-- the tape becomes the text -/
theorem r_L32 (n k : Nat) (x1 : Int32) {t : Nat} (ht : t ≤ 1500) : ∀ d j m u, j + d = t → d < m → zI u 0 3 = nI t → ∃ v, rf_read_L32 n k m u x1 (nI j) = rdT n k v x1 ∧ pFr (fun a _ => a = 2) u v ∧ (∀ i, i < j → zI v 2 i = zI u 2 i) ∧ (∀ i, j ≤ i → i < t → zI v 2 i = zI u 1 i) := by
  intro d
  induction d with
  | zero =>
    intro j m u hj hm h3
    obtain ⟨m, rfl⟩ : ∃ k, m = k + 1 := ⟨m - 1, by omega⟩
    refine ⟨u, ?_, pFr_rf, fun _ _ => rfl, fun i x y => absurd y (by omega)⟩
    rw [rf_read_L32, h3, if_neg (nI_nlt (by omega) (by omega))]
    unfold rdT
    rw [h3]
    rfl
  | succ d ih =>
    intro j m u hj hm h3
    obtain ⟨m, rfl⟩ : ∃ k, m = k + 1 := ⟨m - 1, by omega⟩
    obtain ⟨v, e, f, g0, g⟩ := ih (j + 1) m (zsI u 2 j (zI u 1 j)) (by omega) (by omega) h3
    refine ⟨v, ?_, pFr_tr (pFr_set rfl) f, fun i hi => ?_, fun i x y => ?_⟩
    · rw [rf_read_L32, h3, if_pos (nI_lt (by omega) (by omega)), zin_nI (show j < 1500 by omega) (by decide), zgd_t, zgd_t, zx_nI (show j < 2 ^ 31 by omega)]
      show rf_read_L32 n k m (zsI u 2 j (zI u 1 j)) x1 (nI j + 1) = _
      rw [nI_1, e]
    · rw [g0 i (by omega), gI_sI, if_neg (by omega)]
    · by_cases z : i = j
      · subst z
        rw [g0 i (by omega), gI_sI, if_pos ⟨rfl, rfl⟩]
      · rw [g i (by omega) y, gI_sI, if_neg (by omega)]
/-- the old text comes back -/
theorem r_L151 (n k : Nat) {s : Nat} (hs : s ≤ 1500) : ∀ d j m u, j + d = s → d < m → ∃ v, rf_read_L151 n k m u (nI s) (nI j) = (zbd (rf_takes n k (zsI v 0 4 (nI s))) fun _ u6 => some ((-10) - (zI u6 0 18), u6)) ∧ pFr (fun a _ => a = 2) u v ∧ (∀ i, i < j → zI v 2 i = zI u 2 i) ∧ (∀ i, j ≤ i → i < s → zI v 2 i = zI u 3 i) := by
  intro d
  induction d with
  | zero =>
    intro j m u hj hm
    obtain ⟨m, rfl⟩ : ∃ k, m = k + 1 := ⟨m - 1, by omega⟩
    refine ⟨u, ?_, pFr_rf, fun _ _ => rfl, fun i x y => absurd y (by omega)⟩
    rw [rf_read_L151, if_neg (nI_nlt (by omega) (by omega))]
    rfl
  | succ d ih =>
    intro j m u hj hm
    obtain ⟨m, rfl⟩ : ∃ k, m = k + 1 := ⟨m - 1, by omega⟩
    obtain ⟨v, e, f, g0, g⟩ := ih (j + 1) m (zsI u 2 j (zI u 3 j)) (by omega) (by omega)
    refine ⟨v, ?_, pFr_tr (pFr_set rfl) f, fun i hi => ?_, fun i x y => ?_⟩
    · rw [rf_read_L151, if_pos (nI_lt (by omega) (by omega)), zin_nI (show j < 1500 by omega) (by decide), zgd_t, zgd_t, zx_nI (show j < 2 ^ 31 by omega)]
      show rf_read_L151 n k m (zsI u 2 j (zI u 3 j)) (nI s) (nI j + 1) = _
      rw [nI_1, e]
    · rw [g0 i (by omega), gI_sI, if_neg (by omega)]
    · by_cases z : i = j
      · subst z
        rw [g0 i (by omega), gI_sI, if_pos ⟨rfl, rfl⟩]
      · rw [g i (by omega) y, gI_sI, if_neg (by omega)]
