/-! RUNNING: values, the stack, the variables -/
def isWh (x : Int64) : Prop := ¬ lg_cmp x (-1073741824) < 0 ∧ ¬ 0 < lg_cmp x 1073741823
/-- a value of the reference and the class's; nO objects, nR rows are made -/
def vR (nO nR : Nat) (sr : Int32) (xr : Int64) (sc : Int32) (xc : Int64) : Prop :=
  (sr = nI 0 ∧ sc = nI 0 ∧ xc = 0) ∨ (sr = nI 1 ∧ xc = xr ∧ ((isWh xr ∧ sc = nI 1) ∨ (¬ isWh xr ∧ sc = nI 2))) ∨ (sr = nI 2 ∧ sc = nI 3 ∧ xc = xr ∧ ∃ o, o < nO ∧ xr = lN o) ∨ (sr = nI 3 ∧ sc = nI 4 ∧ xc = xr ∧ ∃ r, r < nR ∧ xr = lN r)
theorem vR_mono {nO nR nO' nR' : Nat} {sr sc : Int32} {xr xc : Int64} (h : vR nO nR sr xr sc xc) (h1 : nO ≤ nO') (h2 : nR ≤ nR') : vR nO' nR' sr xr sc xc := by
  rcases h with h | h | ⟨a, b, c, o, d, e⟩ | ⟨a, b, c, o, d, e⟩
  · exact Or.inl h
  · exact Or.inr (Or.inl h)
  · exact Or.inr (Or.inr (Or.inl ⟨a, b, c, o, by omega, e⟩))
  · exact Or.inr (Or.inr (Or.inr ⟨a, b, c, o, by omega, e⟩))
theorem vR_0 (nO nR : Nat) (x : Int64) : vR nO nR 0 x 0 0 := Or.inl ⟨rfl, rfl, rfl⟩
theorem vR_s4 {nO nR : Nat} {sr sc : Int32} {xr xc : Int64} (h : vR nO nR sr xr sc xc) : ∃ s, s ≤ 4 ∧ sc = nI s := by
  rcases h with ⟨-, h, -⟩ | ⟨-, -, ⟨-, h⟩ | ⟨-, h⟩⟩ | ⟨-, h, -⟩ | ⟨-, h, -⟩
  · exact ⟨0, by omega, h⟩
  · exact ⟨1, by omega, h⟩
  · exact ⟨2, by omega, h⟩
  · exact ⟨3, by omega, h⟩
  · exact ⟨4, by omega, h⟩
/-- the number of a number -/
theorem vR_num {nO nR : Nat} {sr sc : Int32} {xr xc : Int64} (h : vR nO nR sr xr sc xc) : (sr = nI 1 ∧ (sc = 1 ∨ sc = 2) ∧ xc = xr) ∨ (¬ sr = nI 1 ∧ ¬ (sc = 1 ∨ sc = 2)) := by
  rcases h with ⟨h, h', -⟩ | ⟨h, e, ⟨-, h'⟩ | ⟨-, h'⟩⟩ | ⟨h, h', -⟩ | ⟨h, h', -⟩
  · subst h; subst h'; exact Or.inr (by decide)
  · exact Or.inl ⟨h, Or.inl h', e⟩
  · exact Or.inl ⟨h, Or.inr h', e⟩
  · subst h; subst h'; exact Or.inr (by decide)
  · subst h; subst h'; exact Or.inr (by decide)
theorem vR_obj {nO nR : Nat} {sr sc : Int32} {xr xc : Int64} (h : vR nO nR sr xr sc xc) : (sr = nI 2 ∧ sc = nI 3 ∧ ∃ o, o < nO ∧ xr = lN o ∧ xc = lN o) ∨ (¬ sr = nI 2 ∧ ¬ sc = nI 3) := by
  rcases h with ⟨h, h', -⟩ | ⟨h, e, ⟨-, h'⟩ | ⟨-, h'⟩⟩ | ⟨h, h', e, o, o1, o2⟩ | ⟨h, h', -⟩
  · subst h; subst h'; exact Or.inr (by decide)
  · subst h; subst h'; exact Or.inr (by decide)
  · subst h; subst h'; exact Or.inr (by decide)
  · exact Or.inl ⟨h, h', o, o1, o2, by rw [e]; exact o2⟩
  · subst h; subst h'; exact Or.inr (by decide)
theorem vR_row {nO nR : Nat} {sr sc : Int32} {xr xc : Int64} (h : vR nO nR sr xr sc xc) : (sr = nI 3 ∧ sc = nI 4 ∧ ∃ o, o < nR ∧ xr = lN o ∧ xc = lN o) ∨ (¬ sr = nI 3 ∧ ¬ sc = nI 4) := by
  rcases h with ⟨h, h', -⟩ | ⟨h, e, ⟨-, h'⟩ | ⟨-, h'⟩⟩ | ⟨h, h', -⟩ | ⟨h, h', e, o, o1, o2⟩
  · subst h; subst h'; exact Or.inr (by decide)
  · subst h; subst h'; exact Or.inr (by decide)
  · subst h; subst h'; exact Or.inr (by decide)
  · subst h; subst h'; exact Or.inr (by decide)
  · exact Or.inl ⟨h, h', o, o1, o2, by rw [e]; exact o2⟩
/-- the sort of a number -/
theorem c_sortOf (n : Nat) (u : zMu) (x : Int64) : ∃ s, s ≤ 2 ∧ ce_M_sortOf n u x = some (nI s, u) ∧ ∀ nO nR, vR nO nR (nI 1) x (nI s) x := by
  unfold ce_M_sortOf
  by_cases a : lg_cmp x (-1073741824) < 0
  · exact ⟨2, by omega, by rw [if_pos a]; rfl, fun _ _ => Or.inr (Or.inl ⟨rfl, rfl, Or.inr ⟨fun q => q.1 a, rfl⟩⟩)⟩
  · by_cases b : 0 < lg_cmp x 1073741823
    · exact ⟨2, by omega, by rw [if_neg a, if_pos b]; rfl, fun _ _ => Or.inr (Or.inl ⟨rfl, rfl, Or.inr ⟨fun q => q.2 b, rfl⟩⟩)⟩
    · exact ⟨1, by omega, by rw [if_neg a, if_neg b]; rfl, fun _ _ => Or.inr (Or.inl ⟨rfl, rfl, Or.inl ⟨⟨a, b⟩, rfl⟩⟩)⟩
/-- the stack: t values -/
def kSt (nO nR t : Nat) (ur uc : zMu) : Prop := zI ur 0 51 = nI t ∧ zI uc 34 8 = nI t ∧ t ≤ 780 ∧ pVw 75 780 uc ∧ ∀ j, j < t → vR nO nR (zI ur 27 j) (zL ur 31 j) (vS 75 uc j) (vX 75 uc j)
/-- the variables of D + 1 calls -/
def kVa (nO nR D : Nat) (ur uc : zMu) : Prop := D ≤ 12 ∧ pVw 78 156 uc ∧ zN uc 79 = 156 ∧ ∀ j, j < 12 * (D + 1) → vR nO nR (zI ur 28 j) (zL ur 32 j) (vS 78 uc j) (vX 78 uc j)
/-- frames: S ints, T longs may change; of the class also the lengths of v -/
def gR (S : Nat → Nat → Prop) (T : Nat → Prop) (u w : zMu) : Prop := (∀ a j, ¬ S a j → zI w a j = zI u a j) ∧ (∀ a j, ¬ T a → zL w a j = zL u a j) ∧ w.2.2 = u.2.2
theorem kSt_keep {nO nR t : Nat} {ur uc vr vc : zMu} (h : kSt nO nR t ur uc) (r0 : zI vr 0 51 = zI ur 0 51) (r1 : ∀ j, zI vr 27 j = zI ur 27 j) (r2 : ∀ j, zL vr 31 j = zL ur 31 j) (c0 : zI vc 34 8 = zI uc 34 8) (c1 : zI vc 75 0 = zI uc 75 0) (c2 : ∀ j, zI vc 76 j = zI uc 76 j) (c3 : ∀ j, zL vc 77 j = zL uc 77 j) (c4 : zN vc 76 = zN uc 76) (c5 : zN vc 77 = zN uc 77) : kSt nO nR t vr vc := by
  obtain ⟨h1, h2, h3, h4, h5⟩ := h
  refine ⟨r0.trans h1, c0.trans h2, h3, pVw_keep h4 c1 c2 c4 c5, fun j hj => ?_⟩
  rw [r1, r2, vS_keep c2 c4, vX_keep c3 c4]
  exact h5 j hj
theorem kVa_keep {nO nR D : Nat} {ur uc vr vc : zMu} (h : kVa nO nR D ur uc) (r1 : ∀ j, zI vr 28 j = zI ur 28 j) (r2 : ∀ j, zL vr 32 j = zL ur 32 j) (c1 : zI vc 78 0 = zI uc 78 0) (c2 : ∀ j, zI vc 79 j = zI uc 79 j) (c3 : ∀ j, zL vc 80 j = zL uc 80 j) (c4 : zN vc 79 = zN uc 79) (c5 : zN vc 80 = zN uc 80) : kVa nO nR D vr vc := by
  obtain ⟨h1, h2, h3, h4⟩ := h
  refine ⟨h1, pVw_keep h2 c1 c2 c4 c5, c4.trans h3, fun j hj => ?_⟩
  rw [r1, r2, vS_keep c2 c4, vX_keep c3 c4]
  exact h4 j hj
/-- a push, the reference's -/
theorem kr_push (n : Nat) {u : zMu} {t : Nat} (h : zI u 0 51 = nI t) (ht : t < 2200) (s : Int32) (x : Int64) : rf_pushes n u s x = some ((), zsI (zsL (zsI u 27 t s) 31 t x) 0 51 (nI (t + 1))) := by
  unfold rf_pushes
  have e : zI (zsI u 27 t s) 0 51 = nI t := by rw [gI_sI, if_neg (by omega)]; exact h
  have e2 : zI (zsL (zsI u 27 t s) 31 t x) 0 51 = nI t := by rw [gI_sL]; exact e
  rw [h, zin_nI ht (by decide), zgd_t, zx_nI (show t < 2 ^ 31 by omega)]
  show zgd (zin (zI (zsI u 27 t s) 0 51) 2200) (zlet (zsL (zsI u 27 t s) 31 (zx (zI (zsI u 27 t s) 0 51)) x) fun u2 => zlet (zsI u2 0 51 ((zI u2 0 51) + 1)) fun u3 => some ((), u3)) = _
  rw [e, zin_nI ht (by decide), zgd_t, zx_nI (show t < 2 ^ 31 by omega)]
  show some ((), zsI (zsL (zsI u 27 t s) 31 t x) 0 51 ((zI (zsL (zsI u 27 t s) 31 t x) 0 51) + 1)) = _
  rw [e2, nI_1]
/-- a push of both -/
theorem k_push (n : Nat) {nO nR t : Nat} {ur uc : zMu} (h : kSt nO nR t ur uc) (hd : zdy uc = true) (ht : t < 780) {sr : Int32} {xr : Int64} {s : Nat} {xc : Int64} (hs : s ≤ 4) (hv : vR nO nR sr xr (nI s) xc) : ∃ w v, rf_pushes n ur sr xr = some ((), zsI (zsL (zsI ur 27 t sr) 31 t xr) 0 51 (nI (t + 1))) ∧ fV 75 780 uc w ∧ v = zsI w 34 8 (nI (t + 1)) ∧ ce_M_push n uc (nI s) xc = some ((), v) ∧ kSt nO nR (t + 1) (zsI (zsL (zsI ur 27 t sr) 31 t xr) 0 51 (nI (t + 1))) v := by
  obtain ⟨h1, h2, h3, h4, h5⟩ := h
  obtain ⟨w, e, k1, k2, k3, k4⟩ := v_set n h4 hd ht hs xc
  have e8 : zI w 34 8 = nI t := by rw [k2.1 34 8 (by decide)]; exact h2
  refine ⟨w, _, kr_push n h1 (by omega) sr xr, k2, rfl, ?_, ?_, ?_, by omega, ?_, fun j hj => ?_⟩
  · unfold ce_M_push
    rw [h2, zbd_e e]
    show some ((), zsI w 34 8 ((zI w 34 8) + 1)) = _
    rw [e8, nI_1]
  · rw [gI_sI, if_pos ⟨rfl, rfl⟩]
  · rw [gI_sI, if_pos ⟨rfl, rfl⟩]
  · exact pVw_keep k1 (by rw [gI_sI, if_neg (by omega)]) (fun j => by rw [gI_sI, if_neg (by omega)]) rfl rfl
  · rw [vS_keep (v := 75) (u := w) (w := zsI w 34 8 (nI (t + 1))) (fun j => by rw [gI_sI, if_neg (by omega)]) rfl, vX_keep (v := 75) (u := w) (w := zsI w 34 8 (nI (t + 1))) (fun _ => rfl) rfl, k3, k4]
    rw [gI_sI, if_neg (by omega), gI_sL, gL_sI, gI_sI, gL_sL, gL_sI]
    by_cases z : j = t
    · subst z
      rw [if_pos ⟨rfl, rfl⟩, if_pos ⟨rfl, rfl⟩, if_pos rfl, if_pos rfl]
      exact hv
    · rw [if_neg (by omega), if_neg (by omega), if_neg z, if_neg z]
      exact h5 j (by omega)
