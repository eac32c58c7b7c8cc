/-! RUNNING: shapes are found or made, both -/
/-- the tree of shapes -/
def kTr (X : pCx) (W : kW) (ur uc : zMu) : Prop := zI ur 0 58 = nI (wS W) ∧ zI uc 43 8 = nI (wS W) ∧ (1 ≤ zN uc 81 ∧ zN uc 81 ≤ 1800 ∧ wS W ≤ zN uc 81 ∧ ∀ a, 82 ≤ a → a ≤ 87 → zN uc a = zN uc 81) ∧ (∃ Ch, ∀ s, s < wS W → kSo X W Ch ur uc s) ∧ (∀ s s', s < wS W → s' < wS W → ws W s = ws W s' → wn W s = wn W s' → s = s') ∧ (∀ q, q < 201 → (zI uc 44 q = -1 ∧ ∀ s, s < wS W → ¬ ws W s = q) ∨ ∃ s, s < wS W ∧ zI uc 44 q = nI s ∧ wu W s = 0 ∧ ws W s = q)
theorem kSh_t {X : pCx} {W : kW} {ur uc : zMu} (h : kSh X W ur uc) : kTr X W ur uc := ⟨h.2.1, h.2.2.1, h.2.2.2.2.1, h.2.2.2.2.2.1, h.2.2.2.2.2.2.1, h.2.2.2.2.2.2.2.1⟩
/-- one shape more: parent q, up t, names nm -/
def wAS (W : kW) (q t : Nat) (nm : List Nat) : kW := ((wO W, wR W, wS W + 1, wM W, wP W), wp W, (fun s => if s = wS W then q else ws W s, fun s => if s = wS W then t else wu W s, fun s => if s = wS W then nm else wn W s), wl W, wf W)
theorem wAS_s (W : kW) (q t : Nat) (nm : List Nat) : wS (wAS W q t nm) = wS W + 1 := rfl
theorem wAS_ws (W : kW) (q t : Nat) (nm : List Nat) (s : Nat) : ws (wAS W q t nm) s = if s = wS W then q else ws W s := rfl
theorem wAS_wu (W : kW) (q t : Nat) (nm : List Nat) (s : Nat) : wu (wAS W q t nm) s = if s = wS W then t else wu W s := rfl
theorem wAS_wn (W : kW) (q t : Nat) (nm : List Nat) (s : Nat) : wn (wAS W q t nm) s = if s = wS W then nm else wn W s := rfl
theorem wAS_le (W : kW) (q t : Nat) (nm : List Nat) : wLe W (wAS W q t nm) := ⟨Nat.le_refl _, Nat.le_refl _, Nat.le_succ _, fun _ _ => rfl, fun s hs => ⟨by rw [wAS_ws, if_neg (by omega)], by rw [wAS_wu, if_neg (by omega)], by rw [wAS_wn, if_neg (by omega)]⟩⟩
/-- a chain that does not meet what changed -/
theorem kCh_k {f g : Nat → Int32} : ∀ (l : List Nat) (h : Int32), (∀ c, c ∈ l → g c = f c) → kCh f h l → kCh g h l := by
  intro l
  induction l with
  | nil => exact fun _ _ h => h
  | cons c l ih =>
    intro h k q
    refine ⟨q.1, ?_⟩
    rw [k c (by simp)]
    exact ih _ (fun c' hc' => k c' (by simp [hc'])) q.2
/-- the reference's search -/
theorem kr_search (n : Nat) {S : Nat} {u : zMu} (hS : S < 2100) (h58 : zI u 0 58 = nI S) (p t w : Int32) : ∀ d i m, i + d = S → d < m → (∃ s, i ≤ s ∧ s < S ∧ zI u 44 s = p ∧ zI u 45 s = t ∧ zI u 46 s = w ∧ rf_shapeOf_L3 n m u p t w (nI i) = some (nI s, u)) ∨ ((∀ s, i ≤ s → s < S → ¬ (zI u 44 s = p ∧ zI u 45 s = t ∧ zI u 46 s = w)) ∧ ∀ m', 0 < m' → rf_shapeOf_L3 n m u p t w (nI i) = rf_shapeOf_L3 n m' u p t w (nI S)) := by
  intro d
  induction d with
  | zero =>
    intro i m hi hm
    have e : i = S := by omega
    subst e
    refine Or.inr ⟨fun s a b => absurd b (by omega), fun m' hm' => ?_⟩
    obtain ⟨m, rfl⟩ : ∃ k, m = k + 1 := ⟨m - 1, by omega⟩
    obtain ⟨m', rfl⟩ : ∃ k, m' = k + 1 := ⟨m' - 1, by omega⟩
    rw [rf_shapeOf_L3, rf_shapeOf_L3, h58, if_neg (nI_nlt (Nat.le_refl _) (by omega)), if_neg (nI_nlt (Nat.le_refl _) (by omega))]
  | succ d ih =>
    intro i m hi hm
    obtain ⟨m, rfl⟩ : ∃ k, m = k + 1 := ⟨m - 1, by omega⟩
    have st : ∀ Y, rf_shapeOf_L3 n (m + 1) u p t w (nI i) = Y ↔ (if zI u 44 i = p then (if zI u 45 i = t then (if zI u 46 i = w then some (nI i, u) else rf_shapeOf_L3 n m u p t w (nI (i + 1))) else rf_shapeOf_L3 n m u p t w (nI (i + 1))) else rf_shapeOf_L3 n m u p t w (nI (i + 1))) = Y := by
      intro Y
      rw [rf_shapeOf_L3, h58, if_pos (nI_lt (by omega) (by omega)), zin_nI (show i < 2100 by omega) (by decide), zgd_t, zx_nI (show i < 2 ^ 31 by omega), nI_1]
      exact Iff.rfl
    by_cases z : zI u 44 i = p ∧ zI u 45 i = t ∧ zI u 46 i = w
    · refine Or.inl ⟨i, by omega, by omega, z.1, z.2.1, z.2.2, (st _).mpr ?_⟩
      rw [if_pos z.1, if_pos z.2.1, if_pos z.2.2]
    · have e : rf_shapeOf_L3 n (m + 1) u p t w (nI i) = rf_shapeOf_L3 n m u p t w (nI (i + 1)) := by
        refine (st _).mpr ?_
        by_cases z1 : zI u 44 i = p
        · by_cases z2 : zI u 45 i = t
          · have z3 : ¬ zI u 46 i = w := fun q => z ⟨z1, z2, q⟩
            rw [if_pos z1, if_pos z2, if_neg z3]
          · rw [if_pos z1, if_neg z2]
        · rw [if_neg z1]
      rcases ih (i + 1) m (by omega) (by omega) with ⟨s, a1, a2, a3, a4, a5, a6⟩ | ⟨a1, a2⟩
      · exact Or.inl ⟨s, by omega, a2, a3, a4, a5, e.trans a6⟩
      · refine Or.inr ⟨fun s b1 b2 q => ?_, fun m' hm' => e.trans (a2 m' hm')⟩
        by_cases y : s = i
        · rw [y] at q; exact z q
        · exact a1 s (by omega) b2 q
/-- what the reference makes -/
theorem kr_make (n : Nat) {S t len : Nat} {u : zMu} (hS : S < 2100) (h58 : zI u 0 58 = nI S) (ht : t ≤ S) (hl : (t = 0 ∧ len = 0) ∨ (¬ t = 0 ∧ zI u 47 (t - 1) = nI (len - 1) ∧ 1 ≤ len)) (p w : Int32) : ∃ v, rf_shapeOf_L3 n 1 u p (iP t) w (nI S) = some (nI S, v) ∧ fT tgR [7] u v ∧ (∀ a j, ¬ ((44 ≤ a ∧ a ≤ 47 ∧ j = S) ∨ (a = 0 ∧ j = 58)) → zI v a j = zI u a j) ∧ zI v 0 58 = nI (S + 1) ∧ zI v 44 S = p ∧ zI v 45 S = iP t ∧ zI v 46 S = w ∧ zI v 47 S = nI len := by
  obtain ⟨v, hv⟩ : ∃ v, zsI (zsI (zsI (zsI (zsI u 44 S p) 45 S (iP t)) 46 S w) 47 S (nI len)) 0 58 (nI (S + 1)) = v := ⟨_, rfl⟩
  have z0 : zx (nI S) = S := zx_nI (by omega)
  have zi : zin (nI S) 2100 = true := zin_nI hS (by decide)
  refine ⟨v, ?_, ?_, fun a j q => ?_, ?_, ?_, ?_, ?_, ?_⟩
  · rw [rf_shapeOf_L3, h58, if_neg (nI_nlt (Nat.le_refl _) (by omega)), zi, zgd_t, z0]
    simp only [zlet]
    have g : ∀ y : zMu, y.1 0 58 = zI u 0 58 → zI y 0 58 = nI S := fun y q => q.trans h58
    rw [g (zsI u 44 S p) rfl, zi, zgd_t, z0, g (zsI (zsI u 44 S p) 45 S (iP t)) rfl, zi, zgd_t, z0, g (zsI (zsI (zsI u 44 S p) 45 S (iP t)) 46 S w) rfl, zi, z0]
    rcases hl with ⟨l1, l2⟩ | ⟨l1, l2, l3⟩
    · subst l1; subst l2
      rw [iP_0, if_pos rfl, zgd_t]
      have g2 : zI (zsI (zsI (zsI (zsI u 44 S p) 45 S (-1)) 46 S w) 47 S 0) 0 58 = nI S := h58
      rw [g2, nI_1]
      rw [iP_0] at hv
      exact congrArg (fun y => some (nI S, y)) hv
    · obtain ⟨f, hf⟩ : ∃ f, t = f + 1 := ⟨t - 1, by omega⟩
      subst hf
      rw [iP_s, if_neg (nI_m1 (by omega)), zin_nI (show f < 2100 by omega) (by decide), zgd_t, zgd_t, zx_nI (show f < 2 ^ 31 by omega)]
      have i47 : zI (zsI (zsI (zsI u 44 S p) 45 S (nI f)) 46 S w) 47 f = nI (len - 1) := l2
      rw [i47, nI_1, show len - 1 + 1 = len by omega]
      have g2 : zI (zsI (zsI (zsI (zsI u 44 S p) 45 S (nI f)) 46 S w) 47 S (nI len)) 0 58 = nI S := h58
      rw [g2, nI_1]
      rw [iP_s] at hv
      exact congrArg (fun y => some (nI S, y)) hv
  · subst hv; exact fT_I (fT_I (fT_I (fT_I (fT_I (fT_rf _ _ _) _ 7 rfl (by decide)) _ 7 rfl (by decide)) _ 7 rfl (by decide)) _ 7 rfl (by decide)) _ 7 rfl (by decide)
  · subst hv; rw [gI_sI, if_neg (by omega), gI_sI, if_neg (by omega), gI_sI, if_neg (by omega), gI_sI, if_neg (by omega), gI_sI, if_neg (by omega)]
  · subst hv; rw [gI_sI, if_pos ⟨rfl, rfl⟩]
  · subst hv; simp [gI_sI]
  · subst hv; simp [gI_sI]
  · subst hv; simp [gI_sI]
  · subst hv; simp [gI_sI]
/-- the class's search among the longer ones -/
theorem kc_search (n : Nat) {X : pCx} {W : kW} {uc : zMu} {sh len L : Nat} (hsh : sh < L) (hL : L < 2 ^ 31) (N84 : zN uc 84 = L) (N85 : zN uc 85 = L) (N87 : zN uc 87 = L) (i84 : zI uc 84 sh = nI len) (hlen : len < 2 ^ 31) (x : Int64) : ∀ (l : List Nat) (m : Nat) (h : Int32) (j : Nat), l.length < m → j + l.length = len → kCh (fun c => zI uc 87 c) h l → (∀ c, c ∈ l → c < L) → (∃ c, c ∈ l ∧ zL uc 85 c = x ∧ ce_S_with_L21 n m uc (nI sh) x h (nI j) = some (nI c, uc)) ∨ ((∀ c, c ∈ l → ¬ zL uc 85 c = x) ∧ ce_S_with_L21 n m uc (nI sh) x h (nI j) = ce_S_with_J68 n uc (nI sh) x) := by
  intro l
  induction l with
  | nil =>
    intro m h j hm hj hc hq
    obtain ⟨m, rfl⟩ : ∃ k, m = k + 1 := ⟨m - 1, by simp at hm; omega⟩
    simp only [List.length_nil] at hj
    refine Or.inr ⟨fun c hc => absurd hc (by simp), ?_⟩
    rw [ce_S_with_L21, N84, zin_nI hsh hL, zgd_t, zx_nI (show sh < 2 ^ 31 by omega), i84, if_neg (nI_nlt (by omega) (by omega))]
  | cons a l ih =>
    intro m h j hm hj hc hq
    simp only [List.length_cons] at hm hj
    obtain ⟨m, rfl⟩ : ∃ k, m = k + 1 := ⟨m - 1, by omega⟩
    obtain ⟨h1, h2⟩ : h = nI a ∧ kCh (fun c => zI uc 87 c) (zI uc 87 a) l := hc
    have a1 := hq a (by simp)
    subst h1
    have pre : ∀ Y, ce_S_with_L21 n (m + 1) uc (nI sh) x (nI a) (nI j) = Y ↔ (if lg_cmp (zL uc 85 a) x = 0 then some (nI a, uc) else ce_S_with_L21 n m uc (nI sh) x (zI uc 87 a) (nI (j + 1))) = Y := by
      intro Y
      rw [ce_S_with_L21, N84, zin_nI hsh hL, zgd_t, zx_nI (show sh < 2 ^ 31 by omega), i84, if_pos (nI_lt (by omega) (by omega)), if_neg (nI_m1 (by omega)), N85, zin_nI a1 hL, zgd_t, zx_nI (show a < 2 ^ 31 by omega), N87, zin_nI a1 hL, zgd_t, nI_1]
      exact Iff.rfl
    by_cases z : zL uc 85 a = x
    · exact Or.inl ⟨a, by simp, z, (pre _).mpr (if_pos ((lgc_eq _ _).mpr z))⟩
    · have e : ce_S_with_L21 n (m + 1) uc (nI sh) x (nI a) (nI j) = ce_S_with_L21 n m uc (nI sh) x (zI uc 87 a) (nI (j + 1)) := (pre _).mpr (if_neg (fun q => z ((lgc_eq _ _).mp q)))
      rcases ih m (zI uc 87 a) (j + 1) (by omega) (by omega) h2 (fun c hc' => hq c (by simp [hc'])) with ⟨c, q1, q2, q4⟩ | ⟨q1, q2⟩
      · exact Or.inl ⟨c, by simp [q1], q2, e.trans q4⟩
      · exact Or.inr ⟨fun c hc' => by
          rcases List.mem_cons.mp hc' with y | y
          · rw [y]; exact z
          · exact q1 c y, e.trans q2⟩
