/-! RUNNING: a made fn is left; sums -/
theorem tgC_p {a : Nat} (h : 12 ≤ a) (k : a ≤ 33) (j : Nat) : tgC a j = 0 := by
  have : a = 12 ∨ a = 13 ∨ a = 14 ∨ a = 15 ∨ a = 16 ∨ a = 17 ∨ a = 18 ∨ a = 19 ∨ a = 20 ∨ a = 21 ∨ a = 22 ∨ a = 23 ∨ a = 24 ∨ a = 25 ∨ a = 26 ∨ a = 27 ∨ a = 28 ∨ a = 29 ∨ a = 30 ∨ a = 31 ∨ a = 32 ∨ a = 33 := by omega
  rcases this with rfl | rfl | rfl | rfl | rfl | rfl | rfl | rfl | rfl | rfl | rfl | rfl | rfl | rfl | rfl | rfl | rfl | rfl | rfl | rfl | rfl | rfl <;> rfl
/-- both pictures still bear the program -/
def kBs (C : kC) (ur uc : zMu) : Prop := fT tgR tall (cb C) ur ∧ fT tgC tall (cv C) uc
theorem kBs.r {C : kC} {ur uc : zMu} (h : kBs C ur uc) {a j : Nat} (e : tgR a j = 0) : zI ur a j = zI (cb C) a j := fT_i h.1 (by decide) e
theorem kBs.c {C : kC} {ur uc : zMu} (h : kBs C ur uc) {a : Nat} (x : 12 ≤ a) (y : a ≤ 33) (j : Nat) : zI uc a j = zI (cv C) a j := fT_i h.2 (by decide) (tgC_p x y j)
theorem kBs.l {C : kC} {ur uc : zMu} (h : kBs C ur uc) {a : Nat} (x : 12 ≤ a) (y : a ≤ 33) (j : Nat) : zL uc a j = zL (cv C) a j := fT_l h.2 (by decide) (tgC_p x y 0) j
theorem kBs.p {C : kC} {ur uc : zMu} (h : kBs C ur uc) (P : kPs C) : zR uc 34 6 = xp (cX C) ∧ zpr (xp (cX C)) = true ∧ (xp (cX C) = 12 ∨ xp (cX C) = 23) := by
  refine ⟨(fT_R h.2 34 6).trans P.1.2.1, ?_, P.1.1⟩
  rcases P.1.1 with e | e <;> rw [e] <;> rfl
theorem kBs.tr {C : kC} {ur uc vr vc : zMu} (h : kBs C ur uc) {ts : List Nat} (hr : fT tgR ts ur vr) (hc : fT tgC ts uc vc) (q : ∀ t, t ∈ ts → t ∈ tall) : kBs C vr vc := ⟨fT_tr h.1 (fT_mono hr q), fT_tr h.2 (fT_mono hc q)⟩
/-- made fns: one changes -/
def wSF (W : kW) (f x : Nat) : kW := (W.1, W.2.1, W.2.2.1, W.2.2.2.1, fun g => if g = f then x else wf W g)
theorem wSF_f (W : kW) (f x g : Nat) : wf (wSF W f x) g = if g = f then x else wf W g := rfl
theorem wSF_le (W : kW) (f x : Nat) : wLe W (wSF W f x) := ⟨Nat.le_refl _, Nat.le_refl _, Nat.le_refl _, fun _ _ => rfl, fun _ _ => ⟨rfl, rfl, rfl⟩⟩
theorem ck_isFn (n : Nat) {p F f : Nat} {u : zMu} (h : zI u p 12 = nI F) (hF : F < 2 ^ 31) (hf : f < F) : ce_P_isFn n p u (nI f) = some (1, u) := by
  unfold ce_P_isFn
  rw [if_neg (nI_pos (by omega)), h, if_pos (nI_lt hf hF)]
theorem ck_isSite (n : Nat) {p F f : Nat} {u : zMu} (h : zI u p 8 = nI F) (hF : F < 2 ^ 31) (hf : f < F) : ce_P_isSite n p u (nI f) = some (1, u) := by
  unfold ce_P_isSite
  rw [if_neg (nI_pos (by omega)), h, if_pos (nI_lt hf hF)]
/-- the reference drops a fn's guesses -/
theorem kr_drop (n S : Nat) (f : Int32) (hS : S ≤ 80) : ∀ d j m u, j + d = S → d < m → zI u 0 39 = nI S → ∃ v, rf_leaves_L67 n m u f (nI j) = some ((), v) ∧ fT tgR [9] u v ∧ (∀ a i, ¬ a = 59 → zI v a i = zI u a i) ∧ (∀ i, zI v 59 i = if j ≤ i ∧ i < S ∧ zI u 21 i = f then 0 else zI u 59 i) := by
  intro d
  induction d with
  | zero =>
    intro j m u hj hm h39
    obtain ⟨m, rfl⟩ : ∃ k, m = k + 1 := ⟨m - 1, by omega⟩
    refine ⟨u, ?_, fT_rf _ _ _, fun _ _ _ => rfl, fun i => by rw [if_neg (by omega)]⟩
    rw [rf_leaves_L67, h39, if_neg (nI_nlt (by omega) (by omega))]
  | succ d ih =>
    intro j m u hj hm h39
    obtain ⟨m, rfl⟩ : ∃ k, m = k + 1 := ⟨m - 1, by omega⟩
    by_cases z : zI u 21 j = f
    · obtain ⟨v, e, g1, g2, g3⟩ := ih (j + 1) m (zsI u 59 j 0) (by omega) (by omega) h39
      refine ⟨v, ?_, fT_tr (fT_I (fT_rf _ _ _) _ 9 rfl (by decide)) g1, fun a i q => ?_, fun i => ?_⟩
      · rw [rf_leaves_L67, h39, if_pos (nI_lt (by omega) (by omega)), zin_nI (show j < 800 by omega) (by decide), zgd_t, zx_nI (show j < 2 ^ 31 by omega), if_pos z, zin_nI (show j < 81 by omega) (by decide), zgd_t, nI_1]
        exact e
      · rw [g2 a i q, gI_sI, if_neg (by omega)]
      · rw [g3, gI_sI, gI_sI, if_neg (show ¬ ((21 : Nat) = 59 ∧ i = j) from by omega)]
        by_cases y : i = j
        · rw [if_neg (by omega), if_pos ⟨rfl, y⟩, if_pos ⟨by omega, by omega, by rw [y]; exact z⟩]
        · rw [if_neg (show ¬ ((59 : Nat) = 59 ∧ i = j) from fun q => y q.2)]
          by_cases x : j + 1 ≤ i ∧ i < S ∧ zI u 21 i = f
          · rw [if_pos x, if_pos ⟨by omega, x.2⟩]
          · rw [if_neg x, if_neg (fun q => x ⟨by omega, q.2⟩)]
    · obtain ⟨v, e, g1, g2, g3⟩ := ih (j + 1) m u (by omega) (by omega) h39
      refine ⟨v, ?_, g1, g2, fun i => ?_⟩
      · rw [rf_leaves_L67, h39, if_pos (nI_lt (by omega) (by omega)), zin_nI (show j < 800 by omega) (by decide), zgd_t, zx_nI (show j < 2 ^ 31 by omega), if_neg z, nI_1]
        exact e
      · rw [g3]
        by_cases x : j + 1 ≤ i ∧ i < S ∧ zI u 21 i = f
        · rw [if_pos x, if_pos ⟨by omega, x.2⟩]
        · rw [if_neg x]
          by_cases y : i = j
          · rw [if_neg (fun q => z (by rw [← y]; exact q.2.2))]
          · rw [if_neg (fun q => x ⟨by omega, q.2⟩)]
theorem kc_drop (n p S : Nat) (f : Int32) (hp : p = 12 ∨ p = 23) (hS : S ≤ 80) : ∀ d j m u, j + d = S → d < m → zI u p 8 = nI S → ∃ v, ce_T_dropGuesses_L2 n p m u f (nI j) = some ((), v) ∧ fT tgC [9] u v ∧ (∀ a i, ¬ a = 58 → zI v a i = zI u a i) ∧ (∀ i, zI v 58 i = if j ≤ i ∧ i < S ∧ zI u (p + 6) i = f then 0 else zI u 58 i) := by
  intro d
  induction d with
  | zero =>
    intro j m u hj hm h39
    obtain ⟨m, rfl⟩ : ∃ k, m = k + 1 := ⟨m - 1, by omega⟩
    refine ⟨u, ?_, fT_rf _ _ _, fun _ _ _ => rfl, fun i => by rw [if_neg (by omega)]⟩
    rw [ce_T_dropGuesses_L2, h39, if_neg (nI_nlt (by omega) (by omega))]
  | succ d ih =>
    intro j m u hj hm h39
    obtain ⟨m, rfl⟩ : ∃ k, m = k + 1 := ⟨m - 1, by omega⟩
    by_cases z : zI u (p + 6) j = f
    · obtain ⟨v, e, g1, g2, g3⟩ := ih (j + 1) m (zsI u 58 j 0) (by omega) (by omega) (by rw [gI_sI, if_neg (by omega)]; exact h39)
      refine ⟨v, ?_, fT_tr (fT_I (fT_rf _ _ _) _ 9 rfl (by decide)) g1, fun a i q => ?_, fun i => ?_⟩
      · rw [ce_T_dropGuesses_L2, h39, if_pos (nI_lt (by omega) (by omega)), zin_nI (show j < 80 by omega) (by decide), zgd_t, zx_nI (show j < 2 ^ 31 by omega), if_pos z, nI_1]
        exact e
      · rw [g2 a i q, gI_sI, if_neg (by omega)]
      · rw [g3, gI_sI, gI_sI, if_neg (show ¬ (p + 6 = 58 ∧ i = j) from by omega)]
        by_cases y : i = j
        · rw [if_neg (by omega), if_pos ⟨rfl, y⟩, if_pos ⟨by omega, by omega, by rw [y]; exact z⟩]
        · rw [if_neg (show ¬ ((58 : Nat) = 58 ∧ i = j) from fun q => y q.2)]
          by_cases x : j + 1 ≤ i ∧ i < S ∧ zI u (p + 6) i = f
          · rw [if_pos x, if_pos ⟨by omega, x.2⟩]
          · rw [if_neg x, if_neg (fun q => x ⟨by omega, q.2⟩)]
    · obtain ⟨v, e, g1, g2, g3⟩ := ih (j + 1) m u (by omega) (by omega) h39
      refine ⟨v, ?_, g1, g2, fun i => ?_⟩
      · rw [ce_T_dropGuesses_L2, h39, if_pos (nI_lt (by omega) (by omega)), zin_nI (show j < 80 by omega) (by decide), zgd_t, zx_nI (show j < 2 ^ 31 by omega), if_neg z, nI_1]
        exact e
      · rw [g3]
        by_cases x : j + 1 ≤ i ∧ i < S ∧ zI u (p + 6) i = f
        · rw [if_pos x, if_pos ⟨by omega, x.2⟩]
        · rw [if_neg x]
          by_cases y : i = j
          · rw [if_neg (fun q => z (by rw [← y]; exact q.2.2))]
          · rw [if_neg (fun q => x ⟨by omega, q.2⟩)]
