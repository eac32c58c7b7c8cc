/-! PARSING, eighteenth part: once a text is refused: the class -/
theorem w1_expect (n : Nat) {X : pCx} {u : zMu} {w : Nat} (hX : xOk X) (h : bC1 X w u) {x : Int32} (hx : x ≠ 256) : ∃ v, ce_C_expect n u x = some ((), v) ∧ bC1 X w v := by
  obtain ⟨v, e, hv⟩ := bC1_refuse n hX h
  refine ⟨v, ?_, hv⟩
  unfold ce_C_expect
  rw [if_neg (by rw [h.2.2.2.2.1]; exact fun q => hx q.symm), zbd_e e]
theorem w0_expect (n : Nat) {X : pCx} {u : zMu} {w : Nat} (hX : xOk X) (h : bC0 X w u) {x : Int32} (hx : zI u 7 6 ≠ x) : ∃ v, ce_C_expect n u x = some ((), v) ∧ bC1 X w v := by
  obtain ⟨v, e, hv⟩ := bC0_refuse n hX h
  refine ⟨v, ?_, hv⟩
  unfold ce_C_expect
  rw [if_neg hx, zbd_e e]
theorem w1_opens (n : Nat) {X : pCx} {u : zMu} {w : Nat} (hX : xOk X) (h : bC1 X w u) {x : Int32} (hx : x ≠ 256) : ∃ v, ce_C_opens n u x = some ((), v) ∧ bC1 X w v := by
  obtain ⟨v, e, hv⟩ := bC1_refuse n hX h
  refine ⟨v, ?_, hv⟩
  unfold ce_C_opens
  rw [if_neg (by rw [h.2.2.2.2.1]; exact fun q => hx q.symm), zbd_e e]
theorem w1_op (n : Nat) {X : pCx} {u : zMu} {w : Nat} (hX : xOk X) (h : bC1 X w u) (x : Int32) : bC1 X w (zsI u 2 5 x) := by
  have hp := hX.p12
  exact bC1_keep h (bC_keep h.1 (fPC_I h.1.1 (by unfold pwC; omega)) (fun k j q => by rw [gI_sI, if_neg (by omega)])) (fun k j q => by rw [gI_sI, if_neg (by omega)])
theorem w1_closes (n : Nat) {X : pCx} {u : zMu} {w : Nat} (hX : xOk X) (h : bC1 X w u) {x : Int32} (hx : x ≠ 256) : ∃ v, ce_C_closes n u x = some ((), v) ∧ bC1 X w v := by
  obtain ⟨v, e, hv⟩ := w1_expect n hX h hx
  refine ⟨_, ?_, w1_op n hX hv (zI v 2 5 - 1)⟩
  rw [c_closes_eq, zbd_e e]
  rfl
theorem w0_closes (n : Nat) {X : pCx} {u : zMu} {w : Nat} (hX : xOk X) (h : bC0 X w u) {x : Int32} (hx : zI u 7 6 ≠ x) : ∃ v, ce_C_closes n u x = some ((), v) ∧ bC1 X w v := by
  obtain ⟨v, e, hv⟩ := w0_expect n hX h hx
  refine ⟨_, ?_, w1_op n hX hv (zI v 2 5 - 1)⟩
  rw [c_closes_eq, zbd_e e]
  rfl
theorem w1_takes (n : Nat) {X : pCx} {u : zMu} {w : Nat} (h : bC1 X w u) {x : Int32} (hx : x ≠ 256) : ce_C_takes n u x = some (0, u) := by
  unfold ce_C_takes
  rw [if_neg (by rw [h.2.2.2.2.1]; exact fun q => hx q.symm)]
theorem w1_emit (n : Nat) {X : pCx} {u : zMu} {w : Nat} (hX : xOk X) (h : bC1 X w u) (o a c : Int32) : ∃ r v, ce_P_emit n (xp X) u o a c = some (r, v) ∧ bC1 X w v := by
  obtain ⟨r, v, e, b, k⟩ := bC_emit n hX h.1 o a c
  exact ⟨r, v, e, bC1_keep h b (fun a j q => k a j (by omega))⟩
theorem w0_emit (n : Nat) {X : pCx} {u : zMu} {w : Nat} (hX : xOk X) (h : bC0 X w u) (o a c : Int32) : ∃ r v, ce_P_emit n (xp X) u o a c = some (r, v) ∧ bC0 X w v ∧ zI v 7 6 = zI u 7 6 := by
  obtain ⟨r, v, e, b, k⟩ := bC_emit n hX h.1 o a c
  exact ⟨r, v, e, bC0_keep h b (fun a j q => k a j (by omega)), k 7 6 (by omega)⟩
theorem w1_note (n : Nat) {X : pCx} {u : zMu} {w : Nat} (h : bC1 X w u) (a b : Int32) : ce_C_note n u a b = some ((), u) := by
  unfold ce_C_note
  rw [if_neg (by rw [h.2.1]; decide)]
theorem b_named (n : Nat) (hn : 2000 ≤ n) {X : pCx} {u : zMu} (h : bC X u) (x : Int64) : ∃ r, ce_C_variableNamed n u x = some (r, u) := by
  obtain ⟨f, L, S, V, C, F, b1, b2, b3, b4, b5, b6, b7, b8, b9, b10⟩ := h
  have main : ∀ d j m, V - j = d → j ≤ V → d < m → ∃ r, ce_C_variableNamed_L2 n m u x (nI j) = some (r, u) := by
    intro d
    induction d with
    | zero =>
      intro j m hd hj hm
      obtain ⟨m, rfl⟩ : ∃ y, m = y + 1 := ⟨m - 1, by omega⟩
      exact ⟨-1, by unfold ce_C_variableNamed_L2; rw [b6, if_neg (nI_nlt (by omega) (by omega))]⟩
    | succ d ih =>
      intro j m hd hj hm
      obtain ⟨m, rfl⟩ : ∃ y, m = y + 1 := ⟨m - 1, by omega⟩
      rw [ce_C_variableNamed_L2, b6, if_pos (nI_lt (by omega) (by omega)), zin_nI (show j < 12 by omega) (by decide), zgd_t]
      by_cases g : lg_cmp (zL u 3 (zx (nI j))) x = 0
      · exact ⟨nI j, by rw [if_pos g]⟩
      · obtain ⟨r, hr⟩ := ih (j + 1) m (by omega) (by omega) (by omega)
        exact ⟨r, by rw [if_neg g]; show ce_C_variableNamed_L2 n m u x (nI j + 1) = _; rw [nI_1]; exact hr⟩
  exact main V 0 n (by omega) (by omega) (by omega)
theorem w1_addV (n : Nat) {X : pCx} {u : zMu} {w : Nat} (hX : xOk X) (h : bC1 X w u) (x : Int64) (P : Int32) : ∃ r v, ce_C_addVariable n u x P = some (r, v) ∧ bC1 X w v := by
  have hp := hX.p12
  obtain ⟨f, L, S, V, C, F, b1, b2, b3, b4, b5, b6, b7, b8, b9, b10⟩ := h.1
  by_cases g : V < 12
  · refine ⟨_, _, c_addVariable n b6 g x P, bC1_keep h ⟨fPC_I (fPC_L f (by unfold pwC; omega)) (by unfold pwC; omega), L, S, V + 1, C, F, b1, ?_, b3, ?_, by omega, by simp [vaC, gI_sI], b7, ?_, b9, ?_⟩ (fun k j q => vaC_W k j (by omega))⟩
    · rw [vaC_W _ _ (by omega)]; exact b2
    · rw [vaC_W _ _ (by omega)]; exact b4
    · rw [vaC_W _ _ (by omega)]; exact b8
    · rw [vaC_W _ _ (by omega)]; exact b10
  · refine ⟨0, u, ?_, h⟩
    unfold ce_C_addVariable
    rw [b6, if_neg (show ¬ nI V < 12 from nI_nlt (b := 12) (by omega) (by omega)), zbd_e (w1_note n h _ _)]
theorem w1_keepCall (n : Nat) {X : pCx} {u : zMu} {w : Nat} (hX : xOk X) (h : bC1 X w u) (x : Int64) (a b : Int32) : ∃ v, ce_C_keepCall n u x a b = some ((), v) ∧ bC1 X w v := by
  have hp := hX.p12
  obtain ⟨f, L, S, V, C, F, b1, b2, b3, b4, b5, b6, b7, b8, b9, b10⟩ := h.1
  by_cases g : C < 500
  · have hz : zin (nI C) 500 = true := zin_nI g (by decide)
    have hx : zx (nI C) = C := zx_nI (by omega)
    refine ⟨caC u C x a b, ?_, bC1_keep h ⟨fPC_I (fPC_I (fPC_I (fPC_L f (by unfold pwC; omega)) (by unfold pwC; omega)) (by unfold pwC; omega)) (by unfold pwC; omega), L, S, V, C + 1, F, b1, ?_, b3, ?_, b5, ?_, by omega, by simp [caC, gI_sI], b9, ?_⟩ (fun k j q => caC_W k j (by omega) (by omega))⟩
    · unfold ce_C_keepCall caC
      rw [b8, if_pos (show nI C < 500 from nI_lt (b := 500) g (by decide))]
      simp [zlet, zgd, gI_sI, gI_sL, b8, hz, hx, nI_1]
    · rw [caC_W _ _ (by omega) (by omega)]; exact b2
    · rw [caC_W _ _ (by omega) (by omega)]; exact b4
    · rw [caC_W _ _ (by omega) (by omega)]; exact b6
    · rw [caC_W _ _ (by omega) (by omega)]; exact b10
  · refine ⟨u, ?_, h⟩
    unfold ce_C_keepCall
    rw [b8, if_neg (show ¬ nI C < 500 from nI_nlt (b := 500) (by omega) (by omega))]
/-! the class's recursion, a step each -/
theorem ceE_s (n k : Nat) (u : zMu) (x : Int32) : ce_C_compileE n (k + 1) u x = ce_C_compileE_b n (ce_C_compileE n k) (ce_C_compileRest n k) (ce_C_compilePost n k) u x := rfl
theorem ceR_s (n k : Nat) (u : zMu) (x : Int32) : ce_C_compileRest n (k + 1) u x = ce_C_compileRest_b n (ce_C_compileE n k) u x := rfl
theorem ceP_s (n k : Nat) (u : zMu) : ce_C_compilePost n (k + 1) u = ce_C_compilePost_b n (ce_C_compileItem n k) (ce_C_compileOne n k) u := rfl
theorem ceI_s (n k : Nat) (u : zMu) : ce_C_compileItem n (k + 1) u = ce_C_compileItem_b n (ce_C_compileE n k) u := rfl
theorem ceO_s (n k : Nat) (u : zMu) : ce_C_compileOne n (k + 1) u = ce_C_compileOne_b n (ce_C_compileE n k) (ce_C_compileNegated n k) (ce_C_compileMade n k) (ce_C_compileNamed n k) u := rfl
theorem ceN_s (n k : Nat) (u : zMu) : ce_C_compileNegated n (k + 1) u = ce_C_compileNegated_b n (ce_C_compileOne n k) u := rfl
theorem ceM_s (n k : Nat) (u : zMu) (x : Int32) : ce_C_compileMade n (k + 1) u x = ce_C_compileMade_b n (ce_C_compileE n k) u x := rfl
theorem ceD_s (n k : Nat) (u : zMu) : ce_C_compileNamed n (k + 1) u = ce_C_compileNamed_b n (ce_C_compileArguments n k) u := rfl
theorem ceA_s (n k : Nat) (u : zMu) : ce_C_compileArguments n (k + 1) u = ce_C_compileArguments_b n (ce_C_compileE n k) u := rfl
theorem w1_one (n k : Nat) {X : pCx} {u : zMu} {w : Nat} (hX : xOk X) (h : bC1 X w u) : ∃ r v, ce_C_compileOne n (k + 1) u = some (r, v) ∧ bC1 X w v := by
  obtain ⟨v, e, hv⟩ := bC1_refuse n hX h
  refine ⟨0, v, ?_, hv⟩
  rw [ceO_s]
  unfold ce_C_compileOne_b
  rw [h.2.2.2.2.1]
  show zbd (ce_C_refuse n u) _ = _
  rw [zbd_e e]
theorem w1_post (n k : Nat) (hn : 2000 ≤ n) {X : pCx} {u : zMu} {w : Nat} (hX : xOk X) (h : bC1 X w u) : ∃ r v, ce_C_compilePost n (k + 2) u = some (r, v) ∧ bC1 X w v := by
  obtain ⟨r, v, e, hv⟩ := w1_one n k hX h
  refine ⟨r, v, ?_, hv⟩
  rw [ceP_s]
  unfold ce_C_compilePost_b
  rw [zbd_e e]
  obtain ⟨m, rfl⟩ : ∃ y, n = y + 1 := ⟨n - 1, by omega⟩
  rw [ce_C_compilePost_L7, hv.2.2.2.2.1]
  rfl
theorem w1_L20 (n m : Nat) (f : zMu → Int32 → Option (Int32 × zMu)) (g : zMu → Int32 → Option (Unit × zMu)) (p : zMu → Option (Int32 × zMu)) {X : pCx} {u : zMu} {w : Nat} (h : bC1 X w u) (l : Int32) (r x3 : Int32) : ce_C_compileE_L20 n f g p (m + 1) u l r x3 = some (r, u) := by
  rw [ce_C_compileE_L20]
  have hb : ce_C_bindsAt n u l = some (0, u) := by
    unfold ce_C_bindsAt
    rw [h.2.2.2.2.1]
    show (if l = 0 then (if (256 : Int32) = 60 then _ else if (256 : Int32) = 260 then _ else some (0, u)) else if l = 1 then (if (256 : Int32) = 43 then _ else if (256 : Int32) = 45 then _ else some (0, u)) else if (256 : Int32) = 42 then _ else some (0, u)) = _
    by_cases a : l = 0
    · rw [if_pos a, if_neg (show ¬ (256 : Int32) = 60 by decide), if_neg (show ¬ (256 : Int32) = 260 by decide)]
    · rw [if_neg a]
      by_cases b : l = 1
      · rw [if_pos b, if_neg (show ¬ (256 : Int32) = 43 by decide), if_neg (show ¬ (256 : Int32) = 45 by decide)]
      · rw [if_neg b, if_neg (show ¬ (256 : Int32) = 42 by decide)]
  by_cases g : x3 < 1500
  · rw [if_pos g, zbd_e hb, if_pos rfl]
  · rw [if_neg g]
theorem w1_E (n : Nat) (hn : 2000 ≤ n) {X : pCx} {u : zMu} {w : Nat} (hX : xOk X) (h : bC1 X w u) : ∀ l k, l ≤ 3 → 6 - l ≤ k → ∃ r v, ce_C_compileE n k u (nI l) = some (r, v) ∧ bC1 X w v := by
  have go : ∀ d l k, 3 - l = d → l ≤ 3 → 6 - l ≤ k → ∃ r v, ce_C_compileE n k u (nI l) = some (r, v) ∧ bC1 X w v := by
    intro d
    induction d with
    | zero =>
      intro l k hd hl hk
      have e : l = 3 := by omega
      subst e
      obtain ⟨k, rfl⟩ : ∃ y, k = y + 3 := ⟨k - 3, by omega⟩
      obtain ⟨r, v, e, hv⟩ := w1_post n k hn hX h
      refine ⟨r, v, ?_, hv⟩
      rw [ceE_s]
      unfold ce_C_compileE_b
      rw [if_neg (show ¬ nI 3 < 3 by decide), zbd_e e]
    | succ d ih =>
      intro l k hd hl hk
      obtain ⟨k, rfl⟩ : ∃ y, k = y + 1 := ⟨k - 1, by omega⟩
      obtain ⟨r, v, e, hv⟩ := ih (l + 1) k (by omega) (by omega) (by omega)
      refine ⟨r, v, ?_, hv⟩
      rw [ceE_s]
      unfold ce_C_compileE_b
      rw [if_pos (show nI l < 3 from nI_lt (b := 3) (by omega) (by decide)), nI_1, zbd_e e]
      obtain ⟨m, rfl⟩ : ∃ y, n = y + 1 := ⟨n - 1, by omega⟩
      exact w1_L20 _ m _ _ _ hv _ _ _
  exact fun l k hl hk => go (3 - l) l k rfl hl hk
