/-! PARSING, nineteenth part: once a text is refused: the reference -/
def bR1 (X : pCx) (w K : Nat) (u : zMu) : Prop := fPR (xr X) u ∧ w ≤ 1500 ∧ zI u 0 15 = nI w ∧ (∃ c, c ≤ K ∧ zI u 0 24 = nI c) ∧ (∃ C, C + 1700 ≤ K ∧ zI u 0 44 = nI C) ∧ ∃ r V, r ≤ 9 ∧ V ≤ 12 ∧ ((r = 9 ∧ zI u 0 27 = -1) ∨ (r < 8 ∧ zI u 0 27 = nI r)) ∧ zI u 17 r = nI V
theorem bR1_K {X : pCx} {w K K' : Nat} {u : zMu} (h : bR1 X w K u) (k : K ≤ K') : bR1 X w K' u := by
  obtain ⟨h1, h2, h3, ⟨c, c1, c2⟩, ⟨C, d1, d2⟩, h6⟩ := h
  exact ⟨h1, h2, h3, ⟨c, by omega, c2⟩, ⟨C, by omega, d2⟩, h6⟩
theorem bR1_keep {X : pCx} {w K : Nat} {u v : zMu} (h : bR1 X w K u) (f : fPR (xr X) v) (hr : ∀ k j, (k = 0 ∧ (j = 15 ∨ j = 24 ∨ j = 27 ∨ j = 44)) ∨ k = 17 → zI v k j = zI u k j) : bR1 X w K v := by
  obtain ⟨h1, h2, h3, ⟨c, c1, c2⟩, ⟨C, d1, d2⟩, r, V, r1, r2, r3, r4⟩ := h
  exact ⟨f, h2, by rw [hr 0 15 (by omega)]; exact h3, ⟨c, c1, by rw [hr 0 24 (by omega)]; exact c2⟩, ⟨C, d1, by rw [hr 0 44 (by omega)]; exact d2⟩, r, V, r1, r2, by rw [hr 0 27 (by omega)]; exact r3, by rw [hr 17 r (by omega)]; exact r4⟩
theorem bR1_set {X : pCx} {w K : Nat} {u : zMu} (h : bR1 X w K u) {k j : Nat} (v : Int32) (hk : pwR k j) (hn : ¬ ((k = 0 ∧ (j = 15 ∨ j = 24 ∨ j = 27 ∨ j = 44)) ∨ k = 17)) : bR1 X w K (zsI u k j v) :=
  bR1_keep h (fPR_I h.1 hk) (fun a b q => by rw [gI_sI, if_neg (by omega)])
theorem r1_isWrong (n : Nat) {X : pCx} {w K : Nat} {u : zMu} (h : bR1 X w K u) : rf_isWrong n u = some (1, u) := r_isWrong1 n (by rw [h.2.2.1]; exact nI_m1 (by have := h.2.1; omega))
theorem r1_emit (n : Nat) {X : pCx} {w K : Nat} {u : zMu} (h : bR1 X w K u) (hK : K < 4000) (o a b c : Int32) : ∃ v, rf_emit n u o a b c = some ((), v) ∧ bR1 X w (K + 1) v := by
  obtain ⟨h1, h2, h3, ⟨cr, c1, c2⟩, ⟨C, d1, d2⟩, r, V, r1, r2, r3, r4⟩ := h
  refine ⟨_, r_emit n c2 (by omega) o a b c, fPR_em h1, h2, ?_, ⟨cr + 1, by omega, rfl⟩, ⟨C, by omega, ?_⟩, r, V, r1, r2, ?_, ?_⟩
  · rw [emR_W _ _ (by omega) (by omega)]; exact h3
  · rw [emR_W _ _ (by omega) (by omega)]; exact d2
  · rw [emR_W _ _ (by omega) (by omega)]; exact r3
  · rw [emR_W _ _ (by omega) (by omega)]; exact r4
theorem r1_want (n : Nat) {X : pCx} {w K : Nat} {u : zMu} (h : bR1 X w K u) (x : Int32) : rf_want n u x = some ((), u) := by
  unfold rf_want
  rw [zbd_e (r1_isWrong n h), if_neg (by decide)]
theorem r1_opens (n : Nat) {X : pCx} {w K : Nat} {u : zMu} (h : bR1 X w K u) (x : Int32) : rf_opens n u x = some ((), u) := by
  unfold rf_opens
  rw [zbd_e (r1_isWrong n h), if_neg (by decide)]
theorem r1_closes (n : Nat) {X : pCx} {w K : Nat} {u : zMu} (h : bR1 X w K u) (x : Int32) : ∃ v, rf_closes n u x = some ((), v) ∧ bR1 X w K v := by
  refine ⟨_, ?_, bR1_set h (k := 0) (j := 26) (zI u 0 26 - 1) (by unfold pwR; omega) (by omega)⟩
  unfold rf_closes
  rw [zbd_e (r1_want n h x)]
  rfl
theorem r1_faulty (n : Nat) {X : pCx} {w K : Nat} {u : zMu} (h : bR1 X w K u) : rf_faulty n u = some ((), u) := by
  unfold rf_faulty
  rw [if_neg (by rw [h.2.2.1]; exact nI_m1 (by have := h.2.1; omega))]
theorem r1_find (n : Nat) (hn : 2000 ≤ n) {X : pCx} {w K : Nat} {u : zMu} (h : bR1 X w K u) (x : Int32) : ∃ r, rf_findVar n u x = some (r, u) := by
  obtain ⟨h1, h2, h3, -, -, r, V, r1, r2, r3, r4⟩ := h
  have main : ∀ d j m, V - j = d → j ≤ V → d < m → ∃ y, rf_findVar_L20 n m u x (nI r) (nI j) = some (y, u) := by
    intro d
    induction d with
    | zero =>
      intro j m hd hj hm
      obtain ⟨m, rfl⟩ : ∃ y, m = y + 1 := ⟨m - 1, by omega⟩
      exact ⟨-1, by unfold rf_findVar_L20; rw [zin_nI (show r < 10 by omega) (by decide), zx_nI (by omega), r4, zgd_t, if_neg (nI_nlt (by omega) (by omega))]⟩
    | succ d ih =>
      intro j m hd hj hm
      obtain ⟨m, rfl⟩ : ∃ y, m = y + 1 := ⟨m - 1, by omega⟩
      have hidx : (13 : Int32) * nI r + nI j = nI (13 * r + j) := by
        rw [show (13 : Int32) * nI r = nI (13 * r) from pk_mul 13 r, nI_add]
      rw [rf_findVar_L20, zin_nI (show r < 10 by omega) (by decide), zx_nI (show r < 2 ^ 31 by omega), r4, zgd_t, if_pos (nI_lt (by omega) (by omega)), hidx, zin_nI (show 13 * r + j < 130 by omega) (by decide), zgd_t]
      by_cases g : zI u 18 (zx (nI (13 * r + j))) = x
      · exact ⟨nI j, by rw [if_pos g]⟩
      · obtain ⟨y, hy⟩ := ih (j + 1) m (by omega) (by omega) (by omega)
        exact ⟨y, by rw [if_neg g]; show rf_findVar_L20 n m u x (nI r) (nI j + 1) = _; rw [nI_1]; exact hy⟩
  obtain ⟨y, hy⟩ := main V 0 n (by omega) (by omega) (by omega)
  refine ⟨y, ?_⟩
  unfold rf_findVar
  rcases r3 with ⟨rfl, q⟩ | ⟨-, q⟩
  · rw [if_pos q]; exact hy
  · rw [if_neg (by rw [q]; exact nI_m1 (by omega)), q]; exact hy
theorem r1_notes (n : Nat) {X : pCx} {w K : Nat} {u : zMu} (h : bR1 X w K u) (a b : Int32) : ∃ v, rf_notes n u a b = some ((), v) ∧ bR1 X w K v := by
  have hs : bR1 X w K (zsI (zsI u 0 16 a) 0 17 b) := bR1_set (bR1_set h a (by unfold pwR; omega) (by omega)) b (by unfold pwR; omega) (by omega)
  unfold rf_notes
  by_cases g1 : zI u 0 16 = -1
  · exact ⟨_, by rw [if_pos g1]; rfl, hs⟩
  · by_cases g2 : a < zI u 0 16
    · exact ⟨_, by rw [if_neg g1, if_pos g2]; rfl, hs⟩
    · by_cases g3 : a = zI u 0 16
      · by_cases g4 : b < zI u 0 17
        · exact ⟨_, by rw [if_neg g1, if_neg g2, if_pos g3, if_pos g4]; rfl, hs⟩
        · exact ⟨_, by rw [if_neg g1, if_neg g2, if_pos g3, if_neg g4], h⟩
      · exact ⟨_, by rw [if_neg g1, if_neg g2, if_neg g3], h⟩
theorem r1_addVar (n : Nat) (hn : 2000 ≤ n) {X : pCx} {w K : Nat} {u : zMu} (h : bR1 X w K u) (x P : Int32) : ∃ v, rf_addVar n u x P = some ((), v) ∧ bR1 X w K v := by
  obtain ⟨y, hy⟩ := r1_find n hn h x
  obtain ⟨h1, h2, h3, h4, h5, r, V, r1, r2, r3, r4⟩ := id h
  have hz : zin (nI r) 10 = true := zin_nI (by omega) (by decide)
  have hx : zx (nI r) = r := zx_nI (by omega)
  have j17 : ∃ v, rf_addVar_J17 n u x P (nI r) = some ((), v) ∧ bR1 X w K v := by
    unfold rf_addVar_J17
    rw [zbd_e hy]
    by_cases g : y = -1
    · rw [if_pos g, hz, hx, zgd_t, r4]
      by_cases g2 : V = 12
      · obtain ⟨v, e, hv⟩ := r1_notes n h P 3
        exact ⟨v, by rw [if_pos (show nI V = 12 by rw [g2]; rfl), zbd_e e], hv⟩
      · have hidx : (13 : Int32) * nI r + nI V = nI (13 * r + V) := by
          rw [show (13 : Int32) * nI r = nI (13 * r) from pk_mul 13 r, nI_add]
        have hz2 : zin (nI (13 * r + V)) 130 = true := zin_nI (by omega) (by decide)
        have hx2 : zx (nI (13 * r + V)) = 13 * r + V := zx_nI (by omega)
        have hf : fPR (xr X) (zsI (zsI u 17 r (nI (V + 1))) 18 (13 * r + V) x) := fPR_I (fPR_I h1 (by unfold pwR; omega)) (by unfold pwR; omega)
        have hk : ∀ k j, k = 0 → zI (zsI (zsI u 17 r (nI (V + 1))) 18 (13 * r + V) x) k j = zI u k j := fun k j q => by rw [gI_sI, if_neg (by omega), gI_sI, if_neg (by omega)]
        refine ⟨zsI (zsI u 17 r (nI (V + 1))) 18 (13 * r + V) x, ?_, hf, h2, by rw [hk 0 15 rfl]; exact h3, by rw [hk 0 24 rfl]; exact h4, by rw [hk 0 44 rfl]; exact h5, r, V + 1, r1, by omega, by rw [hk 0 27 rfl]; exact r3, by rw [gI_sI, if_neg (by omega), gI_sI, if_pos ⟨rfl, rfl⟩]⟩
        rw [if_neg (show ¬ nI V = 12 from fun q => g2 ((nI_eq (a := V) (b := 12) (by omega) (by decide)).mp q))]
        simp [zlet, zgd, hidx, hz2, hx2, nI_1]
    · rw [if_neg g]
      exact ⟨u, rfl, h⟩
  unfold rf_addVar
  rcases r3 with ⟨rfl, q⟩ | ⟨-, q⟩
  · rw [if_pos q]; exact j17
  · rw [if_neg (by rw [q]; exact nI_m1 (by omega)), q]; exact j17
/-! the reference's recursion, a step each -/
theorem rfE_s (n k : Nat) (u : zMu) : rf_expr n (k + 1) u = rf_expr_b n (rf_sum n k) u := rfl
theorem rfS_s (n k : Nat) (u : zMu) : rf_sum n (k + 1) u = rf_sum_b n (rf_term n k) u := rfl
theorem rfT_s (n k : Nat) (u : zMu) : rf_term n (k + 1) u = rf_term_b n (rf_post n k) u := rfl
theorem rfP_s (n k : Nat) (u : zMu) : rf_post n (k + 1) u = rf_post_b n (rf_expr n k) (rf_one n k) u := rfl
theorem rfO_s (n k : Nat) (u : zMu) : rf_one n (k + 1) u = rf_one_b n (rf_expr n k) (rf_one n k) (rf_callOf n k) u := rfl
theorem rfC_s (n k : Nat) (u : zMu) (a b : Int32) : rf_callOf n (k + 1) u a b = rf_callOf_b n (rf_expr n k) u a b := rfl
theorem r1_one (n k : Nat) {X : pCx} {w K : Nat} {u : zMu} (h : bR1 X w K u) : rf_one n (k + 1) u = some ((), u) := by
  rw [rfO_s]
  unfold rf_one_b
  rw [zbd_e (r1_isWrong n h), if_neg (by decide)]
theorem r1_postL (n m : Nat) (f g : zMu → Option (Unit × zMu)) {X : pCx} {w K : Nat} {u : zMu} (h : bR1 X w K u) : rf_post_L4 n f g (m + 1) u = some ((), u) := by
  rw [rf_post_L4, zbd_e (r1_isWrong n h), if_neg (by decide)]
theorem r1_termL (n m : Nat) (f : zMu → Option (Unit × zMu)) {X : pCx} {w K : Nat} {u : zMu} (h : bR1 X w K u) : rf_term_L4 n f (m + 1) u = some ((), u) := by
  rw [rf_term_L4, zbd_e (r1_isWrong n h), if_neg (by decide)]
theorem r1_sumL (n m : Nat) (f : zMu → Option (Unit × zMu)) {X : pCx} {w K : Nat} {u : zMu} (h : bR1 X w K u) : rf_sum_L4 n f (m + 1) u = some ((), u) := by
  rw [rf_sum_L4, zbd_e (r1_isWrong n h), if_neg (by decide)]
theorem r1_expr (n k : Nat) (hn : 2000 ≤ n) {X : pCx} {w K : Nat} {u : zMu} (h : bR1 X w K u) : rf_expr n (k + 5) u = some ((), u) := by
  obtain ⟨m, rfl⟩ : ∃ y, n = y + 1 := ⟨n - 1, by omega⟩
  have e1 : rf_post (m + 1) (k + 2) u = some ((), u) := by
    rw [rfP_s]; unfold rf_post_b; rw [zbd_e (r1_one _ k h)]; exact r1_postL _ m _ _ h
  have e2 : rf_term (m + 1) (k + 3) u = some ((), u) := by
    rw [rfT_s]; unfold rf_term_b; rw [zbd_e e1]; exact r1_termL _ m _ h
  have e3 : rf_sum (m + 1) (k + 4) u = some ((), u) := by
    rw [rfS_s]; unfold rf_sum_b; rw [zbd_e e2]; exact r1_sumL _ m _ h
  rw [rfE_s]
  unfold rf_expr_b
  rw [zbd_e e3, zbd_e (r1_isWrong _ h), if_neg (by decide)]
/-- both refuse, at the same place -/
def pWx (X : pCx) (K : Nat) (vr vc : zMu) : Prop := ∃ w, bR1 X w K vr ∧ bC1 X w vc
theorem pOk.faulty (n : Nat) {X : pCx} {i i2 op cr cc S C tb e : Nat} {E : Nat → Prop} {M ht : Nat → Nat} {ur uc : zMu} (h : pOk X i i2 op cr cc S C tb e E M ht ur uc) (hX : xOk X) {K : Nat} (hK : cr ≤ K) (hK2 : 2200 ≤ K) : ∃ v, rf_faulty n ur = some ((), v) ∧ bR1 X (xpl X i) K v := by
  refine ⟨zsI ur 0 15 (nI (xpl X i)), ?_, ?_⟩
  · unfold rf_faulty
    rw [if_pos h.2.2.2.1.1, zbd_e (h.place hX n)]
    rfl
  · obtain ⟨g1, g2, g3, g4, g5, g6, g7, g8, g9, g10⟩ := h
    obtain ⟨r, V, F, vw, h0, h1, h2, h3, h4, h5⟩ := g6
    have hk : ∀ k j, ¬ (k = 0 ∧ j = 15) → zI (zsI ur 0 15 (nI (xpl X i))) k j = zI ur k j := fun k j q => by rw [gI_sI, if_neg q]
    refine ⟨fPR_I g1 (by unfold pwR; omega), hX.pl g3.1.1, by simp [gI_sI], ⟨cr, hK, by rw [hk _ _ (by omega)]; exact g8.1⟩, ⟨C, by have := g10.2.2.1; omega, by rw [hk _ _ (by omega)]; exact g10.1⟩, r, V, h2.1, h2.2.1, ?_, by rw [hk _ _ (by omega)]; exact h2.2.2.1⟩
    rw [hk _ _ (by omega)]
    rcases h1 with ⟨q, q1, -⟩ | ⟨q, q1, -⟩
    · exact Or.inl ⟨q, q1⟩
    · exact Or.inr ⟨q, q1⟩
theorem pOk.refuse (n : Nat) {X : pCx} {i i2 op cr cc S C tb e : Nat} {E : Nat → Prop} {M ht : Nat → Nat} {ur uc : zMu} (h : pOk X i i2 op cr cc S C tb e E M ht ur uc) (hX : xOk X) (hcc : cc ≤ 2400) : ∃ v, ce_C_refuse n uc = some ((), v) ∧ bC1 X (xpl X i2) v := bC0_refuse n hX (h.bC hcc)
