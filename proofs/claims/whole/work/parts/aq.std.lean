/-! RUNNING: run, whole -/
theorem kLf_tg {a j : Nat} (h : kLf a j) : tgC a j ∈ tall := by
  rcases h with ⟨rfl, h⟩ | rfl | rfl | ⟨x, y⟩ | ⟨rfl, x, y⟩ | ⟨rfl, h⟩
  · rcases h with rfl | rfl | rfl | rfl <;> decide
  · rw [show tgC 43 j = 7 from rfl]; decide
  · rw [show tgC 44 j = 7 from rfl]; decide
  · by_cases q : a ≤ 58
    · rw [tgC_9 x q]; decide
    · have e : tgC a j = 10 := by
        have : a = 59 ∨ a = 60 ∨ a = 61 ∨ a = 62 ∨ a = 63 ∨ a = 64 ∨ a = 65 := by omega
        rcases this with rfl | rfl | rfl | rfl | rfl | rfl | rfl <;> rfl
      rw [e]; decide
  · rw [show tgC 45 j = 8 from rfl]; decide
  · rcases h with rfl | rfl | rfl | rfl | rfl | rfl | rfl | rfl <;> decide
theorem kAf_tg {a j : Nat} (h : kAf a j) : tgR a j ∈ tall := by
  rcases h with ⟨rfl, h⟩ | ⟨x, y⟩ | h
  · have q : j = 51 ∨ j = 52 ∨ j = 53 ∨ j = 54 ∨ j = 55 ∨ j = 56 ∨ j = 57 ∨ j = 58 ∨ j = 59 ∨ j = 60 ∨ j = 61 ∨ j = 62 ∨ j = 63 ∨ j = 64 ∨ j = 65 ∨ j = 66 ∨ j = 67 ∨ j = 68 ∨ j = 80 := by omega
    rcases q with rfl | rfl | rfl | rfl | rfl | rfl | rfl | rfl | rfl | rfl | rfl | rfl | rfl | rfl | rfl | rfl | rfl | rfl | rfl <;> decide
  · have e : tgR a j = 10 := by
      have : a = 61 ∨ a = 62 ∨ a = 63 ∨ a = 64 ∨ a = 65 ∨ a = 66 ∨ a = 67 := by omega
      rcases this with rfl | rfl | rfl | rfl | rfl | rfl | rfl <;> rfl
    rw [e]; decide
  · rw [tgR_9 (by omega) (by omega)]; decide
theorem zdy_sR {u : zMu} (h : zdy u = true) {k j p : Nat} (hp : p < 66) : zdy (zsR u k j p) = true := by
  have h := of_decide_eq_true h
  obtain ⟨h1, h2, h3, h4⟩ := h
  have e : ∀ a b, zR u a b < 66 → zR (zsR u k j p) a b < 66 := fun a b q => by
    rw [gR_sR]
    by_cases y : a = k ∧ b = j
    · rw [if_pos y]; exact hp
    · rw [if_neg y]; exact q
  exact decide_eq_true ⟨e _ _ h1, e _ _ h2, e _ _ h3, e _ _ h4⟩
theorem k_go (n : Nat) (hn : 50000000 ≤ n) {X : pCx} {vr0 vc0 ur uc : zMu} (hX : xOk X) (hP : pPg X vr0 vc0) (ok : zI vc0 2 3 = 0) (hb : ∀ a j, pcA a j → zI ur a j = zI vr0 a j) (hv : ∀ a j, xp X ≤ a → a ≤ xp X + 10 → zI uc a j = zI vc0 a j ∧ zL uc a j = zL vc0 a j) (hd : zdy uc = true) (hw : oW uc) {lim : Nat} (hl : lim ≤ 20000) :
    Rp (zbd (rf_anew n ur) fun _ u5 => rf_run_L31 n n u5 (nI lim) 0) (zbd (ce_M_load n (xp X) uc) fun _ u6 => zbd (ce_M_execute n u6 (nI lim)) fun r8 u9 => some (r8, u9)) (fun a vr b vc => b = a ∧ ∃ S M, kPs (X, (xF X, S), (ur, zsI (zsR uc 34 6 (xp X)) 34 14 (nI lim)), M) ∧ (zI ur 0 33 = nI (xF X) ∧ (∀ s, s < S → zI uc (xp X + 5) s = zI ur 20 s) ∧ (∀ f, f < xF X → zI uc (xp X + 10) f = zI ur 16 f) ∧ zI uc (xp X) 14 = zI ur 17 9) ∧ kFin (X, (xF X, S), (ur, zsI (zsR uc 34 6 (xp X)) 34 14 (nI lim)), M) a vr b vc) := by
  have hp := hX.1
  have hzp : zpr (xp X) = true := hX.zpr
  obtain ⟨base, hbase⟩ : ∃ base, zsI (zsR uc 34 6 (xp X)) 34 14 (nI lim) = base := ⟨_, rfl⟩
  rw [hbase]
  have bI : ∀ a j, ¬ (a = 34 ∧ j = 14) → zI base a j = zI uc a j := fun a j q => by subst hbase; rw [gI_sI, if_neg q, gI_sR]
  have bL : ∀ a j, zL base a j = zL uc a j := fun a j => by subst hbase; rfl
  have bN : ∀ a, zN base a = zN uc a := fun a => by subst hbase; rfl
  have b14 : zI base 34 14 = nI lim := by subst hbase; rw [gI_sI, if_pos ⟨rfl, rfl⟩]
  have bR : ∀ a j, zR base a j = if a = 34 ∧ j = 6 then xp X else zR uc a j := fun a j => by subst hbase; exact gR_sR uc 34 6 (xp X) a j
  have bd : zdy base = true := by
    subst hbase
    exact zdy_sR hd (by omega)
  have bv : ∀ a j, xp X ≤ a → a ≤ xp X + 10 → zI base a j = zI vc0 a j ∧ zL base a j = zL vc0 a j := fun a j x y => ⟨(bI a j (by omega)).trans (hv a j x y).1, (bL a j).trans (hv a j x y).2⟩
  obtain ⟨S, cr, cc, tb, z, M, ht, q, P, Q, ⟨q1, q2, q3, q4⟩, d33, d20, d16, d14⟩ := k_stat hX hP ok hb bv ((bR 34 6).trans (if_pos ⟨rfl, rfl⟩)) bd
  have oWb : oW base := oW_keep hw (fun a j x y => bI a j (by omega)) (fun a _ => bN a)
  -- the reference
  obtain ⟨a1, e1, f1, g1⟩ := r_anew n (by omega) ur
  obtain ⟨b1, e2, f2, -, g2⟩ := r_L31 n (nI lim) 12 0 n a1 (by omega) (by omega)
  rw [zbd_e e1]
  -- the class
  obtain ⟨w1, e3, f3, g3⟩ := c_load n (xp X) (by omega) uc
  rw [zbd_e e3]
  have w1e : ∀ a j, ¬ kLf a j → ¬ (a = 34 ∧ j = 14) → zI w1 a j = zI base a j := fun a j q k => by rw [f3.1 a j q, bI a j k, gI_sR]
  have r1 : ∀ a j, zR w1 a j = zR base a j := fun a j => by
    have : zR w1 a j = zR (zsR uc 34 6 (xp X)) a j := by unfold zR; rw [f3.2]
    rw [this]; subst hbase; rfl
  obtain ⟨w4, hw4⟩ : ∃ w4, zsI (zsI (zsI w1 34 14 (nI lim)) 34 13 (zI (zsI w1 34 14 (nI lim)) (xp X) 13)) 34 17 (-1) = w4 := ⟨_, rfl⟩
  have i4 : ∀ a j, ¬ (a = 34 ∧ (j = 13 ∨ j = 14 ∨ j = 17)) → zI w4 a j = zI w1 a j := fun a j q => by subst hw4; rw [gI_sI, if_neg (by omega), gI_sI, if_neg (by omega), gI_sI, if_neg (by omega)]
  have i414 : zI w4 34 14 = nI lim := by subst hw4; rw [gI_sI, if_neg (by omega), gI_sI, if_neg (by omega), gI_sI, if_pos ⟨rfl, rfl⟩]
  have i413 : zI w4 34 13 = nI (M q) := by
    have e : zI w1 (xp X) 13 = nI (M q) := by
      rw [w1e (xp X) 13 (by unfold kLf; omega) (by omega)]; exact q4
    subst hw4
    rw [gI_sI, if_neg (by omega), gI_sI, if_pos ⟨rfl, rfl⟩, gI_sI, if_neg (by omega), e]
  have i417 : zI w4 34 17 = -1 := by subst hw4; rw [gI_sI, if_pos ⟨rfl, rfl⟩]
  have F4 : fT tgC [0, 2, 12] w1 w4 := by subst hw4; exact fT_I (fT_I (fT_I (fT_rf _ _ _) _ 0 rfl (by decide)) _ 12 rfl (by decide)) _ 12 rfl (by decide)
  have B4 : fT tgC tall base w4 := by
    refine fT_pFr (S := fun a j => kLf a j ∨ (a = 34 ∧ (j = 13 ∨ j = 17))) ⟨fun a j q => ?_, ?_⟩ (fun a j q => ?_) (fun j => by unfold kLf; omega)
    · by_cases y : a = 34 ∧ j = 14
      · rw [y.1, y.2, i414, b14]
      · rw [i4 a j (by omega)]
        exact w1e a j (fun x => q (Or.inl x)) y
    · subst hw4
      show w1.2 = _
      rw [f3.2]; subst hbase; rfl
    · rcases q with q | ⟨rfl, q⟩
      · exact kLf_tg q
      · rcases q with rfl | rfl <;> decide
  have v4 : pVw 75 780 w4 := B4.2.2.2.2.2.2.1 oWb.2.2.2.1
  have v4' := B4.2.2.2.2.2.2.2 oWb.2.2.2.2.1 oWb.2.2.2.2.2
  obtain ⟨v, e5, p5, f5, n5, g5, s5, x5⟩ := kc_clrV n (D := 0) (by omega) 12 0 n w4 (by omega) (by omega) v4'.1 ((fT_dy B4).trans bd) ((i4 34 11 (by omega)).trans (g3.2.2.2.2.2.2.2.2.1 11 (by omega)))
  have e6 : ce_M_execute n w1 (nI lim) = ce_M_execute_L40 n n v (lN (2400 * (lim + 1))) (lN 0) := by
    unfold ce_M_execute
    simp only [zlet]
    have zr : zR (zsI w1 34 14 (nI lim)) 34 6 = xp X := (r1 34 6).trans ((bR 34 6).trans (if_pos ⟨rfl, rfl⟩))
    rw [zr, hzp, zgd_t, hw4]
    have e5' : ce_M_clearVariables n w4 = some ((), v) := e5
    rw [zbd_e e5', g5 34 14 (by omega), i414, nI_l (show lim < 2 ^ 31 by omega), lN_1, show lN (lim + 1) * 2400 = lN (2400 * (lim + 1)) from by rw [Nat.mul_comm]; exact lN_mul (lim + 1) 2400]
    rfl
  have Bv : fT tgC tall base v := fT_tr B4 (fT_mono f5 (by decide))
  have Fv : fT tgC [0, 2, 12] w1 v := fT_tr F4 (fT_mono f5 (by decide))
  have Rb : fT tgR tall ur b1 := fT_tr (fT_pFr f1 (fun a j q => kAf_tg q) (fun j => by unfold kAf; omega)) (fT_pFr f2 (fun a j q => by subst q; rw [show tgR 28 j = 2 from rfl]; decide) (fun j => by omega))
  have Rb2 : fT tgR [0, 2, 12] a1 b1 := fT_pFr f2 (fun a j q => by subst q; rw [show tgR 28 j = 2 from rfl]; decide) (fun j => by omega)
  have oW1 : oW w1 := oW_keep oWb (fun a j x y => w1e a j (by unfold kLf; omega) (by omega)) (fun a _ => by
    have : zN w1 a = zN (zsR uc 34 6 (xp X)) a := by unfold zN; rw [f3.2]
    rw [this, bN]; rfl)
  have O1 : kOt (X, (xF X, S), (ur, base), M) W0 0 b1 v := kOt_k (kOt_0 P.2.2.2.1.1 P.2.2.2.2.1.1 g1 g3 oW1) Rb2 Fv (fun t x y => by simp; omega)
  have G : kGd (X, (xF X, S), (ur, base), M) W0 [] 0 0 b1 v := by
    refine ⟨⟨Rb, Bv⟩, ⟨?_, ?_, by omega, Bv.2.2.2.2.2.2.1 oWb.2.2.2.1, fun j hj => absurd hj (Nat.not_lt_zero j)⟩, ⟨by show (0 : Nat) ≤ 12; omega, p5, ?_, fun j hj => ?_⟩, ⟨by show (0 : Nat) ≤ 12; omega, ?_, ?_, trivial⟩, O1⟩
    · rw [f2.1 0 51 (by omega)]; exact (g1.1 51 (by omega)).trans (if_neg (by omega))
    · rw [g5 34 8 (by omega), i4 34 8 (by omega)]; exact g3.2.2.2.2.2.2.2.2.1 8 (by omega)
    · exact (Bv.2.2.2.2.2.2.2 oWb.2.2.2.2.1 oWb.2.2.2.2.2).2
    · have hj : j < 12 := hj
      rw [g2 j (by omega) hj, s5, if_pos (by omega), x5, if_pos (by omega)]
      exact vR_0 _ _ _
    · rw [f2.1 0 52 (by omega)]; exact (g1.1 52 (by omega)).trans (if_neg (by omega))
    · rw [g5 34 11 (by omega), i4 34 11 (by omega)]; exact g3.2.2.2.2.2.2.2.2.1 11 (by omega)
  have A : kAt (X, (xF X, S), (ur, base), M) cr z lim ht W0 [] 0 q b1 v := by
    refine ⟨?_, q1, trivial, fun y => absurd rfl y, ?_, Nat.zero_le _, ?_, ?_⟩
    · rw [q2]; exact G
    · rw [q2]; exact Nat.le_refl _
    · rw [g5 34 13 (by omega)]; exact i413
    · rw [g5 34 17 (by omega)]; exact i417
  have H := k_loop n (by omega) P Q hl b14 (2400 * (lim + 1)) (2400 * (lim + 1)) (Nat.le_refl _) W0 [] 0 q 0 n n b1 v A (by show 0 + 2400 * 0 ≤ _; omega) (by omega) (by omega) (by omega)
  rw [zbd_i, e6]
  have e2' : rf_run_L31 n n a1 (nI lim) 0 = rf_run_L57 n n b1 (nI lim) (nI q) (-1) := by
    have e34 : zI a1 0 34 = nI q := (f1.1 0 34 (by unfold kAf; omega)).trans q3
    rw [← e34]; exact e2
  rw [e2']
  refine rp_mono H (fun a wr b wc k => ⟨k.1, S, M, P, ⟨d33, fun s hs => ?_, fun f hf => ?_, ?_⟩, k⟩)
  · rw [← bI (xp X + 5) s (by omega)]; exact d20 s hs
  · rw [← bI (xp X + 10) f (by omega)]; exact d16 f hf
  · rw [← bI (xp X) 14 (by omega)]; exact d14
