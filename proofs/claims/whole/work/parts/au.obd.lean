/-! THE OBJECT: read, whole -/
/-- what is told of a program that was taken once more -/
theorem oOb_cv {B : Nat → Nat} {s p : Nat} {C D : kC} {ur uc vr vc : zMu} (h : oOb B s C p ur uc) (g : oOb B s D p vr vc) (hc : ∀ a j, p ≤ a → a ≤ p + 10 → zI vc a j = zI uc a j) (eN : xN (cX C) = xN (cX D)) (eP : ∀ w, w < xN (cX D) → xPK (cX C) w = xPK (cX D) w) : oOb B s C p vr vc := by
  obtain ⟨⟨a1, a2, a3⟩, ⟨b1, b2, b3⟩, c, d, ⟨e1, e2⟩, f⟩ := h
  obtain ⟨⟨x1, x2, x3⟩, ⟨y1, y2, y3⟩, z, r, ⟨t1, t2⟩, u⟩ := g
  have eF : cF C = cF D := by
    rw [hc p 12 (by omega) (by omega), a3] at x3
    exact (nI_eq (by omega) (by omega)).mp x3
  have eS : cS C = cS D := by
    rw [hc p 8 (by omega) (by omega), b3] at y3
    exact (nI_eq (by omega) (by omega)).mp y3
  refine ⟨⟨a1, by rw [eF]; exact x2, by rw [eF]; exact x3⟩, ⟨b1, by rw [eS]; exact y2, by rw [eS]; exact y3⟩, fun s hs => ?_, fun f hf => r f (by omega), ⟨t1, t2⟩, fun w hw => nmR_cg (u w (by omega)) (eP w (by omega)) rfl rfl⟩
  obtain ⟨k, k1, k2, k3, k4, k5, k6⟩ := c s hs
  obtain ⟨l, l1, l2, l3, l4, l5, l6⟩ := z s (by omega)
  have e : k = l := by
    rw [hc (p + 4) s (by omega) (by omega), k3] at l3
    exact (nI_eq (by omega) (by omega)).mp l3
  subst e
  exact ⟨k, k1, l2, l3, k4, l5, l6⟩
theorem oTk.pg {B : Nat → Nat} {s p : Nat} {X : pCx} {vr vc : zMu} (h : oTk B s p X vr vc) (ok : zI vc 2 3 = 0) : pPg X vr vc := by
  rcases h.2.2.2.2.2.2.2 with y | ⟨w, -, y⟩
  · exact y
  · exact absurd (ok.symm.trans y.2.2.1) (by decide)
/-- what is told of a program, just taken -/
theorem oOb_tk {B : Nat → Nat} {s p : Nat} {X : pCx} {vr vc ur uc : zMu} (h : oTk B s p X vr vc) (ok : zI vc 2 3 = 0) (hb : ∀ a j, pcA a j → zI ur a j = zI vr a j) (hv : ∀ a j, p ≤ a → a ≤ p + 10 → zI uc a j = zI vc a j ∧ zL uc a j = zL vc a j) (hd : zdy uc = true) (d15 : zI uc p 15 = nI s) : ∃ S b M, oOb B s (X, (xF X, S), (ur, b), M) p ur uc := by
  have hP := h.pg ok
  obtain ⟨hX, rfl, es, hm, -, -, -, -⟩ := h
  obtain ⟨S, cr, cc, tb, z, M, ht, q, P, -, -, d33, d20, d16, d14⟩ := k_stat (v := zsR uc 34 6 (xp X)) hX hP ok hb (fun a j x y => hv a j x y) (by rw [gR_sR, if_pos ⟨rfl, rfl⟩]) (zdy_sR hd (by have := hX.1; omega))
  exact ⟨S, zsR uc 34 6 (xp X), M, oOb_of P (fun _ _ _ _ => rfl) d33 d20 d16 d14 d15 (fun w hw => nmR_cg (hm w hw) rfl (hb 7 w (by unfold pcA; omega)) (hb 8 w (by unfold pcA; omega)))⟩
theorem kOt_R {C : kC} {W : kW} {T : Nat} {ur uc : zMu} (h : kOt C W T ur uc) (a j p : Nat) : kOt C W T ur (zsR uc a j p) := h
/-- after a fault: the old text is taken once more -/
theorem o_back (n k : Nat) (hn : 50000000 ≤ n) (hkk : 120 ≤ k) {K : Nat × Nat} {ur uc u2 wc : zMu} {p q s T : Nat} {B : Nat → Nat} {C : kC} {W : kW} (h2 : pKy ur uc) (h4 : rKn uc) (h6 : oMm K uc) (h7 : (p = 12 ∧ q = 23) ∨ (p = 23 ∧ q = 12)) (h8 : zR uc 0 4 = p) (h9 : zR uc 0 5 = q) (h11 : kOt C W T ur uc) (h12 : oOb B s C p ur uc) (h13 : oAl n k B s p C ur uc)
    (ro : rRo u2) (hr : ∀ a j, ¬ (a ≤ 26 ∧ tgR a j = 0) → zI u2 a j = zI ur a j) (hr2 : u2.2 = ur.2) (tx : oTx B s u2) (z3 : zI u2 0 3 = 0) (z5 : zI u2 0 5 = zI ur 0 5) (z9 : ∀ j, zI u2 9 j = zI ur 9 j)
    (kn : rKn wc) (hc : ∀ a j, ¬ ((a = 0 ∧ j = 1) ∨ pcB q a) → zI wc a j = zI uc a j) (hl : ∀ a j, ¬ pcB q a → zL wc a j = zL uc a j) (hR : ∀ a j, ¬ (a = 2 ∧ j = 1) → zR wc a j = zR uc a j) (hR2 : zR wc 2 1 = q) (hN : wc.2.2.2 = uc.2.2.2) (w1 : zI wc 0 1 = 0) (ft : zI wc 2 3 = zI u2 0 18 ∧ zI wc 2 4 = zI u2 0 19) :
    ∃ v, rf_takes n k u2 = some ((), v) ∧ zI v 0 18 = zI u2 0 18 ∧ oI n k K v wc := by
  have hp : p = 12 ∨ p = 23 := by omega
  obtain ⟨o1, o2, o3, o4⟩ := h6
  have nN : ∀ a, zN wc a = zN uc a := fun a => by unfold zN; rw [hN]
  have zcE : zc wc = zc uc := by unfold zc; rw [hN]
  have dW : zdy wc = true := by
    have o2 := of_decide_eq_true o2
    obtain ⟨x1, x2, x3, x4⟩ := o2
    refine decide_eq_true ⟨by rw [hR 0 4 (by omega)]; exact x1, by rw [hR 0 5 (by omega)]; exact x2, by rw [hR2]; omega, by rw [hR 34 6 (by omega)]; exact x4⟩
  have mm : oMm K wc := by
    refine ⟨oW_keep o1 (fun a j x y => hc a j (by unfold pcB; omega)) (fun a _ => nN a), dW, ?_, ?_⟩
    · rw [zcE]; unfold pA at o3 ⊢; simp only [nN]; exact o3
    · rw [zcE]; unfold pB at o4 ⊢; simp only [nN]; exact o4
  have cP : ∀ a j, p ≤ a → a ≤ p + 10 → zI wc a j = zI uc a j ∧ zL wc a j = zL uc a j := fun a j x y => ⟨hc a j (by unfold pcB; omega), hl a j (by unfold pcB; omega)⟩
  have fC0 : fT tgC [0] (zsR uc 2 1 q) wc := by
    have tg0 : ∀ a j, (a = 0 ∧ j = 1) ∨ pcB q a → tgC a j = 0 := fun a j y => by
      unfold pcB at y
      unfold tgC
      rw [if_neg (by omega), if_neg (by omega)]
      unfold rtC
      repeat rw [if_neg (by omega)]
    refine ⟨fun a j y => ?_, fun a j y => ?_, ?_, fun a _ => nN a, ?_, ?_, vKp_s (fun a j y => ?_) (fun a _ => nN a)⟩
    · exact hc a j (fun z => y (by rw [tg0 a j z]; decide))
    · exact hl a j (fun z => y (by rw [tg0 a 0 (Or.inr z)]; decide))
    · refine funext fun a => funext fun j => ?_
      show zR wc a j = zR (zsR uc 2 1 q) a j
      rw [gR_sR]
      by_cases y : a = 2 ∧ j = 1
      · rw [if_pos y, y.1, y.2, hR2]
      · rw [if_neg y, hR a j y]
    · rw [zcE]
      have : pA wc = pA (zsR uc 2 1 q) := by unfold pA; simp only [nN]; rfl
      rw [this]
      exact Nat.le_refl _
    · rw [zcE]
      have : pB wc = pB (zsR uc 2 1 q) := by unfold pB; simp only [nN]; rfl
      rw [this]
      exact Nat.le_refl _
    · exact hc a j (by unfold pcB; omega)
  -- the end, for the picture v that taking leaves
  have fin : ∀ v, fA u2 v → rRo v → oOb B s C p v wc → oAl n k B s p C v wc → oI n k K v wc := by
    intro v fa rv oo al
    have kv : kOt C W T v wc := by
      refine kOt_k (kOt_R h11 2 1 q) (ts := [0]) (fT_pFr (S := fun a j => a ≤ 26 ∧ tgR a j = 0) ⟨fun a j y => ?_, ?_⟩ (fun a j y => by rw [y.2]; decide) (fun j => by omega)) fC0 (fun t x y => by simp; omega)
      · have y2 : ¬ pcA a j := fun z => y ⟨by unfold pcA at z; omega, pcA_tg z⟩
        rw [fa.2 a j y2]; exact hr a j y
      · rw [fa.1, hr2]
    refine ⟨0, p, q, B, s, C, W, T, ⟨(fa.2 0 3 (by unfold pcA; omega)).trans z3, w1, by omega, fun j hj => absurd hj (Nat.not_lt_zero j)⟩, ⟨⟨fun j hj => ?_, fun k hk => (hl 8 k (by unfold pcB; omega)).trans (h2.2 k hk)⟩, rv, kn⟩, ?_, mm, ⟨h7, (hR 0 4 (by omega)).trans h8, (hR 0 5 (by omega)).trans h9⟩, ⟨tx.1, tx.2.1, (fa.2 0 4 (by unfold pcA; omega)).trans tx.2.2.1, fun j hj => (fa.2 2 j (by unfold pcA; omega)).trans (tx.2.2.2 j hj)⟩, kv, oo, al⟩
    · rw [fa.2 9 j (by unfold pcA; omega), z9]; exact h2.1 j hj
    · rw [fa.2 0 18 (by unfold pcA; omega), fa.2 0 19 (by unfold pcA; omega)]; exact ft
  rcases h13 with ⟨a1, a2, a3, a4, a5, a6, a7⟩ | ⟨a1, a2, X, a3, a4⟩
  · -- no program yet
    subst a3
    have hx : pTx B 0 u2 uc := ⟨by omega, tx.2.1, tx.2.2.1, fun j hj => absurd hj (Nat.not_lt_zero j), fun j hj => absurd hj (Nat.not_lt_zero j)⟩
    have hy : pKy u2 uc := pKy_cg h2 z9 (fun _ => rfl)
    obtain ⟨_, v, _, vc1, e1, -, -, fa, -, -, -, rv, -⟩ := p_takes n k (by omega) hkk hp hx hy ro h4
    obtain ⟨v', e2, r33, r39, r17⟩ := r_empty n k (by omega) (u := u2) tx.2.2.1
    have ev : v' = v := by
      rw [e1] at e2
      injection e2 with e2
      exact (congrArg Prod.snd e2).symm
    subst ev
    refine ⟨v', e1, fa.2 0 18 (by unfold pcA; omega), fin v' fa rv ?_ (Or.inl ⟨(fa.2 0 5 (by unfold pcA; omega)).trans (z5.trans a1), (hc 0 6 (by unfold pcB; omega)).trans a2, rfl, a4, a5, a6, (cP p 14 (by omega) (by omega)).1.trans a7⟩)⟩
    obtain ⟨⟨b1, b2, b3⟩, ⟨d1, d2, d3⟩, c, d, ⟨g1, g2⟩, f⟩ := h12
    refine ⟨⟨b1, by rw [a4]; exact r33, (cP p 12 (by omega) (by omega)).1.trans b3⟩, ⟨d1, by rw [a5]; exact r39, (cP p 8 (by omega) (by omega)).1.trans d3⟩, fun s hs => absurd hs (by omega), fun f hf => absurd hf (by omega), ⟨?_, (cP p 15 (by omega) (by omega)).1.trans g2⟩, fun w hw => absurd hw (by omega)⟩
    rw [(cP p 14 (by omega) (by omega)).1, a7, r17]
  · -- the program that there was
    have a3' := a3
    obtain ⟨uc0, vc0, vr0, ⟨y1, y2, y3⟩, y4, ok, tk0, hb, hv⟩ := a3'
    have hx : pTx B s u2 uc0 := ⟨tx.1, tx.2.1, tx.2.2.1, tx.2.2.2, y1⟩
    have hy : pKy u2 uc0 := ⟨fun j hj => (z9 j).trans (h2.1 j hj), y2⟩
    obtain ⟨_, v, b, vc1, e1, e2, tk, fa, -, -, -, rv, -⟩ := p_takes n k (by omega) hkk hp hx hy ro y3
    have ev : vc1 = vc0 := by
      rw [y4] at e2
      injection e2 with e2
      exact (congrArg Prod.snd e2).symm
    subst ev
    obtain ⟨Y, tkY⟩ := tk.o
    obtain ⟨nm1, nm2⟩ := nm_det tk0.1 tkY.1 tk0.2.2.2.2.2.1 tk0.2.2.2.2.2.2.1 tk0.2.2.2.2.1 tkY.2.2.2.2.2.1 tkY.2.2.2.2.2.2.1 tkY.2.2.2.2.1
    have cv : ∀ a j, p ≤ a → a ≤ p + 10 → zI wc a j = zI vc1 a j ∧ zL wc a j = zL vc1 a j := fun a j x y => ⟨(cP a j x y).1.trans (hv a j x y).1, (cP a j x y).2.trans (hv a j x y).2⟩
    obtain ⟨S, b', M, oo⟩ := oOb_tk tkY ok (fun _ _ _ => rfl) cv dW ((cP p 15 (by omega) (by omega)).1.trans h12.2.2.2.2.1.2)
    have sm : oSm C Y := ⟨a4.1.trans nm1, fun w hw => (a4.2 w (by omega)).trans (nm2 w (by omega))⟩
    exact ⟨v, e1, fa.2 0 18 (by unfold pcA; omega), fin v fa rv (oOb_cv h12 oo (fun a j x y => (cP a j x y).1) sm.1 sm.2) (Or.inr ⟨(fa.2 0 5 (by unfold pcA; omega)).trans (z5.trans a1), (hc 0 6 (by unfold pcB; omega)).trans a2, Y, ⟨uc0, vc1, v, ⟨y1, y2, y3⟩, y4, ok, tkY, fun _ _ _ => rfl, cv⟩, sm⟩)⟩
