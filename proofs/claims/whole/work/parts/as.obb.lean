/-! THE OBJECT: run -/
theorem pcA_tg {a j : Nat} (h : pcA a j) : tgR a j = 0 := by
  unfold pcA at h
  unfold tgR
  by_cases z : a = 0
  · rw [if_pos z]
    unfold r0R
    repeat rw [if_neg (by omega)]
  · rw [if_neg z]
    unfold rtR
    repeat rw [if_neg (by omega)]
theorem pcP_tg {p a : Nat} (hp : p = 12 ∨ p = 23) (h1 : p ≤ a) (h2 : a ≤ p + 10) (j : Nat) : tgC a j = 0 := by
  unfold tgC
  rw [if_neg (by omega), if_neg (by omega)]
  unfold rtC
  repeat rw [if_neg (by omega)]
theorem no0 : ¬ 0 ∈ tall := by decide
theorem oW_of {C : kC} {W : kW} {T : Nat} {ur uc : zMu} (h : kOt C W T ur uc) (v1 : pVw 75 780 uc) (v2 : pVw 78 156 uc ∧ zN uc 79 = 156) : oW uc := by
  obtain ⟨h1, h2, h3, h4, h5, h6, h7, h8⟩ := h
  obtain ⟨-, -, U, fr, ov, ow, ⟨-, -, -, m4, m5, m6, m7, -⟩, -⟩ := h3
  obtain ⟨-, -, -, -, ⟨n1, n2, -, n4⟩, -⟩ := h4
  exact ⟨⟨m7, h5.2.2.2.2.1, h1.2.2.2.1⟩, ⟨m5, m6, m4⟩, ⟨n1, n2, n4⟩, v1, v2⟩
theorem pTape_cg {ur uc vr vc : zMu} {t : Nat} (h : pTape ur uc t) (r3 : zI vr 0 3 = zI ur 0 3) (r1 : ∀ j, zI vr 1 j = zI ur 1 j) (c1 : zI vc 0 1 = zI uc 0 1) (c2 : ∀ j, zI vc 1 j = zI uc 1 j) : pTape vr vc t := by
  obtain ⟨a, b, c, d⟩ := h
  refine ⟨r3.trans a, c1.trans b, c, fun j hj => ?_⟩
  obtain ⟨x, x1, x2, x3⟩ := d j hj
  exact ⟨x, x1, (r1 j).trans x2, (c2 j).trans x3⟩
/-- what is told of a program, out of what running wants -/
theorem oOb_of {B : Nat → Nat} {s S : Nat} {X : pCx} {M : Nat → Nat} {ur uc b : zMu} (P : kPs (X, (xF X, S), (ur, b), M)) (hb : ∀ a j, xp X ≤ a → a ≤ xp X + 10 → zI uc a j = zI b a j) (d33 : zI ur 0 33 = nI (xF X)) (d20 : ∀ s, s < S → zI uc (xp X + 5) s = zI ur 20 s) (d16 : ∀ f, f < xF X → zI uc (xp X + 10) f = zI ur 16 f) (d14 : zI uc (xp X) 14 = zI ur 17 9) (d15 : zI uc (xp X) 15 = nI s) (hm : ∀ w, w < xN X → nmR B s (xPK X) ur w) : oOb B s (X, (xF X, S), (ur, b), M) (xp X) ur uc := by
  obtain ⟨-, -, -, ⟨f1, f2⟩, ⟨s1, s2, s3⟩, si⟩ := P
  refine ⟨⟨f1, d33, (hb _ 12 (by omega) (by omega)).trans f2⟩, ⟨s1, s2, (hb _ 8 (by omega) (by omega)).trans s3⟩, fun s hs => ?_, d16, ⟨d14, d15⟩, hm⟩
  obtain ⟨k, k1, k2, k3, k4, -⟩ := si s hs
  exact ⟨k, k1, k2, (hb (xp X + 4) s (by omega) (by omega)).trans k3, k2, d20 s hs, (hb (xp X + 6) s (by omega) (by omega)).trans k4⟩
theorem o_run (n k : Nat) (hn : 50000000 ≤ n) {K : Nat × Nat} {ur uc : zMu} (h : oI n k K ur uc) (x : Int32) : Rp (rf_run n ur x) (ce_E_run n uc x) (fun r vr r' vc => r' = r ∧ oI n k K vr vc) := by
  have h' := h
  obtain ⟨t, p, q, B, s, C, W, T, h1, ⟨h2, h3, h4⟩, h5, ⟨w1, w2, w3, w4⟩, ⟨h7, h8, h9⟩, h10, h11, h12, h13⟩ := h'
  unfold rf_run ce_E_run
  by_cases c1 : x < 1
  · exact rp_lt c1 (rp_rt c1 (rp_end ⟨rfl, h⟩))
  refine rp_lf c1 (rp_rf c1 ?_)
  by_cases c2 : 20000 < x
  · exact rp_lt c2 (rp_rt c2 (rp_end ⟨rfl, h⟩))
  refine rp_lf c2 (rp_rf c2 ?_)
  rcases h13 with ⟨a1, a2, a3⟩ | ⟨a1, a2, X, a3, a4⟩
  · exact rp_lt a1 (rp_rt a2 (rp_end ⟨rfl, h⟩))
  refine rp_lf (by rw [a1]; decide) (rp_rf (by rw [a2]; decide) ?_)
  have hp : p = 12 ∨ p = 23 := by omega
  refine rp_rg (by rw [h8]; rcases hp with e | e <;> rw [e] <;> rfl) (rp_rl ?_)
  rw [h8]
  obtain ⟨lim, hlim, rfl⟩ : ∃ lim, lim ≤ 20000 ∧ x = nI lim := by
    refine nI_of2 (M := 20000) rfl ?_ ?_
    · rw [Int32.lt_iff_toInt_lt] at c1 ⊢
      have e1 : (1 : Int32).toInt = 1 := rfl
      have e0 : (0 : Int32).toInt = 0 := rfl
      omega
    · rw [Int32.lt_iff_toInt_lt] at c2
      rw [Int32.le_iff_toInt_le]
      omega
  have a3' := a3
  obtain ⟨uc0, vc0, vr0, -, -, ok, ⟨hX, ep, es, hm, -, -, fpc, alt⟩, hb, hv⟩ := a3'
  subst ep
  have hP : pPg X vr0 vc0 := by
    rcases alt with y | ⟨w, -, y⟩
    · exact y
    · exact absurd (ok.symm.trans y.2.2.1) (by decide)
  refine rp_mono (k_go n hn hX hP ok hb hv w2 w1 hlim) (fun r vr r' vc g => ?_)
  obtain ⟨e, S, M, P, ⟨d33, d20, d16, d14⟩, -, fr, fc, V, T', O⟩ := g
  refine ⟨e, ?_⟩
  have fr : fT tgR tall ur vr := fr
  have fc : fT tgC tall (zsI (zsR uc 34 6 (xp X)) 34 14 (nI lim)) vc := fc
  have iR : ∀ a j, tgR a j = 0 → zI vr a j = zI ur a j := fun a j e => fT_i fr no0 e
  have iC : ∀ a j, tgC a j = 0 → ¬ (a = 34 ∧ j = 14) → zI vc a j = zI uc a j := fun a j e z => by
    rw [fT_i fc no0 e, gI_sI, if_neg z, gI_sR]
  have lC : ∀ a j, tgC a 0 = 0 → zL vc a j = zL uc a j := fun a j e => fT_l fc no0 e j
  have rC : ∀ a j, ¬ (a = 34 ∧ j = 6) → zR vc a j = zR uc a j := fun a j z => by
    rw [fT_R fc, gR_sI, gR_sR, if_neg z]
  have bW : oW (zsI (zsR uc 34 6 (xp X)) 34 14 (nI lim)) := oW_keep w1 (fun a j x y => by rw [gI_sI, if_neg (by omega), gI_sR]) (fun a _ => rfl)
  have bd : zdy (zsI (zsR uc 34 6 (xp X)) 34 14 (nI lim)) = true := zdy_sR w2 (by omega)
  have c5 : (zc vc).1 + pA uc ≤ (zc uc).1 + pA vc := fc.2.2.2.2.1
  have c6 : (zc vc).2 + pB uc ≤ (zc uc).2 + pB vc := fc.2.2.2.2.2.1
  have oo : oOb B s (X, (xF X, S), (ur, zsI (zsR uc 34 6 (xp X)) 34 14 (nI lim)), M) (xp X) ur uc := oOb_of P (fun a j x y => by rw [gI_sI, if_neg (by omega), gI_sR]) d33 d20 d16 d14 h12.2.2.2.2.1.2 (fun w hw => nmR_cg (hm w hw) rfl (hb 7 w (by unfold pcA; omega)) (hb 8 w (by unfold pcA; omega)))
  have hrA : ∀ a j, pcA a j → zI vr a j = zI ur a j := fun a j q => iR a j (pcA_tg q)
  have hcP : ∀ a j, xp X ≤ a → a ≤ xp X + 10 → zI vc a j = zI uc a j := fun a j x y => iC a j (pcP_tg hp x y j) (by omega)
  refine ⟨t, xp X, q, B, s, (X, (xF X, S), (ur, zsI (zsR uc 34 6 (xp X)) 34 14 (nI lim)), M), V, T', pTape_cg h1 (iR 0 3 rfl) (fun j => iR 1 j rfl) (iC 0 1 rfl (by omega)) (fun j => iC 1 j rfl (by omega)), ⟨pKy_cg h2 (fun j => iR 9 j rfl) (fun j => lC 8 j rfl), rRo_cg h3 (iR 0 27 rfl) (fun j => iR 17 j rfl), rKn_cg h4 (iC 2 8 rfl (by omega))⟩, ?_, ⟨oW_of O (fc.2.2.2.2.2.2.1 bW.2.2.2.1) (fc.2.2.2.2.2.2.2 bW.2.2.2.2.1 bW.2.2.2.2.2), (fT_dy fc).trans bd, by omega, by omega⟩, ⟨h7, (rC 0 4 (by omega)).trans h8, (rC 0 5 (by omega)).trans h9⟩, ⟨h10.1, h10.2.1, (iR 0 4 rfl).trans h10.2.2.1, fun j hj => (iR 2 j rfl).trans (h10.2.2.2 j hj)⟩, O, oOb_cg oo hrA hcP, Or.inr ⟨(iR 0 5 rfl).trans a1, (iC 0 6 rfl (by omega)).trans a2, X, oPr_cg a3 hrA (fun a j x y => ⟨hcP a j x y, lC a j (pcP_tg hp x y 0)⟩), rfl, fun _ _ => rfl⟩⟩
  rw [iR 0 18 rfl, iR 0 19 rfl, iC 2 3 rfl (by omega), iC 2 4 rfl (by omega)]; exact h5
