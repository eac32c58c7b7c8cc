/-! THE OBJECT: what holds between calls -/
def oTk (B : Nat → Nat) (s p : Nat) (X : pCx) (vr vc : zMu) : Prop := xOk X ∧ xp X = p ∧ xs X = s ∧ (∀ w, w < xN X → nmR B s (xPK X) vr w) ∧ pRgb (xT X + 1) (xT X + 1) (xN X) (xrk X) vr ∧ fPR (xr X) vr ∧ fPC (xp X) (xc X) vc ∧ (pPg X vr vc ∨ pWx X (kS 0 + 1) vr vc)
theorem pTk.o {B : Nat → Nat} {s p : Nat} {vr vc : zMu} (h : pTk B s p vr vc) : ∃ X, oTk B s p X vr vc := h
def oTx (B : Nat → Nat) (s : Nat) (ur : zMu) : Prop := s ≤ 1500 ∧ (∀ j, B j < 256) ∧ zI ur 0 4 = nI s ∧ ∀ j, j < s → zI ur 2 j = nI (B j)
/-- what is told of the program -/
def oOb (B : Nat → Nat) (s : Nat) (C : kC) (p : Nat) (ur uc : zMu) : Prop := (cF C ≤ 8 ∧ zI ur 0 33 = nI (cF C) ∧ zI uc p 12 = nI (cF C)) ∧ (cS C ≤ 80 ∧ zI ur 0 39 = nI (cS C) ∧ zI uc p 8 = nI (cS C)) ∧ (∀ s, s < cS C → ∃ k, k ≤ 3 ∧ zI ur 19 s = nI k ∧ zI uc (p + 4) s = nI k ∧ zI (cb C) 19 s = nI k ∧ zI uc (p + 5) s = zI ur 20 s ∧ zI uc (p + 6) s = zI ur 21 s) ∧ (∀ f, f < cF C → zI uc (p + 10) f = zI ur 16 f) ∧ (zI uc p 14 = zI ur 17 9 ∧ zI uc p 15 = nI s) ∧ ∀ w, w < xN (cX C) → nmR B s (xPK (cX C)) ur w
/-- where the program comes from -/
def oPr (n k : Nat) (B : Nat → Nat) (s p : Nat) (X : pCx) (ur uc : zMu) : Prop := ∃ uc0 vc0 vr0, ((∀ j, j < s → zI uc0 1 j = sb (B j)) ∧ (∀ k, k < 12 → zL uc0 8 k = lN (pkn kl (kst k) (kln k))) ∧ rKn uc0) ∧ ce_C_compile n k p uc0 (nI s) = some ((), vc0) ∧ zI vc0 2 3 = 0 ∧ oTk B s p X vr0 vc0 ∧ (∀ a j, pcA a j → zI ur a j = zI vr0 a j) ∧ (∀ a j, p ≤ a → a ≤ p + 10 → zI uc a j = zI vc0 a j ∧ zL uc a j = zL vc0 a j)
def oSm (C : kC) (X : pCx) : Prop := xN (cX C) = xN X ∧ ∀ w, w < xN X → xPK (cX C) w = xPK X w
def oAl (n k : Nat) (B : Nat → Nat) (s p : Nat) (C : kC) (ur uc : zMu) : Prop := (zI ur 0 5 = 0 ∧ zI uc 0 6 = 0 ∧ s = 0 ∧ cF C = 0 ∧ cS C = 0 ∧ xN (cX C) = 0 ∧ zI uc p 14 = 0) ∨ (zI ur 0 5 = 1 ∧ zI uc 0 6 = 1 ∧ ∃ X, oPr n k B s p X ur uc ∧ oSm C X)
def oMm (K : Nat × Nat) (uc : zMu) : Prop := oW uc ∧ zdy uc = true ∧ (zc uc).1 ≤ K.1 + pA uc ∧ (zc uc).2 ≤ K.2 + pB uc
def oI (n k : Nat) (K : Nat × Nat) (ur uc : zMu) : Prop := ∃ t p q B s C W T, pTape ur uc t ∧ (pKy ur uc ∧ rRo ur ∧ rKn uc) ∧ (zI uc 2 3 = zI ur 0 18 ∧ zI uc 2 4 = zI ur 0 19) ∧ oMm K uc ∧ (((p = 12 ∧ q = 23) ∨ (p = 23 ∧ q = 12)) ∧ zR uc 0 4 = p ∧ zR uc 0 5 = q) ∧ oTx B s ur ∧ kOt C W T ur uc ∧ oOb B s C p ur uc ∧ oAl n k B s p C ur uc
theorem nmR_cg {B : Nat → Nat} {s : Nat} {PK PK' : Nat → Int64} {u v : zMu} {w : Nat} (h : nmR B s PK u w) (e : PK' w = PK w) (e7 : zI v 7 w = zI u 7 w) (e8 : zI v 8 w = zI u 8 w) : nmR B s PK' v w := by
  obtain ⟨b, z, h1, h2, h3, h4, h5, h6, h7⟩ := h
  exact ⟨b, z, e7.trans h1, e8.trans h2, h3, h4, h5, h6, e.trans h7⟩
theorem pKy_cg {ur uc vr vc : zMu} (h : pKy ur uc) (hr : ∀ j, zI vr 9 j = zI ur 9 j) (hc : ∀ j, zL vc 8 j = zL uc 8 j) : pKy vr vc := ⟨fun j hj => (hr j).trans (h.1 j hj), fun k hk => (hc k).trans (h.2 k hk)⟩
theorem rRo_cg {u v : zMu} (h : rRo u) (h27 : zI v 0 27 = zI u 0 27) (h17 : ∀ j, zI v 17 j = zI u 17 j) : rRo v := by
  obtain ⟨r, V, a1, a2, a3, a4⟩ := h
  exact ⟨r, V, a1, a2, by rw [h27]; exact a3, (h17 r).trans a4⟩
theorem rKn_cg {u v : zMu} (h : rKn u) (e : zI v 2 8 = zI u 2 8) : rKn v := by
  obtain ⟨V, a, b⟩ := h
  exact ⟨V, a, e.trans b⟩
/-- what is told of the program, when nothing of it changed -/
theorem oOb_cg {B : Nat → Nat} {s p : Nat} {C : kC} {ur uc vr vc : zMu} (h : oOb B s C p ur uc) (hr : ∀ a j, pcA a j → zI vr a j = zI ur a j) (hc : ∀ a j, p ≤ a → a ≤ p + 10 → zI vc a j = zI uc a j) : oOb B s C p vr vc := by
  obtain ⟨⟨a1, a2, a3⟩, ⟨b1, b2, b3⟩, c, d, ⟨e1, e2⟩, f⟩ := h
  refine ⟨⟨a1, (hr 0 33 (by unfold pcA; omega)).trans a2, (hc p 12 (by omega) (by omega)).trans a3⟩, ⟨b1, (hr 0 39 (by unfold pcA; omega)).trans b2, (hc p 8 (by omega) (by omega)).trans b3⟩, fun s hs => ?_, fun f hf => ?_, ⟨?_, (hc p 15 (by omega) (by omega)).trans e2⟩, fun w hw => nmR_cg (f w hw) rfl (hr 7 w (by unfold pcA; omega)) (hr 8 w (by unfold pcA; omega))⟩
  · obtain ⟨k, k1, k2, k3, k4, k5, k6⟩ := c s hs
    refine ⟨k, k1, (hr 19 s (by unfold pcA; omega)).trans k2, (hc (p + 4) s (by omega) (by omega)).trans k3, k4, ?_, ?_⟩
    · rw [hc (p + 5) s (by omega) (by omega), hr 20 s (by unfold pcA; omega)]; exact k5
    · rw [hc (p + 6) s (by omega) (by omega), hr 21 s (by unfold pcA; omega)]; exact k6
  · rw [hc (p + 10) f (by omega) (by omega), hr 16 f (by unfold pcA; omega)]; exact d f hf
  · rw [hc p 14 (by omega) (by omega), hr 17 9 (by unfold pcA; omega)]; exact e1
theorem oPr_cg {n k : Nat} {B : Nat → Nat} {s p : Nat} {X : pCx} {ur uc vr vc : zMu} (h : oPr n k B s p X ur uc) (hr : ∀ a j, pcA a j → zI vr a j = zI ur a j) (hc : ∀ a j, p ≤ a → a ≤ p + 10 → zI vc a j = zI uc a j ∧ zL vc a j = zL uc a j) : oPr n k B s p X vr vc := by
  obtain ⟨uc0, vc0, vr0, h1, h2, h3, h4, h5, h6⟩ := h
  exact ⟨uc0, vc0, vr0, h1, h2, h3, h4, fun a j q => (hr a j q).trans (h5 a j q), fun a j x y => ⟨(hc a j x y).1.trans (h6 a j x y).1, (hc a j x y).2.trans (h6 a j x y).2⟩⟩
theorem zL_2 {u v : zMu} (e : v.2 = u.2) (a j : Nat) : zL v a j = zL u a j := by unfold zL; rw [e]
theorem zN_2 {u v : zMu} (e : v.2 = u.2) (a : Nat) : zN v a = zN u a := by unfold zN; rw [e]
theorem zR_2 {u v : zMu} (e : v.2 = u.2) (a j : Nat) : zR v a j = zR u a j := by unfold zR; rw [e]
theorem zc_2 {u v : zMu} (e : v.2 = u.2) : zc v = zc u := by unfold zc; rw [e]
theorem oMm_2 {K : Nat × Nat} {u v : zMu} (h : oMm K u) (e : v.2 = u.2) (hi : ∀ a j, 66 ≤ a → zI v a j = zI u a j) : oMm K v := by
  obtain ⟨a, b, c, d⟩ := h
  refine ⟨oW_keep a (fun a j x _ => hi a j x) (fun a _ => zN_2 e a), ?_, ?_, ?_⟩
  · rw [← b]; unfold zdy; simp only [zR_2 e]
  · rw [zc_2 e]; unfold pA at c ⊢; simp only [zN_2 e]; exact c
  · rw [zc_2 e]; unfold pB at d ⊢; simp only [zN_2 e]; exact d
/-- feed -/
theorem o_feed (n k : Nat) (hn : 9 ≤ n) {K : Nat × Nat} {ur uc : zMu} (h : oI n k K ur uc) (x : Int32) (b : Int64) : Rp (rf_feed n ur x b) (ce_E_feed n uc x b) (fun r vr r' vc => r' = r ∧ oI n k K vr vc) := by
  obtain ⟨t, p, q, B, s, C, W, T, h1, ⟨h2, h3, h4⟩, h5, h6, ⟨h7, h8, h9⟩, h10, h11, h12, h13⟩ := h
  obtain ⟨r, vr, e1, r', vc, e2, er, ⟨t', ht'⟩, f1, f2⟩ := p_feed n hn h1 x b
  refine rp_eq e1 e2 ⟨er.symm, t', p, q, B, s, C, W, T, ht', ⟨pKy_cg h2 (fun j => f1.1 9 j (by omega)) (fun j => zL_2 f2.2 8 j), rRo_cg h3 (f1.1 0 27 (by omega)) (fun j => f1.1 17 j (by omega)), rKn_cg h4 (f2.1 2 8 (by omega))⟩, ?_, oMm_2 h6 f2.2 (fun a j x => f2.1 a j (by omega)), ⟨h7, (zR_2 f2.2 0 4).trans h8, (zR_2 f2.2 0 5).trans h9⟩, ⟨h10.1, h10.2.1, (f1.1 0 4 (by omega)).trans h10.2.2.1, fun j hj => (f1.1 2 j (by omega)).trans (h10.2.2.2 j hj)⟩, ?_, ?_, ?_⟩
  · rw [f1.1 0 18 (by omega), f1.1 0 19 (by omega), f2.1 2 3 (by omega), f2.1 2 4 (by omega)]; exact h5
  · refine kOt_k h11 (ts := [0]) (fT_pFr f1 (fun a j q => ?_) (fun j => by omega)) (fT_pFr f2 (fun a j q => ?_) (fun j => by omega)) (fun t x y => by simp; omega)
    · rcases q with ⟨rfl, rfl⟩ | rfl
      · decide
      · rw [show tgR 1 j = 0 from rfl]; decide
    · rcases q with ⟨rfl, rfl⟩ | rfl
      · decide
      · rw [show tgC 1 j = 0 from rfl]; decide
  · exact oOb_cg h12 (fun a j q => f1.1 a j (by unfold pcA at q; omega)) (fun a j x y => f2.1 a j (by omega))
  · rcases h13 with ⟨a1, a2, a3, a4, a5, a6, a7⟩ | ⟨a1, a2, X, a3, a4⟩
    · exact Or.inl ⟨(f1.1 0 5 (by omega)).trans a1, (f2.1 0 6 (by omega)).trans a2, a3, a4, a5, a6, (f2.1 p 14 (by omega)).trans a7⟩
    · exact Or.inr ⟨(f1.1 0 5 (by omega)).trans a1, (f2.1 0 6 (by omega)).trans a2, X, oPr_cg a3 (fun a j q => f1.1 a j (by unfold pcA at q; omega)) (fun a j x y => ⟨f2.1 a j (by omega), zL_2 f2.2 a j⟩), a4⟩
/-- fault -/
theorem o_fault (n k : Nat) {K : Nat × Nat} {ur uc : zMu} (h : oI n k K ur uc) (x : Int32) : Rp (rf_fault n ur x) (ce_E_fault n uc x) (fun r vr r' vc => r' = r ∧ oI n k K vr vc) := by
  have h' := h
  obtain ⟨t, p, q, B, s, C, W, T, h1, h2, h5, -⟩ := h'
  unfold rf_fault ce_E_fault
  by_cases c : x = 0
  · exact rp_lt c (rp_rt c (rp_end ⟨h5.1, h⟩))
  · refine rp_lf c (rp_rf c ?_)
    by_cases c : x = 1
    · exact rp_lt c (rp_rt c (rp_end ⟨h5.2, h⟩))
    · exact rp_lf c (rp_rf c (rp_end ⟨rfl, h⟩))
