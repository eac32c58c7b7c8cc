/-! RUNNING: the program that was read, as running wants it -/
theorem pIns_cg {p S tb : Nat} {M ht : Nat → Nat} {ur uc vr vc : zMu} {r : Nat} (h : pIns p S tb M ht ur uc r) (hr : ∀ a j, 10 ≤ a → a ≤ 13 → zI vr a j = zI ur a j) (hc : ∀ a j, p ≤ a → a ≤ p + 10 → zI vc a j = zI uc a j) : pIns p S tb M ht vr vc r := by
  obtain ⟨o, a, b, c, x, c2, w, h1, h2, h3, h4, h5, h6, h7, h8, h9, h10, h11⟩ := h
  refine ⟨o, a, b, c, x, c2, w, (hr 10 r (by omega) (by omega)).trans h1, (hr 11 r (by omega) (by omega)).trans h2, (hr 12 r (by omega) (by omega)).trans h3, (hr 13 r (by omega) (by omega)).trans h4, h5, (hc (p + 1) _ (by omega) (by omega)).trans h6, (hc (p + 2) _ (by omega) (by omega)).trans h7, fun q => ?_, fun q => (hc (p + 3) _ (by omega) (by omega)).trans (h9 q), h10, insC_mono h11 (fun k => ?_)⟩
  · obtain ⟨g1, g2⟩ := h8 q
    exact ⟨(hc (p + 1) _ (by omega) (by omega)).trans g1, fun z => (hc (p + 3) _ (by omega) (by omega)).trans (g2 z)⟩
  · obtain ⟨k1, k2, k3, k4, k5⟩ := k
    exact ⟨k1, k2, k3, k4, by rw [hr 10 a (by omega) (by omega)]; exact k5⟩
theorem k_stat {X : pCx} {vr vc ub v : zMu} (hX : xOk X) (h : pPg X vr vc) (ok : zI vc 2 3 = 0) (hb : ∀ a j, pcA a j → zI ub a j = zI vr a j) (hv : ∀ a j, xp X ≤ a → a ≤ xp X + 10 → zI v a j = zI vc a j ∧ zL v a j = zL vc a j) (hR : zR v 34 6 = xp X) (hd : zdy v = true) :
    ∃ S cr cc tb z M ht q, kPs (X, (xF X, S), (ub, v), M) ∧ kPc (X, (xF X, S), (ub, v), M) cr cc tb z ht ∧ (q < cr ∧ ht q = 0 ∧ zI ub 0 34 = nI q ∧ zI v (xp X) 13 = nI (M q)) ∧ (zI ub 0 33 = nI (xF X) ∧ (∀ s, s < S → zI v (xp X + 5) s = zI ub 20 s) ∧ (∀ f, f < xF X → zI v (xp X + 10) f = zI ub 16 f) ∧ zI v (xp X) 14 = zI ub 17 9) := by
  obtain ⟨hr9, i, cr, cc, S, C, tb, M, ht, hO, hL, h14, hcr, hcc, h1000, z, hz, hZ⟩ := h
  obtain ⟨-, -, -, -, -, hVs, -, hCo, hSx, hCa⟩ := hO
  obtain ⟨r, V, F, vw, ⟨-, eF, eR⟩, -, -, hFn, hMn, hSi⟩ := hVs
  subst eF
  have hp := hX.1
  have cI : ∀ a j, xp X ≤ a → a ≤ xp X + 10 → zI v a j = zI vc a j := fun a j x y => (hv a j x y).1
  obtain ⟨q, q1, q2, q3, q4⟩ := hMn (by omega)
  obtain ⟨s1, -, s3, s4, s5⟩ := hSi
  obtain ⟨s6, s7⟩ := s5 ok
  obtain ⟨f1, f2, f3, f4⟩ := hFn
  obtain ⟨c1, c2, c3, c4, c5, c6, c7⟩ := hCo
  have c7 := c7 ok
  obtain ⟨-, x2⟩ := hSx
  obtain ⟨x3, -⟩ := x2 ok
  obtain ⟨-, -, -, -, a5⟩ := hCa
  have hL := hL ok
  have hZ := hZ ok
  refine ⟨S, cr, cc, tb, z, M, ht, q, ⟨⟨hp, hR, hd⟩, hX.2.2.2.1, Nat.le_trans hX.2.2.1 (by decide), ⟨f1, ?_⟩, ⟨s6, ?_, ?_⟩, fun s hs => ?_⟩, ⟨⟨c3, c4, c5, c6, hcc, h1000, ?_⟩, fun r hr => ?_, fun r o hr ho y1 y2 => ?_, fun f hf => ?_, fun r hr ho => ?_, hz, ?_⟩, ⟨?_, q2, ?_, ?_⟩, ⟨?_, fun s hs => ?_, fun f hf => ?_, ?_⟩⟩
  · exact (cI _ 12 (Nat.le_refl _) (Nat.le_add_right _ _)).trans f3
  · exact (hb 0 39 (by unfold pcA; omega)).trans s3
  · refine (cI _ 8 (Nat.le_refl _) (Nat.le_add_right _ _)).trans ?_
    rw [s4, Nat.min_eq_left s6]
    rfl
  · obtain ⟨k, P, k1, k2, k3, k4, k5, k6, k7, k8, k9⟩ := s7 s hs
    refine ⟨k, k1, ?_, ?_, ?_, ?_, fun y => ?_⟩
    · exact (hb 19 s (by unfold pcA; omega)).trans k3
    · refine (cI (xp X + 4) s (by omega) (by omega)).trans ?_
      rw [k4, if_neg]
      have : s < S := hs
      omega
    · show zI v (xp X + 6) s = zI ub 21 s
      rw [cI (xp X + 6) s (by omega) (by omega), hb 21 s (by unfold pcA; omega)]; exact k7
    · show zI ub 21 s = -1 ∨ ∃ f, f < xF X ∧ zI ub 21 s = nI f
      rw [hb 21 s (by unfold pcA; omega)]; exact k8
    · obtain ⟨w, w1, w2, w3⟩ := k9 y
      exact ⟨w, w1, (hb 22 s (by unfold pcA; omega)).trans w2, ((hv (xp X + 7) s (by omega) (by omega)).2).trans w3⟩
  · exact (cI _ 3 (Nat.le_refl _) (Nat.le_add_right _ _)).trans c2
  · exact pIns_cg (c7 r hr) (fun a j x y => hb a j (by unfold pcA; omega)) cI
  · have ho' : zI vr 10 r = nI o := (hb 10 r (by unfold pcA; omega)).symm.trans ho
    obtain ⟨a, a1, -, a3, a4⟩ := x3 r o hr ho' y1 y2
    exact ⟨a, a1, (hb 11 r (by unfold pcA; omega)).trans a3, (hb 19 a (by unfold pcA; omega)).trans a4⟩
  · obtain ⟨w, q', nn, g1, g2, g3, g4, g5, g6, g7, g8, g9, g10⟩ := f4 f hf
    exact ⟨q', nn, g4, g5, (hb 15 f (by unfold pcA; omega)).trans g6, (cI (xp X + 9) f (by omega) (by omega)).trans g7, g8, (hb 16 f (by unfold pcA; omega)).trans g9, (cI (xp X + 10) f (by omega) (by omega)).trans g10⟩
  · have ho' : zI vr 10 r = nI 17 := (hb 10 r (by unfold pcA; omega)).symm.trans ho
    obtain ⟨c, c8, c9⟩ := a5 r hr ho'
    obtain ⟨q', f, nn, l1, l2, l3, l4, l5, l6, l7⟩ := hL c c8
    have e : q' = r := (nI_eq (by omega) (by omega)).mp (l1.symm.trans c9)
    subst e
    refine ⟨f, l4, (hb 11 q' (by unfold pcA; omega)).trans l3, ?_⟩
    show zI ub 12 q' = zI ub 16 f
    rw [hb 12 q' (by unfold pcA; omega), hb 16 f (by unfold pcA; omega), l5, l7]
  · exact pZn_keep hZ (fun q _ => hb 10 q (by unfold pcA; omega)) (fun q => hb 15 q (by unfold pcA; omega)) (fun q _ _ => hb 11 q (by unfold pcA; omega))
  · rcases Nat.lt_or_ge q cr with y | y
    · exact y
    · have e : q = cr := by omega
      subst e
      omega
  · exact (hb 0 34 (by unfold pcA; omega)).trans q3
  · exact (cI _ 13 (Nat.le_refl _) (Nat.le_add_right _ _)).trans q4
  · exact (hb 0 33 (by unfold pcA; omega)).trans f2
  · obtain ⟨k, P, k1, k2, k3, k4, k5, k6, -⟩ := s7 s hs
    rw [cI (xp X + 5) s (by omega) (by omega), hb 20 s (by unfold pcA; omega), k5, k6]
  · obtain ⟨w, q', nn, g1, g2, g3, g4, g5, g6, g7, g8, g9, g10⟩ := f4 f hf
    rw [cI (xp X + 10) f (by omega) (by omega), hb 16 f (by unfold pcA; omega), g9, g10]
  · rw [cI _ 14 (Nat.le_refl _) (Nat.le_add_right _ _), hb 17 9 (by unfold pcA; omega)]; exact h14
/-- names that two takings of one text give, with one picture of the class -/
theorem nm_det {X Y : pCx} {vr wr vc : zMu} (hX : xOk X) (hY : xOk Y) (a1 : fPR (xr X) vr) (a2 : fPC (xp X) (xc X) vc) (a3 : pRgb (xT X + 1) (xT X + 1) (xN X) (xrk X) vr) (b1 : fPR (xr Y) wr) (b2 : fPC (xp Y) (xc Y) vc) (b3 : pRgb (xT Y + 1) (xT Y + 1) (xN Y) (xrk Y) wr) : xN X = xN Y ∧ ∀ w, w < xN X → xPK X w = xPK Y w := by
  have tX := hX.tk a1 a2
  have tY := hY.tk b1 b2
  have T1 := hX.T
  have T2 := hY.T
  have n1 := hX.2.2.1
  have n2 := hY.2.2.1
  have eT : xT X = xT Y := by
    have := (nI_eq (by omega) (by omega)).mp (tX.2.2.2.2.symm.trans tY.2.2.2.2)
    omega
  have ek : ∀ t, t ≤ xT X → xrk X t = xrk Y t := fun t ht => by
    have x1 := (tX.1 t ht).1
    have y1 := (tY.1 t (by omega)).1
    have e := (nI_eq (by have := (kRel_lt x1.1).2; omega) (by have := (kRel_lt y1.1).2; omega)).mp (x1.2.2.1.symm.trans y1.2.2.1)
    exact (kRel_inj x1.1 y1.1).mpr e
  have vX : ∀ t, t ≤ xT X → xrk X t = 1 → ∃ w, w < xN X ∧ zI vr 6 t = nI w ∧ zL vc 11 t = xPK X w := fun t ht hk => (tX.1 t ht).1.2.2.2.2.2.2 hk
  have vY : ∀ t, t ≤ xT X → xrk X t = 1 → ∃ w, w < xN Y ∧ zI wr 6 t = nI w ∧ zL vc 11 t = xPK Y w := fun t ht hk => (tY.1 t (by omega)).1.2.2.2.2.2.2 (by rw [← ek t ht]; exact hk)
  have iX := hX.2.2.2.1
  have iY := hY.2.2.2.1
  have same : ∀ d t, t < d → t ≤ xT X → xrk X t = 1 → zI vr 6 t = zI wr 6 t := by
    intro d
    induction d with
    | zero => exact fun t ht => absurd ht (Nat.not_lt_zero t)
    | succ d ih =>
      intro t ht hT hk
      obtain ⟨w, w1, w2, w3⟩ := vX t hT hk
      obtain ⟨w', y1, y2, y3⟩ := vY t hT hk
      rw [w2, y2]
      rcases Nat.lt_trichotomy w w' with g | g | g
      · obtain ⟨t', t1, t2, t3⟩ := b3.2 t w w' (by omega) (by rw [← ek t hT]; exact hk) y2 y1 g
        have k' : xrk X t' = 1 := (ek t' (by omega)).trans t2
        have e := ih t' (by omega) (by omega) k'
        obtain ⟨v, v1, v2, v3⟩ := vX t' (by omega) k'
        obtain ⟨v', z1, z2, z3⟩ := vY t' (by omega) k'
        have e1 : v' = w := (nI_eq (by omega) (by omega)).mp (z2.symm.trans t3)
        have e2 : v = v' := (nI_eq (by omega) (by omega)).mp (v2.symm.trans (e.trans z2))
        have e3 : w' = v' := iY w' v' y1 z1 (by rw [← y3, ← z3, w3, v3, e2, e1])
        omega
      · rw [g]
      · obtain ⟨t', t1, t2, t3⟩ := a3.2 t w' w (by omega) hk w2 w1 g
        have e := ih t' (by omega) (by omega) t2
        obtain ⟨v, v1, v2, v3⟩ := vX t' (by omega) t2
        obtain ⟨v', z1, z2, z3⟩ := vY t' (by omega) t2
        have e1 : v = w' := (nI_eq (by omega) (by omega)).mp (v2.symm.trans t3)
        have e2 : v = v' := (nI_eq (by omega) (by omega)).mp (v2.symm.trans (e.trans z2))
        have e3 : w = v := iX w v w1 v1 (by rw [← w3, ← v3, y3, z3, ← e2, e1])
        omega
  have one : ∀ w, w < xN X → w < xN Y ∧ xPK X w = xPK Y w := by
    intro w hw
    rcases a3.1 w hw with ⟨t, t1, t2, t3⟩ | ⟨q, -⟩
    · have e := same (t + 1) t (by omega) (by omega) t2
      obtain ⟨v, v1, v2, v3⟩ := vX t (by omega) t2
      obtain ⟨v', z1, z2, z3⟩ := vY t (by omega) t2
      have e1 : v = w := (nI_eq (by omega) (by omega)).mp (v2.symm.trans t3)
      have e2 : v = v' := (nI_eq (by omega) (by omega)).mp (v2.symm.trans (e.trans z2))
      exact ⟨by omega, by rw [← e1, ← v3, z3, e2]⟩
    · exact absurd q (by omega)
  have two : ∀ w, w < xN Y → w < xN X := by
    intro w hw
    rcases b3.1 w hw with ⟨t, t1, t2, t3⟩ | ⟨q, -⟩
    · have k' : xrk X t = 1 := (ek t (by omega)).trans t2
      have e := same (t + 1) t (by omega) (by omega) k'
      obtain ⟨v, v1, v2, v3⟩ := vX t (by omega) k'
      have e2 : v = w := (nI_eq (by omega) (by omega)).mp (v2.symm.trans (e.trans t3))
      omega
    · exact absurd q (by omega)
  refine ⟨?_, fun w hw => (one w hw).2⟩
  rcases Nat.lt_trichotomy (xN X) (xN Y) with g | g | g
  · have := two (xN X) g; omega
  · exact g
  · have := one (xN Y) g; omega
