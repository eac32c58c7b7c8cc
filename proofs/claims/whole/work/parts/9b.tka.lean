/-! PARSING, whole: the main -/
/-- the fns' code lies below z, and is never left but by a return -/
def pZn (z F : Nat) (u : zMu) : Prop := (z = 0 ∨ zI u 10 (z - 1) = nI 23) ∧ (∀ f, f < F → ∃ q, q < z ∧ zI u 15 f = nI q) ∧ (∀ r, r < z → zI u 10 r = nI 21 ∨ zI u 10 r = nI 22 → ∃ a, a < z ∧ zI u 11 r = nI a)
theorem pZn_keep {z F : Nat} {u v : zMu} (h : pZn z F u) (k10 : ∀ q, q < z → zI v 10 q = zI u 10 q) (k15 : ∀ q, zI v 15 q = zI u 15 q) (k11 : ∀ q, q < z → ¬ zI u 10 q = nI 17 → zI v 11 q = zI u 11 q) : pZn z F v := by
  obtain ⟨a, b, c⟩ := h
  refine ⟨?_, fun f hf => ?_, fun r hr ho => ?_⟩
  · rcases a with a | a
    · exact Or.inl a
    · by_cases z0 : z = 0
      · exact Or.inl z0
      · exact Or.inr (by rw [k10 _ (by omega)]; exact a)
  · obtain ⟨q, q1, q2⟩ := b f hf
    exact ⟨q, q1, by rw [k15]; exact q2⟩
  · rw [k10 r hr] at ho
    obtain ⟨a, a1, a2⟩ := c r hr ho
    refine ⟨a, a1, ?_⟩
    rw [k11 r hr ?_]
    · exact a2
    · intro e
      rw [e] at ho
      rcases ho with y | y
      · exact absurd ((nI_eq (by decide) (by decide)).mp y) (by decide)
      · exact absurd ((nI_eq (by decide) (by decide)).mp y) (by decide)
theorem insC_le {S o a b c x m0 m1 h0 h1 c2 : Nat} {tg : Nat → Nat → Prop} (h : insC S o a b c x m0 m1 h0 h1 tg c2) : o ≤ 23 := by
  unfold insC at h
  omega
theorem p_zone {X : pCx} {cr cc tb F : Nat} {M ht : Nat → Nat} {ur uc : zMu} (h : pCo (xp X) 80 ur uc cr cc tb M ht (zI uc 2 3 = 0)) (hF : pFn X tb M ht ur uc F) (hZ : (cr = 0 ∧ F = 0) ∨ (tb < cr ∧ zI ur 10 (cr - 1) = nI 23)) (ok : zI uc 2 3 = 0) : pZn cr F ur := by
  rcases hZ with ⟨z1, z2⟩ | ⟨z1, z2⟩
  · subst z1
    subst z2
    exact ⟨Or.inl rfl, fun f hf => absurd hf (Nat.not_lt_zero f), fun r hr => absurd hr (Nat.not_lt_zero r)⟩
  · refine ⟨Or.inr z2, fun f hf => ?_, fun r hr ho => ?_⟩
    · obtain ⟨w, q, nn, y1, y2, y3, y4, y5, y6, -⟩ := hF.2.2.2 f hf
      exact ⟨q, by omega, y6⟩
    · obtain ⟨o, a, b, c, x, c2, w, y1, y2, -, -, -, -, -, -, -, -, y3⟩ := h.2.2.2.2.2.2 ok r hr
      have ho2 := insC_le y3
      rw [y1] at ho
      refine ⟨a, ?_, y2⟩
      rcases ho with e | e
      · have e := (nI_eq (by omega) (by decide)).mp e
        subst e
        have := (insC_21.mp y3).2.1.1
        omega
      · have e := (nI_eq (by omega) (by decide)).mp e
        subst e
        have := (insC_22.mp y3).2.1.1
        omega
/-- a text that was read without a fault of kind 1: its program; a fault of kind 2 or 3 may be -/
def pPg (X : pCx) (ur uc : zMu) : Prop := xR X = 9 ∧ ∃ i cr cc S C tb M ht, pOk X i i 0 cr cc S C tb 5000 pE0 M ht ur uc ∧ pLn C (xF X) ur uc ∧ zI uc (xp X) 14 = zI ur 17 9 ∧ cr ≤ cc ∧ cc ≤ 2300 ∧ ht cr = 1000 ∧ ∃ z, z < cr ∧ (zI uc 2 3 = 0 → pZn z (xF X) ur)
theorem rp_rl' {α ρ σ τ : Type} {x : α} {f : α → Option (σ × zMu)} {G : σ → zMu → Option (τ × zMu)} {X : Option (ρ × zMu)} {Q : ρ → zMu → τ → zMu → Prop} (h : Rp X (zbd (f x) G) Q) : Rp X (zbd (zlet x f) G) Q := h
/-- the main alone: its steps, its end; then what is behind it -/
def cm_J56 (n k : Nat) (u : zMu) : Option (Unit × zMu) :=
  zgd (zpr (zR u 2 1)) (zlet (zR u 2 1) fun p1 => zbd (ce_P_emit n p1 u 25 0 0) fun r2 u3 => zgd (zpr (zR u3 2 1)) (zlet (zR u3 2 1) fun p4 => zlet (zsI u3 p4 14 (zI u3 2 8)) fun u5 => some ((), u5)))
def cm_L26 (n k : Nat) : Nat → zMu → Int32 → Option (Unit × zMu)
  | 0, _, _ => none
  | m + 1, u, x1 => if x1 < 1500 then (if zI u 7 6 = 256 then cm_J56 n k u else zbd (ce_C_compileStep n k u) fun _ u4 => zlet (x1 + 1) fun v5 => cm_L26 n k m u4 v5) else cm_J56 n k u
def cm_main (n k : Nat) (u : zMu) : Option (Unit × zMu) :=
  zlet (zsI u 2 6 (-1)) fun u1 => zlet (zsI u1 2 8 0) fun u2 => zgd (zpr (zR u2 2 1)) (zlet (zR u2 2 1) fun p3 => zgd (zpr (zR u2 2 1)) (zlet (zR u2 2 1) fun p4 => zlet (zsI u2 p3 13 (zI u2 p4 3)) fun u5 => cm_L26 n k n u5 0))
def cm_J80 (n k : Nat) (u : zMu) : Option (Unit × zMu) := zbd (cm_main n k u) fun _ u2 => if zI u2 2 2 = 0 then (zbd (ce_C_settleCalls n u2) fun _ u5 => some ((), u5)) else some ((), u2)
theorem cm_e133 (n k p3 : Nat) (u : zMu) : ce_C_compile_J133 n k p3 u = zbd (cm_J56 n k u) fun _ u2 => if zI u2 2 2 = 0 then (zbd (ce_C_settleCalls n u2) fun _ u5 => some ((), u5)) else some ((), u2) := by
  unfold ce_C_compile_J133 cm_J56
  simp only [zbd_gd, zbd_lt, zbd_as, zbd_sm]
theorem cm_e102 (n k p3 : Nat) : ∀ m u x, ce_C_compile_L102 n k p3 m u x = zbd (cm_L26 n k m u x) fun _ u2 => if zI u2 2 2 = 0 then (zbd (ce_C_settleCalls n u2) fun _ u5 => some ((), u5)) else some ((), u2) := by
  intro m
  induction m with
  | zero => intro u x; rfl
  | succ m ih =>
    intro u x
    rw [ce_C_compile_L102, cm_L26]
    simp only [zbd_if, zbd_lt, zbd_as, ih, cm_e133]
theorem cm_e75 (n k p3 : Nat) (u : zMu) : ce_C_compile_J75 n k p3 u = cm_J80 n k u := by
  unfold ce_C_compile_J75 cm_J80 cm_main
  simp only [zbd_gd, zbd_lt, cm_e102]
theorem cm_e18 (n k p3 m : Nat) (u : zMu) (x : Int32) : ce_C_compile_L18 n k p3 (m + 1) u x = if 8 < x then cm_J80 n k u else (if zI u 7 6 = 300 then (zbd (oFn n k u) fun _ u4 => zlet (x + 1) fun v5 => ce_C_compile_L18 n k p3 m u4 v5) else cm_J80 n k u) := by
  rw [ce_C_compile_L18]
  unfold oFn fG
  simp only [zbd_gd, zbd_lt, zbd_as, zbd_sm, cm_e75]
  rfl
/-- a refused text's main -/
theorem p_J115w (n k : Nat) {X : pCx} {w K : Nat} {u : zMu} (h : bR1 X w K u) (hK : K < 3000) : ∃ v, rf_takes_J115 n k u = some ((), v) ∧ bR1 X w (K + 1) v := by
  obtain ⟨v, e, q⟩ := r1_emit n h (by omega) 23 0 0 0
  refine ⟨v, ?_, q⟩
  unfold rf_takes_J115
  rw [zbd_e e, zbd_e (r1_isWrong n q), if_neg (by decide)]
theorem p_J56w (n k : Nat) {X : pCx} (hX : xOk X) {w : Nat} {u : zMu} (h : bC1 X w u) : ∃ v, cm_J56 n k u = some ((), v) ∧ bC1 X w v := by
  have hp := hX.p12
  obtain ⟨r, v, e, q⟩ := w1_emit n hX h 25 0 0
  refine ⟨zsI v (xp X) 14 (zI v 2 8), ?_, bC1_keep q (bC_keep q.1 (fPC_I q.1.1 (by unfold pwC; omega)) (fun k j z => by rw [gI_sI, if_neg (by omega)])) (fun k j z => by rw [gI_sI, if_neg (by omega)])⟩
  unfold cm_J56
  rw [bC_zp hX h.1, hX.zpr, zgd_t]
  show zbd (ce_P_emit n (xp X) u 25 0 0) _ = _
  rw [zbd_e e, bC_zp hX q.1, hX.zpr]
  rfl
theorem p_mainw (n k : Nat) {X : pCx} (hX : xOk X) (m m' j : Nat) {w : Nat} {ur uc : zMu} (w1 : bR1 X w (kS 0) ur) (w2 : bC1 X w uc) : Rp (rf_takes_L94 n k (m + 1) ur) (zbd (cm_L26 n k (m' + 1) uc (nI j)) fun _ u2 => if zI u2 2 2 = 0 then (zbd (ce_C_settleCalls n u2) fun _ u5 => some ((), u5)) else some ((), u2)) (fun _ vr _ vc => pPg X vr vc ∨ pWx X (kS 0 + 1) vr vc) := by
  have kS0 : kS 0 = 2352 := rfl
  obtain ⟨v1, e1, q1⟩ := p_J115w n k w1 (by omega)
  obtain ⟨v2, e2, q2⟩ := p_J56w n k hX w2
  have ec : cm_L26 n k (m' + 1) uc (nI j) = some ((), v2) := by
    rw [cm_L26, if_pos (show zI uc 7 6 = 256 from w2.2.2.2.2.1)]
    by_cases z : nI j < 1500
    · rw [if_pos z]; exact e2
    · rw [if_neg z]; exact e2
  rw [rf_takes_L94]
  refine rp_l (r1_isWrong n w1) (rp_lf (by decide) (rp_r ec ?_))
  rw [if_neg (show ¬ zI v2 2 2 = 0 from by rw [q2.2.1]; decide)]
  exact rp_eq e1 rfl (Or.inr ⟨w, q1, q2⟩)
theorem p_mainL (n k : Nat) (hn : 2000 ≤ n) (hkk : 120 ≤ k) {X : pCx} (hX : xOk X) (p3 : Nat) (hR : xR X = 9) (z : Nat) :
    ∀ d i m m' j ur uc, xT X - i = d → d < m → d < m' → j ≤ i → (∃ cr cc S C tb M ht, pOk X i i 0 cr cc S C tb 5000 pE0 M ht ur uc ∧ 2 * cc ≤ 3 * i ∧ 2 * S ≤ i ∧ 3 * C ≤ i ∧ ht cr = 0 ∧ ht 0 = 0 ∧ z ≤ cr ∧ (zI uc 2 3 = 0 → pZn z (xF X) ur)) →
      Rp (rf_takes_L94 n k m ur) (zbd (cm_L26 n k m' uc (nI j)) fun _ u2 => if zI u2 2 2 = 0 then (zbd (ce_C_settleCalls n u2) fun _ u5 => some ((), u5)) else some ((), u2)) (fun _ vr _ vc => pPg X vr vc ∨ pWx X (kS 0 + 1) vr vc) := by
  have hp := hX.p12
  have hT := hX.T
  have kS0 : kS 0 = 2352 := rfl
  have k0 : kRel 0 256 := by unfold kRel; omega
  intro d
  induction d using Nat.strongRecOn with
  | ind d ih =>
    intro i m m' j ur uc hd hm hm' hj ⟨cr, cc, S, C, tb, M, ht, h, b1, b2, b3, h0, h00, hzc, hz⟩
    obtain ⟨m, rfl⟩ : ∃ y, m = y + 1 := ⟨m - 1, by omega⟩
    obtain ⟨m', rfl⟩ : ∃ y, m' = y + 1 := ⟨m' - 1, by omega⟩
    have hi := h.i
    have hle := h.le
    rw [rf_takes_L94, cm_L26]
    refine rp_l (h.nw n) (rp_lt rfl (rp_l (h.now hX n) ?_))
    have fin : Rp (rf_takes_J115 n k ur) (zbd (cm_J56 n k uc) fun _ u2 => if zI u2 2 2 = 0 then (zbd (ce_C_settleCalls n u2) fun _ u5 => some ((), u5)) else some ((), u2)) (fun _ vr _ vc => pPg X vr vc ∨ pWx X (kS 0 + 1) vr vc) := by
      unfold rf_takes_J115 cm_J56
      have em := pOk_emit hX h (o := 23) (a := 0) (b := 0) (w := 0) (c := 25) (x := 0) (wc := 0) (a' := 0) (x' := 0) 1000 pE0 (fun _ q => q) (by omega) (by omega) (by omega) (by omega) (fun _ => rfl) (fun _ => rfl) (fun _ => rfl) (fun _ => insC_23.mpr (Or.inr ⟨rfl, rfl, h0, rfl⟩)) (fun z1 z2 _ => by omega)
      refine rp_l (r_emit n h.cr (by omega) 23 0 0 0) ?_
      refine rp_l (em.nw n) (rp_lt rfl ?_)
      rw [h.zp hX, hX.zpr, zgd_t]
      show Rp _ (zbd (zbd (ce_P_emit n (xp X) uc 25 0 0) fun r2 u3 => zgd (zpr (zR u3 2 1)) (zlet (zR u3 2 1) fun p4 => zlet (zsI u3 p4 14 (zI u3 2 8)) fun u5 => some ((), u5))) _) _
      rw [show (25 : Int32) = nI 25 from rfl, show (zbd (ce_P_emit n (xp X) uc (nI 25) 0 0) fun r2 u3 => zgd (zpr (zR u3 2 1)) (zlet (zR u3 2 1) fun p4 => zlet (zsI u3 p4 14 (zI u3 2 8)) fun u5 => some ((), u5))) = some ((), zsI (emC uc (xp X) cc (nI 25) 0 (nI 0)) (xp X) 14 (zI (emC uc (xp X) cc (nI 25) 0 (nI 0)) 2 8)) from by
        rw [show (0 : Int32) = nI 0 from rfl, zbd_e (c_emit n (xp X) h.cc (by omega) (o := 25) (w := 0) (by omega) (by omega) (nI 0)), show zR (emC uc (xp X) cc (nI 25) (nI 0) (nI 0)) 2 1 = xp X from em.zp hX, hX.zpr]
        rfl]
      refine rp_r rfl ?_
      have hk : ∀ a j, ¬ (a = xp X ∧ j = 14) → zI (zsI (emC uc (xp X) cc (nI 25) 0 (nI 0)) (xp X) 14 (zI (emC uc (xp X) cc (nI 25) 0 (nI 0)) 2 8)) a j = zI (emC uc (xp X) cc (nI 25) 0 (nI 0)) a j := fun a j q => by rw [gI_sI, if_neg q]
      have ok : pOk X i i 0 (cr + 1) (cc + 1) S C tb 5000 pE0 (fun r => if r = cr + 1 then cc + 1 else M r) (fun r => if r = cr + 1 then 1000 else ht r) (emR ur cr (nI 23) 0 (nI 0) (nI 0)) (zsI (emC uc (xp X) cc (nI 25) 0 (nI 0)) (xp X) 14 (zI (emC uc (xp X) cc (nI 25) 0 (nI 0)) 2 8)) := by
        refine pGn_ok.mpr (pGn_step hX (pGn_ok.mp em) em.1 (fPC_I em.2.1 (by unfold pwC; omega)) (pAt_keep em.2.2.1 rfl (fun j => hk 7 j (by omega)) (fun _ => rfl) (fun _ => rfl)) ⟨em.2.2.2.2.1.1, em.2.2.2.2.1.2.1, by rw [hk 2 5 (by omega)]; exact em.2.2.2.2.1.2.2⟩ ?_ (pFt_keep em.2.2.2.2.2.2.1 (Nat.le_refl _) (fun _ _ => rfl) (fun j q => hk 2 j (by omega))) (fun q => by rw [hk 2 3 (by omega)] at q; exact q) (Nat.le_refl _) em.tb (fun _ _ _ => rfl) (fun a j q => hk a j (by omega)) (fun _ => rfl))
        exact pVs_keep em.2.2.2.2.2.1 (Nat.le_refl _) (fun _ _ => ⟨rfl, rfl⟩) (fun _ _ _ => rfl) (fun a j q => hk a j (by omega)) (fun _ _ _ => rfl) (fun q => by rw [hk 2 3 (by omega)] at q; exact q)
      refine rp_rt (ok.2.2.2.1.2) ?_
      have hC := ok.2.2.2.2.2.2.2.2.2.2.2.1
      obtain ⟨_, xr, _, xc, e1, e2, g1, g2, g3, g4, g5, g6⟩ := p_links n hn hX (by omega) (by omega) C 0 n n _ _ (by omega) (by omega) (by omega) (by omega) ok (fun _ d hd => absurd hd (Nat.not_lt_zero d))
      refine rp_l (show rf_links n _ = some ((), xr) from e1) (rp_r (show ce_C_settleCalls n _ = some ((), xc) from e2) (rp_end (Or.inl ⟨hR, i, cr + 1, cc + 1, S, C, tb, _, _, g1, g2, ?_, by omega, by omega, if_pos rfl, z, by omega, fun okz => ?_⟩)))
      · obtain ⟨r, V, F, vw, y0, y1, y2, -⟩ := h.2.2.2.2.2.1
        have hr9 : r = 9 := y0.2.2.trans hR
        subst hr9
        rw [g3 17 9 (by omega) (by omega), g4 (xp X) 14 (by omega) (by omega), emR_W 17 9 (by omega) (by omega), y2.2.2.1, gI_sI, if_pos ⟨rfl, rfl⟩, emC_W 2 8 (by omega) (by omega), y2.2.2.2.1]
      · have ok0 := g6 okz
        rw [hk 2 3 (by omega), emC_W 2 3 (by omega) (by omega)] at ok0
        exact pZn_keep (hz ok0) (fun q hq => by rw [g3 10 q (by decide) (by omega), emR_keep (by omega) (by decide)]) (fun q => by rw [g3 15 q (by decide) (by omega), emR_W 15 q (by omega) (by omega)]) (fun q hq e => by rw [g5 q (by rw [emR_keep (by omega) (by decide)]; exact e), emR_keep (by omega) (by decide)])
    by_cases hk : xrk X i = 0
    · refine rp_lt ((hX.rk hi 0 (by decide)).mpr hk) ?_
      by_cases z : nI j < 1500
      · rw [if_pos z, if_pos (show zI uc 7 6 = 256 from by rw [h.kd]; exact (hX.ck hi k0).mpr hk)]
        exact fin
      · rw [if_neg z]
        exact fin
    · have hit := hX.nx hi hk
      refine rp_lf (fun q => hk ((hX.rk hi 0 (by decide)).mp q)) ?_
      rw [if_pos (show nI j < 1500 from nI_lt (b := 1500) (by omega) (by decide)), if_neg (show ¬ zI uc 7 6 = 256 from c_ne hX h k0 hk), zbd_as]
      refine rp_bd (rp_mono (s_step0 n k hn hkk X hX k k i cr cc S C tb M ht ur uc (by omega) (by omega) h h0 h00 b1 b2 b3) (fun _ vr _ vc g => ?_))
      refine rp_rl' ?_
      rw [nI_1]
      rcases g with ⟨i', cr', cc', S', C', tb', M', ht', q1, q2, ⟨f1, f2, f3, f4, f5⟩, q4, q5⟩ | ⟨w, w1, w2⟩
      · have hi' := q1.i
        exact ih (xT X - i') (by omega) i' m m' (j + 1) vr vc rfl (by omega) (by omega) (by omega) ⟨cr', cc', S', C', tb', M', ht', q1, by omega, by omega, by omega, q5, by rw [(q4.1 0 (by omega)).2]; exact h00, by omega, fun ok => pZn_keep (hz (q4.2.2.2 ok)) (fun q hq => q4.2.1 10 q (by unfold pRw; omega)) (fun q => q4.2.1 15 q (Or.inr rfl)) (fun q hq _ => q4.2.1 11 q (by unfold pRw; omega))⟩
      · obtain ⟨m, rfl⟩ : ∃ y, m = y + 1 := ⟨m - 1, by omega⟩
        obtain ⟨m', rfl⟩ : ∃ y, m' = y + 1 := ⟨m' - 1, by omega⟩
        exact p_mainw n k hX m m' (j + 1) w1 w2
