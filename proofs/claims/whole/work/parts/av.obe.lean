/-! THE OBJECT: read, end -/
theorem tape_B {ur uc : zMu} {t : Nat} (h : pTape ur uc t) : ∃ B : Nat → Nat, (∀ j, B j < 256) ∧ ∀ j, j < t → zI ur 1 j = nI (B j) ∧ zI uc 1 j = sb (B j) := by
  obtain ⟨-, -, -, h⟩ := h
  refine ⟨fun j => if q : j < t then Classical.choose (h j q) else 0, fun j => ?_, fun j hj => ?_⟩
  · by_cases q : j < t
    · simp only [q, dif_pos]
      exact (Classical.choose_spec (h j q)).1
    · simp only [q, dif_neg, not_false_eq_true]
      omega
  · simp only [hj, dif_pos]
    exact (Classical.choose_spec (h j hj)).2
theorem ob_read (n k : Nat) (hn : 50000000 ≤ n) (hkk : 120 ≤ k) {K : Nat × Nat} {ur uc : zMu} (h : oI n k K ur uc) : Rp (rf_read n k ur) (ce_E_read n k uc) (fun r vr r' vc => r' = r ∧ oI n k K vr vc) := by
  obtain ⟨t, p, q, B, s, C, W, T, h1, ⟨h2, h3, h4⟩, h5, h6, ⟨h7, h8, h9⟩, h10, h11, h12, h13⟩ := h
  have hp : p = 12 ∨ p = 23 := by omega
  have hq : q = 12 ∨ q = 23 := by omega
  have hs := h10.1
  have ht : t ≤ 1500 := h1.2.2.1
  obtain ⟨B', hB1, hB2⟩ := tape_B h1
  obtain ⟨u1, e1, f1, -, g1⟩ := r_L7 n k hs s 0 n ur (by omega) (by omega)
  obtain ⟨u2, e2, f2, -, g2⟩ := r_L32 n k (nI s) ht t 0 n u1 (by omega) (by omega) ((f1.1 0 3 (by omega)).trans h1.1)
  have er : rf_read n k ur = rdT n k u2 (nI s) := by
    unfold rf_read
    show rf_read_L7 n k n ur (zI ur 0 4) (nI 0) = _
    rw [h10.2.2.1, e1, e2]
  have i2 : ∀ a j, ¬ (a = 2 ∨ a = 3) → zI u2 a j = zI ur a j := fun a j y => (f2.1 a j (by omega)).trans (f1.1 a j (by omega))
  have x2 : ∀ j, j < t → zI u2 2 j = nI (B' j) := fun j hj => by rw [g2 j (by omega) hj, f1.1 1 j (by omega)]; exact (hB2 j hj).1
  have x3 : ∀ j, j < s → zI u2 3 j = nI (B j) := fun j hj => by rw [f2.1 3 j (by omega), g1 j (by omega) hj]; exact h10.2.2.2 j hj
  have s2 : u2.2 = ur.2 := f2.2.trans f1.2
  have z3 : zI u2 0 3 = nI t := (i2 0 3 (by omega)).trans h1.1
  obtain ⟨u3, hu3⟩ : ∃ u3, zsI (zsI u2 0 4 (zI u2 0 3)) 0 3 0 = u3 := ⟨_, rfl⟩
  have i3 : ∀ a j, ¬ (a = 0 ∧ (j = 3 ∨ j = 4)) → zI u3 a j = zI u2 a j := fun a j y => by subst hu3; rw [gI_sI, if_neg (by omega), gI_sI, if_neg (by omega)]
  have z34 : zI u3 0 4 = nI t := by subst hu3; rw [gI_sI, if_neg (by omega), gI_sI, if_pos ⟨rfl, rfl⟩]; exact z3
  have z33 : zI u3 0 3 = 0 := by subst hu3; rw [gI_sI, if_pos ⟨rfl, rfl⟩]
  have s3 : u3.2 = ur.2 := by subst hu3; exact s2
  have hx : pTx B' t u3 uc := ⟨ht, hB1, z34, fun j hj => by rw [i3 2 j (by omega)]; exact x2 j hj, fun j hj => (hB2 j hj).2⟩
  have hy : pKy u3 uc := pKy_cg h2 (fun j => (i3 9 j (by omega)).trans (i2 9 j (by omega))) (fun _ => rfl)
  have hro : rRo u3 := rRo_cg h3 ((i3 0 27 (by omega)).trans (i2 0 27 (by omega))) (fun j => (i3 17 j (by omega)).trans (i2 17 j (by omega)))
  obtain ⟨_, vr, _, vc, e3, e4, tk, fa, fb, v15, v21, rv, kn⟩ := p_takes n k (by omega) hkk hq hx hy hro h4
  obtain ⟨X, tk⟩ := tk.o
  rw [er]
  unfold rdT ce_E_read
  rw [hu3, zbd_e e3]
  refine rp_rg (by rw [h9]; rcases hq with e | e <;> rw [e] <;> rfl) (rp_rl ?_)
  rw [h9, h1.2.1, zbd_e e4]
  refine rp_rl ?_
  obtain ⟨wc, hwc⟩ : ∃ wc, zsI vc 0 1 0 = wc := ⟨_, rfl⟩
  rw [hwc]
  have iw : ∀ a j, ¬ (a = 0 ∧ j = 1) → zI wc a j = zI vc a j := fun a j y => by subst hwc; rw [gI_sI, if_neg y]
  have sw : wc.2 = vc.2 := by subst hwc; rfl
  have w01 : zI wc 0 1 = 0 := by subst hwc; rw [gI_sI, if_pos ⟨rfl, rfl⟩]
  have w23 : zI wc 2 3 = zI vc 2 3 := iw 2 3 (by omega)
  have w24 : zI wc 2 4 = zI vc 2 4 := iw 2 4 (by omega)
  have va : ∀ a j, ¬ pcA a j → ¬ (a = 2 ∨ a = 3 ∨ (a = 0 ∧ (j = 3 ∨ j = 4))) → zI vr a j = zI ur a j := fun a j y z => by rw [fa.2 a j y, i3 a j (by omega), i2 a j (by omega)]
  -- a fault
  have bad : ∀ fk fp : Nat, 1 ≤ fk → fk ≤ 3 → zI vc 2 3 = nI fk → zI vc 2 4 = nI fp → Rp (rf_read_L151 n k n (zsI (zsI vr 0 18 (nI fk)) 0 19 (nI fp)) (nI s) 0) (some ((-10) - zI wc 2 3, wc)) (fun r vr r' vc => r' = r ∧ oI n k K vr vc) := by
    intro fk fp k1 k3 c3 c4
    obtain ⟨u5, hu5⟩ : ∃ u5, zsI (zsI vr 0 18 (nI fk)) 0 19 (nI fp) = u5 := ⟨_, rfl⟩
    rw [hu5]
    have i5 : ∀ a j, ¬ (a = 0 ∧ (j = 18 ∨ j = 19)) → zI u5 a j = zI vr a j := fun a j y => by subst hu5; rw [gI_sI, if_neg (by omega), gI_sI, if_neg (by omega)]
    have a18 : zI u5 0 18 = nI fk := by subst hu5; rw [gI_sI, if_neg (by omega), gI_sI, if_pos ⟨rfl, rfl⟩]
    have a19 : zI u5 0 19 = nI fp := by subst hu5; rw [gI_sI, if_pos ⟨rfl, rfl⟩]
    obtain ⟨v6, e6, f6, -, g6⟩ := r_L151 n k hs s 0 n u5 (by omega) (by omega)
    obtain ⟨u6, hu6⟩ : ∃ u6, zsI v6 0 4 (nI s) = u6 := ⟨_, rfl⟩
    rw [hu6] at e6
    have i6 : ∀ a j, ¬ (a = 2 ∨ (a = 0 ∧ j = 4)) → zI u6 a j = zI u5 a j := fun a j y => by subst hu6; rw [gI_sI, if_neg (by omega), f6.1 a j (by omega)]
    have z64 : zI u6 0 4 = nI s := by subst hu6; rw [gI_sI, if_pos ⟨rfl, rfl⟩]
    have z62 : ∀ j, j < s → zI u6 2 j = nI (B j) := fun j hj => by
      have : zI u6 2 j = zI v6 2 j := by subst hu6; rw [gI_sI, if_neg (by omega)]
      rw [this, g6 j (by omega) hj, i5 3 j (by omega), fa.2 3 j (by unfold pcA; omega), i3 3 j (by omega)]
      exact x3 j hj
    have s6 : u6.2 = ur.2 := by
      have : u6.2 = v6.2 := by subst hu6; rfl
      have y5 : u5.2 = vr.2 := by subst hu5; rfl
      rw [this, f6.2, y5, fa.1, s3]
    have ro6 : rRo u6 := rRo_cg rv ((i6 0 27 (by omega)).trans (i5 0 27 (by omega))) (fun j => (i6 17 j (by omega)).trans (i5 17 j (by omega)))
    have hr6 : ∀ a j, ¬ (a ≤ 26 ∧ tgR a j = 0) → zI u6 a j = zI ur a j := fun a j y => by
      have y1 : ¬ pcA a j := fun z => y ⟨by unfold pcA at z; omega, pcA_tg z⟩
      have y2 : ¬ (a = 2 ∨ a = 3) := fun z => y ⟨by omega, by rcases z with rfl | rfl <;> rfl⟩
      have y3 : ¬ (a = 0 ∧ (j = 3 ∨ j = 4 ∨ j = 18 ∨ j = 19)) := fun z => y ⟨by omega, by
        obtain ⟨rfl, z⟩ := z
        rcases z with rfl | rfl | rfl | rfl <;> rfl⟩
      rw [i6 a j (by omega), i5 a j (by omega)]
      exact va a j y1 (by omega)
    obtain ⟨v, e7, a7, oi⟩ := o_back n k hn hkk (u2 := u6) (wc := wc) h2 h4 h6 h7 h8 h9 h11 h12 h13 ro6 hr6 s6 ⟨hs, h10.2.1, z64, z62⟩ ((i6 0 3 (by omega)).trans ((i5 0 3 (by omega)).trans ((fa.2 0 3 (by unfold pcA; omega)).trans z33))) ((i6 0 5 (by omega)).trans ((i5 0 5 (by omega)).trans (va 0 5 (by unfold pcA; omega) (by omega)))) (fun j => (i6 9 j (by omega)).trans ((i5 9 j (by omega)).trans (va 9 j (by unfold pcA; omega) (by omega)))) (rKn_cg kn (iw 2 8 (by omega))) (fun a j y => by rw [iw a j (fun z => y (Or.inl z))]; exact fb.1 a j (fun z => y (Or.inr z))) (fun a j y => by rw [zL_2 sw]; exact fb.2.1 a j y) (fun a j y => by rw [zR_2 sw]; exact fb.2.2.1 a j y) (by rw [zR_2 sw]; exact v21) (by rw [show wc.2.2.2 = vc.2.2.2 from by rw [sw]]; exact fb.2.2.2) w01 ⟨by rw [w23, c3, i6 0 18 (by omega), a18], by rw [w24, c4, i6 0 19 (by omega), a19]⟩
    refine rp_eq (a := (-10) - zI v 0 18) (u := v) ?_ rfl ⟨?_, oi⟩
    · show rf_read_L151 n k n u5 (nI s) (nI 0) = _
      rw [e6, zbd_e e7]
    · rw [a7, i6 0 18 (by omega), a18, w23, c3]
  have n0 : ∀ fk : Nat, 1 ≤ fk → fk ≤ 3 → ¬ nI fk = 0 := fun fk x y e => absurd ((nI_eq (b := 0) (by omega) (by omega)).mp e) (by omega)
  rcases tk.2.2.2.2.2.2.2 with pg | ⟨w, b1, b2⟩
  · have pg' := pg
    obtain ⟨hr9, i, cr, cc, S, Cn, tb, M, ht', hO, -⟩ := pg'
    obtain ⟨-, -, -, ⟨w15, -⟩, -, -, ⟨fk, fp, hf, -⟩, -⟩ := hO
    rw [zbd_e (r_isWrong0 n w15)]
    refine rp_lt rfl ?_
    rcases hf with ⟨-, r16, c3, c4⟩ | ⟨k23, k15, r16, r17, c3, c4⟩
    · -- well
      refine rp_lt r16 (rp_rt (w23.trans c3) ?_)
      unfold rf_read_J103
      refine rp_ll ?_
      rw [zbd_e (r_isWrong0 n (show zI (zsI vr 0 18 0) 0 15 = -1 from w15))]
      refine rp_lt rfl ?_
      unfold rf_read_J125
      refine rp_ll (rp_lt rfl (rp_ll ?_))
      have r16' : zI (zsI vr 0 18 0) 0 16 = -1 := r16
      rw [r16']
      obtain ⟨u5, hu5⟩ : ∃ u5, zsI (zsI (zsI vr 0 18 0) 0 19 (-1)) 0 5 1 = u5 := ⟨_, rfl⟩
      rw [hu5]
      have i5 : ∀ a j, ¬ (a = 0 ∧ (j = 5 ∨ j = 18 ∨ j = 19)) → zI u5 a j = zI vr a j := fun a j y => by subst hu5; rw [gI_sI, if_neg (by omega), gI_sI, if_neg (by omega), gI_sI, if_neg (by omega)]
      have a5 : zI u5 0 5 = 1 := by subst hu5; rfl
      have a18 : zI u5 0 18 = 0 := by subst hu5; rfl
      have a19 : zI u5 0 19 = -1 := by subst hu5; rfl
      obtain ⟨u6, e6, f6, g6⟩ := r_anew n (by omega) u5
      refine rp_l e6 ?_
      have i6 : ∀ a j, a ≤ 26 → ¬ (a = 0 ∧ 51 ≤ j) → zI u6 a j = zI u5 a j := fun a j x y => f6.1 a j (by unfold kAf; omega)
      -- the class
      have zw : ∀ a j, ¬ (a = 2 ∧ j = 1) → zR wc a j = zR uc a j := fun a j y => by rw [zR_2 sw]; exact fb.2.2.1 a j y
      have w4 : zR wc 0 4 = p := (zw 0 4 (by omega)).trans h8
      have w5 : zR wc 0 5 = q := (zw 0 5 (by omega)).trans h9
      have zp : zpr p = true := by rcases hp with e | e <;> rw [e] <;> rfl
      have zq : zpr q = true := by rcases hq with e | e <;> rw [e] <;> rfl
      refine rp_rg (by rw [w4]; exact zp) (rp_rl (rp_rg (by rw [w5]; exact zq) (rp_rl (rp_rl (rp_rl (rp_rl ?_))))))
      rw [w4, w5]
      obtain ⟨w10, hw10⟩ : ∃ w10, zsI (zsR (zsR wc 0 4 q) 0 5 p) 0 6 1 = w10 := ⟨_, rfl⟩
      rw [hw10]
      have zR10 : ∀ a j, zR w10 a j = if a = 0 ∧ j = 5 then p else if a = 0 ∧ j = 4 then q else zR wc a j := fun a j => by
        subst hw10
        rw [gR_sI, gR_sR, gR_sR]
      have i10 : ∀ a j, ¬ (a = 0 ∧ j = 6) → zI w10 a j = zI wc a j := fun a j y => by subst hw10; rw [gI_sI, if_neg y]; rfl
      have l10 : ∀ a j, zL w10 a j = zL wc a j := fun a j => by subst hw10; rfl
      have n10 : ∀ a, zN w10 a = zN wc a := fun a => by subst hw10; rfl
      have z10 : zc w10 = zc wc := by subst hw10; rfl
      have a6 : zI w10 0 6 = 1 := by subst hw10; rw [gI_sI, if_pos ⟨rfl, rfl⟩]
      have q4 : zR w10 0 4 = q := by rw [zR10, if_neg (by omega), if_pos ⟨rfl, rfl⟩]
      refine rp_rg (by rw [q4]; exact zq) (rp_rl ?_)
      rw [q4]
      obtain ⟨w13, e13, f13, g13⟩ := c_load n q (by omega) w10
      refine rp_r e13 ?_
      have r13 : ∀ a j, zR w13 a j = if a = 34 ∧ j = 6 then q else zR w10 a j := fun a j => by
        have : zR w13 a j = zR (zsR w10 34 6 q) a j := by unfold zR; rw [f13.2]
        rw [this, gR_sR]
      have i13 : ∀ a j, ¬ kLf a j → zI w13 a j = zI w10 a j := fun a j y => f13.1 a j y
      have l13 : ∀ a j, zL w13 a j = zL wc a j := fun a j => by
        have : zL w13 a j = zL (zsR w10 34 6 q) a j := by unfold zL; rw [f13.2]
        rw [this]; exact l10 a j
      have vcN : vc.2.2.2 = uc.2.2.2 := fb.2.2.2
      have n13 : ∀ a, zN w13 a = zN uc a := fun a => by
        have : zN w13 a = zN (zsR w10 34 6 q) a := by unfold zN; rw [f13.2]
        rw [this]
        show zN w10 a = _
        rw [n10, zN_2 sw]; unfold zN; rw [vcN]
      have c13 : zc w13 = zc uc := by
        have : zc w13 = zc (zsR w10 34 6 q) := by unfold zc; rw [f13.2]
        rw [this]
        show zc w10 = _
        rw [z10, zc_2 sw]; unfold zc; rw [vcN]
      have q13 : zR w13 0 4 = q := by rw [r13, if_neg (by omega), q4]
      refine rp_rg (by rw [q13]; exact zq) (rp_rl ?_)
      rw [q13]
      have fin13 : ∀ a j, ¬ kLf a j → ¬ (a = 0 ∧ (j = 1 ∨ j = 6)) → zI w13 a j = zI vc a j := fun a j y z => by rw [i13 a j y, i10 a j (by omega), iw a j (by omega)]
      obtain ⟨o1, o2, o3, o4⟩ := h6
      have d13 : zdy w13 = true := by
        have y1 := of_decide_eq_true o2
        refine decide_eq_true ⟨?_, ?_, ?_, ?_⟩
        · rw [q13]; omega
        · rw [r13, if_neg (by omega), zR10, if_pos ⟨rfl, rfl⟩]; omega
        · rw [r13, if_neg (by omega), zR10, if_neg (by omega), if_neg (by omega), zR_2 sw, v21]; omega
        · rw [r13, if_pos ⟨rfl, rfl⟩]; omega
      have W13 : oW w13 := oW_keep o1 (fun a j x y => by
        rw [fin13 a j (by unfold kLf; omega) (by omega)]
        exact fb.1 a j (by unfold pcB; omega)) (fun a _ => n13 a)
      have cv : ∀ a j, q ≤ a → a ≤ q + 10 → zI w13 a j = zI vc a j ∧ zL w13 a j = zL vc a j := fun a j x y => ⟨fin13 a j (by unfold kLf; omega) (by omega), by rw [l13, zL_2 sw]⟩
      have hb : ∀ a j, pcA a j → zI u6 a j = zI vr a j := fun a j y => by
        rw [i6 a j (by unfold pcA at y; omega) (by unfold pcA at y; omega), i5 a j (by unfold pcA at y; omega)]
      obtain ⟨S', b', M', oo⟩ := oOb_tk tk c3 hb cv d13 ((cv q 15 (by omega) (by omega)).1.trans v15)
      have oo' := oo
      obtain ⟨⟨F8, -, -⟩, ⟨S80, r39, c8⟩, -⟩ := oo'
      refine rp_end ⟨by rw [r39, c8], ?_⟩
      have p6 : ∀ j, j ≤ 50 → zI u6 0 j = zI u5 0 j := fun j x => i6 0 j (by omega) (by omega)
      refine ⟨0, q, p, B', t, _, W0, 0, ⟨?_, ?_, by omega, fun j hj => absurd hj (Nat.not_lt_zero j)⟩, ⟨⟨fun j hj => ?_, fun k hk => ?_⟩, rRo_cg rv ?_ (fun j => ?_), rKn_cg kn ?_⟩, ⟨?_, ?_⟩, ⟨W13, d13, ?_, ?_⟩, ⟨by omega, q13, ?_⟩, ⟨ht, hB1, ?_, fun j hj => ?_⟩, kOt_0 F8 S80 g6 g13 W13, oo, Or.inr ⟨?_, ?_, X, ⟨uc, vc, vr, ⟨hx.2.2.2.2, h2.2, h4⟩, e4, c3, tk, hb, cv⟩, rfl, fun _ _ => rfl⟩⟩
      · rw [p6 3 (by omega), i5 0 3 (by omega), fa.2 0 3 (by unfold pcA; omega)]; exact z33
      · rw [i13 0 1 (by unfold kLf; omega), i10 0 1 (by omega)]; exact w01
      · rw [i6 9 j (by omega) (by omega), i5 9 j (by omega), fa.2 9 j (by unfold pcA; omega)]; exact hy.1 j hj
      · rw [l13, zL_2 sw, fb.2.1 8 k (by unfold pcB; omega)]; exact h2.2 k hk
      · rw [p6 27 (by omega), i5 0 27 (by omega)]
      · rw [i6 17 j (by omega) (by omega), i5 17 j (by omega)]
      · exact fin13 2 8 (by unfold kLf; omega) (by omega)
      · rw [fin13 2 3 (by unfold kLf; omega) (by omega), c3, p6 18 (by omega), a18]
      · rw [fin13 2 4 (by unfold kLf; omega) (by omega), c4, p6 19 (by omega), a19]
      · rw [c13]; unfold pA at o3 ⊢; simp only [n13]; exact o3
      · rw [c13]; unfold pB at o4 ⊢; simp only [n13]; exact o4
      · rw [r13, if_neg (by omega), zR10, if_pos ⟨rfl, rfl⟩]
      · rw [p6 4 (by omega), i5 0 4 (by omega), fa.2 0 4 (by unfold pcA; omega)]; exact z34
      · rw [i6 2 j (by omega) (by omega), i5 2 j (by omega), fa.2 2 j (by unfold pcA; omega)]; exact hx.2.2.2.1 j hj
      · rw [p6 5 (by omega)]; exact a5
      · rw [i13 0 6 (by unfold kLf; omega)]; exact a6
    · -- a fault of kind 2 or 3
      refine rp_lf (by rw [r16]; exact nI_m1 (by omega)) (rp_rf (by rw [w23, c3]; exact n0 fk (by omega) (by omega)) ?_)
      unfold rf_read_J103
      refine rp_ll ?_
      rw [r17, zbd_e (r_isWrong0 n (show zI (zsI vr 0 18 (nI fk)) 0 15 = -1 from w15))]
      refine rp_lt rfl ?_
      unfold rf_read_J125
      have r16' : zI (zsI vr 0 18 (nI fk)) 0 16 = nI fp := r16
      rw [r16']
      exact rp_ll (rp_lf (n0 fk (by omega) (by omega)) (bad fk fp (by omega) (by omega) c3 c4))
  · -- refused
    rw [zbd_e (r1_isWrong n b1)]
    have c3 : zI vc 2 3 = nI 1 := b2.2.2.1
    have c4 : zI vc 2 4 = nI w := b2.2.2.2.1
    refine rp_lf (by decide) (rp_rf (by rw [w23, c3]; decide) ?_)
    unfold rf_read_J103
    refine rp_ll ?_
    have w15 : zI (zsI vr 0 18 1) 0 15 = nI w := b1.2.2.1
    rw [zbd_e (r_isWrong1 n (by rw [w15]; exact nI_m1 (by have := b1.2.1; omega)))]
    refine rp_lf (by decide) ?_
    unfold rf_read_J125
    rw [w15]
    exact rp_ll (rp_lf (show ¬ (1 : Int32) = 0 by decide) (bad 1 w (by omega) (by omega) c3 c4))
