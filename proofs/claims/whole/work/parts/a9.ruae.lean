/-! RUNNING: a member is put -/
theorem o_put (n : Nat) (hn : 20000 ≤ n) {C : kC} (P : kPs C) {W : kW} {fr : List Nat} {T k s : Nat} {ur uc : zMu} (h : kGd C W fr T (k + 2) ur uc) (hs : s < cS C) (k1 : zI (cb C) 19 s = nI 1) (hmm : wM W < 20000) (v2 : Int32) : Rp (rf_puts n ur (nI s) v2) (ce_M_putMember n uc (nI s) v2) (kQ C fr T k 1 W ur uc) := by
  have t8 := h.t8
  have h0 := h.v (show k < k + 2 by omega)
  have h1 := h.v (show k + 1 < k + 2 by omega)
  have S80 : cS C ≤ 80 := P.2.2.2.2.1.1
  obtain ⟨vr, ev, i51, i27, l31, fr1, iO, lO⟩ := pop_r h k
  obtain ⟨uk, ek, k8, p1, p2, p3, fc1, kd⟩ := pop_c P h k
  have hs0 := kSt_pop h.2.1 (k := k) (by omega)
  rw [ev, ek] at hs0
  obtain ⟨hPp, hOb, hMb, hSh, hRw, hSi, hFn, hCt⟩ := h.2.2.2.2
  have o2 := hOb.1
  have B : kBs C vr uk := kBs.tr h.1 fr1 fc1 (by decide)
  obtain ⟨pp, pz, p12⟩ := B.p P
  have hOk := kOb_k hOb fr1 fc1 (by decide)
  unfold rf_puts ce_M_putMember
  rw [h.tr, h.tc, show nI (k + 2) - 2 = nI k from nI_sub (a := k + 2) (b := 2) (by omega), ev, ek]
  refine rp_ll (rp_rl ?_)
  rw [i51, k8, zx_nI (show k < 2 ^ 31 by omega), i27, l31]
  refine rp_lg (zin_nI (by omega) (by decide)) ?_
  rcases c_objAt n (k := k) p1 (by omega) hOk.2.2.1 o2 (by rw [p2, p3]; exact h0) v2 with ⟨o, ho, b1, b2, e⟩ | ⟨b1, e⟩
  · refine rp_lt b1 (rp_lg (zin_nI (by omega) (by decide)) (rp_ll (rp_r e (rp_rf (nI_m1 (by omega)) ?_))))
    rw [b2, lN_i, pp]
    obtain ⟨kd', kd1, kd2, kd3, kd4, kd5, kd6⟩ := P.2.2.2.2.2 s hs
    have hkd : kd' = 1 := (nI_eq (by omega) (by decide)).mp (kd2.symm.trans k1)
    obtain ⟨w, hw, ew, ew2⟩ := kd6 (by omega)
    refine rp_rg pz (rp_rl (rp_r (ck_isSite n (F := cS C) (by rw [B.c (by omega) (by omega)]; exact P.2.2.2.2.1.2.2) (by omega) hs) (rp_rf (by decide) (rp_rg (zin_nI (by omega) (by decide)) ?_))))
    rw [zx_nI (show o < 2 ^ 31 by omega), zx_nI (show s < 2 ^ 31 by omega)]
    have hMk := kMb_k hMb fr1 fc1 (by decide)
    have hShk := kSh_k hSh fr1 fc1 (by decide)
    have hSik := kSi_k hSi fr1 fc1 (by decide)
    -- the site meets
    obtain ⟨r, ur1, r', uc1, em1, em2, er', F1, G1, hSm, -, -⟩ := k_meet n hn P B hOk hMk hShk hSik hs ho hw ew (E := 200) (by omega) (Or.inr ⟨k1, rfl⟩)
    refine rp_l em1 (rp_lg (zin_nI (by omega) (by decide)) ?_)
    have emp : ce_T_meetPut n uk (nI s) (zI uk 37 o) = some ((), uc1) := by
      unfold ce_T_meetPut
      rw [zbd_e (show ce_T_meets n uk (nI s) (zI uk 37 o) 200 = some (r', uc1) from em2)]
    refine rp_r emp ?_
    have B1 : kBs C ur1 uc1 := B.tr F1 G1 (by decide)
    have hO1 := kOb_k hOk F1 G1 (by decide)
    have hM1 := kMb_k hMk F1 G1 (by decide)
    have hS1 := kSh_k hShk F1 G1 (by decide)
    obtain ⟨pp1, -, -⟩ := B1.p P
    rw [pp1, show zI ur1 22 s = nI w from (B1.r (show tgR 22 s = 0 from rfl)).trans ew]
    refine rp_rg pz (rp_rl ?_)
    rw [B1.c (a := xp (cX C)) (by omega) (by omega), P.2.2.2.2.1.2.2]
    -- the value
    obtain ⟨sc, sc1, sc2⟩ := vR_s4 h1
    have h1' : vR (wO W) (wR W) (zI ur 27 (k + 1)) (zL ur 31 (k + 1)) (nI sc) (vX 75 uc (k + 1)) := by rw [sc2] at h1; exact h1
    have hsite : ∃ s, s < 80 ∧ zI (cb C) 22 s = nI w := ⟨s, by omega, ew⟩
    have d1 : zdy uc1 = true := (fT_dy G1).trans kd
    -- the reference's pictures
    obtain ⟨cell, u0, vcx, Vx, eR, hcell, -, FR, -⟩ := k_put n hn P hO1 hM1 hS1 d1 ho hw hsite hmm sc1 h1'
    obtain ⟨ur2, hur2⟩ : ∃ ur2, zsL (zsI u0 41 cell (zI ur 27 (k + 1))) 43 cell (zL ur 31 (k + 1)) = ur2 := ⟨_, rfl⟩
    rw [hur2] at FR
    have C0 := fT_rf tgC [6, 7] uc1
    have B2 : kBs C ur2 uc1 := B1.tr FR C0 (by decide)
    have hO2 := kOb_k hO1 FR C0 (by decide)
    have hSi2 := kSi_k hSm FR C0 (by decide)
    obtain ⟨ur3, uc2, eb1, eb2, F3, G2, hSi3⟩ := k_breaks n hn P ho B2 hO2 hS1 hSi2
    refine rp_r eb2 ?_
    -- the class's, at its own time
    have R9 := fT_rf tgR [9] ur1
    have hO3 := kOb_k hO1 R9 G2 (by decide)
    have hM3 := kMb_k hM1 R9 G2 (by decide)
    have hS3 := kSh_k hS1 R9 G2 (by decide)
    obtain ⟨cell', u0', vc, V, eR', hcell', eg, FR', GC, le, ⟨w1, w2, w3, w4, w5, w6⟩, kM, kS⟩ := k_put n hn P hO3 hM3 hS3 ((fT_dy G2).trans d1) ho hw hsite hmm sc1 h1'
    have same : cell' = cell ∧ u0' = u0 := by
      rcases eR with ⟨x1, x2⟩ | ⟨x1, x2⟩ <;> rcases eR' with ⟨y1, y2⟩ | ⟨y1, y2⟩
      · have := x1.symm.trans y1
        simp only [Option.some.injEq, Prod.mk.injEq, and_true] at this
        exact ⟨((nI_eq (by omega) (by omega)).mp this).symm, by rw [x2, y2]⟩
      · have := x1.symm.trans y1
        simp only [Option.some.injEq, Prod.mk.injEq, and_true] at this
        exact absurd this (nI_m1 (by omega))
      · have := y1.symm.trans x1
        simp only [Option.some.injEq, Prod.mk.injEq, and_true] at this
        exact absurd this (nI_m1 (by omega))
      · have := x2.symm.trans y2
        simp only [Option.some.injEq, Prod.mk.injEq] at this
        exact ⟨((nI_eq (by omega) (by omega)).mp this.1).symm, this.2.symm⟩
    obtain ⟨q1, q2⟩ := same
    subst q1; subst q2
    rw [hur2] at kM kS FR'
    -- the class's rest
    have B3 : kBs C ur1 uc2 := B1.tr R9 G2 (by decide)
    obtain ⟨pp3, -, -⟩ := B3.p P
    have w75 := vw_kT (fT_tr G1 G2) (v := 75) (m := 780) (t := 1) (by unfold vK; omega) (by decide)
    have c8 : zI uc2 34 8 = nI k := (fT_i (fT_tr G1 G2) (by decide) (show tgC 34 8 = 1 from rfl)).trans k8
    rw [pp3]
    refine rp_rg pz (rp_rl (rp_rg (zin_nI (by omega) (by decide)) ?_))
    rw [c8, nI_1]
    refine rp_r (v_sortAt n (w75.1 p1) (j := k + 1) (by omega)) ?_
    rw [c8, nI_1]
    refine rp_r (v_numberAt n (w75.1 p1) (j := k + 1) (by omega)) ?_
    rw [w75.2.1, w75.2.2.1, p2, p3, sc2, zbd_u, B3.l (a := xp (cX C) + 7) (by omega) (by omega), ew2]
    -- the reference's rest
    have eJ : ∀ u, u = u0' → rf_puts_J80 n u (nI o) (nI cell') = some (-1, ur3) := by
      intro u hu
      subst hu
      -- the stack's rows are read through what was written
      have s27 : ∀ j, zI u 27 j = zI ur 27 j := fun j => by
        have : zI ur2 27 j = zI u 27 j := by rw [← hur2, gI_sL, gI_sI, if_neg (by omega)]
        rw [← this, fT_i FR' (by decide) (show tgR 27 j = 1 from rfl), fT_i F1 (by decide) (show tgR 27 j = 1 from rfl), i27]
      have s31 : ∀ j, zL u 31 j = zL ur 31 j := fun j => by
        have : zL ur2 31 j = zL u 31 j := by rw [← hur2, gL_sL, if_neg (by omega), gL_sI]
        rw [← this, fT_l FR' (by decide) (show tgR 31 0 = 1 from rfl), fT_l F1 (by decide) (show tgR 31 0 = 1 from rfl), l31]
      have s51 : zI u 0 51 = nI k := by
        have : zI ur2 0 51 = zI u 0 51 := by rw [← hur2, gI_sL, gI_sI, if_neg (by omega)]
        rw [← this, fT_i FR' (by decide) (show tgR 0 51 = 1 from rfl), fT_i F1 (by decide) (show tgR 0 51 = 1 from rfl), i51]
      unfold rf_puts_J80
      rw [s51, nI_1, zin_nI (show k + 1 < 2200 by omega) (by decide), zgd_t, zin_nI hcell (by decide), zgd_t, zx_nI (show k + 1 < 2 ^ 31 by omega), zx_nI (show cell' < 2 ^ 31 by omega), s27]
      simp only [zlet]
      have j51 : zI (zsI u 41 cell' (zI ur 27 (k + 1))) 0 51 = nI k := by rw [gI_sI, if_neg (by omega)]; exact s51
      rw [j51, nI_1, zin_nI (show k + 1 < 2200 by omega) (by decide), zgd_t, zgd_t, zx_nI (show k + 1 < 2 ^ 31 by omega), gL_sI, s31, hur2, zbd_e eb1]
    have fin : kQ C fr T k 1 W ur uc (-1) ur3 () vc := by
      have HR : fT tgR [1, 6, 7, 9] ur ur3 := fT_tr (fT_mono fr1 (by decide)) (fT_tr (fT_mono F1 (by decide)) (fT_tr (fT_mono FR' (by decide)) (fT_mono F3 (by decide))))
      have HC : fT tgC [1, 6, 7, 9] uc vc := fT_tr (fT_mono fc1 (by decide)) (fT_tr (fT_mono G1 (by decide)) (fT_tr (fT_mono G2 (by decide)) (fT_mono GC (by decide))))
      have HR1 : fT tgR [6, 7, 9] vr ur3 := fT_tr (fT_mono F1 (by decide)) (fT_tr (fT_mono FR' (by decide)) (fT_mono F3 (by decide)))
      have HC1 : fT tgC [6, 7, 9] uk vc := fT_tr (fT_mono G1 (by decide)) (fT_tr (fT_mono G2 (by decide)) (fT_mono GC (by decide)))
      have hp : ∀ o, o < wO W → wp W o ≤ o := fun o ho => (hOb.2.2.2 o ho).1
      have st := kSt_m (kSt_k hs0 HR1 HC1 (by decide)) le.1 le.2.1
      have V9 := fT_rf tgC [9] vc
      refine kQ_g h HR HC (by decide) (by decide) (by decide) (by decide) (V := V) le.1 le.2.1 (by omega) st ⟨kPp_m (kPp_k hPp HR HC (by decide)) le w4, ?_, kMb_k kM F3 V9 (by decide), kSh_k kS F3 V9 (by decide), kRw_m (kRw_k hRw HR HC (by decide)) le w2, kSi_m (kSi_k hSi3 (fT_rf tgR [6, 7] ur3) GC (by decide)) le hp w6, kFn_m (kFn_k hFn HR HC (by decide)) w6, kCt_k hCt HR HC (by decide)⟩
      have := kOb_k hOb HR HC (by decide)
      unfold kOb at this ⊢
      rw [w1, w5]
      exact this
    rcases eR with ⟨x1, x2⟩ | ⟨x1, x2⟩
    · refine rp_l x1 (rp_lf (nI_m1 (by omega)) (rp_eq (eJ _ x2.symm) eg fin))
    · refine rp_l x1 (rp_lt rfl (rp_lg (zin_nI (by omega) (by decide)) ?_))
      rw [show zI ur1 22 s = nI w from (B1.r (show tgR 22 s = 0 from rfl)).trans ew]
      exact rp_l x2 (rp_eq (eJ _ rfl) eg fin)
  · refine rp_lf b1 (rp_r e (rp_rt rfl ?_))
    rw [zbd_i]
    obtain ⟨w, e1, q⟩ := kQ_f0 (t' := k) (c := 1) n h fr1 fc1 2 v2
    exact rp_eq e1 rfl q
