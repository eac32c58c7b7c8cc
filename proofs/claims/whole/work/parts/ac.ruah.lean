/-! RUNNING: a member is struck -/
theorem kSi_cnt {F S : Nat} {ub : zMu} {W : kW} {ur uc u1 w1 : zMu} {s : Nat} (h : kSi F S ub W ur uc) (hs : s < S) (k3 : ¬ zI ub 19 s = nI 3) (hu1 : zsI ur 52 s (zI ur 52 s + 1) = u1) (hw1 : zsI uc 50 s (zI uc 50 s + 1) = w1) : kSi F S ub W u1 w1 := by
  have i1 : ∀ a i, ¬ (a = 52 ∧ i = s) → zI u1 a i = zI ur a i := fun a i q => by subst hu1; rw [gI_sI, if_neg q]
  have c1 : ∀ a i, ¬ (a = 50 ∧ i = s) → zI w1 a i = zI uc a i := fun a i q => by subst hw1; rw [gI_sI, if_neg q]
  refine kSi_one (s := s) h (fun a j q => i1 a j (by unfold sR at q; omega)) (fun a j q => c1 a j (by unfold sC at q; omega)) ?_
  obtain ⟨g1, g2, g3, g4, g, g5, g6, g7, g8, g9⟩ := h.2.2.2 s hs
  refine ⟨?_, ?_, fun q => absurd q k3, fun q => ?_, g, g5, ?_, ?_, g8, fun q i hi => ?_⟩
  · subst hu1; subst hw1; rw [gI_sI, if_pos ⟨rfl, rfl⟩, gI_sI, if_pos ⟨rfl, rfl⟩, g1]
  · rw [i1 53 _ (by omega), c1 51 _ (by omega)]; exact g2
  · obtain ⟨k, k1, k2, k3, k4, k5, k6⟩ := g4 q
    exact ⟨k, k1, by rw [i1 54 _ (by omega)]; exact k2, by rw [c1 52 _ (by omega)]; exact k3, by rw [i1 58 _ (by omega), c1 53 _ (by omega)]; exact k4, by rw [i1 58 _ (by omega)]; exact k5, fun i hi => kEn_q (k6 i hi) (i1 55 _ (by omega)) (i1 56 _ (by omega)) (i1 57 _ (by omega)) (c1 55 _ (by omega)) (c1 56 _ (by omega))⟩
  · rw [i1 59 _ (by omega)]; exact g6
  · rw [c1 58 _ (by omega)]; exact g7
  · rw [i1 60 _ (by omega), c1 57 _ (by omega)]; exact g9 q i hi
theorem o_strike (n : Nat) (hn : 20000 ≤ n) {C : kC} (P : kPs C) {W : kW} {fr : List Nat} {T k c s : Nat} {ur uc : zMu} (h : kGd C W fr T (k + 1) ur uc) (hs : s < cS C) (k2 : zI (cb C) 19 s = nI 2) (v2 : Int32) : Rp (rf_strikes n ur (nI s) v2) (ce_M_strikeMember n uc (nI s) v2) (kQ C fr T k c W ur uc) := by
  have t8 := h.t8
  have h0 := h.v (show k < k + 1 by omega)
  have S80 : cS C ≤ 80 := P.2.2.2.2.1.1
  have hI := P.2.1
  have hN := P.2.2.1
  obtain ⟨vr, ev, i51, i27, l31, fr1, iO, lO⟩ := pop_r h k
  obtain ⟨uk, ek, k8, p1, p2, p3, fc1, kd⟩ := pop_c P h k
  have hs0 := kSt_pop h.2.1 (k := k) (by omega)
  rw [ev, ek] at hs0
  obtain ⟨hPp, hOb, hMb, hSh, hRw, hSi, hFn, hCt⟩ := h.2.2.2.2
  have o2 := hOb.1
  have B : kBs C vr uk := kBs.tr h.1 fr1 fc1 (by decide)
  obtain ⟨pp, pz, p12⟩ := B.p P
  have hOk := kOb_k hOb fr1 fc1 (by decide)
  unfold rf_strikes ce_M_strikeMember
  rw [h.tr, h.tc, nI_pred, ev, ek]
  refine rp_ll (rp_rl ?_)
  rw [i51, k8, zx_nI (show k < 2 ^ 31 by omega), i27, l31]
  refine rp_lg (zin_nI (by omega) (by decide)) ?_
  rcases c_objAt n (k := k) p1 (by omega) hOk.2.2.1 o2 (by rw [p2, p3]; exact h0) v2 with ⟨o, ho, b1, b2, e⟩ | ⟨b1, e⟩
  · refine rp_lt b1 (rp_lg (zin_nI (by omega) (by decide)) (rp_ll (rp_r e (rp_rf (nI_m1 (by omega)) ?_))))
    rw [b2, lN_i, pp]
    obtain ⟨kd', kd1, kd2, kd3, kd4, kd5, kd6⟩ := P.2.2.2.2.2 s hs
    have hkd : kd' = 2 := (nI_eq (by omega) (by decide)).mp (kd2.symm.trans k2)
    obtain ⟨w, hw, ew, ew2⟩ := kd6 (by omega)
    refine rp_rg pz (rp_rl (rp_r (ck_isSite n (F := cS C) (by rw [B.c (by omega) (by omega)]; exact P.2.2.2.2.1.2.2) (by omega) hs) (rp_rf (by decide) ?_)))
    rw [zx_nI (show o < 2 ^ 31 by omega), zx_nI (show s < 2 ^ 31 by omega)]
    -- counted
    obtain ⟨ur1, hur1⟩ : ∃ ur1, zsI vr 52 s (zI vr 52 s + 1) = ur1 := ⟨_, rfl⟩
    obtain ⟨uc1, huc1⟩ : ∃ uc1, zsI uk 50 s (zI uk 50 s + 1) = uc1 := ⟨_, rfl⟩
    have F1 : fT tgR [9] vr ur1 := by rw [← hur1]; exact fT_I (fT_rf _ _ _) _ 9 rfl (by decide)
    have G1 : fT tgC [9] uk uc1 := by rw [← huc1]; exact fT_I (fT_rf _ _ _) _ 9 rfl (by decide)
    have emp : ce_T_meetStrike n uk (nI s) = some ((), uc1) := by
      unfold ce_T_meetStrike
      rw [zin_nI (show s < 80 by omega) (by decide), zgd_t, zgd_t, zx_nI (show s < 2 ^ 31 by omega), huc1]
      rfl
    refine rp_lg (zin_nI (by omega) (by decide)) (rp_lg (zin_nI (by omega) (by decide)) ?_)
    rw [hur1]
    refine rp_ll (rp_lg (zin_nI (by omega) (by decide)) (rp_ll (rp_r emp ?_)))
    have B1 : kBs C ur1 uc1 := B.tr F1 G1 (by decide)
    have hO1 := kOb_k hOk F1 G1 (by decide)
    have hM1 := kMb_k (kMb_k hMb fr1 fc1 (by decide)) F1 G1 (by decide)
    have hS1 := kSh_k (kSh_k hSh fr1 fc1 (by decide)) F1 G1 (by decide)
    have hSm := kSi_cnt (kSi_k hSi fr1 fc1 (by decide)) hs (by rw [k2]; decide) hur1 huc1
    obtain ⟨pp1, -, -⟩ := B1.p P
    rw [pp1]
    refine rp_rg pz (rp_rl (rp_rg (zin_nI (by omega) (by decide)) ?_))
    rw [B1.l (a := xp (cX C) + 7) (by omega) (by omega), ew2]
    have e22 : zI ur1 22 s = nI w := (B1.r (show tgR 22 s = 0 from rfl)).trans ew
    have len := kMb_len hM1 ho
    obtain ⟨h1, h2, U, frl, ov, ow, ⟨a1, a2, a3, a4, a5, a6, a7, a8⟩, ⟨fb1, fb2, fb3⟩, h5⟩ := id hM1
    obtain ⟨⟨c1, c2, c3, c4, c5, c6, c7, c8, c9⟩, cm⟩ := h5 o ho
    have sr := kr_strike n (o := o) (w := w) (s := s) hn (by omega) (by omega) (l := wl W o) (by omega) (u := ur1) (by omega) e22 c1 c2 c3 (fun q hq => by
      obtain ⟨m1, -, m3, -, -, -, m7, -⟩ := cm q hq
      exact ⟨by omega, by omega, m7⟩) c8
    rcases k_find n hn hI hN hO1 hM1 ho hw with ⟨m', m1, m2, -, m4⟩ | ⟨m1, -, m4⟩
    · rcases sr with ⟨q1, -⟩ | ⟨pre, m, post, v, q1, q2, q3, q4, q5, q6, q7, q8, q9⟩
      · exact absurd m2 (q1 m' m1)
      have m'U := (cm m' m1).2.2.2.2.1
      refine rp_r m4 (rp_rf (nI_m1 (by omega)) ?_)
      rw [pp1]
      refine rp_rg pz (rp_rl ?_)
      rw [B1.c (a := xp (cX C)) (by omega) (by omega), P.2.2.2.2.1.2.2]
      -- the reference's picture ahead of the breaking
      obtain ⟨ur2, hur2⟩ : ∃ ur2, (if zI ur1 36 o = -1 then v else zsI (zsI v 36 o (-1)) 0 61 (zI ur1 0 61 + 1)) = ur2 := ⟨_, rfl⟩
      have eL : rf_strikes_L62 n n ur1 (nI s) (nI o) (-1) (zI ur1 37 o) = zbd (rf_breaks n ur2 (nI o)) (fun _ u4 => some ((-1 : Int32), u4)) := by
        rw [q3]
        subst hur2
        by_cases y : zI ur1 36 o = -1
        · rw [if_pos y, if_pos y]
        · rw [if_neg y, if_neg y]
      have Fv2 : fT tgR [7] v ur2 := by
        subst hur2
        by_cases y : zI ur1 36 o = -1
        · rw [if_pos y]; exact fT_rf _ _ _
        · rw [if_neg y]; exact fT_I (fT_I (fT_rf _ _ _) _ 7 rfl (by decide)) _ 7 rfl (by decide)
      have FR : fT tgR [6, 7] ur1 ur2 := fT_tr (fT_mono q4 (by decide)) (fT_mono Fv2 (by decide))
      have C0 := fT_rf tgC [6, 7] uc1
      have B2 : kBs C ur2 uc1 := B1.tr FR C0 (by decide)
      obtain ⟨ur3, uc2, eb1, eb2, F3, G2, hSi3⟩ := k_breaks n hn P ho B2 (kOb_k hO1 FR C0 (by decide)) hS1 (kSi_k hSm FR C0 (by decide))
      rw [eL]
      refine rp_l eb1 (rp_r eb2 ?_)
      -- the class strikes
      have R9 := fT_rf tgR [9] ur1
      have B3 : kBs C ur1 uc2 := B1.tr R9 G2 (by decide)
      obtain ⟨pp3, -, -⟩ := B3.p P
      rw [pp3]
      refine rp_rg pz (rp_rl (rp_rg (zin_nI (by omega) (by decide)) ?_))
      rw [B3.l (a := xp (cX C) + 7) (by omega) (by omega), ew2, zbd_u]
      have hO3 := kOb_k hO1 R9 G2 (by decide)
      have hM3 := kMb_k hM1 R9 G2 (by decide)
      have hS3 := kSh_k hS1 R9 G2 (by decide)
      obtain ⟨g1, g2, U3, frl3, ov3, ow3, ⟨x1, x2, x3, x4, x5, x6, x7, x8⟩, -, g5⟩ := id hM3
      obtain ⟨⟨d1, d2, d3, d4, d5, d6, d7, d8, d9⟩, dm⟩ := g5 o ho
      rw [q1] at d4 d5 d6 d7 d9 dm len
      have nm := List.nodup_append.mp (by simpa using d7 : ((pre.map fun m => m.1) ++ m.1 :: (post.map fun m => m.1)).Nodup)
      obtain ⟨y, ey, y1, y2, y3, y4, y5, y6, y7, y8, y9⟩ := kc_strike n hn (o := o) (U := U3) ho o2 hO3.2.2.1 (pre := pre) (post := post) (m := m) len (xPK (cX C) w) (by rw [(dm m (by simp)).2.2.2.2.2.2.2.1, q2]) (fun q hq z => by
        obtain ⟨e1, -, -, -, -, -, -, e8, -⟩ := dm q (by simp [hq])
        have e1' : q.1 = w := hI q.1 w e1 hw (e8.symm.trans z)
        exact nm.2.2 q.1 (List.mem_map_of_mem (f := fun m : Nat × Nat × Nat => m.1) hq) m.1 (by simp) (e1'.trans q2.symm)) x3 x4 (by omega) d4 d5 d6 (fun q hq => (dm q hq).2.2.2.2.1) d9
      obtain ⟨vc, hvc⟩ : ∃ vc, (if zI uc2 37 o = -1 then zsI y 37 o (-1) else zsI (zsI y 36 8 (zI uc2 36 8 + 1)) 37 o (-1)) = vc := ⟨_, rfl⟩
      rw [hvc] at ey
      refine rp_eq rfl ey ?_
      have Gy : fT tgC [7] y vc := by
        subst hvc
        by_cases z : zI uc2 37 o = -1
        · rw [if_pos z]; exact fT_I (fT_rf _ _ _) _ 7 rfl (by decide)
        · rw [if_neg z]; exact fT_I (fT_I (fT_rf _ _ _) _ 7 rfl (by decide)) _ 7 rfl (by decide)
      have GC : fT tgC [6, 7] uc2 vc := fT_tr (fT_mono y1 (by decide)) (fT_mono Gy (by decide))
      have ri : ∀ a j, tgR a j = 6 → zI ur2 a j = zI v a j := fun a j t => fT_i Fv2 (by decide) t
      have xi' : ∀ a j, tgC a j = 6 → zI vc a j = zI y a j := fun a j t => fT_i Gy (by decide) t
      have kM : kMb (cX C) (cb C) (wSL W o (pre ++ post)) ur2 vc := by
        refine k_strM hM3 ho q1 ?_ ?_ ?_ (fun a j t z => ?_) (fun j => ?_) ?_ ?_ ?_ ?_ ?_ (fun a j t z => ?_) (fun a j t => ?_) (fun a t => ?_)
        · rw [show (fun c => zI ur2 42 c) = fun c => zI v 42 c from funext fun c => ri 42 c rfl, ri 37 o rfl]; exact q5
        · rw [ri 38 o rfl]; exact q6
        · rw [ri 39 o rfl]; exact q7
        · rw [ri a j t]; exact q8 a j z
        · rw [fT_l Fv2 (by decide) (show tgR 43 0 = 6 from rfl)]; exact q9 43 j
        · rw [show (fun c => zI vc 89 c) = fun c => zI y 89 c from funext fun c => xi' 89 c rfl, xi' 40 o rfl]; exact y2
        · rw [xi' 41 o rfl]; exact y3
        · rw [xi' 39 o rfl]; exact y4
        · rw [xi' 36 13 rfl]; exact y5
        · rw [xi' 89 _ rfl]; exact y6
        · rw [xi' a j t]; exact y7 a j z
        · rw [fT_l Gy (by decide) t]; exact y8 a j
        · rw [fT_n Gy (by decide) t]; exact y9 a
      have hS4 := kSh_k hS3 q4 y1 (by decide)
      obtain ⟨e37, e44, eF⟩ := hS4.2.2.2.2.2.2.2.2 o ho
      have v36 : zI v 36 o = zI ur1 36 o := q8 36 o (by omega)
      have y37 : zI y 37 o = zI uc2 37 o := y7 37 o (by omega)
      have same : zI uc2 37 o = -1 ↔ zI ur1 36 o = -1 := by rw [← y37, e37, v36]
      have kL : kSh (cX C) W ur2 vc := by
        refine kSh_lose (o := o) hS4 ho ?_ (fun o' => ?_) (fun a j z1 z2 _ => ?_) (fun o' => ?_) (fun a j z1 z2 _ => ?_) (fun j => ?_) (fun a z1 z2 => ?_) ?_
        · rcases eF with z | ⟨s', -, -, -, -, z⟩
          · exact Or.inl z
          · exact Or.inr z
        · subst hur2
          by_cases z : zI ur1 36 o = -1
          · rw [if_pos z]
            by_cases q : o' = o
            · rw [if_pos q, q, v36, z]
            · rw [if_neg q]
          · rw [if_neg z, gI_sI, if_neg (by omega), gI_sI]
            by_cases q : o' = o
            · rw [if_pos ⟨rfl, q⟩, if_pos q]
            · rw [if_neg (fun q' => q q'.2), if_neg q]
        · subst hur2
          by_cases z : zI ur1 36 o = -1
          · rw [if_pos z]
          · rw [if_neg z, gI_sI, if_neg z2, gI_sI, if_neg (fun q' => z1 q'.1)]
        · subst hvc
          by_cases z : zI uc2 37 o = -1
          · rw [if_pos z, gI_sI]
            by_cases q : o' = o
            · rw [if_pos ⟨rfl, q⟩, if_pos q]
            · rw [if_neg (fun q' => q q'.2), if_neg q]
          · rw [if_neg z, gI_sI]
            by_cases q : o' = o
            · rw [if_pos ⟨rfl, q⟩, if_pos q]
            · rw [if_neg (fun q' => q q'.2), if_neg q, gI_sI, if_neg (by omega)]
        · subst hvc
          by_cases z : zI uc2 37 o = -1
          · rw [if_pos z, gI_sI, if_neg (fun q' => z1 q'.1)]
          · rw [if_neg z, gI_sI, if_neg (fun q' => z1 q'.1), gI_sI, if_neg z2]
        · subst hvc
          by_cases z : zI uc2 37 o = -1
          · rw [if_pos z]; rfl
          · rw [if_neg z]; rfl
        · subst hvc
          by_cases z : zI uc2 37 o = -1
          · rw [if_pos z]; rfl
          · rw [if_neg z]; rfl
        · have d8' : zI y 36 8 = zI uc2 36 8 := y7 36 8 (by omega)
          have d61 : zI v 0 61 = zI ur1 0 61 := q8 0 61 (by omega)
          have base := hS4.2.2.2.1
          subst hur2; subst hvc
          by_cases z : zI uc2 37 o = -1
          · rw [if_pos z, if_pos (same.mp z), gI_sI, if_neg (by omega)]; exact base
          · rw [if_neg z, if_neg (fun q => z (same.mpr q)), gI_sI, if_neg (by omega), gI_sI, if_pos ⟨rfl, rfl⟩, gI_sI, if_pos ⟨rfl, rfl⟩, ← d8', ← d61, base]
      have u36 : zI ur2 36 o = -1 := by
        subst hur2
        by_cases z : zI ur1 36 o = -1
        · rw [if_pos z, v36, z]
        · rw [if_neg z, gI_sI, if_neg (by omega), gI_sI, if_pos ⟨rfl, rfl⟩]
      have kS : kSh (cX C) (wSL W o (pre ++ post)) ur2 vc := kSh_mem (o := o) kL rfl rfl rfl rfl (fun o' hne => by rw [wSL_l, if_neg hne]) u36
      have HR : fT tgR [1, 6, 7, 9] ur ur3 := fT_tr (fT_mono fr1 (by decide)) (fT_tr (fT_mono F1 (by decide)) (fT_tr (fT_mono FR (by decide)) (fT_mono F3 (by decide))))
      have HC : fT tgC [1, 6, 7, 9] uc vc := fT_tr (fT_mono fc1 (by decide)) (fT_tr (fT_mono G1 (by decide)) (fT_tr (fT_mono G2 (by decide)) (fT_mono GC (by decide))))
      have HR1 : fT tgR [6, 7, 9] vr ur3 := fT_tr (fT_mono F1 (by decide)) (fT_tr (fT_mono FR (by decide)) (fT_mono F3 (by decide)))
      have HC1 : fT tgC [6, 7, 9] uk vc := fT_tr (fT_mono G1 (by decide)) (fT_tr (fT_mono G2 (by decide)) (fT_mono GC (by decide)))
      have hp : ∀ o, o < wO W → wp W o ≤ o := fun o ho => (hOb.2.2.2 o ho).1
      have V9 := fT_rf tgC [9] vc
      have le := wSL_le W o (pre ++ post)
      exact kQ_g h HR HC (by decide) (by decide) (by decide) (by decide) (V := wSL W o (pre ++ post)) (Nat.le_refl _) (Nat.le_refl _) (Nat.le_add_right _ _) (kSt_k hs0 HR1 HC1 (by decide)) ⟨kPp_m (kPp_k hPp HR HC (by decide)) le rfl, kOb_k hOb HR HC (by decide), kMb_k kM F3 V9 (by decide), kSh_k kS F3 V9 (by decide), kRw_m (kRw_k hRw HR HC (by decide)) le rfl, kSi_m (kSi_k hSi3 (fT_rf tgR [6, 7] ur3) GC (by decide)) le hp rfl, kFn_m (kFn_k hFn HR HC (by decide)) rfl, kCt_k hCt HR HC (by decide)⟩
    · rcases sr with ⟨-, q2⟩ | ⟨pre, m, post, v, q1, q2, -⟩
      · refine rp_r m4 (rp_rt rfl ?_)
        rw [q2]
        refine rp_end ?_
        have HR : fT tgR [1, 9] ur ur1 := fT_tr (fT_mono fr1 (by decide)) (fT_mono F1 (by decide))
        have HC : fT tgC [1, 9] uc uc1 := fT_tr (fT_mono fc1 (by decide)) (fT_mono G1 (by decide))
        exact kQ_g h HR HC (by decide) (by decide) (by decide) (by decide) (V := W) (Nat.le_refl _) (Nat.le_refl _) (Nat.le_add_right _ _) (kSt_k hs0 F1 G1 (by decide)) ⟨kPp_k hPp HR HC (by decide), kOb_k hOb HR HC (by decide), kMb_k hMb HR HC (by decide), kSh_k hSh HR HC (by decide), kRw_k hRw HR HC (by decide), hSm, kFn_k hFn HR HC (by decide), kCt_k hCt HR HC (by decide)⟩
      · exact absurd q2 (m1 m (by rw [q1]; simp))
  · refine rp_lf b1 (rp_r e (rp_rt rfl ?_))
    rw [zbd_i]
    obtain ⟨w, e1, q⟩ := kQ_f0 (t' := k) (c := c) n h fr1 fc1 2 v2
    exact rp_eq e1 rfl q
