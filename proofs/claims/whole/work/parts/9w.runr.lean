/-! RUNNING: a member is read -/
theorem kr_guess (n : Nat) {s o g : Nat} (hs : s < 81) (ho : o < 201) (hg : g ≤ 4) {u : zMu} (e59 : zI u 59 s = nI g) : ∀ d i m x4, i + d = g → d < m → (x4 = 0 ∧ (∀ j, i ≤ j → j < g → ¬ zI u 60 (4 * s + j) = zI u 36 o) ∧ rf_reads_L41 n m u (nI s) (nI o) x4 (nI i) = rf_reads_J100 n u (nI s) (nI o) (if 0 < g then 1 else 0)) ∨ ((¬ x4 = 0 ∨ ∃ j, i ≤ j ∧ j < g ∧ zI u 60 (4 * s + j) = zI u 36 o) ∧ rf_reads_L41 n m u (nI s) (nI o) x4 (nI i) = rf_reads_J100 n u (nI s) (nI o) 0) := by
  intro d
  induction d with
  | zero =>
    intro i m x4 hi hm
    obtain ⟨m, rfl⟩ : ∃ k, m = k + 1 := ⟨m - 1, by omega⟩
    have e : rf_reads_L41 n (m + 1) u (nI s) (nI o) x4 (nI i) = (if 0 < nI g then (if x4 = 0 then rf_reads_J100 n u (nI s) (nI o) 1 else rf_reads_J100 n u (nI s) (nI o) 0) else rf_reads_J100 n u (nI s) (nI o) 0) := by
      rw [rf_reads_L41, zin_nI hs (by decide), zgd_t, zx_nI (show s < 2 ^ 31 by omega), e59, if_neg (nI_nlt (by omega) (by omega)), zgd_t]
      rfl
    rw [e]
    by_cases z : x4 = 0
    · refine Or.inl ⟨z, fun j a b => absurd b (by omega), ?_⟩
      rw [if_pos z]
      by_cases y : 0 < g
      · rw [if_pos (show (0 : Int32) < nI g from nI_lt (a := 0) y (by omega)), if_pos y]
      · rw [if_neg (show ¬ (0 : Int32) < nI g from nI_nlt (a := 0) (by omega) (by decide)), if_neg y]
    · refine Or.inr ⟨Or.inl z, ?_⟩
      rw [if_neg z]
      by_cases y : 0 < nI g
      · rw [if_pos y]
      · rw [if_neg y]
  | succ d ih =>
    intro i m x4 hi hm
    obtain ⟨m, rfl⟩ : ∃ k, m = k + 1 := ⟨m - 1, by omega⟩
    rw [rf_reads_L41, zin_nI hs (by decide), zgd_t, zx_nI (show s < 2 ^ 31 by omega), e59, if_pos (nI_lt (by omega) (by omega)), (sh4 s i).2, zin_nI (show 4 * s + i < 330 by omega) (by decide), zgd_t, zin_nI ho (by decide), zgd_t, zx_nI (show 4 * s + i < 2 ^ 31 by omega), zx_nI (show o < 2 ^ 31 by omega), nI_1]
    by_cases z : zI u 60 (4 * s + i) = zI u 36 o
    · rw [if_pos z]
      rcases ih (i + 1) m 1 (by omega) (by omega) with ⟨q, -⟩ | ⟨q1, q2⟩
      · exact absurd q (by decide)
      · exact Or.inr ⟨Or.inr ⟨i, by omega, by omega, z⟩, q2⟩
    · rw [if_neg z]
      rcases ih (i + 1) m x4 (by omega) (by omega) with ⟨q1, q2, q3⟩ | ⟨q1, q2⟩
      · refine Or.inl ⟨q1, fun j a b => ?_, q3⟩
        by_cases y : j = i
        · rw [y]; exact z
        · exact q2 j (by omega) b
      · refine Or.inr ⟨?_, q2⟩
        rcases q1 with q1 | ⟨j, a, b, c⟩
        · exact Or.inl q1
        · exact Or.inr ⟨j, by omega, b, c⟩
theorem kc_guess (n : Nat) {s g : Nat} (hs : s < 80) (hg : g ≤ 4) {u : zMu} (e58 : zI u 58 s = nI g) (x : Int32) : ∀ d i m, i + d = g → d < m → ((∃ j, i ≤ j ∧ j < g ∧ zI u 57 (4 * s + j) = x) ∧ ce_T_guessed_L2 n m u (nI s) x (nI i) = some (1, u)) ∨ ((∀ j, i ≤ j → j < g → ¬ zI u 57 (4 * s + j) = x) ∧ ce_T_guessed_L2 n m u (nI s) x (nI i) = some (0, u)) := by
  intro d
  induction d with
  | zero =>
    intro i m hi hm
    obtain ⟨m, rfl⟩ : ∃ k, m = k + 1 := ⟨m - 1, by omega⟩
    refine Or.inr ⟨fun j a b => absurd b (by omega), ?_⟩
    rw [ce_T_guessed_L2, zin_nI hs (by decide), zgd_t, zx_nI (show s < 2 ^ 31 by omega), e58, if_neg (nI_nlt (by omega) (by omega))]
  | succ d ih =>
    intro i m hi hm
    obtain ⟨m, rfl⟩ : ∃ k, m = k + 1 := ⟨m - 1, by omega⟩
    rw [ce_T_guessed_L2, zin_nI hs (by decide), zgd_t, zx_nI (show s < 2 ^ 31 by omega), e58, if_pos (nI_lt (by omega) (by omega)), (sh4 s i).1, zin_nI (show 4 * s + i < 320 by omega) (by decide), zgd_t, zx_nI (show 4 * s + i < 2 ^ 31 by omega), nI_1]
    by_cases z : zI u 57 (4 * s + i) = x
    · rw [if_pos z]
      exact Or.inl ⟨⟨i, by omega, by omega, z⟩, rfl⟩
    · rw [if_neg z]
      rcases ih (i + 1) m (by omega) (by omega) with ⟨⟨j, a, b, c⟩, q2⟩ | ⟨q1, q2⟩
      · exact Or.inl ⟨⟨j, by omega, b, c⟩, q2⟩
      · refine Or.inr ⟨fun j a b => ?_, q2⟩
        by_cases y : j = i
        · rw [y]; exact z
        · exact q1 j (by omega) b
theorem kr_J204 (n : Nat) {k c : Nat} {u : zMu} (i51 : zI u 0 51 = nI (k + 1)) (hk : k < 2200) (hc : c < 20100) : rf_reads_J204 n u (nI c) = some (-1, zsL (zsI u 27 k (zI u 41 c)) 31 k (zL u 43 c)) := by
  unfold rf_reads_J204
  rw [if_neg (nI_m1 (by omega)), zin_nI hc (by decide), zgd_t, zx_nI (show c < 2 ^ 31 by omega), i51, nI_pred]
  unfold rf_reads_J231
  rw [zin_nI hk (by decide), zgd_t, zx_nI (show k < 2 ^ 31 by omega)]
  simp only [zlet]
  rw [if_neg (nI_m1 (by omega)), zin_nI hc (by decide)]
  show zgd true (zgd (zin (zI (zsI u 27 k (zI u 41 c)) 0 51 - 1) 2200) (zlet (zsL (zsI u 27 k (zI u 41 c)) 31 (zx (zI (zsI u 27 k (zI u 41 c)) 0 51 - 1)) (zL (zsI u 27 k (zI u 41 c)) 43 (zx (nI c)))) fun u4 => some ((-1 : Int32), u4))) = _
  have j : zI (zsI u 27 k (zI u 41 c)) 0 51 = nI (k + 1) := i51
  rw [zgd_t, j, nI_pred, zin_nI hk (by decide), zgd_t, zx_nI (show k < 2 ^ 31 by omega), zx_nI (show c < 2 ^ 31 by omega), gL_sI]
  rfl
theorem kr_J204n (n : Nat) {k : Nat} {u : zMu} (i51 : zI u 0 51 = nI (k + 1)) (hk : k < 2200) : rf_reads_J204 n u (-1) = some (-1, zsL (zsI u 27 k 0) 31 k 0) := by
  unfold rf_reads_J204
  rw [if_pos rfl, i51, nI_pred]
  unfold rf_reads_J231
  rw [zin_nI hk (by decide), zgd_t, zx_nI (show k < 2 ^ 31 by omega)]
  simp only [zlet]
  rw [if_pos trivial]
  show zgd (zin (zI (zsI u 27 k 0) 0 51 - 1) 2200) (zlet (zsL (zsI u 27 k 0) 31 (zx (zI (zsI u 27 k 0) 0 51 - 1)) 0) fun u4 => some ((-1 : Int32), u4)) = _
  have j : zI (zsI u 27 k 0) 0 51 = nI (k + 1) := i51
  rw [j, nI_pred, zin_nI hk (by decide), zgd_t, zx_nI (show k < 2 ^ 31 by omega)]
  rfl
/-- the class takes the object in slot k -/
theorem c_objAt (n : Nat) {nO nR k : Nat} {sr : Int32} {xr : Int64} {u : zMu} (p1 : pVw 75 780 u) (hk : k < 780) (i7 : zI u 36 7 = nI nO) (hO : nO ≤ 200) (hv : vR nO nR sr xr (vS 75 u k) (vX 75 u k)) (p : Int32) : (∃ o, o < nO ∧ sr = 2 ∧ xr = lN o ∧ ce_M_objectAt n u (nI k) p = some (nI o, u)) ∨ (¬ sr = 2 ∧ ce_M_objectAt n u (nI k) p = some (-1, failS u 2 p)) := by
  unfold ce_M_objectAt
  rw [zbd_e (v_sortAt n p1 (j := k) (by omega))]
  rcases vR_obj hv with ⟨b1, b2, o, ho, b3, b4⟩ | ⟨b1, b2⟩
  · refine Or.inl ⟨o, ho, b1, b3, ?_⟩
    rw [if_pos (show vS 75 u k = 3 from b2), zbd_e (v_numberAt n p1 (j := k) (by omega)), b4, lN_i]
    unfold ce_M_objectAt_J25
    rw [zbd_e (c_isObj n i7 (by omega) ho), if_neg (by decide)]
  · refine Or.inr ⟨b1, ?_⟩
    rw [if_neg (show ¬ vS 75 u k = 3 from b2)]
    unfold ce_M_objectAt_J25
    rw [zbd_e (show ce_H_isObject n u (-1) = some (0, u) from by unfold ce_H_isObject; rw [if_pos (by decide)]), if_pos rfl]
    rfl
theorem o_read (n : Nat) (hn : 20000 ≤ n) {C : kC} (P : kPs C) {W : kW} {fr : List Nat} {T k c s : Nat} {ur uc : zMu} (h : kGd C W fr T (k + 1) ur uc) (hs : s < cS C) (k0 : zI (cb C) 19 s = nI 0) (v2 : Int32) : Rp (rf_reads n ur (nI s) v2) (ce_M_getMember n uc (nI s) v2) (kQ C fr T (k + 1) c W ur uc) := by
  have t8 := h.t8
  have hv := h.v (show k < k + 1 by omega)
  have S80 : cS C ≤ 80 := P.2.2.2.2.1.1
  have hI := P.2.1
  have hN := P.2.2.1
  obtain ⟨uk, ek, k8, p1, p2, p3, fc1, kd⟩ := pop_c P h k
  obtain ⟨hPp, hOb, hMb, hSh, hRw, hSi, hFn, hCt⟩ := h.2.2.2.2
  have o2 := hOb.1
  have R0 := fT_rf tgR [1] ur
  have B : kBs C ur uk := kBs.tr h.1 R0 fc1 (by decide)
  obtain ⟨pp, pz, p12⟩ := B.p P
  unfold rf_reads ce_M_getMember
  rw [h.tr, h.tc, nI_pred, zx_nI (show k < 2 ^ 31 by omega), ek]
  refine rp_lg (zin_nI (by omega) (by decide)) (rp_rl ?_)
  rw [k8]
  have hOk := kOb_k hOb R0 fc1 (by decide)
  rcases c_objAt n (k := k) p1 (by omega) hOk.2.2.1 o2 (by rw [p2, p3]; exact hv) v2 with ⟨o, ho, b1, b2, e⟩ | ⟨b1, e⟩
  · refine rp_lt b1 (rp_lg (zin_nI (by omega) (by decide)) (rp_ll (rp_r e (rp_rf (nI_m1 (by omega)) ?_))))
    rw [b2, lN_i, pp]
    obtain ⟨kd', kd1, kd2, kd3, kd4, kd5, kd6⟩ := P.2.2.2.2.2 s hs
    have hkd : kd' = 0 := (nI_eq (by omega) (by decide)).mp (kd2.symm.trans k0)
    obtain ⟨w, hw, ew, ew2⟩ := kd6 (by omega)
    refine rp_rg pz (rp_rl (rp_r (ck_isSite n (F := cS C) (by rw [B.c (by omega) (by omega)]; exact P.2.2.2.2.1.2.2) (by omega) hs) (rp_rf (by decide) ?_)))
    rw [pp]
    refine rp_rg pz (rp_rl (rp_rg (zin_nI (by omega) (by decide)) (rp_rl ?_)))
    rw [zx_nI (show s < 2 ^ 31 by omega), B.l (a := xp (cX C) + 7) (by omega) (by omega), ew2]
    -- the parts at (ur, uk)
    have hMk := kMb_k hMb R0 fc1 (by decide)
    have hShk := kSh_k hSh R0 fc1 (by decide)
    have hSik := kSi_k hSi R0 fc1 (by decide)
    have hFnk := kFn_k hFn R0 fc1 (by decide)
    have hp := kOb_p hOb ho
    -- who holds it
    obtain ⟨hq, E, eh, hE, hWe, eE⟩ : ∃ (hq : Int32) (E : Nat), ce_H_holderOf n uk (nI o) (xPK (cX C) w) = some (hq, uk) ∧ E ≤ 200 ∧ kWe (cb C) W s o w E ∧ ((hq = nI o ∧ E = 200 ∧ kHo W o w o) ∨ (¬ hq = nI o ∧ (if 0 < hq then hq else 0) = nI E ∧ ((hq = nI E ∧ kHo W o w E) ∨ (hq = -1 ∧ kHn W o w)))) := by
      unfold ce_H_holderOf
      rcases k_hold n hn hI hN hOk hMk hw o o n 0 (Nat.le_refl _) ho (by omega) (by omega) with ⟨q, q1, q2⟩ | ⟨q1, q2⟩
      · by_cases z : q = o
        · subst z
          refine ⟨nI q, 200, q2, by omega, Or.inl ⟨k0, fun _ => rfl, fun q' h' n' => absurd (kHo_u h' q1) n', fun h' => (kHo_n q1 h').elim⟩, Or.inl ⟨rfl, rfl, q1⟩⟩
        · have ql : q ≤ o := anc_le o o (Nat.le_refl _) hp q1.1
          refine ⟨nI q, q, q2, by omega, Or.inl ⟨k0, fun h' => ?_, fun q' h' _ => kHo_u q1 h', fun h' => (kHo_n q1 h').elim⟩, Or.inr ⟨fun y => z ((nI_eq (by omega) (by omega)).mp y), ?_, Or.inl ⟨rfl, q1⟩⟩⟩
          · obtain ⟨m, m1, m2⟩ := h'
            exact absurd (kHo_u q1 (kH_own hp m1 m2)) z
          · by_cases y : 0 < q
            · rw [if_pos (show (0 : Int32) < nI q from nI_lt (a := 0) y (by omega))]
            · have : q = 0 := by omega
              subst this
              rw [if_neg (show ¬ (0 : Int32) < nI 0 from by decide)]; rfl
      · refine ⟨-1, 0, q2, by omega, Or.inl ⟨k0, fun h' => ?_, fun q' h' _ => (kHo_n h' q1).elim, fun _ => rfl⟩, Or.inr ⟨fun y => nI_m1 (n := o) (by omega) y.symm, by rw [if_neg (by decide)]; rfl, Or.inr ⟨rfl, q1⟩⟩⟩
        obtain ⟨m, m1, m2⟩ := h'
        exact (kHo_n (kH_own hp m1 m2) q1).elim
    refine rp_r eh (rp_rg (zin_nI (by omega) (by decide)) (rp_rl ?_))
    rw [zx_nI (show o < 2 ^ 31 by omega)]
    -- the site meets
    obtain ⟨r, mr, r', mc, em1, em2, er', F1, G1, hSm, hm1, hm2⟩ := k_meet n hn P B hOk hMk hShk hSik hs ho hw ew hE hWe
    subst er'
    obtain ⟨ur2, hur2⟩ : ∃ ur2, (if r' = 0 then zsI mr 0 63 (zI mr 0 63 + 1) else zsI mr 0 62 (zI mr 0 62 + 1)) = ur2 := ⟨_, rfl⟩
    obtain ⟨uc2, huc2⟩ : ∃ uc2, (if r' = 0 then zsI mc 49 10 (zI mc 49 10 + 1) else zsI mc 49 9 (zI mc 49 9 + 1)) = uc2 := ⟨_, rfl⟩
    have F2 : fT tgR [9] mr ur2 := by
      subst hur2
      by_cases z : r' = 0
      · rw [if_pos z]; exact fT_I (fT_rf _ _ _) _ 9 rfl (by decide)
      · rw [if_neg z]; exact fT_I (fT_rf _ _ _) _ 9 rfl (by decide)
    have G2 : fT tgC [9] mc uc2 := by
      subst huc2
      by_cases z : r' = 0
      · rw [if_pos z]; exact fT_I (fT_rf _ _ _) _ 9 rfl (by decide)
      · rw [if_neg z]; exact fT_I (fT_rf _ _ _) _ 9 rfl (by decide)
    have j2 : ∀ a i, ¬ a = 0 → zI ur2 a i = zI mr a i := fun a i q => by
      subst hur2
      by_cases z : r' = 0
      · rw [if_pos z, gI_sI, if_neg (by omega)]
      · rw [if_neg z, gI_sI, if_neg (by omega)]
    have l2 : ∀ a i, ¬ a = 49 → zI uc2 a i = zI mc a i := fun a i q => by
      subst huc2
      by_cases z : r' = 0
      · rw [if_pos z, gI_sI, if_neg (by omega)]
      · rw [if_neg z, gI_sI, if_neg (by omega)]
    have hS2 : kSi (cF C) (cS C) (cb C) W ur2 uc2 := by
      obtain ⟨s1, s2, s3, s4⟩ := hSm
      refine ⟨?_, ?_, ?_, fun s' hs' => kS1_q (s4 s' hs') (fun a j q => j2 a j (by unfold sR at q; omega)) (fun a j q => l2 a j (by unfold sC at q; omega))⟩
      · subst hur2; subst huc2
        by_cases z : r' = 0
        · rw [if_pos z, if_pos z, gI_sI, if_neg (by omega), gI_sI, if_neg (by omega)]; exact s1
        · rw [if_neg z, if_neg z, gI_sI, if_pos ⟨rfl, rfl⟩, gI_sI, if_pos ⟨rfl, rfl⟩, s1]
      · subst hur2; subst huc2
        by_cases z : r' = 0
        · rw [if_pos z, if_pos z, gI_sI, if_pos ⟨rfl, rfl⟩, gI_sI, if_pos ⟨rfl, rfl⟩, s2]
        · rw [if_neg z, if_neg z, gI_sI, if_neg (by omega), gI_sI, if_neg (by omega)]; exact s2
      · subst hur2; subst huc2
        by_cases z : r' = 0
        · rw [if_pos z, if_pos z, gI_sI, if_neg (by omega), gI_sI, if_neg (by omega)]; exact s3
        · rw [if_neg z, if_neg z, gI_sI, if_neg (by omega), gI_sI, if_neg (by omega)]; exact s3
    have F12 : fT tgR [9] ur ur2 := fT_tr F1 F2
    have G12 : fT tgC [9] uk uc2 := fT_tr G1 G2
    have emr : ce_T_meetRead n uk (nI s) (zI uk 37 o) (nI E) = some ((), uc2) := by
      unfold ce_T_meetRead
      rw [zbd_e em2]
      subst huc2
      by_cases z : r' = 0
      · rw [if_pos z, if_pos z]; rfl
      · rw [if_neg z, if_neg z]; rfl
    -- guesses
    obtain ⟨g, g5, g6, g7, g8, g9⟩ := (hSik.2.2.2 s hs).2.2.2.2
    have g9 := g9 k0
    have c58 : zI uc2 58 s = nI g := (l2 58 s (by decide)).trans ((hm2 58 s (Or.inr rfl)).trans g7)
    have c57 : ∀ j, j < g → zI uc2 57 (4 * s + j) = zI ur 60 (4 * s + j) := fun j hj => (l2 57 _ (by decide)).trans ((hm2 57 _ (Or.inl rfl)).trans (g9 j hj))
    have e36 : zI uk 37 o = zI ur 36 o := (hShk.2.2.2.2.2.2.2.2 o ho).1
    -- what both do behind meeting: s0 says that a made fn is left
    obtain ⟨s0, er1, ec1⟩ : ∃ s0 : Int32, rf_reads_L41 n n ur (nI s) (nI o) 0 (nI 0) = rf_reads_J134 n ur2 (nI s) (nI o) s0 ∧ ((s0 = 0 ∧ ∀ s1 : Int32, ce_M_getMember_J96 n uk (nI s) (xPK (cX C) w) hq (zI uk 37 o) (nI s) (zI uk 37 o) (nI E) = ce_M_getMember_J128 n uc2 (xPK (cX C) w) hq) ∨ (s0 = 1 ∧ 0 < g ∧ ce_M_getMember_J96 n uk (nI s) (xPK (cX C) w) hq (zI uk 37 o) (nI s) (zI uk 37 o) (nI E) = zbd (ce_M_leaveMade n uc2 (nI s)) fun _ u10 => ce_M_getMember_J128 n u10 (xPK (cX C) w) hq)) := by
      have jj : ∀ s0 : Int32, rf_reads_J100 n ur (nI s) (nI o) s0 = rf_reads_J134 n ur2 (nI s) (nI o) s0 := fun s0 => by
        unfold rf_reads_J100
        rw [zbd_e em1]
        subst hur2
        by_cases z : r' = 0
        · rw [if_pos z, if_pos z]; rfl
        · rw [if_neg z, if_neg z]; rfl
      have hc : ce_T_hasGuess n uc2 (nI s) = some (if 0 < g then 1 else 0, uc2) := by
        unfold ce_T_hasGuess
        rw [zin_nI (show s < 80 by omega) (by decide), zgd_t, zx_nI (show s < 2 ^ 31 by omega), c58]
        by_cases z : 0 < g
        · rw [if_pos (show (0 : Int32) < nI g from nI_lt (a := 0) z (by omega)), if_pos z]
        · rw [if_neg (show ¬ (0 : Int32) < nI g from nI_nlt (a := 0) (by omega) (by decide)), if_neg z]
      have h96 : ce_M_getMember_J96 n uk (nI s) (xPK (cX C) w) hq (zI uk 37 o) (nI s) (zI uk 37 o) (nI E) = (if (if 0 < g then (1 : Int32) else 0) = 0 then ce_M_getMember_J128 n uc2 (xPK (cX C) w) hq else zbd (ce_T_guessed n uc2 (nI s) (zI uk 37 o)) fun r6 u7 => if r6 = 0 then (zbd (ce_M_leaveMade n u7 (nI s)) fun _ u10 => ce_M_getMember_J128 n u10 (xPK (cX C) w) hq) else ce_M_getMember_J128 n u7 (xPK (cX C) w) hq) := by
        unfold ce_M_getMember_J96
        rw [zbd_e emr, zbd_e hc]
      by_cases z : 0 < g
      · rw [if_pos z, if_neg (show ¬ (1 : Int32) = 0 from by decide)] at h96
        rcases kc_guess n (show s < 80 by omega) g5 c58 (zI uk 37 o) g 0 n (by omega) (by omega) with ⟨⟨j, j1, j2, j3⟩, q⟩ | ⟨q1, q⟩
        · rcases kr_guess n (show s < 81 by omega) (show o < 201 by omega) g5 g6 g 0 n 0 (by omega) (by omega) with ⟨-, y, -⟩ | ⟨-, y⟩
          · exact absurd (by rw [← c57 j j2, j3, e36]) (y j j1 j2)
          · refine ⟨0, y.trans (jj 0), Or.inl ⟨rfl, fun _ => ?_⟩⟩
            rw [h96, zbd_e (show ce_T_guessed n uc2 (nI s) (zI uk 37 o) = some (1, uc2) from q), if_neg (by decide)]
        · rcases kr_guess n (show s < 81 by omega) (show o < 201 by omega) g5 g6 g 0 n 0 (by omega) (by omega) with ⟨-, -, y⟩ | ⟨y, -⟩
          · rw [if_pos z] at y
            refine ⟨1, y.trans (jj 1), Or.inr ⟨rfl, z, ?_⟩⟩
            rw [h96, zbd_e (show ce_T_guessed n uc2 (nI s) (zI uk 37 o) = some (0, uc2) from q), if_pos rfl]
          · rcases y with y | ⟨j, j1, j2, j3⟩
            · exact absurd rfl y
            · exact absurd (by rw [c57 j j2, j3, e36]) (q1 j j1 j2)
      · rw [if_neg z, if_pos rfl] at h96
        rcases kr_guess n (show s < 81 by omega) (show o < 201 by omega) g5 g6 g 0 n 0 (by omega) (by omega) with ⟨-, -, y⟩ | ⟨-, y⟩
        · rw [if_neg z] at y
          exact ⟨0, y.trans (jj 0), Or.inl ⟨rfl, fun _ => h96⟩⟩
        · exact ⟨0, y.trans (jj 0), Or.inl ⟨rfl, fun _ => h96⟩⟩
    -- the class's J96 in both branches
    have eJ : ∀ Y, Rp Y (ce_M_getMember_J96 n uk (nI s) (xPK (cX C) w) hq (zI uk 37 o) (nI s) (zI uk 37 o) (nI E)) (kQ C fr T (k + 1) c W ur uc) → Rp Y (if hq = nI o then ce_M_getMember_J96 n uk (nI s) (xPK (cX C) w) hq (zI uk 37 o) (nI s) (zI uk 37 o) 200 else (zlet (if 0 < hq then hq else 0) fun v15 => ce_M_getMember_J96 n uk (nI s) (xPK (cX C) w) hq (zI uk 37 o) (nI s) (zI uk 37 o) v15)) (kQ C fr T (k + 1) c W ur uc) := by
      intro Y hY
      rcases eE with ⟨y1, y2, -⟩ | ⟨y1, y2, -⟩
      · subst y2
        exact rp_rt y1 hY
      · refine rp_rf y1 (rp_rl ?_)
        rw [y2]; exact hY
    refine eJ _ ?_
    show Rp (rf_reads_L41 n n ur (nI s) (nI o) 0 (nI 0)) _ _
    rw [er1]
    -- the end: the member's value takes the top's place
    have fin : ∀ (V : kW) (xr xc : zMu), fT tgR [9, 10] ur2 xr → fT tgC [9, 10] uc2 xc → kSi (cF C) (cS C) (cb C) V xr xc → kFn (cF C) V xr xc → V.1 = W.1 → V.2.1 = W.2.1 → V.2.2.1 = W.2.2.1 → V.2.2.2.1 = W.2.2.2.1 → Rp (rf_reads_J144 n xr (nI s) (nI o)) (ce_M_getMember_J128 n xc (xPK (cX C) w) hq) (kQ C fr T (k + 1) c W ur uc) := by
      intro V xr xc q1 q2 q3 q4 e1 e2 e3 e4
      have hr9 : fT tgR [1, 9, 10] ur xr := fT_tr (fT_mono F12 (by decide)) (fT_mono q1 (by decide))
      have hc9 : fT tgC [9, 10] uk xc := fT_tr (fT_mono G12 (by decide)) q2
      have hc1 : fT tgC [1, 9, 10] uc xc := fT_tr (fT_mono fc1 (by decide)) (fT_mono hc9 (by decide))
      have hO3 := kOb_k hOb hr9 hc1 (by decide)
      have hM3 := kMb_k hMb hr9 hc1 (by decide)
      have x51 : zI xr 0 51 = nI (k + 1) := by
        rw [fT_i q1 (by decide) (show tgR 0 51 = 1 from rfl), fT_i F12 (by decide) (show tgR 0 51 = 1 from rfl)]; exact h.tr
      have x22 : zI xr 22 s = nI w := (fT_i hr9 (by decide) (show tgR 22 s = 0 from rfl)).trans ((kBs.r h.1 (show tgR 22 s = 0 from rfl)).trans ew)
      have xw := vw_kT hc9 (v := 75) (m := 780) (t := 1) (by unfold vK; omega) (by decide)
      have x8 : zI xc 34 8 = nI k := (fT_i hc9 (by decide) (show tgC 34 8 = 1 from rfl)).trans k8
      -- values
      obtain ⟨sr, vv, sc, cc, hsc, hvv, er2, ec2⟩ : ∃ (sr : Int32) (vv : Int64) (sc : Nat) (cc : Int64), sc ≤ 4 ∧ vR (wO W) (wR W) sr vv (nI sc) cc ∧ rf_reads_J144 n xr (nI s) (nI o) = some (-1, zsL (zsI xr 27 k sr) 31 k vv) ∧ ce_M_getMember_J128 n xc (xPK (cX C) w) hq = ce_M_push n xc (nI sc) cc := by
        have e144 : ∀ m0, rf_memberOf n xr (nI o) (nI w) = some (m0, xr) → rf_reads_J144 n xr (nI s) (nI o) = rf_reads_L161 n n xr (nI s) (nI o) m0 := fun m0 q => by
          unfold rf_reads_J144
          rw [zin_nI (show s < 800 by omega) (by decide), zgd_t, zx_nI (show s < 2 ^ 31 by omega), x22, zbd_e q]
        obtain ⟨m0, hm0⟩ : ∃ m0, rf_memberOf n xr (nI o) (nI w) = some (m0, xr) := by
          rcases k_find n hn hI hN hO3 hM3 ho hw with ⟨q, -, -, q3, -⟩ | ⟨-, q3, -⟩
          · exact ⟨_, q3⟩
          · exact ⟨_, q3⟩
        rw [e144 m0 hm0]
        rcases k_walk n hn hI hN hO3 hM3 hw (show s < 800 by omega) x22 o o n m0 (Nat.le_refl _) ho (by omega) hm0 with ⟨q, mm, y1, y2, y3, y4⟩ | ⟨y1, y4⟩
        · have ql : q ≤ o := anc_le o o (Nat.le_refl _) hp y1.1
          have hqq : hq = nI q := by
            rcases eE with ⟨z1, -, z2⟩ | ⟨-, -, ⟨z1, z2⟩ | ⟨-, z2⟩⟩
            · rw [z1, kHo_u y1 z2]
            · rw [z1, kHo_u y1 z2]
            · exact (kHo_n y1 z2).elim
          rcases k_find n hn hI hN hO3 hM3 (o := q) (by omega) hw with ⟨m', a1, a2, -, a4⟩ | ⟨a1, -, -⟩
          · obtain ⟨h1, h2, U, fr', ov, ow, ⟨u1, u2, u3, u4, u5, u6, u7, u8⟩, -, h5⟩ := hM3
            have em : m' = mm := nodup_fst (h5 q (by omega)).1.2.2.2.2.2.2.1 m' mm a1 y2 (a2.trans y3.symm)
            subst em
            obtain ⟨t1, t2, t3, t4, t5, t6, t7, t8', t9⟩ := (h5 q (by omega)).2 m' a1
            obtain ⟨sc, sc1, sc2⟩ := vR_s4 t9
            refine ⟨_, _, sc, _, sc1, (by rw [sc2] at t9; exact t9), by rw [y4]; exact kr_J204 n x51 (by omega) (by omega), ?_⟩
            unfold ce_M_getMember_J128
            rw [hqq, if_neg (nI_m1 (by omega)), zbd_e a4]
            unfold ce_M_getMember_J149
            rw [zbd_e (v_sortAt n u7 (j := m'.2.2) (by omega)), zbd_e (v_numberAt n u7 (j := m'.2.2) (by omega)), zbd_u, sc2]
          · exact absurd y3 (a1 mm y2)
        · have hqq : hq = -1 := by
            rcases eE with ⟨-, -, z2⟩ | ⟨-, -, ⟨-, z2⟩ | ⟨z1, -⟩⟩
            · exact (kHo_n z2 y1).elim
            · exact (kHo_n z2 y1).elim
            · exact z1
          refine ⟨0, 0, 0, 0, by omega, vR_0 _ _ _, by rw [y4]; exact kr_J204n n x51 (by omega), ?_⟩
          unfold ce_M_getMember_J128
          rw [hqq, if_pos rfl]
          unfold ce_M_getMember_J149
          rw [zbd_e (show ce_V_sortAt n 66 xc (-1) = some (0, xc) from by unfold ce_V_sortAt; rw [if_pos (by decide)]), zbd_e (show ce_V_numberAt n 66 xc (-1) = some (0, xc) from by unfold ce_V_numberAt; rw [if_pos (by decide)]), zbd_u]
          rfl
      obtain ⟨v, e5, f5, g1, g2, g3, g4⟩ := c_push n (xw.1 p1) x8 ((fT_dy hc9).trans kd) (by omega) hsc cc
      rw [er2, ec2]
      refine rp_eq rfl e5 ?_
      have hr1 : fT tgR [1, 9, 10] ur (zsL (zsI xr 27 k sr) 31 k vv) := fT_L (fT_I hr9 _ 1 rfl (by decide)) _ 1 rfl (by decide)
      have hc2 : fT tgC [1, 9, 10] uc v := fT_tr hc1 (fT_mono f5 (by decide))
      have R9 : fT tgR [1] xr (zsL (zsI xr 27 k sr) 31 k vv) := fT_L (fT_I (fT_rf _ _ _) _ 1 rfl (by decide)) _ 1 rfl (by decide)
      have st : kSt (wO W) (wR W) (k + 1) (zsL (zsI xr 27 k sr) 31 k vv) v := by
        have i27 : ∀ j, zI xr 27 j = zI ur 27 j := fun j => (fT_i q1 (by decide) (show tgR 27 j = 1 from rfl)).trans (fT_i F12 (by decide) (show tgR 27 j = 1 from rfl))
        have l31 : ∀ j, zL xr 31 j = zL ur 31 j := fun j => (fT_l q1 (by decide) (show tgR 31 0 = 1 from rfl) j).trans (fT_l F12 (by decide) (show tgR 31 0 = 1 from rfl) j)
        refine kSt_mk h.2.1 (by omega) (by omega) (by rw [gI_sL, gI_sI, if_neg (by omega)]; exact x51) g1 g2 (fun j hj => ?_) (fun j hj => ?_) (fun j hj => ?_) (fun j hj => ?_) ?_
        · rw [gI_sL, gI_sI, if_neg (by omega), i27]
        · rw [gL_sL, if_neg (by omega), gL_sI, l31]
        · rw [g3, if_neg (by omega), xw.2.1, p2]
        · rw [g4, if_neg (by omega), xw.2.2.1, p3]
        · rw [g3, if_pos rfl, g4, if_pos rfl, gI_sL, gI_sI, if_pos ⟨rfl, rfl⟩, gL_sL, if_pos ⟨rfl, rfl⟩]
          exact hvv
      have hS5 := kSi_k q3 R9 f5 (by decide)
      have hF5 := kFn_k q4 R9 f5 (by decide)
      obtain ⟨V1, V2, V3, V4, V5⟩ := V
      obtain ⟨W1, W2, W3, W4, W5⟩ := W
      cases e1; cases e2; cases e3; cases e4
      exact kQ_g h hr1 hc2 (by decide) (by decide) (by decide) (by decide) (V := (V1, V2, V3, V4, V5)) (Nat.le_refl _) (Nat.le_refl _) (Nat.le_add_right _ _) st ⟨kPp_k hPp hr1 hc2 (by decide), kOb_k hOb hr1 hc2 (by decide), kMb_k hMb hr1 hc2 (by decide), kSh_k hSh hr1 hc2 (by decide), kRw_k hRw hr1 hc2 (by decide), hS5, hF5, kCt_k hCt hr1 hc2 (by decide)⟩
    have hF2 := kFn_k hFnk F12 G12 (by decide)
    unfold rf_reads_J134
    rcases ec1 with ⟨z0, z1⟩ | ⟨z0, z1, z2⟩
    · subst z0
      rw [z1 0]
      exact rp_lt rfl (fin W ur2 uc2 (fT_rf _ _ _) (fT_rf _ _ _) hS2 hF2 rfl rfl rfl rfl)
    · subst z0
      rw [z2]
      obtain ⟨-, f, hf, ef, em⟩ := g8 z1
      have B2 : kBs C ur2 uc2 := B.tr F12 G12 (by decide)
      obtain ⟨xr, xc, y1, y2, y3, y4, y5, y6⟩ := k_leave n (by omega) P B2 hS2 hF2 hs hf ef em
      exact rp_lf (by decide) (rp_l y1 (rp_r y2 (fin (wSF W f 0) xr xc y3 y4 y5 y6 rfl rfl rfl rfl)))
  · refine rp_lf b1 (rp_r e (rp_rt rfl ?_))
    rw [zbd_i]
    obtain ⟨w, e1, q⟩ := kQ_f0 (t' := k + 1) (c := c) n h R0 fc1 2 v2
    exact rp_eq e1 rfl q
