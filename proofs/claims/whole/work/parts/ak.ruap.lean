/-! RUNNING: steps, jumps, branches -/
theorem r_L57 (n : Nat) {m r o : Nat} {u : zMu} {l : Int32} (hr4 : r < 4000) (ho : o ≤ 23) (er : zI u 10 r = nI o) : rf_run_L57 n (m + 1) u l (nI r) (-1) = if o = 0 ∨ o = 17 then rf_run_J82 n (rf_run_L57 n m) u l (nI r) (-1) (nI o) else rf_run_J102 n (rf_run_L57 n m) u l (nI r) (-1) (nI o) := by
  rw [rf_run_L57, if_pos rfl, zin_nI hr4 (by decide), zgd_t, zx_nI (show r < 2 ^ 31 by omega), er]
  simp only [zlet]
  by_cases z : o = 0
  · subst z
    rw [if_pos (show nI 0 = (0 : Int32) from rfl), if_pos (Or.inl rfl)]
  · rw [if_neg (show ¬ nI o = (0 : Int32) from fun e => z ((nI_eq (b := 0) (by omega) (by decide)).mp e))]
    by_cases y : o = 17
    · subst y
      rw [if_pos (show nI 17 = (17 : Int32) from rfl), if_pos (Or.inr rfl)]
    · rw [if_neg (show ¬ nI o = (17 : Int32) from fun e => y ((nI_eq (b := 17) (by omega) (by decide)).mp e)), if_neg (by omega)]
/-- the next instruction's place -/
theorem k_zn {C : kC} {cr cc tb z lim : Nat} {ht : Nat → Nat} (Q : kPc C cr cc tb z ht) {fr : List Nat} {r o : Nat} (h4 : ¬ fr = [] → r < z) (e0 : zI (cb C) 10 r = nI o) (ho : o ≤ 23) (h23 : ¬ o = 23) (y : ¬ fr = []) : r + 1 < z := by
  have hz := h4 y
  have zz := Q.2.2.2.2.2.2.1
  by_cases x : r + 1 = z
  · rcases zz with zz | zz
    · omega
    · exfalso
      rw [show z - 1 = r by omega, e0] at zz
      exact h23 ((nI_eq (by omega) (by decide)).mp zz)
  · omega
/-- the steps are counted -/
theorem kGd_st {C : kC} {W : kW} {fr : List Nat} {T t : Nat} {ur uc : zMu} (h : kGd C W fr T t ur uc) : kGd C W fr (T + 1) t (zsI ur 0 55 (nI (T + 1))) (zsI uc 34 15 (nI (T + 1))) := by
  have F : fT tgR [11] ur (zsI ur 0 55 (nI (T + 1))) := fT_I (fT_rf _ _ _) _ 11 rfl (by decide)
  have G : fT tgC [11] uc (zsI uc 34 15 (nI (T + 1))) := fT_I (fT_rf _ _ _) _ 11 rfl (by decide)
  obtain ⟨hPp, hOb, hMb, hSh, hRw, hSi, hFn, hCt⟩ := h.2.2.2.2
  exact ⟨⟨fT_tr h.1.1 (fT_mono F (by decide)), fT_tr h.1.2 (fT_mono G (by decide))⟩, kSt_k h.2.1 F G (by decide), kVa_k h.2.2.1 F G (by decide), kFr_k h.2.2.2.1 F G (by decide), kPp_k hPp F G (by decide), kOb_k hOb F G (by decide), kMb_k hMb F G (by decide), kSh_k hSh F G (by decide), kRw_k hRw F G (by decide), kSi_k hSi F G (by decide), kFn_k hFn F G (by decide), rfl, rfl, by rw [gI_sI, if_neg (by omega), gI_sI, if_neg (by omega)]; exact hCt.2.2.1, by rw [gI_sI, if_neg (by omega), gI_sI, if_neg (by omega)]; exact hCt.2.2.2.1, by rw [gI_sI, if_neg (by omega), gI_sI, if_neg (by omega)]; exact hCt.2.2.2.2.1, by rw [gI_sI, if_neg (by omega), gI_sI, if_neg (by omega)]; exact hCt.2.2.2.2.2⟩
theorem kd_0 (n : Nat) {C : kC} (P : kPs C) {cr cc tb z lim mu : Nat} {ht : Nat → Nat} (Q : kPc C cr cc tb z ht) (hl : lim ≤ 20000) (i14 : zI (cv C) 34 14 = nI lim) (H : kLp n C cr z lim ht mu) {W : kW} {fr : List Nat} {T r ta m m' : Nat} {ur uc : zMu} (h : kAt C cr z lim ht W fr T r ur uc) (hta : ta + 2400 * fr.length ≤ 2400 * T + kSp (cM C) fr + kQp C r) (hmu : 2400 * (lim + 1) ≤ ta + (mu + 1)) (hm : mu < m) (hm' : mu < m') {a b c x c2 : Nat} {wd : Int32} (e0 : zI (cb C) 10 r = nI 0) (e10 : zI ur 10 r = nI 0) (h60 : ht r ≤ 60) (i11 : insC 80 0 a b c x (cM C r) (cM C (r + 1)) (ht r) (ht (r + 1)) (jT tb (cM C) ht (cb C) r) c2) (PF : ce_M_perform n uc = pfD n (zsI uc 34 13 (nI (cM C r + 1))) (nI c) (nI x) wd) : Rp (rf_run_L57 n (m + 1) ur (nI lim) (nI r) (-1)) (ce_M_execute_L40 n (m' + 1) uc (lN (2400 * (lim + 1))) (lN ta)) (kFin C) := by
  have tk := k_tick Q h hta
  have c13 : fT tgC [12] uc (zsI uc 34 13 (nI (cM C r + 1))) := fT_I (fT_rf _ _ _) _ 12 rfl (by decide)
  have g1 := h.1.ctl c13
  obtain ⟨g, h2, h3, h4, h5, h6, h7, h8⟩ := h
  have hcr := kM_mono Q 0 cr (by omega) (Nat.le_refl _)
  have hcc := kM_le Q (r := cr) (Nat.le_refl _)
  have hr4 : r < 4000 := by omega
  obtain ⟨rfl, y1, y2, y3⟩ := insC_0.mp i11
  obtain ⟨u1, hu1⟩ : ∃ u1, zsI uc 34 13 (nI (cM C r + 1)) = u1 := ⟨_, rfl⟩
  rw [hu1] at g1 PF c13
  have s15 : zI u1 34 15 = nI T := g1.2.2.2.2.2.2.2.2.2.2.2.2.1
  have s55 : zI ur 0 55 = nI T := g1.2.2.2.2.2.2.2.2.2.2.2.1
  have s14 : zI u1 34 14 = nI lim := (fT_i g1.1.2 (by decide) (show tgC 34 14 = 0 from rfl)).trans i14
  have s17 : zI u1 34 17 = -1 := by rw [← hu1, gI_sI, if_neg (by omega)]; exact h8
  have s13 : zI u1 34 13 = nI (cM C (r + 1)) := by rw [← hu1, y1]; rfl
  rw [r_L57 n hr4 (by omega) e10, if_pos (Or.inl rfl), c_go n hl (by omega) h8, PF, pf_0]
  unfold rf_run_J82 ce_M_takeStep
  rw [s55, s15, s14]
  obtain ⟨m', rfl⟩ : ∃ k, m' = k + 1 := ⟨m' - 1, by omega⟩
  by_cases y : T = lim
  · rw [if_pos (by rw [y]), if_neg (nI_nlt (by omega) (by omega))]
    show Rp (some (2, ur)) (ce_M_execute_L40 n (m' + 1) (zsI u1 34 17 2) _ _) _
    rw [c_end n (show ¬ zI (zsI u1 34 17 2) 34 17 = -1 from by rw [gI_sI, if_pos ⟨rfl, rfl⟩]; decide)]
    have G : fT tgC [12] u1 (zsI u1 34 17 2) := fT_I (fT_rf _ _ _) _ 12 rfl (by decide)
    exact rp_end ⟨rfl, g.1.1, fT_tr g1.1.2 (fT_mono G (by decide)), W, T, kOt_k g1.2.2.2.2 (fT_rf tgR [12] ur) G (fun t a b => by simp; omega)⟩
  · rw [if_neg (fun e => y ((nI_eq (by omega) (by omega)).mp e)), if_pos (nI_lt (by omega) (by omega)), nI_1]
    have ed : rf_run_J102 n (rf_run_L57 n m) (zsI ur 0 55 (nI (T + 1))) (nI lim) (nI r) (-1) (nI 0) = rf_run_L57 n m (zsI ur 0 55 (nI (T + 1))) (nI lim) (nI (r + 1)) (-1) := by
      unfold rf_run_J102
      rw [if_neg (show ¬ nI 0 = (17 : Int32) from by decide), if_neg (show ¬ nI 0 = (19 : Int32) from by decide), if_neg (show ¬ nI 0 = (23 : Int32) from by decide), if_neg (show ¬ nI 0 = (22 : Int32) from by decide), if_neg (show ¬ nI 0 = (21 : Int32) from by decide)]
      have : rf_does n (zsI ur 0 55 (nI (T + 1))) (nI 0) (nI r) = some (-1, zsI ur 0 55 (nI (T + 1))) := by
        unfold rf_does
        rw [zin_nI hr4 (by decide), zgd_t]
        simp only [zlet, zgd_t]
        rw [if_neg (show ¬ nI 0 = (1 : Int32) from by decide), if_neg (show ¬ nI 0 = (2 : Int32) from by decide), if_neg (show ¬ nI 0 = (3 : Int32) from by decide), if_neg (show ¬ nI 0 = (4 : Int32) from by decide), if_neg (show ¬ nI 0 = (5 : Int32) from by decide), if_neg (show ¬ nI 0 = (6 : Int32) from by decide), if_neg (show ¬ nI 0 = (7 : Int32) from by decide), if_neg (show ¬ nI 0 = (8 : Int32) from by decide), if_neg (show ¬ nI 0 = (9 : Int32) from by decide), if_neg (show ¬ nI 0 = (10 : Int32) from by decide), if_neg (show ¬ nI 0 = (11 : Int32) from by decide), if_neg (show ¬ nI 0 = (12 : Int32) from by decide), if_neg (show ¬ nI 0 = (13 : Int32) from by decide), if_neg (show ¬ nI 0 = (14 : Int32) from by decide), if_neg (show ¬ nI 0 = (15 : Int32) from by decide), if_neg (show ¬ nI 0 = (16 : Int32) from by decide), if_neg (show ¬ nI 0 = (18 : Int32) from by decide), if_neg (show ¬ nI 0 = (20 : Int32) from by decide)]
      rw [zbd_e this, nI_1]
      rfl
    show Rp (rf_run_J102 n (rf_run_L57 n m) (zsI ur 0 55 (nI (T + 1))) (nI lim) (nI r) (-1) (nI 0)) (ce_M_execute_L40 n (m' + 1) (zsI u1 34 15 (nI (T + 1))) _ _) _
    rw [ed]
    have hr1 : r + 1 < cr := by
      by_cases x : r + 1 = cr
      · have := Q.1.2.2.2.2.2.1
        rw [x] at y3
        omega
      · omega
    have qp := (kQp_le Q (r := r) (by omega)).1
    have qn := (kQp_le Q (r := r + 1) (by omega)).2
    refine H W fr (T + 1) (r + 1) (ta + 1) m (m' + 1) _ _ ⟨?_, hr1, h3, fun y => k_zn Q (lim := lim) h4 e0 (by omega) (by omega) y, by omega, by omega, ?_, ?_⟩ (by omega) (by omega) hm hm'
    · have := kGd_st g1
      rw [y2] at this
      rw [y3]
      exact this
    · rw [gI_sI, if_neg (by omega)]; exact s13
    · rw [gI_sI, if_neg (by omega)]; exact s17
/-- where a jump goes -/
theorem k_jump {C : kC} {cr cc tb z : Nat} {ht : Nat → Nat} (Q : kPc C cr cc tb z ht) {r a x : Nat} (h2 : r < cr) (j : jT tb (cM C) ht (cb C) r a x) : a < cr ∧ x = cM C a ∧ ht a = 0 ∧ cM C r + 1 ≤ kQp C a := by
  obtain ⟨j1, j2, j3, j4, j5⟩ := j
  have htb := Q.1.2.2.2.1
  have hcr := Q.1.2.2.2.2.2.1
  have acr : a < cr := by
    by_cases x : a = cr
    · rw [x] at j3; omega
    · omega
  refine ⟨acr, j2, j3, ?_⟩
  have mr := kM_mono Q r cr (by omega) (Nat.le_refl _)
  have mc := kM_le Q (r := cr) (Nat.le_refl _)
  rcases j5 with y | ⟨y1, y2⟩ | y
  · have := kM_mono Q r a (by omega) (by omega)
    have := (kQp_le Q (r := a) (by omega)).2
    omega
  · have : kQp C a = 2301 := if_pos (Or.inl y2)
    omega
  · subst y
    have : kQp C 0 = 2301 := by
      refine if_pos ?_
      obtain ⟨o, a', b, c, x', c2, w, i1, -, -, -, -, -, -, -, -, -, i11⟩ := Q.2.1 0 acr
      rw [i1]
      rw [j3] at i11
      have ho : o = 0 ∨ o = 22 ∨ o = 23 := by
        unfold insC at i11
        omega
      rcases ho with e | e | e
      · exact Or.inl (by rw [e])
      · subst e
        have := (insC_22.mp i11).2.1.2.2.2.1
        omega
      · exact Or.inr (by rw [e])
    omega
theorem kd_22 (n : Nat) {C : kC} (P : kPs C) {cr cc tb z lim mu : Nat} {ht : Nat → Nat} (Q : kPc C cr cc tb z ht) (hl : lim ≤ 20000) (H : kLp n C cr z lim ht mu) {W : kW} {fr : List Nat} {T r ta m m' : Nat} {ur uc : zMu} (h : kAt C cr z lim ht W fr T r ur uc) (hta : ta + 2400 * fr.length ≤ 2400 * T + kSp (cM C) fr + kQp C r) (hmu : 2400 * (lim + 1) ≤ ta + (mu + 1)) (hm : mu < m) (hm' : mu < m') {a b c x c2 : Nat} {wd : Int32} (e0 : zI (cb C) 10 r = nI 22) (e10 : zI ur 10 r = nI 22) (e11 : zI ur 11 r = nI a) (i11 : insC 80 22 a b c x (cM C r) (cM C (r + 1)) (ht r) (ht (r + 1)) (jT tb (cM C) ht (cb C) r) c2) (PF : ce_M_perform n uc = pfD n (zsI uc 34 13 (nI (cM C r + 1))) (nI c) (nI x) wd) : Rp (rf_run_L57 n (m + 1) ur (nI lim) (nI r) (-1)) (ce_M_execute_L40 n (m' + 1) uc (lN (2400 * (lim + 1))) (lN ta)) (kFin C) := by
  have tk := k_tick Q h hta
  obtain ⟨g, h2, h3, h4, h5, h6, h7, h8⟩ := h
  have hcr := kM_mono Q 0 cr (by omega) (Nat.le_refl _)
  have hcc := kM_le Q (r := cr) (Nat.le_refl _)
  have hr4 : r < 4000 := by omega
  obtain ⟨rfl, jt, y1, y2, y3⟩ := insC_22.mp i11
  obtain ⟨j1, j2, j3, j4⟩ := k_jump Q h2 jt
  have qe : kQp C r = cM C r := if_neg (by rw [e0]; decide)
  rw [r_L57 n hr4 (by omega) e10, if_neg (by omega), c_go n hl (by omega) h8, PF, pf_23]
  unfold rf_run_J102
  rw [if_neg (show ¬ nI 22 = (17 : Int32) from by decide), if_neg (show ¬ nI 22 = (19 : Int32) from by decide), if_neg (show ¬ nI 22 = (23 : Int32) from by decide), if_pos (show nI 22 = (22 : Int32) from rfl), zin_nI hr4 (by decide), zgd_t, zx_nI (show r < 2 ^ 31 by omega), e11]
  obtain ⟨u1, hu1⟩ : ∃ u1, zsI (zsI uc 34 13 (nI (cM C r + 1))) 34 13 (nI x) = u1 := ⟨_, rfl⟩
  show Rp (rf_run_L57 n m ur (nI lim) (nI a) (-1)) (ce_M_execute_L40 n m' (zsI (zsI uc 34 13 (nI (cM C r + 1))) 34 13 (nI x)) _ _) _
  rw [hu1]
  have c13 : fT tgC [12] uc u1 := by rw [← hu1]; exact fT_I (fT_I (fT_rf _ _ _) _ 12 rfl (by decide)) _ 12 rfl (by decide)
  have g1 := g.ctl c13
  refine H W fr T a (ta + 1) m m' _ _ ⟨?_, j1, h3, fun y => ?_, by omega, h6, ?_, ?_⟩ (by omega) (by omega) hm hm'
  · rw [j3]; rw [y2] at g1; exact g1
  · obtain ⟨a', a1, a2⟩ := Q.2.2.2.2.2.2.2.2 r (h4 y) (Or.inr e0)
    have eb := kBs.r (C := C) g.1 (show tgR 11 r = 0 from rfl)
    have zc := Q.2.2.2.2.2.1
    rw [e11, a2] at eb
    have := (nI_eq (by omega) (by omega)).mp eb
    omega
  · rw [← hu1, gI_sI, if_pos ⟨rfl, rfl⟩, j2]
  · rw [← hu1, gI_sI, if_neg (by omega), gI_sI, if_neg (by omega)]; exact h8
theorem kd_21 (n : Nat) {C : kC} (P : kPs C) {cr cc tb z lim mu : Nat} {ht : Nat → Nat} (Q : kPc C cr cc tb z ht) (hl : lim ≤ 20000) (H : kLp n C cr z lim ht mu) {W : kW} {fr : List Nat} {T r ta m m' : Nat} {ur uc : zMu} (h : kAt C cr z lim ht W fr T r ur uc) (hta : ta + 2400 * fr.length ≤ 2400 * T + kSp (cM C) fr + kQp C r) (hmu : 2400 * (lim + 1) ≤ ta + (mu + 1)) (hm : mu < m) (hm' : mu < m') {a b c x c2 w : Nat} {wd : Int32} (e0 : zI (cb C) 10 r = nI 21) (e10 : zI ur 10 r = nI 21) (e11 : zI ur 11 r = nI a) (e13 : zI ur 13 r = nI w) (wdq : wd = nI w) (i11 : insC 80 21 a b c x (cM C r) (cM C (r + 1)) (ht r) (ht (r + 1)) (jT tb (cM C) ht (cb C) r) c2) (PF : ce_M_perform n uc = pfD n (zsI uc 34 13 (nI (cM C r + 1))) (nI c) (nI x) wd) : Rp (rf_run_L57 n (m + 1) ur (nI lim) (nI r) (-1)) (ce_M_execute_L40 n (m' + 1) uc (lN (2400 * (lim + 1))) (lN ta)) (kFin C) := by
  have tk := k_tick Q h hta
  obtain ⟨g, h2, h3, h4, h5, h6, h7, h8⟩ := h
  have hcr := kM_mono Q 0 cr (by omega) (Nat.le_refl _)
  have hcc := kM_le Q (r := cr) (Nat.le_refl _)
  have hr4 : r < 4000 := by omega
  obtain ⟨rfl, jt, y1, y2, y3⟩ := insC_21.mp i11
  obtain ⟨j1, j2, j3, j4⟩ := k_jump Q h2 jt
  subst wdq
  have qe : kQp C r = cM C r := if_neg (by rw [e0]; decide)
  have qn := (kQp_le Q (r := r + 1) (by omega)).2
  obtain ⟨u1, hu1⟩ : ∃ u1, zsI uc 34 13 (nI (cM C r + 1)) = u1 := ⟨_, rfl⟩
  have c13 : fT tgC [12] uc u1 := by rw [← hu1]; exact fT_I (fT_rf _ _ _) _ 12 rfl (by decide)
  have g1 := g.ctl c13
  rw [show kB ht fr + (ht r - 1) = kB ht fr + 1 by omega] at g1
  have s13 : zI u1 34 13 = nI (cM C r + 1) := by rw [← hu1]; rfl
  have s17 : zI u1 34 17 = -1 := by rw [← hu1, gI_sI, if_neg (by omega)]; exact h8
  have t8 := g1.t8
  have hv := g1.v (show kB ht fr < kB ht fr + 1 by omega)
  obtain ⟨vr, ev, i51, i27, l31, fr1, iO, lO⟩ := pop_r g1 (kB ht fr)
  obtain ⟨uk, ek, k8, p1, p2, p3, fc1, kd⟩ := pop_c P g1 (kB ht fr)
  have gp := kGd_pop g1 (k := kB ht fr) (by omega) ev ek
  have k13 : zI uk 34 13 = nI (cM C r + 1) := (fT_i fc1 (by decide) (show tgC 34 13 = 12 from rfl)).trans s13
  have k17 : zI uk 34 17 = -1 := (fT_i fc1 (by decide) (show tgC 34 17 = 12 from rfl)).trans s17
  rw [hu1] at PF
  rw [r_L57 n hr4 (by omega) e10, if_neg (by omega), c_go n hl (by omega) h8, PF, pf_24]
  unfold rf_run_J102 ce_M_branch
  rw [if_neg (show ¬ nI 21 = (17 : Int32) from by decide), if_neg (show ¬ nI 21 = (19 : Int32) from by decide), if_neg (show ¬ nI 21 = (23 : Int32) from by decide), if_neg (show ¬ nI 21 = (22 : Int32) from by decide), if_pos (show nI 21 = (21 : Int32) from rfl), g1.tr, g1.tc, nI_pred, ev, ek]
  simp only [zlet]
  rw [i51, k8, zin_nI (show kB ht fr < 2200 by omega) (by decide), zgd_t, zgd_t, zx_nI (show kB ht fr < 2 ^ 31 by omega), i27, l31, zin_nI hr4 (by decide), zgd_t, zgd_t, zx_nI (show r < 2 ^ 31 by omega), iO 11 r (by omega), iO 13 r (by omega), e11, e13, nI_1]
  obtain ⟨m', rfl⟩ : ∃ k, m' = k + 1 := ⟨m' - 1, by omega⟩
  obtain ⟨m, rfl⟩ : ∃ k, m = k + 1 := ⟨m - 1, by omega⟩
  rcases c_isNum n p1 (j := kB ht fr) (by omega) (by rw [p2]; exact hv) with ⟨b1, b2, eb⟩ | ⟨b1, eb⟩
  · rw [if_pos b1, zbd_e eb, if_neg (show ¬ (1 : Int32) = 0 from by decide), k8, zbd_e (v_numberAt n p1 (j := kB ht fr) (by omega)), p3, b2]
    by_cases y : lg_cmp (zL ur 31 (kB ht fr)) 0 = 0
    · rw [if_pos y, if_pos y]
      show Rp (rf_run_L57 n (m + 1) vr (nI lim) (nI a) (-1)) (ce_M_execute_L40 n (m' + 1) (zsI uk 34 13 (nI x)) _ _) _
      have c2 : fT tgC [12] uk (zsI uk 34 13 (nI x)) := fT_I (fT_rf _ _ _) _ 12 rfl (by decide)
      refine H W fr T a (ta + 1) (m + 1) (m' + 1) _ _ ⟨?_, j1, h3, fun y => ?_, by omega, h6, ?_, ?_⟩ (by omega) (by omega) hm hm'
      · rw [j3]; exact gp.ctl c2
      · obtain ⟨a', a1, a2⟩ := Q.2.2.2.2.2.2.2.2 r (h4 y) (Or.inl e0)
        have eb := kBs.r (C := C) g.1 (show tgR 11 r = 0 from rfl)
        have zc := Q.2.2.2.2.2.1
        rw [e11, a2] at eb
        have := (nI_eq (by omega) (by omega)).mp eb
        omega
      · rw [gI_sI, if_pos ⟨rfl, rfl⟩, j2]
      · rw [gI_sI, if_neg (by omega)]; exact k17
    · rw [if_neg y, if_neg y]
      show Rp (rf_run_L57 n (m + 1) vr (nI lim) (nI (r + 1)) (-1)) (ce_M_execute_L40 n (m' + 1) uk _ _) _
      have hr1 : r + 1 < cr := by
        by_cases x : r + 1 = cr
        · have := Q.1.2.2.2.2.2.1
          rw [x] at y3
          omega
        · omega
      refine H W fr T (r + 1) (ta + 1) (m + 1) (m' + 1) _ _ ⟨?_, hr1, h3, fun y => k_zn Q (lim := lim) h4 e0 (by omega) (by omega) y, by omega, h6, ?_, k17⟩ (by omega) (by omega) hm hm'
      · rw [y3]; exact gp
      · rw [k13, y1]
  · rw [if_neg b1, zbd_e eb, if_pos rfl]
    obtain ⟨wr, e1, q⟩ := kQ_f0 (t' := 0) (c := 0) n g1 fr1 fc1 1 (nI w)
    rw [zbd_e e1]
    show Rp (rf_run_L57 n (m + 1) wr (nI lim) (nI r) 1) (ce_M_execute_L40 n (m' + 1) (failS uk 1 (nI w)) _ _) _
    rw [r_end n (by decide), c_end n (show ¬ zI (failS uk 1 (nI w)) 34 17 = -1 from by show ¬ (1 : Int32) = -1; decide)]
    obtain ⟨q1, q2, q3⟩ := q
    rcases q3 with ⟨q3, -⟩ | ⟨-, q4, V, q5⟩
    · exact absurd q3 (by decide)
    · exact rp_end ⟨rfl, fT_tr g1.1.1 q1, fT_tr g1.1.2 q2, V, T, q5⟩
