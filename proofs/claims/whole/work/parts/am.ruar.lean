/-! RUNNING: new objects and calls in the loop; the loop -/
theorem kd_12 (n : Nat) (hn : 20000 ≤ n) {C : kC} (P : kPs C) {cr cc tb z lim mu : Nat} {ht : Nat → Nat} (Q : kPc C cr cc tb z ht) (hl : lim ≤ 20000) (H : ∀ mu', mu' ≤ mu → kLp n C cr z lim ht mu') {W : kW} {fr : List Nat} {T r ta m m' : Nat} {ur uc : zMu} (h : kAt C cr z lim ht W fr T r ur uc) (hta : ta + 2400 * fr.length ≤ 2400 * T + kSp (cM C) fr + kQp C r) (hmu : 2400 * (lim + 1) ≤ ta + (mu + 1)) (hm : mu < m) (hm' : mu < m') {a b c x c2 w : Nat} {wd : Int32} (e0 : zI (cb C) 10 r = nI 12) (e10 : zI ur 10 r = nI 12) (e11 : zI ur 11 r = nI a) (e13 : zI ur 13 r = nI w) (i8 : cM C (r + 1) = cM C r + 2 → zI uc (xp (cX C) + 1) (cM C r + 1) = nI c2 ∧ zI uc (xp (cX C) + 3) (cM C r + 1) = nI w) (wdq : a = 1 → wd = nI w) (h60 : ht r ≤ 60) (i11 : insC 80 12 a b c x (cM C r) (cM C (r + 1)) (ht r) (ht (r + 1)) (jT tb (cM C) ht (cb C) r) c2) (PF : ce_M_perform n uc = pfD n (zsI uc 34 13 (nI (cM C r + 1))) (nI c) (nI x) wd) : Rp (rf_run_L57 n (m + 1) ur (nI lim) (nI r) (-1)) (ce_M_execute_L40 n (m' + 1) uc (lN (2400 * (lim + 1))) (lN ta)) (kFin C) := by
  have tk := k_tick Q h hta
  obtain ⟨u1, hu1⟩ : ∃ u1, zsI uc 34 13 (nI (cM C r + 1)) = u1 := ⟨_, rfl⟩
  have c13 : fT tgC [12] uc u1 := by rw [← hu1]; exact fT_I (fT_rf _ _ _) _ 12 rfl (by decide)
  have g1 := h.1.ctl c13
  have h2 := h.2.1
  have h3 := h.2.2.1
  have h4 := h.2.2.2.1
  have h5 := h.2.2.2.2.1
  have h6 := h.2.2.2.2.2.1
  have h8 := h.2.2.2.2.2.2.2
  have hb := kB_le fr h3
  have hD := h.1.D
  have hcc := kM_le Q (r := cr) (Nat.le_refl _)
  have hcr := kM_mono Q 0 cr (by omega) (Nat.le_refl _)
  have hcm := kM_mono Q (r + 1) cr (by omega) (Nat.le_refl _)
  have hccc := Q.1.2.1
  have hr4 : r < 4000 := by omega
  rcases insC_12.mp i11 with ⟨rfl, rfl, y1, y2, y3⟩ | ⟨rfl, rfl, rfl, y1, y2, y3⟩
  · -- with a parent
    rw [wdq rfl] at PF
    obtain ⟨k, hk⟩ : ∃ k, kB ht fr + (ht r - 1) = k + 1 := ⟨kB ht fr + (ht r - 1) - 1, by omega⟩
    rw [hk] at g1
    refine k_do n P Q hl (H mu (Nat.le_refl _)) (o := 12) (c := 0) h hta hmu hm hm' hr4 e10 (by omega) (by omega) (by omega) (by omega) (by omega) ?_
    rw [show kB ht fr + (ht (r + 1) - 1) = k + 1 by omega, rd_12 n ur hr4, e11, e13, zbd_i, PF, pf_12, hu1]
    exact o_new1 n hn P g1 _
  · -- without
    have e2 := i8 y1
    have qe : kQp C r = cM C r := if_neg (by rw [e0]; decide)
    have s17 : zI u1 34 17 = -1 := by rw [← hu1, gI_sI, if_neg (by omega)]; exact h8
    have s13 : zI u1 34 13 = nI (cM C r + 1) := by rw [← hu1]; rfl
    rw [hu1] at PF
    obtain ⟨t, ht'⟩ : ∃ t, kB ht fr + (ht r - 1) = t := ⟨_, rfl⟩
    rw [ht'] at g1
    obtain ⟨v, ev, f, q1, q2, q3, q4⟩ := c_push n g1.vw g1.tc (g1.dy P) (by omega) (s := 0) (by omega) 0
    have B2 : kBs C ur v := ⟨g1.1.1, fT_tr g1.1.2 (fT_mono f (by decide))⟩
    obtain ⟨pp, pz, p12⟩ := B2.p P
    have v13 : zI v 34 13 = nI (cM C r + 1) := (fT_i f (by decide) (show tgC 34 13 = 12 from rfl)).trans s13
    have v17 : zI v 34 17 = -1 := (fT_i f (by decide) (show tgC 34 17 = 12 from rfl)).trans s17
    have b1 := fun j k (x : 12 ≤ j) (y : j ≤ 33) => kBs.c (C := C) h.1.1 (a := j) x y k
    have pf2 := pf_eq n pp pz v13 (show cM C r + 1 < cc by omega) (by omega) ((B2.c (by omega) (by omega) 3).trans Q.1.2.2.2.2.2.2) (show zI v (xp (cX C) + 1) (cM C r + 1) = nI 12 from by
      rw [B2.c (by omega) (by omega), ← b1 _ _ (by omega) (by omega)]; exact e2.1) rfl (show zI v (xp (cX C) + 3) (cM C r + 1) = nI w from by
      rw [B2.c (by omega) (by omega), ← b1 _ _ (by omega) (by omega)]; exact e2.2)
    obtain ⟨v', hv'⟩ : ∃ v', zsI v 34 13 (nI (cM C r + 1 + 1)) = v' := ⟨_, rfl⟩
    rw [hv'] at pf2
    have f2 : fT tgC [12] v v' := by rw [← hv']; exact fT_I (fT_rf _ _ _) _ 12 rfl (by decide)
    have fv : fT tgC [1, 12] u1 v' := fT_tr (fT_mono f (by decide)) (fT_mono f2 (by decide))
    obtain ⟨x1, x2, x3, -⟩ := vw_kT f2 (v := 75) (m := 780) (t := 1) (by unfold vK; omega) (by decide)
    have nw := o_new0 n hn P (c := 0) g1 (by omega) fv ((fT_i f2 (by decide) (show tgC 34 8 = 1 from rfl)).trans q1) (x1 q2) (fun j hj => by rw [x2, q3, if_neg (by omega)]) (fun j hj => by rw [x3, q4, if_neg (by omega)]) (by rw [x2, q3, if_pos rfl]; rfl) (nI w)
    have hr1 : r + 1 < cr := by
      by_cases x : r + 1 = cr
      · have := Q.1.2.2.2.2.2.1
        rw [x] at y2
        omega
      · omega
    have el : rf_run_L57 n (m + 1) ur (nI lim) (nI r) (-1) = zbd (rf_news n ur 0 (nI w)) fun r20 u21 => rf_run_L57 n m u21 (nI lim) (nI (r + 1)) r20 := by
      rw [r_L57 n hr4 (by omega) e10, if_neg (by omega)]
      unfold rf_run_J102
      rw [if_neg (show ¬ nI 12 = (17 : Int32) from by decide), if_neg (show ¬ nI 12 = (19 : Int32) from by decide), if_neg (show ¬ nI 12 = (23 : Int32) from by decide), if_neg (show ¬ nI 12 = (22 : Int32) from by decide), if_neg (show ¬ nI 12 = (21 : Int32) from by decide), rd_12 n ur hr4, e11, e13, zbd_i, nI_1]
      rfl
    obtain ⟨m', rfl⟩ : ∃ k, m' = k + 1 := ⟨m' - 1, by omega⟩
    rw [el, c_go n hl (by omega) h8, PF, pf_2, zbd_e (show ce_M_push n u1 0 0 = some ((), v) from ev), c_go n hl (by omega) v17, pf2, pf_12]
    refine rp_bd (rp_mono nw (fun rr vr _ vc q => ?_))
    obtain ⟨z1, z2, z3⟩ := q
    obtain ⟨m, rfl⟩ : ∃ k, m = k + 1 := ⟨m - 1, by omega⟩
    obtain ⟨m', rfl⟩ : ∃ k, m' = k + 1 := ⟨m' - 1, by omega⟩
    have cv' : fT tgC tall (cv C) v' := fT_tr g1.1.2 (fT_mono fv (by decide))
    rcases z3 with ⟨d1, d2, d3, V, d4, d5⟩ | ⟨d1, d2, V, d3⟩
    · subst d1
      have qn := (kQp_le Q (r := r + 1) (by omega)).2
      refine H (mu - 1) (by omega) V fr T (r + 1) (ta + 1 + 1) (m + 1) (m' + 1) vr vc ⟨?_, hr1, h3, fun y => k_zn Q (lim := lim) h4 e0 (by omega) (by omega) y, by omega, h6, ?_, ?_⟩ (by omega) (by omega) (by omega) (by omega)
      · rw [show kB ht fr + (ht (r + 1) - 1) = t + 1 by omega]; exact d5
      · rw [d3, y1, ← hv']; rfl
      · rw [d2, ← hv', gI_sI, if_neg (by omega)]; exact v17
    · subst d1
      rw [r_end n (by decide), c_end n (by rw [d2]; decide)]
      exact rp_end ⟨d2, fT_tr g1.1.1 z1, fT_tr cv' z2, V, T, d3⟩
theorem tick_call {ta D T S M0 M1 q : Nat} (h : ta + 2400 * D ≤ 2400 * T + S + M0) (hM : M1 = M0 + 1) : ta + 1 + 2400 * (D + 1) ≤ 2400 * (T + 1) + (S + M1) + q := by omega
theorem kd_17 (n : Nat) (hn : 20000 ≤ n) {C : kC} (P : kPs C) {cr cc tb z lim mu : Nat} {ht : Nat → Nat} (Q : kPc C cr cc tb z ht) (hl : lim ≤ 20000) (i14 : zI (cv C) 34 14 = nI lim) (H : kLp n C cr z lim ht mu) {W : kW} {fr : List Nat} {T r ta m m' : Nat} {ur uc : zMu} (h : kAt C cr z lim ht W fr T r ur uc) (hta : ta + 2400 * fr.length ≤ 2400 * T + kSp (cM C) fr + kQp C r) (hmu : 2400 * (lim + 1) ≤ ta + (mu + 1)) (hm : mu < m) (hm' : mu < m') {a b c x c2 w : Nat} {wd : Int32} (e0 : zI (cb C) 10 r = nI 17) (e10 : zI ur 10 r = nI 17) (e11 : zI ur 11 r = nI a) (e12 : zI ur 12 r = nI b) (e13 : zI ur 13 r = nI w) (wdq : wd = nI w) (h60 : ht r ≤ 60) (i11 : insC 80 17 a b c x (cM C r) (cM C (r + 1)) (ht r) (ht (r + 1)) (jT tb (cM C) ht (cb C) r) c2) (PF : ce_M_perform n uc = pfD n (zsI uc 34 13 (nI (cM C r + 1))) (nI c) (nI x) wd) : Rp (rf_run_L57 n (m + 1) ur (nI lim) (nI r) (-1)) (ce_M_execute_L40 n (m' + 1) uc (lN (2400 * (lim + 1))) (lN ta)) (kFin C) := by
  have tk := k_tick Q h hta
  obtain ⟨u1, hu1⟩ : ∃ u1, zsI uc 34 13 (nI (cM C r + 1)) = u1 := ⟨_, rfl⟩
  have c13 : fT tgC [12] uc u1 := by rw [← hu1]; exact fT_I (fT_rf _ _ _) _ 12 rfl (by decide)
  have g1 := h.1.ctl c13
  obtain ⟨g, h2, h3, h4, h5, h6, h7, h8⟩ := h
  have hb := kB_le fr h3
  have hD := g.D
  have hcc := kM_le Q (r := cr) (Nat.le_refl _)
  have hcr := kM_mono Q 0 cr (by omega) (Nat.le_refl _)
  have hr4 : r < 4000 := by omega
  have F8 : cF C ≤ 8 := P.2.2.2.1.1
  obtain ⟨rfl, yx, y0, y1, y2, y3⟩ := insC_17.mp i11
  subst yx
  subst wdq
  have qe : kQp C r = cM C r := if_neg (by rw [e0]; decide)
  have B1 : kBs C ur u1 := g1.1
  obtain ⟨pp, pz, p12⟩ := B1.p P
  -- the fn
  obtain ⟨f, hf, f1, f2⟩ := Q.2.2.2.2.1 r h2 e0
  obtain ⟨q, nn, q1, q2, q3, q4, q5, q6, q7⟩ := Q.2.2.2.1 f hf
  have ef : zI ur 11 r = nI f := (B1.r (show tgR 11 r = 0 from rfl)).trans f1
  have ex : nI x = nI f := e11.symm.trans ef
  have eb : nI b = nI nn := by rw [← e12, B1.r (show tgR 12 r = 0 from rfl), f2, q6]
  have ebn : b = nn := (nI_eq (by omega) (by omega)).mp eb
  rw [ex, hu1] at PF
  have s15 : zI u1 34 15 = nI T := g1.2.2.2.2.2.2.2.2.2.2.2.2.1
  have s55 : zI ur 0 55 = nI T := g1.2.2.2.2.2.2.2.2.2.2.2.1
  have s14 : zI u1 34 14 = nI lim := (fT_i g1.1.2 (by decide) (show tgC 34 14 = 0 from rfl)).trans i14
  have s17 : zI u1 34 17 = -1 := by rw [← hu1, gI_sI, if_neg (by omega)]; exact h8
  have s13 : zI u1 34 13 = nI (cM C (r + 1)) := by rw [← hu1, y1]; rfl
  have hr1 : r + 1 < cr := by
    by_cases x : r + 1 = cr
    · have := Q.1.2.2.2.2.2.1
      rw [x] at y3
      omega
    · omega
  have isf := ck_isFn n (p := xp (cX C)) (F := cF C) (u := u1) (by rw [B1.c (by omega) (by omega)]; exact P.2.2.2.1.2) (by omega) hf
  rw [r_L57 n hr4 (by omega) e10, if_pos (Or.inr rfl), c_go n hl (by omega) h8, PF, pf_20]
  unfold rf_run_J82
  rw [s55]
  obtain ⟨m', rfl⟩ : ∃ k, m' = k + 1 := ⟨m' - 1, by omega⟩
  obtain ⟨m, rfl⟩ : ∃ k, m = k + 1 := ⟨m - 1, by omega⟩
  by_cases y : T = lim
  · -- spent
    rw [if_pos (by rw [y])]
    have ee : ce_M_enter n u1 (nI f) (nI w) = some ((), zsI u1 34 17 2) := by
      unfold ce_M_enter
      rw [pp, pz, zgd_t]
      simp only [zlet]
      rw [zbd_e isf, if_neg (by decide)]
      have et : ce_M_takeStep n u1 = some (0, zsI u1 34 17 2) := by
        unfold ce_M_takeStep
        rw [s15, s14, if_neg (nI_nlt (by omega) (by omega))]
        rfl
      rw [zbd_e et, if_pos rfl]
    rw [zbd_e ee, c_end n (show ¬ zI (zsI u1 34 17 2) 34 17 = -1 from by rw [gI_sI, if_pos ⟨rfl, rfl⟩]; decide)]
    have G : fT tgC [12] u1 (zsI u1 34 17 2) := fT_I (fT_rf _ _ _) _ 12 rfl (by decide)
    exact rp_end ⟨rfl, g.1.1, fT_tr g1.1.2 (fT_mono G (by decide)), W, T, kOt_k g1.2.2.2.2 (fT_rf tgR [12] ur) G (fun t a b => by simp; omega)⟩
  · rw [if_neg (fun e => y ((nI_eq (by omega) (by omega)).mp e)), nI_1]
    simp only [zlet]
    unfold rf_run_J102
    rw [if_pos (show nI 17 = (17 : Int32) from rfl), show zI (zsI ur 0 55 (nI (T + 1))) 0 52 = nI fr.length from by rw [gI_sI, if_neg (by omega)]; exact g.Dr, zin_nI hr4 (by decide), zx_nI (show r < 2 ^ 31 by omega), show zI (zsI ur 0 55 (nI (T + 1))) 13 r = nI w from by rw [gI_sI, if_neg (by omega)]; exact e13, show zI (zsI ur 0 55 (nI (T + 1))) 11 r = nI f from by rw [gI_sI, if_neg (by omega)]; exact ef, show zI (zsI ur 0 55 (nI (T + 1))) 12 r = nI b from by rw [gI_sI, if_neg (by omega)]; exact e12, nI_1]
    by_cases d : fr.length = 12
    · -- too deep
      rw [if_pos (by rw [d]; rfl), zgd_t]
      have g2 := kGd_st g1
      have ee : ce_M_enter n u1 (nI f) (nI w) = some ((), failS (zsI u1 34 15 (nI (T + 1))) 5 (nI w)) := by
        unfold ce_M_enter
        rw [pp, pz, zgd_t]
        simp only [zlet]
        rw [zbd_e isf, if_neg (by decide)]
        have et : ce_M_takeStep n u1 = some (1, zsI u1 34 15 (nI (T + 1))) := by
          unfold ce_M_takeStep
          rw [s15, s14, if_pos (nI_lt (by omega) (by omega)), nI_1]
          rfl
        rw [zbd_e et, if_neg (by decide), g2.Dc, d, if_neg (by decide), zbd_u]
        rfl
      obtain ⟨wr, e1, q⟩ := kQ_f0 (t' := 0) (c := 0) n g2 (fT_rf _ _ _) (fT_rf _ _ _) 5 (nI w)
      rw [zbd_e e1, zbd_e ee, r_end n (by decide), c_end n (show ¬ zI (failS (zsI u1 34 15 (nI (T + 1))) 5 (nI w)) 34 17 = -1 from by show ¬ (1 : Int32) = -1; decide)]
      obtain ⟨z1, z2, z3⟩ := q
      rcases z3 with ⟨z3, -⟩ | ⟨-, z4, V, z5⟩
      · exact absurd z3 (by decide)
      · exact rp_end ⟨rfl, fT_tr g2.1.1 z1, fT_tr g2.1.2 z2, V, T + 1, z5⟩
    · -- it is entered
      rw [if_neg (show ¬ nI fr.length = (12 : Int32) from fun e => d ((nI_eq (b := 12) (by omega) (by decide)).mp e)), zgd_t, zgd_t]
      obtain ⟨V, vr, vc, er, ec, FF, GG, kg, k17, k13, k30, kM, kP⟩ := o_call n hn P (r := r) (b := b) (f := f) g1 (show T < lim by omega) hl s14 (by omega) hf y0 (by omega) (by rw [B1.c (by omega) (by omega), q7, ebn]) hr4 s13 (nI w)
      rw [zbd_e er, zbd_e ec, kg.Dr]
      have B3 : kBs C vr vc := kg.1
      rw [zin_nI (show ((r + 1) :: fr).length < 14 by show fr.length + 1 < 14; omega) (by decide), zgd_t, zx_nI (show ((r + 1) :: fr).length < 2 ^ 31 by show fr.length + 1 < 2 ^ 31; omega), show zI vr 30 ((r + 1) :: fr).length = nI f from k30, zin_nI (show f < 9 by omega) (by decide), zgd_t, zx_nI (show f < 2 ^ 31 by omega), show zI vr 15 f = nI q from (B3.r (show tgR 15 f = 0 from rfl)).trans q3]
      have htb := Q.1.2.2.2.1
      have hqc : q < cr := by
        by_cases x : q = cr
        · have := Q.1.2.2.2.2.2.1
          rw [← x] at this
          omega
        · omega
      have hz := Q.2.2.2.2.2.1
      have hqz : q < z := by
        obtain ⟨q', y1', y2'⟩ := Q.2.2.2.2.2.2.2.1 f hf
        have := (nI_eq (by omega) (by omega)).mp (q3.symm.trans y2')
        omega
      obtain ⟨-, -, -, -, -, -, -, -, -, -, -, -, -, -, -, -, j10, -⟩ := Q.2.1 (r + 1) hr1
      have qn := (kQp_le Q (r := q) (by omega)).2
      refine H V ((r + 1) :: fr) (T + 1) q (ta + 1) (m + 1) (m' + 1) vr vc ⟨?_, hqc, ⟨hr1, by omega, j10, fun yy => k_zn Q (lim := lim) h4 e0 (by omega) (by omega) yy, h3⟩, fun _ => hqz, ?_, by omega, ?_, k17.trans s17⟩ ?_ (by omega) hm hm'
      · have e : kB ht ((r + 1) :: fr) + (ht q - 1) = kB ht fr + (ht r - 1) - b := by
          show kB ht fr + (ht (r + 1) - 2) + (ht q - 1) = _
          omega
        rw [e]; exact kg
      · have e1 : ((r + 1) :: fr).length = fr.length + 1 := rfl
        rw [e1]
        omega
      · rw [k13, B1.c (by omega) (by omega)]; exact q4
      · have e1 : ((r + 1) :: fr).length = fr.length + 1 := rfl
        have e2 : kSp (cM C) ((r + 1) :: fr) = kSp (cM C) fr + cM C (r + 1) := rfl
        rw [e1, e2]
        rw [qe] at hta
        exact tick_call hta y1
/-- the loop -/
theorem k_loop (n : Nat) (hn : 20000 ≤ n) {C : kC} (P : kPs C) {cr cc tb z lim : Nat} {ht : Nat → Nat} (Q : kPc C cr cc tb z ht) (hl : lim ≤ 20000) (i14 : zI (cv C) 34 14 = nI lim) : ∀ d mu, mu ≤ d → kLp n C cr z lim ht mu := by
  intro d
  induction d with
  | zero =>
    intro mu hmu W fr T r ta m m' ur uc h hta h1 h2 h3
    have := k_tick Q h hta
    omega
  | succ d ih =>
    intro mu hd W fr T r ta m m' ur uc h hta h1 h2 h3
    have tk := k_tick Q h hta
    obtain ⟨mu, rfl⟩ : ∃ k, mu = k + 1 := ⟨mu - 1, by omega⟩
    have H : ∀ mu', mu' ≤ mu → kLp n C cr z lim ht mu' := fun mu' h' => ih mu' (by omega)
    have H0 := H mu (Nat.le_refl _)
    obtain ⟨m, rfl⟩ : ∃ k, m = k + 1 := ⟨m - 1, by omega⟩
    obtain ⟨m', rfl⟩ : ∃ k, m' = k + 1 := ⟨m' - 1, by omega⟩
    obtain ⟨o, a, b, c, x, c2, w, wd, ho, e0, e10, e11, e12, e13, i8, wdq, h60, i11, PF⟩ := k_ins P Q h n
    have hm : mu < m := by omega
    have hm' : mu < m' := by omega
    have : o = 0 ∨ o = 1 ∨ o = 2 ∨ o = 3 ∨ o = 4 ∨ o = 5 ∨ o = 6 ∨ o = 7 ∨ o = 8 ∨ o = 9 ∨ o = 10 ∨ o = 11 ∨ o = 12 ∨ o = 13 ∨ o = 14 ∨ o = 15 ∨ o = 16 ∨ o = 17 ∨ o = 18 ∨ o = 19 ∨ o = 20 ∨ o = 21 ∨ o = 22 ∨ o = 23 := by omega
    rcases this with rfl | rfl | rfl | rfl | rfl | rfl | rfl | rfl | rfl | rfl | rfl | rfl | rfl | rfl | rfl | rfl | rfl | rfl | rfl | rfl | rfl | rfl | rfl | rfl
    · exact kd_0 n P Q hl i14 H0 h hta h1 hm hm' e0 e10 h60 i11 PF
    · exact kd_1 n hn P Q hl H0 h hta h1 hm hm' e0 e10 e11 e12 e13 wdq h60 i11 PF
    · exact kd_2 n hn P Q hl H0 h hta h1 hm hm' e0 e10 e11 e12 e13 wdq h60 i11 PF
    · exact kd_3 n hn P Q hl H0 h hta h1 hm hm' e0 e10 e11 e12 e13 wdq h60 i11 PF
    · exact kd_4 n hn P Q hl H0 h hta h1 hm hm' e0 e10 e11 e12 e13 wdq h60 i11 PF
    · exact kd_5 n hn P Q hl H0 h hta h1 hm hm' e0 e10 e11 e12 e13 wdq h60 i11 PF
    · exact kd_6 n hn P Q hl H0 h hta h1 hm hm' e0 e10 e11 e12 e13 wdq h60 i11 PF
    · exact kd_7 n hn P Q hl H0 h hta h1 hm hm' e0 e10 e11 e12 e13 wdq h60 i11 PF
    · exact kd_8 n hn P Q hl H0 h hta h1 hm hm' e0 e10 e11 e12 e13 wdq h60 i11 PF
    · exact kd_9 n hn P Q hl H0 h hta h1 hm hm' e0 e10 e11 e12 e13 wdq h60 i11 PF
    · exact kd_10 n hn P Q hl H0 h hta h1 hm hm' e0 e10 e11 e12 e13 wdq h60 i11 PF
    · exact kd_11 n hn P Q hl H0 h hta h1 hm hm' e0 e10 e11 e12 e13 wdq h60 i11 PF
    · exact kd_12 n hn P Q hl H h hta h1 hm hm' e0 e10 e11 e13 (fun q => ⟨(i8 q).1, (i8 q).2 rfl⟩) (fun q => wdq (Or.inr ⟨rfl, q⟩)) h60 i11 PF
    · exact kd_13 n hn P Q hl H0 h hta h1 hm hm' e0 e10 e11 e12 e13 wdq h60 i11 PF
    · exact kd_14 n hn P Q hl H0 h hta h1 hm hm' e0 e10 e11 e12 e13 wdq h60 i11 PF
    · exact kd_15 n hn P Q hl H0 h hta h1 hm hm' e0 e10 e11 e12 e13 wdq h60 i11 PF
    · exact kd_16 n hn P Q hl H0 h hta h1 hm hm' e0 e10 e11 e12 e13 wdq h60 i11 PF
    · exact kd_17 n hn P Q hl i14 H0 h hta h1 hm hm' e0 e10 e11 e12 e13 (wdq (Or.inl (by unfold plc; omega))) h60 i11 PF
    · exact kd_18 n hn P Q hl H0 h hta h1 hm hm' e0 e10 e11 e12 e13 wdq h60 i11 PF
    · exact kd_19 n P Q hl H0 h hta h1 hm hm' e10 i11 PF
    · exact kd_20 n hn P Q hl H0 h hta h1 hm hm' e0 e10 e11 e12 e13 wdq h60 i11 PF
    · exact kd_21 n P Q hl H0 h hta h1 hm hm' e0 e10 e11 e13 (wdq (Or.inl (by unfold plc; omega))) i11 PF
    · exact kd_22 n P Q hl H0 h hta h1 hm hm' e0 e10 e11 i11 PF
    · exact kd_23 n P Q hl H h hta h1 hm hm' e10 (fun q => (i8 q).1) i11 PF
