/-! RUNNING: returns, ends -/
/-- both go back from a call -/
theorem kGd_ret {C : kC} {W : kW} {fr : List Nat} {T t r' : Nat} {ur uc : zMu} (h : kGd C W (r' :: fr) T t ur uc) : kGd C W fr T t (zsI ur 0 52 (nI fr.length)) (zsI (zsI uc 34 11 (nI fr.length)) 34 13 (nI (cM C r'))) ∧ zI ur 29 (fr.length + 1) = nI r' ∧ zI uc 35 fr.length = nI (cM C r') ∧ fr.length < 12 := by
  obtain ⟨hPp, hOb, hMb, hSh, hRw, hSi, hFn, hCt⟩ := h.2.2.2.2
  have F : fT tgR [3, 12] ur (zsI ur 0 52 (nI fr.length)) := fT_I (fT_rf _ _ _) _ 3 rfl (by decide)
  have G : fT tgC [3, 12] uc (zsI (zsI uc 34 11 (nI fr.length)) 34 13 (nI (cM C r'))) := fT_I (fT_I (fT_rf _ _ _) _ 3 rfl (by decide)) _ 12 rfl (by decide)
  obtain ⟨q1, q2, q3, q4, q5, q6⟩ := h.2.2.2.1
  have q1 : fr.length + 1 ≤ 12 := q1
  obtain ⟨v1, v2, v3, v4⟩ := kVa_k h.2.2.1 F G (by decide)
  refine ⟨⟨⟨fT_tr h.1.1 (fT_mono F (by decide)), fT_tr h.1.2 (fT_mono G (by decide))⟩, kSt_k h.2.1 F G (by decide), ⟨by omega, v2, v3, fun j hj => v4 j (by show j < 12 * (fr.length + 1 + 1); omega)⟩, ⟨by omega, rfl, rfl, kFs_k fr (fun j hj => by rw [gI_sI, if_neg (by omega)]) (fun j hj => by rw [gI_sI, if_neg (by omega), gI_sI, if_neg (by omega)]) q6⟩, kOt_k h.2.2.2.2 F G (fun t a b => by simp; omega)⟩, q4, q5, by omega⟩
/-- the reference's and the class's return, the values being there: T ticks since -/
theorem k_ret (n : Nat) {C : kC} (P : kPs C) {cr cc tb z lim mu : Nat} {ht : Nat → Nat} (Q : kPc C cr cc tb z ht) (H : kLp n C cr z lim ht mu) {W : kW} {fr : List Nat} {T r ta ta0 m m' : Nat} {ur uc : zMu} (g : kGd C W fr T (kB ht fr + 1) ur uc) (h3 : kFo cr z ht fr) (h5 : wM W + wP W + fr.length ≤ T) (h6 : T ≤ lim) (h8 : zI uc 34 17 = -1) (hta : ta0 + 2400 * fr.length ≤ 2400 * T + kSp (cM C) fr + 2301) (ht2 : ta ≤ ta0 + 2) (hmu : 2400 * (lim + 1) ≤ ta + mu) (hm : mu < m) (hm' : mu < m') : Rp (rf_run_J197 n (rf_run_L57 n m) ur (nI lim) (nI r) (-1)) (zbd (ce_M_leave n uc) fun _ u5 => ce_M_execute_L40 n m' u5 (lN (2400 * (lim + 1))) (lN ta)) (kFin C) := by
  obtain ⟨m, rfl⟩ : ∃ k, m = k + 1 := ⟨m - 1, by omega⟩
  obtain ⟨m', rfl⟩ : ∃ k, m' = k + 1 := ⟨m' - 1, by omega⟩
  unfold rf_run_J197 ce_M_leave
  rw [g.Dr, g.Dc]
  cases fr with
  | nil =>
    rw [if_pos (show nI ([] : List Nat).length = 0 from rfl), if_pos (show nI ([] : List Nat).length = 0 from rfl)]
    show Rp (rf_run_L57 n (m + 1) ur (nI lim) (nI r) 0) (ce_M_execute_L40 n (m' + 1) (zsI uc 34 17 0) _ _) _
    rw [r_end n (by decide), c_end n (show ¬ zI (zsI uc 34 17 0) 34 17 = -1 from by rw [gI_sI, if_pos ⟨rfl, rfl⟩]; decide)]
    have G : fT tgC [12] uc (zsI uc 34 17 0) := fT_I (fT_rf _ _ _) _ 12 rfl (by decide)
    exact rp_end ⟨rfl, g.1.1, fT_tr g.1.2 (fT_mono G (by decide)), W, T, kOt_k g.2.2.2.2 (fT_rf tgR [12] ur) G (fun t a b => by simp; omega)⟩
  | cons r' l =>
    obtain ⟨k1, k2, k3, k4⟩ := kGd_ret g
    obtain ⟨f1, f2, f3, f4, f5⟩ := h3
    have hD : l.length + 1 ≤ 12 := g.D
    have e0 : ¬ nI (r' :: l).length = (0 : Int32) := fun e => absurd ((nI_eq (a := l.length + 1) (b := 0) (by omega) (by decide)).mp e) (by omega)
    rw [if_neg e0, if_neg e0]
    simp only [zlet]
    rw [show nI (r' :: l).length - 1 = nI l.length from nI_pred l.length, show nI (r' :: l).length = nI (l.length + 1) from rfl, zin_nI (show l.length + 1 < 14 by omega) (by decide), zgd_t, zx_nI (show l.length + 1 < 2 ^ 31 by omega), show zI (zsI ur 0 52 (nI l.length)) 29 (l.length + 1) = nI r' from by rw [gI_sI, if_neg (by omega)]; exact k2, show zI (zsI uc 34 11 (nI l.length)) 34 11 = nI l.length from rfl, zin_nI (show l.length < 12 by omega) (by decide), zgd_t, zx_nI (show l.length < 2 ^ 31 by omega), show zI (zsI uc 34 11 (nI l.length)) 35 l.length = nI (cM C r') from by rw [gI_sI, if_neg (by omega)]; exact k3]
    show Rp (rf_run_L57 n (m + 1) (zsI ur 0 52 (nI l.length)) (nI lim) (nI r') (-1)) (ce_M_execute_L40 n (m' + 1) (zsI (zsI uc 34 11 (nI l.length)) 34 13 (nI (cM C r'))) _ _) _
    have qn := (kQp_le Q (r := r') (by omega)).2
    refine H W l T r' ta (m + 1) (m' + 1) _ _ ⟨?_, f1, f5, f4, ?_, h6, rfl, ?_⟩ ?_ hmu hm hm'
    · have e : kB ht (r' :: l) + 1 = kB ht l + (ht r' - 1) := by
        show kB ht l + (ht r' - 2) + 1 = _
        omega
      rw [← e]; exact k1
    · have h5 : wM W + wP W + (l.length + 1) ≤ T := h5
      omega
    · rw [gI_sI, if_neg (by omega), gI_sI, if_neg (by omega)]; exact h8
    · have hta : ta0 + 2400 * (l.length + 1) ≤ 2400 * T + (kSp (cM C) l + cM C r') + 2301 := hta
      omega
theorem kd_19 (n : Nat) {C : kC} (P : kPs C) {cr cc tb z lim mu : Nat} {ht : Nat → Nat} (Q : kPc C cr cc tb z ht) (hl : lim ≤ 20000) (H : kLp n C cr z lim ht mu) {W : kW} {fr : List Nat} {T r ta m m' : Nat} {ur uc : zMu} (h : kAt C cr z lim ht W fr T r ur uc) (hta : ta + 2400 * fr.length ≤ 2400 * T + kSp (cM C) fr + kQp C r) (hmu : 2400 * (lim + 1) ≤ ta + (mu + 1)) (hm : mu < m) (hm' : mu < m') {a b c x c2 : Nat} {wd : Int32} (e10 : zI ur 10 r = nI 19) (i11 : insC 80 19 a b c x (cM C r) (cM C (r + 1)) (ht r) (ht (r + 1)) (jT tb (cM C) ht (cb C) r) c2) (PF : ce_M_perform n uc = pfD n (zsI uc 34 13 (nI (cM C r + 1))) (nI c) (nI x) wd) : Rp (rf_run_L57 n (m + 1) ur (nI lim) (nI r) (-1)) (ce_M_execute_L40 n (m' + 1) uc (lN (2400 * (lim + 1))) (lN ta)) (kFin C) := by
  have tk := k_tick Q h hta
  have c13 : fT tgC [12] uc (zsI uc 34 13 (nI (cM C r + 1))) := fT_I (fT_rf _ _ _) _ 12 rfl (by decide)
  have g1 := h.1.ctl c13
  obtain ⟨g, h2, h3, h4, h5, h6, h7, h8⟩ := h
  have hcr := kM_mono Q 0 cr (by omega) (Nat.le_refl _)
  have hcc := kM_le Q (r := cr) (Nat.le_refl _)
  have hr4 : r < 4000 := by omega
  obtain ⟨rfl, y1, y2, y3⟩ := insC_19.mp i11
  have qp := (kQp_le Q (r := r) (by omega)).1
  rw [r_L57 n hr4 (by omega) e10, if_neg (by omega), c_go n hl (by omega) h8, PF, pf_21]
  unfold rf_run_J102 rf_run_J184
  rw [if_neg (show ¬ nI 19 = (17 : Int32) from by decide), if_pos (show nI 19 = (19 : Int32) from rfl), if_neg (show ¬ nI 19 = (23 : Int32) from by decide)]
  rw [show kB ht fr + (ht r - 1) = kB ht fr + 1 by omega] at g1
  exact k_ret n P Q H (ta0 := ta) g1 h3 (by omega) h6 (by rw [gI_sI, if_neg (by omega)]; exact h8) (by omega) (by omega) (by omega) hm hm'
theorem kd_23 (n : Nat) {C : kC} (P : kPs C) {cr cc tb z lim mu : Nat} {ht : Nat → Nat} (Q : kPc C cr cc tb z ht) (hl : lim ≤ 20000) (H : ∀ mu', mu' ≤ mu → kLp n C cr z lim ht mu') {W : kW} {fr : List Nat} {T r ta m m' : Nat} {ur uc : zMu} (h : kAt C cr z lim ht W fr T r ur uc) (hta : ta + 2400 * fr.length ≤ 2400 * T + kSp (cM C) fr + kQp C r) (hmu : 2400 * (lim + 1) ≤ ta + (mu + 1)) (hm : mu < m) (hm' : mu < m') {a b c x c2 : Nat} {wd : Int32} (e10 : zI ur 10 r = nI 23) (i8 : cM C (r + 1) = cM C r + 2 → zI uc (xp (cX C) + 1) (cM C r + 1) = nI c2) (i11 : insC 80 23 a b c x (cM C r) (cM C (r + 1)) (ht r) (ht (r + 1)) (jT tb (cM C) ht (cb C) r) c2) (PF : ce_M_perform n uc = pfD n (zsI uc 34 13 (nI (cM C r + 1))) (nI c) (nI x) wd) : Rp (rf_run_L57 n (m + 1) ur (nI lim) (nI r) (-1)) (ce_M_execute_L40 n (m' + 1) uc (lN (2400 * (lim + 1))) (lN ta)) (kFin C) := by
  have tk := k_tick Q h hta
  obtain ⟨u1, hu1⟩ : ∃ u1, zsI uc 34 13 (nI (cM C r + 1)) = u1 := ⟨_, rfl⟩
  have c13 : fT tgC [12] uc u1 := by rw [← hu1]; exact fT_I (fT_rf _ _ _) _ 12 rfl (by decide)
  have g1 := h.1.ctl c13
  obtain ⟨g, h2, h3, h4, h5, h6, h7, h8⟩ := h
  have hcr := kM_mono Q 0 cr (by omega) (Nat.le_refl _)
  have hcc := kM_le Q (r := cr) (Nat.le_refl _)
  have hcm := kM_mono Q (r + 1) cr (by omega) (Nat.le_refl _)
  have hccc := Q.1.2.1
  have hr4 : r < 4000 := by omega
  have hb := kB_le fr h3
  have hD := g.D
  have qp := (kQp_le Q (r := r) (by omega)).1
  have s17 : zI u1 34 17 = -1 := by rw [← hu1, gI_sI, if_neg (by omega)]; exact h8
  have s13 : zI u1 34 13 = nI (cM C r + 1) := by rw [← hu1]; rfl
  rw [hu1] at PF
  have el : rf_run_L57 n (m + 1) ur (nI lim) (nI r) (-1) = zbd (rf_pushes n ur 0 0) fun _ u3 => rf_run_J197 n (rf_run_L57 n m) u3 (nI lim) (nI r) (-1) := by
    rw [r_L57 n hr4 (by omega) e10, if_neg (by omega)]
    unfold rf_run_J102 rf_run_J184
    rw [if_neg (show ¬ nI 23 = (17 : Int32) from by decide), if_neg (show ¬ nI 23 = (19 : Int32) from by decide), if_pos (show nI 23 = (23 : Int32) from rfl), if_pos (show nI 23 = (23 : Int32) from rfl)]
  rw [el]
  rcases insC_23.mp i11 with ⟨rfl, rfl, y1, y2, y3⟩ | ⟨rfl, y1, y2, y3⟩
  · -- the end of a fn
    have e2 := i8 y1
    rw [show kB ht fr + (ht r - 1) = kB ht fr by omega] at g1
    obtain ⟨v, ev, f, q1, q2, q3, q4⟩ := c_push n g1.vw g1.tc (g1.dy P) (by omega) (s := 0) (by omega) 0
    have st : kSt (wO W) (wR W) (kB ht fr + 1) (zsI (zsL (zsI ur 27 (kB ht fr) 0) 31 (kB ht fr) 0) 0 51 (nI (kB ht fr + 1))) v := by
      refine kSt_mk g1.2.1 (Nat.le_refl _) (by omega) rfl q1 q2 (fun j hj => ?_) (fun j hj => ?_) (fun j hj => ?_) (fun j hj => ?_) ?_
      · rw [gI_sI, if_neg (by omega), gI_sL, gI_sI, if_neg (by omega)]
      · rw [gL_sI, gL_sL, if_neg (by omega), gL_sI]
      · rw [q3, if_neg (by omega)]
      · rw [q4, if_neg (by omega)]
      · rw [q3, if_pos rfl, q4, if_pos rfl, gI_sI, if_neg (by omega), gI_sL, gI_sI, if_pos ⟨rfl, rfl⟩]
        exact vR_0 _ _ _
    have FR := kr_pushF (u := ur) (t := kB ht fr) 0 0
    have g2 : kGd C W fr T (kB ht fr + 1) (zsI (zsL (zsI ur 27 (kB ht fr) 0) 31 (kB ht fr) 0) 0 51 (nI (kB ht fr + 1))) v := ⟨⟨fT_tr g1.1.1 (fT_mono FR (by decide)), fT_tr g1.1.2 (fT_mono f (by decide))⟩, st, kVa_k g1.2.2.1 FR f (by decide), kFr_k g1.2.2.2.1 FR f (by decide), kOt_k g1.2.2.2.2 FR f (fun t a b => by simp; omega)⟩
    have B2 : kBs C (zsI (zsL (zsI ur 27 (kB ht fr) 0) 31 (kB ht fr) 0) 0 51 (nI (kB ht fr + 1))) v := g2.1
    obtain ⟨pp, pz, p12⟩ := B2.p P
    have v13 : zI v 34 13 = nI (cM C r + 1) := (fT_i f (by decide) (show tgC 34 13 = 12 from rfl)).trans s13
    have v17 : zI v 34 17 = -1 := (fT_i f (by decide) (show tgC 34 17 = 12 from rfl)).trans s17
    obtain ⟨m', rfl⟩ : ∃ k, m' = k + 1 := ⟨m' - 1, by omega⟩
    have pf2 := pf_eq n pp pz v13 (show cM C r + 1 < cc by omega) (by omega) ((B2.c (by omega) (by omega) 3).trans Q.1.2.2.2.2.2.2) (show zI v (xp (cX C) + 1) (cM C r + 1) = nI 21 from by
      have b1 := kBs.c (C := C) g.1 (a := xp (cX C) + 1) (by omega) (by omega) (cM C r + 1)
      rw [B2.c (by omega) (by omega), ← b1]; exact e2) rfl rfl
    rw [c_go n hl (by omega) h8, PF, pf_2, zbd_e (show ce_M_push n u1 0 0 = some ((), v) from ev)]
    refine rp_l (kr_push n g.tr (by omega) 0 0) ?_
    rw [c_go n hl (by omega) v17, pf2, pf_21]
    have cc2 : fT tgC [12] v (zsI v 34 13 (nI (cM C r + 1 + 1))) := fT_I (fT_rf _ _ _) _ 12 rfl (by decide)
    rw [show kB ht fr + (ht r - 1) = kB ht fr by omega]
    exact k_ret n P Q (H (mu - 1) (by omega)) (ta0 := ta) (g2.ctl cc2) h3 (by omega) h6 (by rw [gI_sI, if_neg (by omega)]; exact v17) (by omega) (by omega) (by omega) (by omega) (by omega)
  · -- the end of the main
    have rc : r + 1 = cr := by
      by_cases y : r + 1 = cr
      · exact y
      · obtain ⟨-, -, -, -, -, -, -, -, -, -, -, -, -, -, -, -, j10, -⟩ := Q.2.1 (r + 1) (by omega)
        omega
    have zc := Q.2.2.2.2.2.1
    have nil : fr = [] := by
      by_cases y : fr = []
      · exact y
      · have := h4 y
        omega
    subst nil
    rw [c_go n hl (by omega) h8, PF, pf_25]
    refine rp_l (kr_push n g.tr (by show kB ht [] + (ht r - 1) < 2200; simp [kB]; omega) 0 0) ?_
    obtain ⟨ua, hua⟩ : ∃ ua, zsI (zsL (zsI ur 27 (kB ht [] + (ht r - 1)) 0) 31 (kB ht [] + (ht r - 1)) 0) 0 51 (nI (kB ht [] + (ht r - 1) + 1)) = ua := ⟨_, rfl⟩
    have FR : fT tgR [1, 12] ur ua := by rw [← hua]; exact fT_mono (kr_pushF 0 0) (by decide)
    rw [hua]
    unfold rf_run_J197
    have d0 : zI ua 0 52 = 0 := (fT_i FR (by decide) (show tgR 0 52 = 3 from rfl)).trans g.Dr
    rw [if_pos d0]
    obtain ⟨m', rfl⟩ : ∃ k, m' = k + 1 := ⟨m' - 1, by omega⟩
    obtain ⟨m, rfl⟩ : ∃ k, m = k + 1 := ⟨m - 1, by omega⟩
    show Rp (rf_run_L57 n (m + 1) ua (nI lim) (nI r) 0) (ce_M_execute_L40 n (m' + 1) (zsI u1 34 17 0) _ _) _
    rw [r_end n (by decide), c_end n (show ¬ zI (zsI u1 34 17 0) 34 17 = -1 from by rw [gI_sI, if_pos ⟨rfl, rfl⟩]; decide)]
    have G : fT tgC [1, 12] u1 (zsI u1 34 17 0) := fT_I (fT_rf _ _ _) _ 12 rfl (by decide)
    exact rp_end ⟨rfl, fT_tr g.1.1 (fT_mono FR (by decide)), fT_tr g1.1.2 (fT_mono G (by decide)), W, T, kOt_k g1.2.2.2.2 FR G (fun t a b => by simp; omega)⟩
