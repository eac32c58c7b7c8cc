/-! RUNNING: all instructions that do -/
/-- what is known of instruction r -/
theorem k_ins {C : kC} (P : kPs C) {cr cc tb z lim : Nat} {ht : Nat → Nat} (Q : kPc C cr cc tb z ht) {W : kW} {fr : List Nat} {T r : Nat} {ur uc : zMu} (h : kAt C cr z lim ht W fr T r ur uc) (n : Nat) : ∃ o a b c x c2 w wd, o ≤ 23 ∧ zI (cb C) 10 r = nI o ∧ zI ur 10 r = nI o ∧ zI ur 11 r = nI a ∧ zI ur 12 r = nI b ∧ zI ur 13 r = nI w ∧ (cM C (r + 1) = cM C r + 2 → zI uc (xp (cX C) + 1) (cM C r + 1) = nI c2 ∧ (o = 12 → zI uc (xp (cX C) + 3) (cM C r + 1) = nI w)) ∧ (plc o ∨ (o = 12 ∧ a = 1) → wd = nI w) ∧ ht r ≤ 60 ∧ insC 80 o a b c x (cM C r) (cM C (r + 1)) (ht r) (ht (r + 1)) (jT tb (cM C) ht (cb C) r) c2 ∧ ce_M_perform n uc = pfD n (zsI uc 34 13 (nI (cM C r + 1))) (nI c) (nI x) wd := by
  obtain ⟨g, h2, h3, h4, h5, h6, h7, h8⟩ := h
  have B : kBs C ur uc := g.1
  obtain ⟨pp, pz, p12⟩ := B.p P
  obtain ⟨o, a, b, c, x, c2, w, i1, i2, i3, i4, i5, i6, i7, i8, i9, i10, i11⟩ := Q.2.1 r h2
  have hM := kM_mono Q r cr (by omega) (Nat.le_refl _)
  have hcc := Q.1.2.1
  have hc2 := Q.1.2.2.2.2.1
  refine ⟨o, a, b, c, x, c2, w, zI uc (xp (cX C) + 3) (cM C r), insC_o i11, i1, (B.r (show tgR 10 r = 0 from rfl)).trans i1, (B.r (show tgR 11 r = 0 from rfl)).trans i2, (B.r (show tgR 12 r = 0 from rfl)).trans i3, (B.r (show tgR 13 r = 0 from rfl)).trans i4, fun q => ?_, fun q => (B.c (by omega) (by omega) _).trans (i9 q), i10, i11, ?_⟩
  · obtain ⟨y1, y2⟩ := i8 q
    exact ⟨(B.c (by omega) (by omega) _).trans y1, fun e => (B.c (by omega) (by omega) _).trans (y2 e)⟩
  · exact pf_eq n pp pz h7 (show cM C r < cc by omega) (by omega) ((B.c (by omega) (by omega) 3).trans Q.1.2.2.2.2.2.2) ((B.c (by omega) (by omega) _).trans i6) ((B.c (by omega) (by omega) _).trans i7) rfl
set_option maxHeartbeats 200000 in
theorem kd_1 (n : Nat) (hn : 20000 ≤ n) {C : kC} (P : kPs C) {cr cc tb z lim mu : Nat} {ht : Nat → Nat} (Q : kPc C cr cc tb z ht) (hl : lim ≤ 20000) (H : kLp n C cr z lim ht mu) {W : kW} {fr : List Nat} {T r ta m m' : Nat} {ur uc : zMu} (h : kAt C cr z lim ht W fr T r ur uc) (hta : ta + 2400 * fr.length ≤ 2400 * T + kSp (cM C) fr + kQp C r) (hmu : 2400 * (lim + 1) ≤ ta + (mu + 1)) (hm : mu < m) (hm' : mu < m') {a b c x c2 w : Nat} {wd : Int32} (e0 : zI (cb C) 10 r = nI 1) (e10 : zI ur 10 r = nI 1) (e11 : zI ur 11 r = nI a) (e12 : zI ur 12 r = nI b) (e13 : zI ur 13 r = nI w) (wdq : plc 1 ∨ (1 = 12 ∧ a = 1) → wd = nI w) (h60 : ht r ≤ 60) (i11 : insC 80 1 a b c x (cM C r) (cM C (r + 1)) (ht r) (ht (r + 1)) (jT tb (cM C) ht (cb C) r) c2) (PF : ce_M_perform n uc = pfD n (zsI uc 34 13 (nI (cM C r + 1))) (nI c) (nI x) wd) : Rp (rf_run_L57 n (m + 1) ur (nI lim) (nI r) (-1)) (ce_M_execute_L40 n (m' + 1) uc (lN (2400 * (lim + 1))) (lN ta)) (kFin C) := by
  have c13 : fT tgC [12] uc (zsI uc 34 13 (nI (cM C r + 1))) := fT_I (fT_rf _ _ _) _ 12 rfl (by decide)
  have g1 := h.1.ctl c13
  have h2 := h.2.1
  have hb := kB_le fr h.2.2.1
  have hD := h.1.D
  have h5 := h.2.2.2.2.1
  have h6 := h.2.2.2.2.2.1
  have hcc := kM_le Q (r := cr) (Nat.le_refl _)
  have hcr := kM_mono Q 0 cr (by omega) (Nat.le_refl _)
  have hr4 : r < 4000 := by omega
  obtain ⟨rfl, rfl, y1, y2, y3, y4⟩ := insC_1.mp i11
  obtain ⟨k, hk⟩ : ∃ k, kB ht fr + (ht r - 1) = k + 0 := ⟨kB ht fr + (ht r - 1) - 0, by omega⟩
  rw [hk] at g1
  refine k_do n P Q hl H (o := 1) (c := 0) h hta hmu hm hm' hr4 e10 (by omega) (by omega) (by omega) (by omega) (by omega) ?_
  rw [show kB ht fr + (ht (r + 1) - 1) = k + 1 by omega, rd_1 n ur hr4, e11, PF, pf_1]
  exact o_num n P g1 (by omega) y1
set_option maxHeartbeats 200000 in
theorem kd_2 (n : Nat) (hn : 20000 ≤ n) {C : kC} (P : kPs C) {cr cc tb z lim mu : Nat} {ht : Nat → Nat} (Q : kPc C cr cc tb z ht) (hl : lim ≤ 20000) (H : kLp n C cr z lim ht mu) {W : kW} {fr : List Nat} {T r ta m m' : Nat} {ur uc : zMu} (h : kAt C cr z lim ht W fr T r ur uc) (hta : ta + 2400 * fr.length ≤ 2400 * T + kSp (cM C) fr + kQp C r) (hmu : 2400 * (lim + 1) ≤ ta + (mu + 1)) (hm : mu < m) (hm' : mu < m') {a b c x c2 w : Nat} {wd : Int32} (e0 : zI (cb C) 10 r = nI 2) (e10 : zI ur 10 r = nI 2) (e11 : zI ur 11 r = nI a) (e12 : zI ur 12 r = nI b) (e13 : zI ur 13 r = nI w) (wdq : plc 2 ∨ (2 = 12 ∧ a = 1) → wd = nI w) (h60 : ht r ≤ 60) (i11 : insC 80 2 a b c x (cM C r) (cM C (r + 1)) (ht r) (ht (r + 1)) (jT tb (cM C) ht (cb C) r) c2) (PF : ce_M_perform n uc = pfD n (zsI uc 34 13 (nI (cM C r + 1))) (nI c) (nI x) wd) : Rp (rf_run_L57 n (m + 1) ur (nI lim) (nI r) (-1)) (ce_M_execute_L40 n (m' + 1) uc (lN (2400 * (lim + 1))) (lN ta)) (kFin C) := by
  have c13 : fT tgC [12] uc (zsI uc 34 13 (nI (cM C r + 1))) := fT_I (fT_rf _ _ _) _ 12 rfl (by decide)
  have g1 := h.1.ctl c13
  have h2 := h.2.1
  have hb := kB_le fr h.2.2.1
  have hD := h.1.D
  have h5 := h.2.2.2.2.1
  have h6 := h.2.2.2.2.2.1
  have hcc := kM_le Q (r := cr) (Nat.le_refl _)
  have hcr := kM_mono Q 0 cr (by omega) (Nat.le_refl _)
  have hr4 : r < 4000 := by omega
  obtain ⟨rfl, y2, y3, y4⟩ := insC_2.mp i11
  obtain ⟨k, hk⟩ : ∃ k, kB ht fr + (ht r - 1) = k + 0 := ⟨kB ht fr + (ht r - 1) - 0, by omega⟩
  rw [hk] at g1
  refine k_do n P Q hl H (o := 2) (c := 0) h hta hmu hm hm' hr4 e10 (by omega) (by omega) (by omega) (by omega) (by omega) ?_
  rw [show kB ht fr + (ht (r + 1) - 1) = k + 1 by omega, rd_2 n ur hr4, PF, pf_2]
  exact o_none n P g1 (by omega)
set_option maxHeartbeats 200000 in
theorem kd_3 (n : Nat) (hn : 20000 ≤ n) {C : kC} (P : kPs C) {cr cc tb z lim mu : Nat} {ht : Nat → Nat} (Q : kPc C cr cc tb z ht) (hl : lim ≤ 20000) (H : kLp n C cr z lim ht mu) {W : kW} {fr : List Nat} {T r ta m m' : Nat} {ur uc : zMu} (h : kAt C cr z lim ht W fr T r ur uc) (hta : ta + 2400 * fr.length ≤ 2400 * T + kSp (cM C) fr + kQp C r) (hmu : 2400 * (lim + 1) ≤ ta + (mu + 1)) (hm : mu < m) (hm' : mu < m') {a b c x c2 w : Nat} {wd : Int32} (e0 : zI (cb C) 10 r = nI 3) (e10 : zI ur 10 r = nI 3) (e11 : zI ur 11 r = nI a) (e12 : zI ur 12 r = nI b) (e13 : zI ur 13 r = nI w) (wdq : plc 3 ∨ (3 = 12 ∧ a = 1) → wd = nI w) (h60 : ht r ≤ 60) (i11 : insC 80 3 a b c x (cM C r) (cM C (r + 1)) (ht r) (ht (r + 1)) (jT tb (cM C) ht (cb C) r) c2) (PF : ce_M_perform n uc = pfD n (zsI uc 34 13 (nI (cM C r + 1))) (nI c) (nI x) wd) : Rp (rf_run_L57 n (m + 1) ur (nI lim) (nI r) (-1)) (ce_M_execute_L40 n (m' + 1) uc (lN (2400 * (lim + 1))) (lN ta)) (kFin C) := by
  have c13 : fT tgC [12] uc (zsI uc 34 13 (nI (cM C r + 1))) := fT_I (fT_rf _ _ _) _ 12 rfl (by decide)
  have g1 := h.1.ctl c13
  have h2 := h.2.1
  have hb := kB_le fr h.2.2.1
  have hD := h.1.D
  have h5 := h.2.2.2.2.1
  have h6 := h.2.2.2.2.2.1
  have hcc := kM_le Q (r := cr) (Nat.le_refl _)
  have hcr := kM_mono Q 0 cr (by omega) (Nat.le_refl _)
  have hr4 : r < 4000 := by omega
  obtain ⟨rfl, rfl, y1, y2, y3, y4⟩ := insC_3.mp i11
  obtain ⟨k, hk⟩ : ∃ k, kB ht fr + (ht r - 1) = k + 0 := ⟨kB ht fr + (ht r - 1) - 0, by omega⟩
  rw [hk] at g1
  refine k_do n P Q hl H (o := 3) (c := 0) h hta hmu hm hm' hr4 e10 (by omega) (by omega) (by omega) (by omega) (by omega) ?_
  rw [show kB ht fr + (ht (r + 1) - 1) = k + 1 by omega, rd_3 n ur hr4, e11, PF, pf_3]
  exact o_fetch n P g1 (by omega) y1
set_option maxHeartbeats 200000 in
theorem kd_4 (n : Nat) (hn : 20000 ≤ n) {C : kC} (P : kPs C) {cr cc tb z lim mu : Nat} {ht : Nat → Nat} (Q : kPc C cr cc tb z ht) (hl : lim ≤ 20000) (H : kLp n C cr z lim ht mu) {W : kW} {fr : List Nat} {T r ta m m' : Nat} {ur uc : zMu} (h : kAt C cr z lim ht W fr T r ur uc) (hta : ta + 2400 * fr.length ≤ 2400 * T + kSp (cM C) fr + kQp C r) (hmu : 2400 * (lim + 1) ≤ ta + (mu + 1)) (hm : mu < m) (hm' : mu < m') {a b c x c2 w : Nat} {wd : Int32} (e0 : zI (cb C) 10 r = nI 4) (e10 : zI ur 10 r = nI 4) (e11 : zI ur 11 r = nI a) (e12 : zI ur 12 r = nI b) (e13 : zI ur 13 r = nI w) (wdq : plc 4 ∨ (4 = 12 ∧ a = 1) → wd = nI w) (h60 : ht r ≤ 60) (i11 : insC 80 4 a b c x (cM C r) (cM C (r + 1)) (ht r) (ht (r + 1)) (jT tb (cM C) ht (cb C) r) c2) (PF : ce_M_perform n uc = pfD n (zsI uc 34 13 (nI (cM C r + 1))) (nI c) (nI x) wd) : Rp (rf_run_L57 n (m + 1) ur (nI lim) (nI r) (-1)) (ce_M_execute_L40 n (m' + 1) uc (lN (2400 * (lim + 1))) (lN ta)) (kFin C) := by
  have c13 : fT tgC [12] uc (zsI uc 34 13 (nI (cM C r + 1))) := fT_I (fT_rf _ _ _) _ 12 rfl (by decide)
  have g1 := h.1.ctl c13
  have h2 := h.2.1
  have hb := kB_le fr h.2.2.1
  have hD := h.1.D
  have h5 := h.2.2.2.2.1
  have h6 := h.2.2.2.2.2.1
  have hcc := kM_le Q (r := cr) (Nat.le_refl _)
  have hcr := kM_mono Q 0 cr (by omega) (Nat.le_refl _)
  have hr4 : r < 4000 := by omega
  obtain ⟨rfl, rfl, y1, y2, y3, y4⟩ := insC_4.mp i11
  obtain ⟨k, hk⟩ : ∃ k, kB ht fr + (ht r - 1) = k + 1 := ⟨kB ht fr + (ht r - 1) - 1, by omega⟩
  rw [hk] at g1
  refine k_do n P Q hl H (o := 4) (c := 0) h hta hmu hm hm' hr4 e10 (by omega) (by omega) (by omega) (by omega) (by omega) ?_
  rw [show kB ht fr + (ht (r + 1) - 1) = k + 0 by omega, rd_4 n ur hr4, e11, PF, pf_4]
  exact o_store n P g1 y1
set_option maxHeartbeats 200000 in
theorem kd_5 (n : Nat) (hn : 20000 ≤ n) {C : kC} (P : kPs C) {cr cc tb z lim mu : Nat} {ht : Nat → Nat} (Q : kPc C cr cc tb z ht) (hl : lim ≤ 20000) (H : kLp n C cr z lim ht mu) {W : kW} {fr : List Nat} {T r ta m m' : Nat} {ur uc : zMu} (h : kAt C cr z lim ht W fr T r ur uc) (hta : ta + 2400 * fr.length ≤ 2400 * T + kSp (cM C) fr + kQp C r) (hmu : 2400 * (lim + 1) ≤ ta + (mu + 1)) (hm : mu < m) (hm' : mu < m') {a b c x c2 w : Nat} {wd : Int32} (e0 : zI (cb C) 10 r = nI 5) (e10 : zI ur 10 r = nI 5) (e11 : zI ur 11 r = nI a) (e12 : zI ur 12 r = nI b) (e13 : zI ur 13 r = nI w) (wdq : plc 5 ∨ (5 = 12 ∧ a = 1) → wd = nI w) (h60 : ht r ≤ 60) (i11 : insC 80 5 a b c x (cM C r) (cM C (r + 1)) (ht r) (ht (r + 1)) (jT tb (cM C) ht (cb C) r) c2) (PF : ce_M_perform n uc = pfD n (zsI uc 34 13 (nI (cM C r + 1))) (nI c) (nI x) wd) : Rp (rf_run_L57 n (m + 1) ur (nI lim) (nI r) (-1)) (ce_M_execute_L40 n (m' + 1) uc (lN (2400 * (lim + 1))) (lN ta)) (kFin C) := by
  have c13 : fT tgC [12] uc (zsI uc 34 13 (nI (cM C r + 1))) := fT_I (fT_rf _ _ _) _ 12 rfl (by decide)
  have g1 := h.1.ctl c13
  have h2 := h.2.1
  have hb := kB_le fr h.2.2.1
  have hD := h.1.D
  have h5 := h.2.2.2.2.1
  have h6 := h.2.2.2.2.2.1
  have hcc := kM_le Q (r := cr) (Nat.le_refl _)
  have hcr := kM_mono Q 0 cr (by omega) (Nat.le_refl _)
  have hr4 : r < 4000 := by omega
  obtain ⟨rfl, yx, y1, y2, y3, y4⟩ := insC_5.mp i11
  rw [yx] at PF
  rw [wdq (Or.inl (by unfold plc; omega))] at PF
  obtain ⟨s, hs, es, ek⟩ := Q.2.2.1 r 5 h2 e0 (by omega) (by omega)
  have ea : a = s := (nI_eq (by omega) (by have := P.2.2.2.2.1.1; omega)).mp (e11.symm.trans ((kBs.r (C := C) h.1.1 (show tgR 11 r = 0 from rfl)).trans es))
  subst ea
  obtain ⟨k, hk⟩ : ∃ k, kB ht fr + (ht r - 1) = k + 1 := ⟨kB ht fr + (ht r - 1) - 1, by omega⟩
  rw [hk] at g1
  refine k_do n P Q hl H (o := 5) (c := 0) h hta hmu hm hm' hr4 e10 (by omega) (by omega) (by omega) (by omega) (by omega) ?_
  rw [show kB ht fr + (ht (r + 1) - 1) = k + 1 by omega, rd_5 n ur hr4, e11, e13, zbd_i, PF, pf_13]
  exact o_read n hn P g1 hs ek _
set_option maxHeartbeats 200000 in
theorem kd_6 (n : Nat) (hn : 20000 ≤ n) {C : kC} (P : kPs C) {cr cc tb z lim mu : Nat} {ht : Nat → Nat} (Q : kPc C cr cc tb z ht) (hl : lim ≤ 20000) (H : kLp n C cr z lim ht mu) {W : kW} {fr : List Nat} {T r ta m m' : Nat} {ur uc : zMu} (h : kAt C cr z lim ht W fr T r ur uc) (hta : ta + 2400 * fr.length ≤ 2400 * T + kSp (cM C) fr + kQp C r) (hmu : 2400 * (lim + 1) ≤ ta + (mu + 1)) (hm : mu < m) (hm' : mu < m') {a b c x c2 w : Nat} {wd : Int32} (e0 : zI (cb C) 10 r = nI 6) (e10 : zI ur 10 r = nI 6) (e11 : zI ur 11 r = nI a) (e12 : zI ur 12 r = nI b) (e13 : zI ur 13 r = nI w) (wdq : plc 6 ∨ (6 = 12 ∧ a = 1) → wd = nI w) (h60 : ht r ≤ 60) (i11 : insC 80 6 a b c x (cM C r) (cM C (r + 1)) (ht r) (ht (r + 1)) (jT tb (cM C) ht (cb C) r) c2) (PF : ce_M_perform n uc = pfD n (zsI uc 34 13 (nI (cM C r + 1))) (nI c) (nI x) wd) : Rp (rf_run_L57 n (m + 1) ur (nI lim) (nI r) (-1)) (ce_M_execute_L40 n (m' + 1) uc (lN (2400 * (lim + 1))) (lN ta)) (kFin C) := by
  have c13 : fT tgC [12] uc (zsI uc 34 13 (nI (cM C r + 1))) := fT_I (fT_rf _ _ _) _ 12 rfl (by decide)
  have g1 := h.1.ctl c13
  have h2 := h.2.1
  have hb := kB_le fr h.2.2.1
  have hD := h.1.D
  have h5 := h.2.2.2.2.1
  have h6 := h.2.2.2.2.2.1
  have hcc := kM_le Q (r := cr) (Nat.le_refl _)
  have hcr := kM_mono Q 0 cr (by omega) (Nat.le_refl _)
  have hr4 : r < 4000 := by omega
  obtain ⟨rfl, yx, y1, y2, y3, y4⟩ := insC_6.mp i11
  rw [yx] at PF
  rw [wdq (Or.inl (by unfold plc; omega))] at PF
  obtain ⟨s, hs, es, ek⟩ := Q.2.2.1 r 6 h2 e0 (by omega) (by omega)
  have ea : a = s := (nI_eq (by omega) (by have := P.2.2.2.2.1.1; omega)).mp (e11.symm.trans ((kBs.r (C := C) h.1.1 (show tgR 11 r = 0 from rfl)).trans es))
  subst ea
  obtain ⟨k, hk⟩ : ∃ k, kB ht fr + (ht r - 1) = k + 2 := ⟨kB ht fr + (ht r - 1) - 2, by omega⟩
  rw [hk] at g1
  refine k_do n P Q hl H (o := 6) (c := 1) h hta hmu hm hm' hr4 e10 (by omega) (by omega) (by omega) (by omega) (by omega) ?_
  rw [show kB ht fr + (ht (r + 1) - 1) = k + 0 by omega, rd_6 n ur hr4, e11, e13, zbd_i, PF, pf_14]
  exact o_put n hn P g1 hs ek (by omega) _
set_option maxHeartbeats 200000 in
theorem kd_7 (n : Nat) (hn : 20000 ≤ n) {C : kC} (P : kPs C) {cr cc tb z lim mu : Nat} {ht : Nat → Nat} (Q : kPc C cr cc tb z ht) (hl : lim ≤ 20000) (H : kLp n C cr z lim ht mu) {W : kW} {fr : List Nat} {T r ta m m' : Nat} {ur uc : zMu} (h : kAt C cr z lim ht W fr T r ur uc) (hta : ta + 2400 * fr.length ≤ 2400 * T + kSp (cM C) fr + kQp C r) (hmu : 2400 * (lim + 1) ≤ ta + (mu + 1)) (hm : mu < m) (hm' : mu < m') {a b c x c2 w : Nat} {wd : Int32} (e0 : zI (cb C) 10 r = nI 7) (e10 : zI ur 10 r = nI 7) (e11 : zI ur 11 r = nI a) (e12 : zI ur 12 r = nI b) (e13 : zI ur 13 r = nI w) (wdq : plc 7 ∨ (7 = 12 ∧ a = 1) → wd = nI w) (h60 : ht r ≤ 60) (i11 : insC 80 7 a b c x (cM C r) (cM C (r + 1)) (ht r) (ht (r + 1)) (jT tb (cM C) ht (cb C) r) c2) (PF : ce_M_perform n uc = pfD n (zsI uc 34 13 (nI (cM C r + 1))) (nI c) (nI x) wd) : Rp (rf_run_L57 n (m + 1) ur (nI lim) (nI r) (-1)) (ce_M_execute_L40 n (m' + 1) uc (lN (2400 * (lim + 1))) (lN ta)) (kFin C) := by
  have c13 : fT tgC [12] uc (zsI uc 34 13 (nI (cM C r + 1))) := fT_I (fT_rf _ _ _) _ 12 rfl (by decide)
  have g1 := h.1.ctl c13
  have h2 := h.2.1
  have hb := kB_le fr h.2.2.1
  have hD := h.1.D
  have h5 := h.2.2.2.2.1
  have h6 := h.2.2.2.2.2.1
  have hcc := kM_le Q (r := cr) (Nat.le_refl _)
  have hcr := kM_mono Q 0 cr (by omega) (Nat.le_refl _)
  have hr4 : r < 4000 := by omega
  obtain ⟨rfl, yx, y1, y2, y3, y4⟩ := insC_7.mp i11
  rw [yx] at PF
  rw [wdq (Or.inl (by unfold plc; omega))] at PF
  obtain ⟨s, hs, es, ek⟩ := Q.2.2.1 r 7 h2 e0 (by omega) (by omega)
  have ea : a = s := (nI_eq (by omega) (by have := P.2.2.2.2.1.1; omega)).mp (e11.symm.trans ((kBs.r (C := C) h.1.1 (show tgR 11 r = 0 from rfl)).trans es))
  subst ea
  obtain ⟨k, hk⟩ : ∃ k, kB ht fr + (ht r - 1) = k + 1 := ⟨kB ht fr + (ht r - 1) - 1, by omega⟩
  rw [hk] at g1
  refine k_do n P Q hl H (o := 7) (c := 0) h hta hmu hm hm' hr4 e10 (by omega) (by omega) (by omega) (by omega) (by omega) ?_
  rw [show kB ht fr + (ht (r + 1) - 1) = k + 0 by omega, rd_7 n ur hr4, e11, e13, zbd_i, PF, pf_15]
  exact o_strike n hn P g1 hs ek _
set_option maxHeartbeats 200000 in
theorem kd_8 (n : Nat) (hn : 20000 ≤ n) {C : kC} (P : kPs C) {cr cc tb z lim mu : Nat} {ht : Nat → Nat} (Q : kPc C cr cc tb z ht) (hl : lim ≤ 20000) (H : kLp n C cr z lim ht mu) {W : kW} {fr : List Nat} {T r ta m m' : Nat} {ur uc : zMu} (h : kAt C cr z lim ht W fr T r ur uc) (hta : ta + 2400 * fr.length ≤ 2400 * T + kSp (cM C) fr + kQp C r) (hmu : 2400 * (lim + 1) ≤ ta + (mu + 1)) (hm : mu < m) (hm' : mu < m') {a b c x c2 w : Nat} {wd : Int32} (e0 : zI (cb C) 10 r = nI 8) (e10 : zI ur 10 r = nI 8) (e11 : zI ur 11 r = nI a) (e12 : zI ur 12 r = nI b) (e13 : zI ur 13 r = nI w) (wdq : plc 8 ∨ (8 = 12 ∧ a = 1) → wd = nI w) (h60 : ht r ≤ 60) (i11 : insC 80 8 a b c x (cM C r) (cM C (r + 1)) (ht r) (ht (r + 1)) (jT tb (cM C) ht (cb C) r) c2) (PF : ce_M_perform n uc = pfD n (zsI uc 34 13 (nI (cM C r + 1))) (nI c) (nI x) wd) : Rp (rf_run_L57 n (m + 1) ur (nI lim) (nI r) (-1)) (ce_M_execute_L40 n (m' + 1) uc (lN (2400 * (lim + 1))) (lN ta)) (kFin C) := by
  have c13 : fT tgC [12] uc (zsI uc 34 13 (nI (cM C r + 1))) := fT_I (fT_rf _ _ _) _ 12 rfl (by decide)
  have g1 := h.1.ctl c13
  have h2 := h.2.1
  have hb := kB_le fr h.2.2.1
  have hD := h.1.D
  have h5 := h.2.2.2.2.1
  have h6 := h.2.2.2.2.2.1
  have hcc := kM_le Q (r := cr) (Nat.le_refl _)
  have hcr := kM_mono Q 0 cr (by omega) (Nat.le_refl _)
  have hr4 : r < 4000 := by omega
  obtain ⟨yb, yx, y1, y2, y3, y4⟩ := insC_8.mp i11
  rw [yx] at PF
  rw [wdq (Or.inl (by unfold plc; omega))] at PF
  obtain ⟨s, hs, es, ek⟩ := Q.2.2.1 r 8 h2 e0 (by omega) (by omega)
  have ea : a = s := (nI_eq (by omega) (by have := P.2.2.2.2.1.1; omega)).mp (e11.symm.trans ((kBs.r (C := C) h.1.1 (show tgR 11 r = 0 from rfl)).trans es))
  subst ea
  obtain ⟨k, hk⟩ : ∃ k, kB ht fr + (ht r - 1) = k + 2 := ⟨kB ht fr + (ht r - 1) - 2, by omega⟩
  rw [hk] at g1
  refine k_do n P Q hl H (o := 8) (c := 0) h hta hmu hm hm' hr4 e10 (by omega) (by omega) (by omega) (by omega) (by omega) ?_
  rw [show kB ht fr + (ht (r + 1) - 1) = k + 1 by omega, rd_8 n ur hr4, zin_nI hr4 (by decide), zgd_t, zx_nI (show r < 2 ^ 31 by omega), e11, e12, e13, zbd_i, PF]
  have := o_sum n (by omega) P (cc := 0) g1 hs ek yb (nI w)
  rcases yb with ⟨-, rfl⟩ | ⟨-, rfl⟩ | ⟨-, rfl⟩
  · rw [pf_7]; exact this
  · rw [pf_8]; exact this
  · rw [pf_9]; exact this
