/-! RUNNING: instructions that do, second -/
set_option maxHeartbeats 200000 in
theorem kd_9 (n : Nat) (hn : 20000 ≤ n) {C : kC} (P : kPs C) {cr cc tb z lim mu : Nat} {ht : Nat → Nat} (Q : kPc C cr cc tb z ht) (hl : lim ≤ 20000) (H : kLp n C cr z lim ht mu) {W : kW} {fr : List Nat} {T r ta m m' : Nat} {ur uc : zMu} (h : kAt C cr z lim ht W fr T r ur uc) (hta : ta + 2400 * fr.length ≤ 2400 * T + kSp (cM C) fr + kQp C r) (hmu : 2400 * (lim + 1) ≤ ta + (mu + 1)) (hm : mu < m) (hm' : mu < m') {a b c x c2 w : Nat} {wd : Int32} (e0 : zI (cb C) 10 r = nI 9) (e10 : zI ur 10 r = nI 9) (e11 : zI ur 11 r = nI a) (e12 : zI ur 12 r = nI b) (e13 : zI ur 13 r = nI w) (wdq : plc 9 ∨ (9 = 12 ∧ a = 1) → wd = nI w) (h60 : ht r ≤ 60) (i11 : insC 80 9 a b c x (cM C r) (cM C (r + 1)) (ht r) (ht (r + 1)) (jT tb (cM C) ht (cb C) r) c2) (PF : ce_M_perform n uc = pfD n (zsI uc 34 13 (nI (cM C r + 1))) (nI c) (nI x) wd) : Rp (rf_run_L57 n (m + 1) ur (nI lim) (nI r) (-1)) (ce_M_execute_L40 n (m' + 1) uc (lN (2400 * (lim + 1))) (lN ta)) (kFin C) := by
  have c13 : fT tgC [12] uc (zsI uc 34 13 (nI (cM C r + 1))) := fT_I (fT_rf _ _ _) _ 12 rfl (by decide)
  have g1 := h.1.ctl c13
  have h2 := h.2.1
  have hb := kB_le fr h.2.2.1
  have hD := h.1.D
  have h5 := h.2.2.2.2.1
  have h6 := h.2.2.2.2.2.1
  have hcc := kM_le Q (r := cr) (Nat.le_refl _)
  have hcr := kM_mono Q 0 cr (by omega) (Nat.le_refl _)
  have hr4 : r < 4000 := by omega
  obtain ⟨rfl, y2, y3, y4⟩ := insC_9.mp i11
  rw [wdq (Or.inl (by unfold plc; omega))] at PF
  obtain ⟨k, hk⟩ : ∃ k, kB ht fr + (ht r - 1) = k + 1 := ⟨kB ht fr + (ht r - 1) - 1, by omega⟩
  rw [hk] at g1
  refine k_do n P Q hl H (o := 9) (c := 0) h hta hmu hm hm' hr4 e10 (by omega) (by omega) (by omega) (by omega) (by omega) ?_
  rw [show kB ht fr + (ht (r + 1) - 1) = k + 1 by omega, rd_9 n ur hr4, e13, PF, pf_6]
  exact o_neg n P g1 _
set_option maxHeartbeats 200000 in
theorem kd_10 (n : Nat) (hn : 20000 ≤ n) {C : kC} (P : kPs C) {cr cc tb z lim mu : Nat} {ht : Nat → Nat} (Q : kPc C cr cc tb z ht) (hl : lim ≤ 20000) (H : kLp n C cr z lim ht mu) {W : kW} {fr : List Nat} {T r ta m m' : Nat} {ur uc : zMu} (h : kAt C cr z lim ht W fr T r ur uc) (hta : ta + 2400 * fr.length ≤ 2400 * T + kSp (cM C) fr + kQp C r) (hmu : 2400 * (lim + 1) ≤ ta + (mu + 1)) (hm : mu < m) (hm' : mu < m') {a b c x c2 w : Nat} {wd : Int32} (e0 : zI (cb C) 10 r = nI 10) (e10 : zI ur 10 r = nI 10) (e11 : zI ur 11 r = nI a) (e12 : zI ur 12 r = nI b) (e13 : zI ur 13 r = nI w) (wdq : plc 10 ∨ (10 = 12 ∧ a = 1) → wd = nI w) (h60 : ht r ≤ 60) (i11 : insC 80 10 a b c x (cM C r) (cM C (r + 1)) (ht r) (ht (r + 1)) (jT tb (cM C) ht (cb C) r) c2) (PF : ce_M_perform n uc = pfD n (zsI uc 34 13 (nI (cM C r + 1))) (nI c) (nI x) wd) : Rp (rf_run_L57 n (m + 1) ur (nI lim) (nI r) (-1)) (ce_M_execute_L40 n (m' + 1) uc (lN (2400 * (lim + 1))) (lN ta)) (kFin C) := by
  have c13 : fT tgC [12] uc (zsI uc 34 13 (nI (cM C r + 1))) := fT_I (fT_rf _ _ _) _ 12 rfl (by decide)
  have g1 := h.1.ctl c13
  have h2 := h.2.1
  have hb := kB_le fr h.2.2.1
  have hD := h.1.D
  have h5 := h.2.2.2.2.1
  have h6 := h.2.2.2.2.2.1
  have hcc := kM_le Q (r := cr) (Nat.le_refl _)
  have hcr := kM_mono Q 0 cr (by omega) (Nat.le_refl _)
  have hr4 : r < 4000 := by omega
  obtain ⟨rfl, y2, y3, y4⟩ := insC_10.mp i11
  rw [wdq (Or.inl (by unfold plc; omega))] at PF
  obtain ⟨k, hk⟩ : ∃ k, kB ht fr + (ht r - 1) = k + 2 := ⟨kB ht fr + (ht r - 1) - 2, by omega⟩
  rw [hk] at g1
  refine k_do n P Q hl H (o := 10) (c := 0) h hta hmu hm hm' hr4 e10 (by omega) (by omega) (by omega) (by omega) (by omega) ?_
  rw [show kB ht fr + (ht (r + 1) - 1) = k + 1 by omega, rd_10 n ur hr4, e13, PF, pf_10]
  exact o_less n P g1 _
set_option maxHeartbeats 200000 in
theorem kd_11 (n : Nat) (hn : 20000 ≤ n) {C : kC} (P : kPs C) {cr cc tb z lim mu : Nat} {ht : Nat → Nat} (Q : kPc C cr cc tb z ht) (hl : lim ≤ 20000) (H : kLp n C cr z lim ht mu) {W : kW} {fr : List Nat} {T r ta m m' : Nat} {ur uc : zMu} (h : kAt C cr z lim ht W fr T r ur uc) (hta : ta + 2400 * fr.length ≤ 2400 * T + kSp (cM C) fr + kQp C r) (hmu : 2400 * (lim + 1) ≤ ta + (mu + 1)) (hm : mu < m) (hm' : mu < m') {a b c x c2 w : Nat} {wd : Int32} (e0 : zI (cb C) 10 r = nI 11) (e10 : zI ur 10 r = nI 11) (e11 : zI ur 11 r = nI a) (e12 : zI ur 12 r = nI b) (e13 : zI ur 13 r = nI w) (wdq : plc 11 ∨ (11 = 12 ∧ a = 1) → wd = nI w) (h60 : ht r ≤ 60) (i11 : insC 80 11 a b c x (cM C r) (cM C (r + 1)) (ht r) (ht (r + 1)) (jT tb (cM C) ht (cb C) r) c2) (PF : ce_M_perform n uc = pfD n (zsI uc 34 13 (nI (cM C r + 1))) (nI c) (nI x) wd) : Rp (rf_run_L57 n (m + 1) ur (nI lim) (nI r) (-1)) (ce_M_execute_L40 n (m' + 1) uc (lN (2400 * (lim + 1))) (lN ta)) (kFin C) := by
  have c13 : fT tgC [12] uc (zsI uc 34 13 (nI (cM C r + 1))) := fT_I (fT_rf _ _ _) _ 12 rfl (by decide)
  have g1 := h.1.ctl c13
  have h2 := h.2.1
  have hb := kB_le fr h.2.2.1
  have hD := h.1.D
  have h5 := h.2.2.2.2.1
  have h6 := h.2.2.2.2.2.1
  have hcc := kM_le Q (r := cr) (Nat.le_refl _)
  have hcr := kM_mono Q 0 cr (by omega) (Nat.le_refl _)
  have hr4 : r < 4000 := by omega
  obtain ⟨rfl, y2, y3, y4⟩ := insC_11.mp i11
  obtain ⟨k, hk⟩ : ∃ k, kB ht fr + (ht r - 1) = k + 2 := ⟨kB ht fr + (ht r - 1) - 2, by omega⟩
  rw [hk] at g1
  refine k_do n P Q hl H (o := 11) (c := 0) h hta hmu hm hm' hr4 e10 (by omega) (by omega) (by omega) (by omega) (by omega) ?_
  rw [show kB ht fr + (ht (r + 1) - 1) = k + 1 by omega, rd_11 n ur hr4, PF, pf_11]
  exact o_same n P g1
set_option maxHeartbeats 200000 in
theorem kd_13 (n : Nat) (hn : 20000 ≤ n) {C : kC} (P : kPs C) {cr cc tb z lim mu : Nat} {ht : Nat → Nat} (Q : kPc C cr cc tb z ht) (hl : lim ≤ 20000) (H : kLp n C cr z lim ht mu) {W : kW} {fr : List Nat} {T r ta m m' : Nat} {ur uc : zMu} (h : kAt C cr z lim ht W fr T r ur uc) (hta : ta + 2400 * fr.length ≤ 2400 * T + kSp (cM C) fr + kQp C r) (hmu : 2400 * (lim + 1) ≤ ta + (mu + 1)) (hm : mu < m) (hm' : mu < m') {a b c x c2 w : Nat} {wd : Int32} (e0 : zI (cb C) 10 r = nI 13) (e10 : zI ur 10 r = nI 13) (e11 : zI ur 11 r = nI a) (e12 : zI ur 12 r = nI b) (e13 : zI ur 13 r = nI w) (wdq : plc 13 ∨ (13 = 12 ∧ a = 1) → wd = nI w) (h60 : ht r ≤ 60) (i11 : insC 80 13 a b c x (cM C r) (cM C (r + 1)) (ht r) (ht (r + 1)) (jT tb (cM C) ht (cb C) r) c2) (PF : ce_M_perform n uc = pfD n (zsI uc 34 13 (nI (cM C r + 1))) (nI c) (nI x) wd) : Rp (rf_run_L57 n (m + 1) ur (nI lim) (nI r) (-1)) (ce_M_execute_L40 n (m' + 1) uc (lN (2400 * (lim + 1))) (lN ta)) (kFin C) := by
  have c13 : fT tgC [12] uc (zsI uc 34 13 (nI (cM C r + 1))) := fT_I (fT_rf _ _ _) _ 12 rfl (by decide)
  have g1 := h.1.ctl c13
  have h2 := h.2.1
  have hb := kB_le fr h.2.2.1
  have hD := h.1.D
  have h5 := h.2.2.2.2.1
  have h6 := h.2.2.2.2.2.1
  have hcc := kM_le Q (r := cr) (Nat.le_refl _)
  have hcr := kM_mono Q 0 cr (by omega) (Nat.le_refl _)
  have hr4 : r < 4000 := by omega
  obtain ⟨rfl, y2, y3, y4⟩ := insC_13.mp i11
  rw [wdq (Or.inl (by unfold plc; omega))] at PF
  obtain ⟨k, hk⟩ : ∃ k, kB ht fr + (ht r - 1) = k + 1 := ⟨kB ht fr + (ht r - 1) - 1, by omega⟩
  rw [hk] at g1
  refine k_do n P Q hl H (o := 13) (c := 0) h hta hmu hm hm' hr4 e10 (by omega) (by omega) (by omega) (by omega) (by omega) ?_
  rw [show kB ht fr + (ht (r + 1) - 1) = k + 1 by omega, rd_13 n ur hr4, e13, zbd_i, PF, pf_16]
  exact o_row n (by omega) P g1 _
set_option maxHeartbeats 200000 in
theorem kd_14 (n : Nat) (hn : 20000 ≤ n) {C : kC} (P : kPs C) {cr cc tb z lim mu : Nat} {ht : Nat → Nat} (Q : kPc C cr cc tb z ht) (hl : lim ≤ 20000) (H : kLp n C cr z lim ht mu) {W : kW} {fr : List Nat} {T r ta m m' : Nat} {ur uc : zMu} (h : kAt C cr z lim ht W fr T r ur uc) (hta : ta + 2400 * fr.length ≤ 2400 * T + kSp (cM C) fr + kQp C r) (hmu : 2400 * (lim + 1) ≤ ta + (mu + 1)) (hm : mu < m) (hm' : mu < m') {a b c x c2 w : Nat} {wd : Int32} (e0 : zI (cb C) 10 r = nI 14) (e10 : zI ur 10 r = nI 14) (e11 : zI ur 11 r = nI a) (e12 : zI ur 12 r = nI b) (e13 : zI ur 13 r = nI w) (wdq : plc 14 ∨ (14 = 12 ∧ a = 1) → wd = nI w) (h60 : ht r ≤ 60) (i11 : insC 80 14 a b c x (cM C r) (cM C (r + 1)) (ht r) (ht (r + 1)) (jT tb (cM C) ht (cb C) r) c2) (PF : ce_M_perform n uc = pfD n (zsI uc 34 13 (nI (cM C r + 1))) (nI c) (nI x) wd) : Rp (rf_run_L57 n (m + 1) ur (nI lim) (nI r) (-1)) (ce_M_execute_L40 n (m' + 1) uc (lN (2400 * (lim + 1))) (lN ta)) (kFin C) := by
  have c13 : fT tgC [12] uc (zsI uc 34 13 (nI (cM C r + 1))) := fT_I (fT_rf _ _ _) _ 12 rfl (by decide)
  have g1 := h.1.ctl c13
  have h2 := h.2.1
  have hb := kB_le fr h.2.2.1
  have hD := h.1.D
  have h5 := h.2.2.2.2.1
  have h6 := h.2.2.2.2.2.1
  have hcc := kM_le Q (r := cr) (Nat.le_refl _)
  have hcr := kM_mono Q 0 cr (by omega) (Nat.le_refl _)
  have hr4 : r < 4000 := by omega
  obtain ⟨rfl, y2, y3, y4⟩ := insC_14.mp i11
  rw [wdq (Or.inl (by unfold plc; omega))] at PF
  obtain ⟨k, hk⟩ : ∃ k, kB ht fr + (ht r - 1) = k + 1 := ⟨kB ht fr + (ht r - 1) - 1, by omega⟩
  rw [hk] at g1
  refine k_do n P Q hl H (o := 14) (c := 0) h hta hmu hm hm' hr4 e10 (by omega) (by omega) (by omega) (by omega) (by omega) ?_
  rw [show kB ht fr + (ht (r + 1) - 1) = k + 1 by omega, rd_14 n ur hr4, e13, zbd_i, PF, pf_19]
  exact o_size n P g1 _
set_option maxHeartbeats 200000 in
theorem kd_15 (n : Nat) (hn : 20000 ≤ n) {C : kC} (P : kPs C) {cr cc tb z lim mu : Nat} {ht : Nat → Nat} (Q : kPc C cr cc tb z ht) (hl : lim ≤ 20000) (H : kLp n C cr z lim ht mu) {W : kW} {fr : List Nat} {T r ta m m' : Nat} {ur uc : zMu} (h : kAt C cr z lim ht W fr T r ur uc) (hta : ta + 2400 * fr.length ≤ 2400 * T + kSp (cM C) fr + kQp C r) (hmu : 2400 * (lim + 1) ≤ ta + (mu + 1)) (hm : mu < m) (hm' : mu < m') {a b c x c2 w : Nat} {wd : Int32} (e0 : zI (cb C) 10 r = nI 15) (e10 : zI ur 10 r = nI 15) (e11 : zI ur 11 r = nI a) (e12 : zI ur 12 r = nI b) (e13 : zI ur 13 r = nI w) (wdq : plc 15 ∨ (15 = 12 ∧ a = 1) → wd = nI w) (h60 : ht r ≤ 60) (i11 : insC 80 15 a b c x (cM C r) (cM C (r + 1)) (ht r) (ht (r + 1)) (jT tb (cM C) ht (cb C) r) c2) (PF : ce_M_perform n uc = pfD n (zsI uc 34 13 (nI (cM C r + 1))) (nI c) (nI x) wd) : Rp (rf_run_L57 n (m + 1) ur (nI lim) (nI r) (-1)) (ce_M_execute_L40 n (m' + 1) uc (lN (2400 * (lim + 1))) (lN ta)) (kFin C) := by
  have c13 : fT tgC [12] uc (zsI uc 34 13 (nI (cM C r + 1))) := fT_I (fT_rf _ _ _) _ 12 rfl (by decide)
  have g1 := h.1.ctl c13
  have h2 := h.2.1
  have hb := kB_le fr h.2.2.1
  have hD := h.1.D
  have h5 := h.2.2.2.2.1
  have h6 := h.2.2.2.2.2.1
  have hcc := kM_le Q (r := cr) (Nat.le_refl _)
  have hcr := kM_mono Q 0 cr (by omega) (Nat.le_refl _)
  have hr4 : r < 4000 := by omega
  obtain ⟨rfl, y2, y3, y4⟩ := insC_15.mp i11
  rw [wdq (Or.inl (by unfold plc; omega))] at PF
  obtain ⟨k, hk⟩ : ∃ k, kB ht fr + (ht r - 1) = k + 2 := ⟨kB ht fr + (ht r - 1) - 2, by omega⟩
  rw [hk] at g1
  refine k_do n P Q hl H (o := 15) (c := 0) h hta hmu hm hm' hr4 e10 (by omega) (by omega) (by omega) (by omega) (by omega) ?_
  rw [show kB ht fr + (ht (r + 1) - 1) = k + 1 by omega, rd_15 n ur hr4, e13, zbd_i, PF, pf_17]
  exact o_item n P g1 _
set_option maxHeartbeats 200000 in
theorem kd_16 (n : Nat) (hn : 20000 ≤ n) {C : kC} (P : kPs C) {cr cc tb z lim mu : Nat} {ht : Nat → Nat} (Q : kPc C cr cc tb z ht) (hl : lim ≤ 20000) (H : kLp n C cr z lim ht mu) {W : kW} {fr : List Nat} {T r ta m m' : Nat} {ur uc : zMu} (h : kAt C cr z lim ht W fr T r ur uc) (hta : ta + 2400 * fr.length ≤ 2400 * T + kSp (cM C) fr + kQp C r) (hmu : 2400 * (lim + 1) ≤ ta + (mu + 1)) (hm : mu < m) (hm' : mu < m') {a b c x c2 w : Nat} {wd : Int32} (e0 : zI (cb C) 10 r = nI 16) (e10 : zI ur 10 r = nI 16) (e11 : zI ur 11 r = nI a) (e12 : zI ur 12 r = nI b) (e13 : zI ur 13 r = nI w) (wdq : plc 16 ∨ (16 = 12 ∧ a = 1) → wd = nI w) (h60 : ht r ≤ 60) (i11 : insC 80 16 a b c x (cM C r) (cM C (r + 1)) (ht r) (ht (r + 1)) (jT tb (cM C) ht (cb C) r) c2) (PF : ce_M_perform n uc = pfD n (zsI uc 34 13 (nI (cM C r + 1))) (nI c) (nI x) wd) : Rp (rf_run_L57 n (m + 1) ur (nI lim) (nI r) (-1)) (ce_M_execute_L40 n (m' + 1) uc (lN (2400 * (lim + 1))) (lN ta)) (kFin C) := by
  have c13 : fT tgC [12] uc (zsI uc 34 13 (nI (cM C r + 1))) := fT_I (fT_rf _ _ _) _ 12 rfl (by decide)
  have g1 := h.1.ctl c13
  have h2 := h.2.1
  have hb := kB_le fr h.2.2.1
  have hD := h.1.D
  have h5 := h.2.2.2.2.1
  have h6 := h.2.2.2.2.2.1
  have hcc := kM_le Q (r := cr) (Nat.le_refl _)
  have hcr := kM_mono Q 0 cr (by omega) (Nat.le_refl _)
  have hr4 : r < 4000 := by omega
  obtain ⟨rfl, y2, y3, y4⟩ := insC_16.mp i11
  rw [wdq (Or.inl (by unfold plc; omega))] at PF
  obtain ⟨k, hk⟩ : ∃ k, kB ht fr + (ht r - 1) = k + 3 := ⟨kB ht fr + (ht r - 1) - 3, by omega⟩
  rw [hk] at g1
  refine k_do n P Q hl H (o := 16) (c := 0) h hta hmu hm hm' hr4 e10 (by omega) (by omega) (by omega) (by omega) (by omega) ?_
  rw [show kB ht fr + (ht (r + 1) - 1) = k + 0 by omega, rd_16 n ur hr4, e13, zbd_i, PF, pf_18]
  exact o_lay n P g1 _
set_option maxHeartbeats 200000 in
theorem kd_18 (n : Nat) (hn : 20000 ≤ n) {C : kC} (P : kPs C) {cr cc tb z lim mu : Nat} {ht : Nat → Nat} (Q : kPc C cr cc tb z ht) (hl : lim ≤ 20000) (H : kLp n C cr z lim ht mu) {W : kW} {fr : List Nat} {T r ta m m' : Nat} {ur uc : zMu} (h : kAt C cr z lim ht W fr T r ur uc) (hta : ta + 2400 * fr.length ≤ 2400 * T + kSp (cM C) fr + kQp C r) (hmu : 2400 * (lim + 1) ≤ ta + (mu + 1)) (hm : mu < m) (hm' : mu < m') {a b c x c2 w : Nat} {wd : Int32} (e0 : zI (cb C) 10 r = nI 18) (e10 : zI ur 10 r = nI 18) (e11 : zI ur 11 r = nI a) (e12 : zI ur 12 r = nI b) (e13 : zI ur 13 r = nI w) (wdq : plc 18 ∨ (18 = 12 ∧ a = 1) → wd = nI w) (h60 : ht r ≤ 60) (i11 : insC 80 18 a b c x (cM C r) (cM C (r + 1)) (ht r) (ht (r + 1)) (jT tb (cM C) ht (cb C) r) c2) (PF : ce_M_perform n uc = pfD n (zsI uc 34 13 (nI (cM C r + 1))) (nI c) (nI x) wd) : Rp (rf_run_L57 n (m + 1) ur (nI lim) (nI r) (-1)) (ce_M_execute_L40 n (m' + 1) uc (lN (2400 * (lim + 1))) (lN ta)) (kFin C) := by
  have c13 : fT tgC [12] uc (zsI uc 34 13 (nI (cM C r + 1))) := fT_I (fT_rf _ _ _) _ 12 rfl (by decide)
  have g1 := h.1.ctl c13
  have h2 := h.2.1
  have hb := kB_le fr h.2.2.1
  have hD := h.1.D
  have h5 := h.2.2.2.2.1
  have h6 := h.2.2.2.2.2.1
  have hcc := kM_le Q (r := cr) (Nat.le_refl _)
  have hcr := kM_mono Q 0 cr (by omega) (Nat.le_refl _)
  have hr4 : r < 4000 := by omega
  obtain ⟨rfl, y2, y3, y4⟩ := insC_18.mp i11
  obtain ⟨k, hk⟩ : ∃ k, kB ht fr + (ht r - 1) = k + 1 := ⟨kB ht fr + (ht r - 1) - 1, by omega⟩
  rw [hk] at g1
  refine k_do n P Q hl H (o := 18) (c := 1) h hta hmu hm hm' hr4 e10 (by omega) (by omega) (by omega) (by omega) (by omega) ?_
  rw [show kB ht fr + (ht (r + 1) - 1) = k + 0 by omega, rd_18 n ur hr4, PF, pf_22]
  exact o_print n P g1 (by omega)
set_option maxHeartbeats 200000 in
theorem kd_20 (n : Nat) (hn : 20000 ≤ n) {C : kC} (P : kPs C) {cr cc tb z lim mu : Nat} {ht : Nat → Nat} (Q : kPc C cr cc tb z ht) (hl : lim ≤ 20000) (H : kLp n C cr z lim ht mu) {W : kW} {fr : List Nat} {T r ta m m' : Nat} {ur uc : zMu} (h : kAt C cr z lim ht W fr T r ur uc) (hta : ta + 2400 * fr.length ≤ 2400 * T + kSp (cM C) fr + kQp C r) (hmu : 2400 * (lim + 1) ≤ ta + (mu + 1)) (hm : mu < m) (hm' : mu < m') {a b c x c2 w : Nat} {wd : Int32} (e0 : zI (cb C) 10 r = nI 20) (e10 : zI ur 10 r = nI 20) (e11 : zI ur 11 r = nI a) (e12 : zI ur 12 r = nI b) (e13 : zI ur 13 r = nI w) (wdq : plc 20 ∨ (20 = 12 ∧ a = 1) → wd = nI w) (h60 : ht r ≤ 60) (i11 : insC 80 20 a b c x (cM C r) (cM C (r + 1)) (ht r) (ht (r + 1)) (jT tb (cM C) ht (cb C) r) c2) (PF : ce_M_perform n uc = pfD n (zsI uc 34 13 (nI (cM C r + 1))) (nI c) (nI x) wd) : Rp (rf_run_L57 n (m + 1) ur (nI lim) (nI r) (-1)) (ce_M_execute_L40 n (m' + 1) uc (lN (2400 * (lim + 1))) (lN ta)) (kFin C) := by
  have c13 : fT tgC [12] uc (zsI uc 34 13 (nI (cM C r + 1))) := fT_I (fT_rf _ _ _) _ 12 rfl (by decide)
  have g1 := h.1.ctl c13
  have h2 := h.2.1
  have hb := kB_le fr h.2.2.1
  have hD := h.1.D
  have h5 := h.2.2.2.2.1
  have h6 := h.2.2.2.2.2.1
  have hcc := kM_le Q (r := cr) (Nat.le_refl _)
  have hcr := kM_mono Q 0 cr (by omega) (Nat.le_refl _)
  have hr4 : r < 4000 := by omega
  obtain ⟨rfl, y2, y3, y4⟩ := insC_20.mp i11
  obtain ⟨k, hk⟩ : ∃ k, kB ht fr + (ht r - 1) = k + 1 := ⟨kB ht fr + (ht r - 1) - 1, by omega⟩
  rw [hk] at g1
  refine k_do n P Q hl H (o := 20) (c := 0) h hta hmu hm hm' hr4 e10 (by omega) (by omega) (by omega) (by omega) (by omega) ?_
  rw [show kB ht fr + (ht (r + 1) - 1) = k + 0 by omega, rd_20 n ur hr4, PF, pf_5]
  exact o_drop g1
