/-! RUNNING: the loop: what holds ahead of an instruction -/
def kPc (C : kC) (cr cc tb z : Nat) (ht : Nat → Nat) : Prop :=
  (cM C 0 = 0 ∧ cM C cr = cc ∧ (∀ r, r < cr → cM C r < cM C (r + 1)) ∧ tb ≤ cr ∧ cc ≤ 2300 ∧ ht cr = 1000 ∧ zI (cv C) (xp (cX C)) 3 = nI cc) ∧
  (∀ r, r < cr → pIns (xp (cX C)) 80 tb (cM C) ht (cb C) (cv C) r) ∧
  (∀ r o, r < cr → zI (cb C) 10 r = nI o → 5 ≤ o → o ≤ 8 → ∃ a, a < cS C ∧ zI (cb C) 11 r = nI a ∧ zI (cb C) 19 a = nI (o - 5)) ∧
  (∀ f, f < cF C → ∃ q nn, q ≤ tb ∧ ht q = 0 ∧ zI (cb C) 15 f = nI q ∧ zI (cv C) (xp (cX C) + 9) f = nI (cM C q) ∧ nn ≤ 4 ∧ zI (cb C) 16 f = nI nn ∧ zI (cv C) (xp (cX C) + 10) f = nI nn) ∧
  (∀ r, r < cr → zI (cb C) 10 r = nI 17 → ∃ f, f < cF C ∧ zI (cb C) 11 r = nI f ∧ zI (cb C) 12 r = zI (cb C) 16 f) ∧
  z < cr ∧ pZn z (cF C) (cb C)
def kB (ht : Nat → Nat) : List Nat → Nat
  | [] => 0
  | r :: l => kB ht l + (ht r - 2)
def kSp (M : Nat → Nat) : List Nat → Nat
  | [] => 0
  | r :: l => kSp M l + M r
def kFo (cr z : Nat) (ht : Nat → Nat) : List Nat → Prop
  | [] => True
  | r :: l => r < cr ∧ 2 ≤ ht r ∧ ht r ≤ 60 ∧ (¬ l = [] → r < z) ∧ kFo cr z ht l
theorem kB_le {cr z : Nat} {ht : Nat → Nat} : ∀ l : List Nat, kFo cr z ht l → kB ht l ≤ 58 * l.length := by
  intro l
  induction l with
  | nil => exact fun _ => Nat.le_refl _
  | cons r l ih =>
    intro h
    have := ih h.2.2.2.2
    have := h.2.2.1
    show kB ht l + (ht r - 2) ≤ 58 * (l.length + 1)
    omega
def kAt (C : kC) (cr z lim : Nat) (ht : Nat → Nat) (W : kW) (fr : List Nat) (T r : Nat) (ur uc : zMu) : Prop := kGd C W fr T (kB ht fr + (ht r - 1)) ur uc ∧ r < cr ∧ kFo cr z ht fr ∧ (¬ fr = [] → r < z) ∧ wM W + wP W + fr.length + min 1 (ht r) ≤ T ∧ T ≤ lim ∧ zI uc 34 13 = nI (cM C r) ∧ zI uc 34 17 = -1
def kQp (C : kC) (r : Nat) : Nat := if zI (cb C) 10 r = nI 0 ∨ zI (cb C) 10 r = nI 23 then 2301 else cM C r
def kFin (C : kC) : Int32 → zMu → Int32 → zMu → Prop := fun a vr b vc => b = a ∧ fT tgR tall (cb C) vr ∧ fT tgC tall (cv C) vc ∧ ∃ V T, kOt C V T vr vc
def kLp (n : Nat) (C : kC) (cr z lim : Nat) (ht : Nat → Nat) (mu : Nat) : Prop := ∀ W fr T r ta m m' ur uc, kAt C cr z lim ht W fr T r ur uc → ta + 2400 * fr.length ≤ 2400 * T + kSp (cM C) fr + kQp C r → 2400 * (lim + 1) ≤ ta + mu → mu < m → mu < m' → Rp (rf_run_L57 n m ur (nI lim) (nI r) (-1)) (ce_M_execute_L40 n m' uc (lN (2400 * (lim + 1))) (lN ta)) (kFin C)
/-- places of the code grow -/
theorem kM_mono {C : kC} {cr cc tb z : Nat} {ht : Nat → Nat} (Q : kPc C cr cc tb z ht) : ∀ r r', r ≤ r' → r' ≤ cr → cM C r + (r' - r) ≤ cM C r' := by
  intro r r' hr hr'
  induction r' with
  | zero =>
    have e : r = 0 := by omega
    subst e
    omega
  | succ k ih =>
    by_cases e : r = k + 1
    · subst e; omega
    · have := ih (by omega) (by omega)
      have := Q.1.2.2.1 k (by omega)
      omega
theorem kM_le {C : kC} {cr cc tb z : Nat} {ht : Nat → Nat} (Q : kPc C cr cc tb z ht) {r : Nat} (h : r ≤ cr) : cM C r ≤ 2300 := by
  have := kM_mono Q r cr h (Nat.le_refl _)
  have := Q.1.2.1
  have := Q.1.2.2.2.2.1
  omega
theorem kSp_le {C : kC} {cr cc tb z : Nat} {ht : Nat → Nat} (Q : kPc C cr cc tb z ht) : ∀ l : List Nat, kFo cr z ht l → kSp (cM C) l ≤ 2300 * l.length := by
  intro l
  induction l with
  | nil => exact fun _ => Nat.le_refl _
  | cons r l ih =>
    intro h
    have := ih h.2.2.2.2
    have := kM_le Q (r := r) (by have := h.1; omega)
    show kSp (cM C) l + cM C r ≤ 2300 * (l.length + 1)
    omega
theorem kQp_le {C : kC} {cr cc tb z : Nat} {ht : Nat → Nat} (Q : kPc C cr cc tb z ht) {r : Nat} (h : r ≤ cr) : kQp C r ≤ 2301 ∧ cM C r ≤ kQp C r := by
  have := kM_le Q h
  unfold kQp
  by_cases e : zI (cb C) 10 r = nI 0 ∨ zI (cb C) 10 r = nI 23
  · rw [if_pos e]; omega
  · rw [if_neg e]; omega
/-- ticks are left -/
theorem k_tick {C : kC} {cr cc tb z lim : Nat} {ht : Nat → Nat} (Q : kPc C cr cc tb z ht) {W : kW} {fr : List Nat} {T r ta : Nat} {ur uc : zMu} (h : kAt C cr z lim ht W fr T r ur uc) (hta : ta + 2400 * fr.length ≤ 2400 * T + kSp (cM C) fr + kQp C r) : ta + 1 < 2400 * (lim + 1) := by
  obtain ⟨h1, h2, h3, h4, h5, h6, -⟩ := h
  have := kSp_le Q fr h3
  have := (kQp_le Q (r := r) (by omega)).1
  omega
/-- the class goes on -/
theorem c_go (n : Nat) {lim ta m' : Nat} {uc : zMu} (hl : lim ≤ 20000) (ht : ta < 2400 * (lim + 1)) (e : zI uc 34 17 = -1) : ce_M_execute_L40 n (m' + 1) uc (lN (2400 * (lim + 1))) (lN ta) = zbd (ce_M_perform n uc) fun _ u5 => ce_M_execute_L40 n m' u5 (lN (2400 * (lim + 1))) (lN (ta + 1)) := by
  rw [ce_M_execute_L40, if_pos ((lgc_lt _ _).mpr ((lN_lt (by omega) (by omega)).mpr ht)), if_pos e, lN_1]
  rfl
theorem c_end (n : Nat) {m' : Nat} {uc : zMu} {X ta : Int64} (e : ¬ zI uc 34 17 = -1) : ce_M_execute_L40 n (m' + 1) uc X ta = some (zI uc 34 17, uc) := by
  rw [ce_M_execute_L40]
  by_cases z : lg_cmp ta X < 0
  · rw [if_pos z, if_neg e]
  · rw [if_neg z]
theorem r_end (n : Nat) {m : Nat} {u : zMu} {l r x : Int32} (e : ¬ x = -1) : rf_run_L57 n (m + 1) u l r x = some (x, u) := by
  rw [rf_run_L57, if_neg e]
/-- an instruction that does: both go on, or fail -/
theorem k_do (n : Nat) {C : kC} (P : kPs C) {cr cc tb z lim mu : Nat} {ht : Nat → Nat} (Q : kPc C cr cc tb z ht) (hl : lim ≤ 20000) (H : kLp n C cr z lim ht mu) {W : kW} {fr : List Nat} {T r ta m m' o c : Nat} {ur uc : zMu} (h : kAt C cr z lim ht W fr T r ur uc) (hta : ta + 2400 * fr.length ≤ 2400 * T + kSp (cM C) fr + kQp C r) (hmu : 2400 * (lim + 1) ≤ ta + (mu + 1)) (hm : mu < m) (hm' : mu < m') (hr4 : r < 4000) (er : zI ur 10 r = nI o) (ho : ¬ (o = 0 ∨ o = 17 ∨ o = 19 ∨ o = 21 ∨ o = 22 ∨ o = 23)) (ho2 : o ≤ 23) (hM : cM C (r + 1) = cM C r + 1) (hc : c + min 1 (ht (r + 1)) ≤ min 1 (ht r)) (hh : ht (r + 1) ≤ 61) (hd : Rp (rf_does n ur (nI o) (nI r)) (ce_M_perform n uc) (kQ C fr T (kB ht fr + (ht (r + 1) - 1)) c W ur (zsI uc 34 13 (nI (cM C r + 1))))) : Rp (rf_run_L57 n (m + 1) ur (nI lim) (nI r) (-1)) (ce_M_execute_L40 n (m' + 1) uc (lN (2400 * (lim + 1))) (lN ta)) (kFin C) := by
  have tk := k_tick Q h hta
  obtain ⟨g, h2, h3, h4, h5, h6, h7, h8⟩ := h
  have nz : ∀ k, k < 24 → ¬ o = k → ¬ nI o = nI k := fun k hk q e => q ((nI_eq (by omega) (by omega)).mp e)
  have el : rf_run_L57 n (m + 1) ur (nI lim) (nI r) (-1) = zbd (rf_does n ur (nI o) (nI r)) fun r20 u21 => rf_run_L57 n m u21 (nI lim) (nI (r + 1)) r20 := by
    rw [rf_run_L57, if_pos rfl, zin_nI hr4 (by decide), zgd_t, zx_nI (show r < 2 ^ 31 by omega), er]
    simp only [zlet]
    rw [if_neg (show ¬ nI o = (0 : Int32) from nz 0 (by omega) (by omega)), if_neg (show ¬ nI o = (17 : Int32) from nz 17 (by omega) (by omega))]
    unfold rf_run_J102
    rw [if_neg (show ¬ nI o = (17 : Int32) from nz 17 (by omega) (by omega)), if_neg (show ¬ nI o = (19 : Int32) from nz 19 (by omega) (by omega)), if_neg (show ¬ nI o = (23 : Int32) from nz 23 (by omega) (by omega)), if_neg (show ¬ nI o = (22 : Int32) from nz 22 (by omega) (by omega)), if_neg (show ¬ nI o = (21 : Int32) from nz 21 (by omega) (by omega)), nI_1]
    rfl
  rw [el, c_go n hl (by omega) h8]
  refine rp_bd (rp_mono hd (fun rr vr _ vc q => ?_))
  obtain ⟨q1, q2, q3⟩ := q
  have c13 : fT tgC [12] uc (zsI uc 34 13 (nI (cM C r + 1))) := fT_I (fT_rf _ _ _) _ 12 rfl (by decide)
  obtain ⟨m, rfl⟩ : ∃ k, m = k + 1 := ⟨m - 1, by omega⟩
  obtain ⟨m', rfl⟩ : ∃ k, m' = k + 1 := ⟨m' - 1, by omega⟩
  rcases q3 with ⟨e1, e2, e3, V, e4, e5⟩ | ⟨e1, e2, V, e3⟩
  · subst e1
    have hr1 : r + 1 < cr := by
      by_cases y : r + 1 = cr
      · have := Q.1.2.2.2.2.2.1
        rw [y] at hh
        omega
      · omega
    refine H V fr T (r + 1) (ta + 1) (m + 1) (m' + 1) vr vc ⟨e5, hr1, h3, fun y => ?_, by omega, h6, ?_, ?_⟩ ?_ (by omega) hm hm'
    · have hz := h4 y
      have zz := Q.2.2.2.2.2.2.1
      by_cases x : r + 1 = z
      · rcases zz with zz | zz
        · omega
        · exfalso
          rw [show z - 1 = r by omega] at zz
          have := kBs.r (C := C) g.1 (show tgR 10 r = 0 from rfl)
          rw [er, zz] at this
          exact absurd ((nI_eq (by omega) (by decide)).mp this) (by omega)
      · omega
    · rw [e3, hM]; rfl
    · rw [e2, gI_sI, if_neg (by omega)]; exact h8
    · have := (kQp_le Q (r := r + 1) (by omega)).2
      have eb := kBs.r (C := C) g.1 (show tgR 10 r = 0 from rfl)
      have e : kQp C r = cM C r := if_neg (by
        rw [← eb, er]
        intro y
        rcases y with y | y
        · exact absurd ((nI_eq (by omega) (by decide)).mp y) (by omega)
        · exact absurd ((nI_eq (by omega) (by decide)).mp y) (by omega))
      omega
  · subst e1
    rw [r_end n (by decide), c_end n (by rw [e2]; decide)]
    exact rp_end ⟨e2, fT_tr g.1.1 q1, fT_tr g.1.2 (fT_tr (fT_mono c13 (by decide)) q2), V, T, e3⟩
