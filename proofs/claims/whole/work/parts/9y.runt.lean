/-! RUNNING: ways are broken -/
noncomputable def onB (P : Nat → Prop) (i : Nat) : Bool := @decide (P i) (Classical.propDecidable _)
noncomputable def fl (P : Nat → Prop) (k : Nat) : List Nat := (List.range k).filter (fun i => !onB P i)
theorem onB_t {P : Nat → Prop} {i : Nat} (h : P i) : onB P i = true := by
  unfold onB
  exact @decide_eq_true _ (Classical.propDecidable _) h
theorem onB_f {P : Nat → Prop} {i : Nat} (h : ¬ P i) : onB P i = false := by
  unfold onB
  exact @decide_eq_false _ (Classical.propDecidable _) h
theorem fl_on {P : Nat → Prop} {i : Nat} (h : P i) : fl P (i + 1) = fl P i := by
  unfold fl
  rw [List.range_succ, List.filter_append]
  simp [onB_t h]
theorem fl_off {P : Nat → Prop} {i : Nat} (h : ¬ P i) : fl P (i + 1) = fl P i ++ [i] := by
  unfold fl
  rw [List.range_succ, List.filter_append]
  simp [onB_f h]
theorem fl_le (P : Nat → Prop) (k : Nat) : (fl P k).length ≤ k := by
  unfold fl
  have := List.length_filter_le (fun i => !onB P i) (List.range k)
  rw [List.length_range] at this
  exact this
theorem fl_mem {P : Nat → Prop} {k j : Nat} (h : j ∈ fl P k) : j < k := by
  unfold fl at h
  exact List.mem_range.mp (List.mem_filter.mp h).1
theorem fl_all {P : Nat → Prop} {k : Nat} (h : ∀ j, j < k → ¬ P j) : fl P k = List.range k := by
  unfold fl
  rw [List.filter_eq_self]
  intro a ha
  rw [onB_f (h a (List.mem_range.mp ha))]
  rfl
noncomputable def cp (P : Nat → Prop) (y i : Nat) (f : Nat → Int32) (t : Nat) : Int32 := if 4 * y ≤ t ∧ t < 4 * y + (fl P i).length then f (4 * y + (fl P i).getD (t - 4 * y) 0) else f t
theorem cp_on {P : Nat → Prop} {y i : Nat} {f : Nat → Int32} {t : Nat} (h : P i) : cp P y (i + 1) f t = cp P y i f t := by
  unfold cp
  rw [fl_on h]
theorem cp_off {P : Nat → Prop} {y i : Nat} {f : Nat → Int32} {t : Nat} (h : ¬ P i) : cp P y (i + 1) f t = if t = 4 * y + (fl P i).length then f (4 * y + i) else cp P y i f t := by
  unfold cp
  rw [fl_off h, List.length_append, List.length_singleton]
  by_cases z : t = 4 * y + (fl P i).length
  · rw [if_pos z, if_pos (by omega)]
    have e : t - 4 * y = (fl P i).length := by omega
    rw [e, List.getD_eq_getElem?_getD, List.getElem?_append_right (Nat.le_refl _)]
    simp
  · rw [if_neg z]
    by_cases x : 4 * y ≤ t ∧ t < 4 * y + (fl P i).length
    · rw [if_pos x, if_pos (by omega), List.getD_eq_getElem?_getD, List.getD_eq_getElem?_getD, List.getElem?_append_left (by omega)]
    · rw [if_neg x, if_neg (by omega)]
theorem cp_at {P : Nat → Prop} {y i i' : Nat} {f : Nat → Int32} (h : i ≤ i') : cp P y i f (4 * y + i') = f (4 * y + i') := by
  unfold cp
  have := fl_le P i
  rw [if_neg (by omega)]
theorem cp_out {P : Nat → Prop} {y i t : Nat} {f : Nat → Int32} (h : ¬ (4 * y ≤ t ∧ t < 4 * y + i)) : cp P y i f t = f t := by
  unfold cp
  have := fl_le P i
  rw [if_neg (by omega)]
theorem cp_all {P : Nat → Prop} {y k t : Nat} {f : Nat → Int32} (h : ∀ j, j < k → ¬ P j) : cp P y k f t = f t := by
  unfold cp
  rw [fl_all h, List.length_range]
  by_cases z : 4 * y ≤ t ∧ t < 4 * y + k
  · rw [if_pos z, List.getD_eq_getElem?_getD, List.getElem?_range (by omega)]
    simp
    congr 1
    omega
  · rw [if_neg z]
theorem cp_0 {P : Nat → Prop} {y t : Nat} {f : Nat → Int32} : cp P y 0 f t = f t := cp_out (by omega)
theorem kr_brk (n : Nat) {P : Nat → Prop} {x y k : Nat} (hy : y < 80) (hk : k ≤ 4) {u0 : zMu} (r54 : zI u0 54 y = nI k) (hW : ∀ i, i < k → ∀ u, (∀ o, zI u 35 o = zI u0 35 o) → zI u 56 (4 * y + i) = zI u0 56 (4 * y + i) → zI u 57 (4 * y + i) = zI u0 57 (4 * y + i) → (P i ∧ rf_isOnWay n u (nI (4 * y + i)) (nI x) = some (1, u)) ∨ (¬ P i ∧ rf_isOnWay n u (nI (4 * y + i)) (nI x) = some (0, u))) (K : zMu → Int32 → Int32 → Option (Unit × zMu)) : ∀ d i m u, i + d = k → d < m → (∀ a t, ¬ (55 ≤ a ∧ a ≤ 57) → ¬ (a = 0 ∧ t = 64) → zI u a t = zI u0 a t) → (∀ a t, 55 ≤ a → a ≤ 57 → zI u a t = cp P y i (zI u0 a) t) → zI u 0 64 = zI u0 0 64 + nI (i - (fl P i).length) → fT tgR [9] u0 u → ∃ v, rf_breaks_L27 n K m u (nI x) (nI y) (nI (fl P i).length) (nI i) = K v (nI x) (nI (y + 1)) ∧ (∀ a t, ¬ (55 ≤ a ∧ a ≤ 57) → ¬ (a = 0 ∧ t = 64) → ¬ (a = 54 ∧ t = y) → zI v a t = zI u0 a t) ∧ (∀ a t, 55 ≤ a → a ≤ 57 → zI v a t = cp P y k (zI u0 a) t) ∧ zI v 54 y = nI (fl P k).length ∧ zI v 0 64 = zI u0 0 64 + nI (k - (fl P k).length) ∧ fT tgR [9] u0 v := by
  intro d
  induction d with
  | zero =>
    intro i m u hi hm h1 h2 h3 h4
    obtain ⟨m, rfl⟩ : ∃ k, m = k + 1 := ⟨m - 1, by omega⟩
    have e : i = k := by omega
    subst e
    refine ⟨zsI u 54 y (nI (fl P i).length), ?_, fun a t q1 q2 q3 => ?_, fun a t q1 q2 => ?_, ?_, ?_, fT_I h4 _ 9 rfl (by decide)⟩
    · rw [rf_breaks_L27, zin_nI (show y < 81 by omega) (by decide), zgd_t, zx_nI (show y < 2 ^ 31 by omega), h1 54 y (by omega) (by omega), r54, if_neg (nI_nlt (by omega) (by omega)), zgd_t, nI_1]
      rfl
    · rw [gI_sI, if_neg q3]; exact h1 a t q1 q2
    · rw [gI_sI, if_neg (by omega)]; exact h2 a t q1 q2
    · rw [gI_sI, if_pos ⟨rfl, rfl⟩]
    · rw [gI_sI, if_neg (by omega)]; exact h3
  | succ d ih =>
    intro i m u hi hm h1 h2 h3 h4
    obtain ⟨m, rfl⟩ : ∃ k, m = k + 1 := ⟨m - 1, by omega⟩
    have le := fl_le P i
    have at_ : ∀ a, 55 ≤ a → a ≤ 57 → zI u a (4 * y + i) = zI u0 a (4 * y + i) := fun a p q => (h2 a _ p q).trans (cp_at (Nat.le_refl _))
    have st : rf_breaks_L27 n K (m + 1) u (nI x) (nI y) (nI (fl P i).length) (nI i) = zbd (rf_isOnWay n u (nI (4 * y + i)) (nI x)) fun r3 u4 => if r3 = 0 then (zgd (zin (nI (4 * y + i)) 330) (zgd (zin (nI (4 * y + (fl P i).length)) 330) (zlet (zsI u4 55 (zx (nI (4 * y + (fl P i).length))) (zI u4 55 (zx (nI (4 * y + i))))) fun u6 => zgd (zin (nI (4 * y + i)) 330) (zgd (zin (nI (4 * y + (fl P i).length)) 330) (zlet (zsI u6 56 (zx (nI (4 * y + (fl P i).length))) (zI u6 56 (zx (nI (4 * y + i))))) fun u7 => zgd (zin (nI (4 * y + i)) 330) (zgd (zin (nI (4 * y + (fl P i).length)) 330) (zlet (zsI u7 57 (zx (nI (4 * y + (fl P i).length))) (zI u7 57 (zx (nI (4 * y + i))))) fun u8 => rf_breaks_L27 n K m u8 (nI x) (nI y) (nI ((fl P i).length + 1)) (nI (i + 1))))))))) else (zlet (zsI u4 0 64 ((zI u4 0 64) + 1)) fun u11 => rf_breaks_L27 n K m u11 (nI x) (nI y) (nI (fl P i).length) (nI (i + 1))) := by
      rw [rf_breaks_L27, zin_nI (show y < 81 by omega) (by decide), zgd_t, zx_nI (show y < 2 ^ 31 by omega), h1 54 y (by omega) (by omega), r54, if_pos (nI_lt (by omega) (by omega)), (sh4 y i).2, (sh4 y (fl P i).length).2, nI_1, nI_1]
      rfl
    rcases hW i (by omega) u (fun o => h1 35 o (by omega) (by omega)) (at_ 56 (by omega) (by omega)) (at_ 57 (by omega) (by omega)) with ⟨p, e⟩ | ⟨p, e⟩
    · rw [st, zbd_e e, if_neg (show ¬ (1 : Int32) = 0 from by decide)]
      have := ih (i + 1) m (zsI u 0 64 (zI u 0 64 + 1)) (by omega) (by omega) (fun a t q1 q2 => by rw [gI_sI, if_neg q2]; exact h1 a t q1 q2) (fun a t q1 q2 => by rw [gI_sI, if_neg (by omega), cp_on p]; exact h2 a t q1 q2) (by rw [gI_sI, if_pos ⟨rfl, rfl⟩, h3, fl_on p, Int32.add_assoc, nI_1]; congr 2; omega) (fT_I h4 _ 9 rfl (by decide))
      rw [fl_on p] at this
      exact this
    · rw [st, zbd_e e, if_pos rfl, zin_nI (show 4 * y + i < 330 by omega) (by decide), zgd_t, zin_nI (show 4 * y + (fl P i).length < 330 by omega) (by decide), zgd_t, zx_nI (show 4 * y + i < 2 ^ 31 by omega), zx_nI (show 4 * y + (fl P i).length < 2 ^ 31 by omega)]
      obtain ⟨u8, hu8⟩ : ∃ u8, zsI (zsI (zsI u 55 (4 * y + (fl P i).length) (zI u0 55 (4 * y + i))) 56 (4 * y + (fl P i).length) (zI u0 56 (4 * y + i))) 57 (4 * y + (fl P i).length) (zI u0 57 (4 * y + i)) = u8 := ⟨_, rfl⟩
      show ∃ v, rf_breaks_L27 n K m (zsI (zsI (zsI u 55 (4 * y + (fl P i).length) (zI u 55 (4 * y + i))) 56 (4 * y + (fl P i).length) (zI (zsI u 55 (4 * y + (fl P i).length) (zI u 55 (4 * y + i))) 56 (4 * y + i))) 57 (4 * y + (fl P i).length) (zI (zsI (zsI u 55 (4 * y + (fl P i).length) (zI u 55 (4 * y + i))) 56 (4 * y + (fl P i).length) (zI (zsI u 55 (4 * y + (fl P i).length) (zI u 55 (4 * y + i))) 56 (4 * y + i))) 57 (4 * y + i))) (nI x) (nI y) (nI ((fl P i).length + 1)) (nI (i + 1)) = _ ∧ _
      have q56 : zI (zsI u 55 (4 * y + (fl P i).length) (zI u 55 (4 * y + i))) 56 (4 * y + i) = zI u0 56 (4 * y + i) := by rw [gI_sI, if_neg (by omega)]; exact at_ 56 (by omega) (by omega)
      rw [q56]
      have q57 : zI (zsI (zsI u 55 (4 * y + (fl P i).length) (zI u 55 (4 * y + i))) 56 (4 * y + (fl P i).length) (zI u0 56 (4 * y + i))) 57 (4 * y + i) = zI u0 57 (4 * y + i) := by rw [gI_sI, if_neg (by omega), gI_sI, if_neg (by omega)]; exact at_ 57 (by omega) (by omega)
      rw [q57, at_ 55 (by omega) (by omega), hu8]
      have F8 : fT tgR [9] u0 u8 := by subst hu8; exact fT_I (fT_I (fT_I h4 _ 9 rfl (by decide)) _ 9 rfl (by decide)) _ 9 rfl (by decide)
      have o8 : ∀ a t, ¬ ((a = 55 ∨ a = 56 ∨ a = 57) ∧ t = 4 * y + (fl P i).length) → zI u8 a t = zI u a t := fun a t q => by subst hu8; rw [gI_sI, if_neg (by omega), gI_sI, if_neg (by omega), gI_sI, if_neg (by omega)]
      have s8 : ∀ a, a = 55 ∨ a = 56 ∨ a = 57 → zI u8 a (4 * y + (fl P i).length) = zI u0 a (4 * y + i) := by
        intro a q
        subst hu8
        rcases q with rfl | rfl | rfl
        · rw [gI_sI, if_neg (by omega), gI_sI, if_neg (by omega), gI_sI, if_pos ⟨rfl, rfl⟩]
        · rw [gI_sI, if_neg (by omega), gI_sI, if_pos ⟨rfl, rfl⟩]
        · rw [gI_sI, if_pos ⟨rfl, rfl⟩]
      have := ih (i + 1) m u8 (by omega) (by omega) (fun a t q1 q2 => by rw [o8 a t (by omega)]; exact h1 a t q1 q2) (fun a t q1 q2 => by
        rw [cp_off p]
        by_cases z : t = 4 * y + (fl P i).length
        · rw [if_pos z, z]; exact s8 a (by omega)
        · rw [if_neg z, o8 a t (by omega)]; exact h2 a t q1 q2) (by rw [o8 0 64 (by omega), h3, fl_off p, List.length_append, List.length_singleton]; congr 2; omega) F8
      rw [fl_off p, List.length_append, List.length_singleton] at this
      exact this
theorem kc_brk (n : Nat) {P : Nat → Prop} {x y k S : Nat} (hy : y < 80) (hk : k ≤ 4) {u0 : zMu} (hW : ∀ i, i < k → ∀ u, (∀ a t, ¬ (55 ≤ a ∧ a ≤ 56) → zI u a t = zI u0 a t) → fT tgC [9] u0 u → zI u 55 (4 * y + i) = zI u0 55 (4 * y + i) → zI u 56 (4 * y + i) = zI u0 56 (4 * y + i) → (P i ∧ ce_T_isOnWay n u (nI (4 * y + i)) (nI x) = some (1, u)) ∨ (¬ P i ∧ ce_T_isOnWay n u (nI (4 * y + i)) (nI x) = some (0, u))) (K : zMu → Int32 → Int32 → Int32 → Option (Unit × zMu)) : ∀ d i m u, i + d = k → d < m → (∀ a t, ¬ (55 ≤ a ∧ a ≤ 56) → zI u a t = zI u0 a t) → (∀ a t, 55 ≤ a → a ≤ 56 → zI u a t = cp P y i (zI u0 a) t) → fT tgC [9] u0 u → ∃ v, ce_T_breakWays_L39 n K m u (nI x) (nI S) (nI y) (nI (fl P i).length) (nI k) (nI (4 * y + i)) = K v (nI x) (nI S) (nI (y + 1)) ∧ (∀ a t, ¬ (55 ≤ a ∧ a ≤ 56) → ¬ (a = 49 ∧ t = 11) → ¬ (a = 52 ∧ t = y) → zI v a t = zI u0 a t) ∧ (∀ a t, 55 ≤ a → a ≤ 56 → zI v a t = cp P y k (zI u0 a) t) ∧ zI v 52 y = nI (fl P k).length ∧ zI v 49 11 = zI u0 49 11 + nI (k - (fl P k).length) ∧ fT tgC [9] u0 v := by
  intro d
  induction d with
  | zero =>
    intro i m u hi hm h1 h2 h4
    obtain ⟨m, rfl⟩ : ∃ k, m = k + 1 := ⟨m - 1, by omega⟩
    have e : i = k := by omega
    subst e
    have le := fl_le P i
    refine ⟨zsI (zsI u 52 y (nI (fl P i).length)) 49 11 (zI u0 49 11 + nI (i - (fl P i).length)), ?_, fun a t q1 q2 q3 => ?_, fun a t q1 q2 => ?_, ?_, ?_, fT_I (fT_I h4 _ 9 rfl (by decide)) _ 9 rfl (by decide)⟩
    · rw [ce_T_breakWays_L39, (sh4 y i).1, if_neg (nI_nlt (by omega) (by omega)), zin_nI hy (by decide), zgd_t, zx_nI (show y < 2 ^ 31 by omega), nI_1, nI_sub le]
      show K (zsI (zsI u 52 y (nI (fl P i).length)) 49 11 (zI (zsI u 52 y (nI (fl P i).length)) 49 11 + nI (i - (fl P i).length))) (nI x) (nI S) (nI (y + 1)) = _
      rw [gI_sI, if_neg (by omega), h1 49 11 (by omega)]
    · rw [gI_sI, if_neg q2, gI_sI, if_neg q3]; exact h1 a t q1
    · rw [gI_sI, if_neg (by omega), gI_sI, if_neg (by omega)]; exact h2 a t q1 q2
    · rw [gI_sI, if_neg (by omega), gI_sI, if_pos ⟨rfl, rfl⟩]
    · rw [gI_sI, if_pos ⟨rfl, rfl⟩]
  | succ d ih =>
    intro i m u hi hm h1 h2 h4
    obtain ⟨m, rfl⟩ : ∃ k, m = k + 1 := ⟨m - 1, by omega⟩
    have le := fl_le P i
    have at_ : ∀ a, 55 ≤ a → a ≤ 56 → zI u a (4 * y + i) = zI u0 a (4 * y + i) := fun a p q => (h2 a _ p q).trans (cp_at (Nat.le_refl _))
    have st : ce_T_breakWays_L39 n K (m + 1) u (nI x) (nI S) (nI y) (nI (fl P i).length) (nI k) (nI (4 * y + i)) = zbd (ce_T_isOnWay n u (nI (4 * y + i)) (nI x)) fun r2 u3 => if r2 = 0 then (zgd (zin (nI (4 * y + i)) 320) (zgd (zin (nI (4 * y + (fl P i).length)) 320) (zlet (zsI u3 55 (zx (nI (4 * y + (fl P i).length))) (zI u3 55 (zx (nI (4 * y + i))))) fun u5 => zgd (zin (nI (4 * y + i)) 320) (zgd (zin (nI (4 * y + (fl P i).length)) 320) (zlet (zsI u5 56 (zx (nI (4 * y + (fl P i).length))) (zI u5 56 (zx (nI (4 * y + i))))) fun u6 => ce_T_breakWays_L39 n K m u6 (nI x) (nI S) (nI y) (nI ((fl P i).length + 1)) (nI k) (nI (4 * y + (i + 1)))))))) else (ce_T_breakWays_L39 n K m u3 (nI x) (nI S) (nI y) (nI (fl P i).length) (nI k) (nI (4 * y + (i + 1)))) := by
      rw [ce_T_breakWays_L39, (sh4 y k).1, if_pos (nI_lt (by omega) (by omega)), (sh4 y (fl P i).length).1, nI_1, nI_1]
      rfl
    rcases hW i (by omega) u h1 h4 (at_ 55 (by omega) (by omega)) (at_ 56 (by omega) (by omega)) with ⟨p, e⟩ | ⟨p, e⟩
    · rw [st, zbd_e e, if_neg (show ¬ (1 : Int32) = 0 from by decide)]
      have := ih (i + 1) m u (by omega) (by omega) h1 (fun a t q1 q2 => by rw [cp_on p]; exact h2 a t q1 q2) h4
      rw [fl_on p] at this
      exact this
    · rw [st, zbd_e e, if_pos rfl, zin_nI (show 4 * y + i < 320 by omega) (by decide), zgd_t, zin_nI (show 4 * y + (fl P i).length < 320 by omega) (by decide), zgd_t, zx_nI (show 4 * y + i < 2 ^ 31 by omega), zx_nI (show 4 * y + (fl P i).length < 2 ^ 31 by omega)]
      obtain ⟨u8, hu8⟩ : ∃ u8, zsI (zsI u 55 (4 * y + (fl P i).length) (zI u0 55 (4 * y + i))) 56 (4 * y + (fl P i).length) (zI u0 56 (4 * y + i)) = u8 := ⟨_, rfl⟩
      show ∃ v, ce_T_breakWays_L39 n K m (zsI (zsI u 55 (4 * y + (fl P i).length) (zI u 55 (4 * y + i))) 56 (4 * y + (fl P i).length) (zI (zsI u 55 (4 * y + (fl P i).length) (zI u 55 (4 * y + i))) 56 (4 * y + i))) (nI x) (nI S) (nI y) (nI ((fl P i).length + 1)) (nI k) (nI (4 * y + (i + 1))) = _ ∧ _
      have q56 : zI (zsI u 55 (4 * y + (fl P i).length) (zI u 55 (4 * y + i))) 56 (4 * y + i) = zI u0 56 (4 * y + i) := by rw [gI_sI, if_neg (by omega)]; exact at_ 56 (by omega) (by omega)
      rw [q56, at_ 55 (by omega) (by omega), hu8]
      have F8 : fT tgC [9] u0 u8 := by subst hu8; exact fT_I (fT_I h4 _ 9 rfl (by decide)) _ 9 rfl (by decide)
      have o8 : ∀ a t, ¬ ((a = 55 ∨ a = 56) ∧ t = 4 * y + (fl P i).length) → zI u8 a t = zI u a t := fun a t q => by subst hu8; rw [gI_sI, if_neg (by omega), gI_sI, if_neg (by omega)]
      have s8 : ∀ a, a = 55 ∨ a = 56 → zI u8 a (4 * y + (fl P i).length) = zI u0 a (4 * y + i) := by
        intro a q
        subst hu8
        rcases q with rfl | rfl
        · rw [gI_sI, if_neg (by omega), gI_sI, if_pos ⟨rfl, rfl⟩]
        · rw [gI_sI, if_pos ⟨rfl, rfl⟩]
      have := ih (i + 1) m u8 (by omega) (by omega) (fun a t q1 => by rw [o8 a t (by omega)]; exact h1 a t q1) (fun a t q1 q2 => by
        rw [cp_off p]
        by_cases z : t = 4 * y + (fl P i).length
        · rw [if_pos z, z]; exact s8 a (by omega)
        · rw [if_neg z, o8 a t (by omega)]; exact h2 a t q1 q2) F8
      rw [fl_off p, List.length_append, List.length_singleton] at this
      exact this
