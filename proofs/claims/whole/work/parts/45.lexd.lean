/-! LEXING, fourth part: frames, numbers -/
/-- what cutting a text may change, in the reference -/
def pcR (k j : Nat) : Prop := (k = 0 ∧ (j = 9 ∨ j = 13)) ∨ (4 ≤ k ∧ k ≤ 8)
def fR (u v : zMu) : Prop := v.2 = u.2 ∧ ∀ k j, ¬ pcR k j → zI v k j = zI u k j
/-- and in the class -/
def pcC (p k : Nat) : Prop := 7 ≤ k ∧ k ≤ 11 ∧ k ≠ 8 ∧ 0 ≤ p
def fC (p : Nat) (u v : zMu) : Prop := (∀ k j, ¬ pcC p k → zI v k j = zI u k j) ∧ (∀ k j, ¬ pcC p k → zL v k j = zL u k j) ∧ (∀ k j, zR v k j = zR u k j) ∧ v.2.2.2 = u.2.2.2
theorem fR_rf {u : zMu} : fR u u := ⟨rfl, fun _ _ _ => rfl⟩
theorem fR_tr {u v w : zMu} (h : fR u v) (k : fR v w) : fR u w := ⟨k.1.trans h.1, fun a b n => (k.2 a b n).trans (h.2 a b n)⟩
theorem fR_set {u : zMu} {k j : Nat} {v : Int32} (h : pcR k j) : fR u (zsI u k j v) := ⟨rfl, fun a b n => by rw [gI_sI, if_neg]; rintro ⟨rfl, rfl⟩; exact n h⟩
theorem fC_rf {p : Nat} {u : zMu} : fC p u u := ⟨fun _ _ _ => rfl, fun _ _ _ => rfl, fun _ _ => rfl, rfl⟩
theorem fC_tr {p : Nat} {u v w : zMu} (h : fC p u v) (k : fC p v w) : fC p u w := ⟨fun a b n => (k.1 a b n).trans (h.1 a b n), fun a b n => (k.2.1 a b n).trans (h.2.1 a b n), fun a b => (k.2.2.1 a b).trans (h.2.2.1 a b), k.2.2.2.trans h.2.2.2⟩
theorem fC_setI {p : Nat} {u : zMu} {k j : Nat} {v : Int32} (h : pcC p k) : fC p u (zsI u k j v) := ⟨fun a b n => by rw [gI_sI, if_neg]; rintro ⟨rfl, rfl⟩; exact n h, fun _ _ _ => rfl, fun _ _ => rfl, rfl⟩
theorem fC_setL {p : Nat} {u : zMu} {k j : Nat} {v : Int64} (h : pcC p k) : fC p u (zsL u k j v) := ⟨fun _ _ _ => rfl, fun a b n => by rw [gL_sL, if_neg]; rintro ⟨rfl, rfl⟩; exact n h, fun _ _ => rfl, rfl⟩
theorem fR_tok {u : zMu} {T : Nat} {a b c : Int32} : fR u (tokR u T a b c) := fR_tr (fR_tr (fR_tr (fR_set (by unfold pcR; omega)) (fR_set (by unfold pcR; omega))) (fR_set (by unfold pcR; omega))) (fR_set (by unfold pcR; omega))
theorem fC_tok {p : Nat} {u : zMu} {T : Nat} {a b : Int32} {c : Int64} : fC p u (tokC u T a b c) := fC_tr (fC_tr (fC_tr (fC_setI (by unfold pcC; omega)) (fC_setI (by unfold pcC; omega))) (fC_setL (by unfold pcC; omega))) (fC_setI (by unfold pcC; omega))
theorem pTx_keep {B : Nat → Nat} {s : Nat} {ur uc vr vc : zMu} {p : Nat} (hp : 12 ≤ p) (h : pTx B s ur uc) (hr : fR ur vr) (hc : fC p uc vc) : pTx B s vr vc :=
  ⟨h.1, h.2.1, by rw [hr.2 0 4 (by unfold pcR; omega)]; exact h.2.2.1, fun j hj => by rw [hr.2 2 j (by unfold pcR; omega)]; exact h.2.2.2.1 j hj, fun j hj => by rw [hc.1 1 j (by unfold pcC; omega)]; exact h.2.2.2.2 j hj⟩
theorem lgc_gt (x y : Int64) : 0 < lg_cmp x y ↔ y < x := by
  unfold lg_cmp
  by_cases h : x > y
  · rw [if_pos h]; exact ⟨fun _ => h, fun _ => by decide⟩
  · rw [if_neg h]
    refine ⟨fun q => ?_, fun q => absurd q h⟩
    by_cases e : x = y
    · rw [if_pos e] at q; exact absurd q (by decide)
    · rw [if_neg e] at q; exact absurd q (by decide)
theorem lgc_eq (x y : Int64) : lg_cmp x y = 0 ↔ x = y := by
  unfold lg_cmp
  by_cases h : x > y
  · rw [if_pos h]
    refine ⟨fun q => absurd q (by decide), fun q => ?_⟩
    subst q
    exact absurd h (by rw [gt_iff_lt, Int64.lt_iff_toInt_lt]; omega)
  · rw [if_neg h]
    by_cases e : x = y
    · rw [if_pos e]; exact ⟨fun _ => e, fun _ => rfl⟩
    · rw [if_neg e]; exact ⟨fun q => absurd q (by decide), fun q => absurd q e⟩
def dec (B : Nat → Nat) (p : Nat) : Nat → Nat
  | 0 => 0
  | d + 1 => 10 * dec B p d + (B (p + d) - 48)
theorem dec_lt {B : Nat → Nat} {p : Nat} : ∀ d, (∀ i, i < d → isDi (B (p + i))) → dec B p d < 10 ^ d
  | 0, _ => by simp [dec]
  | d + 1, h => by
    have h1 := dec_lt d (fun i hi => h i (by omega))
    have h2 := h d (by omega)
    unfold isDi at h2
    show 10 * dec B p d + (B (p + d) - 48) < 10 ^ (d + 1)
    rw [Nat.pow_succ]
    omega
def dcw (B : Nat → Nat) (p i c : Nat) : Int64 := lN (dec B p (if i - p < c then i - p else c))
theorem r_nscan (n : Nat) {u : zMu} {B : Nat → Nat} {s : Nat} (hs : s ≤ 1500) (hB : ∀ j, B j < 256) (hz : zI u 0 4 = nI s) (ht : ∀ j, j < s → zI u 2 j = nI (B j)) {p e : Nat} (he : e ≤ s) (hal : ∀ i, p ≤ i → i < e → isDi (B i)) (hend : e = s ∨ ¬ isDi (B e)) {Q : Int32 → zMu → Prop} (k : Wp (rf_number_J56 n u (nI p) (nI e) (dcw B p e 10)) Q) :
    ∀ m i, e - i < m → p ≤ i → i ≤ e → Wp (rf_number_L4 n m u (nI p) (nI i) (dcw B p i 10)) Q := by
  intro m
  induction m with
  | zero => intro i h; omega
  | succ m ih =>
    intro i hm hp hi
    unfold rf_number_L4
    rw [hz]
    by_cases h : i < s
    · refine wp_t (nI_lt h (by omega)) (wp_gd (zin_nI (by omega) (by omega)) ?_)
      rw [zx_nI (by omega), ht i h]
      obtain ⟨r, e1, e2⟩ := r_isDigit n u (hB i)
      refine wp_bd ⟨r, u, e1, ?_⟩
      by_cases hie : i < e
      · have hd := hal i hp hie
        refine wp_f (fun q => e2.mp q hd) ?_
        rw [pk_sub hp]
        unfold isDi at hd
        by_cases h8 : i - p < 10
        · refine wp_t (nI_lt (b := 10) h8 (by decide)) (wp_gd (zin_nI (by omega) (by omega)) (wp_let (wp_let ?_)))
          rw [ht i h, nI_l (by omega), nI_1]
          have e3 : 10 * dcw B p i 10 + lN (B i) - 48 = dcw B p (i + 1) 10 := by
            unfold dcw
            rw [if_pos h8]
            have e2 : (if i + 1 - p < 10 then i + 1 - p else 10) = (i - p) + 1 := by split <;> omega
            rw [e2]
            show lN 10 * lN _ + lN _ - lN 48 = lN (10 * dec B p (i - p) + (B (p + (i - p)) - 48))
            rw [lN_mul, lN_add, lN_sub (by omega), show p + (i - p) = i by omega, Nat.add_sub_assoc hd.1]
          rw [e3]
          exact ih (i + 1) (by omega) (by omega) (by omega)
        · refine wp_f (nI_nlt (b := 10) (by omega) (by omega)) (wp_let ?_)
          rw [nI_1]
          have e1 : dcw B p i 10 = dcw B p (i + 1) 10 := by unfold dcw; rw [if_neg h8, if_neg (by omega)]
          rw [e1]
          exact ih (i + 1) (by omega) (by omega) (by omega)
      · have ei : i = e := by omega
        subst ei
        have hne : ¬ isDi (B i) := hend.elim (fun q => absurd h (by omega)) id
        exact wp_t (e2.mpr hne) k
    · have ei : i = e := by omega
      subst ei
      exact wp_f (nI_nlt (by omega) (by omega)) k
theorem c_nscan (n : Nat) {u : zMu} {B : Nat → Nat} {s : Nat} (hs : s ≤ 1500) (hB : ∀ j, B j < 256) (ht : ∀ j, j < s → zI u 1 j = sb (B j)) {p e : Nat} (he : e ≤ s) (hal : ∀ i, p ≤ i → i < e → isDi (B i)) (hend : e = s ∨ ¬ isDi (B e)) {Q : Int32 → zMu → Prop} (k : Wp (ce_X_takeNumber_J54 n u (nI p) (nI e) (dcw B p e 9)) Q) :
    ∀ m i, e - i < m → p ≤ i → i ≤ e → Wp (ce_X_takeNumber_L6 n m u (nI s) (nI p) (nI i) (dcw B p i 9)) Q := by
  intro m
  induction m with
  | zero => intro i h; omega
  | succ m ih =>
    intro i hm hp hi
    unfold ce_X_takeNumber_L6
    by_cases h : i < s
    · refine wp_t (nI_lt h (by omega)) (wp_gd (zin_nI (by omega) (by omega)) ?_)
      rw [zx_nI (by omega), ht i h]
      obtain ⟨r, e1, e2⟩ := c_isDigit n u (hB i)
      refine wp_bd ⟨r, u, e1, ?_⟩
      by_cases hie : i < e
      · have hd := hal i hp hie
        refine wp_f (fun q => e2.mp q hd) ?_
        rw [pk_sub hp]
        unfold isDi at hd
        by_cases h8 : i - p < 9
        · refine wp_t (nI_lt (b := 9) h8 (by decide)) (wp_gd (zin_nI (by omega) (by omega)) (wp_let (wp_let ?_)))
          rw [ht i h, sb_low (by omega), show nI (B i) - 48 = nI (B i - 48) from pk_sub (b := 48) hd.1, nI_l (by omega), nI_1]
          have e3 : dcw B p i 9 * 10 + lN (B i - 48) = dcw B p (i + 1) 9 := by
            unfold dcw
            rw [if_pos h8]
            have e2 : (if i + 1 - p < 9 then i + 1 - p else 9) = (i - p) + 1 := by split <;> omega
            rw [e2]
            show lN _ * lN 10 + lN _ = lN (10 * dec B p (i - p) + (B (p + (i - p)) - 48))
            rw [lN_mul, lN_add, show p + (i - p) = i by omega, Nat.mul_comm]
          rw [e3]
          exact ih (i + 1) (by omega) (by omega) (by omega)
        · refine wp_f (nI_nlt (b := 9) (by omega) (by omega)) (wp_let ?_)
          rw [nI_1]
          have e1 : dcw B p i 9 = dcw B p (i + 1) 9 := by unfold dcw; rw [if_neg h8, if_neg (by omega)]
          rw [e1]
          exact ih (i + 1) (by omega) (by omega) (by omega)
      · have ei : i = e := by omega
        subst ei
        have hne : ¬ isDi (B i) := hend.elim (fun q => absurd h (by omega)) id
        exact wp_t (e2.mpr hne) k
    · have ei : i = e := by omega
      subst ei
      exact wp_f (nI_nlt (by omega) (by omega)) k
