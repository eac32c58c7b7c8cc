/-! LEXING, seventh part: names, a word's token on both sides -/
def nmU (u : zMu) (N p z : Nat) : zMu := zsI (zsI (zsI u 7 N (nI p)) 8 N (nI z)) 0 13 (nI (N + 1))
theorem fR_nm {u : zMu} {N p z : Nat} : fR u (nmU u N p z) := fR_tr (fR_tr (fR_set (by unfold pcR; omega)) (fR_set (by unfold pcR; omega))) (fR_set (by unfold pcR; omega))
theorem r_nloop (n : Nat) {u : zMu} {B : Nat → Nat} {s p z b w : Nat} (k2 : zMu → Int32 → Int32 → Int32 → Option (Int32 × zMu)) (hs : s ≤ 1500) (hB : ∀ j, B j < 256) (ht : ∀ j, j < s → zI u 2 j = nI (B j)) (hpz : p + z ≤ s) (hbz : b + z ≤ s) (hw : w < 1500) (hb : zI u 7 w = nI b) {Q : Int32 → zMu → Prop} (yes : (∀ j, j < z → B (b + j) = B (p + j)) → Q (nI w) u) (no : (¬ ∀ j, j < z → B (b + j) = B (p + j)) → Wp (k2 u (nI p) (nI z) (nI w + 1)) Q) :
    ∀ d m i, z - i = d → i ≤ z → d < m → (∀ j, j < i → B (b + j) = B (p + j)) → Wp (rf_nameOf_L30 n k2 m u (nI p) (nI z) (nI w) 1 (nI i)) Q := by
  have j0 : (¬ ∀ j, j < z → B (b + j) = B (p + j)) → Wp (rf_nameOf_J80 n k2 u (nI p) (nI z) (nI w) 0) Q := fun g => by
    unfold rf_nameOf_J80
    exact wp_t rfl (wp_let (no g))
  intro d
  induction d with
  | zero =>
    intro m i hd hi hm hj
    obtain ⟨m, rfl⟩ : ∃ y, m = y + 1 := ⟨m - 1, by omega⟩
    unfold rf_nameOf_L30 rf_nameOf_J80
    exact wp_f (nI_nlt (by omega) (by omega)) (wp_f (by decide) (wp_some (yes (fun j hj' => hj j (by omega)))))
  | succ d ih =>
    intro m i hd hi hm hj
    obtain ⟨m, rfl⟩ : ∃ y, m = y + 1 := ⟨m - 1, by omega⟩
    unfold rf_nameOf_L30
    refine wp_t (nI_lt (by omega) (by omega)) (wp_f (by decide) (wp_gd (zin_nI (by omega) (by decide)) ?_))
    rw [zx_nI (by omega), hb, nI_add, nI_add]
    refine wp_gd (zin_nI (by omega) (by decide)) (wp_gd (zin_nI (by omega) (by decide)) ?_)
    rw [zx_nI (by omega), zx_nI (by omega), ht _ (by omega), ht _ (by omega)]
    by_cases e : B (b + i) = B (p + i)
    · refine wp_t (by rw [e]) (wp_let ?_)
      rw [nI_1]
      refine ih m (i + 1) (by omega) (by omega) (by omega) (fun j hj' => ?_)
      by_cases e2 : j = i
      · subst e2; exact e
      · exact hj j (by omega)
    · refine wp_f (fun q => e ((nI_eq (by have := hB (b + i); omega) (by have := hB (p + i); omega)).mp q)) (wp_let ?_)
      have g : ¬ ∀ j, j < z → B (b + j) = B (p + j) := fun q => e (q i (by omega))
      obtain ⟨m, rfl⟩ : ∃ y, m = y + 1 := ⟨m - 1, by omega⟩
      rw [nI_1]
      unfold rf_nameOf_L30
      by_cases h : i + 1 < z
      · exact wp_t (nI_lt h (by omega)) (wp_t rfl (j0 g))
      · exact wp_f (nI_nlt (by omega) (by omega)) (j0 g)
theorem r_nloop0 (n : Nat) {u : zMu} {p z w : Nat} (k2 : zMu → Int32 → Int32 → Int32 → Option (Int32 × zMu)) (hz : 1 ≤ z) (hz2 : z ≤ 8) {m : Nat} (hm : 1 ≤ m) {Q : Int32 → zMu → Prop} (no : Wp (k2 u (nI p) (nI z) (nI w + 1)) Q) : Wp (rf_nameOf_L30 n k2 m u (nI p) (nI z) (nI w) 0 0) Q := by
  obtain ⟨m, rfl⟩ : ∃ y, m = y + 1 := ⟨m - 1, by omega⟩
  unfold rf_nameOf_L30 rf_nameOf_J80
  exact wp_t (nI_lt (a := 0) (by omega) (by omega)) (wp_t rfl (wp_t rfl (wp_let no)))
/-- the reference's search of the names -/
theorem r_nameOf (n : Nat) (hn : 2000 ≤ n) {u : zMu} {B : Nat → Nat} {s p z N : Nat} {PK : Nat → Int64} (hs : s ≤ 1500) (hB : ∀ j, B j < 256) (ht : ∀ j, j < s → zI u 2 j = nI (B j)) (hN : zI u 0 13 = nI N) (hN2 : N < 1500) (hnm : ∀ w, w < N → nmR B s PK u w) (hpz : p + z ≤ s) (hz : 1 ≤ z) (hz2 : z ≤ 8) (hal : ∀ i, i < z → alnum (B (p + i))) {Q : Int32 → zMu → Prop} (old : ∀ w, w < N → PK w = lN (pkn B p z) → Q (nI w) u) (new : (∀ w, w < N → PK w ≠ lN (pkn B p z)) → Q (nI N) (nmU u N p z)) : Wp (rf_nameOf n u (nI p) (nI z)) Q := by
  unfold rf_nameOf
  have main : ∀ d w m, N - w = d → w ≤ N → d < m → (∀ v, v < w → PK v ≠ lN (pkn B p z)) → Wp (rf_nameOf_L2 n m u (nI p) (nI z) (nI w)) Q := by
    intro d
    induction d with
    | zero =>
      intro w m hd hw hm hno
      obtain ⟨m, rfl⟩ : ∃ y, m = y + 1 := ⟨m - 1, by omega⟩
      have ew : w = N := by omega
      subst ew
      unfold rf_nameOf_L2
      rw [hN]
      refine wp_f (nI_nlt (by omega) (by omega)) (wp_gd (zin_nI hN2 (by decide)) (wp_let ?_))
      rw [zx_nI (by omega), gI_sI, if_neg (by omega), hN]
      refine wp_gd (zin_nI hN2 (by decide)) (wp_let (wp_let (wp_let (wp_some ?_))))
      rw [zx_nI (by omega), gI_sI, if_neg (by omega), gI_sI, if_neg (by omega), hN, nI_1]
      exact new hno
    | succ d ih =>
      intro w m hd hw hm hno
      obtain ⟨m, rfl⟩ : ∃ y, m = y + 1 := ⟨m - 1, by omega⟩
      obtain ⟨b, y, b1, b2, b3, b4, b5, b6, b7⟩ := hnm w (by omega)
      have hiff : PK w = lN (pkn B p z) ↔ y = z ∧ ∀ i, i < y → B (b + i) = B (p + i) := by
        rw [b7, pk_lEQ (pkn_lt63 b4 (fun i hi => (alnum_lt (b6 i hi)).2)) (pkn_lt63 hz2 (fun i hi => (alnum_lt (hal i hi)).2))]
        exact pkn_iff (fun i hi => by have := alnum_lt (b6 i hi); omega) (fun i hi => by have := alnum_lt (hal i hi); omega)
      have nxt : PK w ≠ lN (pkn B p z) → Wp (rf_nameOf_L2 n m u (nI p) (nI z) (nI w + 1)) Q := by
        intro g
        rw [nI_1]
        refine ih (w + 1) m (by omega) (by omega) (by omega) (fun v hv => ?_)
        by_cases e : v = w
        · subst e; exact g
        · exact hno v (by omega)
      unfold rf_nameOf_L2
      rw [hN]
      refine wp_t (nI_lt (by omega) (by omega)) (wp_gd (zin_nI (by omega) (by decide)) ?_)
      rw [zx_nI (by omega), b2]
      by_cases e : y = z
      · subst e
        refine wp_t rfl (r_nloop n (rf_nameOf_L2 n m) hs hB ht hpz b5 (by omega) b1 (fun g => old w (by omega) (hiff.mpr ⟨rfl, g⟩)) (fun g => nxt (fun q => g (hiff.mp q).2)) y n 0 (by omega) (by omega) (by omega) (fun j hj => by omega))
      · refine wp_f (fun q => e ((nI_eq (by omega) (by omega)).mp q)) (r_nloop0 n (rf_nameOf_L2 n m) hz hz2 (by omega) (nxt (fun q => e (hiff.mp q).1)))
  exact main N 0 n (by omega) (by omega) (by omega) (fun v hv => by omega)
theorem pLex_nm {B : Nat → Nat} {s : Nat} {PK : Nat → Int64} {ur uc : zMu} {T N p z : Nat} {rk ck pl : Nat → Nat} (h : pLex B s PK ur uc T N p rk ck pl) (hz : 1 ≤ z) (hz2 : z ≤ 8) (hpz : p + z ≤ s) (hal : ∀ i, i < z → alnum (B (p + i))) (hne : ∀ w, w < N → PK w ≠ lN (pkn B p z)) :
    ∃ PK', (∀ w, w < N → PK' w = PK w) ∧ PK' N = lN (pkn B p z) ∧ zI (nmU ur N p z) 0 9 = nI T ∧ (∀ t, t < T → tkR PK' (N + 1) (nmU ur N p z) uc t (rk t) (ck t) (pl t)) ∧ (∀ w, w < N + 1 → nmR B s PK' (nmU ur N p z) w) ∧ (∀ w w', w < N + 1 → w' < N + 1 → PK' w = PK' w' → w = w') := by
  obtain ⟨h1, h2, h3, h4, h5, h6, h7, h8, h9, h10, -⟩ := h
  refine ⟨fun w => if w = N then lN (pkn B p z) else PK w, fun w hw => if_neg (by omega), if_pos rfl, ?_, fun t ht => ?_, fun w hw => ?_, fun w w' hw hw' e => ?_⟩
  · simp [nmU, gI_sI, h1]
  · obtain ⟨⟨a1, a2, a3, a4, a5, a6⟩, -⟩ := h7 t ht
    refine ⟨a1, ?_, a3, ?_, a5, ?_⟩
    · simp [nmU, gI_sI, a2]
    · simp [nmU, gI_sI, a4]
    · have e1 : zI (nmU ur N p z) 6 t = zI ur 6 t := by simp [nmU, gI_sI]
      rw [e1]
      refine ⟨a6.1, fun q => ?_⟩
      obtain ⟨w, w1, w2, w3⟩ := a6.2 q
      exact ⟨w, by omega, w2, w3.trans (if_neg (by omega)).symm⟩
  · by_cases e : w = N
    · subst e
      refine ⟨p, z, ?_, ?_, hz, hz2, hpz, hal, if_pos rfl⟩
      · simp [nmU, gI_sI]
      · simp [nmU, gI_sI]
    · obtain ⟨b, y, b1, b2, b3⟩ := h9 w (by omega)
      refine ⟨b, y, ?_, ?_, b3.1, b3.2.1, b3.2.2.1, b3.2.2.2.1, (if_neg e).trans b3.2.2.2.2⟩
      · simp [nmU, gI_sI, e, b1]
      · simp [nmU, gI_sI, e, b2]
  · by_cases e1 : w = N
    · by_cases e2 : w' = N
      · omega
      · simp only [e1, e2, if_true, if_false] at e
        exact absurd e.symm (hne w' (by omega))
    · by_cases e2 : w' = N
      · simp only [e1, e2, if_true, if_false] at e
        exact absurd e (hne w (by omega))
      · simp only [e1, e2, if_false] at e
        exact h10 w w' (by omega) (by omega) e
