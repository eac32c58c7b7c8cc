/-! LEXING, sixth part: keys and names -/
def klL : List Nat := [102, 110, 0, 108, 101, 116, 0, 105, 102, 0, 101, 108, 115, 101, 0, 119, 104, 105, 108, 101, 0, 112, 114, 105, 110, 116, 0, 114, 101, 116, 117, 114, 110, 0, 100, 101, 108, 0, 110, 101, 119, 0, 114, 111, 119, 0, 115, 105, 122, 101, 0, 110, 111, 110, 101, 0]
def kl (j : Nat) : Nat := klL.getD j 0
def kst (k : Nat) : Nat := [0, 3, 7, 10, 15, 21, 27, 34, 38, 42, 46, 51, 56].getD k 0
def kln (k : Nat) : Nat := [2, 3, 2, 4, 5, 5, 6, 3, 3, 3, 4, 4].getD k 0
/-- the keys, as both sides hold them -/
def pKy (ur uc : zMu) : Prop := (∀ j, j < 56 → zI ur 9 j = nI (kl j)) ∧ ∀ k, k < 12 → zL uc 8 k = lN (pkn kl (kst k) (kln k))
theorem key_facts : ∀ k, k < 12 → kst k + kln k < 56 ∧ 1 ≤ kln k ∧ kln k ≤ 6 ∧ kst (k + 1) = kst k + kln k + 1 ∧ kl (kst k + kln k) = 0 ∧ ∀ j, j < kln k → 97 ≤ kl (kst k + j) ∧ kl (kst k + j) ≤ 122 := by decide
def mt (B : Nat → Nat) (p z k : Nat) : Prop := z = kln k ∧ ∀ j, j < z → B (p + j) = kl (kst k + j)
theorem pkn_lt63 {B : Nat → Nat} {b z : Nat} (hz : z ≤ 8) (h : ∀ i, i < z → B (b + i) < 128) : pkn B b z < 2 ^ 63 := by
  by_cases h8 : z = 8
  · subst h8
    have h1 := pkn_lt (B := B) (b := b) (z := 7) (fun i hi => by have := h i (by omega); omega)
    have h2 := h 7 (by omega)
    show pkn B b 7 + B (b + 7) * 256 ^ 7 < 2 ^ 63
    have : B (b + 7) * 256 ^ 7 ≤ 127 * 256 ^ 7 := Nat.mul_le_mul_right _ (by omega)
    omega
  · have h1 := pkn_lt (B := B) (b := b) (z := z) (fun i hi => by have := h i hi; omega)
    have h2 : 256 ^ z ≤ 256 ^ 7 := Nat.pow_le_pow_right (by decide) (by omega)
    omega
theorem mt_iff {B : Nat → Nat} {p z k : Nat} (hk : k < 12) (hz : z ≤ 8) (hal : ∀ i, i < z → alnum (B (p + i))) : lN (pkn kl (kst k) (kln k)) = lN (pkn B p z) ↔ mt B p z k := by
  obtain ⟨k1, k2, k3, k4, k5, k6⟩ := key_facts k hk
  rw [pk_lEQ (pkn_lt63 (by omega) (fun i hi => by have := k6 i hi; omega)) (pkn_lt63 hz (fun i hi => (alnum_lt (hal i hi)).2))]
  rw [pkn_iff (fun i hi => by have := k6 i hi; omega) (fun i hi => by have := alnum_lt (hal i hi); omega)]
  unfold mt
  constructor
  · rintro ⟨e, h⟩; exact ⟨e.symm, fun j hj => (h j (by omega)).symm⟩
  · rintro ⟨e, h⟩; exact ⟨e.symm, fun j hj => (h j (by omega)).symm⟩
theorem r_kstep (n : Nat) {u : zMu} {B : Nat → Nat} {s p z k : Nat} (hs : s ≤ 1500) (hB : ∀ j, B j < 256) (ht : ∀ j, j < s → zI u 2 j = nI (B j)) (hy : ∀ j, j < 56 → zI u 9 j = nI (kl j)) (hpz : p + z ≤ s) (hk : k < 12) {Q : Int32 → zMu → Prop} (hit : mt B p z k → Q (nI k) u) :
    ∀ d m i (f : Int32), kln k - i = d → i ≤ kln k → ((f = 1 ∧ ∀ j, j < i → j < z ∧ B (p + j) = kl (kst k + j)) ∨ (f = 0 ∧ ¬ ∀ j, j < i → j < z ∧ B (p + j) = kl (kst k + j))) → d + 1 ≤ m → (¬ mt B p z k → Wp (rf_keyOf_L11 n (m - (d + 1)) u (nI p) (nI z) (nI (k + 1)) 0 1 (nI (kst (k + 1)))) Q) → Wp (rf_keyOf_L11 n m u (nI p) (nI z) (nI k) (nI i) f (nI (kst k + i))) Q := by
  obtain ⟨k1, k2, k3, k4, k5, k6⟩ := key_facts k hk
  intro d
  induction d with
  | zero =>
    intro m i f hd hi hf hm go
    obtain ⟨m, rfl⟩ : ∃ y, m = y + 1 := ⟨m - 1, by omega⟩
    have ei : i = kln k := by omega
    subst ei
    unfold rf_keyOf_L11
    refine wp_t (nI_lt (b := 56) (by omega) (by decide)) (wp_gd (zin_nI (by omega) (by decide)) ?_)
    rw [zx_nI (by omega), hy _ (by omega), k5]
    refine wp_t rfl ?_
    have nxt : ¬ mt B p z k → Wp (rf_keyOf_L11 n m u (nI p) (nI z) (nI k + 1) 0 1 (nI (kst k + kln k) + 1)) Q := by
      intro g
      rw [nI_1, nI_1, ← k4]
      exact go g
    rcases hf with ⟨rfl, hf⟩ | ⟨rfl, hf⟩
    · refine wp_f (by decide) ?_
      by_cases e : kln k = z
      · refine wp_t (by rw [e]) (wp_some (hit ⟨e.symm, fun j hj => (hf j (by omega)).2⟩))
      · refine wp_f (fun q => e ((nI_eq (by omega) (by omega)).mp q)) (wp_let (wp_let (nxt (fun q => e q.1.symm))))
    · exact wp_t rfl (wp_let (wp_let (nxt (fun q => hf (fun j hj => ⟨by have := q.1; omega, q.2 j (by have := q.1; omega)⟩)))))
  | succ d ih =>
    intro m i f hd hi hf hm go
    obtain ⟨m, rfl⟩ : ∃ y, m = y + 1 := ⟨m - 1, by omega⟩
    unfold rf_keyOf_L11
    have hl := k6 i (by omega)
    refine wp_t (nI_lt (b := 56) (by omega) (by decide)) (wp_gd (zin_nI (by omega) (by decide)) ?_)
    rw [zx_nI (by omega), hy _ (by omega)]
    refine wp_f (fun q => by have := (nI_eq (a := kl (kst k + i)) (b := 0) (by omega) (by decide)).mp q; omega) ?_
    have stp : ∀ f' : Int32, ((f' = 1 ∧ ∀ j, j < i + 1 → j < z ∧ B (p + j) = kl (kst k + j)) ∨ (f' = 0 ∧ ¬ ∀ j, j < i + 1 → j < z ∧ B (p + j) = kl (kst k + j))) → Wp (rf_keyOf_L11 n m u (nI p) (nI z) (nI k) (nI i + 1) f' (nI (kst k + i) + 1)) Q := by
      intro f' hf'
      rw [nI_1, nI_1, Nat.add_assoc]
      exact ih m (i + 1) f' (by omega) (by omega) hf' (by omega) (fun g => by have := go g; rwa [show m + 1 - (d + 1 + 1) = m - (d + 1) by omega] at this)
    by_cases hiz : i < z
    · refine wp_t (nI_lt hiz (by omega)) ?_
      rw [nI_add]
      refine wp_gd (zin_nI (by omega) (by decide)) (wp_gd (zin_nI (by omega) (by decide)) ?_)
      rw [zx_nI (by omega), ht (p + i) (by omega)]
      by_cases e : B (p + i) = kl (kst k + i)
      · refine wp_t (by rw [e]) (wp_let (wp_let (stp f ?_)))
        rcases hf with ⟨rfl, hf⟩ | ⟨rfl, hf⟩
        · refine Or.inl ⟨rfl, fun j hj => ?_⟩
          by_cases ej : j = i
          · subst ej; exact ⟨hiz, e⟩
          · exact hf j (by omega)
        · exact Or.inr ⟨rfl, fun g => hf (fun j hj => g j (by omega))⟩
      · refine wp_f (fun q => e ((nI_eq (by have := hB (p + i); omega) (by omega)).mp q)) (wp_let (wp_let (stp 0 (Or.inr ⟨rfl, fun g => e (g i (by omega)).2⟩))))
    · exact wp_f (nI_nlt (by omega) (by omega)) (wp_let (wp_let (stp 0 (Or.inr ⟨rfl, fun g => hiz (g i (by omega)).1⟩))))
/-- the reference's search of the keys -/
theorem r_keyOf (n : Nat) (hn : 2000 ≤ n) {u : zMu} {B : Nat → Nat} {s p z : Nat} (hs : s ≤ 1500) (hB : ∀ j, B j < 256) (ht : ∀ j, j < s → zI u 2 j = nI (B j)) (hy : ∀ j, j < 56 → zI u 9 j = nI (kl j)) (hpz : p + z ≤ s) {Q : Int32 → zMu → Prop} (hit : ∀ k, k < 12 → (∀ i, i < k → ¬ mt B p z i) → mt B p z k → Q (nI k) u) (no : (∀ k, k < 12 → ¬ mt B p z k) → Q (-1) u) : Wp (rf_keyOf n u (nI p) (nI z)) Q := by
  unfold rf_keyOf
  have main : ∀ d k m, 12 - k = d → k ≤ 12 → (∀ i, i < k → ¬ mt B p z i) → 57 - kst k ≤ m → Wp (rf_keyOf_L11 n m u (nI p) (nI z) (nI k) 0 1 (nI (kst k))) Q := by
    intro d
    induction d with
    | zero =>
      intro k m hd hk hno hm
      have ek : k = 12 := by omega
      subst ek
      have e56 : kst 12 = 56 := rfl
      rw [e56] at hm ⊢
      obtain ⟨m, rfl⟩ : ∃ y, m = y + 1 := ⟨m - 1, by omega⟩
      unfold rf_keyOf_L11
      exact wp_f (nI_nlt (a := 56) (b := 56) (by omega) (by decide)) (wp_some (no hno))
    | succ d ih =>
      intro k m hd hk hno hm
      obtain ⟨k1, k2, k3, k4, k5, k6⟩ := key_facts k (by omega)
      refine r_kstep n hs hB ht hy hpz (by omega) (hit k (by omega) hno) (kln k) m 0 1 (by omega) (by omega) (Or.inl ⟨rfl, fun j hj => by omega⟩) (by omega) (fun g => ?_)
      refine ih (k + 1) _ (by omega) (by omega) (fun i hi => ?_) (by omega)
      by_cases e : i = k
      · subst e; exact g
      · exact hno i (by omega)
  exact main 12 0 n rfl (by omega) (fun i hi => by omega) (by have : kst 0 = 0 := rfl; omega)
theorem c_kindOf (n : Nat) (hn : 2000 ≤ n) {u : zMu} {B : Nat → Nat} {p z : Nat} (hy : ∀ k, k < 12 → zL u 8 k = lN (pkn kl (kst k) (kln k))) (hz : z ≤ 8) (hal : ∀ i, i < z → alnum (B (p + i))) {Q : Int32 → zMu → Prop} (hit : ∀ k, k < 12 → (∀ i, i < k → ¬ mt B p z i) → mt B p z k → Q (nI (300 + k)) u) (no : (∀ k, k < 12 → ¬ mt B p z k) → Q 259 u) : Wp (ce_X_kindOf n u (lN (pkn B p z))) Q := by
  unfold ce_X_kindOf
  have main : ∀ d k m, 12 - k = d → k ≤ 12 → (∀ i, i < k → ¬ mt B p z i) → d < m → Wp (ce_X_kindOf_L2 n m u (lN (pkn B p z)) (nI k)) Q := by
    intro d
    induction d with
    | zero =>
      intro k m hd hk hno hm
      have ek : k = 12 := by omega
      subst ek
      obtain ⟨m, rfl⟩ : ∃ y, m = y + 1 := ⟨m - 1, by omega⟩
      unfold ce_X_kindOf_L2
      exact wp_f (nI_nlt (a := 12) (b := 12) (by omega) (by decide)) (wp_some (no hno))
    | succ d ih =>
      intro k m hd hk hno hm
      obtain ⟨m, rfl⟩ : ∃ y, m = y + 1 := ⟨m - 1, by omega⟩
      unfold ce_X_kindOf_L2
      refine wp_t (nI_lt (b := 12) (by omega) (by decide)) (wp_gd (zin_nI (by omega) (by decide)) ?_)
      rw [zx_nI (by omega), hy k (by omega)]
      by_cases e : mt B p z k
      · refine wp_t ((lgc_eq _ _).mpr ((mt_iff (by omega) hz hal).mpr e)) (wp_some ?_)
        rw [show (300 : Int32) + nI k = nI (300 + k) from nI_add 300 k]
        exact hit k (by omega) hno e
      · refine wp_f (fun q => e ((mt_iff (by omega) hz hal).mp ((lgc_eq _ _).mp q))) (wp_let ?_)
        rw [nI_1]
        refine ih (k + 1) m (by omega) (by omega) (fun i hi => ?_) (by omega)
        by_cases e2 : i = k
        · subst e2; exact e
        · exact hno i (by omega)
  exact main 12 0 n rfl (by omega) (fun i hi => by omega) (by omega)
