/-! LEXING, first part: words as numbers, letters, scanning -/
def pkn (B : Nat → Nat) (b : Nat) : Nat → Nat
  | 0 => 0
  | z + 1 => pkn B b z + B (b + z) * 256 ^ z
theorem pkn_lt {B : Nat → Nat} {b : Nat} : ∀ {z : Nat}, (∀ i, i < z → B (b + i) < 256) → pkn B b z < 256 ^ z
  | 0, _ => by simp [pkn]
  | z + 1, h => by
    have h1 := pkn_lt (B := B) (b := b) (z := z) (fun i hi => h i (by omega))
    have h2 : B (b + z) ≤ 255 := by have := h z (by omega); omega
    have h3 : B (b + z) * 256 ^ z ≤ 255 * 256 ^ z := Nat.mul_le_mul_right _ h2
    show pkn B b z + B (b + z) * 256 ^ z < 256 ^ (z + 1)
    rw [Nat.pow_succ]
    omega
theorem pkn_ge {B : Nat → Nat} {b z : Nat} (h : 1 ≤ B (b + z)) : 256 ^ z ≤ pkn B b (z + 1) := by
  show 256 ^ z ≤ pkn B b z + B (b + z) * 256 ^ z
  have : 1 * 256 ^ z ≤ B (b + z) * 256 ^ z := Nat.mul_le_mul_right _ h
  omega
theorem pkn_inj1 {B B' : Nat → Nat} {b b' : Nat} : ∀ (z : Nat), (∀ i, i < z → B (b + i) < 256) → (∀ i, i < z → B' (b' + i) < 256) → pkn B b z = pkn B' b' z → ∀ i, i < z → B (b + i) = B' (b' + i)
  | 0, _, _, _, i, hi => absurd hi (Nat.not_lt_zero i)
  | z + 1, h, h', e, i, hi => by
    have l1 := pkn_lt (B := B) (b := b) (z := z) (fun i hi => h i (by omega))
    have l2 := pkn_lt (B := B') (b := b') (z := z) (fun i hi => h' i (by omega))
    have e : pkn B b z + B (b + z) * 256 ^ z = pkn B' b' z + B' (b' + z) * 256 ^ z := e
    have m1 : (pkn B b z + B (b + z) * 256 ^ z) / 256 ^ z = B (b + z) := by
      rw [Nat.add_mul_div_right _ _ (Nat.pow_pos (by decide)), Nat.div_eq_of_lt l1, Nat.zero_add]
    have m2 : (pkn B' b' z + B' (b' + z) * 256 ^ z) / 256 ^ z = B' (b' + z) := by
      rw [Nat.add_mul_div_right _ _ (Nat.pow_pos (by decide)), Nat.div_eq_of_lt l2, Nat.zero_add]
    have et : B (b + z) = B' (b' + z) := by rw [← m1, ← m2, e]
    by_cases hz : i = z
    · subst hz; exact et
    · rw [et] at e
      exact pkn_inj1 z (fun i hi => h i (by omega)) (fun i hi => h' i (by omega)) (by omega) i (by omega)
theorem pkn_size {B B' : Nat → Nat} {b b' z z' : Nat} (h : ∀ i, i < z → B (b + i) < 256) (h' : ∀ i, i < z' → 1 ≤ B' (b' + i)) (hz : z < z') : pkn B b z ≠ pkn B' b' z' := by
  have l1 := pkn_lt h
  obtain ⟨y, rfl⟩ : ∃ y, z' = y + 1 := ⟨z' - 1, by omega⟩
  have l2 := pkn_ge (B := B') (b := b') (z := y) (h' y (by omega))
  have l3 : 256 ^ z ≤ 256 ^ y := Nat.pow_le_pow_right (by decide) (by omega)
  omega
/-- words are told by their numbers -/
theorem pkn_iff {B B' : Nat → Nat} {b b' z z' : Nat} (h : ∀ i, i < z → 1 ≤ B (b + i) ∧ B (b + i) < 256) (h' : ∀ i, i < z' → 1 ≤ B' (b' + i) ∧ B' (b' + i) < 256) : pkn B b z = pkn B' b' z' ↔ z = z' ∧ ∀ i, i < z → B (b + i) = B' (b' + i) := by
  constructor
  · intro e
    rcases Nat.lt_trichotomy z z' with q | q | q
    · exact absurd e (pkn_size (fun i hi => (h i hi).2) (fun i hi => (h' i hi).1) q)
    · subst q
      exact ⟨rfl, pkn_inj1 _ (fun i hi => (h i hi).2) (fun i hi => (h' i hi).2) e⟩
    · exact absurd e.symm (pkn_size (fun i hi => (h' i hi).2) (fun i hi => (h i hi).1) q)
  · rintro ⟨rfl, e⟩
    clear h h'
    induction z with
    | zero => rfl
    | succ z ih =>
      show pkn B b z + B (b + z) * 256 ^ z = pkn B' b' z + B' (b' + z) * 256 ^ z
      rw [ih (fun i hi => e i (by omega)), e z (by omega)]
def isLe (c : Nat) : Prop := 97 ≤ c ∧ c ≤ 122
def isDi (c : Nat) : Prop := 48 ≤ c ∧ c ≤ 57
/-- a byte as the class holds it -/
def sb (c : Nat) : Int32 := (nI c).toInt8.toInt32
set_option maxRecDepth 20000 in
theorem sb_low {c : Nat} (h : c < 128) : sb c = nI c := by
  have : ∀ c, c < 128 → sb c = nI c := by decide
  exact this c h
set_option maxRecDepth 20000 in
theorem sb_high {c : Nat} (h1 : 128 ≤ c) (h2 : c < 256) : sb c < 0 := by
  have : ∀ c, c < 256 → 128 ≤ c → sb c < 0 := by decide
  exact this c h2 h1
theorem ltL {c n : Nat} (h : c < n) (hn : n < 2 ^ 31) : nI c < (OfNat.ofNat n : Int32) := nI_lt h hn
theorem nltL {c n : Nat} (h : n ≤ c) (hc : c < 2 ^ 31) : ¬ nI c < (OfNat.ofNat n : Int32) := nI_nlt h hc
theorem Llt {c n : Nat} (h : n < c) (hc : c < 2 ^ 31) : (OfNat.ofNat n : Int32) < nI c := nI_lt h hc
theorem nLlt {c n : Nat} (h : c ≤ n) (hn : n < 2 ^ 31) : ¬ (OfNat.ofNat n : Int32) < nI c := nI_nlt h hn
theorem eqL {c n : Nat} (hc : c < 2 ^ 31) (hn : n < 2 ^ 31) : nI c = (OfNat.ofNat n : Int32) ↔ c = n := nI_eq hc hn
theorem r_isLetter (n : Nat) (u : zMu) {c : Nat} (hc : c < 256) : ∃ r, rf_isLetter n u (nI c) = some (r, u) ∧ (r = 0 ↔ ¬ isLe c) := by
  unfold rf_isLetter
  by_cases h1 : c < 97
  · exact ⟨0, by rw [if_pos (show nI c < 97 from nI_lt (b := 97) h1 (by decide))], fun _ h => by unfold isLe at h; omega, fun _ => rfl⟩
  · rw [if_neg (show ¬ nI c < 97 from nI_nlt (b := 97) (by omega) (by omega))]
    by_cases h2 : 122 < c
    · exact ⟨0, by rw [if_pos (show 122 < nI c from nI_lt (a := 122) h2 (by omega))], fun _ h => by unfold isLe at h; omega, fun _ => rfl⟩
    · exact ⟨1, by rw [if_neg (show ¬ 122 < nI c from nI_nlt (a := 122) (by omega) (by omega))], fun h => absurd h (by decide), fun h => absurd ⟨by omega, by omega⟩ h⟩
theorem r_isDigit (n : Nat) (u : zMu) {c : Nat} (hc : c < 256) : ∃ r, rf_isDigit n u (nI c) = some (r, u) ∧ (r = 0 ↔ ¬ isDi c) := by
  unfold rf_isDigit
  by_cases h1 : c < 48
  · exact ⟨0, by rw [if_pos (show nI c < 48 from nI_lt (b := 48) h1 (by decide))], fun _ h => by unfold isDi at h; omega, fun _ => rfl⟩
  · rw [if_neg (show ¬ nI c < 48 from nI_nlt (b := 48) (by omega) (by omega))]
    by_cases h2 : 57 < c
    · exact ⟨0, by rw [if_pos (show 57 < nI c from nI_lt (a := 57) h2 (by omega))], fun _ h => by unfold isDi at h; omega, fun _ => rfl⟩
    · exact ⟨1, by rw [if_neg (show ¬ 57 < nI c from nI_nlt (a := 57) (by omega) (by omega))], fun h => absurd h (by decide), fun h => absurd ⟨by omega, by omega⟩ h⟩
theorem neg_lt {x : Int32} (h : x < 0) {n : Nat} (hn : n < 2 ^ 31) : x < (OfNat.ofNat n : Int32) := by
  show x < nI n
  rw [Int32.lt_iff_toInt_lt] at h ⊢
  rw [nI_toInt hn]
  have : (0 : Int32).toInt = 0 := rfl
  omega
theorem c_isLetter (n : Nat) (u : zMu) {c : Nat} (hc : c < 256) : ∃ r, ce_X_isLetter n u (sb c) = some (r, u) ∧ (r = 0 ↔ ¬ isLe c) := by
  unfold ce_X_isLetter
  by_cases h0 : c < 128
  · rw [sb_low h0]
    exact r_isLetter n u hc
  · exact ⟨0, by rw [if_pos (neg_lt (sb_high (by omega) hc) (n := 97) (by decide))], fun _ h => by unfold isLe at h; omega, fun _ => rfl⟩
theorem c_isDigit (n : Nat) (u : zMu) {c : Nat} (hc : c < 256) : ∃ r, ce_X_isDigit n u (sb c) = some (r, u) ∧ (r = 0 ↔ ¬ isDi c) := by
  unfold ce_X_isDigit
  by_cases h0 : c < 128
  · rw [sb_low h0]
    exact r_isDigit n u hc
  · exact ⟨0, by rw [if_pos (neg_lt (sb_high (by omega) hc) (n := 48) (by decide))], fun _ h => by unfold isDi at h; omega, fun _ => rfl⟩
