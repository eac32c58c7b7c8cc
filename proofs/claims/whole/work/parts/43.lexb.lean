/-! LEXING, second part: scanning a word on both sides -/
theorem lN_orx (a b : Nat) : lN a ||| lN b = lN (a ||| b) := by
  apply Int64.toBitVec_inj.mp
  apply BitVec.eq_of_toNat_eq
  show (BitVec.ofNat 64 a ||| BitVec.ofNat 64 b).toNat = (BitVec.ofNat 64 (a ||| b)).toNat
  rw [BitVec.toNat_or, BitVec.toNat_ofNat, BitVec.toNat_ofNat, BitVec.toNat_ofNat, Nat.or_mod_two_pow]
theorem lN_shl (c s : Nat) (hs : s < 64) (S : Int64) (h : S.toBitVec.smod 64 = BitVec.ofNat 64 s) : lN c <<< S = lN (c * 2 ^ s) := by
  apply Int64.toBitVec_inj.mp
  show BitVec.ofNat 64 c <<< (S.toBitVec.smod 64) = BitVec.ofNat 64 (c * 2 ^ s)
  rw [h]
  apply BitVec.eq_of_toNat_eq
  rw [BitVec.shiftLeft_eq', BitVec.toNat_shiftLeft, BitVec.toNat_ofNat, BitVec.toNat_ofNat, BitVec.toNat_ofNat, Nat.mod_eq_of_lt (show s < 2 ^ 64 by omega), Nat.shiftLeft_eq]
  rw [Nat.mul_mod, Nat.mod_mod, ← Nat.mul_mod]
theorem sh8 {c k : Nat} (hc : c < 128) (hk : k < 8) : (nI c).toInt64 <<< ((8 * nI k).toInt64 &&& 63) = lN (c * 256 ^ k) := by
  rw [nI_l (by omega)]
  have h : k = 0 ∨ k = 1 ∨ k = 2 ∨ k = 3 ∨ k = 4 ∨ k = 5 ∨ k = 6 ∨ k = 7 := by omega
  rcases h with rfl | rfl | rfl | rfl | rfl | rfl | rfl | rfl
  · exact lN_shl c 0 (by decide) _ (by decide)
  · exact lN_shl c 8 (by decide) _ (by decide)
  · exact lN_shl c 16 (by decide) _ (by decide)
  · exact lN_shl c 24 (by decide) _ (by decide)
  · exact lN_shl c 32 (by decide) _ (by decide)
  · exact lN_shl c 40 (by decide) _ (by decide)
  · exact lN_shl c 48 (by decide) _ (by decide)
  · exact lN_shl c 56 (by decide) _ (by decide)
theorem or_add {a c k : Nat} (ha : a < 256 ^ k) : a ||| c * 256 ^ k = a + c * 256 ^ k := by
  have e : (256 : Nat) ^ k = 2 ^ (8 * k) := by rw [Nat.pow_mul]
  rw [e] at ha ⊢
  have h := Nat.two_pow_add_eq_or_of_lt ha c
  rw [Nat.or_comm, Nat.mul_comm c, ← h, Nat.add_comm]
def alnum (c : Nat) : Prop := isLe c ∨ isDi c
theorem alnum_lt {c : Nat} (h : alnum c) : 1 ≤ c ∧ c < 128 := by
  unfold alnum isLe isDi at h; omega
/-- the text: B's first s bytes, on both sides -/
def pTx (B : Nat → Nat) (s : Nat) (ur uc : zMu) : Prop := s ≤ 1500 ∧ (∀ j, B j < 256) ∧ zI ur 0 4 = nI s ∧ (∀ j, j < s → zI ur 2 j = nI (B j)) ∧ ∀ j, j < s → zI uc 1 j = sb (B j)
theorem r_wscan (n : Nat) {u : zMu} {B : Nat → Nat} {s : Nat} (hs : s ≤ 1500) (hB : ∀ j, B j < 256) (hz : zI u 0 4 = nI s) (ht : ∀ j, j < s → zI u 2 j = nI (B j)) {p e : Nat} (he : e ≤ s) (hal : ∀ i, p ≤ i → i < e → alnum (B i)) (hend : e = s ∨ ¬ alnum (B e)) {Q : Int32 → zMu → Prop} (k : Wp (rf_word_J40 n u (nI p) (nI e)) Q) :
    ∀ m i, e - i < m → p ≤ i → i ≤ e → Wp (rf_word_L2 n m u (nI p) (nI i)) Q := by
  intro m
  induction m with
  | zero => intro i h; omega
  | succ m ih =>
    intro i hm hp hi
    unfold rf_word_L2
    rw [hz]
    by_cases h : i < s
    · refine wp_t (nI_lt h (by omega)) (wp_gd (zin_nI (by omega) (by omega)) ?_)
      rw [zx_nI (by omega), ht i h]
      obtain ⟨r, e1, e2⟩ := r_isLetter n u (hB i)
      refine wp_bd ⟨r, u, e1, ?_⟩
      by_cases hie : i < e
      · by_cases hr : r = 0
        · refine wp_t hr (wp_gd (zin_nI (by omega) (by omega)) ?_)
          rw [ht i h]
          obtain ⟨r', e1', e2'⟩ := r_isDigit n u (hB i)
          refine wp_bd ⟨r', u, e1', wp_f (fun q => ?_) (wp_let ?_)⟩
          · rcases hal i hp hie with q1 | q1
            · exact e2.mp hr q1
            · exact e2'.mp q q1
          · rw [nI_1]
            exact ih (i + 1) (by omega) (by omega) (by omega)
        · refine wp_f hr (wp_let ?_)
          rw [nI_1]
          exact ih (i + 1) (by omega) (by omega) (by omega)
      · have ei : i = e := by omega
        subst ei
        have hne : ¬ alnum (B i) := hend.elim (fun q => absurd h (by omega)) id
        refine wp_t (e2.mpr (fun q => hne (Or.inl q))) (wp_gd (zin_nI (by omega) (by omega)) ?_)
        rw [ht i h]
        obtain ⟨r', e1', e2'⟩ := r_isDigit n u (hB i)
        exact wp_bd ⟨r', u, e1', wp_t (e2'.mpr (fun q => hne (Or.inr q))) k⟩
    · have ei : i = e := by omega
      subst ei
      exact wp_f (nI_nlt (by omega) (by omega)) k
/-- the word so far, as the class packs it -/
def pkw (B : Nat → Nat) (p i : Nat) : Int64 := lN (pkn B p (if i - p < 8 then i - p else 8))
theorem c_wscan (n : Nat) {u : zMu} {B : Nat → Nat} {s : Nat} (hs : s ≤ 1500) (hB : ∀ j, B j < 256) (ht : ∀ j, j < s → zI u 1 j = sb (B j)) {p e : Nat} (he : e ≤ s) (hal : ∀ i, p ≤ i → i < e → alnum (B i)) (hend : e = s ∨ ¬ alnum (B e)) {Q : Int32 → zMu → Prop} (k : Wp (ce_X_takeWord_J65 n u (nI p) (nI e) (pkw B p e)) Q) :
    ∀ m i, e - i < m → p ≤ i → i ≤ e → Wp (ce_X_takeWord_L6 n m u (nI s) (nI p) (nI i) (pkw B p i)) Q := by
  intro m
  induction m with
  | zero => intro i h; omega
  | succ m ih =>
    intro i hm hp hi
    unfold ce_X_takeWord_L6
    have go : i < e → Wp (ce_X_takeWord_J32 n (ce_X_takeWord_L6 n m) u (nI s) (nI p) (nI i) (pkw B p i)) Q := by
      intro hie
      unfold ce_X_takeWord_J32
      rw [pk_sub hp]
      have hb := alnum_lt (hal i hp hie)
      by_cases h8 : i - p < 8
      · refine wp_t (nI_lt (b := 8) h8 (by decide)) (wp_gd (zin_nI (by omega) (by omega)) (wp_let (wp_let ?_)))
        rw [zx_nI (by omega), ht i (by omega), sb_low hb.2, sh8 hb.2 h8, nI_1]
        have e1 : pkw B p i ||| lN (B i * 256 ^ (i - p)) = pkw B p (i + 1) := by
          unfold pkw
          rw [if_pos h8, lN_orx, or_add (pkn_lt (fun j _ => hB _))]
          have e2 : (if i + 1 - p < 8 then i + 1 - p else 8) = (i - p) + 1 := by split <;> omega
          rw [e2]
          show lN _ = lN (pkn B p (i - p) + B (p + (i - p)) * 256 ^ (i - p))
          rw [show p + (i - p) = i by omega]
        rw [e1]
        exact ih (i + 1) (by omega) (by omega) (by omega)
      · refine wp_f (nI_nlt (b := 8) (by omega) (by omega)) (wp_let ?_)
        rw [nI_1]
        have e1 : pkw B p i = pkw B p (i + 1) := by unfold pkw; rw [if_neg h8, if_neg (by omega)]
        rw [e1]
        exact ih (i + 1) (by omega) (by omega) (by omega)
    by_cases h : i < s
    · refine wp_t (nI_lt h (by omega)) (wp_gd (zin_nI (by omega) (by omega)) ?_)
      rw [zx_nI (by omega), ht i h]
      obtain ⟨r, e1, e2⟩ := c_isLetter n u (hB i)
      refine wp_bd ⟨r, u, e1, ?_⟩
      by_cases hie : i < e
      · by_cases hr : r = 0
        · refine wp_t hr (wp_gd (zin_nI (by omega) (by omega)) ?_)
          rw [ht i h]
          obtain ⟨r', e1', e2'⟩ := c_isDigit n u (hB i)
          refine wp_bd ⟨r', u, e1', wp_f (fun q => ?_) (go hie)⟩
          rcases hal i hp hie with q1 | q1
          · exact e2.mp hr q1
          · exact e2'.mp q q1
        · exact wp_f hr (go hie)
      · have ei : i = e := by omega
        subst ei
        have hne : ¬ alnum (B i) := hend.elim (fun q => absurd h (by omega)) id
        refine wp_t (e2.mpr (fun q => hne (Or.inl q))) (wp_gd (zin_nI (by omega) (by omega)) ?_)
        rw [ht i h]
        obtain ⟨r', e1', e2'⟩ := c_isDigit n u (hB i)
        exact wp_bd ⟨r', u, e1', wp_t (e2'.mpr (fun q => hne (Or.inr q))) k⟩
    · have ei : i = e := by omega
      subst ei
      exact wp_f (nI_nlt (by omega) (by omega)) k
/-- where a word ends -/
theorem wend (P : Nat → Prop) (s : Nat) : ∀ d p, s - p = d → p ≤ s → ∃ e, p ≤ e ∧ e ≤ s ∧ (∀ i, p ≤ i → i < e → P i) ∧ (e = s ∨ ¬ P e) := by
  intro d
  induction d with
  | zero => intro p h1 h2; exact ⟨p, Nat.le_refl _, h2, fun i _ _ => by omega, Or.inl (by omega)⟩
  | succ d ih =>
    intro p h1 h2
    by_cases h : P p
    · obtain ⟨e, a, b, c, f⟩ := ih (p + 1) (by omega) (by omega)
      refine ⟨e, by omega, b, fun i hi hie => ?_, f⟩
      by_cases hpi : i = p
      · subst hpi; exact h
      · exact c i (by omega) hie
    · exact ⟨p, Nat.le_refl _, h2, fun i _ _ => by omega, Or.inr h⟩
