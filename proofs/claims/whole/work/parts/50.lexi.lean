/-! LEXING, ninth part: signs -/
theorem r_isSign (n : Nat) (u : zMu) {c : Nat} (hc : c < 256) : ∃ r, rf_isSign n u (nI c) = some (r, u) ∧ (r = 0 ↔ ¬ isSg c) := by
  unfold rf_isSign
  have ne : ∀ k : Nat, k < 256 → ¬ c = k → ¬ nI c = nI k := fun k hk h q => h ((nI_eq (by omega) (by omega)).mp q)
  by_cases h40 : c = 40
  · subst h40; exact ⟨1, rfl, fun q => absurd q (by decide), fun q => absurd (by unfold isSg; omega) q⟩
  rw [if_neg (show ¬ nI c = 40 from ne 40 (by decide) h40)]
  by_cases h41 : c = 41
  · subst h41; exact ⟨1, rfl, fun q => absurd q (by decide), fun q => absurd (by unfold isSg; omega) q⟩
  rw [if_neg (show ¬ nI c = 41 from ne 41 (by decide) h41)]
  by_cases h123 : c = 123
  · subst h123; exact ⟨1, rfl, fun q => absurd q (by decide), fun q => absurd (by unfold isSg; omega) q⟩
  rw [if_neg (show ¬ nI c = 123 from ne 123 (by decide) h123)]
  by_cases h125 : c = 125
  · subst h125; exact ⟨1, rfl, fun q => absurd q (by decide), fun q => absurd (by unfold isSg; omega) q⟩
  rw [if_neg (show ¬ nI c = 125 from ne 125 (by decide) h125)]
  by_cases h91 : c = 91
  · subst h91; exact ⟨1, rfl, fun q => absurd q (by decide), fun q => absurd (by unfold isSg; omega) q⟩
  rw [if_neg (show ¬ nI c = 91 from ne 91 (by decide) h91)]
  by_cases h93 : c = 93
  · subst h93; exact ⟨1, rfl, fun q => absurd q (by decide), fun q => absurd (by unfold isSg; omega) q⟩
  rw [if_neg (show ¬ nI c = 93 from ne 93 (by decide) h93)]
  by_cases h59 : c = 59
  · subst h59; exact ⟨1, rfl, fun q => absurd q (by decide), fun q => absurd (by unfold isSg; omega) q⟩
  rw [if_neg (show ¬ nI c = 59 from ne 59 (by decide) h59)]
  by_cases h44 : c = 44
  · subst h44; exact ⟨1, rfl, fun q => absurd q (by decide), fun q => absurd (by unfold isSg; omega) q⟩
  rw [if_neg (show ¬ nI c = 44 from ne 44 (by decide) h44)]
  by_cases h46 : c = 46
  · subst h46; exact ⟨1, rfl, fun q => absurd q (by decide), fun q => absurd (by unfold isSg; omega) q⟩
  rw [if_neg (show ¬ nI c = 46 from ne 46 (by decide) h46)]
  by_cases h61 : c = 61
  · subst h61; exact ⟨1, rfl, fun q => absurd q (by decide), fun q => absurd (by unfold isSg; omega) q⟩
  rw [if_neg (show ¬ nI c = 61 from ne 61 (by decide) h61)]
  by_cases h60 : c = 60
  · subst h60; exact ⟨1, rfl, fun q => absurd q (by decide), fun q => absurd (by unfold isSg; omega) q⟩
  rw [if_neg (show ¬ nI c = 60 from ne 60 (by decide) h60)]
  by_cases h43 : c = 43
  · subst h43; exact ⟨1, rfl, fun q => absurd q (by decide), fun q => absurd (by unfold isSg; omega) q⟩
  rw [if_neg (show ¬ nI c = 43 from ne 43 (by decide) h43)]
  by_cases h45 : c = 45
  · subst h45; exact ⟨1, rfl, fun q => absurd q (by decide), fun q => absurd (by unfold isSg; omega) q⟩
  rw [if_neg (show ¬ nI c = 45 from ne 45 (by decide) h45)]
  by_cases h42 : c = 42
  · subst h42; exact ⟨1, rfl, fun q => absurd q (by decide), fun q => absurd (by unfold isSg; omega) q⟩
  rw [if_neg (show ¬ nI c = 42 from ne 42 (by decide) h42)]
  exact ⟨0, rfl, fun _ q => by unfold isSg at q; omega, fun _ => rfl⟩
def sgB (j : Nat) : Nat := [40, 41, 123, 125, 91, 93, 59, 44, 46, 61, 60, 43, 45, 42].getD j 0
theorem sgB_i : ∀ j, j < 14 → (zsByt.getD 12 []).getD j 0 = nI (sgB j) ∧ sgB j < 128 := by decide
theorem isSg_i {c : Nat} : isSg c ↔ ∃ j, j < 14 ∧ sgB j = c := by
  constructor
  · intro h
    unfold isSg at h
    rcases h with rfl | rfl | rfl | rfl | rfl | rfl | rfl | rfl | rfl | rfl | rfl | rfl | rfl | rfl
    · exact ⟨0, by decide, rfl⟩
    · exact ⟨1, by decide, rfl⟩
    · exact ⟨2, by decide, rfl⟩
    · exact ⟨3, by decide, rfl⟩
    · exact ⟨4, by decide, rfl⟩
    · exact ⟨5, by decide, rfl⟩
    · exact ⟨6, by decide, rfl⟩
    · exact ⟨7, by decide, rfl⟩
    · exact ⟨8, by decide, rfl⟩
    · exact ⟨9, by decide, rfl⟩
    · exact ⟨10, by decide, rfl⟩
    · exact ⟨11, by decide, rfl⟩
    · exact ⟨12, by decide, rfl⟩
    · exact ⟨13, by decide, rfl⟩
  · rintro ⟨j, hj, rfl⟩
    have : ∀ j, j < 14 → isSg (sgB j) := by unfold isSg; decide
    exact this j hj
theorem sb_inj {c k : Nat} (hc : c < 256) (hk : k < 128) : sb c = nI k ↔ c = k := by
  constructor
  · intro h
    by_cases h1 : c < 128
    · rw [sb_low h1] at h
      exact (nI_eq (by omega) (by omega)).mp h
    · have := sb_high (by omega) hc
      rw [h] at this
      exact absurd this (nI_pos (by omega))
  · rintro rfl; exact sb_low hk
theorem c_signs (n : Nat) (hn : 2000 ≤ n) (u : zMu) {c : Nat} (hc : c < 256) : ∃ r, js_indexOf1 n 12 u (nI c) = some (r, u) ∧ (r < 0 ↔ ¬ isSg c) := by
  have main : ∀ d j m, 14 - j = d → j ≤ 14 → d < m → (∀ i, i < j → sgB i ≠ c) → ∃ r, js_indexOfChar_L7 n 12 m u 14 (sb c) (nI j) = some (r, u) ∧ (r < 0 ↔ ¬ isSg c) := by
    intro d
    induction d with
    | zero =>
      intro j m hd hj hm hno
      obtain ⟨m, rfl⟩ : ∃ y, m = y + 1 := ⟨m - 1, by omega⟩
      have ej : j = 14 := by omega
      subst ej
      unfold js_indexOfChar_L7
      rw [if_neg (show ¬ nI 14 < 14 by decide)]
      exact ⟨-1, rfl, fun _ q => by obtain ⟨i, h1, h2⟩ := isSg_i.mp q; exact hno i h1 h2, fun _ => by decide⟩
    | succ d ih =>
      intro j m hd hj hm hno
      obtain ⟨m, rfl⟩ : ∃ y, m = y + 1 := ⟨m - 1, by omega⟩
      obtain ⟨b1, b2⟩ := sgB_i j (by omega)
      unfold js_indexOfChar_L7
      rw [if_pos (show nI j < 14 from nI_lt (b := 14) (by omega) (by decide)), show zin (nI j) (zsLen.getD 12 0) = true from zin_nI (n := 14) (by omega) (by decide), zx_nI (by omega), b1]
      show ∃ r, (if nI (sgB j) = sb c then some (nI j, u) else js_indexOfChar_L7 n 12 m u 14 (sb c) (nI j + 1)) = some (r, u) ∧ _
      by_cases e : sgB j = c
      · rw [if_pos ((sb_inj hc b2).mpr e.symm).symm]
        exact ⟨nI j, rfl, fun q => absurd q (nI_pos (by omega)), fun q => absurd (isSg_i.mpr ⟨j, by omega, e⟩) q⟩
      · rw [if_neg (fun q => e ((sb_inj hc b2).mp q.symm).symm), nI_1]
        refine ih (j + 1) m (by omega) (by omega) (by omega) (fun i hi => ?_)
        by_cases e2 : i = j
        · subst e2; exact e
        · exact hno i (by omega)
  obtain ⟨r, h1, h2⟩ := main 14 0 n rfl (by omega) (by omega) (fun i hi => by omega)
  refine ⟨r, ?_, h2⟩
  have hcan : js_canEncode n 12 u (nI c) = some (1, u) := by
    unfold js_canEncode
    rw [if_neg (nI_pos (by omega)), if_neg (show ¬ 255 < nI c from nI_nlt (a := 255) (by omega) (by decide))]
  have hch : js_indexOfChar n 12 u (nI c) 0 14 = some (r, u) := h1
  have hB : js_indexOfB n 12 u (nI c) 0 14 = some (r, u) := by
    unfold js_indexOfB
    rw [hcan]
    show zbd (js_indexOfChar n 12 u (nI c) 0 14) (fun r7 u8 => some (r7, u8)) = some (r, u)
    rw [hch]
    rfl
  have h3 : js_indexOf2 n 12 u (nI c) 0 = some (r, u) := by
    unfold js_indexOf2
    show zbd (js_indexOfB n 12 u (nI c) 0 14) (fun r6 u7 => some (r6, u7)) = some (r, u)
    rw [hB]
    rfl
  unfold js_indexOf1
  rw [h3]
  rfl
set_option maxRecDepth 20000 in
theorem sb_and : ∀ c, c < 256 → ((sb c &&& 255).toUInt32 % 65536).toInt32 = nI c := by
  intro c hc
  by_cases h : c < 128
  · rw [sb_low h]
    have : ∀ c, c < 128 → ((nI c &&& 255).toUInt32 % 65536).toInt32 = nI c := by decide
    exact this c h
  · obtain ⟨d, rfl⟩ : ∃ d, c = 128 + d := ⟨c - 128, by omega⟩
    have : ∀ d, d < 128 → ((sb (128 + d) &&& 255).toUInt32 % 65536).toInt32 = nI (128 + d) := by decide
    exact this d (by omega)
