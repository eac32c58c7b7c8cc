/-! PARSING, fourth part: variables -/
/-- V variables of routine r: their names vw -/
def pVa (PK : Nat → Int64) (N : Nat) (ur uc : zMu) (r V : Nat) (vw : Nat → Nat) : Prop := r ≤ 9 ∧ V ≤ 12 ∧ zI ur 17 r = nI V ∧ zI uc 2 8 = nI V ∧ ∀ j, j < V → vw j < N ∧ zI ur 18 (13 * r + j) = nI (vw j) ∧ zL uc 3 j = PK (vw j)
/-- the routine: a fn's number, or the main (9) -/
def pRo (ur uc : zMu) (r : Nat) : Prop := (r = 9 ∧ zI ur 0 27 = -1 ∧ zI uc 2 6 = -1) ∨ (r < 8 ∧ zI ur 0 27 = nI r ∧ zI uc 2 6 = nI r)
theorem p_findVar (n : Nat) (hn : 2000 ≤ n) {PK : Nat → Int64} {N : Nat} {ur uc : zMu} {r V w : Nat} {vw : Nat → Nat} (hN : N ≤ 1500) (hinj : ∀ w w', w < N → w' < N → PK w = PK w' → w = w') (hv : pVa PK N ur uc r V vw) (hr : pRo ur uc r) (hw : w < N) :
    (∃ j, j < V ∧ vw j = w ∧ rf_findVar n ur (nI w) = some (nI j, ur) ∧ ce_C_variableNamed n uc (PK w) = some (nI j, uc)) ∨ ((∀ j, j < V → vw j ≠ w) ∧ rf_findVar n ur (nI w) = some (-1, ur) ∧ ce_C_variableNamed n uc (PK w) = some (-1, uc)) := by
  obtain ⟨v1, v2, v3, v4, v5⟩ := hv
  have main : ∀ d j m m', V - j = d → j ≤ V → d < m → d < m' → (∀ i, i < j → vw i ≠ w) → ((∃ k, k < V ∧ vw k = w ∧ rf_findVar_L20 n m ur (nI w) (nI r) (nI j) = some (nI k, ur) ∧ ce_C_variableNamed_L2 n m' uc (PK w) (nI j) = some (nI k, uc)) ∨ ((∀ k, k < V → vw k ≠ w) ∧ rf_findVar_L20 n m ur (nI w) (nI r) (nI j) = some (-1, ur) ∧ ce_C_variableNamed_L2 n m' uc (PK w) (nI j) = some (-1, uc))) := by
    intro d
    induction d with
    | zero =>
      intro j m m' hd hj hm hm' hno
      obtain ⟨m, rfl⟩ : ∃ y, m = y + 1 := ⟨m - 1, by omega⟩
      obtain ⟨m', rfl⟩ : ∃ y, m' = y + 1 := ⟨m' - 1, by omega⟩
      refine Or.inr ⟨fun k hk => hno k (by omega), ?_, ?_⟩
      · unfold rf_findVar_L20
        rw [zin_nI (show r < 10 by omega) (by decide), zx_nI (by omega), v3, if_neg (nI_nlt (by omega) (by omega))]
        rfl
      · unfold ce_C_variableNamed_L2
        rw [v4, if_neg (nI_nlt (by omega) (by omega))]
    | succ d ih =>
      intro j m m' hd hj hm hm' hno
      obtain ⟨m, rfl⟩ : ∃ y, m = y + 1 := ⟨m - 1, by omega⟩
      obtain ⟨m', rfl⟩ : ∃ y, m' = y + 1 := ⟨m' - 1, by omega⟩
      obtain ⟨a1, a2, a3⟩ := v5 j (by omega)
      have hidx : (13 : Int32) * nI r + nI j = nI (13 * r + j) := by
        rw [show (13 : Int32) * nI r = nI (13 * r) from pk_mul 13 r, nI_add]
      have e1 : rf_findVar_L20 n (m + 1) ur (nI w) (nI r) (nI j) = if nI (vw j) = nI w then some (nI j, ur) else rf_findVar_L20 n m ur (nI w) (nI r) (nI (j + 1)) := by
        rw [rf_findVar_L20]
        rw [zin_nI (show r < 10 by omega) (by decide), zx_nI (by omega), v3, if_pos (nI_lt (by omega) (by omega)), hidx, zin_nI (show 13 * r + j < 130 by omega) (by decide), zx_nI (by omega), a2, nI_1]
        rfl
      have e2 : ce_C_variableNamed_L2 n (m' + 1) uc (PK w) (nI j) = if PK (vw j) = PK w then some (nI j, uc) else ce_C_variableNamed_L2 n m' uc (PK w) (nI (j + 1)) := by
        rw [ce_C_variableNamed_L2]
        rw [v4, if_pos (nI_lt (by omega) (by omega)), zin_nI (show j < 12 by omega) (by decide), zx_nI (by omega), a3, nI_1]
        show (if lg_cmp (PK (vw j)) (PK w) = 0 then _ else _) = _
        by_cases g : PK (vw j) = PK w
        · rw [if_pos ((lgc_eq _ _).mpr g), if_pos g]
        · rw [if_neg (fun q => g ((lgc_eq _ _).mp q)), if_neg g]; rfl
      rw [e1, e2]
      by_cases g : vw j = w
      · exact Or.inl ⟨j, by omega, g, by rw [if_pos (by rw [g])], by rw [if_pos (by rw [g])]⟩
      · rw [if_neg (fun q => g ((nI_eq (by omega) (by omega)).mp q)), if_neg (fun q => g (hinj _ _ a1 hw q))]
        refine ih (j + 1) m m' (by omega) (by omega) (by omega) (by omega) (fun i hi => ?_)
        by_cases e : i = j
        · subst e; exact g
        · exact hno i (by omega)
  have hm := main V 0 n n (by omega) (by omega) (by omega) (by omega) (fun i hi => by omega)
  have er : rf_findVar n ur (nI w) = rf_findVar_L20 n n ur (nI w) (nI r) (nI 0) := by
    unfold rf_findVar
    rcases hr with ⟨rfl, h1, -⟩ | ⟨h0, h1, -⟩
    · rw [if_pos h1]; rfl
    · rw [if_neg (by rw [h1]; exact nI_m1 (by omega)), h1]; rfl
  have ec : ce_C_variableNamed n uc (PK w) = ce_C_variableNamed_L2 n n uc (PK w) (nI 0) := rfl
  rw [er, ec]
  exact hm
