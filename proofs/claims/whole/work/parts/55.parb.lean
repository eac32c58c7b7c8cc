/-! PARSING, second part: faults -/
/-- the fault of kind 2 or 3 so far: kind fk (0: none) at fp -/
def pFa (ur uc : zMu) (fk fp : Nat) : Prop := (fk = 0 ∧ zI ur 0 16 = -1 ∧ zI uc 2 3 = 0 ∧ zI uc 2 4 = -1) ∨ ((fk = 2 ∨ fk = 3) ∧ fp ≤ 1500 ∧ zI ur 0 16 = nI fp ∧ zI ur 0 17 = nI fk ∧ zI uc 2 3 = nI fk ∧ zI uc 2 4 = nI fp)
def notR (u : zMu) (b : Bool) (w k : Nat) : zMu := if b then zsI (zsI u 0 16 (nI w)) 0 17 (nI k) else u
def notC (u : zMu) (b : Bool) (w k : Nat) : zMu := if b then zsI (zsI u 2 3 (nI k)) 2 4 (nI w) else u
theorem nI_m1 {n : Nat} (h : n < 2 ^ 31) : ¬ nI n = -1 := fun q => by
  have := congrArg Int32.toInt q
  rw [nI_toInt h, show (-1 : Int32).toInt = -1 from rfl] at this
  omega
theorem p_notes (n : Nat) {ur uc : zMu} {fk fp w k : Nat} (h : pFa ur uc fk fp) (hc : zI uc 2 2 = 0) (hk : k = 2 ∨ k = 3) (hw : w ≤ 1500) :
    ∃ b fk' fp', rf_notes n ur (nI w) (nI k) = some ((), notR ur b w k) ∧ ce_C_note n uc (nI k) (nI w) = some ((), notC uc b w k) ∧ pFa (notR ur b w k) (notC uc b w k) fk' fp' ∧ fk' ≠ 0 := by
  have setp : pFa (notR ur true w k) (notC uc true w k) k w := Or.inr ⟨hk, hw, by simp [notR, gI_sI], by simp [notR, gI_sI], by simp [notC, gI_sI], by simp [notC, gI_sI]⟩
  have hk0 : k ≠ 0 := by omega
  rcases h with ⟨h0, h1, h2, h3⟩ | ⟨h0, h1, h2, h3, h4, h5⟩
  · refine ⟨true, k, w, ?_, ?_, setp, hk0⟩
    · unfold rf_notes; rw [if_pos h1]; rfl
    · unfold ce_C_note ce_C_note_J23 ce_C_note_J28; rw [if_pos hc, if_pos h2]; rfl
  · have n1 : ¬ zI ur 0 16 = -1 := by rw [h2]; exact nI_m1 (by omega)
    have n2 : ¬ zI uc 2 3 = 0 := by rw [h4]; exact nI_ne0 (by omega) (by omega)
    rcases Nat.lt_trichotomy w fp with g | g | g
    · refine ⟨true, k, w, ?_, ?_, setp, hk0⟩
      · unfold rf_notes; rw [if_neg n1, h2, if_pos (nI_lt g (by omega))]; rfl
      · unfold ce_C_note ce_C_note_J23 ce_C_note_J28; rw [if_pos hc, if_neg n2, h5, if_pos (nI_lt g (by omega))]; rfl
    · subst g
      by_cases g2 : k < fk
      · refine ⟨true, k, w, ?_, ?_, setp, hk0⟩
        · unfold rf_notes; rw [if_neg n1, h2, if_neg (nI_nlt (Nat.le_refl _) (by omega)), if_pos rfl, h3, if_pos (nI_lt g2 (by omega))]; rfl
        · unfold ce_C_note ce_C_note_J28; rw [if_pos hc, if_neg n2, h5, if_neg (nI_nlt (Nat.le_refl _) (by omega)), if_pos rfl, if_pos rfl, h4, if_pos (nI_lt g2 (by omega))]; rfl
      · refine ⟨false, fk, w, ?_, ?_, Or.inr ⟨h0, h1, h2, h3, h4, h5⟩, by omega⟩
        · unfold rf_notes; rw [if_neg n1, h2, if_neg (nI_nlt (Nat.le_refl _) (by omega)), if_pos rfl, h3, if_neg (nI_nlt (by omega) (by omega))]; rfl
        · unfold ce_C_note ce_C_note_J28; rw [if_pos hc, if_neg n2, h5, if_neg (nI_nlt (Nat.le_refl _) (by omega)), if_pos rfl, if_pos rfl, h4, if_neg (nI_nlt (by omega) (by omega))]; rfl
    · have ne : ¬ nI w = nI fp := fun q => by have := (nI_eq (by omega) (by omega)).mp q; omega
      refine ⟨false, fk, fp, ?_, ?_, Or.inr ⟨h0, h1, h2, h3, h4, h5⟩, by omega⟩
      · unfold rf_notes; rw [if_neg n1, h2, if_neg (nI_nlt (by omega) (by omega)), if_neg ne]; rfl
      · unfold ce_C_note ce_C_note_J28; rw [if_pos hc, if_neg n2, h5, if_neg (nI_nlt (by omega) (by omega)), if_pos rfl, if_neg ne]; rfl
/-- the class refuses at token i; the reference's fault of kind 1 is there -/
def pWr (ur uc : zMu) : Prop := ∃ w T, w ≤ 1500 ∧ T ≤ 1500 ∧ zI ur 0 15 = nI w ∧ zI uc 2 2 = 1 ∧ zI uc 2 3 = 1 ∧ zI uc 2 4 = nI w ∧ zI uc 7 6 = 256 ∧ zI uc 7 4 = nI (T + 1)
def refU (u : zMu) (w : Nat) : zMu := zsI (zsI (zsI (zsI u 2 2 1) 2 3 1) 2 4 (nI w)) 7 6 256
theorem c_refuse (n : Nat) {u : zMu} {w : Nat} (h : zI u 2 2 = 0) (hp : zI u 7 7 = nI w) : ce_C_refuse n u = some ((), refU u w) := by
  unfold ce_C_refuse refU
  rw [if_pos h]
  simp [zlet, gI_sI, hp]
theorem p_refuse (n : Nat) {s : Nat} {PK : Nat → Int64} {T N : Nat} {rk ck pl : Nat → Nat} {ur uc : zMu} {i : Nat} (hs : s ≤ 1500) (hf : tkF s PK T N rk ck pl ur uc) (ha : pAt ck pl ur uc T i) (hw : zI ur 0 15 = -1) (hc : zI uc 2 2 = 0) :
    rf_faulty n ur = some ((), zsI ur 0 15 (nI (pl i))) ∧ ce_C_refuse n uc = some ((), refU uc (pl i)) ∧ pWr (zsI ur 0 15 (nI (pl i))) (refU uc (pl i)) := by
  refine ⟨?_, c_refuse n hc ha.2.2.2.2.1, pl i, T, by have := (hf.1 i ha.1).2; omega, hf.2.2.2.1, ?_, ?_, ?_, ?_, ?_, ?_⟩
  · unfold rf_faulty
    rw [if_pos hw, r_place n hf ha.1 ha.2.1]
    rfl
  · simp [gI_sI]
  · simp [refU, gI_sI]
  · simp [refU, gI_sI]
  · simp [refU, gI_sI]
  · simp [refU, gI_sI]
  · simp [refU, gI_sI, hf.2.2.2.2]
/-- closing: what is wanted, then one sign less is open -/
theorem c_closes_eq (n : Nat) (u : zMu) (x : Int32) : ce_C_closes n u x = zbd (ce_C_expect n u x) fun _ u2 => zlet (zsI u2 2 5 ((zI u2 2 5) - 1)) fun u3 => some ((), u3) := by
  unfold ce_C_closes ce_C_expect
  by_cases g : zI u 7 6 = x
  · rw [if_pos g, if_pos g]
    cases ce_X_advance n u <;> rfl
  · rw [if_neg g, if_neg g]
    cases ce_C_refuse n u <;> rfl
