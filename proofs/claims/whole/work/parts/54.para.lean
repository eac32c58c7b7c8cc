/-! PARSING, first part: standing at a token -/
/-- the table of tokens: T + 1 of them, the last one the end -/
def tkF (s : Nat) (PK : Nat → Int64) (T N : Nat) (rk ck pl : Nat → Nat) (ur uc : zMu) : Prop := (∀ t, t ≤ T → tkR PK N ur uc t (rk t) (ck t) (pl t) ∧ pl t ≤ s) ∧ (∀ t, t < T → pl t < pl (t + 1)) ∧ rk T = 0 ∧ T ≤ 1500 ∧ zI uc 7 4 = nI (T + 1)
/-- both stand at token i -/
def pAt (ck pl : Nat → Nat) (ur uc : zMu) (T i : Nat) : Prop := i ≤ T ∧ zI ur 0 10 = nI i ∧ zI uc 7 5 = nI i ∧ zI uc 7 6 = nI (ck i) ∧ zI uc 7 7 = nI (pl i) ∧ zL uc 7 8 = zL uc 11 i
theorem r_now (n : Nat) {s : Nat} {PK : Nat → Int64} {T N : Nat} {rk ck pl : Nat → Nat} {ur uc : zMu} {i : Nat} (hf : tkF s PK T N rk ck pl ur uc) (hi : i ≤ T) (ha : zI ur 0 10 = nI i) : rf_now n ur = some (nI (rk i), ur) := by
  obtain ⟨h1, h2, h3, h4, h5⟩ := hf
  unfold rf_now
  rw [ha, zin_nI (show i < 1502 by omega) (by decide), zx_nI (by omega), (h1 i hi).1.2.1]
  rfl
theorem r_place (n : Nat) {s : Nat} {PK : Nat → Int64} {T N : Nat} {rk ck pl : Nat → Nat} {ur uc : zMu} {i : Nat} (hf : tkF s PK T N rk ck pl ur uc) (hi : i ≤ T) (ha : zI ur 0 10 = nI i) : rf_place n ur = some (nI (pl i), ur) := by
  obtain ⟨h1, h2, h3, h4, h5⟩ := hf
  unfold rf_place
  rw [ha, zin_nI (show i < 1502 by omega) (by decide), zx_nI (by omega), (h1 i hi).1.2.2.2.1]
  rfl
theorem r_isWrong0 (n : Nat) {u : zMu} (h : zI u 0 15 = -1) : rf_isWrong n u = some (0, u) := by unfold rf_isWrong; rw [if_pos h]
theorem r_isWrong1 (n : Nat) {u : zMu} (h : ¬ zI u 0 15 = -1) : rf_isWrong n u = some (1, u) := by unfold rf_isWrong; rw [if_neg h]
/-- stepping over a token that isn't the end -/
theorem tk_lt {s : Nat} {PK : Nat → Int64} {T N : Nat} {rk ck pl : Nat → Nat} {ur uc : zMu} {i : Nat} (hf : tkF s PK T N rk ck pl ur uc) (hi : i ≤ T) (h : rk i ≠ 0) : i < T := by
  rcases Nat.lt_or_ge i T with g | g
  · exact g
  · have e : i = T := by omega
    subst e
    exact absurd hf.2.2.1 h
theorem c_advance (n : Nat) {s : Nat} {PK : Nat → Int64} {T N : Nat} {rk ck pl : Nat → Nat} {ur uc : zMu} {i : Nat} (hf : tkF s PK T N rk ck pl ur uc) (ha : pAt ck pl ur uc T i) (hi : i < T) : ce_X_advance n uc = some ((), advU uc (i + 1)) :=
  c_adv n ha.2.2.1 (nI_1 i) hf.2.2.2.2 (by omega) (by have := hf.2.2.2.1; omega)
theorem pAt_adv {s : Nat} {PK : Nat → Int64} {T N : Nat} {rk ck pl : Nat → Nat} {ur uc vr : zMu} {i : Nat} (hf : tkF s PK T N rk ck pl ur uc) (hi : i < T) (hr : zI vr 0 10 = nI (i + 1)) : pAt ck pl vr (advU uc (i + 1)) T (i + 1) := by
  obtain ⟨h1, -⟩ := hf
  obtain ⟨a1, a2, a3, a4, a5, a6⟩ := (h1 (i + 1) (by omega)).1
  refine ⟨by omega, hr, ?_, ?_, ?_, ?_⟩
  · simp [advU, gI_sI, gI_sL]
  · simp [advU, gI_sI, gI_sL, a3]
  · simp [advU, gI_sI, gI_sL, a5]
  · simp [advU, gL_sI, gL_sL]
theorem tkF_keep {s : Nat} {PK : Nat → Int64} {T N : Nat} {rk ck pl : Nat → Nat} {ur uc vr vc : zMu} (hf : tkF s PK T N rk ck pl ur uc) (e4 : ∀ t, zI vr 4 t = zI ur 4 t) (e5 : ∀ t, zI vr 5 t = zI ur 5 t) (e6 : ∀ t, zI vr 6 t = zI ur 6 t) (c4 : zI vc 7 4 = zI uc 7 4) (c9 : ∀ t, zI vc 9 t = zI uc 9 t) (c10 : ∀ t, zI vc 10 t = zI uc 10 t) (c11 : ∀ t, zL vc 11 t = zL uc 11 t) : tkF s PK T N rk ck pl vr vc := by
  obtain ⟨h1, h2, h3, h4, h5⟩ := hf
  refine ⟨fun t ht => ⟨?_, (h1 t ht).2⟩, h2, h3, h4, c4.trans h5⟩
  obtain ⟨a1, a2, a3, a4, a5, a6⟩ := (h1 t ht).1
  exact ⟨a1, (e4 t).trans a2, (c9 t).trans a3, (e5 t).trans a4, (c10 t).trans a5, by rw [e6 t, c11 t]; exact a6⟩
/-- the kinds tell alike -/
theorem tk_kind {s : Nat} {PK : Nat → Int64} {T N : Nat} {rk ck pl : Nat → Nat} {ur uc : zMu} {i k c : Nat} (hf : tkF s PK T N rk ck pl ur uc) (hi : i ≤ T) (hk : kRel k c) : rk i = k ↔ ck i = c := kRel_inj (hf.1 i hi).1.1 hk
theorem tk_b {s : Nat} {PK : Nat → Int64} {T N : Nat} {rk ck pl : Nat → Nat} {ur uc : zMu} {i : Nat} (hf : tkF s PK T N rk ck pl ur uc) (hi : i ≤ T) : rk i < 212 ∧ ck i < 32768 := kRel_lt (hf.1 i hi).1.1
theorem pCut.tk {B : Nat → Nat} {s : Nat} {vr vc : zMu} (hs : s ≤ 1500) (h : pCut B s vr vc) : ∃ (PK : Nat → Int64) (T N : Nat) (rk ck pl : Nat → Nat), tkF s PK T N rk ck pl vr vc ∧ zI vc 7 5 = nI 0 ∧ zI vc 7 6 = nI (ck 0) ∧ zI vc 7 7 = nI (pl 0) ∧ zL vc 7 8 = zL vc 11 0 ∧ pl T = s ∧ (∀ w, w < N → nmR B s PK vr w) ∧ (∀ w w', w < N → w' < N → PK w = PK w' → w = w') ∧ N ≤ 1500 ∧ pRgb (T + 1) (T + 1) N rk vr := by
  obtain ⟨PK, T, N, rk, ck, pl, ⟨h1, h2, h3, h4, h5, h6, h7, h8, h9, h10, h11⟩, g1, g2, g3, g4, g5, g6, g7⟩ := h
  refine ⟨PK, T, N, rk, ck, pl, ⟨fun t ht => ⟨(h7 t (by omega)).1, by have := (h7 t (by omega)).2; omega⟩, fun t ht => h8 t (by omega), g1, by omega, h2⟩, g4, ?_, ?_, g7, g2, h9, h10, by omega, h11⟩
  · rw [g5]; exact (h7 0 (by omega)).1.2.2.1
  · rw [g6]; exact (h7 0 (by omega)).1.2.2.2.2.1
