/-! LEXING, third part: tokens -/
theorem sh16 {k : Nat} (h : k < 32768) : (nI k).toInt16.toInt32 = nI k := by
  apply Int32.toInt_inj.mp
  rw [nI_toInt (by omega)]
  have e : ((nI k).toInt16.toInt32).toInt = (nI k).toInt16.toInt := Int16.toInt_toInt32 _
  rw [e]
  have e2 : (nI k).toInt16.toInt = (nI k).toInt.bmod (2 ^ 16) := Int32.toInt_toInt16 _
  rw [e2, nI_toInt (by omega)]
  exact Int.bmod_eq_of_le (by omega) (by omega)
def tokR (u : zMu) (T : Nat) (rk P rw : Int32) : zMu := zsI (zsI (zsI (zsI u 4 T rk) 5 T P) 6 T rw) 0 9 (nI (T + 1))
def tokC (u : zMu) (T : Nat) (ck P : Int32) (cv : Int64) : zMu := zsI (zsL (zsI (zsI u 9 T ck) 10 T P) 11 T cv) 7 4 (nI (T + 1))
theorem r_token (n : Nat) {u : zMu} {T : Nat} (hT : zI u 0 9 = nI T) (h : T < 1502) (rk P rw : Int32) : rf_token n u rk P rw = some ((), tokR u T rk P rw) := by
  have h1 : zin (nI T) 1502 = true := zin_nI h (by decide)
  unfold rf_token tokR
  simp only [zlet, zgd, gI_sI, hT, h1, zx_nI (show T < 2 ^ 31 by omega), nI_1, show ¬ (0 = 4 ∧ 9 = T) by omega, show ¬ (0 = 5 ∧ 9 = T) by omega, show ¬ (0 = 6 ∧ 9 = T) by omega, if_false]
theorem c_add (n : Nat) {u : zMu} {T ck P : Nat} (hT : zI u 7 4 = nI T) (h : T < 1501) (hc : ck < 32768) (hP : P < 32768) (cv : Int64) : ce_X_add n u (nI ck) (nI P) cv = some ((), tokC u T (nI ck) (nI P) cv) := by
  have h1 : zin (nI T) 1501 = true := zin_nI h (by decide)
  have h2 : nI T < 1501 := nI_lt (b := 1501) h (by decide)
  unfold ce_X_add tokC
  rw [hT, if_pos h2]
  simp only [zlet, zgd, gI_sI, gI_sL, hT, h1, zx_nI (show T < 2 ^ 31 by omega), nI_1, show ¬ (7 = 9 ∧ 4 = T) by omega, show ¬ (7 = 10 ∧ 4 = T) by omega, if_false, vp_nar_short, sh16 hc, sh16 hP]
def isSg (c : Nat) : Prop := c = 40 ∨ c = 41 ∨ c = 123 ∨ c = 125 ∨ c = 91 ∨ c = 93 ∨ c = 59 ∨ c = 44 ∨ c = 46 ∨ c = 61 ∨ c = 60 ∨ c = 43 ∨ c = 45 ∨ c = 42
/-- kinds of tokens, the reference's and the class's -/
def kRel (rk ck : Nat) : Prop := (rk = 0 ∧ ck = 256) ∨ (rk = 1 ∧ ck = 259) ∨ (rk = 2 ∧ ck = 258) ∨ (rk = 3 ∧ ck = 257) ∨ (rk = 150 ∧ ck = 260) ∨ (200 ≤ rk ∧ rk < 212 ∧ ck = rk + 100) ∨ (isSg rk ∧ ck = rk)
theorem kRel_lt {rk ck : Nat} (h : kRel rk ck) : rk < 212 ∧ ck < 32768 := by unfold kRel isSg at h; omega
theorem kRel_inj {rk ck rk' ck' : Nat} (h : kRel rk ck) (h' : kRel rk' ck') : rk = rk' ↔ ck = ck' := by unfold kRel isSg at h h'; omega
def vRel (PK : Nat → Int64) (N rk : Nat) (rw : Int32) (cv : Int64) : Prop := (rk = 2 → ∃ v, v < 536870912 ∧ rw = nI v ∧ cv = lN v) ∧ (rk = 1 → ∃ w, w < N ∧ rw = nI w ∧ cv = PK w)
def tkR (PK : Nat → Int64) (N : Nat) (ur uc : zMu) (t rk ck P : Nat) : Prop := kRel rk ck ∧ zI ur 4 t = nI rk ∧ zI uc 9 t = nI ck ∧ zI ur 5 t = nI P ∧ zI uc 10 t = nI P ∧ vRel PK N rk (zI ur 6 t) (zL uc 11 t)
/-- a name of the reference: where it stands, its number -/
def nmR (B : Nat → Nat) (s : Nat) (PK : Nat → Int64) (ur : zMu) (w : Nat) : Prop := ∃ b z, zI ur 7 w = nI b ∧ zI ur 8 w = nI z ∧ 1 ≤ z ∧ z ≤ 8 ∧ b + z ≤ s ∧ (∀ i, i < z → alnum (B (b + i))) ∧ PK w = lN (pkn B b z)
/-- names come in the order in which the tokens first show them -/
def pRgb (m T N : Nat) (rk : Nat → Nat) (ur : zMu) : Prop := (∀ w, w < N → (∃ t, t < T ∧ rk t = 1 ∧ zI ur 6 t = nI w) ∨ (m = T + 1 ∧ w + 1 = N)) ∧ ∀ t w w', t < T → rk t = 1 → zI ur 6 t = nI w' → w' < N → w < w' → ∃ t', t' < t ∧ rk t' = 1 ∧ zI ur 6 t' = nI w
/-- T tokens are cut, N names are known, p bytes are behind -/
def pLexb (m : Nat) (B : Nat → Nat) (s : Nat) (PK : Nat → Int64) (ur uc : zMu) (T N p : Nat) (rk ck pl : Nat → Nat) : Prop :=
  zI ur 0 9 = nI T ∧ zI uc 7 4 = nI T ∧ zI ur 0 13 = nI N ∧ N ≤ m ∧ T ≤ p ∧ p ≤ s + 1 ∧ (∀ t, t < T → tkR PK N ur uc t (rk t) (ck t) (pl t) ∧ pl t < p) ∧ (∀ t, t + 1 < T → pl t < pl (t + 1)) ∧ (∀ w, w < N → nmR B s PK ur w) ∧ (∀ w w', w < N → w' < N → PK w = PK w' → w = w') ∧ pRgb m T N rk ur
abbrev pLex (B : Nat → Nat) (s : Nat) (PK : Nat → Int64) (ur uc : zMu) (T N p : Nat) (rk ck pl : Nat → Nat) : Prop := pLexb T B s PK ur uc T N p rk ck pl
theorem pLex_add {m : Nat} {B : Nat → Nat} {s : Nat} {PK : Nat → Int64} {ur uc : zMu} {T N p p' : Nat} {rk ck pl : Nat → Nat} (hs : s ≤ 1500) (h : pLexb m B s PK ur uc T N p rk ck pl) (hm : m ≤ T + 1) {k c : Nat} {rw : Int32} {cv : Int64} (hk : kRel k c) (hv : vRel PK N k rw cv) (hg : m = T + 1 → k = 1 ∧ rw = nI (N - 1)) (hp : p < p') (hps : p' ≤ s + 1) :
    pLex B s PK (tokR ur T (nI k) (nI p) rw) (tokC uc T (nI c) (nI p) cv) (T + 1) N p' (fun t => if t = T then k else rk t) (fun t => if t = T then c else ck t) (fun t => if t = T then p else pl t) := by
  obtain ⟨h1, h2, h3, h4, h5, h6, h7, h8, h9, h10, h11, h12⟩ := h
  refine ⟨rfl, rfl, ?_, by omega, by omega, hps, fun t ht => ?_, fun t ht => ?_, fun w hw => ?_, h10, fun w hw => ?_, fun t w w' ht hk hw' w1 w2 => ?_⟩
  · show zI ur 0 13 = nI N
    exact h3
  · by_cases e : t = T
    · subst e
      simp only [if_true]
      refine ⟨⟨hk, ?_, ?_, ?_, ?_, ?_⟩, hp⟩
      · simp [tokR, gI_sI]
      · simp [tokC, gI_sI, gI_sL]
      · simp [tokR, gI_sI]
      · simp [tokC, gI_sI, gI_sL]
      · have e1 : zI (tokR ur t (nI k) (nI p) rw) 6 t = rw := by simp [tokR, gI_sI]
        have e2 : zL (tokC uc t (nI c) (nI p) cv) 11 t = cv := by simp [tokC, gL_sI, gL_sL]
        rw [e1, e2]; exact hv
    · simp only [e, if_false]
      obtain ⟨⟨a1, a2, a3, a4, a5, a6⟩, a7⟩ := h7 t (by omega)
      refine ⟨⟨a1, ?_, ?_, ?_, ?_, ?_⟩, by omega⟩
      · simp [tokR, gI_sI, e, a2]
      · simp [tokC, gI_sI, gI_sL, e, a3]
      · simp [tokR, gI_sI, e, a4]
      · simp [tokC, gI_sI, gI_sL, e, a5]
      · have e1 : zI (tokR ur T (nI k) (nI p) rw) 6 t = zI ur 6 t := by simp [tokR, gI_sI, e]
        have e2 : zL (tokC uc T (nI c) (nI p) cv) 11 t = zL uc 11 t := by simp [tokC, gL_sI, gL_sL, e]
        rw [e1, e2]; exact a6
  · by_cases e : t + 1 = T
    · have e' : ¬ t = T := by omega
      simp only [e, e', if_true, if_false]
      exact (h7 t (by omega)).2
    · have e' : ¬ t = T := by omega
      simp only [e, e', if_false]
      exact h8 t (by omega)
  · obtain ⟨b, z, b1, b2, b3⟩ := h9 w hw
    refine ⟨b, z, ?_, ?_, b3⟩
    · simp [tokR, gI_sI, b1]
    · simp [tokR, gI_sI, b2]
  · rcases h11 w hw with ⟨t, t1, t2, t3⟩ | ⟨e1, e2⟩
    · refine Or.inl ⟨t, by omega, ?_, ?_⟩
      · exact (if_neg (by omega)).trans t2
      · have e : ¬ t = T := by omega
        have e1 : zI (tokR ur T (nI k) (nI p) rw) 6 t = zI ur 6 t := by simp [tokR, gI_sI, e]
        rw [e1]; exact t3
    · obtain ⟨g1, g2⟩ := hg e1
      refine Or.inl ⟨T, by omega, ?_, ?_⟩
      · exact (if_pos rfl).trans g1
      · have e1 : zI (tokR ur T (nI k) (nI p) rw) 6 T = rw := by simp [tokR, gI_sI]
        rw [e1, g2, show N - 1 = w by omega]
  · have old : ∀ t, t < T → zI (tokR ur T (nI k) (nI p) rw) 6 t = zI ur 6 t := fun t q => by
      have e : ¬ t = T := by omega
      simp [tokR, gI_sI, e]
    by_cases e : t = T
    · rcases h11 w (by omega) with ⟨t', t1, t2, t3⟩ | ⟨e1, e2⟩
      · exact ⟨t', by omega, (if_neg (by omega)).trans t2, by rw [old t' t1]; exact t3⟩
      · exact absurd e2 (by omega)
    · have hk : rk t = 1 := (if_neg e).symm.trans hk
      rw [old t (by omega)] at hw'
      obtain ⟨t', t1, t2, t3⟩ := h12 t w w' (by omega) hk hw' w1 w2
      exact ⟨t', t1, (if_neg (by omega)).trans t2, by rw [old t' (by omega)]; exact t3⟩
