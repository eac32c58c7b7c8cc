/-! PARSING, fifth part: a new variable, a new site -/
def vaR (u : zMu) (r V w : Nat) : zMu := zsI (zsI u 17 r (nI (V + 1))) 18 (13 * r + V) (nI w)
def vaC (u : zMu) (V : Nat) (x : Int64) : zMu := zsI (zsL u 3 V x) 2 8 (nI (V + 1))
theorem c_addVariable (n : Nat) {uc : zMu} {V : Nat} (h : zI uc 2 8 = nI V) (hV : V < 12) (x : Int64) (P : Int32) : ce_C_addVariable n uc x P = some (nI V, vaC uc V x) := by
  unfold ce_C_addVariable vaC
  rw [h, if_pos (show nI V < 12 from nI_lt (b := 12) hV (by decide)), zin_nI hV (by decide), zx_nI (by omega)]
  simp [zlet, zgd, gI_sL, h, nI_1]
theorem r_addVar_J (n : Nat) {ur : zMu} {r V w : Nat} (h1 : rf_findVar n ur (nI w) = some (-1, ur)) (hr : r ≤ 9) (hv : zI ur 17 r = nI V) (hV : V < 12) (P : Int32) : rf_addVar_J17 n ur (nI w) P (nI r) = some ((), vaR ur r V w) := by
  unfold rf_addVar_J17 vaR
  have hz : zin (nI r) 10 = true := zin_nI (by omega) (by decide)
  have hx : zx (nI r) = r := zx_nI (by omega)
  have hidx : (13 : Int32) * nI r + nI V = nI (13 * r + V) := by
    rw [show (13 : Int32) * nI r = nI (13 * r) from pk_mul 13 r, nI_add]
  have hz2 : zin (nI (13 * r + V)) 130 = true := zin_nI (by omega) (by decide)
  have hx2 : zx (nI (13 * r + V)) = 13 * r + V := zx_nI (by omega)
  have hne : ¬ nI V = 12 := fun q => by have := (nI_eq (a := V) (b := 12) (by omega) (by decide)).mp q; omega
  simp [zbd, zlet, zgd, h1, hz, hx, hv, hne, hidx, hz2, hx2, nI_1]
theorem p_addVar (n : Nat) (hn : 2000 ≤ n) {PK : Nat → Int64} {N : Nat} {ur uc : zMu} {r V w : Nat} {vw : Nat → Nat} (hv : pVa PK N ur uc r V vw) (hr : pRo ur uc r) (hw : w < N) (hno : rf_findVar n ur (nI w) = some (-1, ur)) (hV : V < 12) (P P' : Int32) :
    rf_addVar n ur (nI w) P = some ((), vaR ur r V w) ∧ ce_C_addVariable n uc (PK w) P' = some (nI V, vaC uc V (PK w)) ∧ pVa PK N (vaR ur r V w) (vaC uc V (PK w)) r (V + 1) (fun j => if j = V then w else vw j) := by
  obtain ⟨v1, v2, v3, v4, v5⟩ := hv
  refine ⟨?_, c_addVariable n v4 hV _ _, v1, by omega, ?_, rfl, fun j hj => ?_⟩
  · unfold rf_addVar
    rcases hr with ⟨rfl, h1, -⟩ | ⟨h0, h1, -⟩
    · rw [if_pos h1]; exact r_addVar_J n hno (by omega) v3 hV P
    · rw [if_neg (by rw [h1]; exact nI_m1 (by omega)), h1]; exact r_addVar_J n hno v1 v3 hV P
  · simp [vaR, gI_sI]
  · by_cases e : j = V
    · subst e
      simp only [if_true]
      refine ⟨hw, ?_, ?_⟩
      · simp [vaR, gI_sI]
      · simp [vaC, gL_sI, gL_sL]
    · obtain ⟨a1, a2, a3⟩ := v5 j (by omega)
      simp only [e, if_false]
      refine ⟨a1, ?_, ?_⟩
      · rw [← a2]; simp [vaR, gI_sI, e]
      · rw [← a3]; simp [vaC, gL_sI, gL_sL, e]
/-- a new site, written -/
def siR (u : zMu) (S : Nat) (k P f w : Int32) : zMu := zsI (zsI (zsI (zsI u 19 S k) 20 S P) 21 S f) 22 S w
def siC (u : zMu) (p S : Nat) (k P f : Int32) (x : Int64) : zMu := zsI (zsL (zsI (zsI (zsI u (p + 4) S k) (p + 5) S P) (p + 6) S f) (p + 7) S x) p 8 (nI (S + 1))
theorem c_pAddSite (n p : Nat) {u : zMu} {S : Nat} (h : zI u p 8 = nI S) (hS : S < 80) (k P f : Int32) (x : Int64) : ce_P_addSite n p u k P f x = some (nI S, siC u p S k P f x) := by
  have hz : zin (nI S) 80 = true := zin_nI hS (by decide)
  have hx : zx (nI S) = S := zx_nI (by omega)
  have hl : nI S < 80 := nI_lt (b := 80) hS (by decide)
  unfold ce_P_addSite siC
  rw [h, if_pos hl]
  simp [zlet, zgd, gI_sI, gI_sL, h, hz, hx, nI_1]
theorem c_pAddSite80 (n p : Nat) {u : zMu} (h : zI u p 8 = nI 80) (k P f : Int32) (x : Int64) : ce_P_addSite n p u k P f x = some (-1, u) := by
  unfold ce_P_addSite
  rw [h, if_neg (show ¬ nI 80 < 80 by decide)]
theorem r_newSite (n : Nat) {ur : zMu} {S P : Nat} (h : zI ur 0 39 = nI S) (hS : S < 800) (hne : S ≠ 80) (hp : ∀ v, rf_place n (zsI ur 19 S v) = some (nI P, zsI ur 19 S v)) (k w : Int32) : rf_newSite n ur k w = some (nI S, zsI (siR ur S k (nI P) (zI ur 0 27) w) 0 39 (nI (S + 1))) := by
  have hz : zin (nI S) 800 = true := zin_nI hS (by decide)
  have hx : zx (nI S) = S := zx_nI (by omega)
  have h80 : ¬ nI S = 80 := fun q => hne ((nI_eq (a := S) (b := 80) (by omega) (by decide)).mp q)
  unfold rf_newSite siR
  simp [zbd, zlet, zgd, gI_sI, h, hz, hx, hp, h80, nI_1]
