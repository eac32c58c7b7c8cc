/-! PARSING, third part: what is written, step by step, on each side -/
theorem nar_b {k : Nat} (h : k < 128) : vp_nar .byte (nI k).toInt8.toInt32 = nI k := by
  rw [pk_vb]
  exact sb_low h
def emR (u : zMu) (cr : Nat) (o a b w : Int32) : zMu := zsI (zsI (zsI (zsI (zsI u 10 cr o) 11 cr a) 12 cr b) 13 cr w) 0 24 (nI (cr + 1))
theorem r_emit (n : Nat) {u : zMu} {cr : Nat} (h : zI u 0 24 = nI cr) (hc : cr < 4000) (o a b w : Int32) : rf_emit n u o a b w = some ((), emR u cr o a b w) := by
  have hz : zin (nI cr) 4000 = true := zin_nI hc (by decide)
  have hx : zx (nI cr) = cr := zx_nI (by omega)
  unfold rf_emit emR
  simp [zlet, zgd, gI_sI, h, hz, hx, nI_1]
def emC (u : zMu) (p cc : Nat) (o a w : Int32) : zMu := zsI (zsI (zsI (zsI u (p + 1) cc o) (p + 2) cc a) (p + 3) cc w) p 3 (nI (cc + 1))
theorem c_emit (n p : Nat) {u : zMu} {cc : Nat} (h : zI u p 3 = nI cc) (hc : cc < 2400) {o w : Nat} (ho : o < 128) (hw : w < 32768) (a : Int32) : ce_P_emit n p u (nI o) a (nI w) = some (nI cc, emC u p cc (nI o) a (nI w)) := by
  have hz : zin (nI cc) 2400 = true := zin_nI hc (by decide)
  have hx : zx (nI cc) = cc := zx_nI (by omega)
  have hl : nI cc < 2400 := nI_lt (b := 2400) hc (by decide)
  unfold ce_P_emit emC
  rw [h, if_pos hl]
  simp [zlet, zgd, gI_sI, h, hz, hx, nI_1, nar_b ho, vp_nar_short, sh16 hw]
theorem c_isSite (n p : Nat) {u : zMu} {S : Nat} (h : zI u p 8 = nI S) (hS : S ≤ 80) (x : Int32) : ce_P_isSite n p u x = some (if x.toInt < 0 ∨ (S : Int) ≤ x.toInt then 0 else 1, u) := by
  unfold ce_P_isSite
  rw [h]
  by_cases g : x < 0
  · have := (lt_lit (n := 0) (by decide)).mp g
    rw [if_pos g, if_pos (Or.inl (by simpa using this))]
  · have g' : ¬ x.toInt < 0 := fun q => g ((lt_lit (n := 0) (by decide)).mpr (by simpa using q))
    rw [if_neg g]
    obtain ⟨j, hj, rfl⟩ := nI_of g
    rw [nI_toInt hj] at g' ⊢
    by_cases g2 : j < S
    · rw [if_pos (nI_lt g2 (by omega)), if_neg (by omega)]
    · rw [if_neg (nI_nlt (by omega) hj), if_pos (Or.inr (by omega))]
