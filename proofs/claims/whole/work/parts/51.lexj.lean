/-! LEXING, tenth part: the whole text on both sides -/
theorem pKy_keep {ur uc vr vc : zMu} {q : Nat} (hq : 12 ≤ q) (h : pKy ur uc) (hr : fR ur vr) (hc : fC q uc vc) : pKy vr vc :=
  ⟨fun j hj => by rw [hr.2 9 j (by unfold pcR; omega)]; exact h.1 j hj, fun k hk => by rw [hc.2.1 8 k (by unfold pcC; omega)]; exact h.2 k hk⟩
/-- behind the cutting: T + 1 tokens, the last one the end -/
def pCut (B : Nat → Nat) (s : Nat) (vr vc : zMu) : Prop := ∃ (PK : Nat → Int64) (T N : Nat) (rk ck pl : Nat → Nat), pLexb (T + 1) B s PK vr vc (T + 1) N (s + 1) rk ck pl ∧ rk T = 0 ∧ pl T = s ∧ T ≤ s ∧ (∀ t, t < T → rk t ≠ 0)
