/-! LEXING, end -/
theorem p_cuts (n : Nat) (hn : 2000 ≤ n) {B : Nat → Nat} {s q : Nat} (hq : 12 ≤ q) {ur uc : zMu} (hx : pTx B s ur uc) (hy : pKy ur uc) : Wp (rf_cuts n ur) (fun _ vr => Wp (ce_X_begin n uc (nI s)) (fun _ vc => fR ur vr ∧ fC q uc vc ∧ pCut B s vr vc)) := by
  have f1 : fR ur (zsI (zsI ur 0 9 0) 0 13 0) := fR_tr (fR_set (by unfold pcR; omega)) (fR_set (by unfold pcR; omega))
  have f2 : fC q uc (zsI uc 7 4 0) := fC_setI (by unfold pcC; omega)
  unfold rf_cuts ce_X_begin
  refine wp_let (wp_let ?_)
  refine wp_mono (p_lex n hn hq (s + 1) 0 0 n n 0 (zsI (zsI ur 0 9 0) 0 13 0) (zsI uc 7 4 0) (by omega) (by omega) (by omega) (by have := hx.1; omega) (by have := hx.1; omega) (pTx_keep hq hx f1 f2) (pKy_keep hq hy f1 f2) ⟨fun _ => 0, 0, fun _ => 0, fun _ => 0, fun _ => 0, rfl, rfl, rfl, by omega, by omega, by omega, fun t ht => by omega, fun t ht => by omega, fun w hw => by omega, fun w w' hw => by omega, fun w hw => by omega, fun t w w' ht => by omega⟩) (fun _ vr k => wp_let (wp_mono k (fun _ vc g => ⟨fR_tr f1 g.1, fC_tr f2 g.2.1, g.2.2⟩)))
