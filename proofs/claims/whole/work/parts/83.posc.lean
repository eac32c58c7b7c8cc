/-! PARSING, thirty-first part: E at every depth -/
theorem sSp_w {n op bR bC hb K bR' bC' hb' K' : Nat} {fR : Nat → zMu → Option (Unit × zMu)} {fC : Nat → zMu → Option (Int32 × zMu)} (h : sSp n op bR bC hb K fR fC) (k1 : bR ≤ bR') (k2 : bC ≤ bC') (k3 : hb' ≤ hb) (k4 : K ≤ K') : sSp n op bR' bC' hb' K' fR fC := by
  intro X hX kR kC i cr cc S C tb e E M ht ur uc a b c d e1 f g
  exact sSp_K h k4 X hX kR kC i cr cc S C tb e E M ht ur uc (by omega) (by omega) c (by omega) e1 f g
theorem s_all (n : Nat) (hn : 2000 ≤ n) : ∀ d op, op + d = 8 → sSp n op (12 * (d + 1)) (12 * (d + 1)) (6 * op + 6) (2270 + 8 * (d + 1)) (rf_one n) (ce_C_compileOne n) ∧ sSp n op (12 * (d + 1) + 4) (12 * (d + 1) + 8) (6 * op + 3) (2270 + 8 * (d + 1) + 4) (rf_expr n) (fun k u => ce_C_compileE n k u (nI 0)) := by
  have core : ∀ d op bR bC K, op + d = 8 → 5 ≤ bR → 6 ≤ bC → bR + 2 ≤ 12 * (d + 1) → bC + 3 ≤ 12 * (d + 1) → 2260 ≤ K → K + 4 ≤ 2270 + 8 * (d + 1) + 4 → (op < 8 → sSp n (op + 1) bR bC (6 * op + 9) K (rf_expr n) (fun k u => ce_C_compileE n k u (nI 0))) → (op < 8 → sSp n (op + 1) bR bC (6 * op + 12) K (rf_one n) (ce_C_compileOne n)) → sSp n op (12 * (d + 1)) (12 * (d + 1)) (6 * op + 6) (K + 1) (rf_one n) (ce_C_compileOne n) ∧ sSp n op (12 * (d + 1) + 4) (12 * (d + 1) + 8) (6 * op + 3) (K + 4) (rf_expr n) (fun k u => ce_C_compileE n k u (nI 0)) := by
    intro d op bR bC K hd hbR hbC h1 h2 h3 h4 H HO
    have one := sSp_w (p_one n hn (by omega) hbR hbC h3 (by omega) H HO) h1 h2 (Nat.le_refl _) (Nat.le_refl _)
    have post := p_post n hn (by omega) hbR hbC h3 (by omega) (by omega) (by omega) H one
    have term := p_term n hn (hb := 6 * op + 5) (by omega) (by omega) post
    have sum := p_sum n hn (hb := 6 * op + 4) (by omega) (by omega) term
    have expr := p_expr n hn (hb := 6 * op + 3) (by omega) (by omega) sum
    exact ⟨one, sSp_w expr (by omega) (by omega) (by omega) (by omega)⟩
  intro d
  induction d with
  | zero =>
    intro op hd
    have h := core 0 op 5 6 2270 hd (by omega) (by omega) (by omega) (by omega) (by omega) (by omega) (fun q => by omega) (fun q => by omega)
    exact ⟨sSp_w h.1 (by omega) (by omega) (by omega) (by omega), sSp_w h.2 (by omega) (by omega) (by omega) (by omega)⟩
  | succ d ih =>
    intro op hd
    obtain ⟨i1, i2⟩ := ih (op + 1) (by omega)
    have h := core (d + 1) op (12 * (d + 1) + 4) (12 * (d + 1) + 8) (2270 + 8 * (d + 1) + 4) hd (by omega) (by omega) (by omega) (by omega) (by omega) (by omega) (fun _ => sSp_w i2 (by omega) (by omega) (by omega) (by omega)) (fun _ => sSp_w i1 (by omega) (by omega) (by omega) (by omega))
    exact ⟨sSp_w h.1 (by omega) (by omega) (by omega) (by omega), sSp_w h.2 (by omega) (by omega) (by omega) (by omega)⟩
/-- an E, read by both -/
theorem s_E (n : Nat) (hn : 2000 ≤ n) {op : Nat} (hop : op ≤ 8) : sSp n op 120 120 (6 * op + 3) (2270 + 8 * (9 - op) + 4) (rf_expr n) (fun k u => ce_C_compileE n k u (nI 0)) :=
  sSp_w (s_all n hn (8 - op) op (by omega)).2 (by omega) (by omega) (Nat.le_refl _) (by omega)
