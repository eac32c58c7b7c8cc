/-! LEXING, tenth part: the whole text on both sides -/
theorem pKy_keep {ur uc vr vc : zMu} {q : Nat} (hq : 12 ≤ q) (h : pKy ur uc) (hr : fR ur vr) (hc : fC q uc vc) : pKy vr vc :=
  ⟨fun j hj => by rw [hr.2 9 j (by unfold pcR; omega)]; exact h.1 j hj, fun k hk => by rw [hc.2.1 8 k (by unfold pcC; omega)]; exact h.2 k hk⟩
/-- behind the cutting: T + 1 tokens, the last one the end; the class stands at the first -/
def pCut (B : Nat → Nat) (s : Nat) (vr vc : zMu) : Prop := ∃ (PK : Nat → Int64) (T N : Nat) (rk ck pl : Nat → Nat), pLexb (T + 1) B s PK vr vc (T + 1) N (s + 1) rk ck pl ∧ rk T = 0 ∧ pl T = s ∧ (T ≤ s ∧ N ≤ T) ∧ zI vc 7 5 = nI 0 ∧ zI vc 7 6 = zI vc 9 0 ∧ zI vc 7 7 = zI vc 10 0 ∧ zL vc 7 8 = zL vc 11 0
/-- a sign's token -/
theorem p_sign (n : Nat) (hn : 2000 ≤ n) {B : Nat → Nat} {s : Nat} {PK : Nat → Int64} {ur uc : zMu} {T N p : Nat} {rk ck pl : Nat → Nat} (hx : pTx B s ur uc) (h : pLex B s PK ur uc T N p rk ck pl) (hp : p < s) (q : Nat) :
    ∃ e vr vc, p < e ∧ e ≤ s ∧ pStep B s q ur uc T e vr vc ∧ ce_X_takeSign n uc (nI s) (nI p) = some (nI e, vc) ∧
      ∀ (k12 : zMu → Int32 → Option (Unit × zMu)) (Q : Unit → zMu → Prop), Wp (k12 vr (nI e)) Q →
        (if B p = 61 ∧ p + 1 < s ∧ B (p + 1) = 61 then e = p + 2 ∧ rf_token n ur 150 (nI p) 0 = some ((), vr) else e = p + 1 ∧ Wp (rf_cuts_J121 n k12 ur (nI p) (nI (B p))) Q) := by
  obtain ⟨x1, x2, x3, x4, x5⟩ := hx
  have hv : (((zI uc 1 (zx (nI p))) &&& 255).toUInt32 % 65536).toInt32 = nI (B p) := by
    rw [zx_nI (by omega), x5 p hp]
    exact sb_and (B p) (x2 p)
  have hz : zin (nI p) 1500 = true := zin_nI (by omega) (by decide)
  by_cases c : B p = 61 ∧ p + 1 < s ∧ B (p + 1) = 61
  · have tk := p_tok n x1 h (k := 150) (c := 260) (rw := 0) (cv := 0) (e := p + 2) (Or.inr (Or.inr (Or.inr (Or.inr (Or.inl ⟨rfl, rfl⟩))))) (vRel_no (by decide) (by decide)) (by omega) (by omega) q
    refine ⟨p + 2, _, _, by omega, by omega, tk.2.2.step, ?_, fun k12 Q hk => ?_⟩
    · unfold ce_X_takeSign
      rw [hz, hv]
      show (if nI (B p) = 61 then _ else _) = _
      rw [if_pos (show nI (B p) = 61 by rw [c.1]; rfl), if_pos (show nI p + 1 < nI s by rw [nI_1]; exact nI_lt c.2.1 (by omega)), nI_1, zin_nI (show p + 1 < 1500 by omega) (by decide)]
      show (if zI uc 1 (zx (nI (p + 1))) = 61 then _ else _) = _
      rw [zx_nI (by omega), x5 _ c.2.1, if_pos (show sb (B (p + 1)) = 61 by rw [c.2.2]; rfl)]
      rw [show ce_X_add n uc 260 (nI p) 0 = some ((), tokC uc T (nI 260) (nI p) 0) from tk.2.1]
      show some (nI p + nI 2, _) = _
      rw [nI_add]
    · rw [if_pos c]
      exact ⟨rfl, tk.1⟩
  · have goS : ∀ (k cc : Nat), kRel k cc → k ≠ 1 → k ≠ 2 → (isSg (B p) → k = B p ∧ cc = B p) → (¬ isSg (B p) → k = 3 ∧ cc = 257) → ∃ e vr vc, p < e ∧ e ≤ s ∧ pStep B s q ur uc T e vr vc ∧ ce_X_takeSign n uc (nI s) (nI p) = some (nI e, vc) ∧
        ∀ (k12 : zMu → Int32 → Option (Unit × zMu)) (Q : Unit → zMu → Prop), Wp (k12 vr (nI e)) Q → e = p + 1 ∧ Wp (rf_cuts_J121 n k12 ur (nI p) (nI (B p))) Q := by
      intro k cc hk h1 h2 hy hno
      have tk := p_tok n x1 h (k := k) (c := cc) (rw := 0) (cv := 0) (e := p + 1) hk (vRel_no h1 h2) (by omega) (by omega) q
      refine ⟨p + 1, _, _, by omega, by omega, tk.2.2.step, ?_, fun k12 Q hQ => ⟨rfl, ?_⟩⟩
      · obtain ⟨r, r1, r2⟩ := c_signs n hn uc (x2 p)
        have j47 : ce_X_takeSign_J47 n uc (nI p) (nI (B p)) = some (nI (p + 1), tokC uc T (nI cc) (nI p) 0) := by
          unfold ce_X_takeSign_J47
          rw [r1]
          show (if r < 0 then _ else _) = _
          by_cases g : isSg (B p)
          · rw [if_neg (fun w => r2.mp w g)]
            obtain ⟨g1, g2⟩ := hy g
            rw [show nI (B p) = nI cc by rw [g2], tk.2.1]
            show some (nI p + 1, _) = _
            rw [nI_1]
          · rw [if_pos (r2.mpr g)]
            obtain ⟨g1, g2⟩ := hno g
            have t2 := tk.2.1
            rw [g2] at t2 ⊢
            rw [show ce_X_add n uc 257 (nI p) 0 = some ((), tokC uc T (nI 257) (nI p) 0) from t2]
            show some (nI p + 1, _) = _
            rw [nI_1]
        unfold ce_X_takeSign
        rw [hz, hv]
        show (if nI (B p) = 61 then _ else _) = _
        by_cases g1 : B p = 61
        · rw [if_pos (show nI (B p) = 61 by rw [g1]; rfl)]
          by_cases g2 : p + 1 < s
          · rw [if_pos (show nI p + 1 < nI s by rw [nI_1]; exact nI_lt g2 (by omega)), nI_1, zin_nI (show p + 1 < 1500 by omega) (by decide)]
            show (if zI uc 1 (zx (nI (p + 1))) = 61 then _ else _) = _
            rw [zx_nI (by omega), x5 _ g2, if_neg (show ¬ sb (B (p + 1)) = 61 from fun w => c ⟨g1, g2, (sb_inj (k := 61) (x2 _) (by decide)).mp w⟩)]
            exact j47
          · rw [if_neg (show ¬ nI p + 1 < nI s by rw [nI_1]; exact nI_nlt (by omega) (by omega))]
            exact j47
        · rw [if_neg (show ¬ nI (B p) = 61 from fun w => g1 ((nI_eq (a := B p) (b := 61) (by have := x2 p; omega) (by decide)).mp w))]
          exact j47
      · unfold rf_cuts_J121
        obtain ⟨r, r1, r2⟩ := r_isSign n ur (x2 p)
        refine wp_bd ⟨r, ur, r1, ?_⟩
        by_cases g : isSg (B p)
        · obtain ⟨g1, g2⟩ := hy g
          refine wp_f (fun w => r2.mp w g) ?_
          have t1 := tk.1
          rw [g1] at t1
          refine wp_bd ⟨(), _, t1, wp_let ?_⟩
          rw [nI_1]
          rw [g1] at hQ
          exact hQ
        · obtain ⟨g1, g2⟩ := hno g
          refine wp_t (r2.mpr g) ?_
          have t1 := tk.1
          rw [g1] at t1
          refine wp_bd ⟨(), _, t1, wp_let ?_⟩
          rw [nI_1]
          rw [g1] at hQ
          exact hQ
    have := x2 p
    have fin : ∃ e vr vc, p < e ∧ e ≤ s ∧ pStep B s q ur uc T e vr vc ∧ ce_X_takeSign n uc (nI s) (nI p) = some (nI e, vc) ∧
        ∀ (k12 : zMu → Int32 → Option (Unit × zMu)) (Q : Unit → zMu → Prop), Wp (k12 vr (nI e)) Q → e = p + 1 ∧ Wp (rf_cuts_J121 n k12 ur (nI p) (nI (B p))) Q := by
      by_cases g : isSg (B p)
      · exact goS (B p) (B p) (Or.inr (Or.inr (Or.inr (Or.inr (Or.inr (Or.inr ⟨g, rfl⟩)))))) (by unfold isSg at g; omega) (by unfold isSg at g; omega) (fun _ => ⟨rfl, rfl⟩) (fun w => absurd g w)
      · exact goS 3 257 (Or.inr (Or.inr (Or.inr (Or.inl ⟨rfl, rfl⟩)))) (by decide) (by decide) (fun w => absurd w g) (fun _ => ⟨rfl, rfl⟩)
    obtain ⟨e, vr, vc, f1, f2, f3, f4, f5⟩ := fin
    refine ⟨e, vr, vc, f1, f2, f3, f4, fun k12 Q hQ => ?_⟩
    rw [if_neg c]
    exact f5 k12 Q hQ
