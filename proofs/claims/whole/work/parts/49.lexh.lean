/-! LEXING, eighth part: a word's token on both sides -/
/-- one token more; the names may be one more -/
def pStep (B : Nat → Nat) (s q : Nat) (ur uc : zMu) (T e : Nat) (vr vc : zMu) : Prop := fR ur vr ∧ fC q uc vc ∧ ∃ (PK : Nat → Int64) (N : Nat) (rk ck pl : Nat → Nat), pLex B s PK vr vc (T + 1) N e rk ck pl
theorem pTok.step {B : Nat → Nat} {s : Nat} {PK : Nat → Int64} {q : Nat} {ur uc : zMu} {T N e : Nat} {vr vc : zMu} (h : pTok B s PK q ur uc T N e vr vc) : pStep B s q ur uc T e vr vc := by
  obtain ⟨h1, h2, rk, ck, pl, h3⟩ := h
  exact ⟨h1, h2, PK, N, rk, ck, pl, h3⟩
theorem p_word (n : Nat) (hn : 2000 ≤ n) {B : Nat → Nat} {s : Nat} {PK : Nat → Int64} {ur uc : zMu} {T N p : Nat} {rk ck pl : Nat → Nat} (hx : pTx B s ur uc) (hy : pKy ur uc) (h : pLex B s PK ur uc T N p rk ck pl) (hp : p < s) (hd : isLe (B p)) (q : Nat) :
    ∃ e, p < e ∧ e ≤ s ∧ Wp (rf_word n ur (nI p)) (fun r vr => Wp (ce_X_takeWord n uc (nI s) (nI p)) (fun r' vc => r = nI e ∧ r' = nI e ∧ pStep B s q ur uc T e vr vc)) := by
  obtain ⟨x1, x2, x3, x4, x5⟩ := hx
  obtain ⟨e, e1, e2, e3, e4⟩ := wend (fun i => alnum (B i)) s (s - p) p rfl (by omega)
  have hpe : p < e := by
    rcases Nat.lt_or_ge p e with g | g
    · exact g
    · have : e = p := by omega
      subst this
      rcases e4 with g | g
      · omega
      · exact absurd (Or.inl hd) g
  refine ⟨e, hpe, e2, ?_⟩
  unfold rf_word ce_X_takeWord
  have z0 : (0 : Int64) = pkw B p p := by unfold pkw; rw [Nat.sub_self, if_pos (by decide)]; rfl
  refine r_wscan n x1 x2 x3 x4 e2 e3 e4 ?_ n p (by omega) (Nat.le_refl _) (by omega)
  rw [show ce_X_takeWord_L6 n n uc (nI s) (nI p) (nI p) 0 = ce_X_takeWord_L6 n n uc (nI s) (nI p) (nI p) (pkw B p p) by rw [← z0]]
  have cls : ∀ (r : Int32) (vr : zMu), Wp (ce_X_takeWord_J65 n uc (nI p) (nI e) (pkw B p e)) (fun r' vc => r = nI e ∧ r' = nI e ∧ pStep B s q ur uc T e vr vc) → Wp (ce_X_takeWord_L6 n n uc (nI s) (nI p) (nI p) (pkw B p p)) (fun r' vc => r = nI e ∧ r' = nI e ∧ pStep B s q ur uc T e vr vc) := fun r vr k => c_wscan n x1 x2 x5 e2 e3 e4 k n p (by omega) (Nat.le_refl _) (by omega)
  unfold rf_word_J40
  rw [pk_sub (by omega)]
  have hal : ∀ i, i < e - p → alnum (B (p + i)) := fun i hi => e3 (p + i) (by omega) (by omega)
  by_cases c1 : 8 < e - p
  · have odd := p_tok n x1 h (k := 3) (c := 257) (rw := 0) (cv := pkw B p e) (Or.inr (Or.inr (Or.inr (Or.inl ⟨rfl, rfl⟩)))) (vRel_no (by decide) (by decide)) hpe e2 q
    have go : ∀ r1 : Int32, Wp (if 8 < nI (e - p) then zbd (rf_token n ur 3 (nI p) 0) fun _ u5 => some (nI e, u5) else if r1 = -1 then zbd (rf_nameOf n ur (nI p) (nI (e - p))) fun r7 u8 => zbd (rf_token n u8 1 (nI p) r7) fun _ u10 => some (nI e, u10) else zbd (rf_token n ur (200 + r1) (nI p) 0) fun _ u12 => some (nI e, u12)) (fun r vr => Wp (ce_X_takeWord_L6 n n uc (nI s) (nI p) (nI p) (pkw B p p)) (fun r' vc => r = nI e ∧ r' = nI e ∧ pStep B s q ur uc T e vr vc)) := by
      intro r1
      refine wp_t (nI_lt (a := 8) c1 (by omega)) (wp_bd ⟨(), _, odd.1, wp_some (cls _ _ ?_)⟩)
      unfold ce_X_takeWord_J65
      rw [pk_sub (by omega)]
      exact wp_t (nI_lt (a := 8) c1 (by omega)) (wp_bd ⟨(), _, odd.2.1, wp_some ⟨rfl, rfl, odd.2.2.step⟩⟩)
    exact wp_bd (r_keyOf n hn x1 x2 x4 hy.1 (by omega) (fun k _ _ _ => go _) (fun _ => go _))
  · have hw : pkw B p e = lN (pkn B p (e - p)) := by
      unfold pkw
      by_cases g : e - p < 8
      · rw [if_pos g]
      · rw [if_neg g, show e - p = 8 by omega]
    have c8 : ¬ (8 : Int32) < nI (e - p) := nI_nlt (a := 8) (by omega) (by omega)
    refine wp_bd (r_keyOf n hn x1 x2 x4 hy.1 (by omega) (fun k hk hno hmt => ?_) (fun hno => ?_))
    · have tk := p_tok n x1 h (k := 200 + k) (c := 300 + k) (rw := 0) (cv := lN (pkn B p (e - p))) (Or.inr (Or.inr (Or.inr (Or.inr (Or.inr (Or.inl ⟨by omega, by omega, by omega⟩)))))) (vRel_no (by omega) (by omega)) hpe e2 q
      refine wp_f c8 (wp_f (fun g => ?_) ?_)
      · have := congrArg Int32.toInt g
        rw [nI_toInt (by omega)] at this
        have h1 : (-1 : Int32).toInt = -1 := rfl
        rw [h1] at this
        omega
      rw [show (200 : Int32) + nI k = nI (200 + k) from nI_add 200 k]
      refine wp_bd ⟨(), _, tk.1, wp_some (cls _ _ ?_)⟩
      unfold ce_X_takeWord_J65
      rw [pk_sub (by omega), hw]
      refine wp_f c8 (wp_bd (c_kindOf n hn hy.2 (by omega) hal (fun k' hk' hno' hmt' => ?_) (fun g => absurd hmt (g k hk))))
      have ek : k' = k := by
        rcases Nat.lt_trichotomy k' k with g | g | g
        · exact absurd hmt' (hno k' g)
        · exact g
        · exact absurd hmt (hno' k g)
      subst ek
      exact wp_bd ⟨(), _, tk.2.1, wp_some ⟨rfl, rfl, tk.2.2.step⟩⟩
    · refine wp_f c8 (wp_t rfl ?_)
      have h' := h
      obtain ⟨h1, h2, h3, h4, h5, h6, h7, h8, h9, h10, h11, h12⟩ := h'
      have kind : ∀ (vr : zMu) (w : Nat), pStep B s q ur uc T e vr (tokC uc T (nI 259) (nI p) (lN (pkn B p (e - p)))) → Wp (ce_X_takeWord_L6 n n uc (nI s) (nI p) (nI p) (pkw B p p)) (fun r' vc => nI e = nI e ∧ r' = nI e ∧ pStep B s q ur uc T e vr vc) := by
        intro vr w hst
        refine cls _ _ ?_
        unfold ce_X_takeWord_J65
        rw [pk_sub (by omega), hw]
        refine wp_f c8 (wp_bd (c_kindOf n hn hy.2 (by omega) hal (fun k hk _ hmt => absurd hmt (hno k hk)) (fun _ => ?_)))
        exact wp_bd ⟨(), _, c_add n h2 (by omega) (ck := 259) (by decide) (by omega) _, wp_some ⟨rfl, rfl, hst⟩⟩
      refine wp_bd (r_nameOf n hn x1 x2 x4 h3 (by omega) h9 (z := e - p) (by omega) (by omega) (by omega) hal (fun w hw1 hw2 => ?_) (fun hne => ?_))
      · have tk := p_tok n x1 h (k := 1) (c := 259) (rw := nI w) (cv := lN (pkn B p (e - p))) (Or.inr (Or.inl ⟨rfl, rfl⟩)) ⟨fun g => absurd g (by decide), fun _ => ⟨w, hw1, rfl, hw2.symm⟩⟩ hpe e2 q
        exact wp_bd ⟨(), _, tk.1, wp_some (kind _ w tk.2.2.step)⟩
      · obtain ⟨PK', a1, a2, a3, a4, a5, a6⟩ := pLex_nm h (by omega) (by omega) (by omega) hal hne
        have n6 : ∀ t, zI (nmU ur N p (e - p)) 6 t = zI ur 6 t := fun t => by simp [nmU, gI_sI]
        have hl : pLexb (T + 1) B s PK' (nmU ur N p (e - p)) uc T (N + 1) p rk ck pl := by
          refine ⟨a3, h2, by simp [nmU, gI_sI], by omega, h5, h6, fun t ht => ⟨a4 t ht, (h7 t ht).2⟩, h8, a5, a6, fun w hw => ?_, fun t w w' ht hk hw' w1 w2 => ?_⟩
          · by_cases eN : w = N
            · exact Or.inr ⟨rfl, by omega⟩
            · rcases h11 w (by omega) with ⟨t, t1, t2, t3⟩ | ⟨e1, -⟩
              · exact Or.inl ⟨t, t1, t2, by rw [n6]; exact t3⟩
              · exact absurd e1 (by omega)
          · rw [n6] at hw'
            have hwN : w' < N := by
              obtain ⟨wv, v1, v2, -⟩ := (h7 t ht).1.2.2.2.2.2.2 hk
              rw [hw'] at v2
              have := (nI_eq (by omega) (by omega)).mp v2
              omega
            obtain ⟨t', t1, t2, t3⟩ := h12 t w w' ht hk hw' hwN w2
            exact ⟨t', t1, t2, by rw [n6]; exact t3⟩
        have tk := p_tokb n x1 hl (Nat.le_refl _) (k := 1) (c := 259) (rw := nI N) (cv := lN (pkn B p (e - p))) (Or.inr (Or.inl ⟨rfl, rfl⟩)) ⟨fun g => absurd g (by decide), fun _ => ⟨N, by omega, rfl, a2.symm⟩⟩ (fun _ => ⟨rfl, by rw [Nat.add_sub_cancel]⟩) hpe e2 q
        obtain ⟨t1, t2, t3⟩ := tk.2.2.step
        exact wp_bd ⟨(), _, tk.1, wp_some (kind _ N ⟨fR_tr fR_nm t1, t2, t3⟩)⟩
