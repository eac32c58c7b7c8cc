/-! LEXING, fifth part: a number's token on both sides -/
/-- the token k (class c) at p goes behind, with e bytes behind it -/
def pTok (B : Nat → Nat) (s : Nat) (PK : Nat → Int64) (q : Nat) (ur uc : zMu) (T N e : Nat) (vr vc : zMu) : Prop := fR ur vr ∧ fC q uc vc ∧ ∃ rk ck pl, pLex B s PK vr vc (T + 1) N e rk ck pl
theorem p_tokb (n : Nat) {m : Nat} {B : Nat → Nat} {s : Nat} {PK : Nat → Int64} {ur uc : zMu} {T N p e : Nat} {rk ck pl : Nat → Nat} (hs : s ≤ 1500) (h : pLexb m B s PK ur uc T N p rk ck pl) (hm : m ≤ T + 1) {k c : Nat} {rw : Int32} {cv : Int64} (hk : kRel k c) (hv : vRel PK N k rw cv) (hg : m = T + 1 → k = 1 ∧ rw = nI (N - 1)) (hp : p < e) (he : e ≤ s) (q : Nat) :
    rf_token n ur (nI k) (nI p) rw = some ((), tokR ur T (nI k) (nI p) rw) ∧ ce_X_add n uc (nI c) (nI p) cv = some ((), tokC uc T (nI c) (nI p) cv) ∧ pTok B s PK q ur uc T N e (tokR ur T (nI k) (nI p) rw) (tokC uc T (nI c) (nI p) cv) := by
  have h' := h
  obtain ⟨h1, h2, h3, h4, h5, h6, h7⟩ := h'
  exact ⟨r_token n h1 (by omega) _ _ _, c_add n h2 (by omega) (kRel_lt hk).2 (by omega) _, fR_tok, fC_tok, _, _, _, pLex_add hs h hm hk hv hg hp (by omega)⟩
theorem p_tok (n : Nat) {B : Nat → Nat} {s : Nat} {PK : Nat → Int64} {ur uc : zMu} {T N p e : Nat} {rk ck pl : Nat → Nat} (hs : s ≤ 1500) (h : pLex B s PK ur uc T N p rk ck pl) {k c : Nat} {rw : Int32} {cv : Int64} (hk : kRel k c) (hv : vRel PK N k rw cv) (hp : p < e) (he : e ≤ s) (q : Nat) :
    rf_token n ur (nI k) (nI p) rw = some ((), tokR ur T (nI k) (nI p) rw) ∧ ce_X_add n uc (nI c) (nI p) cv = some ((), tokC uc T (nI c) (nI p) cv) ∧ pTok B s PK q ur uc T N e (tokR ur T (nI k) (nI p) rw) (tokC uc T (nI c) (nI p) cv) := p_tokb n hs h (by omega) hk hv (fun e => absurd e (by omega)) hp he q
theorem vRel_no {PK : Nat → Int64} {N k : Nat} {rw : Int32} {cv : Int64} (h1 : k ≠ 1) (h2 : k ≠ 2) : vRel PK N k rw cv := ⟨fun q => absurd q h2, fun q => absurd q h1⟩
theorem p_number (n : Nat) (hn : 2000 ≤ n) {B : Nat → Nat} {s : Nat} {PK : Nat → Int64} {ur uc : zMu} {T N p : Nat} {rk ck pl : Nat → Nat} (hx : pTx B s ur uc) (h : pLex B s PK ur uc T N p rk ck pl) (hp : p < s) (hd : isDi (B p)) (q : Nat) :
    ∃ e, p < e ∧ e ≤ s ∧ Wp (rf_number n ur (nI p)) (fun r vr => Wp (ce_X_takeNumber n uc (nI s) (nI p)) (fun r' vc => r = nI e ∧ r' = nI e ∧ pTok B s PK q ur uc T N e vr vc)) := by
  obtain ⟨x1, x2, x3, x4, x5⟩ := hx
  obtain ⟨e, e1, e2, e3, e4⟩ := wend (fun i => isDi (B i)) s (s - p) p rfl (by omega)
  have hpe : p < e := by
    rcases Nat.lt_or_ge p e with g | g
    · exact g
    · have : e = p := by omega
      subst this
      rcases e4 with g | g
      · omega
      · exact absurd hd g
  refine ⟨e, hpe, e2, ?_⟩
  unfold rf_number ce_X_takeNumber
  have z10 : (0 : Int64) = dcw B p p 10 := by unfold dcw; rw [Nat.sub_self, if_pos (by decide)]; rfl
  have z9 : (0 : Int64) = dcw B p p 9 := by unfold dcw; rw [Nat.sub_self, if_pos (by decide)]; rfl
  have odd := p_tok n x1 h (k := 3) (c := 257) (rw := 0) (cv := dcw B p e 9) (Or.inr (Or.inr (Or.inr (Or.inl ⟨rfl, rfl⟩)))) (vRel_no (by decide) (by decide)) hpe e2 q
  rw [show rf_number_L4 n n ur (nI p) (nI p) 0 = rf_number_L4 n n ur (nI p) (nI p) (dcw B p p 10) by rw [← z10]]
  refine r_nscan n x1 x2 x3 x4 e2 e3 e4 ?_ n p (by omega) (Nat.le_refl _) (by omega)
  rw [show ce_X_takeNumber_L6 n n uc (nI s) (nI p) (nI p) 0 = ce_X_takeNumber_L6 n n uc (nI s) (nI p) (nI p) (dcw B p p 9) by rw [← z9]]
  have cls : ∀ (r : Int32) (vr : zMu), Wp (ce_X_takeNumber_J54 n uc (nI p) (nI e) (dcw B p e 9)) (fun r' vc => r = nI e ∧ r' = nI e ∧ pTok B s PK q ur uc T N e vr vc) → Wp (ce_X_takeNumber_L6 n n uc (nI s) (nI p) (nI p) (dcw B p p 9)) (fun r' vc => r = nI e ∧ r' = nI e ∧ pTok B s PK q ur uc T N e vr vc) := fun r vr k => c_nscan n x1 x2 x5 e2 e3 e4 k n p (by omega) (Nat.le_refl _) (by omega)
  unfold rf_number_J56
  rw [pk_sub (by omega)]
  by_cases c1 : 9 < e - p
  · refine wp_t (nI_lt (a := 9) c1 (by omega)) (wp_bd ⟨(), _, odd.1, wp_some (cls _ _ ?_)⟩)
    unfold ce_X_takeNumber_J54 ce_X_takeNumber_J76 ce_X_takeNumber_J77
    rw [pk_sub (by omega)]
    exact wp_t (nI_lt (a := 9) c1 (by omega)) (wp_t rfl (wp_bd ⟨(), _, odd.2.1, wp_some ⟨rfl, rfl, odd.2.2⟩⟩))
  · refine wp_f (nI_nlt (a := 9) (by omega) (by omega)) ?_
    have d10 : dcw B p e 10 = lN (dec B p (e - p)) := by unfold dcw; rw [if_pos (by omega)]
    have d9 : dcw B p e 9 = lN (dec B p (e - p)) := by
      unfold dcw
      by_cases g : e - p < 9
      · rw [if_pos g]
      · rw [if_neg g, show e - p = 9 by omega]
    have hv : dec B p (e - p) < 10 ^ 9 := Nat.lt_of_lt_of_le (dec_lt _ (fun i hi => e3 (p + i) (by omega) (by omega))) (Nat.pow_le_pow_right (by decide) (by omega))
    have hcmp : 0 < lg_cmp (lN (dec B p (e - p))) 536870911 ↔ 536870911 < dec B p (e - p) := by
      rw [lgc_gt]
      exact pk_lLT (a := 536870911) (by decide) (by omega)
    rw [d10]
    rw [d9] at cls odd
    by_cases c2 : 536870911 < dec B p (e - p)
    · refine wp_t (hcmp.mpr c2) (wp_bd ⟨(), _, odd.1, wp_some (cls _ _ ?_)⟩)
      unfold ce_X_takeNumber_J54 ce_X_takeNumber_J76 ce_X_takeNumber_J77
      rw [pk_sub (by omega)]
      exact wp_f (nI_nlt (a := 9) (by omega) (by omega)) (wp_t (hcmp.mpr c2) (wp_t rfl (wp_bd ⟨(), _, odd.2.1, wp_some ⟨rfl, rfl, odd.2.2⟩⟩)))
    · have num := p_tok n x1 h (k := 2) (c := 258) (rw := nI (dec B p (e - p))) (cv := lN (dec B p (e - p))) (Or.inr (Or.inr (Or.inl ⟨rfl, rfl⟩))) ⟨fun _ => ⟨_, by omega, rfl, rfl⟩, fun g => absurd g (by decide)⟩ hpe e2 q
      refine wp_f (fun g => c2 (hcmp.mp g)) ?_
      rw [lN_i]
      refine wp_bd ⟨(), _, num.1, wp_some (cls _ _ ?_)⟩
      unfold ce_X_takeNumber_J54 ce_X_takeNumber_J77
      rw [pk_sub (by omega)]
      exact wp_f (nI_nlt (a := 9) (by omega) (by omega)) (wp_f (fun g => c2 (hcmp.mp g)) (wp_f (by decide) (wp_bd ⟨(), _, num.2.1, wp_some ⟨rfl, rfl, num.2.2⟩⟩)))
