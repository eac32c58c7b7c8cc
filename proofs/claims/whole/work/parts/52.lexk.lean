/-! LEXING, eleventh part: the loops -/
theorem pLexb_c {m : Nat} {B : Nat → Nat} {s : Nat} {PK : Nat → Int64} {ur uc vc : zMu} {T N p : Nat} {rk ck pl : Nat → Nat} (h : pLexb m B s PK ur uc T N p rk ck pl) (e1 : zI vc 7 4 = zI uc 7 4) (e2 : ∀ t, zI vc 9 t = zI uc 9 t) (e3 : ∀ t, zI vc 10 t = zI uc 10 t) (e4 : ∀ t, zL vc 11 t = zL uc 11 t) : pLexb m B s PK ur vc T N p rk ck pl := by
  obtain ⟨h1, h2, h3, h4, h5, h6, h7, h8⟩ := h
  refine ⟨h1, e1.trans h2, h3, h4, h5, h6, fun t ht => ⟨?_, (h7 t ht).2⟩, h8⟩
  obtain ⟨a1, a2, a3, a4, a5, a6⟩ := (h7 t ht).1
  exact ⟨a1, a2, (e2 t).trans a3, a4, (e3 t).trans a5, by rw [e4 t]; exact a6⟩
/-- the class steps to its next token -/
def advU (u : zMu) (i : Nat) : zMu := zsL (zsI (zsI (zsI u 7 5 (nI i)) 7 6 (zI u 9 i)) 7 7 (zI u 10 i)) 7 8 (zL u 11 i)
theorem c_adv (n : Nat) {u : zMu} {T i : Nat} {x : Int32} (hx : zI u 7 5 = x) (hxi : x + 1 = nI i) (hT : zI u 7 4 = nI T) (hi : i < T) (hT2 : T ≤ 1501) : ce_X_advance n u = some ((), advU u i) := by
  unfold ce_X_advance advU
  rw [hx, hxi, hT, if_pos (nI_lt hi (by omega))]
  have hz : zin (nI i) 1501 = true := zin_nI (by omega) (by decide)
  have hz2 : zx (nI i) = i := zx_nI (by omega)
  simp [zlet, zgd, gI_sI, gL_sI, hz, hz2]
theorem fC_adv {q : Nat} {u : zMu} {i : Nat} : fC q u (advU u i) := fC_tr (fC_tr (fC_tr (fC_setI (by unfold pcC; omega)) (fC_setI (by unfold pcC; omega))) (fC_setI (by unfold pcC; omega))) (fC_setL (by unfold pcC; omega))
theorem p_lex (n : Nat) (hn : 2000 ≤ n) {B : Nat → Nat} {s q : Nat} (hq : 12 ≤ q) : ∀ d p c mr mc T (ur uc : zMu), s - p < d → p ≤ s → c ≤ p → d ≤ mr → d ≤ mc → pTx B s ur uc → pKy ur uc → (∃ (PK : Nat → Int64) (N : Nat) (rk ck pl : Nat → Nat), pLex B s PK ur uc T N p rk ck pl) →
    Wp (rf_cuts_L12 n mr ur (nI p)) (fun _ vr => Wp (ce_X_begin_L10 n mc uc (nI s) (nI p) (nI c)) (fun _ vc => fR ur vr ∧ fC q uc vc ∧ pCut B s vr vc)) := by
  intro d
  induction d with
  | zero => intro p c mr mc T ur uc h; omega
  | succ d ih =>
    intro p c mr mc T ur uc hd hp hc hmr hmc hx hy hl
    obtain ⟨mr, rfl⟩ : ∃ y, mr = y + 1 := ⟨mr - 1, by omega⟩
    obtain ⟨mc, rfl⟩ : ∃ y, mc = y + 1 := ⟨mc - 1, by omega⟩
    have hx' := hx
    obtain ⟨x1, x2, x3, x4, x5⟩ := hx'
    obtain ⟨PK, N, rk, ck, pl, h⟩ := hl
    by_cases hps : p < s
    · -- a step, given by what it leaves
      have stepR : ∀ e vr vc, p < e → e ≤ s → pStep B s q ur uc T e vr vc → Wp (rf_cuts_L12 n mr vr (nI e)) (fun _ wr => Wp (ce_X_begin_L10 n mc vc (nI s) (nI e) (nI (c + 1))) (fun _ wc => fR ur wr ∧ fC q uc wc ∧ pCut B s wr wc)) := by
        intro e vr vc h1 h2 ⟨f1, f2, f3⟩
        refine wp_mono (ih e (c + 1) mr mc (T + 1) vr vc (by omega) h2 (by omega) (by omega) (by omega) (pTx_keep hq hx f1 f2) (pKy_keep hq hy f1 f2) f3) (fun _ wr k => wp_mono k (fun _ wc g => ⟨fR_tr f1 g.1, fC_tr f2 g.2.1, g.2.2⟩))
      have blank : Wp (rf_cuts_L12 n mr ur (nI (p + 1))) (fun _ wr => Wp (ce_X_begin_L10 n mc uc (nI s) (nI (p + 1)) (nI (c + 1))) (fun _ wc => fR ur wr ∧ fC q uc wc ∧ pCut B s wr wc)) := by
        refine ih (p + 1) (c + 1) mr mc T ur uc (by omega) (by omega) (by omega) (by omega) (by omega) hx hy ⟨PK, N, rk, ck, pl, ?_⟩
        obtain ⟨h1, h2, h3, h4, h5, h6, h7, h8⟩ := h
        exact ⟨h1, h2, h3, h4, by omega, by omega, fun t ht => ⟨(h7 t ht).1, by have := (h7 t ht).2; omega⟩, h8⟩
      have hz : zin (nI p) 1500 = true := zin_nI (by omega) (by decide)
      have cs : nI c < 1500 := nI_lt (b := 1500) (by omega) (by decide)
      have ps : nI p < nI s := nI_lt hps (by omega)
      have hbp := x2 p
      have eqn : ∀ k : Nat, k < 128 → (nI (B p) = nI k ↔ B p = k) := fun k hk => nI_eq (by omega) (by omega)
      unfold rf_cuts_L12
      rw [x3]
      refine wp_t ps (wp_gd hz (wp_let ?_))
      rw [zx_nI (by omega), x4 p hps]
      by_cases b32 : B p = 32
      · refine wp_t ((eqn 32 (by decide)).mpr b32) (wp_let ?_)
        rw [nI_1]
        refine wp_mono blank (fun _ wr k => ?_)
        unfold ce_X_begin_L10
        refine wp_t cs (wp_t ps (wp_gd hz ?_))
        rw [zx_nI (by omega), x5 p hps]
        refine wp_t ((sb_inj (k := 32) hbp (by decide)).mpr b32) (wp_let (wp_let ?_))
        rw [nI_1, nI_1]
        exact k
      have n32 : ¬ sb (B p) = 32 := fun w => b32 ((sb_inj (k := 32) hbp (by decide)).mp w)
      refine wp_f (fun w => b32 ((eqn 32 (by decide)).mp w)) ?_
      by_cases b10 : B p = 10
      · refine wp_t ((eqn 10 (by decide)).mpr b10) (wp_let ?_)
        rw [nI_1]
        refine wp_mono blank (fun _ wr k => ?_)
        unfold ce_X_begin_L10
        refine wp_t cs (wp_t ps (wp_gd hz ?_))
        rw [zx_nI (by omega), x5 p hps]
        refine wp_f n32 (wp_gd hz (wp_t ((sb_inj (k := 10) hbp (by decide)).mpr b10) (wp_let (wp_let ?_))))
        rw [nI_1, nI_1]
        exact k
      have n10 : ¬ sb (B p) = 10 := fun w => b10 ((sb_inj (k := 10) hbp (by decide)).mp w)
      refine wp_f (fun w => b10 ((eqn 10 (by decide)).mp w)) ?_
      obtain ⟨r, r1, r2⟩ := r_isLetter n ur hbp
      obtain ⟨r', r1', r2'⟩ := c_isLetter n uc hbp
      refine wp_bd ⟨r, ur, r1, ?_⟩
      -- the class's way to its choice
      have cway : ∀ Q : Unit → zMu → Prop, Wp (if r' = 0 then zgd (zin (nI p) 1500) (zbd (ce_X_isDigit n uc (sb (B p))) fun r12 u13 => if r12 = 0 then zbd (ce_X_takeSign n u13 (nI s) (nI p)) fun r15 u16 => zlet (nI c + 1) fun v17 => ce_X_begin_L10 n mc u16 (nI s) r15 v17 else zbd (ce_X_takeNumber n u13 (nI s) (nI p)) fun r18 u19 => zlet (nI c + 1) fun v20 => ce_X_begin_L10 n mc u19 (nI s) r18 v20) else zbd (ce_X_takeWord n uc (nI s) (nI p)) fun r21 u22 => zlet (nI c + 1) fun v23 => ce_X_begin_L10 n mc u22 (nI s) r21 v23) Q → Wp (ce_X_begin_L10 n (mc + 1) uc (nI s) (nI p) (nI c)) Q := by
        intro Q k
        unfold ce_X_begin_L10
        refine wp_t cs (wp_t ps (wp_gd hz ?_))
        rw [zx_nI (by omega), x5 p hps]
        refine wp_f n32 (wp_gd hz (wp_f n10 (wp_gd hz (wp_bd ⟨r', uc, r1', ?_⟩))))
        dsimp only
        rw [x5 p hps]
        exact k
      by_cases hle : isLe (B p)
      · refine wp_f (fun w => r2.mp w hle) ?_
        obtain ⟨e, e1, e2, a, vr, ea, a', vc, ea', rfl, rfl, st⟩ := p_word n hn hx hy h hps hle q
        refine wp_bd ⟨_, vr, ea, wp_mono (stepR e vr vc e1 e2 st) (fun _ wr k => cway _ (wp_f (fun w => r2'.mp w hle) (wp_bd ⟨_, vc, ea', wp_let ?_⟩)))⟩
        rw [nI_1]
        exact k
      · refine wp_t (r2.mpr hle) ?_
        obtain ⟨t, t1, t2⟩ := r_isDigit n ur hbp
        obtain ⟨t', t1', t2'⟩ := c_isDigit n uc hbp
        refine wp_bd ⟨t, ur, t1, ?_⟩
        by_cases hdi : isDi (B p)
        · refine wp_f (fun w => t2.mp w hdi) ?_
          obtain ⟨e, e1, e2, a, vr, ea, a', vc, ea', rfl, rfl, st⟩ := p_number n hn hx h hps hdi q
          refine wp_bd ⟨_, vr, ea, wp_mono (stepR e vr vc e1 e2 st.step) (fun _ wr k => cway _ (wp_t (r2'.mpr hle) (wp_gd hz (wp_bd ⟨t', uc, t1', wp_f (fun w => t2'.mp w hdi) (wp_bd ⟨_, vc, ea', wp_let ?_⟩)⟩))))⟩
          rw [nI_1]
          exact k
        · refine wp_t (t2.mpr hdi) ?_
          obtain ⟨e, vr, vc, e1, e2, st, ec, go⟩ := p_sign n hn hx h hps q
          have main := wp_mono (stepR e vr vc e1 e2 st) (Q' := fun _ wr => Wp (ce_X_begin_L10 n (mc + 1) uc (nI s) (nI p) (nI c)) (fun _ wc => fR ur wr ∧ fC q uc wc ∧ pCut B s wr wc)) (fun _ wr k => cway _ (wp_t (r2'.mpr hle) (wp_gd hz (wp_bd ⟨t', uc, t1', wp_t (t2'.mpr hdi) (wp_bd ⟨_, vc, ec, wp_let (by rw [nI_1]; exact k)⟩)⟩))))
          have go := go (rf_cuts_L12 n mr) _ main
          by_cases g1 : B p = 61
          · refine wp_t ((eqn 61 (by decide)).mpr g1) ?_
            rw [nI_1, x3]
            by_cases g2 : p + 1 < s
            · refine wp_t (nI_lt g2 (by omega)) (wp_gd (zin_nI (by omega) (by decide)) ?_)
              rw [zx_nI (by omega), x4 _ g2]
              by_cases g3 : B (p + 1) = 61
              · rw [if_pos ⟨g1, g2, g3⟩] at go
                refine wp_t (by rw [g3]; rfl) (wp_bd ⟨(), vr, go.2, wp_let ?_⟩)
                rw [show nI p + 2 = nI e by rw [go.1]; exact nI_add p 2]
                exact main
              · rw [if_neg (fun w => g3 w.2.2)] at go
                exact wp_f (fun w => g3 ((nI_eq (a := B (p + 1)) (b := 61) (by have := x2 (p + 1); omega) (by decide)).mp w)) go.2
            · rw [if_neg (fun w => g2 w.2.1)] at go
              exact wp_f (nI_nlt (by omega) (by omega)) go.2
          · rw [if_neg (fun w => g1 w.1)] at go
            exact wp_f (fun w => g1 ((eqn 61 (by decide)).mp w)) go.2
    · have ep : p = s := by omega
      subst ep
      have h' := h
      obtain ⟨h1, h2, h3, h4, h5, h6, h7, h8, h9, h10⟩ := h'
      have hadd := pLex_add x1 h (by omega) (k := 0) (c := 256) (rw := 0) (cv := 0) (p' := p + 1) (Or.inl ⟨rfl, rfl⟩) (vRel_no (by decide) (by decide)) (fun e => absurd e (by omega)) (by omega) (by omega)
      have nps : ¬ nI p < nI p := nI_nlt (Nat.le_refl _) (by omega)
      unfold rf_cuts_L12
      rw [x3]
      refine wp_f nps (wp_bd ⟨(), tokR ur T (nI 0) (nI p) 0, r_token n h1 (by omega) _ _ _, wp_some ?_⟩)
      have fin : Wp (ce_X_begin_J99 n uc (nI p)) (fun _ vc => fR ur (tokR ur T (nI 0) (nI p) 0) ∧ fC q uc vc ∧ pCut B p (tokR ur T (nI 0) (nI p) 0) vc) := by
        unfold ce_X_begin_J99
        refine wp_bd ⟨(), tokC uc T (nI 256) (nI p) 0, c_add n h2 (by omega) (ck := 256) (by decide) (by omega) _, wp_let ?_⟩
        have ha := c_adv n (u := zsI (tokC uc T (nI 256) (nI p) 0) 7 5 (-1)) (T := T + 1) (i := 0) (x := -1) rfl rfl rfl (by omega) (by omega)
        refine wp_bd ⟨(), _, ha, wp_some ⟨fR_tok, fC_tr (fC_tr fC_tok (fC_setI (by unfold pcC; omega))) fC_adv, ?_⟩⟩
        refine ⟨PK, T, N, _, _, _, pLexb_c hadd rfl (fun t => ?_) (fun t => ?_) (fun t => ?_), if_pos rfl, if_pos rfl, by omega, rfl, rfl, rfl, rfl⟩
        · simp [advU, gI_sI, gI_sL]
        · simp [advU, gI_sI, gI_sL]
        · simp [advU, gL_sI, gL_sL]
      unfold ce_X_begin_L10
      by_cases cs : c < 1500
      · exact wp_t (nI_lt (b := 1500) cs (by decide)) (wp_f nps fin)
      · exact wp_f (nI_nlt (b := 1500) (by omega) (by omega)) fin
