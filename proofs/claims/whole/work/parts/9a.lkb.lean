/-! PARSING, links, second part: the loop -/
def fLk (X : pCx) (ur vr uc vc : zMu) : Prop := (∀ k j, k ≠ 11 → ¬ (k = 0 ∧ (j = 16 ∨ j = 17)) → zI vr k j = zI ur k j) ∧ (∀ k j, k ≠ xp X + 2 → ¬ (k = 2 ∧ (j = 3 ∨ j = 4)) → zI vc k j = zI uc k j) ∧ (∀ j, ¬ zI ur 10 j = nI 17 → zI vr 11 j = zI ur 11 j) ∧ (zI vc 2 3 = 0 → zI uc 2 3 = 0)
theorem fLk_tr {X : pCx} {ur vr wr uc vc wc : zMu} (h : fLk X ur vr uc vc) (k : fLk X vr wr vc wc) : fLk X ur wr uc wc := ⟨fun a j p q => (k.1 a j p q).trans (h.1 a j p q), fun a j p q => (k.2.1 a j p q).trans (h.2.1 a j p q), fun j z => (k.2.2.1 j (by rw [h.1 10 j (by decide) (by omega)]; exact z)).trans (h.2.2.1 j z), fun z => h.2.2.2 (k.2.2.2 z)⟩
theorem p_links (n : Nat) (hn : 2000 ≤ n) {X : pCx} (hX : xOk X) {i op cr cc S C tb : Nat} {E : Nat → Prop} {M ht : Nat → Nat} (hcc : cc ≤ 2400) (hcr : cr ≤ 2400) :
    ∀ d c m m' ur uc, C - c = d → c ≤ C → d < m → d < m' → pOk X i i op cr cc S C tb 5000 E M ht ur uc → pLn c (xF X) ur uc →
      Rp (rf_links_L2 n m ur (nI c)) (ce_C_settleCalls_L2 n m' uc (nI c)) (fun _ vr _ vc => pOk X i i op cr cc S C tb 5000 E M ht vr vc ∧ pLn C (xF X) vr vc ∧ fLk X ur vr uc vc) := by
  have hp := hX.p12
  have hN := hX.2.2.1
  intro d
  induction d with
  | zero =>
    intro c m m' ur uc hd hc hm hm' h hl
    obtain ⟨m, rfl⟩ : ∃ y, m = y + 1 := ⟨m - 1, by omega⟩
    obtain ⟨m', rfl⟩ : ∃ y, m' = y + 1 := ⟨m' - 1, by omega⟩
    have e : c = C := by omega
    subst e
    have hC := h.2.2.2.2.2.2.2.2.2
    rw [rf_links_L2, ce_C_settleCalls_L2, hC.1, hC.2.1, if_neg (nI_nlt (Nat.le_refl _) (by have := hC.2.2.1; omega)), if_neg (nI_nlt (Nat.le_refl _) (by have := hC.2.2.1; omega))]
    exact rp_end ⟨h, hl, fun _ _ _ _ => rfl, fun _ _ _ _ => rfl, fun _ _ => rfl, fun z => z⟩
  | succ d ih =>
    intro c m m' ur uc hd hc hm hm' h hl
    obtain ⟨m, rfl⟩ : ∃ y, m = y + 1 := ⟨m - 1, by omega⟩
    obtain ⟨m', rfl⟩ : ∃ y, m' = y + 1 := ⟨m' - 1, by omega⟩
    have hC := h.2.2.2.2.2.2.2.2.2
    have hC500 := hC.2.2.1
    obtain ⟨q, w, nn, P, d1, d2, d3, d4, d5, d6, d7, d8, d9, d10, d11, d12, d13, d14⟩ := hC.2.2.2.1 c (by omega)
    obtain ⟨r0, V0, F, vw, ⟨h0, hxF, -⟩, h1, h2, h3, h4, h5⟩ := h.2.2.2.2.2.1
    subst hxF
    have hmono := pCo_mono h.2.2.2.2.2.2.2.1
    have hM4 := h.2.2.2.2.2.2.2.1.2.2.2.1
    have hMq : M q < cc := by have := hmono q cr (by omega) (by omega); omega
    rw [rf_links_L2, ce_C_settleCalls_L2, hC.1, hC.2.1, if_pos (nI_lt (by omega) (by omega)), if_pos (nI_lt (by omega) (by omega)), h.zp hX, hX.zpr, zgd_t]
    refine rp_ll (rp_rl ?_)
    rw [h3.2.1, zin_nI (show c < 500 by omega) (by decide), zgd_t, zx_nI (show c < 2 ^ 31 by omega), d7]
    have zxq : zx (nI q) = q := zx_nI (by omega)
    have zxM : zx (nI (M q)) = M q := zx_nI (by omega)
    have zxc : zx (nI c) = c := zx_nI (by omega)
    have zc8 : zin (nI c) 800 = true := zin_nI (by omega) (by decide)
    have zc5 : zin (nI c) 500 = true := zin_nI (by omega) (by decide)
    have zq : zin (nI q) 4000 = true := zin_nI (by omega) (by decide)
    have zM : zin (nI (M q)) 2400 = true := zin_nI (by omega) (by decide)
    obtain ⟨x, m1, hm1, el, alt⟩ := l19 n (rf_links_L2 n m) (u := ur) (c := c) (w := w) (by omega) d5 (xF X) n (-1) h3.1 (by have := h3.1; omega)
    obtain ⟨m1, rfl⟩ : ∃ y, m1 = y + 1 := ⟨m1 - 1, by omega⟩
    rw [el, rf_links_L19, if_pos (show (-1 : Int32) < 0 by decide), zc8, zgd_t, zxc, d3, zq, zgd_t, zxq]
    refine rp_ll ?_
    have r26 : ∀ v, zI (zsI ur 11 q v) 26 c = nI P := fun v => by rw [gI_sI, if_neg (by omega)]; exact d13
    have r25 : ∀ v, zI (zsI ur 11 q v) 25 c = nI nn := fun v => by rw [gI_sI, if_neg (by omega)]; exact d9
    have pfo : pFo X tb M ht ur uc (xF X) := h3.2.2.2
    have bad : ∀ v k, k = 2 ∨ k = 3 → ∃ b, rf_notes n (zsI ur 11 q v) (nI P) (nI k) = some ((), notR (zsI ur 11 q v) b P k) ∧ ce_C_note n uc (nI k) (nI P) = some ((), notC uc b P k) ∧ pOk X i i op cr cc S C tb 5000 E M ht (notR (zsI ur 11 q v) b P k) (notC uc b P k) ∧ pLn (c + 1) (xF X) (notR (zsI ur 11 q v) b P k) (notC uc b P k) ∧ fLk X ur (notR (zsI ur 11 q v) b P k) uc (notC uc b P k) := by
      intro v k hk
      obtain ⟨fk, fp, fa, f80⟩ := h.2.2.2.2.2.2.1
      have fa2 : pFa (zsI ur 11 q v) uc fk fp := pFa_keep fa (fun j z => by rw [gI_sI, if_neg (by omega)]) (fun _ _ => rfl)
      obtain ⟨b, fk', fp', b1, b2, b3, b4, b5, b6⟩ := p_note n (w := P) (k := k) fa2 h.2.2.2.1.2 hk d12
      have hb : ¬ zI (notC uc b P k) 2 3 = 0 := by
        rcases b3 with ⟨z, -⟩ | ⟨z1, z2, z3, z4, z5, z6⟩
        · exact absurd z b4
        · rw [z5]; exact nI_ne0 (by omega) (by omega)
      refine ⟨b, b1, b2, pOk_bad hX h hb (fPR_not (fPR_I h.1 (by unfold pwR; omega))) (fPC_not h.2.1) (fun a j z1 z2 => by rw [notR_W a j z1, gI_sI, if_neg (by omega)]) (fun a j z1 _ => notC_W a j z1) (fun a j => notC_L a j) ⟨fk', fp', b3, fun z => ⟨b4, by have := f80 z; have := b6 this.1; omega⟩⟩, fun z => absurd z hb, fun a j z1 z2 => by rw [notR_W a j z2, gI_sI, if_neg (by omega)], fun a j _ z2 => notC_W a j z2, fun j z => by rw [notR_W 11 j (by omega), gI_sI, if_neg (fun y => z (by rw [y.2]; exact d2))], fun z => absurd z hb⟩
    rcases p_fnNamed n hn hX h3.1 h3.2.2.1 pfo d6 with ⟨f, f1, f2, f3, f4⟩ | ⟨f1, f2⟩
    · have hxf : x = nI f := by
        rcases alt with ⟨g, g1, g2, g3, g4⟩ | ⟨g1, g2⟩
        · have : g = f := by
            rcases Nat.lt_trichotomy g f with z | z | z
            · exact absurd g3 (f3 g z)
            · exact z
            · exact absurd f2 (g4 f z)
          rw [g2, this]
        · exact absurd f2 (g1 f f1)
      subst hxf
      have hF8 := h3.1
      obtain ⟨w', q', nf, y1, y2, y3, y4, y5, y6, y7, y8, y9, y10⟩ := pfo f f1
      have zf9 : zin (nI f) 9 = true := zin_nI (by omega) (by decide)
      have zf8 : zin (nI f) 8 = true := zin_nI (by omega) (by decide)
      have zxf : zx (nI f) = f := zx_nI (by omega)
      have r16 : zI (zsI ur 11 q (nI f)) 16 f = nI nf := by rw [gI_sI, if_neg (by omega)]; exact y9
      clear alt
      have zpc : zpr (zR uc 2 1) = true := by rw [h.zp hX]; exact hX.zpr
      refine rp_lf (nI_m1 (by omega)) (rp_r f4 (rp_lg zf9 (rp_lg rfl (rp_rg zpc (rp_rl (rp_rg rfl (rp_rg (by rw [d4]; exact zM) (rp_rl (rp_rf (nI_m1 (by omega)) (rp_rg zpc (rp_rl (rp_rg zf8 (rp_rg rfl ?_)))))))))))))
      rw [zxf, r16, r25, h.zp hX, y10, d10, d4, zxM, d14]
      by_cases e : nI nf = nI nn
      · have enn : nf = nn := (nI_eq (by omega) (by omega)).mp e
        refine rp_lt e (rp_rt e (rp_ll (rp_rg hX.zpr (rp_rl (rp_rg rfl (rp_rg zM (rp_rl (rp_rl ?_))))))))
        rw [nI_1]
        have hk := pOk_link hX h (f := f) d1 d2
        refine rp_mono (ih (c + 1) m m' _ _ (by omega) (by omega) (by omega) (by omega) hk (fun ok dd hdd => ?_)) (fun _ vr _ vc g => ⟨g.1, g.2.1, fLk_tr ⟨fun a j z1 _ => by rw [gI_sI, if_neg (by omega)], fun a j z1 _ => by rw [gI_sI, if_neg (by omega)], fun j z => by rw [gI_sI, if_neg (fun y => z (by rw [y.2]; exact d2))], fun z => by rw [gI_sI, if_neg (by omega)] at z; exact z⟩ g.2.2⟩)
        have ok' : zI uc 2 3 = 0 := by rw [gI_sI, if_neg (by omega)] at ok; exact ok
        by_cases z : dd = c
        · subst z
          exact ⟨q, f, nn, by rw [gI_sI, if_neg (by omega)]; exact d3, by omega, by rw [gI_sI, if_pos ⟨rfl, rfl⟩], f1, by rw [gI_sI, if_neg (by omega)]; rw [← enn]; exact y9, d8, by rw [gI_sI, if_neg (by omega)]; exact d11⟩
        · obtain ⟨q2, f2', n2, z1, z2, z3, z4, z5, z6, z7⟩ := hl ok' dd (by omega)
          by_cases zq2 : q2 = q
          · subst zq2
            refine ⟨q2, f, n2, by rw [gI_sI, if_neg (by omega)]; exact z1, z2, by rw [gI_sI, if_pos ⟨rfl, rfl⟩], f1, ?_, z6, by rw [gI_sI, if_neg (by omega)]; exact z7⟩
            rw [gI_sI, if_neg (by omega), y9, enn, ← d11, z7]
          · exact ⟨q2, f2', n2, by rw [gI_sI, if_neg (by omega)]; exact z1, z2, by rw [gI_sI, if_neg (by omega)]; exact z3, z4, by rw [gI_sI, if_neg (by omega)]; exact z5, z6, by rw [gI_sI, if_neg (by omega)]; exact z7⟩
      · obtain ⟨b, b1, b2, b3, b4, b5⟩ := bad (nI f) 3 (by omega)
        refine rp_lf e (rp_rf e (rp_lg rfl ?_))
        rw [r26]
        refine rp_l b1 (rp_r b2 (rp_ll (rp_rl ?_)))
        rw [nI_1]
        exact rp_mono (ih (c + 1) m m' _ _ (by omega) (by omega) (by omega) (by omega) b3 b4) (fun _ vr _ vc g => ⟨g.1, g.2.1, fLk_tr b5 g.2.2⟩)
    · have hx : x = -1 := by
        rcases alt with ⟨g, g1, g2, g3, g4⟩ | ⟨g1, g2⟩
        · exact absurd g3 (f1 g g1)
        · exact g2
      subst hx
      obtain ⟨b, b1, b2, b3, b4, b5⟩ := bad (-1) 2 (by omega)
      clear alt
      have zpc : zpr (zR uc 2 1) = true := by rw [h.zp hX]; exact hX.zpr
      refine rp_lt rfl (rp_r f2 (rp_lg rfl (rp_rg zpc (rp_rl (rp_rg rfl (rp_rg (by rw [d4]; exact zM) (rp_rl (rp_rt rfl ?_))))))))
      rw [r26, h.zp hX, d4, zxM, d14]
      refine rp_l b1 (rp_r b2 (rp_ll (rp_rl ?_)))
      rw [nI_1]
      exact rp_mono (ih (c + 1) m m' _ _ (by omega) (by omega) (by omega) (by omega) b3 b4) (fun _ vr _ vc g => ⟨g.1, g.2.1, fLk_tr b5 g.2.2⟩)
