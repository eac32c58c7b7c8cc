/-! PARSING, fns, fifth part: a fn -/
def fG (n k : Nat) (_ : Unit) (u9 : zMu) : Option (Unit × zMu) := zbd (ce_C_compileBlock n k u9) fun _ u11 => zgd (zpr (zR u11 2 1)) (zbd (ce_P_emit n (zR u11 2 1) u11 2 0 0) fun r13 u14 => zgd (zpr (zR u14 2 1)) (zbd (ce_P_emit n (zR u14 2 1) u14 21 0 0) fun r16 u17 => some ((), u17)))
theorem zbd_gd {ρ σ : Type} (b : Bool) (A : Option (ρ × zMu)) (F : ρ → zMu → Option (σ × zMu)) : zbd (zgd b A) F = zgd b (zbd A F) := by cases b <;> rfl
theorem zbd_if {ρ σ : Type} (c : Prop) [Decidable c] (A B : Option (ρ × zMu)) (F : ρ → zMu → Option (σ × zMu)) : zbd (if c then A else B) F = if c then zbd A F else zbd B F := by split <;> rfl
theorem zbd_lt {α ρ σ : Type} (x : α) (f : α → Option (ρ × zMu)) (F : ρ → zMu → Option (σ × zMu)) : zbd (zlet x f) F = zlet x fun a => zbd (f a) F := rfl
theorem zbd_sm {ρ σ : Type} (a : ρ) (u : zMu) (F : ρ → zMu → Option (σ × zMu)) : zbd (some (a, u)) F = F a u := rfl
/-- a fn: its head, then block and end; the same from behind the fn's name -/
def oFn72 (n k : Nat) (u : zMu) : Option (Unit × zMu) := zbd (ce_C_compileHead_J72 n u) (fG n k)
def oFn (n k : Nat) (u : zMu) : Option (Unit × zMu) := zbd (ce_C_compileHead n u) (fG n k)
theorem oFn72_eq (n k : Nat) (u : zMu) : oFn72 n k u = zgd (zpr (zR u 2 1)) (zlet (zR u 2 1) fun p1 => zbd (ce_P_addFn n p1 u (zL u 7 8)) fun r2 u3 => zlet (zsI u3 2 6 r2) fun u4 => zlet (zsI u4 2 8 0) fun u5 => zbd (ce_X_advance n u5) fun _ u7 => zbd (ce_C_compileNames n u7) fun _ u9 => fG n k () u9) := by
  unfold oFn72 ce_C_compileHead_J72
  simp only [zbd_gd, zbd_lt, zbd_as, zbd_sm]
theorem oFn_eq (n k : Nat) (u : zMu) : oFn n k u = zgd (zpr (zR u 2 1)) (zlet (zR u 2 1) fun p1 => if zI u p1 12 = 8 then zbd (ce_C_refuse n u) (fun _ u4 => fG n k () u4) else zbd (ce_X_advance n u) fun _ u6 => if zI u6 7 6 = 259 then zgd (zpr (zR u6 2 1)) (zlet (zR u6 2 1) fun p8 => zbd (ce_P_fnNamed n p8 u6 (zL u6 7 8)) fun r9 u10 => if r9 = (-1) then oFn72 n k u10 else zbd (ce_C_note n u10 2 (zI u10 7 7)) fun _ u13 => oFn72 n k u13) else zbd (ce_C_refuse n u6) fun _ u15 => fG n k () u15) := by
  unfold oFn oFn72 ce_C_compileHead
  simp only [zbd_gd, zbd_lt, zbd_as, zbd_if, zbd_sm]
theorem w1_fG (n k : Nat) (hn : 2000 ≤ n) (hkk : 120 ≤ k) {X : pCx} (hX : xOk X) {w : Nat} {u : zMu} (h : bC1 X w u) : ∃ v, fG n k () u = some ((), v) ∧ bC1 X w v := by
  obtain ⟨j, rfl⟩ : ∃ y, k = y + 1 := ⟨k - 1, by omega⟩
  obtain ⟨v1, e1, q1⟩ := w1_block n (j + 1) j hn hX h
  obtain ⟨r2, v2, e2, q2⟩ := w1_emit n hX q1 2 0 0
  obtain ⟨r3, v3, e3, q3⟩ := w1_emit n hX q2 21 0 0
  refine ⟨v3, ?_, q3⟩
  unfold fG
  rw [zbd_e (show ce_C_compileBlock n (j + 1) u = some ((), v1) from e1), bC_zp hX q1.1, hX.zpr, zgd_t, zbd_e e2, bC_zp hX q2.1, hX.zpr, zgd_t, zbd_e e3]
theorem r1_J268 (n k : Nat) (hn : 2000 ≤ n) (hkk : 120 ≤ k) {X : pCx} {w K F : Nat} {u u2 : zMu} (e : rf_closes n u 41 = some ((), u2)) (h : bR1 X w K u2) (hF : F < 8) (hK : K < 3000) (c : Int32) : ∃ v, rf_function_J268 n k u (nI F) c = some ((), v) ∧ bR1 X w (K + 1) v := by
  obtain ⟨j, rfl⟩ : ∃ y, k = y + 1 := ⟨k - 1, by omega⟩
  have hz : zin (nI F) 9 = true := zin_nI (by omega) (by decide)
  have hx : zx (nI F) = F := zx_nI (by omega)
  have h2 : bR1 X w K (zsI (zsI (zsI u2 16 F c) 15 F (zI (zsI u2 16 F c) 0 24)) 0 33 (zI (zsI (zsI u2 16 F c) 15 F (zI (zsI u2 16 F c) 0 24)) 0 33 + 1)) := bR1_set (bR1_set (bR1_set h _ (by unfold pwR; omega) (by omega)) _ (by unfold pwR; omega) (by omega)) _ (by unfold pwR; omega) (by omega)
  obtain ⟨v1, e1, q1⟩ := r1_block n (j + 1) j hn h2
  obtain ⟨v2, e2, q2⟩ := r1_emit n q1 (by omega) 23 0 0 0
  refine ⟨v2, ?_, q2⟩
  unfold rf_function_J268
  rw [zbd_e e, hz, zgd_t, hx]
  show zgd true (zbd (rf_block n (j + 1) _) _) = _
  rw [zgd_t, zbd_e (show rf_block n (j + 1) (zsI (zsI (zsI u2 16 F c) 15 F (zI (zsI u2 16 F c) 0 24)) 0 33 (zI (zsI (zsI u2 16 F c) 15 F (zI (zsI u2 16 F c) 0 24)) 0 33 + 1)) = some ((), v1) from e1), zbd_e e2]
/-- the state between fns -/
def pTp (X : pCx) (i F : Nat) (vr vc : zMu) : Prop := ∃ cr cc S C tb M ht, pGn X i i 0 cr cc S C tb pE0 M ht (pVt X tb S F M ht) vr vc ∧ 2 * cc ≤ 3 * i ∧ 2 * S ≤ i ∧ 3 * C ≤ i ∧ ht cr = 0 ∧ ht 0 = 0 ∧ ((cr = 0 ∧ F = 0) ∨ (tb < cr ∧ zI vr 10 (cr - 1) = nI 23))
theorem p_fnEnd (n k : Nat) (hn : 2000 ≤ n) (hkk : 120 ≤ k) {X : pCx} (hX : xOk X) {i0 i cr cc S C tb F c : Nat} {M ht : Nat → Nat} {ur uc : zMu} (h : pGn X i i 1 cr cc S C tb pE0 M ht (pVn X tb S cc F c M ht) ur uc) (hc : c ≤ 4) (hi0 : i0 ≤ i) (b1 : 2 * cc ≤ 3 * i) (b2 : 2 * S ≤ i) (b3 : 3 * C ≤ i) (h0 : ht cr = 0) (h00 : ht 0 = 0) :
    Rp (rf_function_J268 n k ur (nI F) (nI c)) (zbd (ce_C_closes n uc 41) fun _ u => fG n k () u) (fun _ vr _ vc => (∃ i', i0 < i' ∧ pTp X i' (F + 1) vr vc) ∨ pWx X (kS 0) vr vc) := by
  have hp := hX.p12
  have hT := hX.T
  have hi := h.i
  have hle := h.le
  have kS0 : kS 0 = 2352 := rfl
  have kS1 : kS 1 = 2344 := rfl
  obtain ⟨_, vr, _, vc, e1, e2, post⟩ := p_closesG n hX (vKeep_n hX) vRf_n h (k := 41) (K := kS 1) (by unfold kRel isSg; omega) (by omega) (by omega) (by omega) (by omega)
  have hF : F < 8 := h.2.2.2.2.2.1.1
  refine rp_r e2 ?_
  rcases post with ⟨-, g2, g3⟩ | ⟨w, w1, w2⟩
  · have hz : zin (nI F) 9 = true := zin_nI (by omega) (by decide)
    have hx : zx (nI F) = F := zx_nI (by omega)
    obtain ⟨a1, a2, a3, ⟨vw, a4⟩, a5, a6, a7, ⟨w0, c1, c2, c3⟩, a9, a10, a11⟩ := g3.2.2.2.2.2.1
    have hk0 : ∀ k j, ¬ (k = 16 ∧ j = F) → ¬ (k = 15 ∧ j = F) → ¬ (k = 0 ∧ j = 33) → zI (zsI (zsI (zsI vr 16 F (nI c)) 15 F (nI cr)) 0 33 (nI (F + 1))) k j = zI vr k j := fun k j q1 q2 q3 => by rw [gI_sI, if_neg q3, gI_sI, if_neg q2, gI_sI, if_neg q1]
    have hX' : xOk (setF X (F + 1) F) := hX
    have ok : pOk (setF X (F + 1) F) (i + 1) (i + 1) 0 cr cc S C cr 5000 pE0 M ht (zsI (zsI (zsI vr 16 F (nI c)) 15 F (nI cr)) 0 33 (nI (F + 1))) vc := by
      have htb : tb ≤ cr := g3.2.2.2.2.2.2.2.1.2.2.2.2.2.1
      have hM4 := g3.2.2.2.2.2.2.2.1.2.2.2.1
      refine pGn_ok.mpr (pGn_step hX' (show pGn (setF X (F + 1) F) (i + 1) (i + 1) 0 cr cc S C tb pE0 M ht (pVn X tb S cc F c M ht) vr vc from g3) (fPR_I (fPR_I (fPR_I g3.1 (by unfold pwR; omega)) (by unfold pwR; omega)) (by unfold pwR; omega)) g3.2.1 (pAt_keep g3.2.2.1 (hk0 0 10 (by omega) (by omega) (by omega)) (fun _ => rfl) (fun _ => rfl) (fun _ => rfl)) ⟨g3.2.2.2.2.1.1, by rw [hk0 _ _ (by omega) (by omega) (by omega)]; exact g3.2.2.2.2.1.2.1, g3.2.2.2.2.1.2.2⟩ ?_ (pFt_keep g3.2.2.2.2.2.2.1 (Nat.le_refl _) (fun j q => hk0 0 j (by omega) (by omega) (by omega)) (fun _ _ => rfl)) (fun q => q) htb (Nat.le_refl _) (fun k j q => hk0 k j (by omega) (by omega) (by omega)) (fun _ _ _ => rfl) (fun _ => rfl))
      refine ⟨F, c, F + 1, vw, ⟨Or.inr (by omega), rfl, rfl⟩, pRo_keep a3 (hk0 0 27 (by omega) (by omega) (by omega)) rfl, pVa_keep a4 (fun k j _ _ => hk0 k j (by omega) (by omega) (by omega)) rfl (fun _ => rfl), ⟨by omega, by simp [gI_sI], a6, fun f hf => ?_⟩, fun q => by omega, ?_⟩
      · by_cases ef : f = F
        · subst ef
          exact ⟨w0, cr, c, c1, by rw [hk0 14 f (by omega) (by omega) (by omega)]; exact c2, c3, Nat.le_refl _, h0, by rw [gI_sI, if_neg (by omega), gI_sI, if_pos ⟨rfl, rfl⟩], by rw [hM4]; exact a9, hc, by rw [gI_sI, if_neg (by omega), gI_sI, if_neg (by omega), gI_sI, if_pos ⟨rfl, rfl⟩], a10⟩
        · exact pFo_keep a7 htb (fun k j _ _ q => hk0 k j (by omega) (by omega) (by omega)) (fun _ _ _ _ => rfl) (fun _ _ => rfl) f (by omega)
      · obtain ⟨s1, s2, s3, s4, s5⟩ := a11
        refine ⟨s1, s2, by rw [hk0 0 39 (by omega) (by omega) (by omega)]; exact s3, s4, fun q => ⟨(s5 q).1, fun s hs => ?_⟩⟩
        obtain ⟨kk, P, z1, z2, z3, z4, z5, z6, z7, z8, z9⟩ := (s5 q).2 s hs
        rw [hk0 19 s (by omega) (by omega) (by omega), hk0 20 s (by omega) (by omega) (by omega), hk0 21 s (by omega) (by omega) (by omega), hk0 22 s (by omega) (by omega) (by omega)]
        refine ⟨kk, P, z1, z2, z3, z4, z5, z6, z7, ?_, z9⟩
        rcases z8 with y | ⟨f, y1, y2⟩
        · exact Or.inl y
        · exact Or.inr ⟨f, by omega, y2⟩
    have ej : rf_function_J268 n k ur (nI F) (nI c) = zbd (rf_block n k (zsI (zsI (zsI vr 16 F (nI c)) 15 F (nI cr)) 0 33 (nI (F + 1)))) fun _ u7 => zbd (rf_emit n u7 23 0 0 0) fun _ u9 => some ((), u9) := by
      unfold rf_function_J268
      rw [zbd_e (show rf_closes n ur 41 = some ((), vr) from e1), hz, zgd_t, hx]
      show zgd true (zbd (rf_block n k (zsI (zsI (zsI vr 16 F (nI c)) 15 F (zI (zsI vr 16 F (nI c)) 0 24)) 0 33 (zI (zsI (zsI vr 16 F (nI c)) 15 F (zI (zsI vr 16 F (nI c)) 0 24)) 0 33 + 1))) _) = _
      rw [zgd_t, show zI (zsI vr 16 F (nI c)) 0 24 = nI cr by rw [gI_sI, if_neg (by omega)]; exact g3.cr, show zI (zsI (zsI vr 16 F (nI c)) 15 F (nI cr)) 0 33 = nI F by rw [gI_sI, if_neg (by omega), gI_sI, if_neg (by omega)]; exact a5, nI_1]
    rw [ej]
    unfold fG
    have hi1 := g3.i
    refine rp_bd (rp_mono (s_block0 n k hn hkk (setF X (F + 1) F) hX' k k (i + 1) cr cc S C cr M ht _ _ (by omega) (by omega) ok h0 h00 (by omega) (by omega) (by omega)) (fun _ yr _ yc g => ?_))
    rcases g with ⟨i3, cr3, cc3, S3, C3, tb3, M3, ht3, q1, q2, q3, q4, q5, q6, q7, q8, q9⟩ | ⟨w, w1', w2'⟩
    · have hi3 : i3 ≤ xT X := q1.i
      have hle3 := q1.le
      have em := pOk_emit2 hX' q1 (o := 23) (a := 0) (b := 0) (w := 0) (c := 2) (x := 0) (c2 := 21) (wc := 0) (wc2 := 0) (x2 := 0) 0 (by omega) (by omega) (by omega) rfl (fun _ => rfl) (fun _ => insC_23.mpr (Or.inl ⟨rfl, rfl, rfl, q9, rfl⟩))
      have z2 : zR (emC yc (xp X) cc3 (nI 2) (nI 0) (nI 0)) 2 1 = xp X := q1.zp hX'
      have z0 : zR yc 2 1 = xp X := q1.zp hX'
      have zcc : zI yc (xp X) 3 = nI cc3 := q1.cc
      have cc2 : zI (emC yc (xp X) cc3 (nI 2) (nI 0) (nI 0)) (xp X) 3 = nI (cc3 + 1) := by simp [emC, gI_sI]
      rw [z0, hX.zpr, zgd_t]
      refine rp_l (r_emit n q1.cr (by omega) 23 0 0 0) (rp_r (c_emit n (xp X) zcc (by omega) (o := 2) (w := 0) (by omega) (by omega) (nI 0)) ?_)
      rw [z2, hX.zpr, zgd_t]
      refine rp_r (c_emit n (xp X) cc2 (by omega) (o := 21) (w := 0) (by omega) (by omega) 0) (rp_end (Or.inl ⟨i3, by omega, ?_⟩))
      exact ⟨cr3 + 1, cc3 + 2, S3, C3, tb3, _, _, em.top, by omega, by omega, by omega, if_pos rfl, (if_neg (by omega)).trans (by rw [(q8.1 0 (by omega)).2]; exact h00), Or.inr ⟨by have := q1.tb; omega, by rw [Nat.add_sub_cancel]; simp [emR, gI_sI]; rfl⟩⟩
    · have w1 : bR1 X w (kS 1) yr := w1'
      have w2 : bC1 X w yc := w2'
      obtain ⟨v3, e3, q3⟩ := r1_emit n w1 (by omega) 23 0 0 0
      obtain ⟨r5, v5, e5, q5⟩ := w1_emit n hX w2 2 0 0
      obtain ⟨r6, v6, e6, q6⟩ := w1_emit n hX q5 21 0 0
      rw [bC_zp hX w2.1, hX.zpr, zgd_t]
      refine rp_l e3 (rp_r e5 ?_)
      rw [bC_zp hX q5.1, hX.zpr, zgd_t]
      exact rp_r e6 (rp_end (Or.inr ⟨w, bR1_K q3 (by omega), q6⟩))
  · obtain ⟨v, e, hv⟩ := r1_J268 n k hn hkk e1 w1 hF (by omega) (nI c)
    obtain ⟨v2, e2', hv2⟩ := w1_fG n k hn hkk hX w2
    exact rp_eq e e2' (Or.inr ⟨w, bR1_K hv (by omega), hv2⟩)
