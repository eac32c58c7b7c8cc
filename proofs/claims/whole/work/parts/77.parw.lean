/-! PARSING, twenty-fifth part: what a ONE is made of: a number, none, a variable -/
theorem zbd_as {ρ σ τ : Type} (A : Option (ρ × zMu)) (B : ρ → zMu → Option (σ × zMu)) (G : σ → zMu → Option (τ × zMu)) : zbd (zbd A B) G = zbd A fun r u => zbd (B r u) G := by
  cases A <;> rfl
/-- a push: the reference steps on, then writes; the class writes, then steps on -/
theorem p_push (n : Nat) {X : pCx} {i op cr cc S C tb e : Nat} {E : Nat → Prop} {M ht : Nat → Nat} {ur uc : zMu} (hX : xOk X) (h : pOk X i i op cr cc S C tb e E M ht ur uc) (hi : i < xT X) (hh : 1 ≤ ht cr ∧ ht cr ≤ 60) (b1 : 2 * cc ≤ 3 * i + 2) {o a : Nat} (ho : (o = 1 ∧ a < 536870912) ∨ (o = 2 ∧ a = 0)) :
    ∃ vr vc r, (zbd (rf_emit n (zsI ur 0 10 (nI (i + 1))) (nI o) (nI a) 0 (nI (xpl X i))) fun _ u12 => zlet (zsI u12 0 25 0) fun u13 => some ((), u13)) = some ((), vr) ∧ ce_P_emit n (xp X) uc (nI o) (nI a) (nI (xpl X i)) = some (r, emC uc (xp X) cc (nI o) (nI a) (nI (xpl X i))) ∧ ce_X_advance n (emC uc (xp X) cc (nI o) (nI a) (nI (xpl X i))) = some ((), vc) ∧ pPo X i op cr cc S C tb e E M ht (ht cr) ur uc vr 0 vc := by
  have hp := hX.p12
  have hT := hX.T
  have hP := hX.pl h.i
  have hcr := h.le
  have h1 := pOk_advR hX h hi
  have em := pOk_emit hX h1 (o := o) (a := a) (b := 0) (w := xpl X i) (c := o) (x := a) (wc := xpl X i) (a' := nI a) (x' := nI a) (ht cr + 1) E (fun s q => q) hP hh.2 (by omega) (by omega) (fun _ => rfl) (fun _ => rfl) (fun _ => rfl)
    (fun q => by
      rcases ho with ⟨rfl, g⟩ | ⟨rfl, rfl⟩
      · exact insC_1.mpr ⟨rfl, rfl, g, rfl, rfl, hh.1⟩
      · exact insC_2.mpr ⟨rfl, rfl, rfl, hh.1⟩)
    (fun z1 z2 _ => by omega)
  have fin := pOk_kind hX (pOk_advC hX em hi) 0
  refine ⟨_, _, nI cc, ?_, c_emit n (xp X) h.cc (by omega) (by omega) (by omega) (nI a), em.adv hX hi n, i + 1, cr + 1, cc + 1, S, C, _, _, 0, fin, by omega, ⟨by omega, by omega, by omega, by omega, by omega⟩, ?_, if_pos rfl, by simp [gI_sI]; rfl, rfl, by omega, fun q => absurd rfl q⟩
  · rw [zbd_e (r_emit n h1.cr (by omega) (nI o) (nI a) 0 (nI (xpl X i)))]
    rfl
  · exact pEx_tr (pEx_tr ((pSm_R 10 _).ex cr S M ht) (pEx_em (S := S) hp) (Nat.le_refl _) (Nat.le_refl _)) ((pSm_tr (pSm_R 25 _) (pSm_adv _)).ex (cr + 1) S _ _) (by omega) (by omega)
/-- a variable; both stand behind its name -/
theorem p_variable (n : Nat) (hn : 2000 ≤ n) {X : pCx} {i0 i op cr cc S C tb e : Nat} {E : Nat → Prop} {M ht : Nat → Nat} {ur0 uc0 ur uc : zMu} (hX : xOk X) (h : pOk X i i op cr cc S C tb e E M ht ur uc) (hx : pSm ur0 ur uc0 uc) (hi : i0 + 1 = i) (hh : 1 ≤ ht cr ∧ ht cr ≤ 60) (b1 : 2 * cc ≤ 3 * i0 + 2) {w P : Nat} (hw : w < xN X) (hP : P ≤ 1500) (fA : zMu → Option (Int32 × zMu)) :
    Rp (rf_variable n ur (nI w) (nI P)) (zbd (ce_C_variableNamed n uc (xPK X w)) fun r13 u14 => if r13 = (-1) then (zbd (ce_C_note n u14 2 (nI P)) fun _ u17 => ce_C_compileNamed_J80 n fA u17 (nI P) r13) else ce_C_compileNamed_J80 n fA u14 (nI P) r13) (fun _ vr rc vc => pPo X i0 op cr cc S C tb e E M ht (ht cr) ur0 uc0 vr rc vc) := by
  have hp := hX.p12
  have hT := hX.T
  have hit := h.i
  have hcr := h.le
  have fin : ∀ vr vc (a' x' : Int32), pOk X i i op cr cc S C tb e E M ht vr vc → pEx cr S M ht M ht ur0 vr uc0 vc → (zI vc 2 3 = 0 → ∃ j, j < 12 ∧ a' = nI j ∧ x' = nI j) →
      Rp (rf_variable_J17 n vr (nI P) a') (zgd (zpr (zR vc 2 1)) (zbd (ce_P_emit n (zR vc 2 1) vc 3 x' (nI P)) fun r3 u4 => some ((1 : Int32), u4))) (fun _ vr rc vc => pPo X i0 op cr cc S C tb e E M ht (ht cr) ur0 uc0 vr rc vc) := by
    intro vr vc a' x' hk hex hj
    unfold rf_variable_J17
    rw [hk.zp hX, hX.zpr, zgd_t]
    refine rp_l (r_emit n hk.cr (by omega) 3 a' 0 (nI P)) (rp_ll (rp_r (c_emit n (xp X) hk.cc (by omega) (o := 3) (w := P) (by omega) (by omega) x') (rp_end ?_)))
    have hj2 : ∃ j, zI vc 2 3 = 0 → j < 12 ∧ a' = nI j ∧ x' = nI j := by
      by_cases q : zI vc 2 3 = 0
      · obtain ⟨j, z⟩ := hj q; exact ⟨j, fun _ => z⟩
      · exact ⟨0, fun z => absurd z q⟩
    obtain ⟨j, hj⟩ := hj2
    have em := pOk_emit hX hk (o := 3) (a := j) (b := 0) (w := P) (c := 3) (x := j) (wc := P) (a' := a') (x' := x') (ht cr + 1) E (fun s q => q) hP hh.2 (by omega) (by omega) (fun q => (hj q).2.1) (fun q => (hj q).2.2) (fun _ => rfl)
      (fun q => insC_3.mpr ⟨rfl, rfl, (hj q).1, rfl, rfl, hh.1⟩) (fun z1 z2 _ => by omega)
    refine ⟨i, cr + 1, cc + 1, S, C, _, _, 1, pOk_kind hX em 1, by omega, ⟨by omega, by omega, by omega, by omega, by omega⟩, ?_, if_pos rfl, by simp [gI_sI]; rfl, rfl, by omega, fun _ => ⟨cr, rfl, ?_, ?_, fun _ => ?_, fun q => by omega, fun q => by omega⟩⟩
    · exact pEx_tr (pEx_tr hex (pEx_em (S := S) hp) (Nat.le_refl _) (Nat.le_refl _)) ((pSm_R 25 _).ex (cr + 1) S _ _) (by omega) (by omega)
    · show (if cr = cr + 1 then cc + 1 else M cr) + 1 = cc + 1
      rw [if_neg (by omega), hk.2.2.2.2.2.2.2.1.2.2.2.1]
    · show (if cr = cr + 1 then ht cr + 1 else ht cr) + 2 = (if cr + 1 = cr + 1 then ht cr + 1 else ht (cr + 1)) + 1
      rw [if_neg (by omega), if_pos rfl]
    · rw [gI_sI, if_neg (by omega)]; simp [emR, gI_sI]; rfl
  have j80 : ∀ (vc : zMu) (x : Int32), ce_C_compileNamed_J80 n fA vc (nI P) x = zgd (zpr (zR vc 2 1)) (zbd (ce_P_emit n (zR vc 2 1) vc 3 (if 0 < x then x else 0) (nI P)) fun r3 u4 => some ((1 : Int32), u4)) := fun vc x => rfl
  unfold rf_variable
  rcases pOk_find n hn hX h hw with ⟨j, j1, j2, j3⟩ | ⟨j1, j2⟩
  · refine rp_l j2 (rp_lf (nI_m1 (by omega)) (rp_r j3 (rp_rf (nI_m1 (by omega)) ?_)))
    rw [j80]
    refine fin ur uc _ _ h (hx.ex _ _ _ _) (fun _ => ⟨j, j1, rfl, ?_⟩)
    by_cases z : j = 0
    · subst z; rfl
    · rw [if_pos (show (0 : Int32) < nI j from nI_lt (a := 0) (by omega) (by omega))]
  · obtain ⟨b, n1, n2, n3, n4⟩ := pOk_note n (w := P) (k := 2) hX h (by omega) hP
    refine rp_l j1 (rp_lt rfl (rp_l n1 (rp_r j2 (rp_rt rfl (rp_r n2 ?_)))))
    rw [j80]
    refine fin _ _ _ _ n3 (pEx_tr (hx.ex cr S M ht) ⟨fun _ _ => ⟨rfl, rfl⟩, fun k q hq => notR_W k q (by have := pRw_10 hq; omega), fun q _ => notR_W 19 q (by omega), fun q => absurd q n4⟩ (Nat.le_refl cr) (Nat.le_refl S)) (fun q => absurd q n4)
