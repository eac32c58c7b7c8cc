/-! RUNNING: lines as bits; what lies on a way -/
set_option maxRecDepth 20000 in
theorem dv64 : ∀ x, x < 200 → nI x / 64 = nI (x / 64) := by decide
theorem rm64 {x : Nat} (h : x < 200) : nI x - nI x / 64 * 64 = nI (x % 64) := by
  rw [dv64 x h, show nI (x / 64) * (64 : Int32) = nI (x / 64 * 64) from nI_mul _ 64, nI_sub (by omega)]
  congr 1
  omega
set_option maxRecDepth 20000 in
theorem sh64u : ∀ r, r < 64 → ((nI r).toInt64.toUInt64 &&& Int64.toUInt64 63).toBitVec % 64 = BitVec.ofNat 64 r := by decide
set_option maxRecDepth 20000 in
theorem sh64s : ∀ r, r < 64 → ((nI r).toInt64 &&& 63).toBitVec.smod 64 = BitVec.ofNat 64 r := by decide
theorem bit_rd (v : Int64) {r : Nat} (h : r < 64) : lg_cmp ((((v.toUInt64 >>> ((nI r).toInt64.toUInt64 &&& Int64.toUInt64 63)).toInt64) &&& 1)) 0 = 0 ↔ ¬ v.toBitVec.getLsbD r = true := by
  rw [lgc_eq, ← Int64.toBitVec_inj]
  have e : ((v.toUInt64 >>> ((nI r).toInt64.toUInt64 &&& Int64.toUInt64 63)).toInt64 &&& 1).toBitVec = (v.toBitVec >>> r) &&& 1#64 := by
    show (v.toBitVec >>> (((nI r).toInt64.toUInt64 &&& Int64.toUInt64 63).toBitVec % 64)) &&& 1#64 = _
    rw [sh64u r h]
    congr 1
    rw [BitVec.ushiftRight_eq', BitVec.toNat_ofNat, Nat.mod_eq_of_lt (by omega)]
  rw [e]
  show (v.toBitVec >>> r) &&& 1#64 = 0#64 ↔ _
  constructor
  · intro q y
    have := congrArg (fun b => BitVec.getLsbD b 0) q
    simp [y] at this
  · intro y
    apply BitVec.eq_of_getLsbD_eq
    intro j hj
    by_cases z : j = 0
    · subst z
      simp at y
      simp [y]
    · have : (1#64).getLsbD j = false := by
        rw [BitVec.getLsbD_ofNat]
        have : Nat.testBit 1 j = false := by
          apply Nat.testBit_lt_two_pow
          calc 1 < 2 ^ 1 := by decide
            _ ≤ 2 ^ j := Nat.pow_le_pow_right (by decide) (by omega)
        simp [this]
      simp [this]
theorem bit_or (v : Int64) {r i : Nat} (h : r < 64) (hi : i < 64) : (v ||| ((1 : Int64) <<< ((nI r).toInt64 &&& 63))).toBitVec.getLsbD i = true ↔ (v.toBitVec.getLsbD i = true ∨ i = r) := by
  rw [show (1 : Int64) = lN 1 from rfl, lN_shl 1 r h _ (sh64s r h), Nat.one_mul]
  show (v.toBitVec ||| (lN (2 ^ r)).toBitVec).getLsbD i = true ↔ _
  have e : (lN (2 ^ r)).toBitVec = BitVec.ofNat 64 (2 ^ r) := rfl
  rw [BitVec.getLsbD_or, e, BitVec.getLsbD_ofNat, Nat.testBit_two_pow]
  simp [hi]
  constructor
  · rintro (q | q)
    · exact Or.inl q
    · exact Or.inr q.symm
  · rintro (q | q)
    · exact Or.inl q
    · exact Or.inr q.symm
/-- the class asks a line -/
theorem c_onLine (n : Nat) {W : kW} {ur uc : zMu} (h : kOb W ur uc) {f x : Nat} (hf : f < wO W) (hx : x < wO W) : (anc (wp W) f x ∧ ce_H_isOnLine n uc (nI f) (nI x) = some (1, uc)) ∨ (¬ anc (wp W) f x ∧ ce_H_isOnLine n uc (nI f) (nI x) = some (0, uc)) := by
  obtain ⟨o2, h2, h3, h4⟩ := h
  obtain ⟨-, -, -, g4⟩ := h4 f hf
  have g := g4 x (by omega)
  have e : ce_H_isOnLine n uc (nI f) (nI x) = (if lg_cmp ((((zL uc 42 (4 * f + x / 64)).toUInt64 >>> ((nI (x % 64)).toInt64.toUInt64 &&& Int64.toUInt64 63)).toInt64) &&& 1) 0 = 0 then some (0, uc) else some (1, uc)) := by
    unfold ce_H_isOnLine
    rw [zbd_e (c_isObj n h3 (by omega) hf), if_neg (by decide), zbd_e (c_isObj n h3 (by omega) hx), if_neg (by decide), rm64 (by omega), dv64 x (by omega), (sh4 f (x / 64)).1, zin_nI (show 4 * f + x / 64 < 800 by omega) (by decide), zgd_t, zx_nI (show 4 * f + x / 64 < 2 ^ 31 by omega)]
  rw [e]
  by_cases z : lg_cmp ((((zL uc 42 (4 * f + x / 64)).toUInt64 >>> ((nI (x % 64)).toInt64.toUInt64 &&& Int64.toUInt64 63)).toInt64) &&& 1) 0 = 0
  · rw [if_pos z]
    exact Or.inr ⟨fun q => (bit_rd _ (by omega)).mp z (g.mpr q), rfl⟩
  · rw [if_neg z]
    refine Or.inl ⟨g.mp ?_, rfl⟩
    by_cases y : lnB uc f x
    · exact y
    · exact absurd ((bit_rd _ (by omega)).mpr y) z
/-- the reference walks a way -/
theorem kr_onW (n : Nat) {pa : Nat → Nat} {nO x e T : Nat} {u : zMu} (hO : nO ≤ 200) (hp : ∀ o, o < nO → pa o ≤ o) (he : e < 330) (hx : x < nO) (i35 : ∀ o, o < nO → zI u 35 o = iP (pa o)) (i57 : zI u 57 e = nI T) : ∀ d f m, f ≤ d → f < nO → f + 1 < m → anc pa f T → ((anc pa f x ∧ T ≤ x) ∧ rf_isOnWay_L7 n m u (nI e) (nI x) (nI f) = some (1, u)) ∨ (¬ (anc pa f x ∧ T ≤ x) ∧ rf_isOnWay_L7 n m u (nI e) (nI x) (nI f) = some (0, u)) := by
  intro d
  induction d with
  | zero =>
    intro f m hd hf hm hT
    have e0 : f = 0 := by omega
    subst e0
    obtain ⟨m, rfl⟩ : ∃ k, m = k + 1 := ⟨m - 1, by omega⟩
    have hT : 0 = T := hT
    subst hT
    by_cases z : x = 0
    · subst z
      refine Or.inl ⟨⟨anc_rf 0, Nat.le_refl _⟩, ?_⟩
      rw [rf_isOnWay_L7, if_neg (nI_m1 (by decide)), if_pos rfl]
    · refine Or.inr ⟨fun q => z (by have q : 0 = x := q.1; exact q.symm), ?_⟩
      rw [rf_isOnWay_L7, if_neg (nI_m1 (by decide)), if_neg (fun q => z ((nI_eq (by omega) (by omega)).mp q).symm), zin_nI he (by decide), zgd_t, zx_nI (show e < 2 ^ 31 by omega), i57, if_pos rfl]
  | succ d ih =>
    intro f m hd hf hm hT
    obtain ⟨m, rfl⟩ : ∃ k, m = k + 1 := ⟨m - 1, by omega⟩
    have hq : ∀ j, j ≤ f → pa j ≤ j := fun j hj => hp j (by omega)
    have Tf := anc_le f f (Nat.le_refl _) hq hT
    by_cases z : f = x
    · subst z
      refine Or.inl ⟨⟨anc_rf f, Tf⟩, ?_⟩
      rw [rf_isOnWay_L7, if_neg (nI_m1 (by omega)), if_pos rfl]
    · by_cases y : f = T
      · subst y
        refine Or.inr ⟨fun q => ?_, ?_⟩
        · have := anc_le f f (Nat.le_refl _) hq q.1
          omega
        · rw [rf_isOnWay_L7, if_neg (nI_m1 (by omega)), if_neg (fun q => z ((nI_eq (by omega) (by omega)).mp q)), zin_nI he (by decide), zgd_t, zx_nI (show e < 2 ^ 31 by omega), i57, if_pos rfl]
      · rcases (anc_st hq).mp hT with q | ⟨q1, q2⟩
        · exact absurd q y
        · obtain ⟨g, hg⟩ : ∃ g, pa f = g + 1 := ⟨pa f - 1, by omega⟩
          have pf := hq f (Nat.le_refl _)
          rw [hg] at q2
          have e1 : rf_isOnWay_L7 n (m + 1) u (nI e) (nI x) (nI f) = rf_isOnWay_L7 n m u (nI e) (nI x) (nI g) := by
            rw [rf_isOnWay_L7, if_neg (nI_m1 (by omega)), if_neg (fun q => z ((nI_eq (by omega) (by omega)).mp q)), zin_nI he (by decide), zgd_t, zx_nI (show e < 2 ^ 31 by omega), i57, if_neg (fun q => y ((nI_eq (by omega) (by omega)).mp q)), zin_nI (show f < 201 by omega) (by decide), zgd_t, zx_nI (show f < 2 ^ 31 by omega), i35 f hf, hg, iP_s]
            rfl
          have st : anc pa f x ↔ anc pa g x := by
            rw [anc_st hq, hg]
            exact ⟨fun q => q.elim (fun q => absurd q z) (fun q => q.2), fun q => Or.inr ⟨by omega, q⟩⟩
          rw [e1, st]
          exact ih g m (by omega) (by omega) (by omega) q2
/-- the entry e has x on its way -/
def kOn (W : kW) (u : zMu) (e x : Nat) : Prop := ∃ F T, F < wO W ∧ zI u 56 e = nI F ∧ zI u 57 e = nI T ∧ anc (wp W) F x ∧ T ≤ x
theorem r_onW (n : Nat) (hn : 20000 ≤ n) {ub : zMu} {W : kW} {ur uc u : zMu} {s e x : Nat} (hO : kOb W ur uc) (hE : kEn ub W ur uc s e) (he : e < 330) (hx : x < wO W) (i35 : ∀ o, zI u 35 o = zI ur 35 o) (i56 : zI u 56 e = zI ur 56 e) (i57 : zI u 57 e = zI ur 57 e) : (kOn W ur e x ∧ rf_isOnWay n u (nI e) (nI x) = some (1, u)) ∨ (¬ kOn W ur e x ∧ rf_isOnWay n u (nI e) (nI x) = some (0, u)) := by
  obtain ⟨sh, E, h1, h2, h3, h4, h5, h6⟩ := hE
  have o2 := hO.1
  have e0 : rf_isOnWay n u (nI e) (nI x) = rf_isOnWay_L7 n n u (nI e) (nI x) (zI ur 56 e) := by
    unfold rf_isOnWay
    rw [zin_nI he (by decide), zgd_t, zx_nI (show e < 2 ^ 31 by omega), i56]
    rfl
  rw [e0]
  rcases h6 with ⟨-, F, T, f1, f2, f3, f4, f5, f6⟩ | ⟨f1, -⟩
  · rw [f3]
    have F2 := f1
    rcases kr_onW n (pa := wp W) (T := T) (u := u) o2 (fun o ho => (hO.2.2.2 o ho).1) he hx (fun o ho => (i35 o).trans (hO.2.2.2 o ho).2.1) (i57.trans f4) F F n (Nat.le_refl _) f1 (by omega) f5 with ⟨q1, q2⟩ | ⟨q1, q2⟩
    · exact Or.inl ⟨⟨F, T, f1, f3, f4, q1.1, q1.2⟩, q2⟩
    · refine Or.inr ⟨?_, q2⟩
      rintro ⟨F', T', y1, y2, y3, y4, y5⟩
      have eF : F = F' := (nI_eq (by omega) (by omega)).mp (f3.symm.trans y2)
      have Tl : T ≤ F := anc_le F F (Nat.le_refl _) (fun j hj => (hO.2.2.2 j (by omega)).1) f5
      have y3' := f4.symm.trans y3
      subst eF
      by_cases z : T' < 2 ^ 31
      · have eT : T = T' := (nI_eq (by omega) z).mp y3'
        subst eT
        exact q1 ⟨y4, y5⟩
      · omega
  · rw [f1]
    refine Or.inr ⟨?_, ?_⟩
    · rintro ⟨F', T', y1, y2, -⟩
      exact nI_m1 (n := F') (by omega) (y2.symm.trans f1)
    · cases n with
      | zero => omega
      | succ n => rw [rf_isOnWay_L7, if_pos rfl]
theorem c_onW (n : Nat) {X : pCx} {ub : zMu} {W : kW} {ur uc u vr vr0 : zMu} {s e x : Nat} (hO : kOb W vr u) (hS : kSh X W vr0 u) (hE : kEn ub W ur uc s e) (he : e < 320) (hx : x < wO W) (i55 : zI u 55 e = zI uc 55 e) (i56 : zI u 56 e = zI uc 56 e) : (kOn W ur e x ∧ zI ub 19 s = 0 ∧ ¬ zI u 44 (x + 1) = -1 ∧ ce_T_isOnWay n u (nI e) (nI x) = some (1, u)) ∨ (¬ kOn W ur e x ∧ ce_T_isOnWay n u (nI e) (nI x) = some (0, u)) := by
  obtain ⟨sh, E, h1, h2, h3, h4, h5, h6⟩ := hE
  have o2 := hO.1
  have s2 := hS.1.2
  obtain ⟨Ch, hCh⟩ := hS.2.2.2.2.2.1
  obtain ⟨⟨w1, w2⟩, -, -, w3, -⟩ := hCh sh h1
  have e0 : ce_T_isOnWay n u (nI e) (nI x) = (if nI x < nI E then some (0, u) else (if iP (ws W sh) = -1 then some (0, u) else zbd (ce_H_isOnLine n u (iP (ws W sh)) (nI x)) fun r5 u6 => if r5 = 0 then some (0, u6) else some (1, u6))) := by
    have ep : ce_S_parentOf n u (nI sh) = some (iP (ws W sh), u) := by
      unfold ce_S_parentOf
      rw [zbd_e (show ce_S_isShape n u (nI sh) = some (1, u) from by unfold ce_S_isShape; rw [if_neg (nI_pos (by omega)), hS.2.2.1, if_pos (nI_lt h1 (by omega))]), if_neg (by decide), zin_nI (show sh < zN u 81 by have := hS.2.2.2.2.1.2.2.1; omega) (by have := hS.2.2.2.2.1.2.1; omega), zgd_t, zx_nI (show sh < 2 ^ 31 by omega), w3]
    unfold ce_T_isOnWay
    rw [zin_nI he (by decide), zgd_t, zx_nI (show e < 2 ^ 31 by omega), i56, h5, zgd_t, i55, h3, zbd_e ep]
  rw [e0]
  rcases h6 with ⟨k0, F, T, f1, f2, f3, f4, f5, f6⟩ | ⟨f1, f2⟩
  · have Tl : T ≤ F := anc_le F F (Nat.le_refl _) (fun j hj => (hO.2.2.2 j (by omega)).1) f5
    have iff : kOn W ur e x ↔ (anc (wp W) F x ∧ T ≤ x) := by
      constructor
      · rintro ⟨F', T', y1, y2, y3, y4, y5⟩
        have eF : F = F' := (nI_eq (by omega) (by omega)).mp (f3.symm.trans y2)
        subst eF
        by_cases z : T' < 2 ^ 31
        · have eT : T = T' := (nI_eq (by omega) z).mp (f4.symm.trans y3)
          subst eT
          exact ⟨y4, y5⟩
        · omega
      · exact fun q => ⟨F, T, f1, f3, f4, q.1, q.2⟩
    rw [f2, iP_s, if_neg (nI_m1 (by omega)), iff]
    rcases c_onLine n hO f1 hx with ⟨a, b⟩ | ⟨a, b⟩
    · rw [zbd_e b, if_neg (show ¬ (1 : Int32) = 0 from by decide)]
      by_cases z : x < E
      · rw [if_pos (nI_lt z (by omega))]
        exact Or.inr ⟨fun q => by have := (f6 x a).mp q.2; omega, rfl⟩
      · rw [if_neg (nI_nlt (by omega) (by omega))]
        refine Or.inl ⟨⟨a, (f6 x a).mpr (by omega)⟩, k0, ?_, rfl⟩
        -- x is somebody's parent, or F
        have hr := hS.2.2.2.2.2.2.2.1
        have kid : ∀ d f, f ≤ d → f < wO W → anc (wp W) f x → f = x ∨ ∃ o, o < wO W ∧ wp W o = x + 1 := by
          intro d
          induction d with
          | zero =>
            intro f hd hf q
            have e0 : f = 0 := by omega
            subst e0
            exact Or.inl q
          | succ d ih =>
            intro f hd hf q
            have hq := kOb_p hO hf
            rcases (anc_st hq).mp q with q | ⟨q1, q2⟩
            · exact Or.inl q
            · have pf := hq f (Nat.le_refl _)
              rcases ih (wp W f - 1) (by omega) (by omega) q2 with y | y
              · exact Or.inr ⟨f, hf, by omega⟩
              · exact Or.inr y
        rcases kid F F (Nat.le_refl _) f1 a with y | ⟨o, ho, y⟩
        · rcases hr (x + 1) (by omega) with ⟨-, q⟩ | ⟨t, t1, t2, -⟩
          · exact absurd (by rw [f2, y]) (q sh h1)
          · rw [t2]; exact nI_m1 (by omega)
        · have := (hS.2.2.2.2.2.2.2.2 o ho).2.1
          rw [y] at this
          exact this
    · rw [zbd_e b, if_pos rfl]
      refine Or.inr ⟨fun q => a q.1, ?_⟩
      by_cases z : nI x < nI E
      · rw [if_pos z]
      · rw [if_neg z]
  · have no : ¬ kOn W ur e x := by
      rintro ⟨F', T', y1, y2, -⟩
      exact nI_m1 (n := F') (by omega) (y2.symm.trans f1)
    refine Or.inr ⟨no, ?_⟩
    rcases f2 with f2 | f2
    · rw [f2, if_pos (nI_lt (by omega) (by decide))]
    · rw [f2, iP_0, if_pos rfl]
      by_cases z : nI x < nI E
      · rw [if_pos z]
      · rw [if_neg z]
