/-! RUNNING: a site meets an object -/
/-- what a site s has: slots of its rows -/
def sR (s a j : Nat) : Prop := (j = s ∧ (a = 52 ∨ a = 53 ∨ a = 54 ∨ a = 58 ∨ a = 59)) ∨ (4 * s ≤ j ∧ j < 4 * s + 4 ∧ (a = 55 ∨ a = 56 ∨ a = 57 ∨ a = 60))
def sC (s a j : Nat) : Prop := (j = s ∧ (a = 50 ∨ a = 51 ∨ a = 52 ∨ a = 53 ∨ a = 54 ∨ a = 58)) ∨ (4 * s ≤ j ∧ j < 4 * s + 4 ∧ (a = 55 ∨ a = 56 ∨ a = 57))
theorem kS1_q {F : Nat} {ub : zMu} {W : kW} {ur uc vr vc : zMu} {s : Nat} (h : kS1 F ub W ur uc s) (hr : ∀ a j, sR s a j → zI vr a j = zI ur a j) (hc : ∀ a j, sC s a j → zI vc a j = zI uc a j) : kS1 F ub W vr vc s := by
  obtain ⟨h1, h2, h3, h4, g, g1, g2, g3, g4, g5⟩ := h
  refine ⟨?_, ?_, fun q => ?_, fun q => ?_, g, g1, ?_, ?_, g4, fun q i hi => ?_⟩
  · rw [hr 52 s (by unfold sR; omega), hc 50 s (by unfold sC; omega)]; exact h1
  · rw [hr 53 s (by unfold sR; omega), hc 51 s (by unfold sC; omega)]; exact h2
  · rw [hr 54 s (by unfold sR; omega), hc 54 s (by unfold sC; omega), hc 52 s (by unfold sC; omega), hc 53 s (by unfold sC; omega), hr 58 s (by unfold sR; omega)]; exact h3 q
  · obtain ⟨k, k1, k2, k3, k4, k5, k6⟩ := h4 q
    refine ⟨k, k1, ?_, ?_, ?_, ?_, fun i hi => kEn_q (k6 i hi) (hr 55 _ (by unfold sR; omega)) (hr 56 _ (by unfold sR; omega)) (hr 57 _ (by unfold sR; omega)) (hc 55 _ (by unfold sC; omega)) (hc 56 _ (by unfold sC; omega))⟩
    · rw [hr 54 s (by unfold sR; omega)]; exact k2
    · rw [hc 52 s (by unfold sC; omega)]; exact k3
    · rw [hr 58 s (by unfold sR; omega), hc 53 s (by unfold sC; omega)]; exact k4
    · rw [hr 58 s (by unfold sR; omega)]; exact k5
  · rw [hr 59 s (by unfold sR; omega)]; exact g2
  · rw [hc 58 s (by unfold sC; omega)]; exact g3
  · rw [hr 60 _ (by unfold sR; omega), hc 57 _ (by unfold sC; omega)]; exact g5 q i hi
/-- only site s changes -/
theorem kSi_one {F S : Nat} {ub : zMu} {W : kW} {ur uc vr vc : zMu} {s : Nat} (h : kSi F S ub W ur uc) (hr : ∀ a j, ¬ sR s a j → zI vr a j = zI ur a j) (hc : ∀ a j, ¬ sC s a j → zI vc a j = zI uc a j) (n1 : kS1 F ub W vr vc s) : kSi F S ub W vr vc := by
  obtain ⟨h1, h2, h3, h4⟩ := h
  refine ⟨?_, ?_, ?_, fun s' hs' => ?_⟩
  · rw [hr 0 62 (by unfold sR; omega), hc 49 9 (by unfold sC; omega)]; exact h1
  · rw [hr 0 63 (by unfold sR; omega), hc 49 10 (by unfold sC; omega)]; exact h2
  · rw [hr 0 64 (by unfold sR; omega), hc 49 11 (by unfold sC; omega)]; exact h3
  · by_cases e : s' = s
    · subst e; exact n1
    · exact kS1_q (h4 s' hs') (fun a j q => hr a j (by unfold sR at q ⊢; omega)) (fun a j q => hc a j (by unfold sC at q ⊢; omega))
theorem sh4 (s i : Nat) : (nI s * 4) + nI i = nI (4 * s + i) ∧ (4 * nI s) + nI i = nI (4 * s + i) := by
  refine ⟨?_, ?_⟩
  · rw [show nI s * (4 : Int32) = nI (s * 4) from nI_mul s 4, nI_add, Nat.mul_comm]
  · rw [show (4 : Int32) * nI s = nI (4 * s) from nI_mul 4 s, nI_add]
theorem k_kept (n : Nat) {s k : Nat} (hs : s < 80) (hk : k ≤ 4) {ur uc : zMu} (r54 : zI ur 54 s = nI k) (c52 : zI uc 52 s = nI k) (sh x3 : Int32) (ent : ∀ i, i < k → zI uc 55 (4 * s + i) = zI ur 55 (4 * s + i)) : ∀ d i m m', i + d = k → d < m → d < m' → (rf_isKept_L2 n m ur (nI s) sh (nI i) = some (1, ur) ∧ ce_T_meets_L20 n m' uc (nI s) sh x3 (nI i) = some (1, zsI uc 51 s (zI uc 51 s + 1))) ∨ (rf_isKept_L2 n m ur (nI s) sh (nI i) = some (0, ur) ∧ ce_T_meets_L20 n m' uc (nI s) sh x3 (nI i) = (if zI uc 53 s = 0 then zbd (ce_T_enter n uc (nI s) sh x3) (fun _ u7 => some (0, u7)) else some (0, uc))) := by
  intro d
  induction d with
  | zero =>
    intro i m m' hi hm hm'
    obtain ⟨m, rfl⟩ : ∃ k, m = k + 1 := ⟨m - 1, by omega⟩
    obtain ⟨m', rfl⟩ : ∃ k, m' = k + 1 := ⟨m' - 1, by omega⟩
    refine Or.inr ⟨?_, ?_⟩
    · rw [rf_isKept_L2, zin_nI (show s < 81 by omega) (by decide), zgd_t, zx_nI (show s < 2 ^ 31 by omega), r54, if_neg (nI_nlt (by omega) (by omega))]
    · rw [ce_T_meets_L20, zin_nI hs (by decide), zgd_t, zx_nI (show s < 2 ^ 31 by omega), c52, if_neg (nI_nlt (by omega) (by omega)), zgd_t]
  | succ d ih =>
    intro i m m' hi hm hm'
    obtain ⟨m, rfl⟩ : ∃ k, m = k + 1 := ⟨m - 1, by omega⟩
    obtain ⟨m', rfl⟩ : ∃ k, m' = k + 1 := ⟨m' - 1, by omega⟩
    rw [rf_isKept_L2, zin_nI (show s < 81 by omega) (by decide), zgd_t, zx_nI (show s < 2 ^ 31 by omega), r54, if_pos (nI_lt (by omega) (by omega)), (sh4 s i).2, zin_nI (show 4 * s + i < 330 by omega) (by decide), zgd_t, zx_nI (show 4 * s + i < 2 ^ 31 by omega)]
    rw [ce_T_meets_L20, zin_nI hs (by decide), zgd_t, zx_nI (show s < 2 ^ 31 by omega), c52, if_pos (nI_lt (by omega) (by omega)), (sh4 s i).1, zin_nI (show 4 * s + i < 320 by omega) (by decide), zgd_t, zx_nI (show 4 * s + i < 2 ^ 31 by omega), ent i (by omega)]
    by_cases z : zI ur 55 (4 * s + i) = sh
    · rw [if_pos z, if_pos z]
      exact Or.inl ⟨rfl, rfl⟩
    · rw [if_neg z, if_neg z, nI_1]
      exact ih (i + 1) m m' (by omega) (by omega) (by omega)
/-- the line's end -/
theorem anc_root {pa : Nat → Nat} {T x : Nat} : ∀ d {o : Nat} (hp : ∀ j, j ≤ o → pa j ≤ j), o ≤ d → anc pa o T → pa T = 0 → anc pa o x → T ≤ x := by
  intro d
  induction d with
  | zero =>
    intro o hp hd h1 h2 h3
    have e : o = 0 := by omega
    subst e
    have h1 : 0 = T := h1
    omega
  | succ d ih =>
    intro o hp hd h1 h2 h3
    rcases (anc_st hp).mp h1 with e | ⟨z, e⟩
    · subst e
      rcases (anc_st hp).mp h3 with y | y
      · omega
      · exact absurd h2 y.1
    · have := hp o (Nat.le_refl _)
      rcases (anc_st hp).mp h3 with y | y
      · have := anc_le (pa o - 1) (pa o - 1) (Nat.le_refl _) (fun j hj => hp j (by omega)) e
        omega
      · exact ih (fun j hj => hp j (by omega)) (by omega) e h2 y.2
def kMq (C : kC) (W : kW) (ur uc : zMu) : Int32 → zMu → Int32 → zMu → Prop := fun r vr r' vc => r' = r ∧ fT tgR [9] ur vr ∧ fT tgC [9] uc vc ∧ kSi (cF C) (cS C) (cb C) W vr vc ∧ (∀ a i, a = 59 ∨ a = 60 → zI vr a i = zI ur a i) ∧ (∀ a i, a = 57 ∨ a = 58 → zI vc a i = zI uc a i)
/-- what is told of E, the end of the way -/
def kWe (ub : zMu) (W : kW) (s o w E : Nat) : Prop := (zI ub 19 s = nI 0 ∧ ((∃ m, m ∈ wl W o ∧ m.1 = w) → E = 200) ∧ (∀ q, kHo W o w q → ¬ q = o → E = q) ∧ (kHn W o w → E = 0)) ∨ (zI ub 19 s = nI 1 ∧ E = 200)
/-- a new entry e = 4 s + k, of shape sh, both -/
theorem k_newE (n : Nat) (hn : 20000 ≤ n) {C : kC} (P : kPs C) {W : kW} {ur uc : zMu} (B : kBs C ur uc) (hO : kOb W ur uc) (hM : kMb (cX C) (cb C) W ur uc) (hSh : kSh (cX C) W ur uc) (hSi : kSi (cF C) (cS C) (cb C) W ur uc) {s o w E k sh : Nat} (hs : s < cS C) (ho : o < wO W) (hw : w < xN (cX C)) (ew : zI (cb C) 22 s = nI w) (hE : E ≤ 200) (hk : kWe (cb C) W s o w E) (k4 : k < 4) (r54 : zI ur 54 s = nI k) (c52 : zI uc 52 s = nI k) (r58 : zI ur 58 s = 0) (hsh : sh < wS W) (e36 : zI ur 36 o = nI sh) (e1 : ws W sh = wp W o) (e2 : wn W sh = (wl W o).map fun m => m.1) : Rp (zlet (zsI ur 54 s (nI k + 1)) fun u12 => zlet ((4 * nI s) + nI k) fun v13 => zgd (zin v13 330) <| zlet (zsI u12 55 (zx v13) (nI sh)) fun u14 => zgd (zin v13 330) <| zlet (zsI u14 56 (zx v13) (-1)) fun u15 => zgd (zin v13 330) <| zlet (zsI u15 57 (zx v13) (-1)) fun u16 => zgd (zin (nI s) 800) <| if zI u16 19 (zx (nI s)) = 0 then (zgd (zin (nI s) 800) <| zbd (rf_hasName n u16 (nI sh) (zI u16 22 (zx (nI s)))) fun r18 u19 => if r18 = 0 then (zgd (zin (nI sh) 2100) <| zgd (zin (nI s) 800) <| zbd (rf_way n u19 v13 (zI u19 44 (zx (nI sh))) (zI u19 22 (zx (nI s)))) fun _ u22 => some ((0 : Int32), u22)) else some (0, u19)) else some (0, u16)) (zbd (ce_T_enter n uc (nI s) (nI sh) (nI E)) fun _ u7 => some ((0 : Int32), u7)) (kMq C W ur uc) := by
  have S80 : cS C ≤ 80 := P.2.2.2.2.1.1
  have o2 := hO.1
  have hI := P.2.1
  have hN := P.2.2.1
  have sh18 : sh < 1800 := by have := hSh.1.2; omega
  have k3 : ¬ zI (cb C) 19 s = nI 3 := by
    rcases hk with ⟨q, -⟩ | ⟨q, -⟩ <;> rw [q] <;> decide
  have k2' : ¬ zI (cb C) 19 s = nI 2 := by
    rcases hk with ⟨q, -⟩ | ⟨q, -⟩ <;> rw [q] <;> decide
  obtain ⟨w3, hw3⟩ : ∃ w3, zsI (zsI (zsI uc 55 (4 * s + k) (nI sh)) 56 (4 * s + k) (nI E)) 52 s (nI (k + 1)) = w3 := ⟨_, rfl⟩
  have eC : ce_T_enter n uc (nI s) (nI sh) (nI E) = some ((), w3) := by
    unfold ce_T_enter
    rw [zin_nI (show s < 80 by omega) (by decide), zgd_t, zx_nI (show s < 2 ^ 31 by omega), c52, if_pos (show nI k < (4 : Int32) from nI_lt (b := 4) k4 (by decide)), zgd_t]
    show zlet (nI s * 4 + nI k) _ = _
    rw [(sh4 s k).1]
    show zgd (zin (nI (4 * s + k)) 320) (zlet (zsI uc 55 (zx (nI (4 * s + k))) (nI sh)) fun u3 => zgd (zin (nI (4 * s + k)) 320) (zlet (zsI u3 56 (zx (nI (4 * s + k))) (nI E)) fun u4 => zgd true (zgd true (zlet (zsI u4 52 s (zI u4 52 s + 1)) fun u5 => some ((), u5))))) = _
    rw [zin_nI (show 4 * s + k < 320 by omega) (by decide), zgd_t, zx_nI (show 4 * s + k < 2 ^ 31 by omega)]
    show some ((), zsI (zsI (zsI uc 55 (4 * s + k) (nI sh)) 56 (4 * s + k) (nI E)) 52 s (zI uc 52 s + 1)) = _
    rw [c52, nI_1, hw3]
  have G3 : fT tgC [9] uc w3 := by subst hw3; exact fT_I (fT_I (fT_I (fT_rf _ _ _) _ 9 rfl (by decide)) _ 9 rfl (by decide)) _ 9 rfl (by decide)
  have ic : ∀ a i, ¬ ((a = 52 ∧ i = s) ∨ ((a = 55 ∨ a = 56) ∧ i = 4 * s + k)) → zI w3 a i = zI uc a i := fun a i q => by subst hw3; rw [gI_sI, if_neg (by omega), gI_sI, if_neg (by omega), gI_sI, if_neg (by omega)]
  have x55 : zI w3 55 (4 * s + k) = nI sh := by subst hw3; rw [gI_sI, if_neg (by omega), gI_sI, if_neg (by omega), gI_sI, if_pos ⟨rfl, rfl⟩]
  have x56 : zI w3 56 (4 * s + k) = nI E := by subst hw3; rw [gI_sI, if_neg (by omega), gI_sI, if_pos ⟨rfl, rfl⟩]
  have x52 : zI w3 52 s = nI (k + 1) := by subst hw3; rw [gI_sI, if_pos ⟨rfl, rfl⟩]
  refine rp_r eC ?_
  rw [nI_1, (sh4 s k).2, zx_nI (show s < 2 ^ 31 by omega), zx_nI (show sh < 2 ^ 31 by omega)]
  refine rp_ll (rp_ll (rp_lg (zin_nI (by omega) (by decide)) (rp_ll (rp_lg (zin_nI (by omega) (by decide)) (rp_ll (rp_lg (zin_nI (by omega) (by decide)) (rp_ll (rp_lg (zin_nI (by omega) (by decide)) ?_))))))))
  rw [zx_nI (show 4 * s + k < 2 ^ 31 by omega)]
  obtain ⟨u6, hu6⟩ : ∃ u6, zsI (zsI (zsI (zsI ur 54 s (nI (k + 1))) 55 (4 * s + k) (nI sh)) 56 (4 * s + k) (-1)) 57 (4 * s + k) (-1) = u6 := ⟨_, rfl⟩
  rw [hu6]
  have F6 : fT tgR [9] ur u6 := by subst hu6; exact fT_I (fT_I (fT_I (fT_I (fT_rf _ _ _) _ 9 rfl (by decide)) _ 9 rfl (by decide)) _ 9 rfl (by decide)) _ 9 rfl (by decide)
  have i6 : ∀ a i, ¬ ((a = 54 ∧ i = s) ∨ ((a = 55 ∨ a = 56 ∨ a = 57) ∧ i = 4 * s + k)) → zI u6 a i = zI ur a i := fun a i q => by subst hu6; rw [gI_sI, if_neg (by omega), gI_sI, if_neg (by omega), gI_sI, if_neg (by omega), gI_sI, if_neg (by omega)]
  have y54 : zI u6 54 s = nI (k + 1) := by subst hu6; rw [gI_sI, if_neg (by omega), gI_sI, if_neg (by omega), gI_sI, if_neg (by omega), gI_sI, if_pos ⟨rfl, rfl⟩]
  have y55 : zI u6 55 (4 * s + k) = nI sh := by subst hu6; rw [gI_sI, if_neg (by omega), gI_sI, if_neg (by omega), gI_sI, if_pos ⟨rfl, rfl⟩]
  have y56 : zI u6 56 (4 * s + k) = -1 := by subst hu6; rw [gI_sI, if_neg (by omega), gI_sI, if_pos ⟨rfl, rfl⟩]
  have i19 : zI u6 19 s = zI (cb C) 19 s := (i6 19 s (by omega)).trans (B.r (show tgR 19 s = 0 from rfl))
  have i22 : zI u6 22 s = nI w := (i6 22 s (by omega)).trans ((B.r (show tgR 22 s = 0 from rfl)).trans ew)
  -- the end: any picture of the reference with the right entry
  have fin : ∀ v, fT tgR [9] u6 v → (∀ a i, ¬ ((a = 56 ∨ a = 57) ∧ i = 4 * s + k) → zI v a i = zI u6 a i) → ((zI (cb C) 19 s = 0 ∧ ∃ F T, F < wO W ∧ ws W sh = F + 1 ∧ zI v 56 (4 * s + k) = nI F ∧ zI v 57 (4 * s + k) = nI T ∧ anc (wp W) F T ∧ ∀ x, anc (wp W) F x → (T ≤ x ↔ E ≤ x)) ∨ (zI v 56 (4 * s + k) = -1 ∧ (E = 200 ∨ ws W sh = 0))) → kMq C W ur uc 0 v 0 w3 := by
    intro v f1 f2 f3
    have iv : ∀ a i, ¬ ((a = 54 ∧ i = s) ∨ ((a = 55 ∨ a = 56 ∨ a = 57) ∧ i = 4 * s + k)) → zI v a i = zI ur a i := fun a i q => (f2 a i (by omega)).trans (i6 a i q)
    refine ⟨rfl, fT_tr F6 f1, G3, ?_, fun a i q => iv a i (by omega), fun a i q => ic a i (by omega)⟩
    refine kSi_one (s := s) hSi (fun a j q => iv a j (by unfold sR at q; omega)) (fun a j q => ic a j (by unfold sC at q; omega)) ?_
    obtain ⟨g1, g2, g3, g4, g, g5, g6, g7, g8, g9⟩ := hSi.2.2.2 s hs
    obtain ⟨kk, q1, q2, q3, q4, q5, q6⟩ := g4 k3
    have ek : kk = k := (nI_eq (by omega) (by omega)).mp (q2.symm.trans r54)
    subst ek
    refine ⟨by rw [iv 52 _ (by omega), ic 50 _ (by omega)]; exact g1, by rw [iv 53 _ (by omega), ic 51 _ (by omega)]; exact g2, fun q => absurd q k3, fun q => ⟨kk + 1, by omega, by rw [f2 54 _ (by omega)]; exact y54, x52, by rw [iv 58 _ (by omega), ic 53 _ (by omega)]; exact q4, Or.inl (by rw [iv 58 _ (by omega)]; exact r58), fun i hi => ?_⟩, g, g5, by rw [iv 59 _ (by omega)]; exact g6, by rw [ic 58 _ (by omega)]; exact g7, g8, fun q i hi => by rw [iv 60 _ (by omega), ic 57 _ (by omega)]; exact g9 q i hi⟩
    by_cases z : i = kk
    · subst z
      exact ⟨sh, E, hsh, by rw [f2 55 _ (by omega)]; exact y55, x55, ⟨hE, k2'⟩, x56, f3⟩
    · exact kEn_q (q6 i (by omega)) (iv 55 _ (by omega)) (iv 56 _ (by omega)) (iv 57 _ (by omega)) (ic 55 _ (by omega)) (ic 56 _ (by omega))
  rcases hk with ⟨z0, z1, z2, z3⟩ | ⟨z0, z1⟩
  · refine rp_lt (by rw [i19, z0]; rfl) (rp_lg (zin_nI (by omega) (by decide)) ?_)
    rw [i22]
    have hSh6 := kSh_k hSh F6 (fT_rf tgC [9] uc) (by decide)
    have hO6 := kOb_k hO F6 (fT_rf tgC [9] uc) (by decide)
    have hM6 := kMb_k hM F6 (fT_rf tgC [9] uc) (by decide)
    have eh : rf_hasName n u6 (nI sh) (nI w) = some (if w ∈ wn W sh then 1 else 0, u6) := k_hasN n hN hSh6 hw sh sh n (Nat.le_refl _) hsh (by omega)
    refine rp_l eh ?_
    by_cases y : w ∈ wn W sh
    · rw [if_pos y]
      refine rp_lf (by decide) (rp_end (fin u6 (fT_rf _ _ _) (fun _ _ _ => rfl) (Or.inr ⟨y56, Or.inl (z1 ?_)⟩)))
      rw [e2, List.mem_map] at y
      exact y
    · rw [if_neg y]
      refine rp_lt rfl (rp_lg (zin_nI (by omega) (by decide)) (rp_lg (zin_nI (by omega) (by decide)) ?_))
      obtain ⟨Ch, hCh⟩ := hSh6.2.2.2.2.2.1
      have i44 : zI u6 44 sh = iP (ws W sh) := (hCh sh hsh).2.2.1
      have no : ∀ m, m ∈ wl W o → ¬ m.1 = w := fun m hm q => y (by rw [e2, List.mem_map]; exact ⟨m, hm, q⟩)
      have hp := kOb_p hO ho
      rw [i44, i22, e1]
      unfold rf_way
      by_cases x : wp W o = 0
      · rw [x, iP_0]
        have ew : (zgd (zin (nI (4 * s + k)) 330) <| zlet (zsI u6 56 (zx (nI (4 * s + k))) (-1)) fun u1 => rf_way_L10 n n u1 (nI (4 * s + k)) (nI w) (-1)) = some ((), zsI u6 56 (4 * s + k) (-1)) := by
          rw [zin_nI (show 4 * s + k < 330 by omega) (by decide), zgd_t, zx_nI (show 4 * s + k < 2 ^ 31 by omega)]
          show rf_way_L10 n n (zsI u6 56 (4 * s + k) (-1)) (nI (4 * s + k)) (nI w) (-1) = _
          cases n with
          | zero => omega
          | succ n => rw [rf_way_L10, if_pos rfl]
        refine rp_l ew (rp_end (fin _ (fT_I (fT_rf _ _ _) _ 9 rfl (by decide)) (fun a i q => by rw [gI_sI, if_neg (by omega)]) (Or.inr ⟨by rw [gI_sI, if_pos ⟨rfl, rfl⟩], Or.inr (by rw [e1]; exact x)⟩)))
      · obtain ⟨f, hf⟩ : ∃ f, wp W o = f + 1 := ⟨wp W o - 1, by omega⟩
        have pf := hp o (Nat.le_refl _)
        rw [hf, iP_s]
        obtain ⟨u7, hu7⟩ : ∃ u7, zsI u6 56 (4 * s + k) (nI f) = u7 := ⟨_, rfl⟩
        have F7 : fT tgR [9] u6 u7 := by subst hu7; exact fT_I (fT_rf _ _ _) _ 9 rfl (by decide)
        obtain ⟨v, T, a1, a2, a3, a4, a5, a6⟩ := k_way n hn hI hN hw (e := 4 * s + k) (by omega) f f n u7 (Nat.le_refl _) (by omega) (by omega) (kOb_k hO6 F7 (fT_rf tgC [9] uc) (by decide)) (kMb_k hM6 F7 (fT_rf tgC [9] uc) (by decide))
        have ew : (zgd (zin (nI (4 * s + k)) 330) <| zlet (zsI u6 56 (zx (nI (4 * s + k))) (nI f)) fun u1 => rf_way_L10 n n u1 (nI (4 * s + k)) (nI w) (nI f)) = some ((), v) := by
          rw [zin_nI (show 4 * s + k < 330 by omega) (by decide), zgd_t, zx_nI (show 4 * s + k < 2 ^ 31 by omega), hu7]
          exact a1
        refine rp_l ew (rp_end (fin v (fT_tr F7 a2) (fun a i q => ?_) (Or.inl ⟨z0, f, T, by omega, by rw [e1]; exact hf, ?_, a4, a5, fun x hx => ?_⟩)))
        · rw [a3 a i (by omega)]; subst hu7; rw [gI_sI, if_neg (by omega)]
        · rw [a3 56 _ (by omega)]; subst hu7; rw [gI_sI, if_pos ⟨rfl, rfl⟩]
        · obtain ⟨s1, s2, s3, s4⟩ := kHo_s hp hf no
          rcases a6 with b | ⟨b1, b2⟩
          · have hoT := s1 T b
            have le : T ≤ f := anc_le f f (Nat.le_refl _) (fun j hj => hp j (by omega)) a5
            rw [z2 T hoT (by omega)]
          · rw [z3 (s2 b1)]
            refine ⟨fun _ => Nat.zero_le _, fun _ => ?_⟩
            -- T is the line's end
            exact anc_root f (fun j hj => hp j (by omega)) (Nat.le_refl _) a5 b2 hx
  · refine rp_lf (by rw [i19, z0]; decide) (rp_end (fin u6 (fT_rf _ _ _) (fun _ _ _ => rfl) (Or.inr ⟨y56, Or.inl z1⟩)))
theorem k_meet (n : Nat) (hn : 20000 ≤ n) {C : kC} (P : kPs C) {W : kW} {ur uc : zMu} (B : kBs C ur uc) (hO : kOb W ur uc) (hM : kMb (cX C) (cb C) W ur uc) (hSh : kSh (cX C) W ur uc) (hSi : kSi (cF C) (cS C) (cb C) W ur uc) {s o w E : Nat} (hs : s < cS C) (ho : o < wO W) (hw : w < xN (cX C)) (ew : zI (cb C) 22 s = nI w) (hE : E ≤ 200) (hk : kWe (cb C) W s o w E) : Rp (rf_meets n ur (nI s) (nI o)) (ce_T_meets n uc (nI s) (zI uc 37 o) (nI E)) (kMq C W ur uc) := by
  have S80 : cS C ≤ 80 := P.2.2.2.2.1.1
  have o2 := hO.1
  have k3 : ¬ zI (cb C) 19 s = nI 3 := by
    rcases hk with ⟨q, -⟩ | ⟨q, -⟩ <;> rw [q] <;> decide
  obtain ⟨u1, hu1⟩ : ∃ u1, zsI ur 52 s (zI ur 52 s + 1) = u1 := ⟨_, rfl⟩
  obtain ⟨w1, hw1⟩ : ∃ w1, zsI uc 50 s (zI uc 50 s + 1) = w1 := ⟨_, rfl⟩
  have F1 : fT tgR [9] ur u1 := by subst hu1; exact fT_I (fT_rf _ _ _) _ 9 rfl (by decide)
  have G1 : fT tgC [9] uc w1 := by subst hw1; exact fT_I (fT_rf _ _ _) _ 9 rfl (by decide)
  have i1 : ∀ a i, ¬ (a = 52 ∧ i = s) → zI u1 a i = zI ur a i := fun a i q => by subst hu1; rw [gI_sI, if_neg q]
  have c1 : ∀ a i, ¬ (a = 50 ∧ i = s) → zI w1 a i = zI uc a i := fun a i q => by subst hw1; rw [gI_sI, if_neg q]
  have hS1 : kSi (cF C) (cS C) (cb C) W u1 w1 := by
    refine kSi_one (s := s) hSi (fun a j q => i1 a j (by unfold sR at q; omega)) (fun a j q => c1 a j (by unfold sC at q; omega)) ?_
    obtain ⟨g1, g2, g3, g4, g, g5, g6, g7, g8, g9⟩ := hSi.2.2.2 s hs
    refine ⟨?_, ?_, fun q => absurd q k3, fun q => ?_, g, g5, ?_, ?_, g8, fun q i hi => ?_⟩
    · subst hu1; subst hw1; rw [gI_sI, if_pos ⟨rfl, rfl⟩, gI_sI, if_pos ⟨rfl, rfl⟩, g1]
    · rw [i1 53 _ (by omega), c1 51 _ (by omega)]; exact g2
    · obtain ⟨k, k1, k2, k3, k4, k5, k6⟩ := g4 q
      exact ⟨k, k1, by rw [i1 54 _ (by omega)]; exact k2, by rw [c1 52 _ (by omega)]; exact k3, by rw [i1 58 _ (by omega), c1 53 _ (by omega)]; exact k4, by rw [i1 58 _ (by omega)]; exact k5, fun i hi => kEn_q (k6 i hi) (i1 55 _ (by omega)) (i1 56 _ (by omega)) (i1 57 _ (by omega)) (c1 55 _ (by omega)) (c1 56 _ (by omega))⟩
    · rw [i1 59 _ (by omega)]; exact g6
    · rw [c1 58 _ (by omega)]; exact g7
    · rw [i1 60 _ (by omega), c1 57 _ (by omega)]; exact g9 q i hi
  have i36 : zI u1 36 o = zI ur 36 o := i1 36 o (by omega)
  obtain ⟨e37, e44, eF⟩ := hSh.2.2.2.2.2.2.2.2 o ho
  have tri : ∀ r vr vc, kMq C W u1 w1 r vr r vc → kMq C W ur uc r vr r vc := fun r vr vc q => ⟨rfl, fT_tr F1 q.2.1, fT_tr G1 q.2.2.1, q.2.2.2.1, fun a i z => (q.2.2.2.2.1 a i z).trans (i1 a i (by omega)), fun a i z => (q.2.2.2.2.2 a i z).trans (c1 a i (by omega))⟩
  unfold rf_meets ce_T_meets
  rw [zx_nI (show s < 2 ^ 31 by omega), zx_nI (show o < 2 ^ 31 by omega), hu1, hw1, e37]
  refine rp_lg (zin_nI (by omega) (by decide)) (rp_lg (zin_nI (by omega) (by decide)) (rp_ll (rp_lg (zin_nI (by omega) (by decide)) (rp_ll ?_))))
  refine rp_rg (zin_nI (by omega) (by decide)) (rp_rg (zin_nI (by omega) (by decide)) (rp_rl ?_))
  rw [i36]
  rcases eF with e0 | ⟨sh, hsh, e0, e1, e2, e3⟩
  · rw [e0]
    exact rp_lt rfl (rp_rt rfl (rp_end ⟨rfl, F1, G1, hS1, fun a i q => i1 a i (by omega), fun a i q => c1 a i (by omega)⟩))
  · have sh18 : sh < 1800 := by have := hSh.1.2; omega
    rw [e0]
    refine rp_lf (nI_m1 (by omega)) (rp_rf (nI_m1 (by omega)) ?_)
    obtain ⟨g1, g2, g3, g4, g, g5, g6, g7, g8, g9⟩ := hS1.2.2.2 s hs
    obtain ⟨k, k1, k2, kk3, k4, k5, k6⟩ := g4 k3
    have ent : ∀ i, i < k → zI w1 55 (4 * s + i) = zI u1 55 (4 * s + i) := fun i hi => by
      obtain ⟨a, b, -, a2, a3, -⟩ := k6 i hi
      rw [a2, a3]
    rcases k_kept n (show s < 80 by omega) k1 k2 kk3 (nI sh) (nI E) ent k 0 n n (by omega) (by omega) (by omega) with ⟨x1, x2⟩ | ⟨x1, x2⟩
    · -- it is kept
      refine rp_l (show rf_isKept n u1 (nI s) (nI sh) = some (1, u1) from x1) (rp_lf (by decide) (rp_lg (zin_nI (by omega) (by decide)) (rp_lg (zin_nI (by omega) (by decide)) (rp_ll (rp_eq rfl x2 (tri _ _ _ ⟨rfl, fT_I (fT_rf _ _ _) _ 9 rfl (by decide), fT_I (fT_rf _ _ _) _ 9 rfl (by decide), ?_, fun a i q => ?_, fun a i q => ?_⟩))))))
      · refine kSi_one (s := s) hS1 (fun a j q => by rw [gI_sI, if_neg (by unfold sR at q; omega)]) (fun a j q => by rw [gI_sI, if_neg (by unfold sC at q; omega)]) ?_
        have ir : ∀ a i, ¬ (a = 53 ∧ i = s) → zI (zsI u1 53 s (zI u1 53 s + 1)) a i = zI u1 a i := fun a i q => by rw [gI_sI, if_neg q]
        have ic : ∀ a i, ¬ (a = 51 ∧ i = s) → zI (zsI w1 51 s (zI w1 51 s + 1)) a i = zI w1 a i := fun a i q => by rw [gI_sI, if_neg q]
        refine ⟨by rw [ir 52 _ (by omega), ic 50 _ (by omega)]; exact g1, by rw [gI_sI, if_pos ⟨rfl, rfl⟩, gI_sI, if_pos ⟨rfl, rfl⟩, g2], fun q => absurd q k3, fun q => ⟨k, k1, by rw [ir 54 _ (by omega)]; exact k2, by rw [ic 52 _ (by omega)]; exact kk3, by rw [ir 58 _ (by omega), ic 53 _ (by omega)]; exact k4, by rw [ir 58 _ (by omega)]; exact k5, fun i hi => kEn_q (k6 i hi) (ir 55 _ (by omega)) (ir 56 _ (by omega)) (ir 57 _ (by omega)) (ic 55 _ (by omega)) (ic 56 _ (by omega))⟩, g, g5, by rw [ir 59 _ (by omega)]; exact g6, by rw [ic 58 _ (by omega)]; exact g7, g8, fun q i hi => by rw [ir 60 _ (by omega), ic 57 _ (by omega)]; exact g9 q i hi⟩
      · rw [gI_sI, if_neg (by omega)]
      · rw [gI_sI, if_neg (by omega)]
    · refine rp_l (show rf_isKept n u1 (nI s) (nI sh) = some (0, u1) from x1) (rp_lt rfl (rp_lg (zin_nI (by omega) (by decide)) ?_))
      show Rp _ (ce_T_meets_L20 n n w1 (nI s) (nI sh) (nI E) (nI 0)) _
      rw [x2, k4]
      rcases k5 with m0 | ⟨m1, kz⟩
      · refine rp_lt m0 (rp_rt m0 (rp_lg (zin_nI (by omega) (by decide)) ?_))
        rw [k2]
        by_cases y : k = 4
        · -- it becomes one of many
          have eC : ce_T_enter n w1 (nI s) (nI sh) (nI E) = some ((), zsI (zsI w1 53 s 1) 52 s 0) := by
            unfold ce_T_enter
            rw [zin_nI (show s < 80 by omega) (by decide), zgd_t, zx_nI (show s < 2 ^ 31 by omega), kk3, y, if_neg (by decide), zgd_t]
            rfl
          refine rp_lt (by rw [y]; rfl) (rp_lg (zin_nI (by omega) (by decide)) (rp_ll (rp_lg (zin_nI (by omega) (by decide)) (rp_ll (rp_r eC (rp_end (tri _ _ _ ⟨rfl, fT_I (fT_I (fT_rf _ _ _) _ 9 rfl (by decide)) _ 9 rfl (by decide), fT_I (fT_I (fT_rf _ _ _) _ 9 rfl (by decide)) _ 9 rfl (by decide), ?_, fun a i q => ?_, fun a i q => ?_⟩)))))))
          · have ir : ∀ a i, ¬ ((a = 58 ∨ a = 54) ∧ i = s) → zI (zsI (zsI u1 58 s 1) 54 s 0) a i = zI u1 a i := fun a i q => by rw [gI_sI, if_neg (by omega), gI_sI, if_neg (by omega)]
            have ic : ∀ a i, ¬ ((a = 53 ∨ a = 52) ∧ i = s) → zI (zsI (zsI w1 53 s 1) 52 s 0) a i = zI w1 a i := fun a i q => by rw [gI_sI, if_neg (by omega), gI_sI, if_neg (by omega)]
            refine kSi_one (s := s) hS1 (fun a j q => ir a j (by unfold sR at q; omega)) (fun a j q => ic a j (by unfold sC at q; omega)) ?_
            show kS1 (cF C) (cb C) W (zsI (zsI u1 58 s 1) 54 s 0) (zsI (zsI w1 53 s 1) 52 s 0) s
            refine ⟨by rw [ir 52 _ (by omega), ic 50 _ (by omega)]; exact g1, by rw [ir 53 _ (by omega), ic 51 _ (by omega)]; exact g2, fun q => absurd q k3, fun q => ⟨0, by omega, by rw [gI_sI, if_pos ⟨rfl, rfl⟩]; rfl, by rw [gI_sI, if_pos ⟨rfl, rfl⟩]; rfl, ?_, Or.inr ⟨?_, rfl⟩, fun i hi => absurd hi (by omega)⟩, g, g5, by rw [ir 59 _ (by omega)]; exact g6, by rw [ic 58 _ (by omega)]; exact g7, g8, fun q i hi => by rw [ir 60 _ (by omega), ic 57 _ (by omega)]; exact g9 q i hi⟩
            · rw [gI_sI, if_neg (by omega), gI_sI, if_pos ⟨rfl, rfl⟩, gI_sI, if_neg (by omega), gI_sI, if_pos ⟨rfl, rfl⟩]
            · rw [gI_sI, if_neg (by omega), gI_sI, if_pos ⟨rfl, rfl⟩]
          · rw [gI_sI, if_neg (by omega), gI_sI, if_neg (by omega)]
          · rw [gI_sI, if_neg (by omega), gI_sI, if_neg (by omega)]
        · -- a new entry
          refine rp_lf (show ¬ nI k = (4 : Int32) from fun q => y ((nI_eq (b := 4) (by omega) (by decide)).mp q)) (rp_lg (zin_nI (by omega) (by decide)) (rp_ll (rp_lg (zin_nI (by omega) (by decide)) ?_)))
          have B1 : kBs C u1 w1 := B.tr F1 G1 (by decide)
          have := k_newE n hn P B1 (kOb_k hO F1 G1 (by decide)) (kMb_k hM F1 G1 (by decide)) (kSh_k hSh F1 G1 (by decide)) hS1 hs ho hw ew hE hk (show k < 4 by omega) k2 kk3 m0 hsh (i36.trans e0) e1 e2
          rw [zx_nI (show s < 2 ^ 31 by omega)] at this
          refine rp_mono this (fun r vr r' vc q => ?_)
          have er : r' = r := q.1
          subst er
          exact tri _ _ _ q
      · -- many
        exact rp_lf (by rw [m1]; decide) (rp_rf (by rw [m1]; decide) (rp_end ⟨rfl, F1, G1, hS1, fun a i q => i1 a i (by omega), fun a i q => c1 a i (by omega)⟩))
