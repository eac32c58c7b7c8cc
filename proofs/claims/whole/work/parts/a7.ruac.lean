/-! RUNNING: a member is linked, the class; the members behind it -/
theorem kc_link (n : Nat) {o c : Nat} (ho : o < 200) {l : List Nat} {u w : zMu} (ef : ce_H_freshCell n u = some (nI c, w)) (cN : c < zN w 88) (n89 : zN w 89 = zN w 88) (hN : zN w 88 < 2 ^ 31) (c4 : kCh (fun c => zI w 89 c) (zI w 40 o) l) (c5 : zI w 41 o = kLa l) (c6 : zI w 39 o = nI l.length) (hb : ∀ z, z ∈ l → z < zN w 88) (hc : ¬ c ∈ l) (hd : l.Nodup) (x : Int64) : ∃ v, ce_H_append n u (nI o) x = some (nI c, v) ∧ fT tgC [6] w v ∧ kCh (fun c => zI v 89 c) (zI v 40 o) (l ++ [c]) ∧ zI v 41 o = nI c ∧ zI v 39 o = nI (l.length + 1) ∧ zL v 88 c = x ∧ (∀ a j, ¬ ((a = 89 ∧ (j = c ∨ j ∈ l)) ∨ ((a = 39 ∨ a = 40 ∨ a = 41) ∧ j = o)) → zI v a j = zI w a j) ∧ (∀ a j, ¬ (a = 88 ∧ j = c) → zL v a j = zL w a j) ∧ (∀ a, zN v a = zN w a) := by
  obtain ⟨u5, hu5⟩ : ∃ u5, zsI (zsL w 88 c x) 89 c (-1) = u5 := ⟨_, rfl⟩
  have i5 : ∀ a j, ¬ (a = 89 ∧ j = c) → zI u5 a j = zI w a j := fun a j q => by subst hu5; rw [gI_sI, if_neg q, gI_sL]
  have x89 : zI u5 89 c = -1 := by subst hu5; rw [gI_sI, if_pos ⟨rfl, rfl⟩]
  have x88 : zL u5 88 c = x := by subst hu5; rw [gL_sI, gL_sL, if_pos ⟨rfl, rfl⟩]
  have l5 : ∀ a j, ¬ (a = 88 ∧ j = c) → zL u5 a j = zL w a j := fun a j q => by subst hu5; rw [gL_sI, gL_sL, if_neg q]
  have F5 : fT tgC [6] w u5 := by subst hu5; exact fT_I (fT_L (fT_rf _ _ _) _ 6 rfl (by decide)) _ 6 rfl (by decide)
  have N5 : ∀ a, zN u5 a = zN w a := fun a => by subst hu5; rfl
  obtain ⟨u6, hu6⟩ : ∃ u6, (match l.getLast? with | none => zsI u5 40 o (nI c) | some z => zsI u5 89 z (nI c)) = u6 := ⟨_, rfl⟩
  have F6 : fT tgC [6] w u6 := by
    subst hu6
    cases l.getLast? with
    | none => exact fT_I F5 _ 6 rfl (by decide)
    | some z => exact fT_I F5 _ 6 rfl (by decide)
  have i6 : ∀ a j, ¬ ((a = 40 ∧ j = o) ∨ (a = 89 ∧ j ∈ l)) → zI u6 a j = zI u5 a j := fun a j q => by
    subst hu6
    cases hg : l.getLast? with
    | none => exact (gI_sI _ _ _ _ _ _).trans (if_neg (fun y => q (Or.inl y)))
    | some z => exact (gI_sI _ _ _ _ _ _).trans (if_neg (fun y => q (Or.inr ⟨y.1, by rw [y.2]; exact List.mem_of_getLast? hg⟩)))
  have l6 : ∀ a j, zL u6 a j = zL u5 a j := fun a j => by
    subst hu6
    cases l.getLast? with
    | none => rfl
    | some z => rfl
  have N6 : ∀ a, zN u6 a = zN w a := fun a => by
    subst hu6
    cases l.getLast? with
    | none => exact N5 a
    | some z => exact N5 a
  have ch6 : kCh (fun c => zI u6 89 c) (zI u6 40 o) (l ++ [c]) := by
    have := kCh_app (f := fun c => zI w 89 c) (g := fun c => zI u6 89 c) (c := c) (by
      show zI u6 89 c = -1
      rw [i6 89 c (by intro y; rcases y with y | y; omega; exact hc y.2)]; exact x89) l (zI w 40 o) c4 hc hd (fun z hz y => by
      show zI u6 89 z = zI w 89 z
      have : zI u6 89 z = zI u5 89 z := by
        subst hu6
        cases hg : l.getLast? with
        | none => exact (gI_sI _ _ _ _ _ _).trans (if_neg (by omega))
        | some z' => exact (gI_sI _ _ _ _ _ _).trans (if_neg (fun q => y (by rw [hg, q.2])))
      rw [this, i5 89 z (fun q => hc (by rw [← q.2]; exact hz))]) (fun z hz => by
      show zI u6 89 z = nI c
      subst hu6
      rw [hz]
      exact (gI_sI _ _ _ _ _ _).trans (if_pos ⟨rfl, rfl⟩))
    have e40 : zI u6 40 o = if l = [] then nI c else zI w 40 o := by
      subst hu6
      cases l with
      | nil => exact (gI_sI _ _ _ _ _ _).trans (if_pos ⟨rfl, rfl⟩)
      | cons a l =>
        rw [if_neg (by simp)]
        cases hg : (a :: l).getLast? with
        | none => exact absurd (List.getLast?_eq_none_iff.mp hg) (by simp)
        | some z => exact (gI_sI _ _ _ _ _ _).trans ((if_neg (by omega)).trans (i5 40 o (by omega)))
    rw [e40]
    exact this
  obtain ⟨v, hv⟩ : ∃ v, zsI (zsI u6 41 o (nI c)) 39 o (nI (l.length + 1)) = v := ⟨_, rfl⟩
  have iv : ∀ a j, ¬ ((a = 41 ∨ a = 39) ∧ j = o) → zI v a j = zI u6 a j := fun a j q => by subst hv; rw [gI_sI, if_neg (by omega), gI_sI, if_neg (by omega)]
  have o39 : zI u6 39 o = nI l.length := by rw [i6 39 o (by omega), i5 39 o (by omega)]; exact c6
  refine ⟨v, ?_, ?_, ?_, ?_, ?_, ?_, fun a j q => ?_, fun a j q => ?_, fun a => ?_⟩
  · have eJ : ce_H_append_J56 n u6 (nI o) (nI c) = some (nI c, v) := by
      unfold ce_H_append_J56
      rw [zin_nI ho (by decide), zgd_t, zx_nI (show o < 2 ^ 31 by omega)]
      simp only [zlet]
      rw [show zI (zsI u6 41 o (nI c)) 39 o = nI l.length from by rw [gI_sI, if_neg (by omega)]; exact o39, nI_1, hv]
      rfl
    rw [← eJ]
    unfold ce_H_append
    rw [zbd_e ef, zin_nI cN hN, zgd_t, zx_nI (show c < 2 ^ 31 by omega)]
    simp only [zlet]
    rw [show zN (zsL w 88 c x) 89 = zN w 88 from n89, zin_nI cN hN, zgd_t, hu5, zin_nI ho (by decide), zx_nI (show o < 2 ^ 31 by omega)]
    simp only [zgd_t]
    have j41 : zI u5 41 o = kLa l := by rw [i5 41 o (by omega)]; exact c5
    rw [j41]
    subst hu6
    cases hg : l.getLast? with
    | none =>
      have : kLa l = -1 := by unfold kLa; rw [hg]
      rw [if_pos this]
    | some z =>
      have e : kLa l = nI z := by unfold kLa; rw [hg]
      have hz := hb z (List.mem_of_getLast? hg)
      rw [e, if_neg (nI_m1 (by omega)), N5 89, n89, zin_nI hz hN, zgd_t, zx_nI (show z < 2 ^ 31 by omega)]
  · subst hv; exact fT_I (fT_I F6 _ 6 rfl (by decide)) _ 6 rfl (by decide)
  · rw [iv 40 o (by omega), show (fun c => zI v 89 c) = fun c => zI u6 89 c from funext fun c => iv 89 c (by omega)]
    exact ch6
  · subst hv; rw [gI_sI, if_neg (by omega), gI_sI, if_pos ⟨rfl, rfl⟩]
  · subst hv; rw [gI_sI, if_pos ⟨rfl, rfl⟩]
  · have : zL v 88 c = zL u6 88 c := by subst hv; rfl
    rw [this, l6]; exact x88
  · rw [iv a j (fun y => q (Or.inr ⟨by omega, y.2⟩)), i6 a j (fun y => q (by
      rcases y with y | y
      · exact Or.inr ⟨by omega, y.2⟩
      · exact Or.inl ⟨y.1, Or.inr y.2⟩)), i5 a j (fun y => q (Or.inl ⟨y.1, Or.inl y.2⟩))]
  · have : zL v a j = zL u6 a j := by subst hv; rfl
    rw [this, l6, l5 a j q]
  · have : zN v a = zN u6 a := by subst hv; rfl
    rw [this, N6]
/-- one member more of o -/
def wAM (W : kW) (o : Nat) (m : Nat × Nat × Nat) : kW := ((wO W, wR W, wS W, wM W + 1, wP W), wp W, W.2.2.1, fun o' => if o' = o then wl W o ++ [m] else wl W o', wf W)
theorem wAM_l (W : kW) (o : Nat) (m : Nat × Nat × Nat) (o' : Nat) : wl (wAM W o m) o' = if o' = o then wl W o ++ [m] else wl W o' := rfl
theorem wAM_le (W : kW) (o : Nat) (m : Nat × Nat × Nat) : wLe W (wAM W o m) := ⟨Nat.le_refl _, Nat.le_refl _, Nat.le_refl _, fun _ _ => rfl, fun _ _ => ⟨rfl, rfl, rfl⟩⟩
/-- the members behind a new one: (w, mm, c) of o -/
theorem k_putM {X : pCx} {ub : zMu} {W V1 : kW} {ur uc vr vc : zMu} {o w mm c : Nat} (hM : kMb X ub W ur uc) (ho : o < wO W) (hw : w < xN X) (hs : ∃ s, s < 80 ∧ zI ub 22 s = nI w) (hno : ∀ m, m ∈ wl W o → ¬ m.1 = w) (emm : mm = wM W) (hmm : wM W < 20000)
    (v1 : wO V1 = wO W) (v2 : wR V1 = wR W) (v3 : wM V1 = wM W) (v4 : wl V1 = wl W)
    (r80 : zI vr 0 80 = nI (mm + 1)) (r40 : zI vr 40 mm = nI w) (r38 : zI vr 38 o = nI mm) (r39 : zI vr 39 o = nI ((wl W o).length + 1)) (rch : kCh (fun c => zI vr 42 c) (zI vr 37 o) (((wl W o).map fun m => m.2.1) ++ [mm])) (ro : ∀ a o', 37 ≤ a → a ≤ 39 → ¬ o' = o → zI vr a o' = zI ur a o') (rj : ∀ j, j < mm → zI vr 40 j = zI ur 40 j ∧ zI vr 41 j = zI ur 41 j ∧ zL vr 43 j = zL ur 43 j ∧ (¬ j ∈ ((wl W o).map fun m => m.2.1) → zI vr 42 j = zI ur 42 j))
    (hc : ∃ U U' fr fr' ov ow, (zI uc 36 12 = nI U ∧ U ≤ 16000 ∧ U = fr.length + kSm (fun o => (wl W o).length) (wO W)) ∧ (kCh (fun c => zI uc 89 c) (zI uc 36 13) fr ∧ fr.Nodup ∧ ∀ c, c ∈ fr → c < U ∧ ow c = 0) ∧ (∀ o, o < wO W → kMo W ur uc o ∧ ∀ m, m ∈ wl W o → kMm X ub W U ov ow ur uc o m) ∧ zI vc 36 12 = nI U' ∧ U' ≤ 16000 ∧ U' ≤ zN vc 88 ∧ zN vc 89 = zN vc 88 ∧ 1 ≤ zN vc 88 ∧ zN vc 88 ≤ 32000 ∧ U ≤ U' ∧ c < U' ∧ kCh (fun c => zI vc 89 c) (zI vc 36 13) fr' ∧ fr'.Nodup ∧ (∀ z, z ∈ fr' → z ∈ fr) ∧ ¬ c ∈ fr' ∧ (c ∈ fr ∨ c = U) ∧ U' + fr.length = U + fr'.length + 1 ∧ (∀ j, j < U → ¬ j = c → zL vc 88 j = zL uc 88 j ∧ vS 66 vc j = vS 66 uc j ∧ vX 66 vc j = vX 66 uc j ∧ (¬ j ∈ ((wl W o).map fun m => m.2.2) → zI vc 89 j = zI uc 89 j)))
    (x88 : zL vc 88 c = xPK X w) (x41 : zI vc 41 o = nI c) (x39 : zI vc 39 o = nI ((wl W o).length + 1)) (xch : kCh (fun c => zI vc 89 c) (zI vc 40 o) (((wl W o).map fun m => m.2.2) ++ [c])) (xo : ∀ a o', 39 ≤ a → a ≤ 41 → ¬ o' = o → zI vc a o' = zI uc a o') (xw : pVw 66 16000 vc)
    (hv : vR (wO W) (wR W) (zI vr 41 mm) (zL vr 43 mm) (vS 66 vc c) (vX 66 vc c)) : kMb X ub (wAM V1 o (w, mm, c)) vr vc := by
  obtain ⟨U, U', fr, fr', ov, ow, ⟨-, hU, hUs⟩, ⟨-, -, b3⟩, h5, a1, a2, a3, a4, a5, a6, a7, a8, b1, b2, b4, b5, b6, b7, cj⟩ := hc
  have cno : ∀ o', o' < wO W → ∀ m, m ∈ wl W o' → ¬ m.2.2 = c := fun o' ho' m hm q => by
    obtain ⟨-, -, -, -, d5, d6, -⟩ := (h5 o' ho').2 m hm
    rcases b6 with y | y
    · have := (b3 c y).2
      rw [q] at d6
      omega
    · omega
  have eM : wM (wAM V1 o (w, mm, c)) = mm + 1 := by show wM V1 + 1 = _; omega
  have el : ∀ o', wl (wAM V1 o (w, mm, c)) o' = if o' = o then wl W o ++ [(w, mm, c)] else wl W o' := fun o' => by rw [wAM_l, v4]
  have eO : wO (wAM V1 o (w, mm, c)) = wO W := v1
  have eR : wR (wAM V1 o (w, mm, c)) = wR W := v2
  -- members of other chains
  have oth : ∀ o', o' < wO W → ¬ o' = o → ∀ m, m ∈ wl W o' → (¬ m.2.1 ∈ ((wl W o).map fun m => m.2.1)) ∧ ¬ m.2.2 ∈ ((wl W o).map fun m => m.2.2) := fun o' ho' hne m hm => by
    obtain ⟨-, -, -, d4, -, d6, -⟩ := (h5 o' ho').2 m hm
    refine ⟨fun y => ?_, fun y => ?_⟩
    · obtain ⟨m', hm', e⟩ := List.mem_map.mp y
      obtain ⟨-, -, -, e4, -⟩ := (h5 o ho).2 m' hm'
      rw [e, d4] at e4
      omega
    · obtain ⟨m', hm', e⟩ := List.mem_map.mp y
      obtain ⟨-, -, -, -, -, e6, -⟩ := (h5 o ho).2 m' hm'
      rw [e, d6] at e6
      omega
  refine ⟨by rw [eM]; exact r80, by rw [eM]; omega, U', fr', (fun z => if z = mm then o + 1 else ov z), (fun z => if z = c then o + 1 else ow z), ⟨a1, a2, a3, a4, a5, a6, xw, ?_⟩, ⟨b1, b2, fun z hz => ⟨?_, ?_⟩⟩, fun o' ho' => ?_⟩
  · rw [eO]
    have := kSm_up (f := fun o => (wl W o).length) (g := fun o' => (wl (wAM V1 o (w, mm, c)) o').length) (i := o) (wO W) ho (fun j hj hne => by rw [el, if_neg hne])
    simp only [el, if_true, List.length_append, List.length_singleton] at this
    simp only [el]
    omega
  · have := (b3 z (b4 z hz)).1
    omega
  · have hzc : ¬ z = c := fun q => b5 (by rw [← q]; exact hz)
    exact (if_neg hzc).trans (b3 z (b4 z hz)).2
  · rw [eO] at ho'
    obtain ⟨⟨c1, c2, c3, c4, c5, c6, c7, c8, c9⟩, cm⟩ := h5 o' ho'
    by_cases z : o' = o
    · subst z
      refine ⟨?_, fun m hm => ?_⟩
      · unfold kMo
        rw [el, if_pos rfl, List.map_append, List.map_append, List.map_append, List.length_append]
        refine ⟨rch, by rw [r38]; exact (kLa_app _ _).symm, r39, xch, by rw [x41]; exact (kLa_app _ _).symm, x39, ?_, ?_, ?_⟩
        · rw [List.nodup_append]
          refine ⟨c7, by simp, fun a ha b hb => ?_⟩
          have hb : b = w := by simpa using hb
          subst hb
          obtain ⟨m, hm, e⟩ := List.mem_map.mp ha
          rw [← e]; exact hno m hm
        · rw [List.nodup_append]
          refine ⟨c8, by simp, fun a ha b hb => ?_⟩
          have hb : b = mm := by simpa using hb
          subst hb
          obtain ⟨m, hm, e⟩ := List.mem_map.mp ha
          have := (cm m hm).2.2.1
          omega
        · rw [List.nodup_append]
          refine ⟨c9, by simp, fun a ha b hb => ?_⟩
          have hb : b = c := by simpa using hb
          subst hb
          obtain ⟨m, hm, e⟩ := List.mem_map.mp ha
          rw [← e]; exact cno o' ho' m hm
      · rw [el, if_pos rfl, List.mem_append] at hm
        rcases hm with hm | hm
        · obtain ⟨d1, d2, d3, d4, d5, d6, d7, d8, d9⟩ := cm m hm
          have hne := cno o' ho' m hm
          obtain ⟨j1, j2, j3, -⟩ := rj m.2.1 (by omega)
          obtain ⟨k1, k2, k3, -⟩ := cj m.2.2 d5 hne
          refine ⟨d1, d2, by rw [eM]; omega, (if_neg (show ¬ m.2.1 = mm by omega)).trans d4, by omega, (if_neg hne).trans d6, by rw [j1]; exact d7, by rw [k1]; exact d8, ?_⟩
          rw [eO, eR, j2, j3, k2, k3]
          exact d9
        · have hm : m = (w, mm, c) := by simpa using hm
          subst hm
          exact ⟨hw, hs, by rw [eM]; exact Nat.lt_succ_self _, if_pos rfl, a8, if_pos rfl, r40, x88, by rw [eO, eR]; exact hv⟩
    · refine ⟨?_, fun m hm => ?_⟩
      · unfold kMo
        rw [el, if_neg z, ro 37 o' (by omega) (by omega) z, ro 38 o' (by omega) (by omega) z, ro 39 o' (by omega) (by omega) z, xo 39 o' (by omega) (by omega) z, xo 40 o' (by omega) (by omega) z, xo 41 o' (by omega) (by omega) z]
        refine ⟨kCh_k _ _ (fun z hz => ?_) c1, c2, c3, kCh_k _ _ (fun z hz => ?_) c4, c5, c6, c7, c8, c9⟩
        · obtain ⟨m, hm, e⟩ := List.mem_map.mp hz
          rw [← e]
          exact (rj m.2.1 (by have := (cm m hm).2.2.1; omega)).2.2.2 (oth o' ho' ‹_› m hm).1
        · obtain ⟨m, hm, e⟩ := List.mem_map.mp hz
          rw [← e]
          exact (cj m.2.2 (cm m hm).2.2.2.2.1 (cno o' ho' m hm)).2.2.2 (oth o' ho' ‹_› m hm).2
      · rw [el, if_neg z] at hm
        obtain ⟨d1, d2, d3, d4, d5, d6, d7, d8, d9⟩ := cm m hm
        have hne := cno o' ho' m hm
        obtain ⟨j1, j2, j3, -⟩ := rj m.2.1 (by omega)
        obtain ⟨k1, k2, k3, -⟩ := cj m.2.2 d5 hne
        refine ⟨d1, d2, by rw [eM]; omega, (if_neg (show ¬ m.2.1 = mm by omega)).trans d4, by omega, (if_neg hne).trans d6, by rw [j1]; exact d7, by rw [k1]; exact d8, ?_⟩
        rw [eO, eR, j2, j3, k2, k3]
        exact d9
