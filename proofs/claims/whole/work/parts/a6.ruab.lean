/-! RUNNING: a member is linked to its object -/
/-- the reference links cell mm behind the list l of o -/
theorem kr_link (n : Nat) {o mm : Nat} (ho : o < 201) (hm : mm < 20100) (w : Int32) {l : List Nat} {u : zMu} (h80 : zI u 0 80 = nI mm) (c1 : kCh (fun c => zI u 42 c) (zI u 37 o) l) (c2 : zI u 38 o = kLa l) (c3 : zI u 39 o = nI l.length) (hb : ∀ z, z ∈ l → z < mm) (hd : l.Nodup) : ∃ v, rf_grows n u (nI o) w = (if zI u 36 o = -1 then some (nI mm, v) else if 8 < nI (l.length + 1) then some (nI mm, zsI (zsI v 36 o (-1)) 0 61 (zI u 0 61 + 1)) else zbd (rf_shapeOf n v (zI u 35 o) (zI u 36 o) w) fun r7 u8 => some (nI mm, zsI u8 36 o r7)) ∧ fT tgR [6] u v ∧ zI v 0 80 = nI (mm + 1) ∧ zI v 40 mm = w ∧ zI v 38 o = nI mm ∧ zI v 39 o = nI (l.length + 1) ∧ kCh (fun c => zI v 42 c) (zI v 37 o) (l ++ [mm]) ∧ (∀ a j, ¬ ((a = 0 ∧ j = 80) ∨ (a = 40 ∧ j = mm) ∨ (a = 42 ∧ (j = mm ∨ j ∈ l)) ∨ ((a = 37 ∨ a = 38 ∨ a = 39) ∧ j = o)) → zI v a j = zI u a j) ∧ (∀ a j, zL v a j = zL u a j) := by
  obtain ⟨u4, hu4⟩ : ∃ u4, zsI (zsI (zsI u 0 80 (nI (mm + 1))) 40 mm w) 42 mm (-1) = u4 := ⟨_, rfl⟩
  have i4 : ∀ a j, ¬ ((a = 0 ∧ j = 80) ∨ (a = 40 ∧ j = mm) ∨ (a = 42 ∧ j = mm)) → zI u4 a j = zI u a j := fun a j q => by subst hu4; rw [gI_sI, if_neg (by omega), gI_sI, if_neg (by omega), gI_sI, if_neg (by omega)]
  have x42 : zI u4 42 mm = -1 := by subst hu4; simp [gI_sI]
  have x40 : zI u4 40 mm = w := by subst hu4; simp [gI_sI]
  have x80 : zI u4 0 80 = nI (mm + 1) := by subst hu4; simp [gI_sI]
  have l4 : ∀ a j, zL u4 a j = zL u a j := fun a j => by subst hu4; rfl
  have F4 : fT tgR [6] u u4 := by subst hu4; exact fT_I (fT_I (fT_I (fT_rf _ _ _) _ 6 rfl (by decide)) _ 6 rfl (by decide)) _ 6 rfl (by decide)
  -- the link
  obtain ⟨u6, hu6⟩ : ∃ u6, (match l.getLast? with | none => zsI u4 37 o (nI mm) | some z => zsI u4 42 z (nI mm)) = u6 := ⟨_, rfl⟩
  have F6 : fT tgR [6] u u6 := by
    subst hu6
    cases l.getLast? with
    | none => exact fT_I F4 _ 6 rfl (by decide)
    | some z => exact fT_I F4 _ 6 rfl (by decide)
  have i6 : ∀ a j, ¬ ((a = 37 ∧ j = o) ∨ (a = 42 ∧ j ∈ l)) → zI u6 a j = zI u4 a j := fun a j q => by
    subst hu6
    cases hg : l.getLast? with
    | none => exact (gI_sI _ _ _ _ _ _).trans (if_neg (fun y => q (Or.inl y)))
    | some z => exact (gI_sI _ _ _ _ _ _).trans (if_neg (fun y => q (Or.inr ⟨y.1, by rw [y.2]; exact List.mem_of_getLast? hg⟩)))
  have l6 : ∀ a j, zL u6 a j = zL u a j := fun a j => by
    subst hu6
    cases l.getLast? with
    | none => exact l4 a j
    | some z => exact l4 a j
  have nmm : ¬ mm ∈ l := fun y => by have := hb _ y; omega
  have ch6 : kCh (fun c => zI u6 42 c) (zI u6 37 o) (l ++ [mm]) := by
    have := kCh_app (f := fun c => zI u 42 c) (g := fun c => zI u6 42 c) (c := mm) (by
      show zI u6 42 mm = -1
      rw [i6 42 mm (by intro y; rcases y with y | y; omega; exact nmm y.2)]; exact x42) l (zI u 37 o) c1 nmm hd (fun z hz y => by
      show zI u6 42 z = zI u 42 z
      have : zI u6 42 z = zI u4 42 z := by
        subst hu6
        cases hg : l.getLast? with
        | none => exact (gI_sI _ _ _ _ _ _).trans (if_neg (by omega))
        | some z' => exact (gI_sI _ _ _ _ _ _).trans (if_neg (fun q => y (by rw [hg, q.2])))
      rw [this, i4 42 z (by have := hb z hz; omega)]) (fun z hz => by
      show zI u6 42 z = nI mm
      subst hu6
      rw [hz]
      exact (gI_sI _ _ _ _ _ _).trans (if_pos ⟨rfl, rfl⟩))
    have e37 : zI u6 37 o = if l = [] then nI mm else zI u 37 o := by
      subst hu6
      cases l with
      | nil => exact (gI_sI _ _ _ _ _ _).trans (if_pos ⟨rfl, rfl⟩)
      | cons a l =>
        rw [if_neg (by simp)]
        cases hg : (a :: l).getLast? with
        | none => exact absurd (List.getLast?_eq_none_iff.mp hg) (by simp)
        | some z => exact (gI_sI _ _ _ _ _ _).trans ((if_neg (by omega)).trans (i4 37 o (by omega)))
    rw [e37]
    exact this
  obtain ⟨v, hv⟩ : ∃ v, zsI (zsI u6 38 o (nI mm)) 39 o (nI (l.length + 1)) = v := ⟨_, rfl⟩
  have iv : ∀ a j, ¬ ((a = 38 ∨ a = 39) ∧ j = o) → zI v a j = zI u6 a j := fun a j q => by subst hv; rw [gI_sI, if_neg (by omega), gI_sI, if_neg (by omega)]
  have o39 : zI u6 39 o = nI l.length := by rw [i6 39 o (by omega), i4 39 o (by omega)]; exact c3
  refine ⟨v, ?_, ?_, ?_, ?_, ?_, ?_, ?_, fun a j q => ?_, fun a j => ?_⟩
  · have eJ : rf_grows_J58 n u6 (nI o) w (nI mm) = (if zI u 36 o = -1 then some (nI mm, v) else if 8 < nI (l.length + 1) then some (nI mm, zsI (zsI v 36 o (-1)) 0 61 (zI u 0 61 + 1)) else zbd (rf_shapeOf n v (zI u 35 o) (zI u 36 o) w) fun r7 u8 => some (nI mm, zsI u8 36 o r7)) := by
      unfold rf_grows_J58
      rw [zin_nI ho (by decide), zgd_t, zx_nI (show o < 2 ^ 31 by omega)]
      simp only [zlet]
      rw [show zI (zsI u6 38 o (nI mm)) 39 o = nI l.length from by rw [gI_sI, if_neg (by omega)]; exact o39, nI_1, hv]
      simp only [zgd_t]
      have j36 : zI v 36 o = zI u 36 o := by rw [iv 36 o (by omega), i6 36 o (by omega), i4 36 o (by omega)]
      have j35 : zI v 35 o = zI u 35 o := by rw [iv 35 o (by omega), i6 35 o (by omega), i4 35 o (by omega)]
      have j39 : zI v 39 o = nI (l.length + 1) := by subst hv; rw [gI_sI, if_pos ⟨rfl, rfl⟩]
      have j61 : zI (zsI v 36 o (-1)) 0 61 = zI u 0 61 := by rw [gI_sI, if_neg (by omega), iv 0 61 (by omega), i6 0 61 (by omega), i4 0 61 (by omega)]
      rw [j36, j35, j39, j61]
    rw [← eJ]
    unfold rf_grows
    rw [h80]
    simp only [zlet]
    rw [nI_1, zin_nI hm (by decide), zx_nI (show mm < 2 ^ 31 by omega)]
    simp only [zgd_t]
    rw [hu4, zin_nI ho (by decide), zx_nI (show o < 2 ^ 31 by omega)]
    simp only [zgd_t]
    have j38 : zI u4 38 o = kLa l := by rw [i4 38 o (by omega)]; exact c2
    rw [j38]
    subst hu6
    cases hg : l.getLast? with
    | none =>
      have : kLa l = -1 := by unfold kLa; rw [hg]
      rw [if_pos this]
    | some z =>
      have e : kLa l = nI z := by unfold kLa; rw [hg]
      have hz := hb z (List.mem_of_getLast? hg)
      rw [e, if_neg (nI_m1 (by omega)), zin_nI (show z < 20100 by omega) (by decide), zgd_t, zx_nI (show z < 2 ^ 31 by omega)]
  · subst hv; exact fT_I (fT_I F6 _ 6 rfl (by decide)) _ 6 rfl (by decide)
  · rw [iv 0 80 (by omega), i6 0 80 (by omega)]; exact x80
  · rw [iv 40 mm (by omega), i6 40 mm (by omega)]; exact x40
  · subst hv; rw [gI_sI, if_neg (by omega), gI_sI, if_pos ⟨rfl, rfl⟩]
  · subst hv; rw [gI_sI, if_pos ⟨rfl, rfl⟩]
  · rw [iv 37 o (by omega), show (fun c => zI v 42 c) = fun c => zI u6 42 c from funext fun c => iv 42 c (by omega)]
    exact ch6
  · rw [iv a j (fun y => q (Or.inr (Or.inr (Or.inr ⟨by omega, y.2⟩)))), i6 a j (fun y => q (by
      rcases y with y | y
      · exact Or.inr (Or.inr (Or.inr ⟨Or.inl y.1, y.2⟩))
      · exact Or.inr (Or.inr (Or.inl ⟨y.1, Or.inr y.2⟩)))), i4 a j (fun y => q (by
      rcases y with y | y | y
      · exact Or.inl y
      · exact Or.inr (Or.inl y)
      · exact Or.inr (Or.inr (Or.inl ⟨y.1, Or.inl y.2⟩))))]
  · have : zL v a j = zL u6 a j := by subst hv; rfl
    rw [this, l6]
/-- the class takes a cell -/
theorem k_fresh (n : Nat) {U : Nat} {fr : List Nat} {u : zMu} (hd : zdy u = true) (a1 : zI u 36 12 = nI U) (a3 : U ≤ zN u 88) (a4 : zN u 89 = zN u 88) (a5 : 1 ≤ zN u 88) (a6 : zN u 88 ≤ 32000) (b1 : kCh (fun c => zI u 89 c) (zI u 36 13) fr) (b2 : fr.Nodup) (b3 : ∀ c, c ∈ fr → c < U) (hU : U ≤ 16000) (hf : fr = [] → U < 16000) : ∃ c U' fr' w, ce_H_freshCell n u = some (nI c, w) ∧ fT tgC [6] u w ∧ (∀ a j, ¬ (a = 36 ∧ (j = 12 ∨ j = 13)) → (¬ a = 89 ∨ j < U) → zI w a j = zI u a j) ∧ (∀ a j, ¬ a = 88 ∨ j < U → zL w a j = zL u a j) ∧ (∀ a, ¬ a = 88 → ¬ a = 89 → zN w a = zN u a) ∧ zI w 36 12 = nI U' ∧ U' ≤ 16000 ∧ U' ≤ zN w 88 ∧ zN w 89 = zN w 88 ∧ 1 ≤ zN w 88 ∧ zN w 88 ≤ 32000 ∧ U ≤ U' ∧ c < U' ∧ kCh (fun c => zI u 89 c) (zI w 36 13) fr' ∧ fr'.Nodup ∧ (∀ z, z ∈ fr' → z ∈ fr) ∧ ¬ c ∈ fr' ∧ (c ∈ fr ∨ c = U) ∧ U' + fr.length = U + fr'.length + 1 := by
  cases fr with
  | cons f0 fr' =>
    obtain ⟨e1, e2⟩ : zI u 36 13 = nI f0 ∧ kCh (fun c => zI u 89 c) (zI u 89 f0) fr' := b1
    have f0U := b3 f0 (by simp)
    rw [List.nodup_cons] at b2
    refine ⟨f0, U, fr', zsI u 36 13 (zI u 89 f0), ?_, fT_I (fT_rf _ _ _) _ 6 rfl (by decide), fun a j q _ => by rw [gI_sI, if_neg (by omega)], fun _ _ _ => rfl, fun _ _ _ => rfl, by rw [gI_sI, if_neg (by omega)]; exact a1, hU, a3, a4, a5, a6, Nat.le_refl _, f0U, by rw [gI_sI, if_pos ⟨rfl, rfl⟩]; exact e2, b2.2, fun z hz => by simp [hz], b2.1, Or.inl (by simp), by simp; omega⟩
    unfold ce_H_freshCell
    rw [e1, if_neg (nI_m1 (by omega))]
    simp only [zlet]
    rw [zin_nI (show f0 < zN u 89 by omega) (by omega), zgd_t, zx_nI (show f0 < 2 ^ 31 by omega)]
  | nil =>
    have e1 : zI u 36 13 = -1 := b1
    have hU2 := hf rfl
    by_cases z : U < zN u 88
    · refine ⟨U, U + 1, [], zsI u 36 12 (nI (U + 1)), ?_, fT_I (fT_rf _ _ _) _ 6 rfl (by decide), fun a j q _ => by rw [gI_sI, if_neg (by omega)], fun _ _ _ => rfl, fun _ _ _ => rfl, rfl, by omega, by show U + 1 ≤ zN u 88; omega, a4, a5, a6, by omega, by omega, by rw [gI_sI, if_neg (by omega)]; exact e1, List.nodup_nil, fun z hz => absurd hz (by simp), by simp, Or.inr rfl, by simp⟩
      unfold ce_H_freshCell
      rw [e1, if_pos rfl, a1, if_pos (show nI U < Int32.ofNat (zN u 88) from nI_lt z (by omega))]
      simp only [zlet]
      rw [nI_1]
    · have eU : zN u 88 = U := by omega
      have g1 : zgokL u 88 (nI (2 * U)) = true := gok_t (L := U) eU (by omega) (by omega) hd
      have n1 : zN (zgrL u 88 (2 * U)) 89 = U := by show (if 89 = 88 then 2 * U else zN u 89) = U; rw [if_neg (by decide)]; omega
      have g2 : zgokI (zgrL u 88 (2 * U)) 89 (nI (2 * U)) = true := gok_t n1 (by omega) (by omega) hd
      obtain ⟨w, hw⟩ : ∃ w, zsI (zgrI (zgrL u 88 (2 * U)) 89 (2 * U)) 36 12 (nI (U + 1)) = w := ⟨_, rfl⟩
      have nw : ∀ a, zN w a = if a = 89 then 2 * U else if a = 88 then 2 * U else zN u a := fun a => by subst hw; rfl
      have iw : ∀ a j, ¬ (a = 36 ∧ j = 12) → (¬ a = 89 ∨ j < U) → zI w a j = zI u a j := fun a j q1 q2 => by
        subst hw
        rw [gI_sI, if_neg q1]
        show (if a = 89 then (if j < zN (zgrL u 88 (2 * U)) 89 then zI u 89 j else 0) else zI u a j) = zI u a j
        by_cases y : a = 89
        · rw [if_pos y, n1, if_pos (by omega), y]
        · rw [if_neg y]
      have lw : ∀ a j, ¬ a = 88 ∨ j < U → zL w a j = zL u a j := fun a j q => by
        subst hw
        show (if a = 88 then (if j < zN u 88 then zL u 88 j else 0) else zL u a j) = zL u a j
        by_cases y : a = 88
        · rw [if_pos y, eU, if_pos (by omega), y]
        · rw [if_neg y]
      refine ⟨U, U + 1, [], w, ?_, ?_, fun a j q1 q2 => iw a j (by omega) q2, lw, fun a q1 q2 => by rw [nw, if_neg q2, if_neg q1], by subst hw; rfl, by omega, by rw [nw, if_neg (by decide), if_pos rfl]; omega, by rw [nw, nw, if_pos rfl, if_neg (by decide), if_pos rfl], by rw [nw, if_neg (by decide), if_pos rfl]; omega, by rw [nw, if_neg (by decide), if_pos rfl]; omega, by omega, by omega, by rw [iw 36 13 (by omega) (by omega)]; exact e1, List.nodup_nil, fun z hz => absurd hz (by simp), by simp, Or.inr rfl, by simp⟩
      · unfold ce_H_freshCell
        rw [e1, if_pos rfl, a1, if_neg (show ¬ nI U < Int32.ofNat (zN u 88) from nI_nlt (by omega) (by omega)), show (2 : Int32) * nI U = nI (2 * U) from pk_mul 2 U, g1, zgd_t, zx_nI (show 2 * U < 2 ^ 31 by omega)]
        simp only [zlet]
        have i12 : zI (zgrL u 88 (2 * U)) 36 12 = nI U := a1
        rw [i12, show (2 : Int32) * nI U = nI (2 * U) from pk_mul 2 U, g2, zgd_t, zx_nI (show 2 * U < 2 ^ 31 by omega)]
        have i12' : zI (zgrI (zgrL u 88 (2 * U)) 89 (2 * U)) 36 12 = nI U := a1
        rw [i12', nI_1, hw]
      · refine ⟨fun a j q => iw a j (fun y => q (by rw [y.1, y.2]; decide)) (Or.inl (fun y => q (by rw [y]; show (6 : Nat) ∈ [6]; decide))), fun a j q => lw a j (Or.inl (fun y => q (by rw [y]; decide))), by subst hw; rfl, fun a q => by rw [nw, if_neg (fun y => q (by rw [y]; decide)), if_neg (fun y => q (by rw [y]; decide))], ?_, ?_, vKp_s (fun a j q => iw a j (by omega) (Or.inl (by omega))) (fun a q => by rw [nw, if_neg (by omega), if_neg (by omega)])⟩
        · unfold pA
          simp only [nw]
          have : (zc w).1 = (zc u).1 + 2 := by subst hw; rfl
          simp
          omega
        · unfold pB
          simp only [nw]
          have : (zc w).2 = (zc u).2 + 2 * U + 2 * U := by subst hw; rfl
          simp
          omega
