/-! RUNNING: a member is struck, the class -/
theorem kc_strL (n : Nat) {o sz U : Nat} (ho : o < 200) (x : Int64) {u : zMu} (hs : zI u 39 o = nI sz) (hsz : sz < 2 ^ 31) (hU : U ≤ zN u 88) (h89 : zN u 89 = zN u 88) (hN : zN u 88 < 2 ^ 31) {m : Nat × Nat × Nat} {post : List (Nat × Nat × Nat)} (hm : zL u 88 m.2.2 = x) : ∀ (pre : List (Nat × Nat × Nat)) (k : Nat) (h p : Int32) (j : Nat), pre.length < k → j + (pre ++ m :: post).length = sz → kCh (fun c => zI u 89 c) h ((pre ++ m :: post).map fun m => m.2.2) → (∀ q, q ∈ pre ++ m :: post → q.2.2 < U) → (∀ q, q ∈ pre → ¬ zL u 88 q.2.2 = x) → ce_H_strike_L23 n k u (nI o) x p h (nI j) = ce_H_strike_J71 n u (nI o) (if pre = [] then p else kLa (pre.map fun m => m.2.2)) (nI m.2.2) := by
  intro pre
  induction pre with
  | nil =>
    intro k h p j hk hj hc hb hp
    obtain ⟨k, rfl⟩ : ∃ q, k = q + 1 := ⟨k - 1, by simp at hk; omega⟩
    simp only [List.nil_append, List.length_cons] at hj
    have h1 : h = nI m.2.2 := hc.1
    have a1 := hb m (by simp)
    subst h1
    rw [ce_H_strike_L23, zin_nI ho (by decide), zgd_t, zx_nI (show o < 2 ^ 31 by omega), hs, if_pos (nI_lt (by omega) (by omega)), if_neg (nI_m1 (by omega)), zin_nI (show m.2.2 < zN u 88 by omega) hN, zgd_t, zx_nI (show m.2.2 < 2 ^ 31 by omega), if_pos ((lgc_eq _ _).mpr hm), if_pos rfl]
  | cons a pre ih =>
    intro k h p j hk hj hc hb hp
    simp only [List.length_cons, List.cons_append] at hk hj
    obtain ⟨k, rfl⟩ : ∃ q, k = q + 1 := ⟨k - 1, by omega⟩
    obtain ⟨h1, h2⟩ : h = nI a.2.2 ∧ kCh (fun c => zI u 89 c) (zI u 89 a.2.2) ((pre ++ m :: post).map fun m : Nat × Nat × Nat => m.2.2) := hc
    have a1 := hb a (by simp)
    have na := hp a (by simp)
    subst h1
    have e : ce_H_strike_L23 n (k + 1) u (nI o) x p (nI a.2.2) (nI j) = ce_H_strike_L23 n k u (nI o) x (nI a.2.2) (zI u 89 a.2.2) (nI (j + 1)) := by
      rw [ce_H_strike_L23, zin_nI ho (by decide), zgd_t, zx_nI (show o < 2 ^ 31 by omega), hs, if_pos (nI_lt (by omega) (by omega)), if_neg (nI_m1 (by omega)), zin_nI (show a.2.2 < zN u 88 by omega) hN, zgd_t, zx_nI (show a.2.2 < 2 ^ 31 by omega), if_neg (fun q => na ((lgc_eq _ _).mp q)), h89, zin_nI (show a.2.2 < zN u 88 by omega) hN, zgd_t, nI_1]
      rfl
    rw [e, ih k (zI u 89 a.2.2) (nI a.2.2) (j + 1) (by omega) (by omega) h2 (fun q hq => hb q (by simp at hq ⊢; exact Or.inr hq)) (fun q hq => hp q (by simp [hq])), if_neg (show ¬ a :: pre = [] by simp)]
    cases pre with
    | nil => rfl
    | cons b pre =>
      rw [if_neg (by simp)]
      unfold kLa
      rw [List.map_cons, List.map_cons, List.map_cons, List.getLast?_cons_cons]
/-- the class strikes m = pre ++ m :: post of o -/
theorem kc_strike (n : Nat) (hn : 20000 ≤ n) {o U O : Nat} (ho : o < O) (hO : O ≤ 200) {u : zMu} (i7 : zI u 36 7 = nI O) {pre post : List (Nat × Nat × Nat)} {m : Nat × Nat × Nat} (hl : (pre ++ m :: post).length ≤ 16000) (x : Int64) (hm : zL u 88 m.2.2 = x) (hp : ∀ q, q ∈ pre → ¬ zL u 88 q.2.2 = x) (hU : U ≤ zN u 88) (h89 : zN u 89 = zN u 88) (hN : zN u 88 < 2 ^ 31) (c4 : kCh (fun c => zI u 89 c) (zI u 40 o) ((pre ++ m :: post).map fun m => m.2.2)) (c5 : zI u 41 o = kLa ((pre ++ m :: post).map fun m => m.2.2)) (c6 : zI u 39 o = nI (pre ++ m :: post).length) (hb : ∀ q, q ∈ pre ++ m :: post → q.2.2 < U) (hd : ((pre ++ m :: post).map fun m => m.2.2).Nodup) : ∃ v, ce_H_strike n u (nI o) x = some ((), if zI u 37 o = -1 then zsI v 37 o (-1) else zsI (zsI v 36 8 (zI u 36 8 + 1)) 37 o (-1)) ∧ fT tgC [6] u v ∧ kCh (fun c => zI v 89 c) (zI v 40 o) ((pre ++ post).map fun m => m.2.2) ∧ zI v 41 o = kLa ((pre ++ post).map fun m => m.2.2) ∧ zI v 39 o = nI (pre ++ post).length ∧ zI v 36 13 = nI m.2.2 ∧ zI v 89 m.2.2 = zI u 36 13 ∧ (∀ a j, ¬ ((a = 89 ∧ (j = m.2.2 ∨ j ∈ (pre.map fun m => m.2.2))) ∨ ((a = 39 ∨ a = 40 ∨ a = 41) ∧ j = o) ∨ (a = 36 ∧ j = 13)) → zI v a j = zI u a j) ∧ (∀ a j, zL v a j = zL u a j) ∧ (∀ a, zN v a = zN u a) := by
  have mU := hb m (by simp)
  have e0 : ce_H_strike n u (nI o) x = ce_H_strike_J71 n u (nI o) (kLa (pre.map fun m => m.2.2)) (nI m.2.2) := by
    have x4 : (if pre = [] then (-1 : Int32) else kLa (pre.map fun m => m.2.2)) = kLa (pre.map fun m => m.2.2) := by
      cases pre with
      | nil => rfl
      | cons a pre => rw [if_neg (by simp)]
    have := kc_strL n (o := o) (by omega) x c6 (by omega) hU h89 hN hm pre n (zI u 40 o) (-1) 0 (by simp at hl; omega) (by omega) c4 hb hp
    rw [x4] at this
    unfold ce_H_strike
    rw [zbd_e (c_isObj n i7 (by omega) ho), if_neg (by decide), zin_nI (show o < 200 by omega) (by decide), zgd_t, zx_nI (show o < 2 ^ 31 by omega)]
    exact this
  simp only [List.map_append, List.map_cons] at c4 c5 hd
  have nd := List.nodup_append.mp hd
  have nd2 := List.nodup_cons.mp nd.2.1
  have npre : ¬ m.2.2 ∈ (pre.map fun m => m.2.2) := fun y => nd.2.2 _ y m.2.2 (by simp) rfl
  obtain ⟨u4, hu4⟩ : ∃ u4, (match (pre.map fun m => m.2.2).getLast? with | none => zsI u 40 o (zI u 89 m.2.2) | some z => zsI u 89 z (zI u 89 m.2.2)) = u4 := ⟨_, rfl⟩
  have F4 : fT tgC [6] u u4 := by
    subst hu4
    cases (pre.map fun m => m.2.2).getLast? with
    | none => exact fT_I (fT_rf _ _ _) _ 6 rfl (by decide)
    | some z => exact fT_I (fT_rf _ _ _) _ 6 rfl (by decide)
  have i4 : ∀ a j, ¬ ((a = 40 ∧ j = o) ∨ (a = 89 ∧ j ∈ (pre.map fun m => m.2.2))) → zI u4 a j = zI u a j := fun a j q => by
    subst hu4
    cases hg : (pre.map fun m => m.2.2).getLast? with
    | none => exact (gI_sI _ _ _ _ _ _).trans (if_neg (fun y => q (Or.inl y)))
    | some z => exact (gI_sI _ _ _ _ _ _).trans (if_neg (fun y => q (Or.inr ⟨y.1, by rw [y.2]; exact List.mem_of_getLast? hg⟩)))
  have l4 : ∀ a j, zL u4 a j = zL u a j := fun a j => by
    subst hu4
    cases (pre.map fun m => m.2.2).getLast? with
    | none => rfl
    | some z => rfl
  have n4 : ∀ a, zN u4 a = zN u a := fun a => by
    subst hu4
    cases (pre.map fun m => m.2.2).getLast? with
    | none => rfl
    | some z => rfl
  have ch4 : kCh (fun c => zI u4 89 c) (zI u4 40 o) ((pre.map fun m => m.2.2) ++ (post.map fun m => m.2.2)) := by
    have := kCh_rm (f := fun c => zI u 89 c) (g := fun c => zI u4 89 c) (c := m.2.2) (post := post.map fun m => m.2.2) (fun z hz => i4 89 z (fun y => by
      rcases y with y | y
      · omega
      · exact nd.2.2 z y.2 z (List.mem_cons_of_mem _ hz) rfl)) (pre.map fun m => m.2.2) (zI u 40 o) c4 (fun z hz y => by
      show zI u4 89 z = zI u 89 z
      subst hu4
      cases hg : (pre.map fun m => m.2.2).getLast? with
      | none => exact (gI_sI _ _ _ _ _ _).trans (if_neg (by omega))
      | some z' => exact (gI_sI _ _ _ _ _ _).trans (if_neg (fun q => y (by rw [hg, q.2])))) (fun z hz => by
      show zI u4 89 z = zI u 89 m.2.2
      subst hu4
      rw [hz]
      exact (gI_sI _ _ _ _ _ _).trans (if_pos ⟨rfl, rfl⟩)) nd.1
    have e40 : zI u4 40 o = if (pre.map fun m => m.2.2) = [] then zI u 89 m.2.2 else zI u 40 o := by
      subst hu4
      cases hg : (pre.map fun m => m.2.2).getLast? with
      | none =>
        rw [if_pos (List.getLast?_eq_none_iff.mp hg)]
        exact (gI_sI _ _ _ _ _ _).trans (if_pos ⟨rfl, rfl⟩)
      | some z =>
        rw [if_neg (fun y => by rw [y] at hg; exact absurd hg (by simp))]
        exact (gI_sI _ _ _ _ _ _).trans (if_neg (by omega))
    rw [e40]
    exact this
  obtain ⟨u5, hu5⟩ : ∃ u5, (if zI u4 41 o = nI m.2.2 then zsI u4 41 o (kLa (pre.map fun m => m.2.2)) else u4) = u5 := ⟨_, rfl⟩
  have i5 : ∀ a j, ¬ (a = 41 ∧ j = o) → zI u5 a j = zI u4 a j := fun a j q => by
    subst hu5
    by_cases y : zI u4 41 o = nI m.2.2
    · rw [if_pos y, gI_sI, if_neg q]
    · rw [if_neg y]
  have F5 : fT tgC [6] u u5 := by
    subst hu5
    by_cases y : zI u4 41 o = nI m.2.2
    · rw [if_pos y]; exact fT_I F4 _ 6 rfl (by decide)
    · rw [if_neg y]; exact F4
  have l5 : ∀ a j, zL u5 a j = zL u a j := fun a j => by
    subst hu5
    by_cases y : zI u4 41 o = nI m.2.2
    · rw [if_pos y]; exact l4 a j
    · rw [if_neg y]; exact l4 a j
  have n5 : ∀ a, zN u5 a = zN u a := fun a => by
    subst hu5
    by_cases y : zI u4 41 o = nI m.2.2
    · rw [if_pos y]; exact n4 a
    · rw [if_neg y]; exact n4 a
  have x41 : zI u5 41 o = kLa ((pre.map fun m => m.2.2) ++ (post.map fun m => m.2.2)) := by
    have e4 : zI u4 41 o = kLa ((pre.map fun m => m.2.2) ++ m.2.2 :: (post.map fun m => m.2.2)) := by rw [i4 41 o (by omega)]; exact c5
    rw [← kLa_rm (c := m.2.2) (by omega) nd2.1 (fun z hz => by
      obtain ⟨q, hq', e⟩ := List.mem_map.mp hz
      have := hb q (by simp [hq'])
      omega)]
    subst hu5
    rw [e4]
    by_cases y : kLa ((pre.map fun m => m.2.2) ++ m.2.2 :: (post.map fun m => m.2.2)) = nI m.2.2
    · rw [if_pos y, if_pos y, gI_sI, if_pos ⟨rfl, rfl⟩]
    · rw [if_neg y, if_neg y]; exact e4
  obtain ⟨v, hv⟩ : ∃ v, zsI (zsI (zsI u5 89 m.2.2 (zI u 36 13)) 36 13 (nI m.2.2)) 39 o (nI (pre ++ post).length) = v := ⟨_, rfl⟩
  have iv : ∀ a j, ¬ ((a = 89 ∧ j = m.2.2) ∨ (a = 36 ∧ j = 13) ∨ (a = 39 ∧ j = o)) → zI v a j = zI u5 a j := fun a j q => by subst hv; rw [gI_sI, if_neg (by omega), gI_sI, if_neg (by omega), gI_sI, if_neg (by omega)]
  have e39 : zI u5 39 o - 1 = nI (pre ++ post).length := by
    rw [i5 39 o (by omega), i4 39 o (by omega), c6]
    rw [show (pre ++ m :: post).length = (pre ++ post).length + 1 from by simp; omega, nI_pred]
  refine ⟨v, ?_, ?_, ?_, ?_, ?_, ?_, ?_, fun a j q => ?_, fun a j => ?_, fun a => ?_⟩
  · rw [e0]
    have e133 : ce_H_strike_J133 n u5 (nI o) (nI m.2.2) = some ((), if zI u 37 o = -1 then zsI v 37 o (-1) else zsI (zsI v 36 8 (zI u 36 8 + 1)) 37 o (-1)) := by
      unfold ce_H_strike_J133
      rw [n5 89, h89, zin_nI (show m.2.2 < zN u 88 by omega) hN, zgd_t, zx_nI (show m.2.2 < 2 ^ 31 by omega), i5 36 13 (by omega), i4 36 13 (by omega)]
      simp only [zlet]
      rw [zin_nI (show o < 200 by omega) (by decide), zgd_t, zgd_t, zx_nI (show o < 2 ^ 31 by omega), show zI (zsI (zsI u5 89 m.2.2 (zI u 36 13)) 36 13 (nI m.2.2)) 39 o = zI u5 39 o from by rw [gI_sI, if_neg (by omega), gI_sI, if_neg (by omega)], e39, hv]
      have j37 : zI v 37 o = zI u 37 o := by rw [iv 37 o (by omega), i5 37 o (by omega), i4 37 o (by omega)]
      have j8 : zI v 36 8 = zI u 36 8 := by rw [iv 36 8 (by omega), i5 36 8 (by omega), i4 36 8 (by omega)]
      have el : ce_H_loseShape n v (nI o) = some ((), if zI u 37 o = -1 then zsI v 37 o (-1) else zsI (zsI v 36 8 (zI u 36 8 + 1)) 37 o (-1)) := by
        unfold ce_H_loseShape
        rw [zin_nI (show o < 200 by omega) (by decide), zgd_t, zx_nI (show o < 2 ^ 31 by omega), j37, j8]
        by_cases y : zI u 37 o = -1
        · rw [if_pos y, if_pos y, zgd_t]; rfl
        · rw [if_neg y, if_neg y]; rfl
      rw [zbd_e el]
    have e114 : ce_H_strike_J114 n u4 (nI o) (kLa (pre.map fun m => m.2.2)) (nI m.2.2) = ce_H_strike_J133 n u5 (nI o) (nI m.2.2) := by
      unfold ce_H_strike_J114
      rw [zin_nI (show o < 200 by omega) (by decide), zgd_t, zx_nI (show o < 2 ^ 31 by omega)]
      subst hu5
      by_cases y : zI u4 41 o = nI m.2.2
      · rw [if_pos y, if_pos y, zgd_t]; rfl
      · rw [if_neg y, if_neg y]
    rw [← e133, ← e114]
    unfold ce_H_strike_J71
    rw [if_neg (nI_m1 (by omega)), h89, zin_nI (show m.2.2 < zN u 88 by omega) hN, zgd_t, zx_nI (show m.2.2 < 2 ^ 31 by omega)]
    subst hu4
    cases hg : (pre.map fun m => m.2.2).getLast? with
    | none =>
      have : kLa (pre.map fun m => m.2.2) = -1 := by unfold kLa; rw [hg]
      rw [this, if_pos rfl, zin_nI (show o < 200 by omega) (by decide), zgd_t, zx_nI (show o < 2 ^ 31 by omega)]
      rfl
    | some z =>
      have e : kLa (pre.map fun m => m.2.2) = nI z := by unfold kLa; rw [hg]
      have hz : z < U := by
        obtain ⟨q, hq', e'⟩ := List.mem_map.mp (List.mem_of_getLast? hg)
        rw [← e']; exact hb q (by simp [hq'])
      rw [e, if_neg (nI_m1 (by omega)), zin_nI (show z < zN u 88 by omega) hN, zgd_t, zx_nI (show z < 2 ^ 31 by omega)]
      rfl
  · subst hv; exact fT_I (fT_I (fT_I F5 _ 6 rfl (by decide)) _ 6 rfl (by decide)) _ 6 rfl (by decide)
  · rw [List.map_append, iv 40 o (by omega), i5 40 o (by omega)]
    refine kCh_k _ _ (fun z hz => ?_) ch4
    rw [iv 89 z (fun y => by
      rcases y with y | y | y
      · rw [y.2] at hz
        rcases List.mem_append.mp hz with q | q
        · exact npre q
        · exact nd2.1 q
      · omega
      · omega), i5 89 z (by omega)]
  · rw [List.map_append, iv 41 o (by omega)]; exact x41
  · subst hv; rw [gI_sI, if_pos ⟨rfl, rfl⟩]
  · subst hv; rw [gI_sI, if_neg (by omega), gI_sI, if_pos ⟨rfl, rfl⟩]
  · subst hv; rw [gI_sI, if_neg (by omega), gI_sI, if_neg (by omega), gI_sI, if_pos ⟨rfl, rfl⟩]
  · rw [iv a j (fun y => q (by
      rcases y with y | y | y
      · exact Or.inl ⟨y.1, Or.inl y.2⟩
      · exact Or.inr (Or.inr y)
      · exact Or.inr (Or.inl ⟨by omega, y.2⟩))), i5 a j (fun y => q (Or.inr (Or.inl ⟨by omega, y.2⟩))), i4 a j (fun y => q (by
      rcases y with y | y
      · exact Or.inr (Or.inl ⟨by omega, y.2⟩)
      · exact Or.inl ⟨y.1, Or.inr y.2⟩))]
  · have : zL v a j = zL u5 a j := by subst hv; rfl
    rw [this, l5]
  · have : zN v a = zN u5 a := by subst hv; rfl
    rw [this, n5]
/-- other members of o -/
def wSL (W : kW) (o : Nat) (l : List (Nat × Nat × Nat)) : kW := (W.1, wp W, W.2.2.1, fun o' => if o' = o then l else wl W o', wf W)
theorem wSL_l (W : kW) (o : Nat) (l : List (Nat × Nat × Nat)) (o' : Nat) : wl (wSL W o l) o' = if o' = o then l else wl W o' := rfl
theorem wSL_le (W : kW) (o : Nat) (l : List (Nat × Nat × Nat)) : wLe W (wSL W o l) := ⟨Nat.le_refl _, Nat.le_refl _, Nat.le_refl _, fun _ _ => rfl, fun _ _ => ⟨rfl, rfl, rfl⟩⟩
/-- the members behind a strike -/
theorem k_strM {X : pCx} {ub : zMu} {W : kW} {ur uc vr vc : zMu} {o : Nat} {pre post : List (Nat × Nat × Nat)} {m : Nat × Nat × Nat} (hM : kMb X ub W ur uc) (ho : o < wO W) (el : wl W o = pre ++ m :: post)
    (rch : kCh (fun c => zI vr 42 c) (zI vr 37 o) ((pre ++ post).map fun m => m.2.1)) (r38 : zI vr 38 o = kLa ((pre ++ post).map fun m => m.2.1)) (r39 : zI vr 39 o = nI (pre ++ post).length) (ri : ∀ a j, tgR a j = 6 → ¬ ((a = 42 ∧ j ∈ (pre.map fun m => m.2.1)) ∨ ((a = 37 ∨ a = 38 ∨ a = 39) ∧ j = o)) → zI vr a j = zI ur a j) (rl : ∀ j, zL vr 43 j = zL ur 43 j)
    (xch : kCh (fun c => zI vc 89 c) (zI vc 40 o) ((pre ++ post).map fun m => m.2.2)) (x41 : zI vc 41 o = kLa ((pre ++ post).map fun m => m.2.2)) (x39 : zI vc 39 o = nI (pre ++ post).length) (x13 : zI vc 36 13 = nI m.2.2) (x89 : zI vc 89 m.2.2 = zI uc 36 13) (xi : ∀ a j, tgC a j = 6 → ¬ ((a = 89 ∧ (j = m.2.2 ∨ j ∈ (pre.map fun m => m.2.2))) ∨ ((a = 39 ∨ a = 40 ∨ a = 41) ∧ j = o) ∨ (a = 36 ∧ j = 13)) → zI vc a j = zI uc a j) (xl : ∀ a j, tgC a 0 = 6 → zL vc a j = zL uc a j) (xn : ∀ a, tgC a 0 = 6 → zN vc a = zN uc a) : kMb X ub (wSL W o (pre ++ post)) vr vc := by
  obtain ⟨h1, h2, U, fr, ov, ow, ⟨a1, a2, a3, a4, a5, a6, a7, a8⟩, ⟨b1, b2, b3⟩, h5⟩ := hM
  obtain ⟨⟨c1, c2, c3, c4, c5, c6, c7, c8, c9⟩, cm⟩ := h5 o ho
  rw [el] at c7 c8 c9 cm
  obtain ⟨m1, m2, m3, m4, m5, m6, m7, m8, m9⟩ := cm m (by simp)
  have n88 : zN vc 88 = zN uc 88 := xn 88 rfl
  have n89 : zN vc 89 = zN uc 89 := xn 89 rfl
  have n67 : zN vc 67 = zN uc 67 := xn 67 rfl
  have n68 : zN vc 68 = zN uc 68 := xn 68 rfl
  have i67 : ∀ j, zI vc 67 j = zI uc 67 j := fun j => xi 67 j rfl (by omega)
  have l68 : ∀ j, zL vc 68 j = zL uc 68 j := fun j => xl 68 j rfl
  have vw : pVw 66 16000 vc := pVw_keep a7 (xi 66 0 rfl (by omega)) i67 n67 n68
  have sS : ∀ j, vS 66 vc j = vS 66 uc j := vS_keep i67 n67
  have sX : ∀ j, vX 66 vc j = vX 66 uc j := vX_keep l68 n67
  have eL : ∀ o', wl (wSL W o (pre ++ post)) o' = if o' = o then pre ++ post else wl W o' := fun o' => wSL_l _ _ _ _
  -- a cell of another member is not m's
  have om : ∀ o', o' < wO W → ∀ q, q ∈ wl W o' → (¬ o' = o ∨ (q ∈ pre ∨ q ∈ post)) → ¬ q.2.2 = m.2.2 := fun o' ho' q hq hor y => by
    have g6 := ((h5 o' ho').2 q hq).2.2.2.2.2.1
    rw [y, m6] at g6
    have eo : o' = o := by omega
    rcases hor with z | z
    · exact z eo
    · simp only [List.map_append, List.map_cons] at c9
      have nd := List.nodup_append.mp c9
      have nd2 := List.nodup_cons.mp nd.2.1
      rcases z with z | z
      · exact nd.2.2 q.2.2 (List.mem_map_of_mem (f := fun m : Nat × Nat × Nat => m.2.2) z) m.2.2 (by simp) y
      · exact nd2.1 (by rw [← y]; exact List.mem_map_of_mem (f := fun m : Nat × Nat × Nat => m.2.2) z)
  have frm : ¬ m.2.2 ∈ fr := fun y => by have := (b3 _ y).2; omega
  refine ⟨(ri 0 80 rfl (by omega)).trans h1, h2, U, m.2.2 :: fr, ov, (fun z => if z = m.2.2 then 0 else ow z), ⟨(xi 36 12 rfl (by omega)).trans a1, a2, by omega, by omega, by omega, by omega, vw, ?_⟩, ⟨⟨x13, ?_⟩, ?_, fun c hc => ?_⟩, fun o' ho' => ?_⟩
  · have := kSm_up (f := fun o => (wl W o).length) (g := fun o' => (wl (wSL W o (pre ++ post)) o').length) (i := o) (wO W) ho (fun j hj hne => by rw [eL, if_neg hne])
    simp only [eL, if_true, el] at this
    show U = (m.2.2 :: fr).length + kSm (fun o' => (wl (wSL W o (pre ++ post)) o').length) (wO W)
    simp only [eL]
    simp only [List.length_append, List.length_cons] at this ⊢
    omega
  · show kCh _ (zI vc 89 m.2.2) fr
    rw [x89]
    refine kCh_k _ _ (fun z hz => xi 89 z rfl (fun y => ?_)) b1
    rcases y with y | y | y
    · rcases y.2 with y | y
      · exact frm (by rw [← y]; exact hz)
      · obtain ⟨q, hq, e⟩ := List.mem_map.mp y
        have := (cm q (by simp [hq])).2.2.2.2.2.1
        rw [e, (b3 z hz).2] at this
        omega
    · omega
    · omega
  · rw [List.nodup_cons]; exact ⟨frm, b2⟩
  · rcases List.mem_cons.mp hc with y | y
    · rw [y]; exact ⟨m5, if_pos rfl⟩
    · have hne : ¬ c = m.2.2 := fun e => frm (by rw [← e]; exact y)
      exact ⟨(b3 c y).1, (if_neg hne).trans (b3 c y).2⟩
  · by_cases z : o' = o
    · subst z
      refine ⟨?_, fun q hq => ?_⟩
      · unfold kMo
        rw [eL, if_pos rfl]
        simp only [List.map_append, List.map_cons] at c7 c8 c9
        have s1 := List.nodup_append.mp c7
        have s2 := List.nodup_append.mp c8
        have s3 := List.nodup_append.mp c9
        refine ⟨rch, r38, r39, xch, x41, x39, ?_, ?_, ?_⟩
        · rw [List.map_append, List.nodup_append]
          exact ⟨s1.1, (List.nodup_cons.mp s1.2.1).2, fun a ha b hb => s1.2.2 a ha b (List.mem_cons_of_mem _ hb)⟩
        · rw [List.map_append, List.nodup_append]
          exact ⟨s2.1, (List.nodup_cons.mp s2.2.1).2, fun a ha b hb => s2.2.2 a ha b (List.mem_cons_of_mem _ hb)⟩
        · rw [List.map_append, List.nodup_append]
          exact ⟨s3.1, (List.nodup_cons.mp s3.2.1).2, fun a ha b hb => s3.2.2 a ha b (List.mem_cons_of_mem _ hb)⟩
      · rw [eL, if_pos rfl] at hq
        have hq' : q ∈ pre ++ m :: post := by
          rcases List.mem_append.mp hq with y | y
          · simp [y]
          · simp [y]
        obtain ⟨d1, d2, d3, d4, d5, d6, d7, d8, d9⟩ := cm q hq'
        have hne := om o' ho' q (by rw [el]; exact hq') (Or.inr (List.mem_append.mp hq))
        refine ⟨d1, d2, d3, d4, d5, (if_neg hne).trans d6, (ri 40 _ rfl (by omega)).trans d7, (xl 88 _ rfl).trans d8, ?_⟩
        rw [ri 41 _ rfl (by omega), rl, sS, sX]
        exact d9
    · obtain ⟨⟨e1, e2, e3, e4, e5, e6, e7⟩, em⟩ := h5 o' ho'
      refine ⟨?_, fun q hq => ?_⟩
      · unfold kMo
        rw [eL, if_neg z, ri 37 o' rfl (by omega), ri 38 o' rfl (by omega), ri 39 o' rfl (by omega), xi 39 o' rfl (by omega), xi 40 o' rfl (by omega), xi 41 o' rfl (by omega)]
        refine ⟨kCh_k _ _ (fun y hy => ri 42 y rfl (fun w => ?_)) e1, e2, e3, kCh_k _ _ (fun y hy => xi 89 y rfl (fun w => ?_)) e4, e5, e6, e7⟩
        · obtain ⟨q, hq, e⟩ := List.mem_map.mp hy
          rcases w with w | w
          · obtain ⟨q', hq', e'⟩ := List.mem_map.mp w.2
            have x1 := (em q hq).2.2.2.1
            have x2 := (cm q' (by simp [hq'])).2.2.2.1
            rw [e] at x1
            rw [e'] at x2
            omega
          · omega
        · obtain ⟨q, hq, e⟩ := List.mem_map.mp hy
          rcases w with w | w | w
          · rcases w.2 with w | w
            · exact om o' ho' q hq (Or.inl z) (e.trans w)
            · obtain ⟨q', hq', e'⟩ := List.mem_map.mp w
              have x1 := (em q hq).2.2.2.2.2.1
              have x2 := (cm q' (by simp [hq'])).2.2.2.2.2.1
              rw [e] at x1
              rw [e'] at x2
              omega
          · omega
          · omega
      · rw [eL, if_neg z] at hq
        obtain ⟨d1, d2, d3, d4, d5, d6, d7, d8, d9⟩ := em q hq
        have hne := om o' ho' q hq (Or.inl z)
        refine ⟨d1, d2, d3, d4, d5, (if_neg hne).trans d6, (ri 40 _ rfl (by omega)).trans d7, (xl 88 _ rfl).trans d8, ?_⟩
        rw [ri 41 _ rfl (by omega), rl, sS, sX]
        exact d9
