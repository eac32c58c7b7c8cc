/-! RUNNING: members are found -/
theorem kr_findL (n w : Nat) (hw : w < 2 ^ 31) {u : zMu} : ∀ (l : List (Nat × Nat × Nat)) (m : Nat) (h : Int32), l.length < m → kCh (fun c => zI u 42 c) h (l.map fun m => m.2.1) → (∀ q, q ∈ l → q.2.1 < 20100 ∧ q.1 < 2 ^ 31 ∧ zI u 40 q.2.1 = nI q.1) → (∃ q, q ∈ l ∧ q.1 = w ∧ (∀ q', q' ∈ l.takeWhile (fun x => !decide (x = q)) → ¬ q'.1 = w) ∧ rf_memberOf_L7 n m u (nI w) h = some (nI q.2.1, u)) ∨ ((∀ q, q ∈ l → ¬ q.1 = w) ∧ rf_memberOf_L7 n m u (nI w) h = some (-1, u)) := by
  intro l
  induction l with
  | nil =>
    intro m h hm hc hq
    obtain ⟨m, rfl⟩ : ∃ k, m = k + 1 := ⟨m - 1, by simp at hm; omega⟩
    have hc : h = -1 := hc
    subst hc
    refine Or.inr ⟨fun q hq => absurd hq (by simp), ?_⟩
    rw [rf_memberOf_L7, if_pos rfl]
  | cons a l ih =>
    intro m h hm hc hq
    simp only [List.length_cons] at hm
    obtain ⟨m, rfl⟩ : ∃ k, m = k + 1 := ⟨m - 1, by omega⟩
    obtain ⟨h1, h2⟩ : h = nI a.2.1 ∧ kCh (fun c => zI u 42 c) (zI u 42 a.2.1) (l.map fun m : Nat × Nat × Nat => m.2.1) := hc
    obtain ⟨a1, a2, a3⟩ := hq a (by simp)
    subst h1
    by_cases z : a.1 = w
    · refine Or.inl ⟨a, by simp, z, fun q' hq' => ?_, ?_⟩
      · rw [List.takeWhile_cons_of_neg (by simp)] at hq'
        exact absurd hq' (by simp)
      · rw [rf_memberOf_L7, if_neg (nI_m1 (by omega)), zin_nI a1 (by decide), zgd_t, zx_nI (show a.2.1 < 2 ^ 31 by omega), a3, z, if_pos rfl]
    · have e : rf_memberOf_L7 n (m + 1) u (nI w) (nI a.2.1) = rf_memberOf_L7 n m u (nI w) (zI u 42 a.2.1) := by
        rw [rf_memberOf_L7, if_neg (nI_m1 (by omega)), zin_nI a1 (by decide), zgd_t, zx_nI (show a.2.1 < 2 ^ 31 by omega), a3, if_neg (fun q => z ((nI_eq a2 hw).mp q)), zgd_t]
        rfl
      rcases ih m (zI u 42 a.2.1) (by omega) h2 (fun q hq' => hq q (by simp [hq'])) with ⟨q, q1, q2, q3, q4⟩ | ⟨q1, q2⟩
      · refine Or.inl ⟨q, by simp [q1], q2, fun q' hq' => ?_, e.trans q4⟩
        have : ¬ a = q := fun y => z (by rw [y]; exact q2)
        rw [List.takeWhile_cons_of_pos (by simp [this])] at hq'
        rcases List.mem_cons.mp hq' with y | y
        · rw [y]; exact z
        · exact q3 q' y
      · exact Or.inr ⟨fun q hq' => by
          rcases List.mem_cons.mp hq' with y | y
          · rw [y]; exact z
          · exact q1 q y, e.trans q2⟩
theorem kc_findL (n : Nat) {o sz U : Nat} (ho : o < 200) (x : Int64) {u : zMu} (hs : zI u 39 o = nI sz) (hsz : sz < 2 ^ 31) (hU : U ≤ zN u 88) (h89 : zN u 89 = zN u 88) (hN : zN u 88 < 2 ^ 31) : ∀ (l : List (Nat × Nat × Nat)) (m : Nat) (h : Int32) (j : Nat), l.length < m → j + l.length = sz → kCh (fun c => zI u 89 c) h (l.map fun m => m.2.2) → (∀ q, q ∈ l → q.2.2 < U) → (∃ q, q ∈ l ∧ zL u 88 q.2.2 = x ∧ ce_H_find_L21 n m u (nI o) x h (nI j) = some (nI q.2.2, u)) ∨ ((∀ q, q ∈ l → ¬ zL u 88 q.2.2 = x) ∧ ce_H_find_L21 n m u (nI o) x h (nI j) = some (-1, u)) := by
  intro l
  induction l with
  | nil =>
    intro m h j hm hj hc hq
    obtain ⟨m, rfl⟩ : ∃ k, m = k + 1 := ⟨m - 1, by simp at hm; omega⟩
    simp only [List.length_nil] at hj
    refine Or.inr ⟨fun q hq => absurd hq (by simp), ?_⟩
    rw [ce_H_find_L21, zin_nI ho (by decide), zgd_t, zx_nI (show o < 2 ^ 31 by omega), hs, if_neg (nI_nlt (by omega) (by omega))]
  | cons a l ih =>
    intro m h j hm hj hc hq
    simp only [List.length_cons] at hm hj
    obtain ⟨m, rfl⟩ : ∃ k, m = k + 1 := ⟨m - 1, by omega⟩
    obtain ⟨h1, h2⟩ : h = nI a.2.2 ∧ kCh (fun c => zI u 89 c) (zI u 89 a.2.2) (l.map fun m : Nat × Nat × Nat => m.2.2) := hc
    have a1 := hq a (by simp)
    subst h1
    have pre : ∀ Y, ce_H_find_L21 n (m + 1) u (nI o) x (nI a.2.2) (nI j) = Y ↔ (if lg_cmp (zL u 88 a.2.2) x = 0 then some (nI a.2.2, u) else ce_H_find_L21 n m u (nI o) x (zI u 89 a.2.2) (nI (j + 1))) = Y := by
      intro Y
      rw [ce_H_find_L21, zin_nI ho (by decide), zgd_t, zx_nI (show o < 2 ^ 31 by omega), hs, if_pos (nI_lt (by omega) (by omega)), if_neg (nI_m1 (by omega)), zin_nI (show a.2.2 < zN u 88 by omega) hN, zgd_t, zx_nI (show a.2.2 < 2 ^ 31 by omega), h89, zin_nI (show a.2.2 < zN u 88 by omega) hN, zgd_t, nI_1]
      exact Iff.rfl
    by_cases z : zL u 88 a.2.2 = x
    · exact Or.inl ⟨a, by simp, z, (pre _).mpr (if_pos ((lgc_eq _ _).mpr z))⟩
    · have e : ce_H_find_L21 n (m + 1) u (nI o) x (nI a.2.2) (nI j) = ce_H_find_L21 n m u (nI o) x (zI u 89 a.2.2) (nI (j + 1)) := (pre _).mpr (if_neg (fun q => z ((lgc_eq _ _).mp q)))
      rcases ih m (zI u 89 a.2.2) (j + 1) (by omega) (by omega) h2 (fun q hq' => hq q (by simp [hq'])) with ⟨q, q1, q2, q4⟩ | ⟨q1, q2⟩
      · exact Or.inl ⟨q, by simp [q1], q2, e.trans q4⟩
      · exact Or.inr ⟨fun q hq' => by
          rcases List.mem_cons.mp hq' with y | y
          · rw [y]; exact z
          · exact q1 q y, e.trans q2⟩
theorem nodup_fst {l : List (Nat × Nat × Nat)} : (l.map fun m => m.1).Nodup → ∀ a b, a ∈ l → b ∈ l → a.1 = b.1 → a = b := by
  induction l with
  | nil => intro _ a b ha; exact absurd ha (by simp)
  | cons c l ih =>
    intro h a b ha hb e
    rw [List.map_cons, List.nodup_cons] at h
    rcases List.mem_cons.mp ha with x | x <;> rcases List.mem_cons.mp hb with y | y
    · rw [x, y]
    · exact absurd (by rw [← x, e]; exact List.mem_map_of_mem (f := fun m : Nat × Nat × Nat => m.1) y) h.1
    · exact absurd (by rw [← y, ← e]; exact List.mem_map_of_mem (f := fun m : Nat × Nat × Nat => m.1) x) h.1
    · exact ih h.2 a b x y e
/-- both find the member named w of o, or none -/
theorem k_find (n : Nat) (hn : 20000 ≤ n) {X : pCx} {ub : zMu} {W : kW} {ur uc : zMu} (hI : ∀ w w', w < xN X → w' < xN X → xPK X w = xPK X w' → w = w') (hN : xN X ≤ 1501) (hO : kOb W ur uc) (h : kMb X ub W ur uc) {o w : Nat} (ho : o < wO W) (hw : w < xN X) : (∃ m, m ∈ wl W o ∧ m.1 = w ∧ rf_memberOf n ur (nI o) (nI w) = some (nI m.2.1, ur) ∧ ce_H_find n uc (nI o) (xPK X w) = some (nI m.2.2, uc)) ∨ ((∀ m, m ∈ wl W o → ¬ m.1 = w) ∧ rf_memberOf n ur (nI o) (nI w) = some (-1, ur) ∧ ce_H_find n uc (nI o) (xPK X w) = some (-1, uc)) := by
  have len := kMb_len h ho
  obtain ⟨h1, h2, U, fr, ov, ow, ⟨a1, a2, a3, a4, a5, a6, a7, a8⟩, -, h5⟩ := h
  obtain ⟨⟨c1, c2, c3, c4, c5, c6, c7, c8, c9⟩, hm⟩ := h5 o ho
  have o2 := hO.1
  have hr := kr_findL n w (by omega) (u := ur) (wl W o) n (zI ur 37 o) (by omega) c1 (fun q hq => by
    obtain ⟨m1, m2, m3, m4, m5, m6, m7, m8, m9⟩ := hm q hq
    exact ⟨by omega, by omega, m7⟩)
  have hc := kc_findL n (o := o) (by omega) (xPK X w) (u := uc) c6 (by omega) a3 a4 (by omega) (wl W o) n (zI uc 40 o) 0 (by omega) (by omega) c4 (fun q hq => (hm q hq).2.2.2.2.1)
  have er : rf_memberOf n ur (nI o) (nI w) = rf_memberOf_L7 n n ur (nI w) (zI ur 37 o) := by
    unfold rf_memberOf
    rw [zin_nI (show o < 201 by omega) (by decide), zgd_t, zx_nI (show o < 2 ^ 31 by omega)]
    rfl
  have ec : ce_H_find n uc (nI o) (xPK X w) = ce_H_find_L21 n n uc (nI o) (xPK X w) (zI uc 40 o) (nI 0) := by
    unfold ce_H_find
    rw [zbd_e (c_isObj n hO.2.2.1 (by omega) ho), if_neg (by decide), zin_nI (show o < 200 by omega) (by decide), zgd_t, zx_nI (show o < 2 ^ 31 by omega)]
    rfl
  rw [er, ec]
  rcases hr with ⟨q, q1, q2, q3, q4⟩ | ⟨q1, q2⟩
  · rcases hc with ⟨p, p1, p2, p3⟩ | ⟨p1, p2⟩
    · have e : p = q := nodup_fst c7 p q p1 q1 (by
        rw [q2]
        obtain ⟨m1, -, -, -, -, -, -, m8, -⟩ := hm p p1
        exact hI p.1 w m1 hw (m8.symm.trans p2))
      subst e
      exact Or.inl ⟨p, p1, q2, q4, p3⟩
    · obtain ⟨-, -, -, -, -, -, -, m8, -⟩ := hm q q1
      exact absurd (by rw [m8, q2]) (p1 q q1)
  · rcases hc with ⟨p, p1, p2, p3⟩ | ⟨p1, p2⟩
    · obtain ⟨m1, -, -, -, -, -, -, m8, -⟩ := hm p p1
      exact absurd (hI p.1 w m1 hw (m8.symm.trans p2)) (q1 p p1)
    · exact Or.inr ⟨q1, q2, p2⟩
/-- who holds w on the line from o -/
def kHo (W : kW) (o w q : Nat) : Prop := anc (wp W) o q ∧ (∃ m, m ∈ wl W q ∧ m.1 = w) ∧ ∀ x, anc (wp W) o x → q < x → ∀ m, m ∈ wl W x → ¬ m.1 = w
def kHn (W : kW) (o w : Nat) : Prop := ∀ x, anc (wp W) o x → ∀ m, m ∈ wl W x → ¬ m.1 = w
theorem k_hold (n : Nat) (hn : 20000 ≤ n) {X : pCx} {ub : zMu} {W : kW} {ur uc : zMu} (hI : ∀ w w', w < xN X → w' < xN X → xPK X w = xPK X w' → w = w') (hN : xN X ≤ 1501) (hO : kOb W ur uc) (h : kMb X ub W ur uc) {w : Nat} (hw : w < xN X) : ∀ d o m j, o ≤ d → o < wO W → o + 1 < m → j + o ≤ 199 → (∃ q, kHo W o w q ∧ ce_H_holderOf_L6 n m uc (xPK X w) (nI o) (nI j) = some (nI q, uc)) ∨ (kHn W o w ∧ ce_H_holderOf_L6 n m uc (xPK X w) (nI o) (nI j) = some (-1, uc)) := by
  intro d
  induction d with
  | zero =>
    intro o m j hd ho hm hj
    have e : o = 0 := by omega
    subst e
    obtain ⟨m, rfl⟩ : ∃ k, m = k + 1 := ⟨m - 1, by omega⟩
    obtain ⟨b1, b2, b3, b4⟩ := hO.2.2.2 0 ho
    have o2 := hO.1
    have b0 : wp W 0 = 0 := by omega
    have aa : ∀ x, anc (wp W) 0 x → x = 0 := fun x q => by have q : 0 = x := q; exact q.symm
    rcases k_find n hn hI hN hO h ho hw with ⟨q, q1, q2, -, q4⟩ | ⟨q1, -, q3⟩
    · refine Or.inl ⟨0, ⟨anc_rf 0, ⟨q, q1, q2⟩, fun x hx hx2 => absurd (aa x hx) (by omega)⟩, ?_⟩
      rw [ce_H_holderOf_L6, if_pos (show nI j < (200 : Int32) from nI_lt (b := 200) (by omega) (by decide)), zbd_e (c_isObj n hO.2.2.1 (by omega) ho), if_neg (by decide), zbd_e q4, if_neg (nI_m1 (by
        obtain ⟨h1, h2, U, fr, ov, ow, ⟨a1, a2, a3, a4, a5, a6, a7, a8⟩, -, h5⟩ := h
        have := ((h5 0 ho).2 q q1).2.2.2.2.1
        omega))]
    · refine Or.inr ⟨fun x hx => by rw [aa x hx]; exact q1, ?_⟩
      rw [ce_H_holderOf_L6, if_pos (show nI j < (200 : Int32) from nI_lt (b := 200) (by omega) (by decide)), zbd_e (c_isObj n hO.2.2.1 (by omega) ho), if_neg (by decide), zbd_e q3, if_pos rfl, zin_nI (show 0 < 200 by omega) (by decide), zgd_t, zx_nI (show 0 < 2 ^ 31 by omega), b3, b0, iP_0]
      show ce_H_holderOf_L6 n m uc (xPK X w) (-1) (nI j + 1) = _
      cases m with
      | zero => omega
      | succ m =>
        rw [ce_H_holderOf_L6, nI_1]
        by_cases z : nI (j + 1) < (200 : Int32)
        · rw [if_pos z, zbd_e (show ce_H_isObject n uc (-1) = some (0, uc) from by unfold ce_H_isObject; rw [if_pos (by decide)]), if_pos rfl]
        · rw [if_neg z]
  | succ d ih =>
    intro o m j hd ho hm hj
    obtain ⟨m, rfl⟩ : ∃ k, m = k + 1 := ⟨m - 1, by omega⟩
    obtain ⟨b1, b2, b3, b4⟩ := hO.2.2.2 o ho
    have o2 := hO.1
    have hp := kOb_p hO ho
    rcases k_find n hn hI hN hO h ho hw with ⟨q, q1, q2, -, q4⟩ | ⟨q1, -, q3⟩
    · refine Or.inl ⟨o, ⟨anc_rf o, ⟨q, q1, q2⟩, fun x hx hx2 => absurd (anc_le o o (Nat.le_refl _) hp hx) (by omega)⟩, ?_⟩
      rw [ce_H_holderOf_L6, if_pos (show nI j < (200 : Int32) from nI_lt (b := 200) (by omega) (by decide)), zbd_e (c_isObj n hO.2.2.1 (by omega) ho), if_neg (by decide), zbd_e q4, if_neg (nI_m1 (by
        obtain ⟨h1, h2, U, fr, ov, ow, ⟨a1, a2, a3, a4, a5, a6, a7, a8⟩, -, h5⟩ := h
        have := ((h5 o ho).2 q q1).2.2.2.2.1
        omega))]
    · have e : ce_H_holderOf_L6 n (m + 1) uc (xPK X w) (nI o) (nI j) = ce_H_holderOf_L6 n m uc (xPK X w) (iP (wp W o)) (nI (j + 1)) := by
        rw [ce_H_holderOf_L6, if_pos (show nI j < (200 : Int32) from nI_lt (b := 200) (by omega) (by decide)), zbd_e (c_isObj n hO.2.2.1 (by omega) ho), if_neg (by decide), zbd_e q3, if_pos rfl, zin_nI (show o < 200 by omega) (by decide), zgd_t, zx_nI (show o < 2 ^ 31 by omega), b3, nI_1]
        rfl
      rw [e]
      by_cases z : wp W o = 0
      · have aa : ∀ x, anc (wp W) o x → x = o := fun x q => by
          rcases (anc_st hp).mp q with q | q
          · exact q.symm
          · exact absurd z q.1
        refine Or.inr ⟨fun x hx => by rw [aa x hx]; exact q1, ?_⟩
        rw [z, iP_0]
        obtain ⟨m, rfl⟩ : ∃ k, m = k + 1 := by
          cases m with
          | zero => exact absurd hm (by omega)
          | succ m => exact ⟨m, rfl⟩
        rw [ce_H_holderOf_L6]
        by_cases y : nI (j + 1) < (200 : Int32)
        · rw [if_pos y, zbd_e (show ce_H_isObject n uc (-1) = some (0, uc) from by unfold ce_H_isObject; rw [if_pos (by decide)]), if_pos rfl]
        · rw [if_neg y]
      · obtain ⟨f, hf⟩ : ∃ f, wp W o = f + 1 := ⟨wp W o - 1, by omega⟩
        have st : ∀ x, anc (wp W) o x ↔ (o = x ∨ anc (wp W) f x) := fun x => by
          rw [anc_st hp, hf]
          exact ⟨fun q => q.elim Or.inl (fun q => Or.inr q.2), fun q => q.elim Or.inl (fun q => Or.inr ⟨by omega, q⟩)⟩
        rw [hf, iP_s]
        rcases ih f m (j + 1) (by omega) (by omega) (by omega) (by omega) with ⟨q, ⟨k1, k2, k3⟩, k4⟩ | ⟨k1, k2⟩
        · refine Or.inl ⟨q, ⟨(st q).mpr (Or.inr k1), k2, fun x hx hx2 => ?_⟩, k4⟩
          rcases (st x).mp hx with y | y
          · rw [← y]; exact q1
          · exact k3 x y hx2
        · refine Or.inr ⟨fun x hx => ?_, k2⟩
          rcases (st x).mp hx with y | y
          · rw [← y]; exact q1
          · exact k1 x y
