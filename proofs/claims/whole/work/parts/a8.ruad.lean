/-! RUNNING: a member is put, both -/
theorem nodup_map {α : Type} {f : α → Nat} {l : List α} : (l.map f).Nodup → ∀ a b, a ∈ l → b ∈ l → f a = f b → a = b := by
  induction l with
  | nil => intro _ a b ha; exact absurd ha (by simp)
  | cons c l ih =>
    intro h a b ha hb e
    rw [List.map_cons, List.nodup_cons] at h
    rcases List.mem_cons.mp ha with x | x <;> rcases List.mem_cons.mp hb with y | y
    · rw [x, y]
    · exact absurd (by rw [← x, e]; exact List.mem_map_of_mem (f := f) y) h.1
    · exact absurd (by rw [← y, ← e]; exact List.mem_map_of_mem (f := f) x) h.1
    · exact ih h.2 a b x y e
/-- kSh where only the members of o changed, its shape being none -/
theorem kSh_mem {X : pCx} {W V : kW} {ur uc : zMu} {o : Nat} (h : kSh X W ur uc) (e0 : wO V = wO W) (e1 : wS V = wS W) (e2 : wp V = wp W) (e3 : V.2.2.1 = W.2.2.1) (e4 : ∀ o', ¬ o' = o → wl V o' = wl W o') (e5 : zI ur 36 o = -1) : kSh X V ur uc := by
  obtain ⟨⟨h1, h1'⟩, h2, h3, h4, h5, ⟨Ch, h6⟩, h7, h8, h9⟩ := h
  have es : ws V = ws W := by unfold ws; rw [e3]
  have eu : wu V = wu W := by unfold wu; rw [e3]
  have en : wn V = wn W := by unfold wn; rw [e3]
  refine ⟨⟨?_, by rw [e1]; exact h1'⟩, by rw [e1]; exact h2, by rw [e1]; exact h3, h4, by rw [e1]; exact h5, ⟨Ch, fun s hs => ?_⟩, by rw [e1, es, en]; exact h7, by rw [e1, es, eu]; exact h8, fun o' ho' => ?_⟩
  · unfold kSn at h1 ⊢
    rw [e0, e1, kSm_cg (g := fun o => if zI ur 36 o = -1 then 9 else 1 + (wl W o).length) _ (fun j hj => by
      by_cases z : j = o
      · rw [z, if_pos e5, if_pos e5]
      · rw [e4 j z])]
    exact h1
  · have := h6 s (by rw [e1] at hs; exact hs)
    unfold kSo at this ⊢
    rw [es, eu, en, e0, e1]
    exact this
  · obtain ⟨d1, d2, d3⟩ := h9 o' (by rw [e0] at ho'; exact ho')
    refine ⟨d1, by rw [e2]; exact d2, ?_⟩
    by_cases z : o' = o
    · subst z; exact Or.inl e5
    · rw [e1, es, en, e2, e4 o' z]; exact d3
/-- o loses its shape, on both sides -/
theorem kSh_lose {X : pCx} {W : kW} {ur uc vr vc : zMu} {o : Nat} (h : kSh X W ur uc) (ho : o < wO W) (hl : zI ur 36 o = -1 ∨ (wl W o).length ≤ 8) (r36 : ∀ o', zI vr 36 o' = if o' = o then -1 else zI ur 36 o') (r7 : ∀ a j, ¬ a = 36 → ¬ (a = 0 ∧ j = 61) → tgR a j = 7 → zI vr a j = zI ur a j) (c37 : ∀ o', zI vc 37 o' = if o' = o then -1 else zI uc 37 o') (c7 : ∀ a j, ¬ a = 37 → ¬ (a = 36 ∧ j = 8) → tgC a j = 7 → zI vc a j = zI uc a j) (l7 : ∀ j, zL vc 85 j = zL uc 85 j) (n7 : ∀ a, 81 ≤ a → a ≤ 87 → zN vc a = zN uc a) (e8 : zI vc 36 8 = zI vr 0 61) : kSh X W vr vc := by
  obtain ⟨⟨h1, h1'⟩, h2, h3, h4, ⟨n1, n2, n3, n4⟩, ⟨Ch, h6⟩, h7, h8, h9⟩ := h
  have t7 : ∀ a, 81 ≤ a → a ≤ 87 → ∀ j, tgC a j = 7 := by
    intro a p q j
    have : a = 81 ∨ a = 82 ∨ a = 83 ∨ a = 84 ∨ a = 85 ∨ a = 86 ∨ a = 87 := by omega
    rcases this with rfl | rfl | rfl | rfl | rfl | rfl | rfl <;> rfl
  have s7 : ∀ a, 44 ≤ a → a ≤ 47 → ∀ j, zI vr a j = zI ur a j := by
    intro a p q j
    refine r7 a j (by omega) (by omega) ?_
    have : a = 44 ∨ a = 45 ∨ a = 46 ∨ a = 47 := by omega
    rcases this with rfl | rfl | rfl | rfl <;> rfl
  have c8 : ∀ a, 81 ≤ a → a ≤ 87 → ∀ j, zI vc a j = zI uc a j := fun a p q j => c7 a j (by omega) (by omega) (t7 a p q j)
  have c44 : ∀ q, zI vc 44 q = zI uc 44 q := fun q => c7 44 q (by omega) (by omega) rfl
  refine ⟨⟨?_, h1'⟩, (r7 0 58 (by omega) (by omega) rfl).trans h2, (c7 43 8 (by omega) (by omega) rfl).trans h3, e8, ⟨by rw [n7 81 (by omega) (by omega)]; exact n1, by rw [n7 81 (by omega) (by omega)]; exact n2, by rw [n7 81 (by omega) (by omega)]; exact n3, fun a p q => by rw [n7 a (by omega) q, n7 81 (by omega) (by omega)]; exact n4 a p q⟩, ⟨Ch, fun s hs => ?_⟩, h7, fun q hq => by rw [c44]; exact h8 q hq, fun o' ho' => ?_⟩
  · refine Nat.le_trans h1 ?_
    unfold kSn
    have := kSm_up (f := fun o => if zI ur 36 o = -1 then 9 else 1 + (wl W o).length) (g := fun o => if zI vr 36 o = -1 then 9 else 1 + (wl W o).length) (i := o) (wO W) ho (fun j hj hne => by rw [r36, if_neg hne])
    simp only [r36, if_true] at this ⊢
    have q : (if zI ur 36 o = -1 then 9 else 1 + (wl W o).length) ≤ 9 := by
      rcases hl with y | y
      · rw [if_pos y]; exact Nat.le_refl _
      · by_cases x : zI ur 36 o = -1
        · rw [if_pos x]; exact Nat.le_refl _
        · rw [if_neg x]; omega
    omega
  · have := h6 s hs
    unfold kSo at this ⊢
    rw [s7 44 (by omega) (by omega), s7 45 (by omega) (by omega), s7 46 (by omega) (by omega), s7 47 (by omega) (by omega), c8 81 (by omega) (by omega), c8 82 (by omega) (by omega), c8 83 (by omega) (by omega), c8 84 (by omega) (by omega), c8 86 (by omega) (by omega), l7, show (fun c => zI vc 87 c) = fun c => zI uc 87 c from funext fun c => c8 87 (by omega) (by omega) c]
    exact this
  · obtain ⟨d1, d2, d3⟩ := h9 o' ho'
    refine ⟨?_, by rw [c44]; exact d2, ?_⟩
    · rw [c37, r36]
      by_cases z : o' = o
      · rw [if_pos z, if_pos z]
      · rw [if_neg z, if_neg z]; exact d1
    · rw [r36]
      by_cases z : o' = o
      · rw [if_pos z]; exact Or.inl rfl
      · rw [if_neg z]; exact d3
theorem k_put (n : Nat) (hn : 20000 ≤ n) {C : kC} (P : kPs C) {W : kW} {ur uc : zMu} (hO : kOb W ur uc) (hM : kMb (cX C) (cb C) W ur uc) (hS : kSh (cX C) W ur uc) (hd : zdy uc = true) {o w : Nat} (ho : o < wO W) (hw : w < xN (cX C)) (hs : ∃ s, s < 80 ∧ zI (cb C) 22 s = nI w) (hmm : wM W < 20000) {sr : Int32} {xr : Int64} {s : Nat} {xc : Int64} (hs4 : s ≤ 4) (hv : vR (wO W) (wR W) sr xr (nI s) xc) : ∃ cell u0 vc V, ((rf_memberOf n ur (nI o) (nI w) = some (nI cell, ur) ∧ u0 = ur) ∨ (rf_memberOf n ur (nI o) (nI w) = some (-1, ur) ∧ rf_grows n ur (nI o) (nI w) = some (nI cell, u0))) ∧ cell < 20100 ∧ ce_H_give n uc (nI o) (xPK (cX C) w) (nI s) xc = some ((), vc) ∧ fT tgR [6, 7] ur (zsL (zsI u0 41 cell sr) 43 cell xr) ∧ fT tgC [6, 7] uc vc ∧ wLe W V ∧ (wO V = wO W ∧ wR V = wR W ∧ wM V ≤ wM W + 1 ∧ wP V = wP W ∧ wp V = wp W ∧ wf V = wf W) ∧ kMb (cX C) (cb C) V (zsL (zsI u0 41 cell sr) 43 cell xr) vc ∧ kSh (cX C) V (zsL (zsI u0 41 cell sr) 43 cell xr) vc := by
  have hI := P.2.1
  have hN := P.2.2.1
  have o2 := hO.1
  have fnd := k_find n hn hI hN hO hM ho hw
  have len := kMb_len hM ho
  obtain ⟨h1, h2, U, fr, ov, ow, ⟨a1, a2, a3, a4, a5, a6, a7, a8⟩, ⟨b1, b2, b3⟩, h5⟩ := id hM
  have io := c_isObj n hO.2.2.1 (show wO W < 2 ^ 31 by omega) ho
  rcases fnd with ⟨m, m1, m2, m3, m4⟩ | ⟨m1, m3, m4⟩
  · -- it is there
    obtain ⟨d1, d2, d3, d4, d5, d6, d7, d8, d9⟩ := (h5 o ho).2 m m1
    obtain ⟨vc, e, k1, k2, k3, k4⟩ := v_set n a7 hd (i := m.2.2) (by omega) hs4 xc
    have G : fT tgC [6] uc vc := fT_V (fT_rf _ _ _) (v := 66) (m := 16000) (t := 6) (by unfold vK; omega) k2 k1 (by decide)
    have F : fT tgR [6] ur (zsL (zsI ur 41 m.2.1 sr) 43 m.2.1 xr) := fT_L (fT_I (fT_rf _ _ _) _ 6 rfl (by decide)) _ 6 rfl (by decide)
    refine ⟨m.2.1, ur, vc, W, Or.inl ⟨m3, rfl⟩, by omega, ?_, fT_mono F (by decide), fT_mono G (by decide), wLe_rf _, ⟨rfl, rfl, by omega, rfl, rfl, rfl⟩, ?_, kSh_k hS F G (by decide)⟩
    · unfold ce_H_give
      rw [zbd_e io, if_neg (by decide), zbd_e m4, if_neg (nI_m1 (by omega)), zbd_u]
      exact e
    · have ir : ∀ a j, ¬ (a = 41 ∧ j = m.2.1) → zI (zsL (zsI ur 41 m.2.1 sr) 43 m.2.1 xr) a j = zI ur a j := fun a j q => by rw [gI_sL, gI_sI, if_neg q]
      have ic : ∀ a j, ¬ a = 67 → zI vc a j = zI uc a j := fun a j q => k2.1 a j q
      have lc : ∀ a j, ¬ a = 68 → zL vc a j = zL uc a j := fun a j q => k2.2.1 a j q
      have nc : ∀ a, ¬ a = 67 → ¬ a = 68 → zN vc a = zN uc a := fun a q q2 => k2.2.2.2.1 a q q2
      refine ⟨by rw [ir 0 80 (by omega)]; exact h1, h2, U, fr, ov, ow, ⟨by rw [ic 36 12 (by decide)]; exact a1, a2, by rw [nc 88 (by decide) (by decide)]; exact a3, by rw [nc 89 (by decide) (by decide), nc 88 (by decide) (by decide)]; exact a4, by rw [nc 88 (by decide) (by decide)]; exact a5, by rw [nc 88 (by decide) (by decide)]; exact a6, k1, a8⟩, ⟨?_, b2, b3⟩, fun o' ho' => ?_⟩
      · rw [ic 36 13 (by decide), show (fun c => zI vc 89 c) = fun c => zI uc 89 c from funext fun c => ic 89 c (by decide)]; exact b1
      · obtain ⟨c0, cm⟩ := h5 o' ho'
        refine ⟨?_, fun m' hm' => ?_⟩
        · unfold kMo at c0 ⊢
          rw [show (fun c => zI (zsL (zsI ur 41 m.2.1 sr) 43 m.2.1 xr) 42 c) = fun c => zI ur 42 c from funext fun c => ir 42 c (by omega), show (fun c => zI vc 89 c) = fun c => zI uc 89 c from funext fun c => ic 89 c (by decide), ir 37 _ (by omega), ir 38 _ (by omega), ir 39 _ (by omega), ic 39 _ (by decide), ic 40 _ (by decide), ic 41 _ (by decide)]
          exact c0
        · obtain ⟨g1, g2, g3, g4, g5, g6, g7, g8, g9⟩ := cm m' hm'
          refine ⟨g1, g2, g3, g4, g5, g6, by rw [ir 40 _ (by omega)]; exact g7, by rw [lc 88 _ (by decide)]; exact g8, ?_⟩
          rw [k3, k4, gI_sL, gI_sI, gL_sL, gL_sI]
          by_cases z : m' = m
          · rw [z, if_pos ⟨rfl, rfl⟩, if_pos ⟨rfl, rfl⟩, if_pos rfl, if_pos rfl]
            exact hv
          · have n1 : ¬ m'.2.1 = m.2.1 := fun y => by
              have eo : o' = o := by rw [y, d4] at g4; omega
              subst eo
              exact z (nodup_map c0.2.2.2.2.2.2.2.1 m' m hm' m1 y)
            have n2 : ¬ m'.2.2 = m.2.2 := fun y => by
              have eo : o' = o := by rw [y, d6] at g6; omega
              subst eo
              exact z (nodup_map c0.2.2.2.2.2.2.2.2 m' m hm' m1 y)
            rw [if_neg (fun y => n1 y.2), if_neg (fun y => n1 y.2), if_neg n2, if_neg n2]
            exact g9
  · -- it is new
    obtain ⟨⟨c1, c2, c3, c4, c5, c6, c7, c8, c9⟩, cm⟩ := h5 o ho
    -- how many there may be
    have l80 : ∀ o', o' < wO W → (wl W o').length ≤ 80 := fun o' ho' => by
      have := names_le (f := fun s => zI (cb C) 22 s) 80 ((wl W o').map fun m => m.1) (h5 o' ho').1.2.2.2.2.2.2.1 (fun x hx => by
        obtain ⟨m, hm, e⟩ := List.mem_map.mp hx
        have := ((h5 o' ho').2 m hm).1
        omega) (fun x hx => by
        obtain ⟨m, hm, e⟩ := List.mem_map.mp hx
        rw [← e]
        exact ((h5 o' ho').2 m hm).2.1)
      rw [List.length_map] at this
      exact this
    have l79 : (wl W o).length < 80 := by
      have := names_le (f := fun s => zI (cb C) 22 s) 80 (((wl W o).map fun m => m.1) ++ [w]) (by
        rw [List.nodup_append]
        refine ⟨c7, by simp, fun a ha b hb => ?_⟩
        have hb : b = w := by simpa using hb
        subst hb
        obtain ⟨m, hm, e⟩ := List.mem_map.mp ha
        rw [← e]; exact m1 m hm) (fun x hx => by
        rcases List.mem_append.mp hx with hx | hx
        · obtain ⟨m, hm, e⟩ := List.mem_map.mp hx
          have := (cm m hm).1
          omega
        · have hx : x = w := by simpa using hx
          omega) (fun x hx => by
        rcases List.mem_append.mp hx with hx | hx
        · obtain ⟨m, hm, e⟩ := List.mem_map.mp hx
          rw [← e]
          exact (cm m hm).2.1
        · have hx : x = w := by simpa using hx
          rw [hx]; exact hs)
      rw [List.length_append, List.length_map, List.length_singleton] at this
      omega
    have hUf : fr = [] → U < 16000 := fun e => by
      subst e
      have u1 := kSm_up (f := fun o => (wl W o).length) (g := fun o' => if o' = o then 80 else (wl W o').length) (i := o) (wO W) ho (fun j hj hne => if_neg hne)
      have u2 := kSm_le (f := fun o' => if o' = o then 80 else (wl W o').length) (b := 80) (wO W) (fun j hj => by
        by_cases z : j = o
        · rw [if_pos z]; exact Nat.le_refl _
        · rw [if_neg z]; exact l80 j hj)
      simp only [if_true, List.length_nil] at u1 a8
      omega
    -- cells
    obtain ⟨v, ev, fv, v80, v40, v38, v39, vch, vi, vl'⟩ := kr_link n (o := o) (mm := wM W) (by omega) (by omega) (nI w) (l := (wl W o).map fun m => m.2.1) h1 c1 c2 (by rw [List.length_map]; exact c3) (fun z hz => by
      obtain ⟨m, hm, e⟩ := List.mem_map.mp hz
      rw [← e]; exact (cm m hm).2.2.1) c8
    rw [List.length_map] at ev v39
    obtain ⟨c, U', fr', y, ey, fy, yi, yl, yn, y12, y1, y2, y3, y4, y5, y6, y7, y8, y9, y10, y11, y12', y13⟩ := k_fresh n hd a1 a3 a4 a5 a6 b1 b2 (fun c hc => (b3 c hc).1) a2 hUf
    have cU : ∀ o', o' < wO W → ∀ m, m ∈ wl W o' → ¬ m.2.2 = c := fun o' ho' m hm q => by
      obtain ⟨-, -, -, -, d5, d6, -⟩ := (h5 o' ho').2 m hm
      rcases y12' with z | z
      · have := (b3 c z).2
        rw [q] at d6
        omega
      · omega
    obtain ⟨x, ex, fx, xch, x41, x39, x88, xi, xl, xn⟩ := kc_link n (o := o) (c := c) (by omega) (l := (wl W o).map fun m => m.2.2) ey (by omega) y3 (by omega) (by
      rw [yi 40 o (by omega) (by omega)]
      exact kCh_k _ _ (fun z hz => by
        obtain ⟨m, hm, e⟩ := List.mem_map.mp hz
        rw [← e]
        exact yi 89 _ (by omega) (Or.inr (cm m hm).2.2.2.2.1)) c4) (by rw [yi 41 o (by omega) (by omega)]; exact c5) (by rw [yi 39 o (by omega) (by omega), List.length_map]; exact c6) (fun z hz => by
      obtain ⟨m, hm, e⟩ := List.mem_map.mp hz
      have := (cm m hm).2.2.2.2.1
      omega) (fun q => by
      obtain ⟨m, hm, e⟩ := List.mem_map.mp q
      exact cU o ho m hm e) c9 (xPK (cX C) w)
    rw [List.length_map] at x39
    have Fyx : fT tgC [6] uc x := fT_tr fy fx
    -- the rest, from any pictures behind the shapes
    have fin : ∀ (u0 z : zMu) (V1 : kW), fT tgR [7] v u0 → fT tgC [7] x z → wO V1 = wO W → wR V1 = wR W → wM V1 = wM W → wP V1 = wP W → wp V1 = wp W → wl V1 = wl W → wf V1 = wf W → wLe W V1 → rf_grows n ur (nI o) (nI w) = some (nI (wM W), u0) → (∀ Y, (zbd (ce_V_set n 66 z (nI c) (nI s) xc) fun _ u => some ((), u)) = Y → ce_H_give n uc (nI o) (xPK (cX C) w) (nI s) xc = Y) → (∀ vr vc, fT tgR [6] u0 vr → fT tgC [6] z vc → kSh (cX C) (wAM V1 o (w, wM W, c)) vr vc) → ∃ cell u0 vc V, ((rf_memberOf n ur (nI o) (nI w) = some (nI cell, ur) ∧ u0 = ur) ∨ (rf_memberOf n ur (nI o) (nI w) = some (-1, ur) ∧ rf_grows n ur (nI o) (nI w) = some (nI cell, u0))) ∧ cell < 20100 ∧ ce_H_give n uc (nI o) (xPK (cX C) w) (nI s) xc = some ((), vc) ∧ fT tgR [6, 7] ur (zsL (zsI u0 41 cell sr) 43 cell xr) ∧ fT tgC [6, 7] uc vc ∧ wLe W V ∧ (wO V = wO W ∧ wR V = wR W ∧ wM V ≤ wM W + 1 ∧ wP V = wP W ∧ wp V = wp W ∧ wf V = wf W) ∧ kMb (cX C) (cb C) V (zsL (zsI u0 41 cell sr) 43 cell xr) vc ∧ kSh (cX C) V (zsL (zsI u0 41 cell sr) 43 cell xr) vc := by
      intro u0 z V1 q1 q2 e1 e2 e3 e4 e5 e6 e7 e8 eg ec kS
      -- Values of the heap are as they were
      have n66 : ∀ a, a = 67 ∨ a = 68 → zN z a = zN uc a := fun a q => by
        have t : tgC a 0 = 6 := by rcases q with rfl | rfl <;> rfl
        rw [fT_n q2 (by decide) t, xn a, yn a (by omega) (by omega)]
      have i66 : ∀ a j, a = 66 ∨ a = 67 → zI z a j = zI uc a j := fun a j q => by
        have t : tgC a j = 6 := by rcases q with rfl | rfl <;> rfl
        rw [fT_i q2 (by decide) t, xi a j (by omega), yi a j (by omega) (by omega)]
      have l66 : ∀ j, zL z 68 j = zL uc 68 j := fun j => by
        rw [fT_l q2 (by decide) (show tgC 68 0 = 6 from rfl), xl 68 j (by omega), yl 68 j (by omega)]
      have wz : pVw 66 16000 z := pVw_keep a7 (i66 66 0 (Or.inl rfl)) (fun j => i66 67 j (Or.inr rfl)) (n66 67 (Or.inl rfl)) (n66 68 (Or.inr rfl))
      have sz : ∀ j, vS 66 z j = vS 66 uc j := vS_keep (fun j => i66 67 j (Or.inr rfl)) (n66 67 (Or.inl rfl))
      have xz : ∀ j, vX 66 z j = vX 66 uc j := vX_keep l66 (n66 67 (Or.inl rfl))
      have dz : zdy z = true := (fT_dy q2).trans ((fT_dy Fyx).trans hd)
      obtain ⟨vc, e, k1, k2, k3, k4⟩ := v_set n wz dz (i := c) (by omega) hs4 xc
      have G : fT tgC [6] z vc := fT_V (fT_rf _ _ _) (v := 66) (m := 16000) (t := 6) (by unfold vK; omega) k2 k1 (by decide)
      have F : fT tgR [6] u0 (zsL (zsI u0 41 (wM W) sr) 43 (wM W) xr) := fT_L (fT_I (fT_rf _ _ _) _ 6 rfl (by decide)) _ 6 rfl (by decide)
      have R6 : ∀ {a j : Nat}, tgR a j = 6 → ¬ (a = 41 ∧ j = wM W) → zI (zsL (zsI u0 41 (wM W) sr) 43 (wM W) xr) a j = zI v a j := fun {a j} t q => by
        rw [gI_sL, gI_sI, if_neg q, fT_i q1 (by decide) t]
      have C6 : ∀ {a j : Nat}, tgC a j = 6 → ¬ a = 67 → zI vc a j = zI x a j := fun {a j} t q => by
        rw [k2.1 a j q, fT_i q2 (by decide) t]
      have L88 : ∀ j, zL vc 88 j = zL x 88 j := fun j => by
        rw [k2.2.1 88 j (by decide), fT_l q2 (by decide) (show tgC 88 0 = 6 from rfl)]
      have N8 : ∀ a, a = 88 ∨ a = 89 → zN vc a = zN y a := fun a q => by
        have t : tgC a 0 = 6 := by rcases q with rfl | rfl <;> rfl
        rw [k2.2.2.2.1 a (by omega) (by omega), fT_n q2 (by decide) t, xn a]
      refine ⟨wM W, u0, vc, wAM V1 o (w, wM W, c), Or.inr ⟨m3, eg⟩, by omega, ec _ (by rw [zbd_u]; exact e), ?_, ?_, wLe_tr e8 (wAM_le _ _ _), ⟨e1, e2, by show wM V1 + 1 ≤ _; omega, e4, e5, e7⟩, ?_, kS _ _ F G⟩
      · exact fT_tr (fT_mono fv (by decide)) (fT_tr (fT_mono q1 (by decide)) (fT_mono F (by decide)))
      · exact fT_tr (fT_mono Fyx (by decide)) (fT_tr (fT_mono q2 (by decide)) (fT_mono G (by decide)))
      · refine k_putM hM ho hw hs m1 rfl hmm e1 e2 e3 e6 ?_ ?_ ?_ ?_ ?_ (fun a o' p p' hne => ?_) (fun j hj => ⟨?_, ?_, ?_, fun hni => ?_⟩) ⟨U, U', fr, fr', ov, ow, ⟨a1, a2, a8⟩, ⟨b1, b2, b3⟩, h5, ?_, y1, ?_, ?_, ?_, ?_, y6, y7, ?_, y9, y10, y11, y12', y13, fun j hj hne => ⟨?_, ?_, ?_, fun hni => ?_⟩⟩ ?_ ?_ ?_ ?_ (fun a o' p p' hne => ?_) k1 ?_
        · rw [R6 (show tgR 0 80 = 6 from rfl) (by omega)]; exact v80
        · rw [R6 (show tgR 40 (wM W) = 6 from rfl) (by omega)]; exact v40
        · rw [R6 (show tgR 38 o = 6 from rfl) (by omega)]; exact v38
        · rw [R6 (show tgR 39 o = 6 from rfl) (by omega)]; exact v39
        · rw [show (fun c => zI (zsL (zsI u0 41 (wM W) sr) 43 (wM W) xr) 42 c) = fun c => zI v 42 c from funext fun c => R6 (show tgR 42 c = 6 from rfl) (by omega), R6 (show tgR 37 o = 6 from rfl) (by omega)]; exact vch
        · have t : tgR a o' = 6 := by
            have : a = 37 ∨ a = 38 ∨ a = 39 := by omega
            rcases this with rfl | rfl | rfl <;> rfl
          rw [R6 t (by omega), vi a o' (by omega)]
        · rw [R6 (show tgR 40 j = 6 from rfl) (by omega), vi 40 j (by omega)]
        · rw [R6 (show tgR 41 j = 6 from rfl) (by omega), vi 41 j (by omega)]
        · rw [gL_sL, if_neg (by omega), gL_sI, fT_l q1 (by decide) (show tgR 43 0 = 6 from rfl), vl']
        · rw [R6 (show tgR 42 j = 6 from rfl) (by omega), vi 42 j (fun q => by
            rcases q with q | q | q | q
            · omega
            · omega
            · rcases q.2 with q | q
              · omega
              · exact hni q
            · omega)]
        · rw [C6 (show tgC 36 12 = 6 from rfl) (by decide), xi 36 12 (by omega)]; exact y12
        · rw [N8 88 (Or.inl rfl)]; exact y2
        · rw [N8 88 (Or.inl rfl), N8 89 (Or.inr rfl)]; exact y3
        · rw [N8 88 (Or.inl rfl)]; exact y4
        · rw [N8 88 (Or.inl rfl)]; exact y5
        · rw [C6 (show tgC 36 13 = 6 from rfl) (by decide), xi 36 13 (by omega), show (fun c => zI vc 89 c) = fun c => zI x 89 c from funext fun c => C6 (show tgC 89 c = 6 from rfl) (by decide)]
          refine kCh_k _ _ (fun z hz => ?_) y8
          have hzf := y10 z hz
          have hzU := b3 z hzf
          rw [xi 89 z (fun q => by
            rcases q with q | q
            · rcases q.2 with q | q
              · exact y11 (by rw [← q]; exact hz)
              · obtain ⟨m, hm, e⟩ := List.mem_map.mp q
                have := (cm m hm).2.2.2.2.2.1
                rw [e, hzU.2] at this
                omega
            · omega), yi 89 z (by omega) (Or.inr hzU.1)]
        · rw [L88, xl 88 j (fun q => hne q.2), yl 88 j (Or.inr hj)]
        · rw [k3, if_neg hne, sz]
        · rw [k4, if_neg hne, xz]
        · rw [C6 (show tgC 89 j = 6 from rfl) (by decide), xi 89 j (fun q => by
            rcases q with q | q
            · rcases q.2 with q | q
              · exact hne q
              · exact hni q
            · omega), yi 89 j (by omega) (Or.inr hj)]
        · rw [L88]; exact x88
        · rw [C6 (show tgC 41 o = 6 from rfl) (by decide)]; exact x41
        · rw [C6 (show tgC 39 o = 6 from rfl) (by decide)]; exact x39
        · rw [show (fun c => zI vc 89 c) = fun c => zI x 89 c from funext fun c => C6 (show tgC 89 c = 6 from rfl) (by decide), C6 (show tgC 40 o = 6 from rfl) (by decide)]; exact xch
        · have t : tgC a o' = 6 := by
            have : a = 39 ∨ a = 40 ∨ a = 41 := by omega
            rcases this with rfl | rfl | rfl <;> rfl
          rw [C6 t (by omega), xi a o' (by omega), yi a o' (by omega) (by omega)]
        · rw [k3, k4, if_pos rfl, if_pos rfl, gI_sL, gI_sI, if_pos ⟨rfl, rfl⟩, gL_sL, if_pos ⟨rfl, rfl⟩]
          exact hv
    -- the class's way to the set
    have j39 : zI x 39 o = nI ((wl W o).length + 1) := x39
    have j37 : zI x 37 o = zI ur 36 o := by
      rw [fT_i Fyx (by decide) (show tgC 37 o = 7 from rfl)]
      exact (hS.2.2.2.2.2.2.2.2 o ho).1
    have give : ∀ Y, (if (8 : Int32) < nI ((wl W o).length + 1) then (zbd (ce_H_loseShape n x (nI o)) fun _ u12 => zbd (ce_V_set n 66 u12 (nI c) (nI s) xc) fun _ u15 => some ((), u15)) else (if zI ur 36 o = -1 then (zbd (ce_V_set n 66 x (nI c) (nI s) xc) fun _ u19 => some ((), u19)) else (zbd (ce_S_with n x (zI ur 36 o) (xPK (cX C) w)) fun r21 u22 => zbd (ce_V_set n 66 (zsI u22 37 o r21) (nI c) (nI s) xc) fun _ u26 => some ((), u26)))) = Y → ce_H_give n uc (nI o) (xPK (cX C) w) (nI s) xc = Y := by
      intro Y hY
      rw [← hY]
      unfold ce_H_give
      rw [zbd_e io, if_neg (show ¬ (1 : Int32) = 0 from by decide), zbd_e m4, if_pos rfl, zbd_e ex, zin_nI (show o < 200 by omega) (by decide), zx_nI (show o < 2 ^ 31 by omega), j39, j37]
      simp only [zgd_t, zlet]
    have hSx := kSh_k hS fv Fyx (by decide)
    have vi36 : zI v 36 o = zI ur 36 o := vi 36 o (by omega)
    obtain ⟨e37, e44, eF⟩ := hS.2.2.2.2.2.2.2.2 o ho
    by_cases z36 : zI ur 36 o = -1
    · -- no shape
      rw [if_pos z36] at ev
      have kS : ∀ (z : zMu), fT tgC [7] x z → (∀ a j, zI z a j = zI x a j) → (∀ a j, zL z a j = zL x a j) → (∀ a, zN z a = zN x a) → ∀ vr vc, fT tgR [6] v vr → fT tgC [6] z vc → kSh (cX C) (wAM W o (w, wM W, c)) vr vc := fun z _ h1 h2 h3 vr vc g1 g2 => by
        have fz : fT tgC [6] x vc := by
          refine ⟨fun a j q => (g2.1 a j q).trans (h1 a j), fun a j q => (g2.2.1 a j q).trans (h2 a j), ?_, fun a q => (g2.2.2.2.1 a q).trans (h3 a), ?_, ?_, vKp_tr ‹fT tgC [7] x z›.2.2.2.2.2.2 g2.2.2.2.2.2.2⟩
          · rw [g2.2.2.1]
            exact ‹fT tgC [7] x z›.2.2.1
          · have p1 : pA z = pA x := by unfold pA; simp only [h3]
            have := g2.2.2.2.2.1
            have := ‹fT tgC [7] x z›.2.2.2.2.1
            omega
          · have p1 : pB z = pB x := by unfold pB; simp only [h3]
            have := g2.2.2.2.2.2.1
            have := ‹fT tgC [7] x z›.2.2.2.2.2.1
            omega
        have := kSh_k hSx g1 fz (by decide)
        refine kSh_mem (o := o) this rfl rfl rfl rfl (fun o' hne => by rw [wAM_l, if_neg hne]) ?_
        rw [fT_i g1 (by decide) (show tgR 36 o = 7 from rfl), vi36]; exact z36
      by_cases z8 : (8 : Int32) < nI ((wl W o).length + 1)
      · have el : ce_H_loseShape n x (nI o) = some ((), zsI x 37 o (-1)) := by
          unfold ce_H_loseShape
          rw [zin_nI (show o < 200 by omega) (by decide), zgd_t, zx_nI (show o < 2 ^ 31 by omega), j37, if_pos z36, zgd_t]
          rfl
        have pw : ∀ a j, zI (zsI x 37 o (-1)) a j = zI x a j := fun a j => by
          rw [gI_sI]
          by_cases y : a = 37 ∧ j = o
          · rw [if_pos y, y.1, y.2, j37, z36]
          · rw [if_neg y]
        have f7 : fT tgC [7] x (zsI x 37 o (-1)) := fT_I (fT_rf _ _ _) _ 7 rfl (by decide)
        exact fin v (zsI x 37 o (-1)) W (fT_rf _ _ _) f7 rfl rfl rfl rfl rfl rfl rfl (wLe_rf _) ev (fun Y hY => give Y (by rw [if_pos z8, zbd_e el]; exact hY)) (kS _ f7 pw (fun _ _ => rfl) (fun _ => rfl))
      · exact fin v x W (fT_rf _ _ _) (fT_rf _ _ _) rfl rfl rfl rfl rfl rfl rfl (wLe_rf _) ev (fun Y hY => give Y (by rw [if_neg z8, if_pos z36]; exact hY)) (kS x (fT_rf _ _ _) (fun _ _ => rfl) (fun _ _ => rfl) (fun _ => rfl))
    · rw [if_neg z36] at ev
      rcases eF with eF | ⟨sh, f1, f2, f3, f4, f5⟩
      · exact absurd eF z36
      by_cases z8 : (8 : Int32) < nI ((wl W o).length + 1)
      · -- it loses its shape
        rw [if_pos z8] at ev
        have el : ce_H_loseShape n x (nI o) = some ((), zsI (zsI x 36 8 (zI x 36 8 + 1)) 37 o (-1)) := by
          unfold ce_H_loseShape
          rw [zin_nI (show o < 200 by omega) (by decide), zgd_t, zx_nI (show o < 2 ^ 31 by omega), j37, if_neg z36]
          rfl
        have f7 : fT tgC [7] x (zsI (zsI x 36 8 (zI x 36 8 + 1)) 37 o (-1)) := fT_I (fT_I (fT_rf _ _ _) _ 7 rfl (by decide)) _ 7 rfl (by decide)
        have g7 : fT tgR [7] v (zsI (zsI v 36 o (-1)) 0 61 (zI ur 0 61 + 1)) := fT_I (fT_I (fT_rf _ _ _) _ 7 rfl (by decide)) _ 7 rfl (by decide)
        have v61 : zI v 0 61 = zI ur 0 61 := vi 0 61 (by omega)
        have kL : kSh (cX C) W (zsI (zsI v 36 o (-1)) 0 61 (zI ur 0 61 + 1)) (zsI (zsI x 36 8 (zI x 36 8 + 1)) 37 o (-1)) := by
          refine kSh_lose (o := o) hSx ho (Or.inr f5) (fun o' => ?_) (fun a j q1 q2 _ => ?_) (fun o' => ?_) (fun a j q1 q2 _ => ?_) (fun _ => rfl) (fun _ _ _ => rfl) ?_
          · rw [gI_sI, if_neg (by omega), gI_sI]
            by_cases q : o' = o
            · rw [if_pos ⟨rfl, q⟩, if_pos q]
            · rw [if_neg (fun q' => q q'.2), if_neg q]
          · rw [gI_sI, if_neg q2, gI_sI, if_neg (fun q' => q1 q'.1)]
          · rw [gI_sI]
            by_cases q : o' = o
            · rw [if_pos ⟨rfl, q⟩, if_pos q]
            · rw [if_neg (fun q' => q q'.2), if_neg q, gI_sI, if_neg (by omega)]
          · rw [gI_sI, if_neg (fun q' => q1 q'.1), gI_sI, if_neg q2]
          · rw [gI_sI, if_neg (by omega), gI_sI, if_pos ⟨rfl, rfl⟩, gI_sI, if_pos ⟨rfl, rfl⟩, hSx.2.2.2.1, v61]
        exact fin _ _ W g7 f7 rfl rfl rfl rfl rfl rfl rfl (wLe_rf _) ev (fun Y hY => give Y (by rw [if_pos z8, zbd_e el]; exact hY)) (fun vr vc g1 g2 => by
          refine kSh_mem (o := o) (kSh_k kL g1 g2 (by decide)) rfl rfl rfl rfl (fun o' hne => by rw [wAM_l, if_neg hne]) ?_
          rw [fT_i g1 (by decide) (show tgR 36 o = 7 from rfl), gI_sI, if_neg (by omega), gI_sI, if_pos ⟨rfl, rfl⟩])
      · -- a longer shape
        rw [if_neg z8] at ev
        have l8 : (wl W o).length + 1 ≤ 8 := by
          by_cases q : (wl W o).length + 1 ≤ 8
          · exact q
          · exact absurd (show nI 8 < nI ((wl W o).length + 1) from nI_lt (by omega) (by omega)) z8
        have kn8 : kSn W ur < 1800 := by
          unfold kSn
          have u1 := kSm_up (f := fun o => if zI ur 36 o = -1 then 9 else 1 + (wl W o).length) (g := fun o' => if o' = o then 9 else if zI ur 36 o' = -1 then 9 else 1 + (wl W o').length) (i := o) (wO W) ho (fun j hj hne => if_neg hne)
          have u2 := kSm_le (f := fun o' => if o' = o then 9 else if zI ur 36 o' = -1 then 9 else 1 + (wl W o').length) (b := 9) (wO W) (fun j hj => by
            by_cases q : j = o
            · rw [if_pos q]; exact Nat.le_refl _
            · rw [if_neg q]
              by_cases q2 : zI ur 36 j = -1
              · rw [if_pos q2]; exact Nat.le_refl _
              · rw [if_neg q2]
                obtain ⟨-, -, y⟩ := hS.2.2.2.2.2.2.2.2 j hj
                rcases y with y | ⟨s, -, -, -, -, y⟩
                · exact absurd y q2
                · omega)
          simp only [if_true, if_neg z36] at u1
          omega
        have s18 : wS W < 1800 := by have := hS.1.1; omega
        have dx : zdy x = true := (fT_dy Fyx).trans hd
        obtain ⟨s', V1, vr1, vc1, q1, q2, q3, q4, q5, q6, q7, q8, q9, ⟨x1, x2, x3, x4⟩, x5⟩ := k_with n hn hI hN (kSh_t hSx) s18 o2 dx f1 hw
        have i35 : zI ur 35 o = iP (ws W sh) := by rw [f3]; exact (hO.2.2.2 o ho).2.1
        rw [i35, f2, zbd_e q1] at ev
        have VW : wO V1 = wO W ∧ wR V1 = wR W ∧ wM V1 = wM W ∧ wP V1 = wP W ∧ wp V1 = wp W ∧ wl V1 = wl W ∧ wf V1 = wf W ∧ wLe W V1 ∧ wS V1 ≤ wS W + 1 := by
          rcases q9 with rfl | rfl
          · exact ⟨rfl, rfl, rfl, rfl, rfl, rfl, rfl, wLe_rf _, by omega⟩
          · exact ⟨rfl, rfl, rfl, rfl, rfl, rfl, rfl, wAS_le _ _ _ _, Nat.le_refl _⟩
        obtain ⟨w1, w2, w3, w4, w5, w6, w7, w8, w9⟩ := VW
        have s31 : s' < 2 ^ 31 := by omega
        have g7 : fT tgR [7] v (zsI vr1 36 o (nI s')) := fT_I q3 _ 7 rfl (by decide)
        have f7 : fT tgC [7] x (zsI vc1 37 o (nI s')) := fT_I q4 _ 7 rfl (by decide)
        refine fin _ _ V1 g7 f7 w1 w2 w3 w4 w5 w6 w7 w8 ev (fun Y hY => give Y (by rw [if_neg z8, if_neg z36, f2, zbd_e q2]; exact hY)) (fun vr vc g1 g2 => ?_)
        have key : kSh (cX C) (wAM V1 o (w, wM W, c)) (zsI vr1 36 o (nI s')) (zsI vc1 37 o (nI s')) := by
          obtain ⟨t1, t2, t3, ⟨Ch, t4⟩, t5, t6⟩ := q5
          have r36 : ∀ o', zI (zsI vr1 36 o (nI s')) 36 o' = if o' = o then nI s' else zI ur 36 o' := fun o' => by
            rw [gI_sI, x1, vi 36 o' (by omega)]
            by_cases q : o' = o
            · rw [if_pos ⟨rfl, q⟩, if_pos q]
            · rw [if_neg (fun q' => q q'.2), if_neg q]
          have el : ∀ o', wl (wAM V1 o (w, wM W, c)) o' = if o' = o then wl W o ++ [(w, wM W, c)] else wl W o' := fun o' => by rw [wAM_l, w6]
          have kn : kSn (wAM V1 o (w, wM W, c)) (zsI vr1 36 o (nI s')) = kSn W ur + 1 := by
            unfold kSn
            have u1 := kSm_up (f := fun o => if zI ur 36 o = -1 then 9 else 1 + (wl W o).length) (g := fun o' => if zI (zsI vr1 36 o (nI s')) 36 o' = -1 then 9 else 1 + (wl (wAM V1 o (w, wM W, c)) o').length) (i := o) (wO W) ho (fun j hj hne => by rw [r36, if_neg hne, el, if_neg hne])
            simp only [r36, el, if_true, if_neg z36, if_neg (nI_m1 s31), List.length_append, List.length_singleton] at u1
            show kSm _ (wO V1) = _
            rw [w1]
            simp only [r36, el]
            omega
          refine ⟨⟨by rw [kn]; show wS V1 ≤ _; have := hS.1.1; omega, by show wS V1 ≤ _; omega⟩, by rw [gI_sI, if_neg (by omega)]; exact t1, by rw [gI_sI, if_neg (by omega)]; exact t2, by rw [gI_sI, if_neg (by omega), gI_sI, if_neg (by omega), x4, x2]; exact hSx.2.2.2.1, t3, ⟨Ch, fun s2 hs2 => ?_⟩, t5, fun q hq => by rw [gI_sI, if_neg (by omega)]; exact t6 q hq, fun o' ho' => ?_⟩
          · have := t4 s2 hs2
            unfold kSo at this ⊢
            rw [gI_sI, if_neg (by omega), gI_sI, if_neg (by omega), gI_sI, if_neg (by omega), gI_sI, if_neg (by omega), gI_sI, if_neg (by omega), gI_sI, if_neg (by omega), gI_sI, if_neg (by omega), gI_sI, if_neg (by omega), gI_sI, if_neg (by omega), gL_sI, show (fun c => zI (zsI vc1 37 o (nI s')) 87 c) = fun c => zI vc1 87 c from funext fun c => by rw [gI_sI, if_neg (by omega)]]
            exact this
          · have ho' : o' < wO W := by rw [← w1]; exact ho'
            obtain ⟨d1, d2, d3⟩ := hSx.2.2.2.2.2.2.2.2 o' ho'
            have ep : wp (wAM V1 o (w, wM W, c)) = wp W := w5
            refine ⟨?_, ?_, ?_⟩
            · rw [r36, gI_sI, x3]
              by_cases q : o' = o
              · rw [if_pos ⟨rfl, q⟩, if_pos q]
              · rw [if_neg (fun q' => q q'.2), if_neg q, d1, vi 36 o' (by omega)]
            · rw [ep, gI_sI, if_neg (by omega), x5]; exact d2
            · rw [r36, el, ep]
              by_cases q : o' = o
              · rw [if_pos q, if_pos q]
                refine Or.inr ⟨s', q6, rfl, ?_, ?_, ?_⟩
                · show ws V1 s' = _
                  rw [q7, f3, q]
                · show wn V1 s' = _
                  rw [q8, f4, List.map_append]
                  rfl
                · rw [List.length_append, List.length_singleton]; exact l8
              · rw [if_neg q, if_neg q, ← vi 36 o' (by omega)]
                rcases d3 with d3 | ⟨s2, e1, e2, e3, e4, e5⟩
                · exact Or.inl d3
                · refine Or.inr ⟨s2, by show s2 < wS V1; have := w8.2.2.1; omega, e2, ?_, ?_, e5⟩
                  · show ws V1 s2 = _
                    rw [(w8.2.2.2.2 s2 e1).1]; exact e3
                  · show wn V1 s2 = _
                    rw [(w8.2.2.2.2 s2 e1).2.2]; exact e4
        exact kSh_k key g1 g2 (by decide)
