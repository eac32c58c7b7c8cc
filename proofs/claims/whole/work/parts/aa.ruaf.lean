/-! RUNNING: a member is struck: chains -/
theorem kCh_rm {f g : Nat → Int32} {c : Nat} {post : List Nat} (hp : ∀ z, z ∈ post → g z = f z) : ∀ (pre : List Nat) (h : Int32), kCh f h (pre ++ c :: post) → (∀ z, z ∈ pre → ¬ some z = pre.getLast? → g z = f z) → (∀ z, pre.getLast? = some z → g z = f c) → (pre).Nodup → kCh g (if pre = [] then f c else h) (pre ++ post) := by
  intro pre
  induction pre with
  | nil =>
    intro h q _ _ _
    rw [if_pos rfl]
    exact kCh_k _ _ hp q.2
  | cons a pre ih =>
    intro h q h1 h2 hd
    rw [if_neg (by simp)]
    refine ⟨q.1, ?_⟩
    rw [List.nodup_cons] at hd
    show kCh g (g a) (pre ++ post)
    by_cases z : pre = []
    · subst z
      rw [h2 a (by simp)]
      exact kCh_k _ _ hp q.2.2
    · have ga : g a = f a := h1 a (by simp) (fun y => by
        rw [List.getLast?_cons_of_ne_nil z] at y
        exact hd.1 (List.mem_of_getLast? y.symm))
      have := ih (f a) q.2 (fun z' hz' y => h1 z' (by simp [hz']) (fun y' => y (by rw [List.getLast?_cons_of_ne_nil z] at y'; exact y'))) (fun z' hz' => h2 z' (by rw [List.getLast?_cons_of_ne_nil z]; exact hz')) hd.2
      rw [if_neg z] at this
      rw [ga]
      exact this
theorem kLa_rm {pre post : List Nat} {c : Nat} (hc : c < 2 ^ 31) (hn : ¬ c ∈ post) (hb : ∀ z, z ∈ post → z < 2 ^ 31) : (if kLa (pre ++ c :: post) = nI c then kLa pre else kLa (pre ++ c :: post)) = kLa (pre ++ post) := by
  cases post with
  | nil =>
    rw [List.append_nil, kLa_app, if_pos rfl]
  | cons a post =>
    have e1 : kLa (pre ++ c :: a :: post) = kLa (a :: post) := by
      unfold kLa
      rw [List.getLast?_append, List.getLast?_cons_cons]
      cases hg : (a :: post).getLast? with
      | none => exact absurd (List.getLast?_eq_none_iff.mp hg) (by simp)
      | some z => rfl
    have e2 : kLa (pre ++ a :: post) = kLa (a :: post) := by
      unfold kLa
      rw [List.getLast?_append]
      cases hg : (a :: post).getLast? with
      | none => exact absurd (List.getLast?_eq_none_iff.mp hg) (by simp)
      | some z => rfl
    rw [e1, e2, if_neg]
    intro q
    unfold kLa at q
    cases hg : (a :: post).getLast? with
    | none => exact absurd (List.getLast?_eq_none_iff.mp hg) (by simp)
    | some z =>
      rw [hg] at q
      have hz := List.mem_of_getLast? hg
      exact hn (by rw [← (nI_eq (hb z hz) hc).mp q]; exact hz)
theorem kr_strL (n w s : Nat) (hw : w < 2 ^ 31) {u : zMu} (hs : s < 800) (es : zI u 22 s = nI w) (o : Int32) : ∀ (l : List (Nat × Nat × Nat)) (m : Nat) (h p : Int32), l.length < m → kCh (fun c => zI u 42 c) h (l.map fun m => m.2.1) → (∀ q, q ∈ l → q.2.1 < 20100 ∧ q.1 < 2 ^ 31 ∧ zI u 40 q.2.1 = nI q.1) → (∃ pre q post, l = pre ++ q :: post ∧ q.1 = w ∧ rf_strikes_L62 n m u (nI s) o p h = rf_strikes_J100 n u o (if pre = [] then p else kLa (pre.map fun m => m.2.1)) (nI q.2.1)) ∨ ((∀ q, q ∈ l → ¬ q.1 = w) ∧ ∃ p', rf_strikes_L62 n m u (nI s) o p h = rf_strikes_J100 n u o p' (-1)) := by
  intro l
  induction l with
  | nil =>
    intro m h p hm hc hq
    obtain ⟨m, rfl⟩ : ∃ k, m = k + 1 := ⟨m - 1, by simp at hm; omega⟩
    have hc : h = -1 := hc
    subst hc
    refine Or.inr ⟨fun q hq => absurd hq (by simp), p, ?_⟩
    rw [rf_strikes_L62, if_pos rfl]
  | cons a l ih =>
    intro m h p hm hc hq
    simp only [List.length_cons] at hm
    obtain ⟨m, rfl⟩ : ∃ k, m = k + 1 := ⟨m - 1, by omega⟩
    obtain ⟨h1, h2⟩ : h = nI a.2.1 ∧ kCh (fun c => zI u 42 c) (zI u 42 a.2.1) (l.map fun m : Nat × Nat × Nat => m.2.1) := hc
    obtain ⟨a1, a2, a3⟩ := hq a (by simp)
    subst h1
    by_cases z : a.1 = w
    · refine Or.inl ⟨[], a, l, rfl, z, ?_⟩
      rw [rf_strikes_L62, if_neg (nI_m1 (by omega)), zin_nI a1 (by decide), zgd_t, zin_nI hs (by decide), zgd_t, zx_nI (show a.2.1 < 2 ^ 31 by omega), zx_nI (show s < 2 ^ 31 by omega), a3, es, z, if_pos rfl, if_pos rfl]
    · have e : rf_strikes_L62 n (m + 1) u (nI s) o p (nI a.2.1) = rf_strikes_L62 n m u (nI s) o (nI a.2.1) (zI u 42 a.2.1) := by
        rw [rf_strikes_L62, if_neg (nI_m1 (by omega)), zin_nI a1 (by decide), zgd_t, zin_nI hs (by decide), zgd_t, zx_nI (show a.2.1 < 2 ^ 31 by omega), zx_nI (show s < 2 ^ 31 by omega), a3, es, if_neg (fun q => z ((nI_eq a2 hw).mp q)), zgd_t]
        rfl
      rcases ih m (zI u 42 a.2.1) (nI a.2.1) (by omega) h2 (fun q hq' => hq q (by simp [hq'])) with ⟨pre, q, post, q1, q2, q3⟩ | ⟨q1, p', q2⟩
      · refine Or.inl ⟨a :: pre, q, post, by rw [q1]; rfl, q2, ?_⟩
        rw [e, q3, if_neg (show ¬ a :: pre = [] by simp)]
        cases pre with
        | nil => rfl
        | cons b pre =>
          rw [if_neg (by simp)]
          unfold kLa
          rw [List.map_cons, List.map_cons, List.map_cons, List.getLast?_cons_cons]
      · exact Or.inr ⟨fun q hq' => by
          rcases List.mem_cons.mp hq' with y | y
          · rw [y]; exact z
          · exact q1 q y, p', e.trans q2⟩
theorem kr_strike (n : Nat) {o w s : Nat} (hn : 20000 ≤ n) (ho : o < 201) (hw : w < 2 ^ 31) {l : List (Nat × Nat × Nat)} (hl : l.length < 20000) {u : zMu} (hs : s < 800) (es : zI u 22 s = nI w) (c1 : kCh (fun c => zI u 42 c) (zI u 37 o) (l.map fun m => m.2.1)) (c2 : zI u 38 o = kLa (l.map fun m => m.2.1)) (c3 : zI u 39 o = nI l.length) (hq : ∀ q, q ∈ l → q.2.1 < 20100 ∧ q.1 < 2 ^ 31 ∧ zI u 40 q.2.1 = nI q.1) (hd : (l.map fun m => m.2.1).Nodup) : ((∀ m, m ∈ l → ¬ m.1 = w) ∧ rf_strikes_L62 n n u (nI s) (nI o) (-1) (zI u 37 o) = some (-1, u)) ∨ (∃ pre m post v, l = pre ++ m :: post ∧ m.1 = w ∧ rf_strikes_L62 n n u (nI s) (nI o) (-1) (zI u 37 o) = (if zI u 36 o = -1 then zbd (rf_breaks n v (nI o)) (fun _ u4 => some ((-1 : Int32), u4)) else zbd (rf_breaks n (zsI (zsI v 36 o (-1)) 0 61 (zI u 0 61 + 1)) (nI o)) (fun _ u8 => some ((-1 : Int32), u8))) ∧ fT tgR [6] u v ∧ kCh (fun c => zI v 42 c) (zI v 37 o) ((pre ++ post).map fun m => m.2.1) ∧ zI v 38 o = kLa ((pre ++ post).map fun m => m.2.1) ∧ zI v 39 o = nI (pre ++ post).length ∧ (∀ a j, ¬ ((a = 42 ∧ j ∈ (pre.map fun m => m.2.1)) ∨ ((a = 37 ∨ a = 38 ∨ a = 39) ∧ j = o)) → zI v a j = zI u a j) ∧ (∀ a j, zL v a j = zL u a j)) := by
  rcases kr_strL n w s hw hs es (nI o) l n (zI u 37 o) (-1) (by omega) c1 hq with ⟨pre, m, post, q1, q2, q3⟩ | ⟨q1, p', q2⟩
  · refine Or.inr ⟨pre, m, post, ?_⟩
    subst q1
    have mm := (hq m (by simp)).1
    simp only [List.map_append, List.map_cons] at c1 c2 hd
    have nd := List.nodup_append.mp hd
    have nd2 := List.nodup_cons.mp nd.2.1
    have x4 : (if pre = [] then (-1 : Int32) else kLa (pre.map fun m => m.2.1)) = kLa (pre.map fun m => m.2.1) := by
      cases pre with
      | nil => rfl
      | cons a pre => rw [if_neg (by simp)]
    rw [x4] at q3
    -- the link
    obtain ⟨u4, hu4⟩ : ∃ u4, (match (pre.map fun m => m.2.1).getLast? with | none => zsI u 37 o (zI u 42 m.2.1) | some z => zsI u 42 z (zI u 42 m.2.1)) = u4 := ⟨_, rfl⟩
    have F4 : fT tgR [6] u u4 := by
      subst hu4
      cases (pre.map fun m => m.2.1).getLast? with
      | none => exact fT_I (fT_rf _ _ _) _ 6 rfl (by decide)
      | some z => exact fT_I (fT_rf _ _ _) _ 6 rfl (by decide)
    have i4 : ∀ a j, ¬ ((a = 37 ∧ j = o) ∨ (a = 42 ∧ j ∈ (pre.map fun m => m.2.1))) → zI u4 a j = zI u a j := fun a j q => by
      subst hu4
      cases hg : (pre.map fun m => m.2.1).getLast? with
      | none => exact (gI_sI _ _ _ _ _ _).trans (if_neg (fun y => q (Or.inl y)))
      | some z => exact (gI_sI _ _ _ _ _ _).trans (if_neg (fun y => q (Or.inr ⟨y.1, by rw [y.2]; exact List.mem_of_getLast? hg⟩)))
    have l4 : ∀ a j, zL u4 a j = zL u a j := fun a j => by
      subst hu4
      cases (pre.map fun m => m.2.1).getLast? with
      | none => rfl
      | some z => rfl
    have ch4 : kCh (fun c => zI u4 42 c) (zI u4 37 o) ((pre.map fun m => m.2.1) ++ (post.map fun m => m.2.1)) := by
      have := kCh_rm (f := fun c => zI u 42 c) (g := fun c => zI u4 42 c) (c := m.2.1) (post := post.map fun m => m.2.1) (fun z hz => i4 42 z (fun y => by
        rcases y with y | y
        · omega
        · exact nd.2.2 z y.2 z (List.mem_cons_of_mem _ hz) rfl)) (pre.map fun m => m.2.1) (zI u 37 o) c1 (fun z hz y => by
        show zI u4 42 z = zI u 42 z
        subst hu4
        cases hg : (pre.map fun m => m.2.1).getLast? with
        | none => exact (gI_sI _ _ _ _ _ _).trans (if_neg (by omega))
        | some z' => exact (gI_sI _ _ _ _ _ _).trans (if_neg (fun q => y (by rw [hg, q.2])))) (fun z hz => by
        show zI u4 42 z = zI u 42 m.2.1
        subst hu4
        rw [hz]
        exact (gI_sI _ _ _ _ _ _).trans (if_pos ⟨rfl, rfl⟩)) nd.1
      have e37 : zI u4 37 o = if (pre.map fun m => m.2.1) = [] then zI u 42 m.2.1 else zI u 37 o := by
        subst hu4
        cases hg : (pre.map fun m => m.2.1).getLast? with
        | none =>
          rw [if_pos (List.getLast?_eq_none_iff.mp hg)]
          exact (gI_sI _ _ _ _ _ _).trans (if_pos ⟨rfl, rfl⟩)
        | some z =>
          rw [if_neg (fun y => by rw [y] at hg; exact absurd hg (by simp))]
          exact (gI_sI _ _ _ _ _ _).trans (if_neg (by omega))
      rw [e37]
      exact this
    -- the last
    obtain ⟨u5, hu5⟩ : ∃ u5, (if zI u4 38 o = nI m.2.1 then zsI u4 38 o (kLa (pre.map fun m => m.2.1)) else u4) = u5 := ⟨_, rfl⟩
    have i5 : ∀ a j, ¬ (a = 38 ∧ j = o) → zI u5 a j = zI u4 a j := fun a j q => by
      subst hu5
      by_cases y : zI u4 38 o = nI m.2.1
      · rw [if_pos y, gI_sI, if_neg q]
      · rw [if_neg y]
    have F5 : fT tgR [6] u u5 := by
      subst hu5
      by_cases y : zI u4 38 o = nI m.2.1
      · rw [if_pos y]; exact fT_I F4 _ 6 rfl (by decide)
      · rw [if_neg y]; exact F4
    have x38 : zI u5 38 o = kLa ((pre.map fun m => m.2.1) ++ (post.map fun m => m.2.1)) := by
      have e4 : zI u4 38 o = kLa ((pre.map fun m => m.2.1) ++ m.2.1 :: (post.map fun m => m.2.1)) := by rw [i4 38 o (by omega)]; exact c2
      rw [← kLa_rm (c := m.2.1) (by omega) nd2.1 (fun z hz => by
        obtain ⟨q, hq', e⟩ := List.mem_map.mp hz
        have := (hq q (by simp [hq'])).1
        omega)]
      subst hu5
      rw [e4]
      by_cases y : kLa ((pre.map fun m => m.2.1) ++ m.2.1 :: (post.map fun m => m.2.1)) = nI m.2.1
      · rw [if_pos y, if_pos y, gI_sI, if_pos ⟨rfl, rfl⟩]
      · rw [if_neg y, if_neg y]; exact e4
    obtain ⟨v, hv⟩ : ∃ v, zsI u5 39 o (nI (pre ++ post).length) = v := ⟨_, rfl⟩
    have iv : ∀ a j, ¬ (a = 39 ∧ j = o) → zI v a j = zI u5 a j := fun a j q => by subst hv; rw [gI_sI, if_neg q]
    have e39 : zI u5 39 o - 1 = nI (pre ++ post).length := by
      rw [i5 39 o (by omega), i4 39 o (by omega), c3]
      rw [show (pre ++ m :: post).length = (pre ++ post).length + 1 from by simp; omega, nI_pred]
    refine ⟨v, rfl, q2, ?_, ?_, ?_, ?_, ?_, fun a j q => ?_, fun a j => ?_⟩
    · rw [q3]
      have e163 : rf_strikes_J163 n u5 (nI o) = (if zI u 36 o = -1 then zbd (rf_breaks n v (nI o)) (fun _ u4 => some ((-1 : Int32), u4)) else zbd (rf_breaks n (zsI (zsI v 36 o (-1)) 0 61 (zI u 0 61 + 1)) (nI o)) (fun _ u8 => some ((-1 : Int32), u8))) := by
        unfold rf_strikes_J163
        rw [zin_nI ho (by decide), zgd_t, zgd_t, zx_nI (show o < 2 ^ 31 by omega), e39, hv]
        simp only [zlet, zgd_t]
        have j36 : zI v 36 o = zI u 36 o := by rw [iv 36 o (by omega), i5 36 o (by omega), i4 36 o (by omega)]
        have j61 : zI (zsI v 36 o (-1)) 0 61 = zI u 0 61 := by rw [gI_sI, if_neg (by omega), iv 0 61 (by omega), i5 0 61 (by omega), i4 0 61 (by omega)]
        rw [j36, j61]
      have e144 : rf_strikes_J144 n u4 (nI o) (kLa (pre.map fun m => m.2.1)) (nI m.2.1) = rf_strikes_J163 n u5 (nI o) := by
        unfold rf_strikes_J144
        rw [zin_nI ho (by decide), zgd_t, zx_nI (show o < 2 ^ 31 by omega)]
        subst hu5
        by_cases y : zI u4 38 o = nI m.2.1
        · rw [if_pos y, if_pos y, zgd_t]; rfl
        · rw [if_neg y, if_neg y]
      rw [← e163, ← e144]
      unfold rf_strikes_J100
      rw [if_neg (nI_m1 (by omega)), zin_nI mm (by decide), zgd_t, zx_nI (show m.2.1 < 2 ^ 31 by omega)]
      subst hu4
      cases hg : (pre.map fun m => m.2.1).getLast? with
      | none =>
        have : kLa (pre.map fun m => m.2.1) = -1 := by unfold kLa; rw [hg]
        rw [this, if_pos rfl, zin_nI ho (by decide), zgd_t, zx_nI (show o < 2 ^ 31 by omega)]
        rfl
      | some z =>
        have e : kLa (pre.map fun m => m.2.1) = nI z := by unfold kLa; rw [hg]
        have hz : z < 20100 := by
          obtain ⟨q, hq', e'⟩ := List.mem_map.mp (List.mem_of_getLast? hg)
          rw [← e']; exact (hq q (by simp [hq'])).1
        rw [e, if_neg (nI_m1 (by omega)), zin_nI hz (by decide), zgd_t, zx_nI (show z < 2 ^ 31 by omega)]
        rfl
    · subst hv; exact fT_I F5 _ 6 rfl (by decide)
    · rw [List.map_append, iv 37 o (by omega), i5 37 o (by omega), show (fun c => zI v 42 c) = fun c => zI u4 42 c from funext fun c => by rw [iv 42 c (by omega), i5 42 c (by omega)]]
      exact ch4
    · rw [List.map_append, iv 38 o (by omega)]; exact x38
    · subst hv; rw [gI_sI, if_pos ⟨rfl, rfl⟩]
    · rw [iv a j (fun y => q (Or.inr ⟨by omega, y.2⟩)), i5 a j (fun y => q (Or.inr ⟨by omega, y.2⟩)), i4 a j (fun y => q (by
        rcases y with y | y
        · exact Or.inr ⟨by omega, y.2⟩
        · exact Or.inl y))]
    · have e1 : zL v a j = zL u5 a j := by subst hv; rfl
      have e2 : zL u5 a j = zL u4 a j := by
        subst hu5
        by_cases y : zI u4 38 o = nI m.2.1
        · rw [if_pos y]; rfl
        · rw [if_neg y]
      rw [e1, e2, l4]
  · refine Or.inl ⟨q1, ?_⟩
    rw [q2]
    unfold rf_strikes_J100
    rw [if_pos rfl]
