/-! RUNNING: roots; an object's line -/
theorem iP_1 (q : Nat) : iP q + 1 = nI q := by
  cases q with
  | zero => decide
  | succ q => rw [iP_s, nI_1]
theorem k_root (n : Nat) (hn : 20000 ≤ n) {X : pCx} {W : kW} {ur uc : zMu} (h : kTr X W ur uc) (hS : wS W < 1800) (hO : wO W < 200) (hd : zdy uc = true) {q : Nat} (hq : q ≤ wO W) : ∃ s V vr vc, rf_shapeOf n ur (iP q) (-1) (-1) = some (nI s, vr) ∧ ce_S_rootOf n uc (iP q) = some (nI s, vc) ∧ fT tgR [7] ur vr ∧ fT tgC [7] uc vc ∧ kTr X V vr vc ∧ s < wS V ∧ ws V s = q ∧ wn V s = [] ∧ (V = W ∨ V = wAS W q 0 []) ∧ kS7 ur uc vr vc ∧ (∀ q', ¬ q' = q → zI vc 44 q' = zI uc 44 q') ∧ ¬ zI vc 44 q = -1 := by
  obtain ⟨t1, t2, ⟨l1, l2, l3, l4⟩, ⟨Ch, hCh⟩, t5, t6⟩ := h
  have wu31 : ∀ s, s < wS W → wu W s < 2 ^ 31 ∧ ws W s < 2 ^ 31 := fun s hs => by
    obtain ⟨⟨a, b⟩, -⟩ := hCh s hs
    omega
  have mr : ∀ s, s < wS W → zI ur 44 s = iP q → zI ur 45 s = -1 → wu W s = 0 ∧ ws W s = q ∧ wn W s = [] := by
    intro s hs a b
    obtain ⟨-, y2, y3, -, y5, -⟩ := hCh s hs
    have e1 : ws W s = q := (iP_inj (wu31 s hs).2 (by omega)).mp (y3.symm.trans a)
    have e2 : wu W s = 0 := (iP_inj (wu31 s hs).1 (by omega)).mp (y5.symm.trans b)
    rcases y2 with ⟨-, q2, -⟩ | ⟨q2, -⟩
    · exact ⟨e2, e1, q2⟩
    · exact absurd e2 q2
  have er : ∀ Y, ce_S_rootOf n uc (iP q) = Y ↔ (if zI uc 44 q = -1 then (zbd (ce_S_add n uc (iP q) (-1) 0) fun r5 u6 => zgd true (zlet (zsI u6 44 q r5) fun u7 => zgd true (some (zI u7 44 q, u7)))) else zgd true (some (zI uc 44 q, uc))) = Y := by
    intro Y
    unfold ce_S_rootOf
    have n1 : ¬ iP q < -1 := by
      cases q with
      | zero => decide
      | succ q => rw [iP_s]; exact fun z => nI_pos (n := q) (by omega) (Int32.lt_of_lt_of_le z (by decide))
    have n2 : iP q < 200 := by
      cases q with
      | zero => decide
      | succ q => rw [iP_s]; exact nI_lt (b := 200) (by omega) (by decide)
    rw [if_neg n1, if_pos n2, iP_1, zin_nI (show q < 201 by omega) (by decide), zgd_t, zx_nI (show q < 2 ^ 31 by omega)]
  have sr := kr_search n (S := wS W) (u := ur) (by omega) t1 (iP q) (-1) (-1) (wS W) 0 n (by omega) (by omega)
  rcases t6 q (by omega) with ⟨y1, y2⟩ | ⟨s, y1, y2, y3, y4⟩
  · -- a new root
    rcases sr with ⟨s, -, a2, a3, a4, a5, -⟩ | ⟨-, a2⟩
    · exact absurd (mr s a2 a3 a4).2.1 (y2 s a2)
    obtain ⟨vr, e1, f1, v1, v2, v3, v4, v5, v6⟩ := kr_make n (S := wS W) (t := 0) (len := 0) (u := ur) (by omega) t1 (by omega) (Or.inl ⟨rfl, rfl⟩) (iP q) (-1)
    obtain ⟨wc, e2, f2, w1, w2, w3, w4, w5, w6, w7, w8, w9, w10, n1, n2, n3, n4⟩ := ck_add n (S := wS W) (t := 0) (u := uc) hd l4 l1 l3 hS l2 t2 (by omega) (len := 0) (Or.inl ⟨rfl, rfl⟩) (iP q) 0
    have ewc : ∀ a j, (81 ≤ a ∧ j < wS W) ∨ ¬ ((81 ≤ a ∧ a ≤ 87) ∨ (a = 43 ∧ j = 8)) → zI wc a j = zI uc a j := fun a j q => w1 a j (q.symm)
    have e0 : ce_S_rootOf n uc (iP q) = some (nI (wS W), zsI wc 44 q (nI (wS W))) := by
      refine (er _).mpr ?_
      rw [if_pos y1, zbd_e (show ce_S_add n uc (iP q) (-1) 0 = some (nI (wS W), wc) from e2), zgd_t]
      show some (zI (zsI wc 44 q (nI (wS W))) 44 q, zsI wc 44 q (nI (wS W))) = _
      rw [gI_sI, if_pos ⟨rfl, rfl⟩]
    obtain ⟨vc, hvc⟩ : ∃ vc, zsI wc 44 q (nI (wS W)) = vc := ⟨_, rfl⟩
    rw [hvc] at e0
    have F2 : fT tgC [7] uc vc := by subst hvc; exact fT_I f2 _ 7 rfl (by decide)
    have ivc : ∀ a j, ¬ (a = 44 ∧ j = q) → zI vc a j = zI wc a j := fun a j z => by subst hvc; rw [gI_sI, if_neg z]
    have x44 : zI vc 44 q = nI (wS W) := by subst hvc; rw [gI_sI, if_pos ⟨rfl, rfl⟩]
    have lvc : ∀ j, zL vc 85 j = zL wc 85 j := fun j => by subst hvc; rfl
    have nvc : ∀ a, zN vc a = zN wc a := fun a => by subst hvc; rfl
    have i87 : ∀ c, c < wS W → zI vc 87 c = zI uc 87 c := fun c hc => (ivc 87 c (by omega)).trans (ewc 87 c (Or.inl ⟨by omega, hc⟩))
    refine ⟨wS W, wAS W q 0 [], vr, vc, (a2 1 (by omega)).trans e1, e0, f1, F2, ⟨v2, ?_, ⟨by rw [nvc]; exact n1, by rw [nvc]; exact n2, by rw [nvc]; exact n3, fun a p q => by rw [nvc, nvc]; exact n4 a p q⟩, ⟨fun s => if s = wS W then [] else Ch s, fun s hs => ?_⟩, fun s s' hs hs' a b => ?_, fun q' hq' => ?_⟩, Nat.lt_succ_self _, by rw [wAS_ws, if_pos rfl], by rw [wAS_wn, if_pos rfl], Or.inr rfl, ⟨fun o => v1 36 o (by omega), v1 0 61 (by omega), fun o => (ivc 37 o (by omega)).trans (ewc 37 o (by omega)), (ivc 36 8 (by omega)).trans (ewc 36 8 (by omega))⟩, fun q' z => (ivc 44 q' (by omega)).trans (ewc 44 q' (by omega)), by rw [x44]; exact nI_m1 (by omega)⟩
    · rw [ivc 43 8 (by omega)]; exact w3
    · have hs : s < wS W + 1 := hs
      by_cases z : s = wS W
      · subst z
        refine ⟨⟨by rw [wAS_ws, if_pos rfl]; exact hq, by rw [wAS_wu, if_pos rfl]; omega⟩, Or.inl ⟨by rw [wAS_wu, if_pos rfl], by rw [wAS_wn, if_pos rfl], v5⟩, by rw [v3, wAS_ws, if_pos rfl], by rw [ivc 81 _ (by omega), w4, wAS_ws, if_pos rfl], by rw [v4, wAS_wu, if_pos rfl], by rw [ivc 83 _ (by omega), w6, wAS_wu, if_pos rfl], ⟨?_, ?_⟩, ?_, ?_, ?_, fun c => ?_⟩
        · rw [v6, wAS_wn, if_pos rfl]; rfl
        · rw [ivc 82 _ (by omega), w5, wAS_wn, if_pos rfl]; rfl
        · simp only [if_true]
          show zI vc 86 (wS W) = -1
          rw [ivc 86 _ (by omega)]; exact w9
        · simp only [if_true]
          rw [ivc 84 _ (by omega), w7]; rfl
        · simp only [if_true]
          exact List.nodup_nil
        · simp only [if_true]
          rw [wAS_wu]
          refine ⟨fun q => absurd q (by simp), fun q => ?_⟩
          have qq : c < wS W + 1 := q.1
          have q2 := q.2
          by_cases y : c = wS W
          · rw [if_pos y] at q2; omega
          · rw [if_neg y] at q2
            have := (hCh c (by omega)).1.2
            omega
      · have hs' : s < wS W := by omega
        obtain ⟨-, -, -, -, -, -, -, y8, y9, y10, y11⟩ := hCh s hs'
        refine kSo_new (Ch' := fun s => if s = wS W then [] else Ch s) (w := 0) hs' (hCh s hs') (fun a p q => v1 a s (by omega)) (fun a p q => (ivc a s (by omega)).trans (ewc a s (Or.inl ⟨by omega, hs'⟩))) (by rw [lvc]; exact w2 85 s (Or.inr hs')) ?_ ?_ ?_ ?_
        · simp only [if_neg z]
          rw [ivc 86 s (by omega), ewc 86 s (Or.inl ⟨by omega, hs'⟩)]
          exact kCh_k _ _ (fun c hc => i87 c ((y11 c).mp hc).1) y8
        · simp only [if_neg z]
          rw [ivc 84 s (by omega), ewc 84 s (Or.inl ⟨by omega, hs'⟩)]; exact y9
        · simp only [if_neg z]
          exact y10
        · intro c
          simp only [if_neg z]
          rw [y11]
          by_cases x : c = wS W
          · rw [if_pos x]; exact ⟨fun q => by omega, fun q => by omega⟩
          · rw [if_neg x]
            exact ⟨fun q => ⟨by omega, q.2⟩, fun q => ⟨by omega, q.2⟩⟩
    · have hs : s < wS W + 1 := hs
      have hs' : s' < wS W + 1 := hs'
      rw [wAS_ws, wAS_ws] at a
      rw [wAS_wn, wAS_wn] at b
      by_cases z : s = wS W
      · by_cases z' : s' = wS W
        · omega
        · rw [if_pos z, if_neg z'] at a
          exact absurd a.symm (y2 s' (by omega))
      · by_cases z' : s' = wS W
        · rw [if_neg z, if_pos z'] at a
          exact absurd a (y2 s (by omega))
        · rw [if_neg z, if_neg z'] at a b
          exact t5 s s' (by omega) (by omega) a b
    · by_cases z : q' = q
      · subst z
        exact Or.inr ⟨wS W, Nat.lt_succ_self _, x44, by rw [wAS_wu, if_pos rfl], by rw [wAS_ws, if_pos rfl]⟩
      · rw [show zI vc 44 q' = zI uc 44 q' from (ivc 44 q' (by omega)).trans (ewc 44 q' (by omega))]
        rcases t6 q' hq' with ⟨x1, x2⟩ | ⟨s, x1, x2, x3, x4⟩
        · refine Or.inl ⟨x1, fun s hs => ?_⟩
          have hs : s < wS W + 1 := hs
          rw [wAS_ws]
          by_cases y : s = wS W
          · rw [if_pos y]; exact fun e => z e.symm
          · rw [if_neg y]; exact x2 s (by omega)
        · exact Or.inr ⟨s, Nat.lt_succ_of_lt x1, x2, by rw [wAS_wu, if_neg (by omega)]; exact x3, by rw [wAS_ws, if_neg (by omega)]; exact x4⟩
  · -- it is there
    obtain ⟨-, z2, z3, -, z5, -⟩ := hCh s y1
    have ns : wn W s = [] := by
      rcases z2 with ⟨-, q2, -⟩ | ⟨q2, -⟩
      · exact q2
      · exact absurd y3 q2
    have s46 : zI ur 46 s = -1 := by
      rcases z2 with ⟨-, -, q2⟩ | ⟨q2, -⟩
      · exact q2
      · exact absurd y3 q2
    have n44 : ¬ zI uc 44 q = -1 := by rw [y2]; exact nI_m1 (by omega)
    rcases sr with ⟨s', -, a2, a3, a4, a5, a6⟩ | ⟨a1, -⟩
    · obtain ⟨b1, b2, b3⟩ := mr s' a2 a3 a4
      have es : s' = s := t5 s' s a2 y1 (b2.trans y4.symm) (b3.trans ns.symm)
      subst es
      refine ⟨s', W, ur, uc, a6, (er _).mpr ?_, fT_rf _ _ _, fT_rf _ _ _, ⟨t1, t2, ⟨l1, l2, l3, l4⟩, ⟨Ch, hCh⟩, t5, t6⟩, a2, b2, b3, Or.inl rfl, ⟨fun _ => rfl, rfl, fun _ => rfl, rfl⟩, fun _ _ => rfl, n44⟩
      rw [if_neg n44, zgd_t, y2]
    · exact absurd ⟨by rw [z3, y4], by rw [z5, y3]; rfl, s46⟩ (a1 s (by omega) y1)
/-- a new object's line -/
theorem kc_lineL (n : Nat) {O q : Nat} (hO : O < 200) (hq : q ≤ O) {u0 : zMu} : ∀ d j m u, j + d = 4 → d < m → (∀ i, i < 4 * O → zL u 42 i = zL u0 42 i) → ∃ v, ce_H_addObject_L79 n m u (iP q) (nI O) (nI j) = some (nI O, zsL v 42 (4 * O + O / 64) ((zL v 42 (4 * O + O / 64)) ||| (1 <<< ((nI (O % 64)).toInt64 &&& 63)))) ∧ fT tgC [5] u v ∧ (∀ a i, zI v a i = zI u a i) ∧ (∀ a i, ¬ (a = 42 ∧ 4 * O ≤ i ∧ i < 4 * O + 4) → zL v a i = zL u a i) ∧ ∀ i, i < 4 → zL v 42 (4 * O + i) = if j ≤ i then (if q = 0 then 0 else zL u0 42 (4 * (q - 1) + i)) else zL u 42 (4 * O + i) := by
  intro d
  induction d with
  | zero =>
    intro j m u hj hm h
    obtain ⟨m, rfl⟩ : ∃ k, m = k + 1 := ⟨m - 1, by omega⟩
    refine ⟨u, ?_, fT_rf _ _ _, fun _ _ => rfl, fun _ _ _ => rfl, fun i hi => by rw [if_neg (by omega)]⟩
    rw [ce_H_addObject_L79, if_neg (show ¬ nI j < (4 : Int32) from nI_nlt (b := 4) (by omega) (by omega)), rm64 hO, dv64 O hO, (sh4 O (O / 64)).1]
    simp only [zlet]
    rw [zin_nI (show 4 * O + O / 64 < 800 by omega) (by decide), zgd_t, zgd_t, zx_nI (show 4 * O + O / 64 < 2 ^ 31 by omega)]
  | succ d ih =>
    intro j m u hj hm h
    obtain ⟨m, rfl⟩ : ∃ k, m = k + 1 := ⟨m - 1, by omega⟩
    obtain ⟨y, hy⟩ : ∃ y, (if q = 0 then 0 else zL u0 42 (4 * (q - 1) + j)) = y := ⟨_, rfl⟩
    have st : ce_H_addObject_L79 n (m + 1) u (iP q) (nI O) (nI j) = ce_H_addObject_L79 n m (zsL u 42 (4 * O + j) y) (iP q) (nI O) (nI (j + 1)) := by
      rw [ce_H_addObject_L79, if_pos (show nI j < (4 : Int32) from nI_lt (b := 4) (by omega) (by decide)), (sh4 O j).1, zin_nI (show 4 * O + j < 800 by omega) (by decide), zgd_t, zgd_t, zx_nI (show 4 * O + j < 2 ^ 31 by omega), nI_1]
      cases q with
      | zero =>
        rw [if_pos (show iP 0 < 0 from by decide), ← hy, if_pos rfl]
        rfl
      | succ q =>
        rw [iP_s, if_neg (nI_pos (by omega)), (sh4 q j).1, zin_nI (show 4 * q + j < 800 by omega) (by decide), zgd_t, zx_nI (show 4 * q + j < 2 ^ 31 by omega), h _ (by omega), ← hy, if_neg (by omega), show q + 1 - 1 = q from by omega]
        rfl
    obtain ⟨v, e, f1, f2, f3, f4⟩ := ih (j + 1) m (zsL u 42 (4 * O + j) y) (by omega) (by omega) (fun i hi => by rw [gL_sL, if_neg (by omega)]; exact h i hi)
    refine ⟨v, st.trans e, fT_tr (fT_L (fT_rf _ _ _) _ 5 rfl (by decide)) f1, fun a i => f2 a i, fun a i z => ?_, fun i hi => ?_⟩
    · rw [f3 a i z, gL_sL, if_neg (by omega)]
    · rw [f4 i hi, gL_sL]
      by_cases z : j = i
      · subst z
        rw [if_neg (by omega), if_pos ⟨rfl, rfl⟩, if_pos (Nat.le_refl _), hy]
      · by_cases x : j + 1 ≤ i
        · rw [if_pos x, if_pos (show j ≤ i by omega)]
        · rw [if_neg x, if_neg (show ¬ (42 = 42 ∧ 4 * O + i = 4 * O + j) by omega), if_neg (show ¬ j ≤ i by omega)]
theorem kc_line (n : Nat) (hn : 100 ≤ n) {O q : Nat} (hO : O < 200) (hq : q ≤ O) (u : zMu) : ∃ v, ce_H_addObject_L79 n n u (iP q) (nI O) 0 = some (nI O, v) ∧ fT tgC [5] u v ∧ (∀ a i, zI v a i = zI u a i) ∧ (∀ a i, ¬ (a = 42 ∧ 4 * O ≤ i ∧ i < 4 * O + 4) → zL v a i = zL u a i) ∧ ∀ x, x < 200 → (lnB v O x ↔ (x = O ∨ (¬ q = 0 ∧ lnB u (q - 1) x))) := by
  obtain ⟨v, e, f1, f2, f3, f4⟩ := kc_lineL n hO hq (u0 := u) 4 0 n u (by omega) (by omega) (fun _ _ => rfl)
  refine ⟨_, e, fT_L f1 _ 5 rfl (by decide), fun a i => f2 a i, fun a i z => ?_, fun x hx => ?_⟩
  · rw [gL_sL, if_neg (by omega), f3 a i z]
  · have e4 : zL v 42 (4 * O + x / 64) = if q = 0 then 0 else zL u 42 (4 * (q - 1) + x / 64) := by rw [f4 (x / 64) (by omega), if_pos (Nat.zero_le _)]
    have old : (zL v 42 (4 * O + x / 64)).toBitVec.getLsbD (x % 64) = true ↔ (¬ q = 0 ∧ lnB u (q - 1) x) := by
      rw [e4]
      by_cases z : q = 0
      · rw [if_pos z]
        refine ⟨fun y => absurd y ?_, fun y => absurd z y.1⟩
        show ¬ (0#64).getLsbD (x % 64) = true
        simp
      · rw [if_neg z]
        exact ⟨fun y => ⟨z, y⟩, fun y => y.2⟩
    unfold lnB
    rw [gL_sL]
    by_cases z : x / 64 = O / 64
    · rw [if_pos ⟨rfl, by omega⟩, ← z, bit_or _ (by omega) (by omega), old]
      have : x % 64 = O % 64 ↔ x = O := by omega
      rw [this]
      exact ⟨fun y => y.symm, fun y => y.symm⟩
    · rw [if_neg (by omega), old]
      exact ⟨Or.inr, fun y => y.elim (fun y => absurd (by rw [y]) z) id⟩
