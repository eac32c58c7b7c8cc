/-! RUNNING: a longer shape, a root: both -/
theorem pred_eq {a b : Nat} (h : ¬ a = 0) (e : a - 1 = b) : a = b + 1 := by omega
theorem nodup_lt : ∀ (n : Nat) (l : List Nat), l.Nodup → (∀ c, c ∈ l → c < n) → l.length ≤ n := by
  intro n
  induction n with
  | zero =>
    intro l _ h
    cases l with
    | nil => exact Nat.le_refl _
    | cons a l => exact absurd (h a (by simp)) (by omega)
  | succ n ih =>
    intro l hl h
    by_cases z : n ∈ l
    · have := ih (l.erase n) (hl.erase n) (fun c hc => by
        have h1 := (hl.mem_erase_iff).mp hc
        have := h c h1.2
        have := h1.1
        omega)
      rw [List.length_erase_of_mem z] at this
      omega
    · have := ih l hl (fun c hc => by
        have h1 := h c hc
        by_cases y : c = n
        · rw [y] at hc; exact absurd hc z
        · omega)
      omega
/-- what a made shape leaves of the rest of part 7 -/
def kS7 (ur uc vr vc : zMu) : Prop := (∀ o, zI vr 36 o = zI ur 36 o) ∧ zI vr 0 61 = zI ur 0 61 ∧ (∀ o, zI vc 37 o = zI uc 37 o) ∧ zI vc 36 8 = zI uc 36 8
theorem kSo_new {X : pCx} {W : kW} {q t w : Nat} {Ch Ch' : Nat → List Nat} {ur uc vr vc : zMu} {nm : List Nat} {s : Nat} (hs : s < wS W) (h : kSo X W Ch ur uc s) (ir : ∀ a, 44 ≤ a → a ≤ 47 → zI vr a s = zI ur a s) (ic : ∀ a, 81 ≤ a → a ≤ 83 → zI vc a s = zI uc a s) (il : zL vc 85 s = zL uc 85 s) (k1 : kCh (fun c => zI vc 87 c) (zI vc 86 s) (Ch' s)) (k2 : zI vc 84 s = nI (Ch' s).length) (k3 : (Ch' s).Nodup) (k4 : ∀ c, c ∈ Ch' s ↔ (c < wS W + 1 ∧ (if c = wS W then t else wu W c) = s + 1)) : kSo X (wAS W q t nm) Ch' vr vc s := by
  obtain ⟨⟨g1, g1'⟩, g2, g3, g4, g5, g6, ⟨g7, g7'⟩, -⟩ := h
  have e1 : ws (wAS W q t nm) s = ws W s := by rw [wAS_ws, if_neg (by omega)]
  have e2 : wu (wAS W q t nm) s = wu W s := by rw [wAS_wu, if_neg (by omega)]
  have e3 : wn (wAS W q t nm) s = wn W s := by rw [wAS_wn, if_neg (by omega)]
  have e4 : ws (wAS W q t nm) (wu W s - 1) = ws W (wu W s - 1) := by rw [wAS_ws, if_neg (by omega)]
  have e5 : wn (wAS W q t nm) (wu W s - 1) = wn W (wu W s - 1) := by rw [wAS_wn, if_neg (by omega)]
  unfold kSo
  rw [e1, e2, e3, e4, e5, ir 44 (by omega) (by omega), ir 45 (by omega) (by omega), ir 46 (by omega) (by omega), ir 47 (by omega) (by omega), ic 81 (by omega) (by omega), ic 82 (by omega) (by omega), ic 83 (by omega) (by omega), il]
  exact ⟨⟨g1, g1'⟩, g2, g3, g4, g5, g6, ⟨g7, g7'⟩, k1, k2, k3, k4⟩
theorem k_with (n : Nat) (hn : 20000 ≤ n) {X : pCx} {W : kW} {ur uc : zMu} (hI : ∀ w w', w < xN X → w' < xN X → xPK X w = xPK X w' → w = w') (hN : xN X ≤ 1501) (h : kTr X W ur uc) (hS : wS W < 1800) (hO : wO W ≤ 200) (hd : zdy uc = true) {sh w : Nat} (hsh : sh < wS W) (hw : w < xN X) : ∃ s V vr vc, rf_shapeOf n ur (iP (ws W sh)) (nI sh) (nI w) = some (nI s, vr) ∧ ce_S_with n uc (nI sh) (xPK X w) = some (nI s, vc) ∧ fT tgR [7] ur vr ∧ fT tgC [7] uc vc ∧ kTr X V vr vc ∧ s < wS V ∧ ws V s = ws W sh ∧ wn V s = wn W sh ++ [w] ∧ (V = W ∨ V = wAS W (ws W sh) (sh + 1) (wn W sh ++ [w])) ∧ kS7 ur uc vr vc ∧ ∀ q, zI vc 44 q = zI uc 44 q := by
  obtain ⟨t1, t2, ⟨l1, l2, l3, l4⟩, ⟨Ch, hCh⟩, t5, t6⟩ := h
  obtain ⟨⟨g1, g1'⟩, g2, g3, g4, g5, g6, ⟨g7, g7'⟩, g8, g9, g10, g11⟩ := hCh sh hsh
  have wu31 : ∀ s, s < wS W → wu W s < 2 ^ 31 ∧ ws W s < 2 ^ 31 := fun s hs => by
    obtain ⟨⟨a, b⟩, -⟩ := hCh s hs
    omega
  have chb : ∀ c, c ∈ Ch sh → c < wS W := fun c hc => ((g11 c).mp hc).1
  have lenb : (Ch sh).length ≤ wS W := nodup_lt _ _ g10 chb
  have wnb : ∀ d s, s ≤ d → s < wS W → (wn W s).length ≤ s := by
    intro d
    induction d with
    | zero =>
      intro s hd' hs
      obtain ⟨⟨-, b⟩, g2, -⟩ := hCh s hs
      rcases g2 with ⟨-, q, -⟩ | ⟨q, -⟩
      · rw [q]; simp
      · omega
    | succ d ih =>
      intro s hd' hs
      obtain ⟨⟨-, b⟩, g2, -⟩ := hCh s hs
      rcases g2 with ⟨-, q, -⟩ | ⟨q, -, w', -, q2, -⟩
      · rw [q]; simp
      · have := ih (wu W s - 1) (by omega) (by omega)
        rw [q2, List.length_append, List.length_singleton]
        omega
  -- who is meant
  have mr : ∀ s, s < wS W → zI ur 44 s = iP (ws W sh) → zI ur 45 s = nI sh → zI ur 46 s = nI w → wu W s = sh + 1 ∧ ws W s = ws W sh ∧ wn W s = wn W sh ++ [w] ∧ zL uc 85 s = xPK X w := by
    intro s hs a b c
    obtain ⟨-, y2, y3, -, y5, -⟩ := hCh s hs
    have e1 : ws W s = ws W sh := (iP_inj (wu31 s hs).2 (wu31 sh hsh).2).mp (y3.symm.trans a)
    have e2 : wu W s = sh + 1 := (iP_inj (wu31 s hs).1 (by omega)).mp (y5.symm.trans (b.trans (iP_s sh).symm))
    rcases y2 with ⟨q, -⟩ | ⟨-, -, w', q1, q2, q3, q4⟩
    · omega
    · have ew : w' = w := (nI_eq (by omega) (by omega)).mp (q3.symm.trans c)
      subst ew
      refine ⟨e2, e1, ?_, q4⟩
      rw [q2, e2]
      rfl
  have z84 : zN uc 84 = zN uc 81 := l4 84 (by omega) (by omega)
  have z85 : zN uc 85 = zN uc 81 := l4 85 (by omega) (by omega)
  have z86 : zN uc 86 = zN uc 81 := l4 86 (by omega) (by omega)
  have z87 : zN uc 87 = zN uc 81 := l4 87 (by omega) (by omega)
  have ew : ce_S_with n uc (nI sh) (xPK X w) = ce_S_with_L21 n n uc (nI sh) (xPK X w) (zI uc 86 sh) (nI 0) := by
    unfold ce_S_with
    rw [zbd_e (show ce_S_isShape n uc (nI sh) = some (1, uc) from by unfold ce_S_isShape; rw [if_neg (nI_pos (by omega)), t2, if_pos (nI_lt hsh (by omega))]), if_neg (by decide), z86, zin_nI (show sh < zN uc 81 by omega) (by omega), zgd_t, zx_nI (show sh < 2 ^ 31 by omega)]
    rfl
  have sc := kc_search n (X := X) (W := W) (uc := uc) (sh := sh) (len := (Ch sh).length) (L := zN uc 81) (by omega) (by omega) z84 z85 z87 g9 (by omega) (xPK X w) (Ch sh) n (zI uc 86 sh) 0 (by omega) (by omega) g8 (fun c hc => by have := chb c hc; omega)
  have sr := kr_search n (S := wS W) (u := ur) (by omega) t1 (iP (ws W sh)) (nI sh) (nI w) (wS W) 0 n (by omega) (by omega)
  rcases sc with ⟨c, c1, c2, c3⟩ | ⟨c1, c2⟩
  · -- it is there
    obtain ⟨cS, cu⟩ := (g11 c).mp c1
    obtain ⟨⟨y0, y0'⟩, y2, y3, y4, y5, y6, -⟩ := hCh c cS
    rcases y2 with ⟨q, -⟩ | ⟨-, q0, w', q1, q2, q3, q4⟩
    · omega
    · have ew' : w' = w := hI w' w q1 hw (q4.symm.trans c2)
      subst ew'
      have e1 : ws W c = ws W sh := by rw [← q0, cu]; rfl
      have e2 : wn W c = wn W sh ++ [w'] := by rw [q2, cu]; rfl
      rcases sr with ⟨s, -, a2, a3, a4, a5, a6⟩ | ⟨a1, -⟩
      · obtain ⟨b1, b2, b3, -⟩ := mr s a2 a3 a4 a5
        have es : s = c := t5 s c a2 cS (b2.trans e1.symm) (b3.trans e2.symm)
        subst es
        exact ⟨s, W, ur, uc, a6, ew.trans c3, fT_rf _ _ _, fT_rf _ _ _, ⟨t1, t2, ⟨l1, l2, l3, l4⟩, ⟨Ch, hCh⟩, t5, t6⟩, a2, e1, e2, Or.inl rfl, ⟨fun _ => rfl, rfl, fun _ => rfl, rfl⟩, fun _ => rfl⟩
      · exact absurd ⟨by rw [y3, e1], by rw [y5, cu, iP_s], q3⟩ (a1 c (by omega) cS)
  · -- it is new
    have none : ∀ s, s < wS W → ws W s = ws W sh → ¬ wn W s = wn W sh ++ [w] := by
      intro s hs a b
      obtain ⟨⟨-, y1⟩, y2, -⟩ := hCh s hs
      rcases y2 with ⟨-, q, -⟩ | ⟨q0, q0', w', q1, q2, q3, q4⟩
      · rw [q] at b
        exact absurd b (by simp)
      · rw [q2] at b
        have b2 := List.append_inj' b rfl
        have eu : wu W s - 1 = sh := t5 _ _ (by omega) hsh (q0'.trans a) b2.1
        have ew' : w' = w := by simpa using b2.2
        subst ew'
        exact c1 s ((g11 s).mpr ⟨hs, pred_eq q0 eu⟩) q4
    rcases sr with ⟨s, -, a2, a3, a4, a5, -⟩ | ⟨-, a2⟩
    · obtain ⟨b1, b2, b3, -⟩ := mr s a2 a3 a4 a5
      exact absurd b3 (none s a2 b2)
    have wl' := wnb sh sh (Nat.le_refl _) hsh
    obtain ⟨vr, e1, f1, v1, v2, v3, v4, v5, v6⟩ := kr_make n (S := wS W) (t := sh + 1) (len := (wn W sh).length + 1) (u := ur) (by omega) t1 (by omega) (Or.inr ⟨by omega, by show zI ur 47 sh = _; rw [g7]; rfl, by omega⟩) (iP (ws W sh)) (nI w)
    obtain ⟨wc, e2, f2, w1, w2, w3, w4, w5, w6, w7, w8, w9, w10, n1, n2, n3, n4⟩ := ck_add n (S := wS W) (t := sh + 1) (u := uc) hd l4 l1 l3 hS l2 t2 (by omega) (len := (wn W sh).length + 1) (Or.inr ⟨by omega, by show zI uc 82 sh = _; rw [g7']; rfl, by omega⟩) (iP (ws W sh)) (xPK X w)
    rw [iP_s] at e1 e2 v4 w6
    have ewc : ∀ a j, (81 ≤ a ∧ j < wS W) ∨ ¬ ((81 ≤ a ∧ a ≤ 87) ∨ (a = 43 ∧ j = 8)) → zI wc a j = zI uc a j := fun a j q => w1 a j (q.symm)
    obtain ⟨vc, hvc⟩ : ∃ vc, zsI (zsI (zsI wc 87 (wS W) (zI uc 86 sh)) 86 sh (nI (wS W))) 84 sh (nI ((Ch sh).length + 1)) = vc := ⟨_, rfl⟩
    have F2 : fT tgC [7] uc vc := by subst hvc; exact fT_I (fT_I (fT_I f2 _ 7 rfl (by decide)) _ 7 rfl (by decide)) _ 7 rfl (by decide)
    have eJ : ce_S_with_J68 n uc (nI sh) (xPK X w) = some (nI (wS W), vc) := by
      unfold ce_S_with_J68
      rw [zin_nI (show sh < zN uc 81 by omega) (by omega), zgd_t, zx_nI (show sh < 2 ^ 31 by omega), g4, zbd_e e2, n4 86 (by omega) (by omega), zin_nI (show sh < zN wc 81 by omega) (by omega), zgd_t, n4 87 (by omega) (by omega), zin_nI (show wS W < zN wc 81 by omega) (by omega), zgd_t, zx_nI (show wS W < 2 ^ 31 by omega), ewc 86 sh (Or.inl ⟨by omega, hsh⟩)]
      simp only [zlet]
      rw [show zN (zsI wc 87 (wS W) (zI uc 86 sh)) 86 = zN wc 86 from rfl, n4 86 (by omega) (by omega), zin_nI (show sh < zN wc 81 by omega) (by omega), zgd_t, show zN (zsI (zsI wc 87 (wS W) (zI uc 86 sh)) 86 sh (nI (wS W))) 84 = zN wc 84 from rfl, n4 84 (by omega) (by omega), zin_nI (show sh < zN wc 81 by omega) (by omega), zgd_t, zgd_t]
      have i84 : zI (zsI (zsI wc 87 (wS W) (zI uc 86 sh)) 86 sh (nI (wS W))) 84 sh = nI (Ch sh).length := by
        rw [gI_sI, if_neg (by omega), gI_sI, if_neg (by omega), ewc 84 sh (Or.inl ⟨by omega, hsh⟩)]; exact g9
      rw [i84, nI_1, hvc]
    have ivc : ∀ a j, ¬ ((a = 87 ∧ j = wS W) ∨ ((a = 86 ∨ a = 84) ∧ j = sh)) → zI vc a j = zI wc a j := fun a j q => by subst hvc; rw [gI_sI, if_neg (by omega), gI_sI, if_neg (by omega), gI_sI, if_neg (by omega)]
    have x86 : zI vc 86 sh = nI (wS W) := by subst hvc; rw [gI_sI, if_neg (by omega), gI_sI, if_pos ⟨rfl, rfl⟩]
    have x84 : zI vc 84 sh = nI ((Ch sh).length + 1) := by subst hvc; rw [gI_sI, if_pos ⟨rfl, rfl⟩]
    have x87 : zI vc 87 (wS W) = zI uc 86 sh := by subst hvc; rw [gI_sI, if_neg (by omega), gI_sI, if_neg (by omega), gI_sI, if_pos ⟨rfl, rfl⟩]
    have lvc : ∀ j, zL vc 85 j = zL wc 85 j := fun j => by subst hvc; rfl
    have nvc : ∀ a, zN vc a = zN wc a := fun a => by subst hvc; rfl
    have i87 : ∀ c, c < wS W → zI vc 87 c = zI uc 87 c := fun c hc => (ivc 87 c (by omega)).trans (ewc 87 c (Or.inl ⟨by omega, hc⟩))
    refine ⟨wS W, wAS W (ws W sh) (sh + 1) (wn W sh ++ [w]), vr, vc, (a2 1 (by omega)).trans e1, (ew.trans c2).trans eJ, f1, F2, ⟨v2, ?_, ⟨by rw [nvc]; exact n1, by rw [nvc]; exact n2, by rw [nvc]; exact n3, fun a p q => by rw [nvc, nvc]; exact n4 a p q⟩, ⟨fun s => if s = sh then wS W :: Ch sh else if s = wS W then [] else Ch s, fun s hs => ?_⟩, fun s s' hs hs' a b => ?_, fun q hq => ?_⟩, Nat.lt_succ_self _, by rw [wAS_ws, if_pos rfl], by rw [wAS_wn, if_pos rfl], Or.inr rfl, ⟨fun o => v1 36 o (by omega), v1 0 61 (by omega), fun o => (ivc 37 o (by omega)).trans (ewc 37 o (by omega)), (ivc 36 8 (by omega)).trans (ewc 36 8 (by omega))⟩, fun q => (ivc 44 q (by omega)).trans (ewc 44 q (by omega))⟩
    · rw [ivc 43 8 (by omega)]; exact w3
    · have hs : s < wS W + 1 := hs
      by_cases z : s = wS W
      · subst z
        have ns : ¬ wS W = sh := by omega
        refine ⟨⟨by rw [wAS_ws, if_pos rfl]; exact g1, by rw [wAS_wu, if_pos rfl]; omega⟩, Or.inr ⟨by rw [wAS_wu, if_pos rfl]; omega, ?_, w, hw, ?_, v5, by rw [lvc]; exact w8⟩, by rw [v3, wAS_ws, if_pos rfl], by rw [ivc 81 _ (by omega), w4, wAS_ws, if_pos rfl], by rw [v4, wAS_wu, if_pos rfl, iP_s], by rw [ivc 83 _ (by omega), w6, wAS_wu, if_pos rfl, iP_s], ⟨?_, ?_⟩, ?_, ?_, ?_, fun c => ?_⟩
        · rw [wAS_wu, if_pos rfl, wAS_ws, wAS_ws, if_pos rfl, if_neg (by omega)]; rfl
        · rw [wAS_wu, if_pos rfl, wAS_wn, wAS_wn, if_pos rfl, if_neg (by omega)]; rfl
        · rw [v6, wAS_wn, if_pos rfl, List.length_append, List.length_singleton]
        · rw [ivc 82 _ (by omega), w5, wAS_wn, if_pos rfl, List.length_append, List.length_singleton]
        · show kCh _ _ (if wS W = sh then wS W :: Ch sh else if wS W = wS W then [] else Ch (wS W))
          rw [if_neg ns, if_pos rfl]
          show zI vc 86 (wS W) = -1
          rw [ivc 86 _ (by omega)]; exact w9
        · show _ = nI (if wS W = sh then wS W :: Ch sh else if wS W = wS W then [] else Ch (wS W)).length
          rw [if_neg ns, if_pos rfl, ivc 84 _ (by omega), w7]; rfl
        · show (if wS W = sh then wS W :: Ch sh else if wS W = wS W then [] else Ch (wS W)).Nodup
          rw [if_neg ns, if_pos rfl]; exact List.nodup_nil
        · show c ∈ (if wS W = sh then wS W :: Ch sh else if wS W = wS W then [] else Ch (wS W)) ↔ (c < wS W + 1 ∧ wu (wAS W (ws W sh) (sh + 1) (wn W sh ++ [w])) c = wS W + 1)
          rw [if_neg ns, if_pos rfl, wAS_wu]
          refine ⟨fun q => absurd q (by simp), fun q => ?_⟩
          by_cases y : c = wS W
          · rw [if_pos y] at q; omega
          · rw [if_neg y] at q
            have := (hCh c (by omega)).1.2
            omega
      · have hs' : s < wS W := by omega
        refine kSo_new (Ch' := fun s => if s = sh then wS W :: Ch sh else if s = wS W then [] else Ch s) (w := w) hs' (hCh s hs') (fun a p q => v1 a s (by omega)) (fun a p q => (ivc a s (by omega)).trans (ewc a s (Or.inl ⟨by omega, hs'⟩))) (by rw [lvc]; exact w2 85 s (Or.inr hs')) ?_ ?_ ?_ ?_
        · obtain ⟨-, -, -, -, -, -, -, y8, -⟩ := hCh s hs'
          by_cases y : s = sh
          · subst y
            simp only [if_true]
            exact ⟨x86, by
              show kCh _ (zI vc 87 (wS W)) (Ch s)
              rw [x87]
              exact kCh_k _ _ (fun c hc => i87 c (chb c hc)) g8⟩
          · simp only [if_neg y, if_neg z]
            rw [ivc 86 s (by omega), ewc 86 s (Or.inl ⟨by omega, hs'⟩)]
            obtain ⟨-, -, -, -, -, -, -, -, -, -, y11⟩ := hCh s hs'
            exact kCh_k _ _ (fun c hc => i87 c ((y11 c).mp hc).1) y8
        · obtain ⟨-, -, -, -, -, -, -, -, y9, -⟩ := hCh s hs'
          by_cases y : s = sh
          · subst y
            simp only [if_true]
            rw [x84, List.length_cons]
          · simp only [if_neg y, if_neg z]
            rw [ivc 84 s (by omega), ewc 84 s (Or.inl ⟨by omega, hs'⟩)]; exact y9
        · obtain ⟨-, -, -, -, -, -, -, -, -, y10, -⟩ := hCh s hs'
          by_cases y : s = sh
          · subst y
            simp only [if_true]
            rw [List.nodup_cons]
            exact ⟨fun q => by have := chb _ q; omega, g10⟩
          · simp only [if_neg y, if_neg z]
            exact y10
        · intro c
          obtain ⟨-, -, -, -, -, -, -, -, -, -, y11⟩ := hCh s hs'
          by_cases y : s = sh
          · subst y
            simp only [if_true]
            rw [List.mem_cons, g11]
            by_cases x : c = wS W
            · rw [if_pos x]; exact ⟨fun _ => ⟨by omega, rfl⟩, fun _ => Or.inl x⟩
            · rw [if_neg x]
              exact ⟨fun q => q.elim (fun q => absurd q x) (fun q => ⟨by omega, q.2⟩), fun q => Or.inr ⟨by omega, q.2⟩⟩
          · simp only [if_neg y, if_neg z]
            rw [y11]
            by_cases x : c = wS W
            · rw [if_pos x]; exact ⟨fun q => by omega, fun q => by omega⟩
            · rw [if_neg x]
              exact ⟨fun q => ⟨by omega, q.2⟩, fun q => ⟨by omega, q.2⟩⟩
    · have hs : s < wS W + 1 := hs
      have hs' : s' < wS W + 1 := hs'
      rw [wAS_ws, wAS_ws] at a
      rw [wAS_wn, wAS_wn] at b
      by_cases z : s = wS W
      · by_cases z' : s' = wS W
        · omega
        · rw [if_pos z, if_neg z'] at a b
          exact absurd b.symm (none s' (by omega) a.symm)
      · by_cases z' : s' = wS W
        · rw [if_neg z, if_pos z'] at a b
          exact absurd b (none s (by omega) a)
        · rw [if_neg z, if_neg z'] at a b
          exact t5 s s' (by omega) (by omega) a b
    · rw [show zI vc 44 q = zI uc 44 q from (ivc 44 q (by omega)).trans (ewc 44 q (by omega))]
      rcases t6 q hq with ⟨y1, y2⟩ | ⟨s, y1, y2, y3, y4⟩
      · refine Or.inl ⟨y1, fun s hs => ?_⟩
        have hs : s < wS W + 1 := hs
        rw [wAS_ws]
        by_cases z : s = wS W
        · rw [if_pos z]; exact y2 sh hsh
        · rw [if_neg z]; exact y2 s (by omega)
      · exact Or.inr ⟨s, Nat.lt_succ_of_lt y1, y2, by rw [wAS_wu, if_neg (by omega)]; exact y3, by rw [wAS_ws, if_neg (by omega)]; exact y4⟩
