/-! RUNNING: the parts of the state -/
/-- (objects, rows, shapes, members made, prints), parents, shapes (parents, ups, names), members of an object (name, the reference's cell, the class's), which fns are made -/
abbrev kW : Type := (Nat × Nat × Nat × Nat × Nat) × (Nat → Nat) × ((Nat → Nat) × (Nat → Nat) × (Nat → List Nat)) × (Nat → List (Nat × Nat × Nat)) × (Nat → Nat)
def wO (W : kW) : Nat := W.1.1
def wR (W : kW) : Nat := W.1.2.1
def wS (W : kW) : Nat := W.1.2.2.1
def wM (W : kW) : Nat := W.1.2.2.2.1
def wP (W : kW) : Nat := W.1.2.2.2.2
def wp (W : kW) : Nat → Nat := W.2.1
def ws (W : kW) : Nat → Nat := W.2.2.1.1
def wu (W : kW) : Nat → Nat := W.2.2.1.2.1
def wn (W : kW) : Nat → List Nat := W.2.2.1.2.2
def wl (W : kW) : Nat → List (Nat × Nat × Nat) := W.2.2.2.1
def wf (W : kW) : Nat → Nat := W.2.2.2.2
/-- grows: what there was stays -/
def wLe (W V : kW) : Prop := wO W ≤ wO V ∧ wR W ≤ wR V ∧ wS W ≤ wS V ∧ (∀ o, o < wO W → wp V o = wp W o) ∧ (∀ s, s < wS W → ws V s = ws W s ∧ wu V s = wu W s ∧ wn V s = wn W s)
theorem wLe_rf (W : kW) : wLe W W := ⟨Nat.le_refl _, Nat.le_refl _, Nat.le_refl _, fun _ _ => rfl, fun _ _ => ⟨rfl, rfl, rfl⟩⟩
/-- one less, or none -/
def iP (k : Nat) : Int32 := if k = 0 then -1 else nI (k - 1)
theorem iP_0 : iP 0 = -1 := rfl
theorem iP_s (k : Nat) : iP (k + 1) = nI k := if_neg (by omega)
theorem iP_inj {a b : Nat} (ha : a < 2 ^ 31) (hb : b < 2 ^ 31) : iP a = iP b ↔ a = b := by
  cases a with
  | zero =>
    cases b with
    | zero => exact ⟨fun _ => rfl, fun _ => rfl⟩
    | succ b => rw [iP_0, iP_s]; exact ⟨fun q => absurd q.symm (nI_m1 (by omega)), fun q => absurd q (by omega)⟩
  | succ a =>
    cases b with
    | zero => rw [iP_0, iP_s]; exact ⟨fun q => absurd q (nI_m1 (by omega)), fun q => absurd q (by omega)⟩
    | succ b => rw [iP_s, iP_s, nI_eq (by omega) (by omega)]; omega
/-- a line of parents -/
def kAn (pa : Nat → Nat) : Nat → Nat → Nat → Prop
  | 0, o, x => o = x
  | k + 1, o, x => o = x ∨ (¬ pa o = 0 ∧ kAn pa k (pa o - 1) x)
def anc (pa : Nat → Nat) (o x : Nat) : Prop := kAn pa o o x
theorem kAn_f {pa : Nat → Nat} {x : Nat} : ∀ d o k k', o ≤ d → (∀ j, j ≤ o → pa j ≤ j) → o ≤ k → o ≤ k' → (kAn pa k o x ↔ kAn pa k' o x) := by
  intro d
  induction d with
  | zero =>
    intro o k k' hd hp _ _
    have e : o = 0 := by omega
    subst e
    have e := hp 0 (by omega)
    have z : ∀ k, kAn pa k 0 x ↔ 0 = x := by
      intro k
      cases k with
      | zero => exact Iff.rfl
      | succ k => exact ⟨fun q => q.elim id (fun q => absurd q.1 (by omega)), Or.inl⟩
    rw [z, z]
  | succ d ih =>
    intro o k k' hd hp hk hk'
    have hpo := hp o (by omega)
    cases k with
    | zero =>
      have e : o = 0 := by omega
      subst e
      exact (ih 0 0 k' (by omega) hp (by omega) hk')
    | succ k =>
      cases k' with
      | zero =>
        have e : o = 0 := by omega
        subst e
        exact (ih 0 (k + 1) 0 (by omega) hp (by omega) (by omega))
      | succ k' =>
        show (o = x ∨ (¬ pa o = 0 ∧ kAn pa k (pa o - 1) x)) ↔ (o = x ∨ (¬ pa o = 0 ∧ kAn pa k' (pa o - 1) x))
        by_cases z : pa o = 0
        · exact ⟨fun q => q.elim Or.inl (fun q => absurd z q.1), fun q => q.elim Or.inl (fun q => absurd z q.1)⟩
        · rw [ih (pa o - 1) k k' (by omega) (fun j hj => hp j (by omega)) (by omega) (by omega)]
theorem anc_st {pa : Nat → Nat} {o x : Nat} (hp : ∀ j, j ≤ o → pa j ≤ j) : anc pa o x ↔ (o = x ∨ (¬ pa o = 0 ∧ anc pa (pa o - 1) x)) := by
  unfold anc
  rw [kAn_f o o o (o + 1) (Nat.le_refl _) hp (Nat.le_refl _) (by omega)]
  show (o = x ∨ (¬ pa o = 0 ∧ kAn pa o (pa o - 1) x)) ↔ _
  have := hp o (Nat.le_refl _)
  by_cases z : pa o = 0
  · exact ⟨fun q => q.elim Or.inl (fun q => absurd z q.1), fun q => q.elim Or.inl (fun q => absurd z q.1)⟩
  · rw [kAn_f o (pa o - 1) o (pa o - 1) (by omega) (fun j hj => hp j (by omega)) (by omega) (Nat.le_refl _)]
theorem anc_rf {pa : Nat → Nat} (o : Nat) : anc pa o o := by
  unfold anc
  cases o with
  | zero => exact rfl
  | succ o => exact Or.inl rfl
theorem anc_le {pa : Nat → Nat} {x : Nat} : ∀ d o, o ≤ d → (∀ j, j ≤ o → pa j ≤ j) → anc pa o x → x ≤ o := by
  intro d
  induction d with
  | zero =>
    intro o hd hp h
    have e : o = 0 := by omega
    subst e
    have h : 0 = x := h
    omega
  | succ d ih =>
    intro o hd hp h
    rcases (anc_st hp).mp h with e | ⟨z, e⟩
    · omega
    · have := hp o (Nat.le_refl _)
      have := ih (pa o - 1) (by omega) (fun j hj => hp j (by omega)) e
      omega
theorem anc_cg {pa pb : Nat → Nat} {x : Nat} : ∀ d o, o ≤ d → (∀ j, j ≤ o → pa j ≤ j) → (∀ j, j ≤ o → pb j = pa j) → (anc pb o x ↔ anc pa o x) := by
  intro d
  induction d with
  | zero =>
    intro o hd hp hq
    have e : o = 0 := by omega
    subst e
    exact Iff.rfl
  | succ d ih =>
    intro o hd hp hq
    rw [anc_st hp, anc_st (fun j hj => by rw [hq j hj]; exact hp j hj), hq o (Nat.le_refl _)]
    have := hp o (Nat.le_refl _)
    by_cases z : pa o = 0
    · exact ⟨fun q => q.elim Or.inl (fun q => absurd z q.1), fun q => q.elim Or.inl (fun q => absurd z q.1)⟩
    · rw [ih (pa o - 1) (by omega) (fun j hj => hp j (by omega)) (fun j hj => hq j (by omega))]
theorem anc_up {pa : Nat → Nat} {y x : Nat} : ∀ d o, o ≤ d → (∀ j, j ≤ o → pa j ≤ j) → anc pa o y → anc pa y x → anc pa o x := by
  intro d
  induction d with
  | zero =>
    intro o hd hp h k
    have e : o = 0 := by omega
    subst e
    have h : 0 = y := h
    subst h
    exact k
  | succ d ih =>
    intro o hd hp h k
    rcases (anc_st hp).mp h with e | ⟨z, e⟩
    · subst e; exact k
    · have := hp o (Nat.le_refl _)
      exact (anc_st hp).mpr (Or.inr ⟨z, ih (pa o - 1) (by omega) (fun j hj => hp j (by omega)) e k⟩)
/-- objects and their lines -/
def lnB (u : zMu) (o x : Nat) : Prop := (zL u 42 (4 * o + x / 64)).toBitVec.getLsbD (x % 64) = true
def kOb (W : kW) (ur uc : zMu) : Prop := wO W ≤ 200 ∧ zI ur 0 57 = nI (wO W) ∧ zI uc 36 7 = nI (wO W) ∧ ∀ o, o < wO W → wp W o ≤ o ∧ zI ur 35 o = iP (wp W o) ∧ zI uc 38 o = iP (wp W o) ∧ ∀ x, x < 200 → (lnB uc o x ↔ anc (wp W) o x)
theorem kOb_k {W : kW} {ts : List Nat} {ur uc vr vc : zMu} (h : kOb W ur uc) (hr : fT tgR ts ur vr) (hc : fT tgC ts uc vc) (q : ¬ 5 ∈ ts) : kOb W vr vc := by
  obtain ⟨h1, h2, h3, h4⟩ := h
  refine ⟨h1, (fT_i hr q (show tgR 0 57 = 5 from rfl)).trans h2, (fT_i hc q (show tgC 36 7 = 5 from rfl)).trans h3, fun o ho => ?_⟩
  obtain ⟨g1, g2, g3, g4⟩ := h4 o ho
  refine ⟨g1, (fT_i hr q (show tgR 35 o = 5 from rfl)).trans g2, (fT_i hc q (show tgC 38 o = 5 from rfl)).trans g3, fun x hx => ?_⟩
  unfold lnB
  rw [fT_l hc q (show tgC 42 0 = 5 from rfl)]
  exact g4 x hx
theorem kOb_p {W : kW} {ur uc : zMu} (h : kOb W ur uc) {o : Nat} (ho : o < wO W) : ∀ j, j ≤ o → wp W j ≤ j := fun j hj => (h.2.2.2 j (by omega)).1
/-- a chain of cells; its last -/
def kCh (nx : Nat → Int32) : Int32 → List Nat → Prop
  | h, [] => h = -1
  | h, c :: l => h = nI c ∧ kCh nx (nx c) l
def kLa (l : List Nat) : Int32 := match l.getLast? with
  | none => -1
  | some c => nI c
def kSm (f : Nat → Nat) : Nat → Nat
  | 0 => 0
  | n + 1 => kSm f n + f n
theorem kSm_cg {f g : Nat → Nat} : ∀ n, (∀ j, j < n → f j = g j) → kSm f n = kSm g n := by
  intro n
  induction n with
  | zero => exact fun _ => rfl
  | succ n ih => exact fun h => by rw [kSm, kSm, ih (fun j hj => h j (by omega)), h n (by omega)]
theorem kSm_le {f : Nat → Nat} {b : Nat} : ∀ n, (∀ j, j < n → f j ≤ b) → kSm f n ≤ n * b := by
  intro n
  induction n with
  | zero => exact fun _ => by simp [kSm]
  | succ n ih =>
    intro h
    have := ih (fun j hj => h j (by omega))
    have := h n (by omega)
    rw [kSm, Nat.succ_mul]
    omega
/-- one place changes -/
theorem kSm_up {f g : Nat → Nat} {i : Nat} : ∀ n, i < n → (∀ j, j < n → j ≠ i → g j = f j) → kSm g n + f i = kSm f n + g i := by
  intro n
  induction n with
  | zero => exact fun h => absurd h (by omega)
  | succ n ih =>
    intro h k
    rw [kSm, kSm]
    by_cases e : i = n
    · subst e
      rw [kSm_cg (f := g) (g := f) i (fun j hj => k j (by omega) (by omega))]
      omega
    · have := ih (by omega) (fun j hj => k j (by omega))
      rw [k n (by omega) (by omega)]
      omega
/-- a member m = (name, the reference's cell, the class's) of o -/
def kMm (X : pCx) (ub : zMu) (W : kW) (U : Nat) (ov ow : Nat → Nat) (ur uc : zMu) (o : Nat) (m : Nat × Nat × Nat) : Prop := m.1 < xN X ∧ (∃ s, s < 80 ∧ zI ub 22 s = nI m.1) ∧ m.2.1 < wM W ∧ ov m.2.1 = o + 1 ∧ m.2.2 < U ∧ ow m.2.2 = o + 1 ∧ zI ur 40 m.2.1 = nI m.1 ∧ zL uc 88 m.2.2 = xPK X m.1 ∧ vR (wO W) (wR W) (zI ur 41 m.2.1) (zL ur 43 m.2.1) (vS 66 uc m.2.2) (vX 66 uc m.2.2)
/-- the members of o -/
def kMo (W : kW) (ur uc : zMu) (o : Nat) : Prop := kCh (fun c => zI ur 42 c) (zI ur 37 o) ((wl W o).map fun m => m.2.1) ∧ zI ur 38 o = kLa ((wl W o).map fun m => m.2.1) ∧ zI ur 39 o = nI (wl W o).length ∧ kCh (fun c => zI uc 89 c) (zI uc 40 o) ((wl W o).map fun m => m.2.2) ∧ zI uc 41 o = kLa ((wl W o).map fun m => m.2.2) ∧ zI uc 39 o = nI (wl W o).length ∧ ((wl W o).map fun m => m.1).Nodup ∧ ((wl W o).map fun m => m.2.1).Nodup ∧ ((wl W o).map fun m => m.2.2).Nodup
def kMb (X : pCx) (ub : zMu) (W : kW) (ur uc : zMu) : Prop := zI ur 0 80 = nI (wM W) ∧ wM W ≤ 20000 ∧ ∃ U fr ov ow, (zI uc 36 12 = nI U ∧ U ≤ 16000 ∧ U ≤ zN uc 88 ∧ zN uc 89 = zN uc 88 ∧ 1 ≤ zN uc 88 ∧ zN uc 88 ≤ 32000 ∧ pVw 66 16000 uc ∧ U = fr.length + kSm (fun o => (wl W o).length) (wO W)) ∧ (kCh (fun c => zI uc 89 c) (zI uc 36 13) fr ∧ fr.Nodup ∧ ∀ c, c ∈ fr → c < U ∧ ow c = 0) ∧ ∀ o, o < wO W → kMo W ur uc o ∧ ∀ m, m ∈ wl W o → kMm X ub W U ov ow ur uc o m
theorem kMo_k {W : kW} {ts : List Nat} {ur uc vr vc : zMu} {o : Nat} (h : kMo W ur uc o) (hr : fT tgR ts ur vr) (hc : fT tgC ts uc vc) (q : ¬ 6 ∈ ts) : kMo W vr vc o := by
  obtain ⟨h1, h2, h3, h4, h5, h6, h7⟩ := h
  refine ⟨?_, (fT_i hr q (show tgR 38 o = 6 from rfl)).trans h2, (fT_i hr q (show tgR 39 o = 6 from rfl)).trans h3, ?_, (fT_i hc q (show tgC 41 o = 6 from rfl)).trans h5, (fT_i hc q (show tgC 39 o = 6 from rfl)).trans h6, h7⟩
  · rw [fT_i hr q (show tgR 37 o = 6 from rfl), show (fun c => zI vr 42 c) = fun c => zI ur 42 c from funext fun c => fT_i hr q (show tgR 42 c = 6 from rfl)]
    exact h1
  · rw [fT_i hc q (show tgC 40 o = 6 from rfl), show (fun c => zI vc 89 c) = fun c => zI uc 89 c from funext fun c => fT_i hc q (show tgC 89 c = 6 from rfl)]
    exact h4
theorem kMb_k {X : pCx} {ub : zMu} {W : kW} {ts : List Nat} {ur uc vr vc : zMu} (h : kMb X ub W ur uc) (hr : fT tgR ts ur vr) (hc : fT tgC ts uc vc) (q : ¬ 6 ∈ ts) : kMb X ub W vr vc := by
  obtain ⟨h1, h2, U, fr, ov, ow, ⟨a1, a2, a3, a4, a5, a6, a7, a8⟩, ⟨b1, b2, b3⟩, h5⟩ := h
  obtain ⟨v1, v2, v3, v4⟩ := vw_kT hc (v := 66) (m := 16000) (t := 6) (by unfold vK; omega) q
  have n88 := fT_n hc q (show tgC 88 0 = 6 from rfl)
  have n89 := fT_n hc q (show tgC 89 0 = 6 from rfl)
  refine ⟨(fT_i hr q (show tgR 0 80 = 6 from rfl)).trans h1, h2, U, fr, ov, ow, ⟨(fT_i hc q (show tgC 36 12 = 6 from rfl)).trans a1, a2, by omega, by omega, by omega, by omega, v1 a7, a8⟩, ⟨?_, b2, b3⟩, fun o ho => ⟨kMo_k (h5 o ho).1 hr hc q, fun m hm => ?_⟩⟩
  · rw [fT_i hc q (show tgC 36 13 = 6 from rfl), show (fun c => zI vc 89 c) = fun c => zI uc 89 c from funext fun c => fT_i hc q (show tgC 89 c = 6 from rfl)]
    exact b1
  · obtain ⟨g1, g2, g3, g4, g5, g6, g7, g8, g9⟩ := (h5 o ho).2 m hm
    refine ⟨g1, g2, g3, g4, g5, g6, (fT_i hr q (show tgR 40 m.2.1 = 6 from rfl)).trans g7, (fT_l hc q (show tgC 88 0 = 6 from rfl) m.2.2).trans g8, ?_⟩
    rw [fT_i hr q (show tgR 41 m.2.1 = 6 from rfl), fT_l hr q (show tgR 43 0 = 6 from rfl), v2, v3]
    exact g9
/-- shapes, and which an object has -/
def kSo (X : pCx) (W : kW) (Ch : Nat → List Nat) (ur uc : zMu) (s : Nat) : Prop := (ws W s ≤ wO W ∧ wu W s ≤ s) ∧ ((wu W s = 0 ∧ wn W s = [] ∧ zI ur 46 s = -1) ∨ (¬ wu W s = 0 ∧ ws W (wu W s - 1) = ws W s ∧ ∃ w, w < xN X ∧ wn W s = wn W (wu W s - 1) ++ [w] ∧ zI ur 46 s = nI w ∧ zL uc 85 s = xPK X w)) ∧ zI ur 44 s = iP (ws W s) ∧ zI uc 81 s = iP (ws W s) ∧ zI ur 45 s = iP (wu W s) ∧ zI uc 83 s = iP (wu W s) ∧ (zI ur 47 s = nI (wn W s).length ∧ zI uc 82 s = nI (wn W s).length) ∧ kCh (fun c => zI uc 87 c) (zI uc 86 s) (Ch s) ∧ zI uc 84 s = nI (Ch s).length ∧ (Ch s).Nodup ∧ ∀ c, c ∈ Ch s ↔ (c < wS W ∧ wu W c = s + 1)
def kSf (W : kW) (ur uc : zMu) (o : Nat) : Prop := zI uc 37 o = zI ur 36 o ∧ ¬ zI uc 44 (wp W o) = -1 ∧ (zI ur 36 o = -1 ∨ ∃ s, s < wS W ∧ zI ur 36 o = nI s ∧ ws W s = wp W o ∧ wn W s = ((wl W o).map fun m => m.1) ∧ (wl W o).length ≤ 8)
def kSn (W : kW) (ur : zMu) : Nat := kSm (fun o => if zI ur 36 o = -1 then 9 else 1 + (wl W o).length) (wO W)
def kSh (X : pCx) (W : kW) (ur uc : zMu) : Prop := (wS W ≤ kSn W ur ∧ wS W ≤ 1800) ∧ zI ur 0 58 = nI (wS W) ∧ zI uc 43 8 = nI (wS W) ∧ zI uc 36 8 = zI ur 0 61 ∧ (1 ≤ zN uc 81 ∧ zN uc 81 ≤ 1800 ∧ wS W ≤ zN uc 81 ∧ ∀ a, 82 ≤ a → a ≤ 87 → zN uc a = zN uc 81) ∧ (∃ Ch, ∀ s, s < wS W → kSo X W Ch ur uc s) ∧ (∀ s s', s < wS W → s' < wS W → ws W s = ws W s' → wn W s = wn W s' → s = s') ∧ (∀ q, q < 201 → (zI uc 44 q = -1 ∧ ∀ s, s < wS W → ¬ ws W s = q) ∨ ∃ s, s < wS W ∧ zI uc 44 q = nI s ∧ wu W s = 0 ∧ ws W s = q) ∧ ∀ o, o < wO W → kSf W ur uc o
theorem kSh_k {X : pCx} {W : kW} {ts : List Nat} {ur uc vr vc : zMu} (h : kSh X W ur uc) (hr : fT tgR ts ur vr) (hc : fT tgC ts uc vc) (q : ¬ 7 ∈ ts) : kSh X W vr vc := by
  obtain ⟨⟨h1, h1'⟩, h2, h3, h4, ⟨n1, n2, n3, n4⟩, ⟨Ch, h5⟩, h6, h7, h8⟩ := h
  have n81 := fT_n hc q (show tgC 81 0 = 7 from rfl)
  have i36 : ∀ o, zI vr 36 o = zI ur 36 o := fun o => fT_i hr q (show tgR 36 o = 7 from rfl)
  have i44 : ∀ o, zI vc 44 o = zI uc 44 o := fun o => fT_i hc q (show tgC 44 o = 7 from rfl)
  refine ⟨⟨?_, h1'⟩, (fT_i hr q (show tgR 0 58 = 7 from rfl)).trans h2, (fT_i hc q (show tgC 43 8 = 7 from rfl)).trans h3, ?_, ⟨by omega, by omega, by omega, fun a p r => ?_⟩, ⟨Ch, fun s hs => ?_⟩, h6, fun x hx => ?_, fun o ho => ?_⟩
  · unfold kSn
    rw [kSm_cg (g := fun o => if zI ur 36 o = -1 then 9 else 1 + (wl W o).length) _ (fun o _ => by rw [i36])]
    exact h1
  · rw [fT_i hc q (show tgC 36 8 = 7 from rfl), fT_i hr q (show tgR 0 61 = 7 from rfl)]; exact h4
  · have e : tgC a 0 = 7 := by
      have : a = 82 ∨ a = 83 ∨ a = 84 ∨ a = 85 ∨ a = 86 ∨ a = 87 := by omega
      rcases this with rfl | rfl | rfl | rfl | rfl | rfl <;> rfl
    rw [fT_n hc q e, n81]
    exact n4 a p r
  · obtain ⟨g1, g2, g3, g4, g5, g6, g7, g8, g9, g10⟩ := h5 s hs
    refine ⟨g1, ?_, (fT_i hr q (show tgR 44 s = 7 from rfl)).trans g3, (fT_i hc q (show tgC 81 s = 7 from rfl)).trans g4, (fT_i hr q (show tgR 45 s = 7 from rfl)).trans g5, (fT_i hc q (show tgC 83 s = 7 from rfl)).trans g6, ⟨(fT_i hr q (show tgR 47 s = 7 from rfl)).trans g7.1, (fT_i hc q (show tgC 82 s = 7 from rfl)).trans g7.2⟩, ?_, (fT_i hc q (show tgC 84 s = 7 from rfl)).trans g9, g10⟩
    · rw [fT_i hr q (show tgR 46 s = 7 from rfl), fT_l hc q (show tgC 85 0 = 7 from rfl)]
      exact g2
    · rw [fT_i hc q (show tgC 86 s = 7 from rfl), show (fun c => zI vc 87 c) = fun c => zI uc 87 c from funext fun c => fT_i hc q (show tgC 87 c = 7 from rfl)]
      exact g8
  · rw [i44]; exact h7 x hx
  · obtain ⟨g1, g2, g3⟩ := h8 o ho
    refine ⟨?_, by rw [i44]; exact g2, by rw [i36]; exact g3⟩
    rw [i36, fT_i hc q (show tgC 37 o = 7 from rfl)]; exact g1
