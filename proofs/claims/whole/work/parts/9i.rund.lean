/-! RUNNING: the parts of the state, second -/
/-- the paper -/
def kPp (W : kW) (ur uc : zMu) : Prop := wP W ≤ 20000 ∧ zI ur 0 60 = nI (wP W) ∧ zI uc 34 5 = nI (wP W) ∧ pVw 72 200 uc ∧ ∀ j, j < wP W → j < 200 → vR (wO W) (wR W) (zI ur 33 j) (zL ur 34 j) (vS 72 uc j) (vX 72 uc j)
theorem kPp_k {W : kW} {ts : List Nat} {ur uc vr vc : zMu} (h : kPp W ur uc) (hr : fT tgR ts ur vr) (hc : fT tgC ts uc vc) (q : ¬ 4 ∈ ts) : kPp W vr vc := by
  obtain ⟨h0, h1, h2, h4, h5⟩ := h
  obtain ⟨v1, v2, v3, -⟩ := vw_kT hc (v := 72) (m := 200) (t := 4) (by unfold vK; omega) q
  refine ⟨h0, (fT_i hr q (show tgR 0 60 = 4 from rfl)).trans h1, (fT_i hc q (show tgC 34 5 = 4 from rfl)).trans h2, v1 h4, fun j hj hk => ?_⟩
  rw [v2, v3, fT_i hr q (show tgR 33 j = 4 from rfl), fT_l hr q (show tgR 34 0 = 4 from rfl)]
  exact h5 j hj hk
/-- rows: sizes z -/
def kRw (W : kW) (ur uc : zMu) : Prop := wR W ≤ 60 ∧ zI ur 0 59 = nI (wR W) ∧ zI uc 45 5 = nI (wR W) ∧ zI uc 45 6 = zI ur 0 67 ∧ pVw 69 3000 uc ∧ ∃ z : Nat → Nat, zI uc 45 4 = nI (kSm z (wR W)) ∧ ∀ r, r < wR W → z r ≤ 50 ∧ (∃ k, k ≤ 2 ∧ zI ur 48 r = nI k ∧ zI uc 46 r = nI k) ∧ zI ur 49 r = nI (z r) ∧ zI uc 47 r = nI (z r) ∧ zI uc 48 r = nI (kSm z r) ∧ ∀ j, j < z r → vR (wO W) (wR W) (zI ur 50 (50 * r + j)) (zL ur 51 (50 * r + j)) (vS 69 uc (kSm z r + j)) (vX 69 uc (kSm z r + j))
theorem kRw_k {W : kW} {ts : List Nat} {ur uc vr vc : zMu} (h : kRw W ur uc) (hr : fT tgR ts ur vr) (hc : fT tgC ts uc vc) (q : ¬ 8 ∈ ts) : kRw W vr vc := by
  obtain ⟨h1, h2, h3, h4, h5, z, h6, h7⟩ := h
  obtain ⟨v1, v2, v3, -⟩ := vw_kT hc (v := 69) (m := 3000) (t := 8) (by unfold vK; omega) q
  refine ⟨h1, (fT_i hr q (show tgR 0 59 = 8 from rfl)).trans h2, (fT_i hc q (show tgC 45 5 = 8 from rfl)).trans h3, ?_, v1 h5, z, (fT_i hc q (show tgC 45 4 = 8 from rfl)).trans h6, fun r hr' => ?_⟩
  · rw [fT_i hc q (show tgC 45 6 = 8 from rfl), fT_i hr q (show tgR 0 67 = 8 from rfl)]; exact h4
  · obtain ⟨g1, ⟨k, k1, k2, k3⟩, g3, g4, g5, g6⟩ := h7 r hr'
    refine ⟨g1, ⟨k, k1, (fT_i hr q (show tgR 48 r = 8 from rfl)).trans k2, (fT_i hc q (show tgC 46 r = 8 from rfl)).trans k3⟩, (fT_i hr q (show tgR 49 r = 8 from rfl)).trans g3, (fT_i hc q (show tgC 47 r = 8 from rfl)).trans g4, (fT_i hc q (show tgC 48 r = 8 from rfl)).trans g5, fun j hj => ?_⟩
    rw [v2, v3, fT_i hr q (show tgR 50 (50 * r + j) = 8 from rfl), fT_l hr q (show tgR 51 0 = 8 from rfl)]
    exact g6 j hj
/-- what a site keeps: entry e of site s -/
def kEn (ub : zMu) (W : kW) (ur uc : zMu) (s e : Nat) : Prop := ∃ sh E, sh < wS W ∧ zI ur 55 e = nI sh ∧ zI uc 55 e = nI sh ∧ (E ≤ 200 ∧ ¬ zI ub 19 s = nI 2) ∧ zI uc 56 e = nI E ∧ ((zI ub 19 s = 0 ∧ ∃ F T, F < wO W ∧ ws W sh = F + 1 ∧ zI ur 56 e = nI F ∧ zI ur 57 e = nI T ∧ anc (wp W) F T ∧ ∀ x, anc (wp W) F x → (T ≤ x ↔ E ≤ x)) ∨ (zI ur 56 e = -1 ∧ (E = 200 ∨ ws W sh = 0)))
def kS1 (F : Nat) (ub : zMu) (W : kW) (ur uc : zMu) (s : Nat) : Prop := zI uc 50 s = zI ur 52 s ∧ zI uc 51 s = zI ur 53 s ∧ (zI ub 19 s = nI 3 → zI uc 54 s = zI ur 54 s ∧ zI uc 52 s = 0 ∧ zI uc 53 s = 0 ∧ zI ur 58 s = 0) ∧ (¬ zI ub 19 s = nI 3 → ∃ k, k ≤ 4 ∧ zI ur 54 s = nI k ∧ zI uc 52 s = nI k ∧ zI uc 53 s = zI ur 58 s ∧ (zI ur 58 s = 0 ∨ (zI ur 58 s = 1 ∧ k = 0)) ∧ ∀ i, i < k → kEn ub W ur uc s (4 * s + i)) ∧ ∃ g, g ≤ 4 ∧ zI ur 59 s = nI g ∧ zI uc 58 s = nI g ∧ (0 < g → (zI ub 19 s = nI 0 ∨ zI ub 19 s = nI 3) ∧ ∃ f, f < F ∧ zI ub 21 s = nI f ∧ wf W f = 1) ∧ (zI ub 19 s = nI 0 → ∀ i, i < g → zI uc 57 (4 * s + i) = zI ur 60 (4 * s + i))
def kSi (F S : Nat) (ub : zMu) (W : kW) (ur uc : zMu) : Prop := zI uc 49 9 = zI ur 0 62 ∧ zI uc 49 10 = zI ur 0 63 ∧ zI uc 49 11 = zI ur 0 64 ∧ ∀ s, s < S → kS1 F ub W ur uc s
theorem kEn_q {ub : zMu} {W : kW} {ur uc vr vc : zMu} {s e e' : Nat} (h : kEn ub W ur uc s e) (r1 : zI vr 55 e' = zI ur 55 e) (r2 : zI vr 56 e' = zI ur 56 e) (r3 : zI vr 57 e' = zI ur 57 e) (c1 : zI vc 55 e' = zI uc 55 e) (c2 : zI vc 56 e' = zI uc 56 e) : kEn ub W vr vc s e' := by
  unfold kEn at h ⊢
  rw [r1, r2, r3, c1, c2]
  exact h
theorem kS1_k {F : Nat} {ub : zMu} {W : kW} {ur uc vr vc : zMu} {s : Nat} (h : kS1 F ub W ur uc s) (hr : ∀ a j, 52 ≤ a → a ≤ 60 → (j = s ∨ (4 * s ≤ j ∧ j < 4 * s + 4 ∧ (55 ≤ a ∧ a ≤ 57 ∨ a = 60))) → zI vr a j = zI ur a j) (hc : ∀ a j, 50 ≤ a → a ≤ 58 → (j = s ∨ (4 * s ≤ j ∧ j < 4 * s + 4 ∧ (55 ≤ a ∧ a ≤ 57))) → zI vc a j = zI uc a j) : kS1 F ub W vr vc s := by
  obtain ⟨h1, h2, h3, h4, g, g1, g2, g3, g4, g5⟩ := h
  refine ⟨?_, ?_, fun q => ?_, fun q => ?_, g, g1, ?_, ?_, g4, fun q i hi => ?_⟩
  · rw [hr 52 s (by omega) (by omega) (by omega), hc 50 s (by omega) (by omega) (by omega)]; exact h1
  · rw [hr 53 s (by omega) (by omega) (by omega), hc 51 s (by omega) (by omega) (by omega)]; exact h2
  · rw [hr 54 s (by omega) (by omega) (by omega), hc 54 s (by omega) (by omega) (by omega), hc 52 s (by omega) (by omega) (by omega), hc 53 s (by omega) (by omega) (by omega), hr 58 s (by omega) (by omega) (by omega)]; exact h3 q
  · obtain ⟨k, k1, k2, k3, k4, k5, k6⟩ := h4 q
    refine ⟨k, k1, ?_, ?_, ?_, ?_, fun i hi => kEn_q (k6 i hi) (hr 55 _ (by omega) (by omega) (by omega)) (hr 56 _ (by omega) (by omega) (by omega)) (hr 57 _ (by omega) (by omega) (by omega)) (hc 55 _ (by omega) (by omega) (by omega)) (hc 56 _ (by omega) (by omega) (by omega))⟩
    · rw [hr 54 s (by omega) (by omega) (by omega)]; exact k2
    · rw [hc 52 s (by omega) (by omega) (by omega)]; exact k3
    · rw [hr 58 s (by omega) (by omega) (by omega), hc 53 s (by omega) (by omega) (by omega)]; exact k4
    · rw [hr 58 s (by omega) (by omega) (by omega)]; exact k5
  · rw [hr 59 s (by omega) (by omega) (by omega)]; exact g2
  · rw [hc 58 s (by omega) (by omega) (by omega)]; exact g3
  · rw [hr 60 _ (by omega) (by omega) (by omega), hc 57 _ (by omega) (by omega) (by omega)]; exact g5 q i hi
theorem tgR_9 {a : Nat} (h : 52 ≤ a) (k : a ≤ 60) (j : Nat) : tgR a j = 9 := by
  have : a = 52 ∨ a = 53 ∨ a = 54 ∨ a = 55 ∨ a = 56 ∨ a = 57 ∨ a = 58 ∨ a = 59 ∨ a = 60 := by omega
  rcases this with rfl | rfl | rfl | rfl | rfl | rfl | rfl | rfl | rfl <;> rfl
theorem tgC_9 {a : Nat} (h : 49 ≤ a) (k : a ≤ 58) (j : Nat) : tgC a j = 9 := by
  have : a = 49 ∨ a = 50 ∨ a = 51 ∨ a = 52 ∨ a = 53 ∨ a = 54 ∨ a = 55 ∨ a = 56 ∨ a = 57 ∨ a = 58 := by omega
  rcases this with rfl | rfl | rfl | rfl | rfl | rfl | rfl | rfl | rfl | rfl <;> rfl
theorem kSi_k {F S : Nat} {ub : zMu} {W : kW} {ts : List Nat} {ur uc vr vc : zMu} (h : kSi F S ub W ur uc) (hr : fT tgR ts ur vr) (hc : fT tgC ts uc vc) (q : ¬ 9 ∈ ts) : kSi F S ub W vr vc := by
  obtain ⟨h1, h2, h3, h4⟩ := h
  refine ⟨?_, ?_, ?_, fun s hs => kS1_k (h4 s hs) (fun a j x y _ => fT_i hr q (tgR_9 x y j)) (fun a j x y _ => fT_i hc q (tgC_9 (by omega) y j))⟩
  · rw [fT_i hr q (show tgR 0 62 = 9 from rfl), fT_i hc q (show tgC 49 9 = 9 from rfl)]; exact h1
  · rw [fT_i hr q (show tgR 0 63 = 9 from rfl), fT_i hc q (show tgC 49 10 = 9 from rfl)]; exact h2
  · rw [fT_i hr q (show tgR 0 64 = 9 from rfl), fT_i hc q (show tgC 49 11 = 9 from rfl)]; exact h3
/-- fns -/
def kFn (F : Nat) (W : kW) (ur uc : zMu) : Prop := zI uc 59 6 = zI ur 0 65 ∧ zI uc 59 7 = zI ur 0 66 ∧ ∀ f, f < F → zI uc 60 f = zI ur 61 f ∧ zI uc 61 f = zI ur 62 f ∧ zI uc 63 f = zI ur 63 f ∧ zI uc 65 f = zI ur 65 f ∧ wf W f ≤ 1 ∧ zI ur 66 f = nI (wf W f) ∧ zI uc 62 f = nI (wf W f) ∧ ∃ l, l ≤ 3 ∧ zI ur 64 f = nI l ∧ zI uc 64 f = nI l ∧ zI ur 67 f = nI (if l = 3 then 1 else 0) ∧ (wf W f = 1 → l < 3)
theorem kFn_k {F : Nat} {W : kW} {ts : List Nat} {ur uc vr vc : zMu} (h : kFn F W ur uc) (hr : fT tgR ts ur vr) (hc : fT tgC ts uc vc) (q : ¬ 10 ∈ ts) : kFn F W vr vc := by
  obtain ⟨h1, h2, h3⟩ := h
  refine ⟨?_, ?_, fun f hf => ?_⟩
  · rw [fT_i hr q (show tgR 0 65 = 10 from rfl), fT_i hc q (show tgC 59 6 = 10 from rfl)]; exact h1
  · rw [fT_i hr q (show tgR 0 66 = 10 from rfl), fT_i hc q (show tgC 59 7 = 10 from rfl)]; exact h2
  · rw [fT_i hr q (show tgR 61 f = 10 from rfl), fT_i hr q (show tgR 62 f = 10 from rfl), fT_i hr q (show tgR 63 f = 10 from rfl), fT_i hr q (show tgR 64 f = 10 from rfl), fT_i hr q (show tgR 65 f = 10 from rfl), fT_i hr q (show tgR 66 f = 10 from rfl), fT_i hr q (show tgR 67 f = 10 from rfl), fT_i hc q (show tgC 60 f = 10 from rfl), fT_i hc q (show tgC 61 f = 10 from rfl), fT_i hc q (show tgC 62 f = 10 from rfl), fT_i hc q (show tgC 63 f = 10 from rfl), fT_i hc q (show tgC 64 f = 10 from rfl), fT_i hc q (show tgC 65 f = 10 from rfl)]
    exact h3 f hf
/-- counters; T steps -/
def kCt (T : Nat) (ur uc : zMu) : Prop := zI ur 0 55 = nI T ∧ zI uc 34 15 = nI T ∧ zI uc 34 16 = zI ur 0 56 ∧ zI uc 34 12 = zI ur 0 68 ∧ zI uc 34 18 = zI ur 0 53 ∧ zI uc 34 19 = zI ur 0 54
theorem kCt_k {T : Nat} {ts : List Nat} {ur uc vr vc : zMu} (h : kCt T ur uc) (hr : fT tgR ts ur vr) (hc : fT tgC ts uc vc) (q : ¬ 11 ∈ ts) : kCt T vr vc := by
  obtain ⟨h1, h2, h3, h4, h5, h6⟩ := h
  refine ⟨(fT_i hr q (show tgR 0 55 = 11 from rfl)).trans h1, (fT_i hc q (show tgC 34 15 = 11 from rfl)).trans h2, ?_, ?_, ?_, ?_⟩
  · rw [fT_i hr q (show tgR 0 56 = 11 from rfl), fT_i hc q (show tgC 34 16 = 11 from rfl)]; exact h3
  · rw [fT_i hr q (show tgR 0 68 = 11 from rfl), fT_i hc q (show tgC 34 12 = 11 from rfl)]; exact h4
  · rw [fT_i hr q (show tgR 0 53 = 11 from rfl), fT_i hc q (show tgC 34 18 = 11 from rfl)]; exact h5
  · rw [fT_i hr q (show tgR 0 54 = 11 from rfl), fT_i hc q (show tgC 34 19 = 11 from rfl)]; exact h6
/-- waiting calls: where they go on (the last one first) -/
def kFs (M : Nat → Nat) (ur uc : zMu) : List Nat → Prop
  | [] => True
  | r :: l => zI ur 29 (l.length + 1) = nI r ∧ zI uc 35 l.length = nI (M r) ∧ kFs M ur uc l
def kFr (M : Nat → Nat) (fr : List Nat) (ur uc : zMu) : Prop := fr.length ≤ 12 ∧ zI ur 0 52 = nI fr.length ∧ zI uc 34 11 = nI fr.length ∧ kFs M ur uc fr
theorem kFs_k {M : Nat → Nat} {ur uc vr vc : zMu} : ∀ fr : List Nat, (∀ j, j ≤ fr.length → zI vr 29 j = zI ur 29 j) → (∀ j, j < fr.length → zI vc 35 j = zI uc 35 j) → kFs M ur uc fr → kFs M vr vc fr := by
  intro fr
  induction fr with
  | nil => exact fun _ _ _ => trivial
  | cons r l ih =>
    intro a b h
    exact ⟨(a _ (by simp)).trans h.1, (b _ (by simp)).trans h.2.1, ih (fun j hj => a j (by simp; omega)) (fun j hj => b j (by simp; omega)) h.2.2⟩
theorem kFr_k {M : Nat → Nat} {fr : List Nat} {ts : List Nat} {ur uc vr vc : zMu} (h : kFr M fr ur uc) (hr : fT tgR ts ur vr) (hc : fT tgC ts uc vc) (q : ¬ 3 ∈ ts) : kFr M fr vr vc := ⟨h.1, (fT_i hr q (show tgR 0 52 = 3 from rfl)).trans h.2.1, (fT_i hc q (show tgC 34 11 = 3 from rfl)).trans h.2.2.1, kFs_k fr (fun j _ => fT_i hr q (show tgR 29 j = 3 from rfl)) (fun j _ => fT_i hc q (show tgC 35 j = 3 from rfl)) h.2.2.2⟩
/-! growing -/
theorem kPp_m {W V : kW} {ur uc : zMu} (h : kPp W ur uc) (l : wLe W V) (e : wP V = wP W) : kPp V ur uc := by
  obtain ⟨h0, h1, h2, h4, h5⟩ := h
  refine ⟨by rw [e]; exact h0, by rw [e]; exact h1, by rw [e]; exact h2, h4, fun j hj hk => vR_mono (h5 j (by rw [e] at hj; exact hj) hk) l.1 l.2.1⟩
theorem kRw_m {W V : kW} {ur uc : zMu} (h : kRw W ur uc) (l : wLe W V) (e : wR V = wR W) : kRw V ur uc := by
  obtain ⟨h1, h2, h3, h4, h5, z, h6, h7⟩ := h
  refine ⟨by rw [e]; exact h1, by rw [e]; exact h2, by rw [e]; exact h3, h4, h5, z, by rw [e]; exact h6, fun r hr => ?_⟩
  obtain ⟨g1, g2, g3, g4, g5, g6⟩ := h7 r (by rw [e] at hr; exact hr)
  exact ⟨g1, g2, g3, g4, g5, fun j hj => vR_mono (g6 j hj) l.1 l.2.1⟩
theorem kEn_m {ub : zMu} {W V : kW} {ur uc : zMu} {s e : Nat} (h : kEn ub W ur uc s e) (l : wLe W V) (hp : ∀ o, o < wO W → wp W o ≤ o) : kEn ub V ur uc s e := by
  obtain ⟨sh, E, h1, h2, h3, h4, h5, h6⟩ := h
  have l1 := l.1
  have l3 := l.2.2.1
  refine ⟨sh, E, by omega, h2, h3, h4, h5, ?_⟩
  rcases h6 with ⟨k, F, T, f1, f2, f3, f4, f5, f6⟩ | ⟨f1, f2⟩
  · have cg : ∀ x, anc (wp V) F x ↔ anc (wp W) F x := fun x => anc_cg F F (Nat.le_refl _) (fun j hj => hp j (by omega)) (fun j hj => l.2.2.2.1 j (by omega))
    exact Or.inl ⟨k, F, T, by omega, by rw [(l.2.2.2.2 sh h1).1]; exact f2, f3, f4, (cg T).mpr f5, fun x hx => f6 x ((cg x).mp hx)⟩
  · exact Or.inr ⟨f1, by rw [(l.2.2.2.2 sh h1).1]; exact f2⟩
theorem kSi_m {F S : Nat} {ub : zMu} {W V : kW} {ur uc : zMu} (h : kSi F S ub W ur uc) (l : wLe W V) (hp : ∀ o, o < wO W → wp W o ≤ o) (e : wf V = wf W) : kSi F S ub V ur uc := by
  obtain ⟨h1, h2, h3, h4⟩ := h
  refine ⟨h1, h2, h3, fun s hs => ?_⟩
  obtain ⟨g1, g2, g3, g4, g5⟩ := h4 s hs
  refine ⟨g1, g2, g3, fun q => ?_, by rw [e]; exact g5⟩
  obtain ⟨k, k1, k2, k3, k4, k5, k6⟩ := g4 q
  exact ⟨k, k1, k2, k3, k4, k5, fun i hi => kEn_m (k6 i hi) l hp⟩
theorem kFn_m {F : Nat} {W V : kW} {ur uc : zMu} (h : kFn F W ur uc) (e : wf V = wf W) : kFn F V ur uc := by
  unfold kFn at h ⊢
  rw [e]; exact h
/-- rows are made: the members stay -/
theorem kMb_m {X : pCx} {ub : zMu} {W V : kW} {ur uc : zMu} (h : kMb X ub W ur uc) (l : wLe W V) (e1 : wO V = wO W) (e2 : wM V = wM W) (e3 : wl V = wl W) : kMb X ub V ur uc := by
  obtain ⟨h1, h2, U, fr, ov, ow, h3, h4, h5⟩ := h
  refine ⟨by rw [e2]; exact h1, by rw [e2]; exact h2, U, fr, ov, ow, by rw [e1, e3]; exact h3, h4, fun o ho => ?_⟩
  obtain ⟨g1, g2⟩ := h5 o (by rw [e1] at ho; exact ho)
  refine ⟨by unfold kMo at g1 ⊢; rw [e3]; exact g1, fun m hm => ?_⟩
  obtain ⟨m1, m2, m3, m4, m5, m6, m7, m8, m9⟩ := g2 m (by rw [e3] at hm; exact hm)
  exact ⟨m1, m2, by rw [e2]; exact m3, m4, m5, m6, m7, m8, vR_mono m9 l.1 l.2.1⟩
