/-! PARSING, seventh part: two computations side by side; the state of a parse -/
def Rp {ρ σ : Type} (X : Option (ρ × zMu)) (Y : Option (σ × zMu)) (Q : ρ → zMu → σ → zMu → Prop) : Prop := ∃ a u b v, X = some (a, u) ∧ Y = some (b, v) ∧ Q a u b v
theorem rp_bd {ρ σ ρ' σ' : Type} {X : Option (ρ × zMu)} {Y : Option (σ × zMu)} {F : ρ → zMu → Option (ρ' × zMu)} {G : σ → zMu → Option (σ' × zMu)} {Q : ρ' → zMu → σ' → zMu → Prop} (h : Rp X Y (fun a u b v => Rp (F a u) (G b v) Q)) : Rp (zbd X F) (zbd Y G) Q := by
  obtain ⟨a, u, b, v, rfl, rfl, h⟩ := h
  exact h
theorem rp_l {ρ ρ' σ : Type} {X : Option (ρ × zMu)} {Y : Option (σ × zMu)} {F : ρ → zMu → Option (ρ' × zMu)} {Q : ρ' → zMu → σ → zMu → Prop} {a : ρ} {u : zMu} (e : X = some (a, u)) (h : Rp (F a u) Y Q) : Rp (zbd X F) Y Q := by
  subst e; exact h
theorem rp_r {ρ σ σ' : Type} {X : Option (ρ × zMu)} {Y : Option (σ × zMu)} {G : σ → zMu → Option (σ' × zMu)} {Q : ρ → zMu → σ' → zMu → Prop} {b : σ} {v : zMu} (e : Y = some (b, v)) (h : Rp X (G b v) Q) : Rp X (zbd Y G) Q := by
  subst e; exact h
theorem rp_end {ρ σ : Type} {a : ρ} {u : zMu} {b : σ} {v : zMu} {Q : ρ → zMu → σ → zMu → Prop} (h : Q a u b v) : Rp (some (a, u)) (some (b, v)) Q := ⟨a, u, b, v, rfl, rfl, h⟩
theorem rp_eq {ρ σ : Type} {X : Option (ρ × zMu)} {Y : Option (σ × zMu)} {a : ρ} {u : zMu} {b : σ} {v : zMu} {Q : ρ → zMu → σ → zMu → Prop} (e : X = some (a, u)) (f : Y = some (b, v)) (h : Q a u b v) : Rp X Y Q := ⟨a, u, b, v, e, f, h⟩
theorem rp_wp {ρ σ : Type} {X : Option (ρ × zMu)} {Y : Option (σ × zMu)} {P : ρ → zMu → Prop} {P' : σ → zMu → Prop} {Q : ρ → zMu → σ → zMu → Prop} (h1 : Wp X P) (h2 : Wp Y P') (h : ∀ a u b v, P a u → P' b v → Q a u b v) : Rp X Y Q := by
  obtain ⟨a, u, e, h1⟩ := h1
  obtain ⟨b, v, f, h2⟩ := h2
  exact ⟨a, u, b, v, e, f, h _ _ _ _ h1 h2⟩
theorem rp_mono {ρ σ : Type} {X : Option (ρ × zMu)} {Y : Option (σ × zMu)} {Q Q' : ρ → zMu → σ → zMu → Prop} (h : Rp X Y Q) (k : ∀ a u b v, Q a u b v → Q' a u b v) : Rp X Y Q' := by
  obtain ⟨a, u, b, v, e, f, h⟩ := h
  exact ⟨a, u, b, v, e, f, k _ _ _ _ h⟩
theorem rp_ll {α ρ σ : Type} {x : α} {f : α → Option (ρ × zMu)} {Y : Option (σ × zMu)} {Q : ρ → zMu → σ → zMu → Prop} (h : Rp (f x) Y Q) : Rp (zlet x f) Y Q := h
theorem rp_rl {α ρ σ : Type} {x : α} {f : α → Option (σ × zMu)} {X : Option (ρ × zMu)} {Q : ρ → zMu → σ → zMu → Prop} (h : Rp X (f x) Q) : Rp X (zlet x f) Q := h
theorem rp_lg {ρ σ : Type} {b : Bool} {X : Option (ρ × zMu)} {Y : Option (σ × zMu)} {Q : ρ → zMu → σ → zMu → Prop} (hb : b = true) (h : Rp X Y Q) : Rp (zgd b X) Y Q := by subst hb; exact h
theorem rp_rg {ρ σ : Type} {b : Bool} {X : Option (ρ × zMu)} {Y : Option (σ × zMu)} {Q : ρ → zMu → σ → zMu → Prop} (hb : b = true) (h : Rp X Y Q) : Rp X (zgd b Y) Q := by subst hb; exact h
theorem rp_lt {ρ σ : Type} {c : Prop} [Decidable c] {X X' : Option (ρ × zMu)} {Y : Option (σ × zMu)} {Q : ρ → zMu → σ → zMu → Prop} (hc : c) (h : Rp X Y Q) : Rp (if c then X else X') Y Q := by rw [if_pos hc]; exact h
theorem rp_lf {ρ σ : Type} {c : Prop} [Decidable c] {X X' : Option (ρ × zMu)} {Y : Option (σ × zMu)} {Q : ρ → zMu → σ → zMu → Prop} (hc : ¬ c) (h : Rp X' Y Q) : Rp (if c then X else X') Y Q := by rw [if_neg hc]; exact h
theorem rp_rt {ρ σ : Type} {c : Prop} [Decidable c] {X : Option (ρ × zMu)} {Y Y' : Option (σ × zMu)} {Q : ρ → zMu → σ → zMu → Prop} (hc : c) (h : Rp X Y Q) : Rp X (if c then Y else Y') Q := by rw [if_pos hc]; exact h
theorem rp_rf {ρ σ : Type} {c : Prop} [Decidable c] {X : Option (ρ × zMu)} {Y Y' : Option (σ × zMu)} {Q : ρ → zMu → σ → zMu → Prop} (hc : ¬ c) (h : Rp X Y' Q) : Rp X (if c then Y else Y') Q := by rw [if_neg hc]; exact h
/-! the frame of a parse -/
def pwR (k j : Nat) : Prop := (k = 0 ∧ (j = 10 ∨ (15 ≤ j ∧ j ≤ 17) ∨ (24 ≤ j ∧ j ≤ 27) ∨ j = 33 ∨ j = 34 ∨ j = 39 ∨ j = 44)) ∨ (10 ≤ k ∧ k ≤ 26)
def pwC (p k j : Nat) : Prop := (2 ≤ k ∧ k ≤ 6) ∨ (k = 7 ∧ 5 ≤ j) ∨ (k = p ∧ j ≠ 15) ∨ (p + 1 ≤ k ∧ k ≤ p + 10)
def fPR (u v : zMu) : Prop := v.2 = u.2 ∧ ∀ k j, ¬ pwR k j → zI v k j = zI u k j
def fPC (p : Nat) (u v : zMu) : Prop := (∀ k j, ¬ pwC p k j → zI v k j = zI u k j) ∧ (∀ k j, ¬ pwC p k j → zL v k j = zL u k j) ∧ v.2.2 = u.2.2
theorem fPR_rf (u : zMu) : fPR u u := ⟨rfl, fun _ _ _ => rfl⟩
theorem fPC_rf (p : Nat) (u : zMu) : fPC p u u := ⟨fun _ _ _ => rfl, fun _ _ _ => rfl, rfl⟩
theorem fPR_I {u v : zMu} {k j : Nat} {x : Int32} (h : fPR u v) (hk : pwR k j) : fPR u (zsI v k j x) := ⟨h.1, fun a b n => by
  rw [gI_sI, if_neg]
  · exact h.2 a b n
  · rintro ⟨rfl, rfl⟩; exact n hk⟩
theorem fPC_I {p : Nat} {u v : zMu} {k j : Nat} {x : Int32} (h : fPC p u v) (hk : pwC p k j) : fPC p u (zsI v k j x) := ⟨fun a b n => by
  rw [gI_sI, if_neg]
  · exact h.1 a b n
  · rintro ⟨rfl, rfl⟩; exact n hk, h.2.1, h.2.2⟩
theorem fPC_L {p : Nat} {u v : zMu} {k j : Nat} {x : Int64} (h : fPC p u v) (hk : pwC p k j) : fPC p u (zsL v k j x) := ⟨h.1, fun a b n => by
  rw [gL_sL, if_neg]
  · exact h.2.1 a b n
  · rintro ⟨rfl, rfl⟩; exact n hk, h.2.2⟩
/-! what stands still while a text is parsed: (program's cell, text's size, tokens, names), packed names, kinds and places of tokens, the pictures at the start -/
abbrev pCx : Type := (Nat × Nat × Nat × Nat × Nat × Nat) × (Nat → Int64) × (Nat → Nat) × (Nat → Nat) × (Nat → Nat) × zMu × zMu
def xp (X : pCx) : Nat := X.1.1
def xs (X : pCx) : Nat := X.1.2.1
def xT (X : pCx) : Nat := X.1.2.2.1
def xN (X : pCx) : Nat := X.1.2.2.2.1
/-- how many fns there are -/
def xF (X : pCx) : Nat := X.1.2.2.2.2.1
/-- which routine is read: 9 the main -/
def xR (X : pCx) : Nat := X.1.2.2.2.2.2
def setF (X : pCx) (f r : Nat) : pCx := ((X.1.1, X.1.2.1, X.1.2.2.1, X.1.2.2.2.1, f, r), X.2)
def xPK (X : pCx) : Nat → Int64 := X.2.1
def xrk (X : pCx) : Nat → Nat := X.2.2.1
def xck (X : pCx) : Nat → Nat := X.2.2.2.1
def xpl (X : pCx) : Nat → Nat := X.2.2.2.2.1
def xr (X : pCx) : zMu := X.2.2.2.2.2.1
def xc (X : pCx) : zMu := X.2.2.2.2.2.2
def xOk (X : pCx) : Prop := (xp X = 12 ∨ xp X = 23) ∧ xs X ≤ 1500 ∧ xN X ≤ 1500 ∧ (∀ w w', w < xN X → w' < xN X → xPK X w = xPK X w' → w = w') ∧ tkF (xs X) (xPK X) (xT X) (xN X) (xrk X) (xck X) (xpl X) (xr X) (xc X) ∧ zR (xc X) 2 1 = xp X
theorem xOk.tk {X : pCx} {ur uc : zMu} (h : xOk X) (hr : fPR (xr X) ur) (hc : fPC (xp X) (xc X) uc) : tkF (xs X) (xPK X) (xT X) (xN X) (xrk X) (xck X) (xpl X) ur uc := by
  have hp := h.1
  exact tkF_keep h.2.2.2.2.1 (fun t => hr.2 4 t (by unfold pwR; omega)) (fun t => hr.2 5 t (by unfold pwR; omega)) (fun t => hr.2 6 t (by unfold pwR; omega)) (hc.1 7 4 (by unfold pwC; omega)) (fun t => hc.1 9 t (by unfold pwC; omega)) (fun t => hc.1 10 t (by unfold pwC; omega)) (fun t => hc.2.1 11 t (by unfold pwC; omega))
theorem xOk.zp {X : pCx} {uc : zMu} (h : xOk X) (hc : fPC (xp X) (xc X) uc) : zR uc 2 1 = xp X := by
  have e : zR uc 2 1 = zR (xc X) 2 1 := by unfold zR; rw [hc.2.2]
  rw [e]; exact h.2.2.2.2.2
theorem xOk.zpr {X : pCx} (h : xOk X) : zpr (xp X) = true := by
  rcases h.1 with e | e <;> rw [e] <;> rfl
theorem xOk.T {X : pCx} (h : xOk X) : xT X ≤ 1500 := h.2.2.2.2.1.2.2.2.1
theorem xOk.pl {X : pCx} (h : xOk X) {i : Nat} (hi : i ≤ xT X) : xpl X i ≤ 1500 := by
  have := (h.2.2.2.2.1.1 i hi).2
  have := h.2.1
  omega
theorem xOk.nx {X : pCx} (h : xOk X) {i : Nat} (hi : i ≤ xT X) (hk : xrk X i ≠ 0) : i < xT X := tk_lt h.2.2.2.2.1 hi hk
theorem xOk.kr {X : pCx} (h : xOk X) {i : Nat} (hi : i ≤ xT X) : kRel (xrk X i) (xck X i) := (h.2.2.2.2.1.1 i hi).1.1
/-- the kinds as they are asked for -/
theorem xOk.rk {X : pCx} (h : xOk X) {i : Nat} (hi : i ≤ xT X) (k : Nat) (hk : k < 2 ^ 31) : nI (xrk X i) = nI k ↔ xrk X i = k := nI_eq (by have := (kRel_lt (h.kr hi)).1; omega) hk
theorem xOk.ck {X : pCx} (h : xOk X) {i : Nat} (hi : i ≤ xT X) {k c : Nat} (hk : kRel k c) : nI (xck X i) = nI c ↔ xrk X i = k := by
  rw [nI_eq (by have := (kRel_lt (h.kr hi)).2; omega) (by have := (kRel_lt hk).2; omega)]
  exact (kRel_inj (h.kr hi) hk).symm
