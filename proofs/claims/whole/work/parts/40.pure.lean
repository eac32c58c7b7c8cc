/-! PURE: stepping models -/
def Wp {ρ : Type} (X : Option (ρ × zMu)) (Q : ρ → zMu → Prop) : Prop := ∃ r u, X = some (r, u) ∧ Q r u
theorem wp_some {ρ : Type} {r : ρ} {u : zMu} {Q : ρ → zMu → Prop} (h : Q r u) : Wp (some (r, u)) Q := ⟨r, u, rfl, h⟩
theorem wp_bd {ρ σ : Type} {X : Option (ρ × zMu)} {F : ρ → zMu → Option (σ × zMu)} {Q : σ → zMu → Prop} (h : Wp X (fun r u => Wp (F r u) Q)) : Wp (zbd X F) Q := by
  obtain ⟨r, u, rfl, r2, u2, h2, h3⟩ := h
  exact ⟨r2, u2, h2, h3⟩
theorem wp_gd {ρ : Type} {b : Bool} {X : Option (ρ × zMu)} {Q : ρ → zMu → Prop} (hb : b = true) (h : Wp X Q) : Wp (zgd b X) Q := by
  subst hb; exact h
theorem wp_let {α ρ : Type} {x : α} {f : α → Option (ρ × zMu)} {Q : ρ → zMu → Prop} (h : Wp (f x) Q) : Wp (zlet x f) Q := h
theorem wp_t {ρ : Type} {c : Prop} [Decidable c] {X Y : Option (ρ × zMu)} {Q : ρ → zMu → Prop} (hc : c) (h : Wp X Q) : Wp (if c then X else Y) Q := by rw [if_pos hc]; exact h
theorem wp_f {ρ : Type} {c : Prop} [Decidable c] {X Y : Option (ρ × zMu)} {Q : ρ → zMu → Prop} (hc : ¬ c) (h : Wp Y Q) : Wp (if c then X else Y) Q := by rw [if_neg hc]; exact h
theorem wp_if {ρ : Type} {c : Prop} [Decidable c] {X Y : Option (ρ × zMu)} {Q : ρ → zMu → Prop} (h1 : c → Wp X Q) (h2 : ¬ c → Wp Y Q) : Wp (if c then X else Y) Q := by
  by_cases hc : c
  · exact wp_t hc (h1 hc)
  · exact wp_f hc (h2 hc)
theorem wp_mono {ρ : Type} {X : Option (ρ × zMu)} {Q Q' : ρ → zMu → Prop} (h : Wp X Q) (k : ∀ r u, Q r u → Q' r u) : Wp X Q' := by
  obtain ⟨r, u, e, h⟩ := h
  exact ⟨r, u, e, k r u h⟩
/-! reading behind writing -/
theorem gI_sI (u : zMu) (k j : Nat) (v : Int32) (k' j' : Nat) : zI (zsI u k j v) k' j' = if k' = k ∧ j' = j then v else zI u k' j' := rfl
theorem gI_sL (u : zMu) (k j : Nat) (v : Int64) (k' j' : Nat) : zI (zsL u k j v) k' j' = zI u k' j' := rfl
theorem gI_sR (u : zMu) (k j v k' j' : Nat) : zI (zsR u k j v) k' j' = zI u k' j' := rfl
theorem gL_sI (u : zMu) (k j : Nat) (v : Int32) (k' j' : Nat) : zL (zsI u k j v) k' j' = zL u k' j' := rfl
theorem gL_sL (u : zMu) (k j : Nat) (v : Int64) (k' j' : Nat) : zL (zsL u k j v) k' j' = if k' = k ∧ j' = j then v else zL u k' j' := rfl
theorem gL_sR (u : zMu) (k j v k' j' : Nat) : zL (zsR u k j v) k' j' = zL u k' j' := rfl
theorem gR_sI (u : zMu) (k j : Nat) (v : Int32) (k' j' : Nat) : zR (zsI u k j v) k' j' = zR u k' j' := rfl
theorem gR_sL (u : zMu) (k j : Nat) (v : Int64) (k' j' : Nat) : zR (zsL u k j v) k' j' = zR u k' j' := rfl
theorem gR_sR (u : zMu) (k j v k' j' : Nat) : zR (zsR u k j v) k' j' = if k' = k ∧ j' = j then v else zR u k' j' := rfl
theorem gN_sI (u : zMu) (k j : Nat) (v : Int32) (k' : Nat) : zN (zsI u k j v) k' = zN u k' := rfl
theorem gN_sL (u : zMu) (k j : Nat) (v : Int64) (k' : Nat) : zN (zsL u k j v) k' = zN u k' := rfl
theorem gN_sR (u : zMu) (k j v k' : Nat) : zN (zsR u k j v) k' = zN u k' := rfl
/-! numbers -/
theorem zx_nI {n : Nat} (h : n < 2 ^ 31) : zx (nI n) = n := nI_clamp h
theorem zin_nI {a n : Nat} (h : a < n) (hn : n < 2 ^ 31) : zin (nI a) n = true := by
  unfold zin
  exact decide_eq_true (vp_in_nI h hn)
theorem lit_nI (n : Nat) : (OfNat.ofNat n : Int32) = nI n := rfl
