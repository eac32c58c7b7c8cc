/-! RUNNING: the class's rows of values -/
/-- what a Values holds: m at most, sorts 0 to 4 -/
def pVw (v m : Nat) (u : zMu) : Prop := zI u v 0 = nI m ∧ m < 50000 ∧ 1 ≤ zN u (v + 1) ∧ zN u (v + 2) = zN u (v + 1) ∧ zN u (v + 1) ≤ m ∧ ∀ j, j < zN u (v + 1) → ∃ s, s ≤ 4 ∧ zI u (v + 1) j = nI s
def vS (v : Nat) (u : zMu) (j : Nat) : Int32 := if j < zN u (v + 1) then zI u (v + 1) j else 0
def vX (v : Nat) (u : zMu) (j : Nat) : Int64 := if j < zN u (v + 1) then zL u (v + 2) j else 0
/-- what its growing may cost -/
def vP (m L : Nat) : Nat := if L < m then 2 * L else 4 * m
theorem fits_s {s : Nat} (h : s ≤ 4) : fits .byte (.int (nI s)) = true := by
  have : s = 0 ∨ s = 1 ∨ s = 2 ∨ s = 3 ∨ s = 4 := by omega
  rcases this with rfl | rfl | rfl | rfl | rfl <;> decide
theorem v_sortAt (n : Nat) {v m : Nat} {u : zMu} (h : pVw v m u) {j : Nat} (hj : j < 2 ^ 31) : ce_V_sortAt n v u (nI j) = some (vS v u j, u) := by
  obtain ⟨h1, h2, h3, h4, h5, h6⟩ := h
  unfold ce_V_sortAt vS
  rw [if_neg (nI_pos hj)]
  by_cases z : j < zN u (v + 1)
  · rw [if_pos (show nI j < Int32.ofNat (zN u (v + 1)) from nI_lt z (by omega)), zin_nI z (by omega), zgd_t, zx_nI hj, if_pos z]
  · rw [if_neg (show ¬ nI j < Int32.ofNat (zN u (v + 1)) from nI_nlt (by omega) hj), if_neg z]
theorem v_numberAt (n : Nat) {v m : Nat} {u : zMu} (h : pVw v m u) {j : Nat} (hj : j < 2 ^ 31) : ce_V_numberAt n v u (nI j) = some (vX v u j, u) := by
  obtain ⟨h1, h2, h3, h4, h5, h6⟩ := h
  unfold ce_V_numberAt vX
  rw [if_neg (nI_pos hj), h4]
  by_cases z : j < zN u (v + 1)
  · rw [if_pos (show nI j < Int32.ofNat (zN u (v + 1)) from nI_lt z (by omega)), zin_nI z (by omega), zgd_t, zx_nI hj, if_pos z]
  · rw [if_neg (show ¬ nI j < Int32.ofNat (zN u (v + 1)) from nI_nlt (by omega) hj), if_neg z]
theorem v_s4 {v m : Nat} {u : zMu} (h : pVw v m u) (j : Nat) : ∃ s, s ≤ 4 ∧ vS v u j = nI s := by
  unfold vS
  by_cases z : j < zN u (v + 1)
  · rw [if_pos z]; exact h.2.2.2.2.2 j z
  · rw [if_neg z]; exact ⟨0, by omega, rfl⟩
/-- the frame of a set: the rows v + 1, v + 2 alone, and what was made -/
def fV (v m : Nat) (u w : zMu) : Prop := (∀ a j, a ≠ v + 1 → zI w a j = zI u a j) ∧ (∀ a j, a ≠ v + 2 → zL w a j = zL u a j) ∧ (∀ a j, zR w a j = zR u a j) ∧ (∀ a, a ≠ v + 1 → a ≠ v + 2 → zN w a = zN u a) ∧ zN u (v + 1) ≤ zN w (v + 1) ∧ (zc w).1 + 2 * zN u (v + 1) ≤ (zc u).1 + 2 * zN w (v + 1) ∧ (zc w).2 + 2 * vP m (zN u (v + 1)) ≤ (zc u).2 + 2 * vP m (zN w (v + 1))
theorem v_J27 (n : Nat) {v m : Nat} {u : zMu} (h : pVw v m u) {i s : Nat} (hi : i < zN u (v + 1)) (hs : s ≤ 4) (x : Int64) : ∃ w, ce_V_set_J27 n v u (nI i) (nI s) x = some ((), w) ∧ pVw v m w ∧ fV v m u w ∧ (∀ j, vS v w j = if j = i then nI s else vS v u j) ∧ (∀ j, vX v w j = if j = i then x else vX v u j) := by
  obtain ⟨h1, h2, h3, h4, h5, h6⟩ := h
  refine ⟨zsL (zsI u (v + 1) i (nI s)) (v + 2) i x, ?_, ⟨?_, h2, h3, h4, h5, fun j hj => ?_⟩, ⟨fun a j q => ?_, fun a j q => ?_, fun _ _ => rfl, fun _ _ _ => rfl, Nat.le_refl _, Nat.le_refl _, Nat.le_refl _⟩, fun j => ?_, fun j => ?_⟩
  · unfold ce_V_set_J27
    rw [zin_nI hi (by omega), zgd_t, zx_nI (show i < 2 ^ 31 by omega), nar_b (show s < 128 by omega)]
    show zgd (zin (nI i) (zN u (v + 2))) _ = _
    rw [h4, zin_nI hi (by omega)]
    rfl
  · rw [gI_sL, gI_sI, if_neg (by omega)]; exact h1
  · rw [gI_sL, gI_sI]
    by_cases z : j = i
    · subst z; rw [if_pos ⟨rfl, rfl⟩]; exact ⟨s, hs, rfl⟩
    · rw [if_neg (by omega)]; exact h6 j hj
  · rw [gI_sL, gI_sI, if_neg (by omega)]
  · rw [gL_sL, if_neg (by omega), gL_sI]
  · show (if j < zN u (v + 1) then zI (zsL (zsI u (v + 1) i (nI s)) (v + 2) i x) (v + 1) j else 0) = if j = i then nI s else (if j < zN u (v + 1) then zI u (v + 1) j else 0)
    rw [gI_sL, gI_sI]
    by_cases z : j = i
    · subst z; rw [if_pos hi, if_pos ⟨rfl, rfl⟩, if_pos rfl]
    · rw [if_neg (show ¬ (v + 1 = v + 1 ∧ j = i) by omega), if_neg z]
  · show (if j < zN u (v + 1) then zL (zsL (zsI u (v + 1) i (nI s)) (v + 2) i x) (v + 2) j else 0) = if j = i then x else (if j < zN u (v + 1) then zL u (v + 2) j else 0)
    rw [gL_sL, gL_sI]
    by_cases z : j = i
    · subst z; rw [if_pos hi, if_pos ⟨rfl, rfl⟩, if_pos rfl]
    · rw [if_neg (show ¬ (v + 2 = v + 2 ∧ j = i) by omega), if_neg z]
theorem v_grow (n : Nat) {v m : Nat} {u : zMu} (h : pVw v m u) (hd : zdy u = true) {i : Nat} (hi : zN u (v + 1) ≤ i) (him : i < m) : ∃ w, ce_V_grow n v u (nI i) = some ((), w) ∧ pVw v m w ∧ fV v m u w ∧ i < zN w (v + 1) ∧ (∀ j, vS v w j = vS v u j) ∧ (∀ j, vX v w j = vX v u j) := by
  obtain ⟨h1, h2, h3, h4, h5, h6⟩ := h
  generalize hL : zN u (v + 1) = L at *
  obtain ⟨K, hK, e1⟩ : ∃ K, (K = 2 * L ∨ (K = i + 1 ∧ 2 * L ≤ K)) ∧ i + 1 ≤ K ∧ K < 100000 ∧ (if nI i + 1 < 2 * (Int32.ofNat L) then 2 * (Int32.ofNat L) else nI i + 1) = nI K := by
    have e : (2 : Int32) * (Int32.ofNat L) = nI (2 * L) := pk_mul 2 L
    rw [e, nI_1]
    by_cases z : i + 1 < 2 * L
    · exact ⟨2 * L, Or.inl rfl, by omega, by omega, if_pos (nI_lt z (by omega))⟩
    · exact ⟨i + 1, Or.inr ⟨rfl, by omega⟩, by omega, by omega, if_neg (nI_nlt (by omega) (by omega))⟩
  obtain ⟨e1, e2, e3⟩ := e1
  obtain ⟨G, hG, g1, g2, g3, e4⟩ : ∃ G, (G = m ∨ (G < m ∧ 2 * L ≤ G)) ∧ i < G ∧ G ≤ m ∧ G < 100000 ∧ (if nI K < zI u v 0 then nI K else zI u v 0) = nI G := by
    rw [h1]
    by_cases z : K < m
    · exact ⟨K, Or.inr ⟨z, by omega⟩, by omega, by omega, by omega, if_pos (nI_lt z (by omega))⟩
    · exact ⟨m, Or.inl rfl, by omega, by omega, by omega, if_neg (nI_nlt (by omega) (by omega))⟩
  have k1 : zgokI u (v + 1) (nI G) = true := by
    unfold zgokI
    rw [decide_eq_true_eq, nI_clamp (by omega), hL]
    exact ⟨nI_pos (by omega), by omega, g3, hd⟩
  have kB : zgokB u (v + 1) (nI G) = true := by
    unfold zgokB
    rw [k1, Bool.true_and, List.all_eq_true, hL]
    intro j hj
    obtain ⟨s, s1, s2⟩ := h6 j (List.mem_range.mp hj)
    rw [s2]; exact fits_s s1
  have kL : zgokL (zgrI u (v + 1) G) (v + 2) (nI G) = true := by
    unfold zgokL zgokI
    rw [decide_eq_true_eq, nI_clamp (by omega)]
    refine ⟨nI_pos (by omega), ?_, g3, hd⟩
    show (if v + 2 = v + 1 then G else zN u (v + 2)) < G
    rw [if_neg (by omega)]; omega
  have hN1 : zN (zgrL (zgrI u (v + 1) G) (v + 2) G) (v + 1) = G := by
    show (if v + 1 = v + 2 then G else if v + 1 = v + 1 then G else zN u (v + 1)) = G
    rw [if_neg (by omega), if_pos rfl]
  have hN2 : zN (zgrL (zgrI u (v + 1) G) (v + 2) G) (v + 2) = G := if_pos rfl
  have hI : ∀ a j, zI (zgrL (zgrI u (v + 1) G) (v + 2) G) a j = if a = v + 1 then (if j < L then zI u (v + 1) j else 0) else zI u a j := fun a j => by rw [← hL]; rfl
  have hLn : zN (zgrI u (v + 1) G) (v + 2) = L := by
    show (if v + 2 = v + 1 then G else zN u (v + 2)) = L
    rw [if_neg (by omega), h4]
  have hLL : ∀ a j, zL (zgrL (zgrI u (v + 1) G) (v + 2) G) a j = if a = v + 2 then (if j < L then zL u (v + 2) j else 0) else zL u a j := fun a j => by rw [← hLn]; rfl
  refine ⟨zgrL (zgrI u (v + 1) G) (v + 2) G, ?_, ⟨?_, h2, ?_, ?_, ?_, fun j hj => ?_⟩, ⟨fun a j q => ?_, fun a j q => ?_, fun _ _ => rfl, fun a q1 q2 => ?_, ?_, ?_, ?_⟩, ?_, fun j => ?_, fun j => ?_⟩
  · unfold ce_V_grow
    rw [hL, e3]
    show zgd (zgokB u (v + 1) (if nI K < zI u v 0 then nI K else zI u v 0)) (zlet (zgrI u (v + 1) (zx (if nI K < zI u v 0 then nI K else zI u v 0))) fun u3 => zgd (zgokL u3 (v + 2) (if nI K < zI u v 0 then nI K else zI u v 0)) (zlet (zgrL u3 (v + 2) (zx (if nI K < zI u v 0 then nI K else zI u v 0))) fun u5 => some ((), u5))) = _
    rw [e4, kB, zgd_t, zx_nI (show G < 2 ^ 31 by omega)]
    show zgd (zgokL (zgrI u (v + 1) G) (v + 2) (nI G)) _ = _
    rw [kL]
    rfl
  · rw [hI, if_neg (by omega)]; exact h1
  · rw [hN1]; omega
  · rw [hN1, hN2]
  · rw [hN1]; exact g2
  · rw [hI, if_pos rfl]
    by_cases z : j < L
    · rw [if_pos z]; exact h6 j z
    · rw [if_neg z]; exact ⟨0, by omega, rfl⟩
  · rw [hI, if_neg q]
  · rw [hLL, if_neg q]
  · show (if a = v + 2 then G else if a = v + 1 then G else zN u a) = zN u a
    rw [if_neg q2, if_neg q1]
  · rw [hN1, hL]; omega
  · rw [hN1, hL]
    show (zc u).1 + 1 + 1 + 2 * L ≤ (zc u).1 + 2 * G
    omega
  · rw [hN1, hL]
    show (zc u).2 + G + G + 2 * vP m L ≤ (zc u).2 + 2 * vP m G
    unfold vP
    rw [if_pos (show L < m by omega)]
    by_cases z : G < m
    · rw [if_pos z]; omega
    · rw [if_neg z]; omega
  · rw [hN1]; exact g1
  · unfold vS
    rw [hN1, hL, hI, if_pos rfl]
    by_cases z : j < L
    · rw [if_pos z, if_pos (by omega)]
    · rw [if_neg z]
      by_cases y : j < G
      · rw [if_pos y]
      · rw [if_neg y]
  · unfold vX
    rw [hN1, hL, hLL, if_pos rfl]
    by_cases z : j < L
    · rw [if_pos z, if_pos (by omega)]
    · rw [if_neg z]
      by_cases y : j < G
      · rw [if_pos y]
      · rw [if_neg y]
theorem v_set (n : Nat) {v m : Nat} {u : zMu} (h : pVw v m u) (hd : zdy u = true) {i s : Nat} (hi : i < m) (hs : s ≤ 4) (x : Int64) : ∃ w, ce_V_set n v u (nI i) (nI s) x = some ((), w) ∧ pVw v m w ∧ fV v m u w ∧ (∀ j, vS v w j = if j = i then nI s else vS v u j) ∧ (∀ j, vX v w j = if j = i then x else vX v u j) := by
  obtain ⟨h1, h2, h3, h4, h5, h6⟩ := id h
  unfold ce_V_set
  rw [if_neg (nI_pos (by omega)), h1, if_pos (nI_lt hi (by omega))]
  by_cases z : i < zN u (v + 1)
  · rw [if_pos (show nI i < Int32.ofNat (zN u (v + 1)) from nI_lt z (by omega))]
    exact v_J27 n h z hs x
  · rw [if_neg (show ¬ nI i < Int32.ofNat (zN u (v + 1)) from nI_nlt (by omega) (by omega))]
    obtain ⟨w, e, k1, k2, k3, k4, k5⟩ := v_grow n h hd (by omega) hi
    obtain ⟨w2, e2, l1, l2, l3, l4⟩ := v_J27 n k1 k3 hs x
    refine ⟨w2, by rw [zbd_e e]; exact e2, l1, ?_, fun j => by rw [l3, k4], fun j => by rw [l4, k5]⟩
    obtain ⟨a1, a2, a3, a4, a5, a6, a7⟩ := k2
    obtain ⟨b1, b2, b3, b4, b5, b6, b7⟩ := l2
    exact ⟨fun a j q => (b1 a j q).trans (a1 a j q), fun a j q => (b2 a j q).trans (a2 a j q), fun a j => (b3 a j).trans (a3 a j), fun a p q => (b4 a p q).trans (a4 a p q), by omega, by omega, by omega⟩
/-- beyond the most, a set does nothing -/
theorem v_set_off (n : Nat) {v m : Nat} {u : zMu} (h : pVw v m u) {i : Nat} (hi : m ≤ i) (hi2 : i < 2 ^ 31) (s : Int32) (x : Int64) : ce_V_set n v u (nI i) s x = some ((), u) := by
  unfold ce_V_set
  rw [if_neg (nI_pos hi2), h.1, if_neg (nI_nlt hi hi2)]
theorem v_isNumberAt (n : Nat) {v m : Nat} {u : zMu} (h : pVw v m u) {j : Nat} (hj : j < 2 ^ 31) : ce_V_isNumberAt n v u (nI j) = some (if vS v u j = 1 ∨ vS v u j = 2 then 1 else 0, u) := by
  unfold ce_V_isNumberAt
  rw [zbd_e (v_sortAt n h hj)]
  by_cases z : vS v u j = 1
  · rw [if_pos z, if_pos (Or.inl z)]
  · by_cases y : vS v u j = 2
    · rw [if_neg z, if_pos y, if_pos (Or.inr y)]
    · rw [if_neg z, if_neg y, if_neg (fun q => by rcases q with q | q; exact z q; exact y q)]
/-- a Values that nothing touched -/
theorem pVw_keep {v m : Nat} {u w : zMu} (h : pVw v m u) (k1 : zI w v 0 = zI u v 0) (k2 : ∀ j, zI w (v + 1) j = zI u (v + 1) j) (k3 : zN w (v + 1) = zN u (v + 1)) (k4 : zN w (v + 2) = zN u (v + 2)) : pVw v m w := by
  obtain ⟨h1, h2, h3, h4, h5, h6⟩ := h
  exact ⟨k1.trans h1, h2, by rw [k3]; exact h3, by rw [k3, k4]; exact h4, by rw [k3]; exact h5, fun j hj => by rw [k2]; exact h6 j (by rw [k3] at hj; exact hj)⟩
theorem vS_keep {v : Nat} {u w : zMu} (k2 : ∀ j, zI w (v + 1) j = zI u (v + 1) j) (k3 : zN w (v + 1) = zN u (v + 1)) (j : Nat) : vS v w j = vS v u j := by
  unfold vS
  rw [k3, k2]
theorem vX_keep {v : Nat} {u w : zMu} (k2 : ∀ j, zL w (v + 2) j = zL u (v + 2) j) (k3 : zN w (v + 1) = zN u (v + 1)) (j : Nat) : vX v w j = vX v u j := by
  unfold vX
  rw [k3, k2]
