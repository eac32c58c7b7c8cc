/-! RUNNING: shapes are made -/
theorem gok_t {u : zMu} {c L G : Nat} (hN : zN u c = L) (hL : L < G) (hG : G < 100000) (hd : zdy u = true) : zgokI u c (nI G) = true := by
  unfold zgokI
  rw [decide_eq_true_eq, nI_clamp (by omega)]
  exact ⟨nI_pos (by omega), by omega, hG, hd⟩
/-- what stays when rows c of 81 to 87 grow: below L all is as it was -/
def gK (L G : Nat) (u v : zMu) : Prop := (∀ a j, ¬ (81 ≤ a ∧ a ≤ 87) ∨ j < L → zI v a j = zI u a j) ∧ (∀ a j, ¬ a = 85 ∨ j < L → zL v a j = zL u a j) ∧ v.2.2.1 = u.2.2.1 ∧ (∀ a, ¬ (81 ≤ a ∧ a ≤ 87) → zN v a = zN u a)
theorem gK_I {L G : Nat} {u v : zMu} (h : gK L G u v) {c : Nat} (hc : 81 ≤ c ∧ c ≤ 87) (hN : zN v c = L) : gK L G u (zgrI v c G) ∧ (∀ a, ¬ a = c → zN (zgrI v c G) a = zN v a) ∧ zN (zgrI v c G) c = G ∧ zc (zgrI v c G) = ((zc v).1 + 1, (zc v).2 + G) := by
  obtain ⟨h1, h2, h3, h4⟩ := h
  refine ⟨⟨fun a j q => ?_, h2, h3, fun a q => ?_⟩, fun a q => if_neg q, if_pos rfl, rfl⟩
  · show (if a = c then (if j < zN v c then zI v c j else 0) else zI v a j) = _
    by_cases z : a = c
    · subst z
      rw [if_pos rfl, if_pos (by omega)]
      exact h1 a j q
    · rw [if_neg z]; exact h1 a j q
  · show (if a = c then G else zN v a) = _
    rw [if_neg (by omega)]; exact h4 a q
theorem gK_L {L G : Nat} {u v : zMu} (h : gK L G u v) (hN : zN v 85 = L) : gK L G u (zgrL v 85 G) ∧ (∀ a, ¬ a = 85 → zN (zgrL v 85 G) a = zN v a) ∧ zN (zgrL v 85 G) 85 = G ∧ zc (zgrL v 85 G) = ((zc v).1 + 1, (zc v).2 + G) := by
  obtain ⟨h1, h2, h3, h4⟩ := h
  refine ⟨⟨h1, fun a j q => ?_, h3, fun a q => ?_⟩, fun a q => if_neg q, (show (if (85 : Nat) = 85 then G else zN v 85) = G from if_pos rfl), rfl⟩
  · show (if a = 85 then (if j < zN v 85 then zL v 85 j else 0) else zL v a j) = _
    by_cases z : a = 85
    · subst z
      rw [if_pos rfl, if_pos (by omega)]
      exact h2 85 j q
    · rw [if_neg z]; exact h2 a j q
  · show (if a = 85 then G else zN v a) = _
    rw [if_neg (by omega)]; exact h4 a q
theorem gK_dy {L G : Nat} {u v : zMu} (h : gK L G u v) : zdy v = zdy u := by
  have e : ∀ a j, zR v a j = zR u a j := fun a j => by unfold zR; rw [h.2.2.1]
  unfold zdy
  simp only [e]
theorem c_sgrow (n : Nat) {L : Nat} {u : zMu} (hd : zdy u = true) (hN : ∀ a, 81 ≤ a → a ≤ 87 → zN u a = L) (h1 : 1 ≤ L) (hL : L < 1800) (i8 : zI u 43 8 = nI L) : ∃ v G, ce_S_grow n u = some ((), v) ∧ L < G ∧ G ≤ 1800 ∧ (∀ a, 81 ≤ a → a ≤ 87 → zN v a = G) ∧ gK L G u v ∧ fT tgC [7] u v := by
  obtain ⟨G, g1, g2, g3, e1⟩ : ∃ G, L < G ∧ G ≤ 1800 ∧ (G = 2 * L ∨ G = 1800) ∧ (if nI L + 1 < (if 2 * (Int32.ofNat L) < 1800 then 2 * (Int32.ofNat L) else 1800) then (if 2 * (Int32.ofNat L) < 1800 then 2 * (Int32.ofNat L) else 1800) else nI L + 1) = nI G := by
    have e : (2 : Int32) * (Int32.ofNat L) = nI (2 * L) := pk_mul 2 L
    rw [e, nI_1]
    by_cases z : 2 * L < 1800
    · rw [if_pos (show nI (2 * L) < (1800 : Int32) from nI_lt (b := 1800) z (by decide))]
      by_cases y : L + 1 < 2 * L
      · rw [if_pos (nI_lt y (by omega))]
        exact ⟨2 * L, by omega, by omega, Or.inl rfl, rfl⟩
      · rw [if_neg (nI_nlt (by omega) (by omega))]
        exact ⟨L + 1, by omega, by omega, Or.inl (by omega), rfl⟩
    · rw [if_neg (show ¬ nI (2 * L) < (1800 : Int32) from nI_nlt (b := 1800) (by omega) (by omega))]
      by_cases y : L + 1 < 1800
      · rw [if_pos (show nI (L + 1) < (1800 : Int32) from nI_lt (b := 1800) y (by decide))]
        exact ⟨1800, by omega, by omega, Or.inr rfl, rfl⟩
      · rw [if_neg (show ¬ nI (L + 1) < (1800 : Int32) from nI_nlt (b := 1800) (by omega) (by omega))]
        exact ⟨L + 1, by omega, by omega, Or.inr (by omega), rfl⟩
  have k0 : gK L G u u := ⟨fun _ _ _ => rfl, fun _ _ _ => rfl, rfl, fun _ _ => rfl⟩
  obtain ⟨k1, n1, m1, c1⟩ := gK_I k0 (c := 81) (by omega) (hN 81 (by omega) (by omega))
  generalize hu1 : zgrI u 81 G = u1 at k1 n1 m1 c1
  obtain ⟨k2, n2, m2, c2⟩ := gK_I k1 (c := 82) (by omega) ((n1 82 (by omega)).trans (hN 82 (by omega) (by omega)))
  generalize hu2 : zgrI u1 82 G = u2 at k2 n2 m2 c2
  obtain ⟨k3, n3, m3, c3⟩ := gK_I k2 (c := 83) (by omega) ((n2 83 (by omega)).trans ((n1 83 (by omega)).trans (hN 83 (by omega) (by omega))))
  generalize hu3 : zgrI u2 83 G = u3 at k3 n3 m3 c3
  obtain ⟨k4, n4, m4, c4⟩ := gK_I k3 (c := 84) (by omega) ((n3 84 (by omega)).trans ((n2 84 (by omega)).trans ((n1 84 (by omega)).trans (hN 84 (by omega) (by omega)))))
  generalize hu4 : zgrI u3 84 G = u4 at k4 n4 m4 c4
  have N5 : zN u4 85 = L := (n4 85 (by omega)).trans ((n3 85 (by omega)).trans ((n2 85 (by omega)).trans ((n1 85 (by omega)).trans (hN 85 (by omega) (by omega)))))
  obtain ⟨k5, n5, m5, c5⟩ := gK_L k4 N5
  generalize hu5 : zgrL u4 85 G = u5 at k5 n5 m5 c5
  have N6 : zN u5 86 = L := (n5 86 (by omega)).trans ((n4 86 (by omega)).trans ((n3 86 (by omega)).trans ((n2 86 (by omega)).trans ((n1 86 (by omega)).trans (hN 86 (by omega) (by omega))))))
  obtain ⟨k6, n6, m6, c6⟩ := gK_I k5 (c := 86) (by omega) N6
  generalize hu6 : zgrI u5 86 G = u6 at k6 n6 m6 c6
  have N7 : zN u6 87 = L := (n6 87 (by omega)).trans ((n5 87 (by omega)).trans ((n4 87 (by omega)).trans ((n3 87 (by omega)).trans ((n2 87 (by omega)).trans ((n1 87 (by omega)).trans (hN 87 (by omega) (by omega)))))))
  obtain ⟨k7, n7, m7, c7⟩ := gK_I k6 (c := 87) (by omega) N7
  generalize hu7 : zgrI u6 87 G = u7 at k7 n7 m7 c7
  have z : zx (nI G) = G := zx_nI (by omega)
  have d : ∀ {v : zMu}, gK L G u v → zdy v = true := fun h => (gK_dy h).trans hd
  have N81 : zN u7 81 = G := by rw [n7 81 (by omega), n6 81 (by omega), n5 81 (by omega), n4 81 (by omega), n3 81 (by omega), n2 81 (by omega)]; exact m1
  refine ⟨u7, G, ?_, g1, g2, fun a p q => ?_, k7, ?_⟩
  · unfold ce_S_grow
    rw [hN 81 (by omega) (by omega), i8]
    show zgd (zgokI u 81 (if nI L + 1 < (if 2 * (Int32.ofNat L) < 1800 then 2 * (Int32.ofNat L) else 1800) then (if 2 * (Int32.ofNat L) < 1800 then 2 * (Int32.ofNat L) else 1800) else nI L + 1)) (zlet (zgrI u 81 (zx (if nI L + 1 < (if 2 * (Int32.ofNat L) < 1800 then 2 * (Int32.ofNat L) else 1800) then (if 2 * (Int32.ofNat L) < 1800 then 2 * (Int32.ofNat L) else 1800) else nI L + 1))) _) = _
    rw [e1, gok_t (hN 81 (by omega) (by omega)) g1 (by omega) hd, zgd_t, z, hu1]
    show zgd (zgokI u1 82 (nI G)) (zlet (zgrI u1 82 G) _) = _
    rw [gok_t ((n1 82 (by omega)).trans (hN 82 (by omega) (by omega))) g1 (by omega) (d k1), zgd_t, hu2]
    show zgd (zgokI u2 83 (nI G)) (zlet (zgrI u2 83 G) _) = _
    rw [gok_t ((n2 83 (by omega)).trans ((n1 83 (by omega)).trans (hN 83 (by omega) (by omega)))) g1 (by omega) (d k2), zgd_t, hu3]
    show zgd (zgokI u3 84 (nI G)) (zlet (zgrI u3 84 G) _) = _
    rw [gok_t ((n3 84 (by omega)).trans ((n2 84 (by omega)).trans ((n1 84 (by omega)).trans (hN 84 (by omega) (by omega))))) g1 (by omega) (d k3), zgd_t, hu4]
    show zgd (zgokI u4 85 (nI G)) (zlet (zgrL u4 85 G) _) = _
    rw [gok_t N5 g1 (by omega) (d k4), zgd_t, hu5]
    show zgd (zgokI u5 86 (nI G)) (zlet (zgrI u5 86 G) _) = _
    rw [gok_t N6 g1 (by omega) (d k5), zgd_t, hu6]
    show zgd (zgokI u6 87 (nI G)) (zlet (zgrI u6 87 G) fun u15 => some ((), u15)) = _
    rw [gok_t N7 g1 (by omega) (d k6), zgd_t, hu7]
    rfl
  · have : a = 81 ∨ a = 82 ∨ a = 83 ∨ a = 84 ∨ a = 85 ∨ a = 86 ∨ a = 87 := by omega
    rcases this with rfl | rfl | rfl | rfl | rfl | rfl | rfl
    · exact N81
    · rw [n7 82 (by omega), n6 82 (by omega), n5 82 (by omega), n4 82 (by omega), n3 82 (by omega)]; exact m2
    · rw [n7 83 (by omega), n6 83 (by omega), n5 83 (by omega), n4 83 (by omega)]; exact m3
    · rw [n7 84 (by omega), n6 84 (by omega), n5 84 (by omega)]; exact m4
    · rw [n7 85 (by omega), n6 85 (by omega)]; exact m5
    · rw [n7 86 (by omega)]; exact m6
    · exact m7
  · have t7 : ∀ a, 81 ≤ a → a ≤ 87 → ∀ j, tgC a j = 7 := by
      intro a p q j
      have : a = 81 ∨ a = 82 ∨ a = 83 ∨ a = 84 ∨ a = 85 ∨ a = 86 ∨ a = 87 := by omega
      rcases this with rfl | rfl | rfl | rfl | rfl | rfl | rfl <;> rfl
    refine ⟨fun a j q => k7.1 a j (Or.inl (fun y => q (by rw [t7 a y.1 y.2]; decide))), fun a j q => k7.2.1 a j (Or.inl (fun y => q (by rw [y]; decide))), k7.2.2.1, fun a q => k7.2.2.2 a (fun y => q (by rw [t7 a y.1 y.2]; decide)), ?_, ?_, vKp_s (fun a j q => k7.1 a j (Or.inl (by omega))) (fun a q => k7.2.2.2 a (by omega))⟩
    · unfold pA
      rw [k7.2.2.2 67 (by omega), k7.2.2.2 70 (by omega), k7.2.2.2 73 (by omega), k7.2.2.2 76 (by omega), k7.2.2.2 79 (by omega), k7.2.2.2 88 (by omega), N81, hN 81 (by omega) (by omega), c7, c6, c5, c4, c3, c2, c1]
      simp only
      omega
    · unfold pB
      rw [k7.2.2.2 67 (by omega), k7.2.2.2 70 (by omega), k7.2.2.2 73 (by omega), k7.2.2.2 76 (by omega), k7.2.2.2 79 (by omega), k7.2.2.2 88 (by omega), N81, hN 81 (by omega) (by omega), c7, c6, c5, c4, c3, c2, c1]
      have : vP 1800 L + G ≤ vP 1800 G := by
        unfold vP
        rw [if_pos hL]
        by_cases y : G < 1800
        · rw [if_pos y]; omega
        · rw [if_neg y]; omega
      simp only
      omega
/-- a shape is added: parent p, shorter t (0: none), name x -/
theorem ck_add (n : Nat) {S t : Nat} {u : zMu} (hd : zdy u = true) (hN : ∀ a, 82 ≤ a → a ≤ 87 → zN u a = zN u 81) (h1 : 1 ≤ zN u 81) (hS : S ≤ zN u 81) (hS2 : S < 1800) (hL : zN u 81 ≤ 1800) (i8 : zI u 43 8 = nI S) (ht : t ≤ S) {len : Nat} (hl : (t = 0 ∧ len = 0) ∨ (¬ t = 0 ∧ zI u 82 (t - 1) = nI (len - 1) ∧ 1 ≤ len)) (p : Int32) (x : Int64) : ∃ v, ce_S_add n u p (iP t) x = some (nI S, v) ∧ fT tgC [7] u v ∧ (∀ a j, ¬ ((81 ≤ a ∧ a ≤ 87) ∨ (a = 43 ∧ j = 8)) ∨ (81 ≤ a ∧ j < S) → zI v a j = zI u a j) ∧ (∀ a j, ¬ a = 85 ∨ j < S → zL v a j = zL u a j) ∧ zI v 43 8 = nI (S + 1) ∧ zI v 81 S = p ∧ zI v 82 S = nI len ∧ zI v 83 S = iP t ∧ zI v 84 S = 0 ∧ zL v 85 S = x ∧ zI v 86 S = -1 ∧ zI v 87 S = -1 ∧ (1 ≤ zN v 81 ∧ zN v 81 ≤ 1800 ∧ S + 1 ≤ zN v 81 ∧ ∀ a, 82 ≤ a → a ≤ 87 → zN v a = zN v 81) := by
  -- room
  obtain ⟨w, e0, f0, w1, w2, w3, w4, w5, w6⟩ : ∃ w, ce_S_add n u p (iP t) x = ce_S_add_J16 n w p (iP t) x ∧ fT tgC [7] u w ∧ (∀ a j, ¬ (81 ≤ a ∧ a ≤ 87) ∨ j < S → zI w a j = zI u a j) ∧ (∀ a j, ¬ a = 85 ∨ j < S → zL w a j = zL u a j) ∧ S < zN w 81 ∧ zN w 81 ≤ 1800 ∧ (∀ a, 82 ≤ a → a ≤ 87 → zN w a = zN w 81) ∧ zI w 43 8 = nI S := by
    unfold ce_S_add
    rw [i8]
    by_cases z : S < zN u 81
    · rw [if_pos (show nI S < Int32.ofNat (zN u 81) from nI_lt z (by omega))]
      exact ⟨u, rfl, fT_rf _ _ _, fun _ _ _ => rfl, fun _ _ _ => rfl, z, hL, hN, i8⟩
    · rw [if_neg (show ¬ nI S < Int32.ofNat (zN u 81) from nI_nlt (by omega) (by omega))]
      have eS : S = zN u 81 := by omega
      obtain ⟨v, G, a1, a2, a3, a4, a5, a6⟩ := c_sgrow n (L := S) hd (fun a p q => by
        by_cases y : a = 81
        · rw [y]; exact eS.symm
        · rw [hN a (by omega) q]; exact eS.symm) (by omega) hS2 i8
      refine ⟨v, by rw [zbd_e a1], a6, a5.1, a5.2.1, by rw [a4 81 (by omega) (by omega)]; exact a2, by rw [a4 81 (by omega) (by omega)]; exact a3, fun a p q => by rw [a4 a (by omega) q, a4 81 (by omega) (by omega)], by rw [a5.1 43 8 (by omega)]; exact i8⟩
  obtain ⟨v, hv⟩ : ∃ v, zsI (zsI (zsI (zsL (zsI (zsI (zsI (zsI w 81 S p) 82 S (nI len)) 83 S (iP t)) 84 S 0) 85 S x) 86 S (-1)) 87 S (-1)) 43 8 (nI (S + 1)) = v := ⟨_, rfl⟩
  have z0 : zx (nI S) = S := zx_nI (by omega)
  have nn : ∀ a, 81 ≤ a → a ≤ 87 → zin (nI S) (zN w a) = true := fun a p q => by
    by_cases y : a = 81
    · rw [y]; exact zin_nI w3 (by omega)
    · rw [w5 a (by omega) q]; exact zin_nI w3 (by omega)
  have e51 : ∀ y : zMu, y = zsI w 81 S p → ce_S_add_J51 n y (iP t) x (nI S) (nI len) = some (nI S, v) := by
    intro y hy
    subst hy
    subst hv
    unfold ce_S_add_J51
    rw [show zN (zsI w 81 S p) 82 = zN w 82 from rfl, nn 82 (by omega) (by omega), zgd_t, z0]
    simp only [zlet]
    have g8 : ∀ y : zMu, y.1 43 8 = zI w 43 8 → zI y 43 8 = nI S := fun y q => q.trans w6
    rw [g8 (zsI (zsI w 81 S p) 82 S (nI len)) rfl, show zN (zsI (zsI w 81 S p) 82 S (nI len)) 83 = zN w 83 from rfl, nn 83 (by omega) (by omega), zgd_t, z0]
    rw [g8 (zsI (zsI (zsI w 81 S p) 82 S (nI len)) 83 S (iP t)) rfl, show zN (zsI (zsI (zsI w 81 S p) 82 S (nI len)) 83 S (iP t)) 84 = zN w 84 from rfl, nn 84 (by omega) (by omega), zgd_t, z0]
    rw [g8 (zsI (zsI (zsI (zsI w 81 S p) 82 S (nI len)) 83 S (iP t)) 84 S 0) rfl, show zN (zsI (zsI (zsI (zsI w 81 S p) 82 S (nI len)) 83 S (iP t)) 84 S 0) 85 = zN w 85 from rfl, nn 85 (by omega) (by omega), zgd_t, z0]
    rw [g8 (zsL (zsI (zsI (zsI (zsI w 81 S p) 82 S (nI len)) 83 S (iP t)) 84 S 0) 85 S x) rfl, show zN (zsL (zsI (zsI (zsI (zsI w 81 S p) 82 S (nI len)) 83 S (iP t)) 84 S 0) 85 S x) 86 = zN w 86 from rfl, nn 86 (by omega) (by omega), zgd_t, z0]
    rw [g8 (zsI (zsL (zsI (zsI (zsI (zsI w 81 S p) 82 S (nI len)) 83 S (iP t)) 84 S 0) 85 S x) 86 S (-1)) rfl, show zN (zsI (zsL (zsI (zsI (zsI (zsI w 81 S p) 82 S (nI len)) 83 S (iP t)) 84 S 0) 85 S x) 86 S (-1)) 87 = zN w 87 from rfl, nn 87 (by omega) (by omega), zgd_t, z0]
    rw [g8 (zsI (zsI (zsL (zsI (zsI (zsI (zsI w 81 S p) 82 S (nI len)) 83 S (iP t)) 84 S 0) 85 S x) 86 S (-1)) 87 S (-1)) rfl, nI_1]
  have e1 : ce_S_add_J16 n w p (iP t) x = some (nI S, v) := by
    unfold ce_S_add_J16
    rw [w6, nn 81 (by omega) (by omega), zgd_t, z0]
    simp only [zlet]
    have g8 : zI (zsI w 81 S p) 43 8 = nI S := w6
    rw [g8]
    rcases hl with ⟨l1, l2⟩ | ⟨l1, l2, l3⟩
    · subst l1; subst l2
      rw [iP_0, if_pos rfl]
      exact e51 _ rfl
    · obtain ⟨f, hf⟩ : ∃ f, t = f + 1 := ⟨t - 1, by omega⟩
      subst hf
      have fS : f < S := by omega
      rw [iP_s, if_neg (nI_m1 (by omega)), show zN (zsI w 81 S p) 82 = zN w 82 from rfl, w5 82 (by omega) (by omega), zin_nI (show f < zN w 81 by omega) (by omega), zgd_t, zx_nI (show f < 2 ^ 31 by omega)]
      have i82 : zI (zsI w 81 S p) 82 f = nI (len - 1) := by
        rw [gI_sI, if_neg (by omega), w1 82 f (Or.inr fS)]
        exact l2
      rw [i82, nI_1, show len - 1 + 1 = len by omega]
      have := e51 _ rfl
      rw [iP_s] at this
      exact this
  have V : ∀ a j, ¬ ((81 ≤ a ∧ a ≤ 87 ∧ j = S) ∨ (a = 43 ∧ j = 8)) → zI v a j = zI w a j := fun a j q => by
    subst hv
    rw [gI_sI, if_neg (by omega), gI_sI, if_neg (by omega), gI_sI, if_neg (by omega), gI_sL, gI_sI, if_neg (by omega), gI_sI, if_neg (by omega), gI_sI, if_neg (by omega), gI_sI, if_neg (by omega)]
  refine ⟨v, e0.trans e1, fT_tr f0 ?_, fun a j q => ?_, fun a j q => ?_, ?_, ?_, ?_, ?_, ?_, ?_, ?_, ?_, ?_⟩
  · subst hv
    exact fT_I (fT_I (fT_I (fT_L (fT_I (fT_I (fT_I (fT_I (fT_rf _ _ _) _ 7 rfl (by decide)) _ 7 rfl (by decide)) _ 7 rfl (by decide)) _ 7 rfl (by decide)) _ 7 rfl (by decide)) _ 7 rfl (by decide)) _ 7 rfl (by decide)) _ 7 rfl (by decide)
  · rw [V a j (by omega), w1 a j (by omega)]
  · have : zL v a j = zL w a j := by subst hv; rw [gL_sI, gL_sI, gL_sI, gL_sL, if_neg (by omega), gL_sI, gL_sI, gL_sI, gL_sI]
    rw [this, w2 a j q]
  · subst hv; rw [gI_sI, if_pos ⟨rfl, rfl⟩]
  · subst hv; simp [gI_sI, gI_sL]
  · subst hv; simp [gI_sI, gI_sL]
  · subst hv; simp [gI_sI, gI_sL]
  · subst hv; simp [gI_sI, gI_sL]
  · subst hv; simp [gL_sI, gL_sL]
  · subst hv; simp [gI_sI, gI_sL]
  · subst hv; simp [gI_sI, gI_sL]
  · have hn : ∀ a, zN v a = zN w a := fun a => by subst hv; rfl
    rw [hn]
    exact ⟨by omega, w4, by omega, fun a p q => by rw [hn]; exact w5 a p q⟩
