/-! RUNNING: ways are broken, all sites -/
theorem kSi_two {F S : Nat} {ub : zMu} {W : kW} {ur uc vr vc : zMu} {s : Nat} (h : kSi F S ub W ur uc) (hr : ∀ a j, ¬ sR s a j → ¬ (a = 0 ∧ j = 64) → zI vr a j = zI ur a j) (hc : ∀ a j, ¬ sC s a j → ¬ (a = 49 ∧ j = 11) → zI vc a j = zI uc a j) (e : zI vc 49 11 = zI vr 0 64) (n1 : kS1 F ub W vr vc s) : kSi F S ub W vr vc := by
  obtain ⟨h1, h2, h3, h4⟩ := h
  refine ⟨?_, ?_, e, fun s' hs' => ?_⟩
  · rw [hr 0 62 (by unfold sR; omega) (by omega), hc 49 9 (by unfold sC; omega) (by omega)]; exact h1
  · rw [hr 0 63 (by unfold sR; omega) (by omega), hc 49 10 (by unfold sC; omega) (by omega)]; exact h2
  · by_cases e : s' = s
    · subst e; exact n1
    · exact kS1_q (h4 s' hs') (fun a j q => hr a j (by unfold sR at q ⊢; omega) (by unfold sR at q; omega)) (fun a j q => hc a j (by unfold sC at q ⊢; omega) (by unfold sC at q; omega))
/-- pointwise the same -/
theorem kSi_pw {F S : Nat} {ub : zMu} {W : kW} {ur uc vr vc : zMu} (h : kSi F S ub W ur uc) (hr : ∀ a j, zI vr a j = zI ur a j) (hc : ∀ a j, zI vc a j = zI uc a j) : kSi F S ub W vr vc := by
  obtain ⟨h1, h2, h3, h4⟩ := h
  exact ⟨by rw [hr, hc]; exact h1, by rw [hr, hc]; exact h2, by rw [hr, hc]; exact h3, fun s hs => kS1_q (h4 s hs) (fun a j _ => hr a j) (fun a j _ => hc a j)⟩
theorem add_n0 (x : Int32) : x + nI 0 = x := Int32.add_zero x
/-- the class passes a site that has nothing on a way -/
theorem kc_pass (n : Nat) (hn : 20000 ≤ n) {C : kC} {W : kW} {x y k : Nat} (hy : y < 80) (hk : k ≤ 4) {u w vr0 : zMu} (hx : x < wO W) (hO : kOb W u w) (hS : kSh (cX C) W vr0 w) (hE : ∀ i, i < k → kEn (cb C) W u w y (4 * y + i)) (c52 : zI w 52 y = nI k) (no : ∀ i, i < k → ¬ kOn W u (4 * y + i) x) (S : Nat) (K : zMu → Int32 → Int32 → Int32 → Option (Unit × zMu)) : ∃ v, ce_T_breakWays_L39 n K n w (nI x) (nI S) (nI y) 0 (nI k) (nI y * 4) = K v (nI x) (nI S) (nI (y + 1)) ∧ (∀ a t, zI v a t = zI w a t) ∧ fT tgC [9] w v := by
  obtain ⟨v, e, g1, g2, g3, g4, g5⟩ := kc_brk n (P := fun i => kOn W u (4 * y + i) x) (x := x) (S := S) hy hk (u0 := w) (fun i hi u' a1 a2 a3 a4 => by
    have hO' := kOb_k hO (fT_rf tgR [9] u) a2 (by decide)
    have hS' := kSh_k hS (fT_rf tgR [9] vr0) a2 (by decide)
    rcases c_onW n hO' hS' (hE i hi) (by omega) hx a3 a4 with ⟨q1, -, -, q2⟩ | ⟨q1, q2⟩
    · exact Or.inl ⟨q1, q2⟩
    · exact Or.inr ⟨q1, q2⟩) K k 0 n w (by omega) (by omega) (fun _ _ _ => rfl) (fun a t _ _ => cp_0.symm) (fT_rf _ _ _)
  have fa : fl (fun i => kOn W u (4 * y + i) x) k = List.range k := fl_all no
  refine ⟨v, ?_, fun a t => ?_, g5⟩
  · have e0 : (fl (fun i => kOn W u (4 * y + i) x) 0).length = 0 := rfl
    rw [e0] at e
    rw [show nI y * (4 : Int32) = nI (4 * y + 0) from by rw [show nI y * (4 : Int32) = nI (y * 4) from nI_mul y 4]; congr 1; omega]
    exact e
  · rw [fa, List.length_range] at g3 g4
    by_cases z1 : 55 ≤ a ∧ a ≤ 56
    · rw [g2 a t z1.1 z1.2, cp_all no]
    · by_cases z2 : a = 49 ∧ t = 11
      · obtain ⟨rfl, rfl⟩ := z2
        rw [g4, Nat.sub_self, add_n0]
      · by_cases z3 : a = 52 ∧ t = y
        · obtain ⟨rfl, rfl⟩ := z3
          rw [g3, c52]
        · exact g1 a t z1 z2 z3
/-- both pass one site -/
theorem k_brk1 (n : Nat) (hn : 20000 ≤ n) {C : kC} (P : kPs C) {W : kW} {x y : Nat} {u w vr0 : zMu} (B : kBs C u w) (hy : y < cS C) (hx : x < wO W) (hO : kOb W u w) (hS : kSh (cX C) W vr0 w) (hSi : kSi (cF C) (cS C) (cb C) W u w) (S : Nat) (K : zMu → Int32 → Int32 → Option (Unit × zMu)) (K' : zMu → Int32 → Int32 → Int32 → Option (Unit × zMu)) : ∃ v v', (if zI u 19 y = 0 then rf_breaks_L27 n K n u (nI x) (nI y) 0 0 else K u (nI x) (nI (y + 1))) = K v (nI x) (nI (y + 1)) ∧ ce_T_breakWays_L39 n K' n w (nI x) (nI S) (nI y) 0 (zI w 52 y) (nI y * 4) = K' v' (nI x) (nI S) (nI (y + 1)) ∧ fT tgR [9] u v ∧ fT tgC [9] w v' ∧ kSi (cF C) (cS C) (cb C) W v v' := by
  have S80 : cS C ≤ 80 := P.2.2.2.2.1.1
  have i19 : zI u 19 y = zI (cb C) 19 y := B.r (show tgR 19 y = 0 from rfl)
  obtain ⟨g1, g2, g3, g4, g, g5, g6, g7, g8, g9⟩ := hSi.2.2.2 y hy
  by_cases k0 : zI (cb C) 19 y = 0
  · have k3 : ¬ zI (cb C) 19 y = nI 3 := by rw [k0]; decide
    obtain ⟨k, k1, k2, kk3, k4, k5, k6⟩ := g4 k3
    obtain ⟨v, e, a1, a2, a3, a4, a5⟩ := kr_brk n (P := fun i => kOn W u (4 * y + i) x) (x := x) (show y < 80 by omega) k1 (u0 := u) k2 (fun i hi u' b1 b2 b3 => by
      rcases r_onW n hn hO (k6 i hi) (by omega) hx b1 b2 b3 with q | q
      · exact Or.inl q
      · exact Or.inr q) K k 0 n u (by omega) (by omega) (fun _ _ _ _ => rfl) (fun a t _ _ => cp_0.symm) (by show _ = zI u 0 64 + nI 0; rw [add_n0]) (fT_rf _ _ _)
    obtain ⟨v', e', c1, c2, c3, c4, c5⟩ := kc_brk n (P := fun i => kOn W u (4 * y + i) x) (x := x) (S := S) (show y < 80 by omega) k1 (u0 := w) (fun i hi u' a1 a2 a3 a4 => by
      have hO' := kOb_k hO (fT_rf tgR [9] u) a2 (by decide)
      have hS' := kSh_k hS (fT_rf tgR [9] vr0) a2 (by decide)
      rcases c_onW n hO' hS' (k6 i hi) (by omega) hx a3 a4 with ⟨q1, -, -, q2⟩ | ⟨q1, q2⟩
      · exact Or.inl ⟨q1, q2⟩
      · exact Or.inr ⟨q1, q2⟩) K' k 0 n w (by omega) (by omega) (fun _ _ _ => rfl) (fun a t _ _ => cp_0.symm) (fT_rf _ _ _)
    refine ⟨v, v', ?_, ?_, a5, c5, ?_⟩
    · rw [if_pos (by rw [i19]; exact k0)]
      exact e
    · rw [kk3, show nI y * (4 : Int32) = nI (4 * y + 0) from by rw [show nI y * (4 : Int32) = nI (y * 4) from nI_mul y 4]; congr 1; omega]
      exact e'
    · have ir : ∀ a t, ¬ (55 ≤ a ∧ a ≤ 57) → ¬ (a = 0 ∧ t = 64) → ¬ (a = 54 ∧ t = y) → zI v a t = zI u a t := a1
      have lf := fl_le (fun i => kOn W u (4 * y + i) x) k
      refine kSi_two (s := y) hSi (fun a j q q2 => ?_) (fun a j q q2 => ?_) ?_ ?_
      · by_cases z : 55 ≤ a ∧ a ≤ 57
        · rw [a2 a j z.1 z.2, cp_out]
          unfold sR at q
          omega
        · exact a1 a j z q2 (by unfold sR at q; omega)
      · by_cases z : 55 ≤ a ∧ a ≤ 56
        · rw [c2 a j z.1 z.2, cp_out]
          unfold sC at q
          omega
        · exact c1 a j z q2 (by unfold sC at q; omega)
      · rw [c4, a4, hSi.2.2.1]
      · refine ⟨by rw [ir 52 _ (by omega) (by omega) (by omega), c1 50 _ (by omega) (by omega) (by omega)]; exact g1, by rw [ir 53 _ (by omega) (by omega) (by omega), c1 51 _ (by omega) (by omega) (by omega)]; exact g2, fun q => absurd q k3, fun _ => ⟨(fl (fun i => kOn W u (4 * y + i) x) k).length, by omega, a3, c3, by rw [ir 58 _ (by omega) (by omega) (by omega), c1 53 _ (by omega) (by omega) (by omega)]; exact k4, ?_, fun i hi => ?_⟩, g, g5, by rw [ir 59 _ (by omega) (by omega) (by omega)]; exact g6, by rw [c1 58 _ (by omega) (by omega) (by omega)]; exact g7, g8, fun q i hi => by rw [ir 60 _ (by omega) (by omega) (by omega), c1 57 _ (by omega) (by omega) (by omega)]; exact g9 q i hi⟩
        · rw [ir 58 _ (by omega) (by omega) (by omega)]
          rcases k5 with q | ⟨q1, q2⟩
          · exact Or.inl q
          · exact Or.inr ⟨q1, by omega⟩
        · have hm : (fl (fun i => kOn W u (4 * y + i) x) k).getD i 0 ∈ fl (fun i => kOn W u (4 * y + i) x) k := by
            rw [List.getD_eq_getElem?_getD, List.getElem?_eq_getElem hi]
            exact List.getElem_mem hi
          have cpx : ∀ f : Nat → Int32, cp (fun i => kOn W u (4 * y + i) x) y k f (4 * y + i) = f (4 * y + (fl (fun i => kOn W u (4 * y + i) x) k).getD i 0) := fun f => by
            unfold cp
            rw [if_pos (by omega), show 4 * y + i - 4 * y = i from by omega]
          exact kEn_q (k6 _ (fl_mem hm)) ((a2 55 _ (by omega) (by omega)).trans (cpx _)) ((a2 56 _ (by omega) (by omega)).trans (cpx _)) ((a2 57 _ (by omega) (by omega)).trans (cpx _)) ((c2 55 _ (by omega) (by omega)).trans (cpx _)) ((c2 56 _ (by omega) (by omega)).trans (cpx _))
  · have e : ∃ k, k ≤ 4 ∧ zI w 52 y = nI k ∧ ∀ i, i < k → kEn (cb C) W u w y (4 * y + i) := by
      by_cases k3 : zI (cb C) 19 y = nI 3
      · exact ⟨0, by omega, (g3 k3).2.1, fun i hi => absurd hi (by omega)⟩
      · obtain ⟨k, k1, k2, kk3, k4, k5, k6⟩ := g4 k3
        exact ⟨k, k1, kk3, k6⟩
    obtain ⟨k, k1, k2, k6⟩ := e
    obtain ⟨v, e, b1, b2⟩ := kc_pass n hn (C := C) (x := x) (show y < 80 by omega) k1 hx hO hS k6 k2 (fun i hi => by
      rintro ⟨F, T, y1, y2, -⟩
      obtain ⟨sh, E, -, -, -, -, -, h6⟩ := k6 i hi
      rcases h6 with ⟨q, -⟩ | ⟨q, -⟩
      · exact k0 q
      · have o2 := hO.1
        exact nI_m1 (n := F) (by omega) (y2.symm.trans q)) S K'
    refine ⟨u, v, ?_, by rw [k2]; exact e, fT_rf _ _ _, b2, kSi_pw hSi (fun _ _ => rfl) b1⟩
    rw [if_neg (by rw [i19]; exact k0)]
theorem k_brkL (n : Nat) (hn : 20000 ≤ n) {C : kC} (P : kPs C) {W : kW} {x : Nat} (hx : x < wO W) : ∀ d y m m' (u w vr0 : zMu), y + d = cS C → d < m → d < m' → kBs C u w → kOb W u w → kSh (cX C) W vr0 w → kSi (cF C) (cS C) (cb C) W u w → ∃ v v', rf_breaks_L2 n m u (nI x) (nI y) = some ((), v) ∧ ce_T_breakWays_L15 n m' w (nI x) (nI (cS C)) (nI y) = some ((), v') ∧ fT tgR [9] u v ∧ fT tgC [9] w v' ∧ kSi (cF C) (cS C) (cb C) W v v' := by
  have S80 : cS C ≤ 80 := P.2.2.2.2.1.1
  intro d
  induction d with
  | zero =>
    intro y m m' u w vr0 hy hm hm' B hO hS hSi
    obtain ⟨m, rfl⟩ : ∃ k, m = k + 1 := ⟨m - 1, by omega⟩
    obtain ⟨m', rfl⟩ : ∃ k, m' = k + 1 := ⟨m' - 1, by omega⟩
    have i39 : zI u 0 39 = nI (cS C) := (B.r (show tgR 0 39 = 0 from rfl)).trans P.2.2.2.2.1.2.1
    refine ⟨u, w, ?_, ?_, fT_rf _ _ _, fT_rf _ _ _, hSi⟩
    · rw [rf_breaks_L2, i39, if_neg (nI_nlt (by omega) (by omega))]
    · rw [ce_T_breakWays_L15, if_neg (nI_nlt (by omega) (by omega))]
  | succ d ih =>
    intro y m m' u w vr0 hy hm hm' B hO hS hSi
    obtain ⟨m, rfl⟩ : ∃ k, m = k + 1 := ⟨m - 1, by omega⟩
    obtain ⟨m', rfl⟩ : ∃ k, m' = k + 1 := ⟨m' - 1, by omega⟩
    have i39 : zI u 0 39 = nI (cS C) := (B.r (show tgR 0 39 = 0 from rfl)).trans P.2.2.2.2.1.2.1
    obtain ⟨v, v', e1, e2, f1, f2, h1⟩ := k_brk1 n hn P B (show y < cS C by omega) hx hO hS hSi (cS C) (rf_breaks_L2 n m) (ce_T_breakWays_L15 n m')
    obtain ⟨z, z', d1, d2, d3, d4, d5⟩ := ih (y + 1) m m' v v' vr0 (by omega) (by omega) (by omega) (B.tr f1 f2 (by decide)) (kOb_k hO f1 f2 (by decide)) (kSh_k hS (fT_rf tgR [9] vr0) f2 (by decide)) h1
    refine ⟨z, z', ?_, ?_, fT_tr f1 d3, fT_tr f2 d4, d5⟩
    · rw [rf_breaks_L2, i39, if_pos (nI_lt (by omega) (by omega)), zin_nI (show y < 800 by omega) (by decide), zgd_t, zx_nI (show y < 2 ^ 31 by omega), nI_1]
      exact e1.trans d1
    · rw [ce_T_breakWays_L15, if_pos (nI_lt (by omega) (by omega)), zin_nI (show y < 80 by omega) (by decide), zgd_t, zx_nI (show y < 2 ^ 31 by omega)]
      exact e2.trans d2
/-- the reference alone, where x is nobody's parent -/
theorem kr_brkL (n : Nat) (hn : 20000 ≤ n) {C : kC} (P : kPs C) {W : kW} {x : Nat} (hx : x < wO W) : ∀ d y m (u w vr0 : zMu), y + d = cS C → d < m → kBs C u w → kOb W u w → kSh (cX C) W vr0 w → zI w 44 (x + 1) = -1 → kSi (cF C) (cS C) (cb C) W u w → ∃ v, rf_breaks_L2 n m u (nI x) (nI y) = some ((), v) ∧ fT tgR [9] u v ∧ (∀ a t, zI v a t = zI u a t) := by
  have S80 : cS C ≤ 80 := P.2.2.2.2.1.1
  intro d
  induction d with
  | zero =>
    intro y m u w vr0 hy hm B hO hS h44 hSi
    obtain ⟨m, rfl⟩ : ∃ k, m = k + 1 := ⟨m - 1, by omega⟩
    have i39 : zI u 0 39 = nI (cS C) := (B.r (show tgR 0 39 = 0 from rfl)).trans P.2.2.2.2.1.2.1
    refine ⟨u, ?_, fT_rf _ _ _, fun _ _ => rfl⟩
    rw [rf_breaks_L2, i39, if_neg (nI_nlt (by omega) (by omega))]
  | succ d ih =>
    intro y m u w vr0 hy hm B hO hS h44 hSi
    obtain ⟨m, rfl⟩ : ∃ k, m = k + 1 := ⟨m - 1, by omega⟩
    have i39 : zI u 0 39 = nI (cS C) := (B.r (show tgR 0 39 = 0 from rfl)).trans P.2.2.2.2.1.2.1
    have i19 : zI u 19 y = zI (cb C) 19 y := B.r (show tgR 19 y = 0 from rfl)
    have st : ∀ Y, rf_breaks_L2 n (m + 1) u (nI x) (nI y) = Y ↔ (if zI u 19 y = 0 then rf_breaks_L27 n (rf_breaks_L2 n m) n u (nI x) (nI y) 0 0 else rf_breaks_L2 n m u (nI x) (nI (y + 1))) = Y := by
      intro Y
      rw [rf_breaks_L2, i39, if_pos (nI_lt (by omega) (by omega)), zin_nI (show y < 800 by omega) (by decide), zgd_t, zx_nI (show y < 2 ^ 31 by omega), nI_1]
      exact Iff.rfl
    by_cases k0 : zI (cb C) 19 y = 0
    · obtain ⟨g1, g2, g3, g4, g, g5, g6, g7, g8, g9⟩ := hSi.2.2.2 y (by omega)
      have k3 : ¬ zI (cb C) 19 y = nI 3 := by rw [k0]; decide
      obtain ⟨k, k1, k2, kk3, k4, k5, k6⟩ := g4 k3
      have no : ∀ i, i < k → ¬ kOn W u (4 * y + i) x := fun i hi q => by
        rcases c_onW n hO hS (k6 i hi) (by omega) hx rfl rfl with ⟨-, -, q3, -⟩ | ⟨q1, -⟩
        · exact q3 h44
        · exact q1 q
      obtain ⟨v, e, a1, a2, a3, a4, a5⟩ := kr_brk n (P := fun i => kOn W u (4 * y + i) x) (x := x) (show y < 80 by omega) k1 (u0 := u) k2 (fun i hi u' b1 b2 b3 => by
        rcases r_onW n hn hO (k6 i hi) (by omega) hx b1 b2 b3 with q | q
        · exact Or.inl q
        · exact Or.inr q) (rf_breaks_L2 n m) k 0 n u (by omega) (by omega) (fun _ _ _ _ => rfl) (fun a t _ _ => cp_0.symm) (by show _ = zI u 0 64 + nI 0; rw [add_n0]) (fT_rf _ _ _)
      have fa : fl (fun i => kOn W u (4 * y + i) x) k = List.range k := fl_all no
      rw [fa, List.length_range] at a3 a4
      have pw : ∀ a t, zI v a t = zI u a t := fun a t => by
        by_cases z1 : 55 ≤ a ∧ a ≤ 57
        · rw [a2 a t z1.1 z1.2, cp_all no]
        · by_cases z2 : a = 0 ∧ t = 64
          · obtain ⟨rfl, rfl⟩ := z2
            rw [a4, Nat.sub_self, add_n0]
          · by_cases z3 : a = 54 ∧ t = y
            · obtain ⟨rfl, rfl⟩ := z3
              rw [a3, k2]
            · exact a1 a t z1 z2 z3
      have f2 := fT_rf tgC [9] w
      obtain ⟨z, d1, d2, d3⟩ := ih (y + 1) m v w vr0 (by omega) (by omega) (B.tr a5 f2 (by decide)) (kOb_k hO a5 f2 (by decide)) hS h44 (kSi_pw hSi pw (fun _ _ => rfl))
      refine ⟨z, (st _).mpr ?_, fT_tr a5 d2, fun a t => (d3 a t).trans (pw a t)⟩
      rw [if_pos (by rw [i19]; exact k0)]
      exact e.trans d1
    · obtain ⟨z, d1, d2, d3⟩ := ih (y + 1) m u w vr0 (by omega) (by omega) B hO hS h44 hSi
      refine ⟨z, (st _).mpr ?_, d2, d3⟩
      rw [if_neg (by rw [i19]; exact k0)]
      exact d1
theorem k_breaks (n : Nat) (hn : 20000 ≤ n) {C : kC} (P : kPs C) {W : kW} {x : Nat} (hx : x < wO W) {u w vr0 : zMu} (B : kBs C u w) (hO : kOb W u w) (hS : kSh (cX C) W vr0 w) (hSi : kSi (cF C) (cS C) (cb C) W u w) : ∃ v v', rf_breaks n u (nI x) = some ((), v) ∧ ce_T_breakWays n w (nI x) (nI (cS C)) = some ((), v') ∧ fT tgR [9] u v ∧ fT tgC [9] w v' ∧ kSi (cF C) (cS C) (cb C) W v v' := by
  have S80 : cS C ≤ 80 := P.2.2.2.2.1.1
  have o2 := hO.1
  unfold rf_breaks ce_T_breakWays
  have ei : ce_S_isParent n w (nI x) = some (if zI w 44 (x + 1) = -1 then 0 else 1, w) := by
    unfold ce_S_isParent
    rw [if_neg (nI_pos (by omega)), if_pos (show nI x < (200 : Int32) from nI_lt (b := 200) (by omega) (by decide)), nI_1, zin_nI (show x + 1 < 201 by omega) (by decide), zgd_t, zx_nI (show x + 1 < 2 ^ 31 by omega)]
    by_cases z : zI w 44 (x + 1) = -1
    · rw [if_pos z, if_pos z]
    · rw [if_neg z, if_neg z]
  rw [zbd_e ei]
  by_cases z : zI w 44 (x + 1) = -1
  · rw [if_pos z, if_pos rfl]
    obtain ⟨v, d1, d2, d3⟩ := kr_brkL n hn P hx (cS C) 0 n u w vr0 (by omega) (by omega) B hO hS z hSi
    exact ⟨v, w, d1, rfl, d2, fT_rf _ _ _, kSi_pw hSi d3 (fun _ _ => rfl)⟩
  · rw [if_neg z, if_neg (show ¬ (1 : Int32) = 0 from by decide)]
    exact k_brkL n hn P hx (cS C) 0 n n u w vr0 (by omega) (by omega) (by omega) B hO hS hSi
