/-! RUNNING: the first state; run -/
def W0 : kW := ((0, 0, 0, 0, 0), fun _ => 0, (fun _ => 0, fun _ => 0, fun _ => []), fun _ => [], fun _ => 0)
/-- the class's growing rows are well -/
def oW (uc : zMu) : Prop := (pVw 66 16000 uc ∧ pVw 69 3000 uc ∧ pVw 72 200 uc) ∧ (1 ≤ zN uc 88 ∧ zN uc 88 ≤ 32000 ∧ zN uc 89 = zN uc 88) ∧ (1 ≤ zN uc 81 ∧ zN uc 81 ≤ 1800 ∧ ∀ a, 82 ≤ a → a ≤ 87 → zN uc a = zN uc 81) ∧ pVw 75 780 uc ∧ pVw 78 156 uc ∧ zN uc 79 = 156
theorem oW_keep {u w : zMu} (h : oW u) (hi : ∀ a j, 66 ≤ a → a ≤ 79 → zI w a j = zI u a j) (hn : ∀ a, 66 ≤ a → zN w a = zN u a) : oW w := by
  obtain ⟨⟨a1, a2, a3⟩, b, c, d, e, f⟩ := h
  have kv : ∀ v m, 66 ≤ v → v ≤ 78 → pVw v m u → pVw v m w := fun v m x y z => pVw_keep z (hi v 0 x (by omega)) (fun j => hi (v + 1) j (by omega) (by omega)) (hn _ (by omega)) (hn _ (by omega))
  refine ⟨⟨kv 66 _ (by omega) (by omega) a1, kv 69 _ (by omega) (by omega) a2, kv 72 _ (by omega) (by omega) a3⟩, ?_, ?_, kv 75 _ (by omega) (by omega) d, kv 78 _ (by omega) (by omega) e, (hn 79 (by omega)).trans f⟩
  · rw [hn 88 (by omega), hn 89 (by omega)]; exact b
  · rw [hn 81 (by omega)]
    exact ⟨c.1, c.2.1, fun a x y => (hn a (by omega)).trans (c.2.2 a x y)⟩
theorem kOt_0 {C : kC} {ur uc : zMu} (hF : cF C ≤ 8) (hS : cS C ≤ 80) (hr : kAn0 ur) (hc : kLd uc) (hw : oW uc) : kOt C W0 0 ur uc := by
  obtain ⟨r1, r2, r3⟩ := hr
  obtain ⟨c1, c2, c3, c4, c5, c6, c7, c8, c9, c10⟩ := hc
  obtain ⟨⟨w1, w2, w3⟩, w4, w5, w6⟩ := hw
  have z : ∀ j, (51 ≤ j ∧ j ≤ 68) ∨ j = 80 → ¬ j = 54 → zI ur 0 j = 0 := fun j q k => (r1 j q).trans (if_neg k)
  refine ⟨⟨Nat.zero_le _, z 60 (by omega) (by omega), c9 5 (by omega), w3, fun j hj => absurd hj (Nat.not_lt_zero j)⟩, ⟨Nat.zero_le _, z 57 (by omega) (by omega), c2.2.1, fun j hj => absurd hj (Nat.not_lt_zero j)⟩, ⟨z 80 (by omega) (by omega), Nat.zero_le _, 0, [], fun _ => 0, fun _ => 0, ⟨c2.2.2.2.1, Nat.zero_le _, Nat.zero_le _, w4.2.2, w4.1, w4.2.1, w1, rfl⟩, ⟨c2.2.2.2.2, List.nodup_nil, fun c hc => absurd hc List.not_mem_nil⟩, fun j hj => absurd hj (Nat.not_lt_zero j)⟩, ⟨⟨Nat.zero_le _, Nat.zero_le _⟩, z 58 (by omega) (by omega), c2.1, c2.2.2.1.trans (z 61 (by omega) (by omega)).symm, ⟨w5.1, w5.2.1, Nat.zero_le _, w5.2.2⟩, ⟨fun _ => [], fun j hj => absurd hj (Nat.not_lt_zero j)⟩, fun s s' hs => absurd hs (Nat.not_lt_zero s), fun q hq => Or.inl ⟨c1 q hq, fun s hs => absurd hs (Nat.not_lt_zero s)⟩, fun j hj => absurd hj (Nat.not_lt_zero j)⟩, ⟨Nat.zero_le _, z 59 (by omega) (by omega), c8.2.1, c8.2.2.trans (z 67 (by omega) (by omega)).symm, w2, fun _ => 0, c8.1, fun j hj => absurd hj (Nat.not_lt_zero j)⟩, ⟨c4.1.trans (z 62 (by omega) (by omega)).symm, c4.2.1.trans (z 63 (by omega) (by omega)).symm, c4.2.2.trans (z 64 (by omega) (by omega)).symm, fun s hs => ?_⟩, ⟨c7.1.trans (z 65 (by omega) (by omega)).symm, c7.2.trans (z 66 (by omega) (by omega)).symm, fun f hf => ?_⟩, ⟨z 55 (by omega) (by omega), c9 15 (by omega), (c9 16 (by omega)).trans (z 56 (by omega) (by omega)).symm, (c9 12 (by omega)).trans (z 68 (by omega) (by omega)).symm, (c9 18 (by omega)).trans (z 53 (by omega) (by omega)).symm, c10.trans ((r1 54 (by omega)).trans (if_pos rfl)).symm⟩⟩
  · have hs' : s < 80 := by omega
    have x52 := r2 52 s (by omega) (by omega)
    have x53 := r2 53 s (by omega) (by omega)
    have x54 := r2 54 s (by omega) (by omega)
    have x58 := r2 58 s (by omega) (by omega)
    have x59 := r2 59 s (by omega) (by omega)
    have y50 := c3 50 s (by omega) hs'
    have y51 := c3 51 s (by omega) hs'
    have y52 := c3 52 s (by omega) hs'
    have y53 := c3 53 s (by omega) hs'
    have y54 := c3 54 s (by omega) hs'
    have y58 := c3 58 s (by omega) hs'
    exact ⟨y50.trans x52.symm, y51.trans x53.symm, fun _ => ⟨y54.trans x54.symm, y52, y53, x58⟩, fun _ => ⟨0, by omega, x54, y52, y53.trans x58.symm, Or.inl x58, fun i hi => absurd hi (Nat.not_lt_zero i)⟩, 0, by omega, x59, y58, fun q => absurd q (Nat.lt_irrefl 0), fun _ i hi => absurd hi (Nat.not_lt_zero i)⟩
  · have hf' : f < 8 := by omega
    have x : ∀ a, 61 ≤ a → a ≤ 67 → ¬ a = 65 → zI ur a f = 0 := fun a p q k => (r3 a f p q (by omega)).trans (if_neg k)
    have y : ∀ a, 60 ≤ a → a ≤ 64 → zI uc a f = 0 := fun a p q => c5 a f p q hf'
    exact ⟨(y 60 (by omega) (by omega)).trans (x 61 (by omega) (by omega) (by omega)).symm, (y 61 (by omega) (by omega)).trans (x 62 (by omega) (by omega) (by omega)).symm, (y 63 (by omega) (by omega)).trans (x 63 (by omega) (by omega) (by omega)).symm, (c6 f hf').trans ((r3 65 f (by omega) (by omega) (by omega)).trans (if_pos rfl)).symm, Nat.zero_le _, x 66 (by omega) (by omega) (by omega), y 62 (by omega) (by omega), 0, by omega, x 64 (by omega) (by omega) (by omega), y 64 (by omega) (by omega), x 67 (by omega) (by omega) (by omega), fun q => absurd q (by show ¬ (0 : Nat) = 1; decide)⟩
/-- the reference's variables of the main -/
theorem r_L31 (n : Nat) (x1 : Int32) : ∀ d j m u, j + d = 12 → d < m → ∃ v, rf_run_L31 n m u x1 (nI j) = rf_run_L57 n n v x1 (zI u 0 34) (-1) ∧ pFr (fun a _ => a = 28) u v ∧ (∀ i, i < j → zI v 28 i = zI u 28 i) ∧ (∀ i, j ≤ i → i < 12 → zI v 28 i = 0) := by
  intro d
  induction d with
  | zero =>
    intro j m u hj hm
    obtain ⟨m, rfl⟩ : ∃ k, m = k + 1 := ⟨m - 1, by omega⟩
    refine ⟨u, ?_, pFr_rf, fun _ _ => rfl, fun i x y => absurd y (by omega)⟩
    unfold rf_run_L31
    rw [if_neg (show ¬ nI j < (12 : Int32) from nI_nlt (b := 12) (by omega) (by omega))]
    rfl
  | succ d ih =>
    intro j m u hj hm
    obtain ⟨m, rfl⟩ : ∃ k, m = k + 1 := ⟨m - 1, by omega⟩
    obtain ⟨v, e, f, g0, g⟩ := ih (j + 1) m (zsI u 28 j 0) (by omega) (by omega)
    refine ⟨v, ?_, pFr_tr (pFr_set rfl) f, fun i hi => ?_, fun i x y => ?_⟩
    · unfold rf_run_L31
      rw [if_pos (show nI j < (12 : Int32) from nI_lt (b := 12) (by omega) (by decide)), zin_nI (show j < 160 by omega) (by decide), zgd_t, zx_nI (show j < 2 ^ 31 by omega)]
      show rf_run_L31 n m (zsI u 28 j 0) x1 (nI j + 1) = _
      rw [nI_1, e, gI_sI, if_neg (by omega)]
    · rw [g0 i (by omega), gI_sI, if_neg (by omega)]
    · by_cases z : i = j
      · subst z
        rw [g0 i (by omega), gI_sI, if_pos ⟨rfl, rfl⟩]
      · exact g i (by omega) y
theorem fT_pFr {tg : Nat → Nat → Nat} {ts : List Nat} {S : Nat → Nat → Prop} {u v : zMu} (h : pFr S u v) (k : ∀ a j, S a j → tg a j ∈ ts) (z : ∀ j, ¬ S 75 j ∧ ¬ S 76 j ∧ ¬ S 78 j ∧ ¬ S 79 j) : fT tg ts u v := by
  have e : v.2 = u.2 := h.2
  refine ⟨fun a j q => h.1 a j (fun x => q (k a j x)), fun a j _ => ?_, by rw [e], fun a _ => ?_, ?_, ?_, vKp_s (fun a j q => ?_) (fun a _ => ?_)⟩
  · unfold zL; rw [e]
  · unfold zN; rw [e]
  · unfold zc pA zN; rw [e]; exact Nat.le_refl _
  · unfold zc pB zN; rw [e]; exact Nat.le_refl _
  · obtain ⟨z1, z2, z3, z4⟩ := z j
    rcases q with rfl | rfl | rfl | rfl
    · exact h.1 _ _ z1
    · exact h.1 _ _ z2
    · exact h.1 _ _ z3
    · exact h.1 _ _ z4
  · unfold zN; rw [e]
