/-! THE OBJECT: as it is made -/
def cX0 : pCx := ((12, 0, 0, 0, 0, 0), fun _ => 0, fun _ => 0, fun _ => 0, fun _ => 0, uR0, uE0)
def cC0 : kC := (cX0, (0, 0), (uR0, uE0), fun _ => 0)
theorem vw_first {w : zMu} (e : ∀ a j, 66 ≤ a → zI w a j = zI uE0 a j) (en : ∀ a, zN w a = zN uE0 a) {v m L : Nat} (h0 : zI uE0 v 0 = nI m) (hv : 66 ≤ v) (hm : m < 50000) (hL : 1 ≤ L) (hLm : L ≤ m) (h1 : zN uE0 (v + 1) = L) (h2 : zN uE0 (v + 2) = L) (hz : ∀ j, zI uE0 (v + 1) j = 0) : pVw v m w := by
  refine ⟨(e v 0 hv).trans h0, hm, ?_, ?_, ?_, fun j _ => ⟨0, by omega, (e (v + 1) j (by omega)).trans (hz j)⟩⟩
  · rw [en, h1]; exact hL
  · rw [en, en, h1, h2]
  · rw [en, h1]; exact hLm
theorem o_first (n k : Nat) (hn : 20000 ≤ n) : ∃ ur uc, rf_anew n uR0 = some ((), ur) ∧ ce_M_load n 12 uE0 = some ((), uc) ∧ oI n k (0, 0) ur uc := by
  obtain ⟨ur, e1, f1, a1⟩ := r_anew n hn uR0
  obtain ⟨uc, e2, f2, a2⟩ := c_load n 12 hn uE0
  refine ⟨ur, uc, e1, e2, 0, 12, 23, fun _ => 0, 0, cC0, W0, 0, ?_, ⟨?_, ?_, ?_⟩, ?_, ?_, ?_, ?_, ?_, ?_, ?_⟩
  · exact ⟨f1.1 0 3 (by unfold kAf; omega), f2.1 0 1 (by unfold kLf; omega), by omega, fun j hj => by omega⟩
  · refine ⟨fun j hj => ?_, fun k hk => ?_⟩
    · rw [f1.1 9 j (by unfold kAf; omega)]
      exact if_pos hj
    · rw [zL_2 f2.2 8 k]
      exact if_pos hk
  · exact ⟨0, 0, by omega, by omega, Or.inr ⟨by omega, f1.1 0 27 (by unfold kAf; omega)⟩, f1.1 17 0 (by unfold kAf; omega)⟩
  · exact ⟨0, by omega, f2.1 2 8 (by unfold kLf; omega)⟩
  · exact ⟨(f2.1 2 3 (by unfold kLf; omega)).trans (f1.1 0 18 (by unfold kAf; omega)).symm, (f2.1 2 4 (by unfold kLf; omega)).trans (f1.1 0 19 (by unfold kAf; omega)).symm⟩
  · have e : ∀ a j, 66 ≤ a → zI uc a j = zI uE0 a j := fun a j h => f2.1 a j (by unfold kLf; omega)
    have en : ∀ a, zN uc a = zN uE0 a := fun a => zN_2 f2.2 a
    have ec : zc uc = (0, 0) := zc_2 f2.2
    refine ⟨⟨⟨vw_first e en (L := 32) (by decide) (by omega) (by omega) (by omega) (by omega) rfl rfl (fun _ => rfl), vw_first e en (L := 64) (by decide) (by omega) (by omega) (by omega) (by omega) rfl rfl (fun _ => rfl), vw_first e en (L := 16) (by decide) (by omega) (by omega) (by omega) (by omega) rfl rfl (fun _ => rfl)⟩, ⟨?_, ?_, ?_⟩, ⟨?_, ?_, fun a x y => ?_⟩, vw_first e en (L := 64) (by decide) (by omega) (by omega) (by omega) (by omega) rfl rfl (fun _ => rfl), vw_first e en (L := 156) (by decide) (by omega) (by omega) (by omega) (by omega) rfl rfl (fun _ => rfl), ?_⟩, ?_, ?_, ?_⟩
    · rw [en]; decide
    · rw [en]; decide
    · rw [en, en]; decide
    · rw [en]; decide
    · rw [en]; decide
    · rw [en, en]
      have : a = 82 ∨ a = 83 ∨ a = 84 ∨ a = 85 ∨ a = 86 ∨ a = 87 := by omega
      rcases this with rfl | rfl | rfl | rfl | rfl | rfl <;> rfl
    · rw [en]; rfl
    · unfold zdy
      rw [zR_2 f2.2, zR_2 f2.2, zR_2 f2.2, zR_2 f2.2]
      decide
    · rw [ec]; exact Nat.zero_le _
    · rw [ec]; exact Nat.zero_le _
  · exact ⟨Or.inl ⟨rfl, rfl⟩, (zR_2 f2.2 0 4).trans rfl, (zR_2 f2.2 0 5).trans rfl⟩
  · exact ⟨by omega, fun _ => show 0 < 256 by decide, f1.1 0 4 (by unfold kAf; omega), fun j hj => by omega⟩
  · refine kOt_0 (by decide) (by decide) a1 a2 ?_
    have e : ∀ a j, 66 ≤ a → zI uc a j = zI uE0 a j := fun a j h => f2.1 a j (by unfold kLf; omega)
    have en : ∀ a, zN uc a = zN uE0 a := fun a => zN_2 f2.2 a
    refine ⟨⟨vw_first e en (L := 32) (by decide) (by omega) (by omega) (by omega) (by omega) rfl rfl (fun _ => rfl), vw_first e en (L := 64) (by decide) (by omega) (by omega) (by omega) (by omega) rfl rfl (fun _ => rfl), vw_first e en (L := 16) (by decide) (by omega) (by omega) (by omega) (by omega) rfl rfl (fun _ => rfl)⟩, ⟨?_, ?_, ?_⟩, ⟨?_, ?_, fun a x y => ?_⟩, vw_first e en (L := 64) (by decide) (by omega) (by omega) (by omega) (by omega) rfl rfl (fun _ => rfl), vw_first e en (L := 156) (by decide) (by omega) (by omega) (by omega) (by omega) rfl rfl (fun _ => rfl), ?_⟩
    · rw [en]; decide
    · rw [en]; decide
    · rw [en, en]; decide
    · rw [en]; decide
    · rw [en]; decide
    · rw [en, en]
      have : a = 82 ∨ a = 83 ∨ a = 84 ∨ a = 85 ∨ a = 86 ∨ a = 87 := by omega
      rcases this with rfl | rfl | rfl | rfl | rfl | rfl <;> rfl
    · rw [en]; rfl
  · refine ⟨⟨Nat.zero_le _, f1.1 0 33 (by unfold kAf; omega), f2.1 12 12 (by unfold kLf; omega)⟩, ⟨Nat.zero_le _, f1.1 0 39 (by unfold kAf; omega), f2.1 12 8 (by unfold kLf; omega)⟩, fun s hs => absurd hs (Nat.not_lt_zero _), fun f hf => absurd hf (Nat.not_lt_zero _), ⟨(f2.1 12 14 (by unfold kLf; omega)).trans (f1.1 17 9 (by unfold kAf; omega)).symm, f2.1 12 15 (by unfold kLf; omega)⟩, fun w hw => absurd hw (Nat.not_lt_zero _)⟩
  · exact Or.inl ⟨f1.1 0 5 (by unfold kAf; omega), f2.1 0 6 (by unfold kLf; omega), rfl, rfl, rfl, rfl, f2.1 12 14 (by unfold kLf; omega)⟩
