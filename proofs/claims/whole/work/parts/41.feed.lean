/-! feed -/
/-- the tapes: the same t bytes -/
def pTape (ur uc : zMu) (t : Nat) : Prop := zI ur 0 3 = nI t ∧ zI uc 0 1 = nI t ∧ t ≤ 1500 ∧ ∀ j, j < t → ∃ b, b < 256 ∧ zI ur 1 j = nI b ∧ zI uc 1 j = (nI b).toInt8.toInt32
/-- only the ints that S names have changed -/
def pFr (S : Nat → Nat → Prop) (u v : zMu) : Prop := (∀ k j, ¬ S k j → zI v k j = zI u k j) ∧ v.2 = u.2
theorem pFr_rf {S : Nat → Nat → Prop} {u : zMu} : pFr S u u := ⟨fun _ _ _ => rfl, rfl⟩
theorem pFr_tr {S : Nat → Nat → Prop} {u v w : zMu} (h : pFr S u v) (k : pFr S v w) : pFr S u w := ⟨fun a b n => (k.1 a b n).trans (h.1 a b n), k.2.trans h.2⟩
theorem pFr_set {S : Nat → Nat → Prop} {u : zMu} {k j : Nat} {v : Int32} (h : S k j) : pFr S u (zsI u k j v) := ⟨fun a b n => by rw [gI_sI, if_neg]; rintro ⟨rfl, rfl⟩; exact n h, rfl⟩
theorem fd_byte (b : Int64) (i : Nat) (hi : i < 8) : ∃ c, c < 256 ∧ ((b >>> ((8 * nI i).toInt64 &&& 63)) &&& 255).toInt32 = nI c ∧ vp_nar .byte (((b.toUInt64 >>> ((8 * nI i).toInt64.toUInt64 &&& Int64.toUInt64 63)).toInt64).toInt32.toInt8.toInt32) = (nI c).toInt8.toInt32 := by
  sorry
theorem fd_r (n : Nat) (b : Int64) (x : Nat) (hx : x ≤ 8) : ∀ (m i t : Nat) (u : zMu), x - i < m → i ≤ x → zI u 0 3 = nI (t + i) → t + x ≤ 1500 →
    Wp (rf_feed_L32 n m u (nI x) b (nI i)) (fun r v => r = nI (t + x) ∧ zI v 0 3 = nI (t + x) ∧ pFr (fun k j => (k = 0 ∧ j = 3) ∨ (k = 1 ∧ t + i ≤ j)) u v ∧ ∀ j, i ≤ j → j < x → zI v 1 (t + j) = ((b >>> ((8 * nI j).toInt64 &&& 63)) &&& 255).toInt32) := by
  intro m
  induction m with
  | zero => intro i t u h; omega
  | succ m ih =>
    intro i t u hm hi ht hb
    unfold rf_feed_L32
    by_cases h : i < x
    · refine wp_t (nI_lt h (by omega)) ?_
      refine wp_let (wp_let (wp_gd (by rw [ht]; exact zin_nI (by omega) (by omega)) (wp_let (wp_let ?_))))
      rw [ht, zx_nI (by omega), nI_1, nI_1]
      refine wp_mono (ih (i + 1) t _ (by omega) (by omega) (by rw [gI_sI, if_neg (by omega), gI_sI, if_pos ⟨rfl, rfl⟩, Nat.add_assoc]) hb) ?_
      intro r v ⟨h1, h2, h3, h4⟩
      refine ⟨h1, h2, ⟨fun k j hn => ?_, h3.2⟩, fun j hj hjx => ?_⟩
      · rw [h3.1 k j (by omega), gI_sI, if_neg (by omega), gI_sI, if_neg (by omega)]
      · by_cases e : j = i
        · subst e
          rw [h3.1 1 (t + j) (by omega), gI_sI, if_pos ⟨rfl, rfl⟩]
        · exact h4 j (by omega) hjx
    · have e : i = x := by omega
      subst e
      refine wp_f (nI_nlt (Nat.le_refl _) (by omega)) (wp_some ⟨ht, ht, pFr_rf, fun j h1 h2 => by omega⟩)
