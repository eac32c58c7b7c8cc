/-! feed -/
/-- the tapes: the same t bytes -/
def pTape (ur uc : zMu) (t : Nat) : Prop := zI ur 0 3 = nI t ∧ zI uc 0 1 = nI t ∧ t ≤ 1500 ∧ ∀ j, j < t → ∃ b, b < 256 ∧ zI ur 1 j = nI b ∧ zI uc 1 j = (nI b).toInt8.toInt32
/-- only the ints that S names have changed -/
def pFr (S : Nat → Nat → Prop) (u v : zMu) : Prop := (∀ k j, ¬ S k j → zI v k j = zI u k j) ∧ v.2 = u.2
theorem pFr_rf {S : Nat → Nat → Prop} {u : zMu} : pFr S u u := ⟨fun _ _ _ => rfl, rfl⟩
theorem pFr_tr {S : Nat → Nat → Prop} {u v w : zMu} (h : pFr S u v) (k : pFr S v w) : pFr S u w := ⟨fun a b n => (k.1 a b n).trans (h.1 a b n), k.2.trans h.2⟩
theorem pFr_set {S : Nat → Nat → Prop} {u : zMu} {k j : Nat} {v : Int32} (h : S k j) : pFr S u (zsI u k j v) := ⟨fun a b n => by rw [gI_sI, if_neg]; rintro ⟨rfl, rfl⟩; exact n h, rfl⟩
theorem fd_sh (b : Int64) (s : Nat) (hs : s ≤ 56) (S : Int64) (S' : UInt64) (h1 : S.toBitVec.smod 64 = BitVec.ofNat 64 s) (h2 : S'.toBitVec % 64 = BitVec.ofNat 64 s) : ∃ c, c < 256 ∧ ((b >>> S) &&& 255).toInt32 = nI c ∧ vp_nar .byte ((b.toUInt64 >>> S').toInt64.toInt32.toInt8.toInt32) = (nI c).toInt8.toInt32 := by
  refine ⟨(b.toBitVec >>> s).toNat % 256, Nat.mod_lt _ (by decide), ?_, ?_⟩
  · apply Int32.toBitVec_inj.mp
    apply BitVec.eq_of_getLsbD_eq
    intro j hj
    have e : ((b >>> S) &&& 255).toInt32.toBitVec = ((b.toBitVec.sshiftRight s) &&& 255#64).setWidth 32 := by
      show ((BitVec.sshiftRight' b.toBitVec (S.toBitVec.smod 64)) &&& 255#64).signExtend 32 = _
      rw [BitVec.signExtend_eq_setWidth_of_le _ (by decide), h1]
      show ((BitVec.sshiftRight b.toBitVec (BitVec.ofNat 64 s).toNat) &&& 255#64).setWidth 32 = _
      rw [BitVec.toNat_ofNat, Nat.mod_eq_of_lt (by omega)]
    rw [e]
    have e2 : (nI ((b.toBitVec >>> s).toNat % 256)).toBitVec = ((b.toBitVec >>> s) &&& 255#64).setWidth 32 := by
      apply BitVec.eq_of_toNat_eq
      show (BitVec.ofNat 32 _).toNat = _
      rw [BitVec.toNat_ofNat, BitVec.toNat_setWidth, BitVec.toNat_and]
      congr 1
      exact (Nat.and_two_pow_sub_one_eq_mod _ 8).symm
    rw [e2]
    simp only [BitVec.getLsbD_setWidth, BitVec.getLsbD_and, BitVec.getLsbD_sshiftRight, BitVec.getLsbD_ushiftRight]
    by_cases h8 : j < 8
    · simp [show s + j < 64 by omega, show ¬ (64 ≤ j) by omega]
    · have : (255#64).getLsbD j = false := by
        rw [BitVec.getLsbD_ofNat]
        have : Nat.testBit 255 j = false := by
          apply Nat.testBit_lt_two_pow
          calc 255 < 2 ^ 8 := by decide
            _ ≤ 2 ^ j := Nat.pow_le_pow_right (by decide) (by omega)
        simp [this]
      simp [this]
  · rw [pk_vb]
    have e : (b.toUInt64 >>> S').toInt64.toInt32.toInt8 = (nI ((b.toBitVec >>> s).toNat % 256)).toInt8 := by
      apply Int8.toBitVec_inj.mp
      show (((b.toBitVec >>> (S'.toBitVec % 64))).signExtend 32).signExtend 8 = (BitVec.ofNat 32 _).signExtend 8
      rw [h2, BitVec.signExtend_eq_setWidth_of_le _ (by decide), BitVec.signExtend_eq_setWidth_of_le _ (by decide), BitVec.signExtend_eq_setWidth_of_le _ (by decide)]
      apply BitVec.eq_of_toNat_eq
      simp only [BitVec.toNat_setWidth, BitVec.toNat_ofNat, BitVec.ushiftRight_eq', Nat.reducePow]
      rw [Nat.mod_eq_of_lt (show s < 18446744073709551616 by omega)]
      omega
    rw [e]
theorem fd_byte (b : Int64) (i : Nat) (hi : i < 8) : ∃ c, c < 256 ∧ ((b >>> ((8 * nI i).toInt64 &&& 63)) &&& 255).toInt32 = nI c ∧ vp_nar .byte (((b.toUInt64 >>> ((8 * nI i).toInt64.toUInt64 &&& Int64.toUInt64 63)).toInt64).toInt32.toInt8.toInt32) = (nI c).toInt8.toInt32 := by
  have h : i = 0 ∨ i = 1 ∨ i = 2 ∨ i = 3 ∨ i = 4 ∨ i = 5 ∨ i = 6 ∨ i = 7 := by omega
  rcases h with rfl | rfl | rfl | rfl | rfl | rfl | rfl | rfl
  · exact fd_sh b 0 (by decide) _ _ (by decide) (by decide)
  · exact fd_sh b 8 (by decide) _ _ (by decide) (by decide)
  · exact fd_sh b 16 (by decide) _ _ (by decide) (by decide)
  · exact fd_sh b 24 (by decide) _ _ (by decide) (by decide)
  · exact fd_sh b 32 (by decide) _ _ (by decide) (by decide)
  · exact fd_sh b 40 (by decide) _ _ (by decide) (by decide)
  · exact fd_sh b 48 (by decide) _ _ (by decide) (by decide)
  · exact fd_sh b 56 (by decide) _ _ (by decide) (by decide)
theorem fd_r (n : Nat) (b : Int64) (x : Nat) (hx : x ≤ 8) : ∀ (m i t : Nat) (u : zMu), x - i < m → i ≤ x → zI u 0 3 = nI (t + i) → t + x ≤ 1500 →
    Wp (rf_feed_L32 n m u (nI x) b (nI i)) (fun r v => r = nI (t + x) ∧ zI v 0 3 = nI (t + x) ∧ pFr (fun k j => (k = 0 ∧ j = 3) ∨ (k = 1 ∧ t + i ≤ j)) u v ∧ ∀ j, i ≤ j → j < x → zI v 1 (t + j) = ((b >>> ((8 * nI j).toInt64 &&& 63)) &&& 255).toInt32) := by
  intro m
  induction m with
  | zero => intro i t u h; omega
  | succ m ih =>
    intro i t u hm hi ht hb
    unfold rf_feed_L32
    by_cases h : i < x
    · refine wp_t (nI_lt h (by omega)) ?_
      refine wp_let (wp_let (wp_gd (by rw [ht]; exact zin_nI (by omega) (by omega)) (wp_let (wp_let ?_))))
      rw [ht, zx_nI (by omega), nI_1, nI_1]
      refine wp_mono (ih (i + 1) t _ (by omega) (by omega) (by rw [gI_sI, if_neg (by omega), gI_sI, if_pos ⟨rfl, rfl⟩, Nat.add_assoc]) hb) ?_
      intro r v ⟨h1, h2, h3, h4⟩
      refine ⟨h1, h2, ⟨fun k j hn => ?_, h3.2⟩, fun j hj hjx => ?_⟩
      · rw [h3.1 k j (by omega), gI_sI, if_neg (by omega), gI_sI, if_neg (by omega)]
      · by_cases e : j = i
        · subst e
          rw [h3.1 1 (t + j) (by omega), gI_sI, if_pos ⟨rfl, rfl⟩]
        · exact h4 j (by omega) hjx
    · have e : i = x := by omega
      subst e
      refine wp_f (nI_nlt (Nat.le_refl _) (by omega)) (wp_some ⟨ht, ht, pFr_rf, fun j h1 h2 => by omega⟩)
theorem fd_c (n : Nat) (b : Int64) (x : Nat) (hx : x ≤ 8) : ∀ (m i t : Nat) (u : zMu), x - i < m → i ≤ x → zI u 0 1 = nI t → t + x ≤ 1500 →
    Wp (ce_E_feed_L32 n m u (nI x) b (nI i)) (fun r v => r = nI (t + x) ∧ zI v 0 1 = nI (t + x) ∧ pFr (fun k j => (k = 0 ∧ j = 1) ∨ (k = 1 ∧ t + i ≤ j)) u v ∧ ∀ j, i ≤ j → j < x → zI v 1 (t + j) = vp_nar .byte (((b.toUInt64 >>> ((8 * nI j).toInt64.toUInt64 &&& Int64.toUInt64 63)).toInt64).toInt32.toInt8.toInt32)) := by
  intro m
  induction m with
  | zero => intro i t u h; omega
  | succ m ih =>
    intro i t u hm hi ht hb
    unfold ce_E_feed_L32
    by_cases h : i < x
    · refine wp_t (nI_lt h (by omega)) ?_
      rw [ht, nI_add]
      refine wp_gd (zin_nI (by omega) (by omega)) (wp_let (wp_let ?_))
      rw [zx_nI (by omega), nI_1]
      refine wp_mono (ih (i + 1) t _ (by omega) (by omega) (by rw [gI_sI, if_neg (by omega)]; exact ht) hb) ?_
      intro r v ⟨h1, h2, h3, h4⟩
      refine ⟨h1, h2, ⟨fun k j hn => ?_, h3.2⟩, fun j hj hjx => ?_⟩
      · rw [h3.1 k j (by omega), gI_sI, if_neg (by omega)]
      · by_cases e : j = i
        · subst e
          rw [h3.1 1 (t + j) (by omega), gI_sI, if_pos ⟨rfl, rfl⟩]
        · exact h4 j (by omega) hjx
    · have e : i = x := by omega
      subst e
      refine wp_f (nI_nlt (Nat.le_refl _) (by omega)) (wp_let (wp_some ?_))
      rw [ht, nI_add]
      refine ⟨rfl, rfl, pFr_set (by omega), fun j h1 h2 => by omega⟩
theorem lt_lit {x : Int32} {n : Nat} (hn : n < 2 ^ 31) : x < (OfNat.ofNat n : Int32) ↔ x.toInt < n := by
  rw [Int32.lt_iff_toInt_lt, show (OfNat.ofNat n : Int32) = nI n from rfl, nI_toInt hn]
theorem lit_lt {x : Int32} {n : Nat} (hn : n < 2 ^ 31) : (OfNat.ofNat n : Int32) < x ↔ (n : Int) < x.toInt := by
  rw [Int32.lt_iff_toInt_lt, show (OfNat.ofNat n : Int32) = nI n from rfl, nI_toInt hn]
/-- feed: the same answer, the same tapes -/
theorem p_feed (n : Nat) (hn : 9 ≤ n) {ur uc : zMu} {t : Nat} (h : pTape ur uc t) (x : Int32) (b : Int64) :
    Wp (rf_feed n ur x b) (fun r vr => Wp (ce_E_feed n uc x b) (fun s vc => r = s ∧ (∃ t', pTape vr vc t') ∧ pFr (fun k j => (k = 0 ∧ j = 3) ∨ k = 1) ur vr ∧ pFr (fun k j => (k = 0 ∧ j = 1) ∨ k = 1) uc vc)) := by
  obtain ⟨h1, h2, h3, h4⟩ := h
  unfold rf_feed ce_E_feed
  have hrf : Wp (some ((-2 : Int32), ur)) (fun r vr => Wp (some ((-2 : Int32), uc)) (fun s vc => r = s ∧ (∃ t', pTape vr vc t') ∧ pFr (fun k j => (k = 0 ∧ j = 3) ∨ k = 1) ur vr ∧ pFr (fun k j => (k = 0 ∧ j = 1) ∨ k = 1) uc vc)) := wp_some (wp_some ⟨rfl, ⟨t, h1, h2, h3, h4⟩, pFr_rf, pFr_rf⟩)
  by_cases c1 : x < 1
  · refine wp_t c1 (wp_mono hrf (fun r v q => wp_t c1 q))
  by_cases c2 : 8 < x
  · refine wp_f c1 (wp_t c2 (wp_mono hrf (fun r v q => wp_f c1 (wp_t c2 q))))
  have b1 : ¬ x.toInt < 1 := fun q => c1 ((lt_lit (n := 1) (by decide)).mpr q)
  have b2 : ¬ (8 : Int) < x.toInt := fun q => c2 ((lit_lt (n := 8) (by decide)).mpr q)
  obtain ⟨j, hj, rfl⟩ : ∃ j : Nat, j ≤ 8 ∧ x = nI j := by
    obtain ⟨j, hj, e⟩ := nI_of (x := x) (by rw [lt_lit (n := 0) (by decide)]; omega)
    refine ⟨j, ?_, e⟩
    rw [e, nI_toInt hj] at b2
    omega
  by_cases c3 : 1500 < t + j
  · have g : (1500 : Int32) < nI t + nI j := by rw [nI_add]; exact nI_lt (a := 1500) c3 (by omega)
    refine wp_f c1 (wp_f c2 (wp_t (by rw [h1]; exact g) (wp_some (wp_f c1 (wp_f c2 (wp_t (by rw [h2]; exact g) (wp_some ⟨rfl, ⟨t, h1, h2, h3, h4⟩, pFr_rf, pFr_rf⟩)))))))
  · have g : ¬ (1500 : Int32) < nI t + nI j := by rw [nI_add]; exact nI_nlt (a := 1500) (by omega) (by omega)
    refine wp_f c1 (wp_f c2 (wp_f (by rw [h1]; exact g) ?_))
    refine wp_mono (fd_r n b j hj n 0 t ur (by omega) (by omega) h1 (by omega)) ?_
    intro r vr ⟨r1, r2, r3, r4⟩
    refine wp_f c1 (wp_f c2 (wp_f (by rw [h2]; exact g) ?_))
    refine wp_mono (fd_c n b j hj n 0 t uc (by omega) (by omega) h2 (by omega)) ?_
    intro s vc ⟨s1, s2, s3, s4⟩
    refine ⟨r1.trans s1.symm, ⟨t + j, r2, s2, by omega, fun q hq => ?_⟩, ⟨fun k a hk => r3.1 k a (by omega), r3.2⟩, ⟨fun k a hk => s3.1 k a (by omega), s3.2⟩⟩
    by_cases hqt : q < t
    · obtain ⟨c, e1, e2, e3⟩ := h4 q hqt
      exact ⟨c, e1, by rw [r3.1 1 q (by omega)]; exact e2, by rw [s3.1 1 q (by omega)]; exact e3⟩
    · obtain ⟨i, rfl⟩ : ∃ i, q = t + i := ⟨q - t, by omega⟩
      obtain ⟨c, e1, e2, e3⟩ := fd_byte b i (by omega)
      exact ⟨c, e1, by rw [r4 i (by omega) (by omega)]; exact e2, by rw [s4 i (by omega) (by omega)]; exact e3⟩
