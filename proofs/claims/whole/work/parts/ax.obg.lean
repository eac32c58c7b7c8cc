/-! THE OBJECT: objects, members, rows -/
theorem ot_lt {x : Int32} (h : 1 < x) : ¬ x < 0 := fun q => absurd (Int32.lt_trans q (Int32.lt_trans (show (0 : Int32) < 1 by decide) h)) (Int32.lt_irrefl)
theorem sm_object (n : Nat) {C : kC} {W : kW} {T : Nat} {ur uc : zMu} (h : kOt C W T ur uc) (x y : Int32) : Sm ur uc (rf_object n ur x y) (ce_E_object n uc x y) := by
  obtain ⟨hPp, ⟨b1, b2, b3, b4⟩, ⟨-, -, U, fr, ov, ow, -, -, m5⟩, hSh, hRw, hSi, hFn, hCt⟩ := h
  unfold rf_object ce_E_object ce_H_isObject
  by_cases c : x < 0
  · rw [if_pos c, if_pos c]; exact sm_of (a := -2) rfl rfl rfl
  · rw [if_neg c, if_neg c]
    obtain ⟨j, hj, rfl⟩ := nI_of c
    rw [b2, b3]
    by_cases d : j < wO W
    · rw [if_pos (nI_lt d (by omega)), if_pos (nI_lt d (by omega)), zbd_s, if_neg (show ¬ (1 : Int32) = 0 by decide), zin_nI (show j < 200 by omega) (by decide), zin_nI (show j < 201 by omega) (by decide), zx_nI hj]
      simp only [zgd_t]
      by_cases y0 : y = 0
      · rw [if_pos y0, if_pos y0]; exact sm_e (hSh.2.2.2.2.2.2.2.2 j d).1
      · rw [if_neg y0, if_neg y0]
        by_cases y1 : y = 1
        · rw [if_pos y1, if_pos y1]; exact sm_e ((b4 j d).2.2.1.trans (b4 j d).2.1.symm)
        · rw [if_neg y1, if_neg y1]
          by_cases y2 : y = 2
          · rw [if_pos y2, if_pos y2]; exact sm_e ((m5 j d).1.2.2.2.2.2.1.trans (m5 j d).1.2.2.1.symm)
          · rw [if_neg y2, if_neg y2]; exact sm_e rfl
    · rw [if_neg (nI_nlt (by omega) hj), if_neg (nI_nlt (by omega) hj)]; exact sm_of (a := -2) rfl rfl rfl
/-- the d-th of a chain -/
def gA (l : List Nat) (d : Nat) : Int32 := match l[d]? with
  | none => -1
  | some c => nI c
theorem gA_n (d : Nat) : gA [] d = -1 := rfl
theorem gA_0 (c : Nat) (l : List Nat) : gA (c :: l) 0 = nI c := rfl
theorem gA_s (c : Nat) (l : List Nat) (d : Nat) : gA (c :: l) (d + 1) = gA l d := rfl
theorem r_chain (n : Nat) {u : zMu} : ∀ (l : List Nat) (m i d : Nat) (h : Int32), kCh (fun c => zI u 42 c) h l → (∀ c, c ∈ l → c < 20000) → l.length < m → i + d < 2 ^ 31 → rf_memberAt_L28 n m u (nI (i + d)) h (nI i) = some (gA l d, u) := by
  intro l
  induction l with
  | nil =>
    intro m i d h hc _ hm hi
    have hc : h = -1 := hc
    subst hc
    cases m with
    | zero => exact absurd hm (by simp)
    | succ m =>
      rw [rf_memberAt_L28, if_pos (show (-1 : Int32) = -1 from rfl), gA_n]
      split <;> rfl
  | cons c l ih =>
    intro m i d h hc hl hm hi
    obtain ⟨rfl, hc⟩ := hc
    have hcl := hl c (by simp)
    cases m with
    | zero => exact absurd hm (by simp)
    | succ m =>
      rw [rf_memberAt_L28]
      cases d with
      | zero => rw [if_neg (nI_nlt (by omega) (by omega)), gA_0]
      | succ d =>
        rw [if_pos (nI_lt (by omega) (by omega)), if_neg (nI_m1 (by omega)), zin_nI (show c < 20100 by omega) (by decide), zgd_t, zx_nI (show c < 2 ^ 31 by omega), gA_s]
        simp only [zlet]
        rw [nI_1, show i + (d + 1) = i + 1 + d by omega]
        exact ih m (i + 1) d _ hc (fun c q => hl c (by simp [q])) (by simp at hm; omega) (by omega)
theorem c_chain (n : Nat) {u : zMu} (hN : zN u 89 < 2 ^ 31) : ∀ (l : List Nat) (m i d : Nat) (h : Int32), kCh (fun c => zI u 89 c) h l → (∀ c, c ∈ l → c < zN u 89) → l.length < m → i + d < 2 ^ 31 → ce_H_cellAt_L34 n m u (nI (i + d)) h (nI i) = some (gA l d, u) := by
  intro l
  induction l with
  | nil =>
    intro m i d h hc _ hm hi
    have hc : h = -1 := hc
    subst hc
    cases m with
    | zero => exact absurd hm (by simp)
    | succ m =>
      rw [ce_H_cellAt_L34, if_pos (show (-1 : Int32) = -1 from rfl), gA_n]
      split <;> rfl
  | cons c l ih =>
    intro m i d h hc hl hm hi
    obtain ⟨rfl, hc⟩ := hc
    have hcl := hl c (by simp)
    cases m with
    | zero => exact absurd hm (by simp)
    | succ m =>
      rw [ce_H_cellAt_L34]
      cases d with
      | zero => rw [if_neg (nI_nlt (by omega) (by omega)), gA_0]
      | succ d =>
        rw [if_pos (nI_lt (by omega) (by omega)), if_neg (nI_m1 (by omega)), zin_nI hcl hN, zgd_t, zx_nI (show c < 2 ^ 31 by omega), gA_s]
        simp only [zlet]
        rw [nI_1, show i + (d + 1) = i + 1 + d by omega]
        exact ih m (i + 1) d _ hc (fun c q => hl c (by simp [q])) (by simp at hm; omega) (by omega)
theorem gA_map {α : Type} (f : α → Nat) (l : List α) (d : Nat) : (l.length ≤ d ∧ gA (l.map f) d = -1) ∨ ∃ a, a ∈ l ∧ l[d]? = some a ∧ d < l.length ∧ gA (l.map f) d = nI (f a) := by
  unfold gA
  rw [List.getElem?_map]
  cases e : l[d]? with
  | none => exact Or.inl ⟨List.getElem?_eq_none_iff.mp e, rfl⟩
  | some a =>
    have := (List.getElem?_eq_some_iff.mp e)
    exact Or.inr ⟨a, List.mem_of_getElem? e, rfl, this.1, rfl⟩
/-- the members of an object are few -/
theorem mb_len {X : pCx} {ub : zMu} {W : kW} {ur uc : zMu} (h : kMb X ub W ur uc) {o : Nat} (ho : o < wO W) : (wl W o).length ≤ 16000 := by
  obtain ⟨-, -, U, fr, ov, ow, ⟨-, a2, -, -, -, -, -, a8⟩, -, -⟩ := h
  have : (wl W o).length ≤ kSm (fun o => (wl W o).length) (wO W) := by
    have e : ∀ n, o < n → (wl W o).length ≤ kSm (fun o => (wl W o).length) n := by
      intro n
      induction n with
      | zero => intro q; omega
      | succ n ih =>
        intro q
        rw [kSm]
        by_cases z : o = n
        · subst z; omega
        · have := ih (by omega); omega
    exact e _ ho
  omega
/-- the i-th member of an object, on both sides -/
theorem sm_at (n : Nat) (hn : 50000000 ≤ n) {C : kC} {W : kW} {T : Nat} {ur uc : zMu} (h : kOt C W T ur uc) (x y : Int32) : (rf_memberAt n ur x y = some (-1, ur) ∧ ce_H_cellAt n uc x y = some (-1, uc)) ∨ ∃ a b w, a < 20000 ∧ b < zN uc 88 ∧ zN uc 88 ≤ 32000 ∧ w < xN (cX C) ∧ rf_memberAt n ur x y = some (nI a, ur) ∧ ce_H_cellAt n uc x y = some (nI b, uc) ∧ zI ur 40 a = nI w ∧ zL uc 88 b = xPK (cX C) w ∧ pVw 66 16000 uc ∧ vR (wO W) (wR W) (zI ur 41 a) (zL ur 43 a) (vS 66 uc b) (vX 66 uc b) := by
  obtain ⟨hPp, ⟨b1, b2, b3, b4⟩, hMb, hSh, hRw, hSi, hFn, hCt⟩ := h
  have hL := fun o (ho : o < wO W) => mb_len hMb ho
  obtain ⟨-, m1, U, fr, ov, ow, ⟨a1, a2, a3, a4, a5, a6, a7, a8⟩, -, m5⟩ := hMb
  unfold rf_memberAt ce_H_cellAt ce_H_isObject
  by_cases c : x < 0
  · rw [if_pos c, if_pos c]; exact Or.inl ⟨rfl, rfl⟩
  · rw [if_neg c, if_neg c]
    obtain ⟨o, hj, rfl⟩ := nI_of c
    rw [b2, b3]
    by_cases d : o < wO W
    · rw [if_pos (nI_lt d (by omega)), if_pos (nI_lt d (by omega)), zbd_s, if_neg (show ¬ (1 : Int32) = 0 by decide), zin_nI (show o < 200 by omega) (by decide), zin_nI (show o < 201 by omega) (by decide), zx_nI hj]
      simp only [zgd_t]
      by_cases cy : y < 0
      · rw [if_pos cy, if_pos cy]; exact Or.inl ⟨rfl, rfl⟩
      · rw [if_neg cy, if_neg cy]
        obtain ⟨i, hi, rfl⟩ := nI_of cy
        obtain ⟨⟨g1, g2, g3, g4, g5, g6, g7, g8, g9⟩, mm⟩ := m5 o d
        have hl := hL o d
        simp only [zlet]
        have er := r_chain n _ n 0 i _ g1 (fun c q => by
          obtain ⟨m, hm, rfl⟩ := List.mem_map.mp q
          have := (mm m hm).2.2.1
          omega) (by rw [List.length_map]; omega) (by omega)
        rw [Nat.zero_add] at er
        rw [show (0 : Int32) = nI 0 from rfl, er, g6]
        by_cases z : i < (wl W o).length
        · have ec := c_chain n (by omega) _ n 0 i _ g4 (fun c q => by
            obtain ⟨m, hm, rfl⟩ := List.mem_map.mp q
            have := (mm m hm).2.2.2.2.1
            omega) (by rw [List.length_map]; omega) (by omega)
          rw [Nat.zero_add] at ec
          rw [if_pos (nI_lt z (by omega)), ec]
          rcases gA_map (fun m : Nat × Nat × Nat => m.2.1) (wl W o) i with ⟨q, -⟩ | ⟨m, k1, k2, k3, k4⟩
          · omega
          · rcases gA_map (fun m : Nat × Nat × Nat => m.2.2) (wl W o) i with ⟨q, -⟩ | ⟨m', l1, l2, l3, l4⟩
            · omega
            · have : m' = m := by rw [k2] at l2; exact (Option.some.inj l2).symm
              subst this
              obtain ⟨f1, f2, f3, f4, f5, f6, f7, f8, f9⟩ := mm m' k1
              exact Or.inr ⟨m'.2.1, m'.2.2, m'.1, by omega, by omega, a6, f1, by rw [k4], by rw [l4], f7, f8, a7, f9⟩
        · rw [if_neg (nI_nlt (by omega) hi)]
          rcases gA_map (fun m : Nat × Nat × Nat => m.2.1) (wl W o) i with ⟨q, k4⟩ | ⟨m, k1, k2, k3, k4⟩
          · exact Or.inl ⟨by rw [k4], rfl⟩
          · omega
    · rw [if_neg (nI_nlt (by omega) hj), if_neg (nI_nlt (by omega) hj)]; exact Or.inl ⟨rfl, rfl⟩
theorem sm_member (n : Nat) (hn : 50000000 ≤ n) {C : kC} {W : kW} {T : Nat} {ur uc : zMu} (h : kOt C W T ur uc) (x y z : Int32) : Sm ur uc (rf_member n ur x y z) (ce_E_member n uc x y z) := by
  have at' := sm_at n hn h x y
  obtain ⟨hPp, ⟨b1, b2, b3, b4⟩, -⟩ := h
  unfold rf_member ce_E_member
  have no : ∀ {x : Int32}, (x < 0 ∨ ¬ x < nI (wO W)) → ce_H_isObject n uc x = some (0, uc) := by
    intro x q
    unfold ce_H_isObject
    rw [b3]
    by_cases c : x < 0
    · rw [if_pos c]
    · rw [if_neg c, if_neg (q.resolve_left c)]
  by_cases c : x < 0
  · rw [if_pos c, zbd_e (no (Or.inl c)), if_pos rfl]; exact sm_e rfl
  · rw [if_neg c, b2]
    by_cases d : x < nI (wO W)
    · have yes : ce_H_isObject n uc x = some (1, uc) := by
        unfold ce_H_isObject
        rw [if_neg c, b3, if_pos d]
      rw [if_pos d, zbd_e yes, if_neg (show ¬ (1 : Int32) = 0 by decide)]
      have main : (z = 0 ∨ z = 1) → Sm ur uc (rf_member_J24 n ur x y z) (if z < 0 then some (-2, uc) else if 1 < z then some (-2, uc) else zbd (ce_H_cellAt n uc x y) fun r6 u7 => if r6 = (-1) then some ((-1), u7) else if z = 0 then zbd (ce_V_sortAt n 66 u7 r6) fun r10 u11 => some (r10, u11) else zbd (ce_V_referenceAt n 66 u7 r6) fun r12 u13 => some (r12, u13)) := by
        intro hz
        have e1 : ¬ z < 0 := by rcases hz with rfl | rfl <;> decide
        have e2 : ¬ 1 < z := by rcases hz with rfl | rfl <;> decide
        rw [if_neg e1, if_neg e2]
        unfold rf_member_J24
        rcases at' with ⟨f1, f2⟩ | ⟨a, b, w, f1, f2, f3, f4, f5, f6, f7, f8, f9, f10⟩
        · rw [zbd_e f1, zbd_e f2, if_pos rfl, if_pos rfl]; exact sm_e rfl
        · rw [zbd_e f5, zbd_e f6, if_neg (nI_m1 (by omega)), if_neg (nI_m1 (by omega)), zin_nI (show a < 20100 by omega) (by decide), zx_nI (show a < 2 ^ 31 by omega)]
          simp only [zgd_t]
          rcases hz with rfl | rfl
          · rw [if_pos rfl, if_pos rfl, zbd_e (r_sortOf n f10), zbd_e (v_sortAt n f9 (by omega))]; exact sm_e rfl
          · rw [if_neg (show ¬ (1 : Int32) = 0 by decide), if_neg (show ¬ (1 : Int32) = 0 by decide), zbd_e (v_refAt n f9 (by omega) f10)]
            by_cases e : zI ur 41 a < 2
            · rw [if_pos e, if_pos e]; exact sm_e rfl
            · rw [if_neg e, if_neg e]; exact sm_e rfl
      by_cases c0 : z = 0
      · rw [if_pos c0]; exact main (Or.inl c0)
      · rw [if_neg c0]
        by_cases c1 : z = 1
        · rw [if_pos c1]; exact main (Or.inr c1)
        · rw [if_neg c1]
          rcases lt_two c0 c1 with e | e
          · rw [if_pos e]; exact sm_e rfl
          · rw [if_neg (ot_lt e), if_pos e]; exact sm_e rfl
    · rw [if_neg d, zbd_e (no (Or.inr d)), if_pos rfl]; exact sm_e rfl
theorem sm_worth (n : Nat) (hn : 50000000 ≤ n) {C : kC} {W : kW} {T : Nat} {ur uc : zMu} (h : kOt C W T ur uc) (x y : Int32) : Sm ur uc (rf_worth n ur x y) (ce_E_worth n uc x y) := by
  unfold rf_worth ce_E_worth
  rcases sm_at n hn h x y with ⟨f1, f2⟩ | ⟨a, b, w, f1, f2, f3, f4, f5, f6, f7, f8, f9, f10⟩
  · rw [zbd_e f1, zbd_e f2, if_pos rfl, if_pos rfl]; exact sm_e rfl
  · rw [zbd_e f5, zbd_e f6, if_neg (nI_m1 (by omega)), if_neg (nI_m1 (by omega)), zin_nI (show a < 20100 by omega) (by decide), zx_nI (show a < 2 ^ 31 by omega)]
    simp only [zgd_t]
    rw [zbd_e (v_worthAt n f9 (by omega) f10)]
    by_cases e : zI ur 41 a = 1
    · rw [if_pos e, if_pos e]; exact sm_e rfl
    · rw [if_neg e, if_neg e]; exact sm_e rfl
/-! letters -/
theorem pkn_sh {B : Nat → Nat} {b : Nat} : ∀ (z i : Nat), (∀ i, i < z → B (b + i) < 256) → pkn B b z / 256 ^ i % 256 = if i < z then B (b + i) else 0 := by
  intro z
  induction z with
  | zero => intro i _; simp [pkn]
  | succ z ih =>
    intro i h
    have hl := pkn_lt (B := B) (b := b) (z := z) (fun i hi => h i (by omega))
    have hz := h z (by omega)
    rw [pkn]
    by_cases c : i < z
    · rw [if_pos (by omega), show z = i + 1 + (z - i - 1) by omega, Nat.pow_add, Nat.pow_succ, Nat.mul_comm (256 ^ i) 256, Nat.mul_assoc 256, Nat.mul_comm 256, ← Nat.mul_assoc, ← Nat.mul_assoc]
      rw [show i + 1 + (z - i - 1) = z by omega]
      have e := ih i (fun j hj => h j (by omega))
      rw [if_pos c] at e
      rw [show pkn B b z + B (b + z) * 256 ^ i * 256 ^ (z - i - 1) * 256 = pkn B b z + 256 ^ i * (B (b + z) * 256 ^ (z - i - 1) * 256) by
        rw [Nat.mul_comm (B (b + z)) (256 ^ i), Nat.mul_assoc, Nat.mul_assoc, Nat.mul_assoc], Nat.add_mul_div_left _ _ (Nat.pow_pos (by decide)), Nat.add_mul_mod_self_right]
      exact e
    · by_cases e : i = z
      · subst e
        rw [if_pos (by omega), Nat.add_mul_div_right _ _ (Nat.pow_pos (by decide)), Nat.div_eq_of_lt hl, Nat.zero_add, Nat.mod_eq_of_lt hz]
      · rw [if_neg (by omega), Nat.div_eq_of_lt, Nat.zero_mod]
        have h1 := pkn_lt (B := B) (b := b) (z := z + 1) h
        rw [pkn] at h1
        exact Nat.lt_of_lt_of_le h1 (Nat.pow_le_pow_right (by decide) (by omega))
theorem byte_of (m i : Nat) (hm : m < 2 ^ 63) (hi : i < 8) : ((((lN m).toUInt64 >>> ((8 * nI i).toInt64.toUInt64 &&& Int64.toUInt64 63)).toInt64).toInt32) &&& 255 = nI (m / 256 ^ i % 256) := by
  have hs : ((8 * nI i).toInt64.toUInt64 &&& Int64.toUInt64 63).toBitVec % 64 = BitVec.ofNat 64 (8 * i) := by
    have : i = 0 ∨ i = 1 ∨ i = 2 ∨ i = 3 ∨ i = 4 ∨ i = 5 ∨ i = 6 ∨ i = 7 := by omega
    rcases this with rfl | rfl | rfl | rfl | rfl | rfl | rfl | rfl <;> decide
  generalize ((8 * nI i).toInt64.toUInt64 &&& Int64.toUInt64 63) = S at hs
  refine Int32.toBitVec_inj.mp ?_
  show (((lN m).toBitVec >>> (S.toBitVec % 64)).signExtend 32) &&& 255#32 = BitVec.ofNat 32 (m / 256 ^ i % 256)
  rw [hs]
  apply BitVec.eq_of_toNat_eq
  have hx : (lN m).toBitVec = BitVec.ofNat 64 m := rfl
  have e8 : (8 * i) % 2 ^ 64 = 8 * i := Nat.mod_eq_of_lt (by omega)
  have em : m % 2 ^ 64 = m := Nat.mod_eq_of_lt (by omega)
  have ep : (2 : Nat) ^ (8 * i) = 256 ^ i := by rw [Nat.pow_mul]
  rw [hx, BitVec.toNat_and, BitVec.toNat_ofNat, BitVec.signExtend_eq_setWidth_of_le _ (by decide), BitVec.toNat_setWidth]
  simp only [BitVec.ushiftRight_eq', BitVec.toNat_ushiftRight, BitVec.toNat_ofNat]
  rw [e8, em, Nat.shiftRight_eq_div_pow, ep, show (255 % 2 ^ 32 : Nat) = 2 ^ 8 - 1 from rfl, Nat.and_two_pow_sub_one_eq_mod]
  generalize m / 256 ^ i = q
  omega
theorem sm_letter (n : Nat) (hn : 50000000 ≤ n) {C : kC} {W : kW} {T : Nat} {B : Nat → Nat} {s : Nat} {ur uc : zMu} (h : kOt C W T ur uc) (hx : oTx B s ur) (hN : xN (cX C) ≤ 1500) (hw : ∀ w, w < xN (cX C) → nmR B s (xPK (cX C)) ur w) (x y z : Int32) : Sm ur uc (rf_letter n ur x y z) (ce_E_letter n uc x y z) := by
  unfold rf_letter ce_E_letter
  rcases sm_at n hn h x y with ⟨f1, f2⟩ | ⟨a, b, w, f1, f2, f3, f4, f5, f6, f7, f8, f9, f10⟩
  · rw [zbd_e f1, zbd_e f2, if_pos rfl, if_pos rfl]; exact sm_e rfl
  · obtain ⟨e, l, g1, g2, g3, g4, g5, g6, g7⟩ := hw w f4
    rw [zbd_e f5, zbd_e f6, if_neg (nI_m1 (by omega)), if_neg (nI_m1 (by omega)), zin_nI (show a < 20100 by omega) (by decide), zx_nI (show a < 2 ^ 31 by omega), zin_nI f2 (by omega), zx_nI (show b < 2 ^ 31 by omega), f7, zin_nI (show w < 1500 by omega) (by decide), zx_nI (show w < 2 ^ 31 by omega), f8, g1, g2, g7]
    simp only [zgd_t]
    by_cases c : z < 0
    · rw [if_pos c, if_pos c]; exact sm_e rfl
    · rw [if_neg c, if_neg c]
      obtain ⟨i, hi, rfl⟩ := nI_of c
      have hs := hx.1
      by_cases c8 : i < 8
      · have hb : ∀ j, j < l → B (e + j) < 256 := fun j _ => hx.2.1 _
        have h63 : pkn B e l < 2 ^ 63 := pkn_lt63 g4 (fun j hj => (alnum_lt (g6 j hj)).2)
        rw [if_pos (show nI i < 8 from nI_lt (b := 8) c8 (by decide)), byte_of _ i h63 c8, pkn_sh l i hb]
        by_cases d : i < l
        · rw [if_pos (nI_lt d (by omega)), if_pos d, nI_add, zin_nI (show e + i < 1500 by omega) (by decide), zx_nI (show e + i < 2 ^ 31 by omega), zgd_t, hx.2.2.2 _ (by omega)]
          exact sm_e rfl
        · rw [if_neg (nI_nlt (by omega) hi), if_neg d]
          exact sm_e rfl
      · rw [if_neg (show ¬ nI i < 8 from nI_nlt (b := 8) (by omega) hi), if_neg (nI_nlt (by omega) hi)]
        exact sm_e rfl
