/-! THE LAW: its state between calls -/
def lA (s : State) : Nat → Prop := fun q => s.heap.size ≤ q
def lS (κ : zKx) (ca : Nat → ClassId) (D1 D2 : va_G) (ur uc : zMu) (a1 g1 a2 : Nat → Nat) (H : Heap) (locs : List Loc) : Prop := va_P D1 ce_cl (zw ce_tb ca (zad ce_tb a1 g1) uc) H ∧ va_P D2 rf_cl (zw rf_tb ca (zad rf_tb a2 a2) ur) H ∧ va_D (lA (zKs κ)) (zw ce_tb ca (zad ce_tb a1 g1) uc ++ zw rf_tb ca (zad rf_tb a2 a2) ur) ∧ va_S (lA (zKs κ)) (zKs κ).heap H locs
def lF (κ : zKx) (ca : Nat → ClassId) (D1 D2 : va_G) : Prop := lC κ ∧ va_K D1 ce_cl (zTys ca) (zKs κ) ∧ va_K D2 rf_cl (zTys ca) (zKs κ) ∧ zStr D1 (lA (zKs κ)) (zKs κ) (zKs κ).heap
theorem zTrue_ok : zExOk (fun _ _ _ => True) := ⟨fun _ _ _ _ _ h => h, fun _ _ _ _ _ h => h, fun _ _ _ _ _ h => h, fun _ _ _ _ _ h => h⟩
/-- what was made stays within the room -/
theorem lw_bd {n k : Nat} {ur uc : zMu} (h : oI n k (0, 0) ur uc) : (zc uc).1 ≤ 116872 ∧ (zc uc).2 ≤ 340000 := by
  obtain ⟨t, p, q, B, s, C, W, T, h1, h2, h5, ⟨⟨⟨w1, w2, w3⟩, ⟨w4, w5, w6⟩, ⟨w7, w8, w9⟩, w10, w11, w12⟩, -, m1, m2⟩, -⟩ := h
  have b1 := w1.2.2.2.2.1
  have b2 := w2.2.2.2.2.1
  have b3 := w3.2.2.2.2.1
  have b4 := w10.2.2.2.2.1
  have vp : ∀ m L, vP m L ≤ 4 * m := by
    intro m L
    unfold vP
    split <;> omega
  have v1 := vp 16000 (zN uc 67)
  have v2 := vp 3000 (zN uc 70)
  have v3 := vp 200 (zN uc 73)
  have v4 := vp 780 (zN uc 76)
  have v5 := vp 156 (zN uc 79)
  have v6 := vp 1800 (zN uc 81)
  have m1 : (zc uc).1 ≤ 0 + pA uc := m1
  have m2 : (zc uc).2 ≤ 0 + pB uc := m2
  unfold pA at m1
  unfold pB at m2
  have b1 : zN uc 67 ≤ 16000 := b1
  have b2 : zN uc 70 ≤ 3000 := b2
  have b3 : zN uc 73 ≤ 200 := b3
  have b4 : zN uc 76 ≤ 780 := b4
  omega
section lwSteps
variable {κ : zKx} {ca : Nat → ClassId} {D1 D2 : va_G} {H : Heap} {locs : List Loc} {cells slots pc : Nat} {Q : State → Prop} {ls : Array Slot} {st : List Value} {ur uc uc' ur' : zMu} {a1 g1 a2 : Nat → Nat}
/-- a call of the class -/
theorem lw_C {ρ : Type} {y : MethodName} {bytes : ByteArray} {maxL : Nat} {rt' : Option FieldType} {ret' : ρ → Option Value} {fr' : Bool} {d' idx n : Nat} {r : ρ} (As : List Value) (hF : lF κ ca D1 D2) (hM : ∀ a g : Nat → Nat, zMet (zKl κ) (zCe ca D1) y (.code y bytes maxL rt') ret' fr' d' a g (.ref (a 0) :: As) uc (some (r, uc'))) (hG : GoodIn lw_tbl (wsV R_lawN idx ce_RE y (.code y bytes maxL rt' :: ce_gl)) ∧ (y.cls = ce_RE ∧ y.cls ≠ "java/lang/invoke/MethodHandle" ∧ y.cls ≠ "java/lang/invoke/VarHandle" ∧ (parseMethodDescriptor y.desc).map (fun d => d.parameters.length) = some n)) (hm : maxL ≤ 21) (hdd : d' ≤ 2000) (hS : lS κ ca D1 D2 ur uc a1 g1 a2 H locs) (hl : ls.size = 4) (hn : As.length = n) (hst : st = As.reverse ++ [.ref (a1 0)]) (hB : (zc uc').1 ≤ 116872 ∧ (zc uc').2 ≤ 340000) (hd : decode code pc = .ok (.invokevirtual idx, 3))
    (k : ∀ (g' : Nat → Nat) (H1 : Heap) (locs1 : List Loc), lS κ ca D1 D2 ur uc' a1 g' a2 H1 locs1 → zW κ H1 locs1 (158 + (zc uc').1) (165191 + (zc uc').2) Q (F0 (zKm κ) (pc + 3) ls ((ret' r).toList ++ []))) : zW κ H locs (158 + (zc uc).1) (165191 + (zc uc).2) Q (F0 (zKm κ) pc ls st) := by
  subst hst
  have zr := (hM a1 g1 _ _ rfl).1 κ
  have z1 := zr.1
  have z2 := zr.2.1
  have e1 : 158 + (zc uc).1 + ((zc uc').1 - (zc uc).1) = 158 + (zc uc').1 := by omega
  have e2 : 165191 + (zc uc).2 + ((zc uc').2 - (zc uc).2) = 165191 + (zc uc').2 := by omega
  refine lw_call (Λ := zCe ca D1) (k0 := 0) hF.1 (hM a1 g1) hG.1 hG.2 hm hdd ⟨ce_TE, 7, 0, rfl, zlt rfl, rfl⟩ rfl ⟨fun q h => h, hF.2.2.2, zStr_ok D1⟩ hF.2.1 hS.1 hS.2.1 hS.2.2.1 hS.2.2.2 hl hn (Nat.le_of_ble_eq_true rfl) (by rw [e1]; omega) (by rw [e2]; omega) hd (fun g' H1 locs1 hg h1 h2 h3 h4 => ?_)
  rw [e1, e2]
  exact k g' H1 locs1 ⟨h1, h2, h3, h4⟩
/-- a call of the reference -/
theorem lw_R {ρ : Type} {y : MethodName} {bytes : ByteArray} {maxL : Nat} {rt' : Option FieldType} {ret' : ρ → Option Value} {d' idx n : Nat} {r : ρ} (As : List Value) {rest : List Value} (hF : lF κ ca D1 D2) (hM : ∀ a g : Nat → Nat, zMet (zKl κ) (zRf ca D2) y (.code y bytes maxL rt') ret' true d' a g (.ref (a 0) :: As) ur (some (r, ur'))) (hG : GoodIn lw_tbl (wsV R_lawN idx rf_C y (.code y bytes maxL rt' :: rf_gl)) ∧ (y.cls = rf_C ∧ y.cls ≠ "java/lang/invoke/MethodHandle" ∧ y.cls ≠ "java/lang/invoke/VarHandle" ∧ (parseMethodDescriptor y.desc).map (fun d => d.parameters.length) = some n)) (hm : maxL ≤ 21) (hdd : d' ≤ 2000) (hS : lS κ ca D1 D2 ur uc a1 g1 a2 H locs) (hl : ls.size = 4) (hn : As.length = n) (hst : st = As.reverse ++ .ref (a2 0) :: rest) (hW : (rest.map fun v => v.category).sum ≤ 8) (hB : (zc uc).1 ≤ 116872 ∧ (zc uc).2 ≤ 340000) (hd : decode code pc = .ok (.invokevirtual idx, 3))
    (k : ∀ (H1 : Heap) (locs1 : List Loc), lS κ ca D1 D2 ur' uc a1 g1 a2 H1 locs1 → zW κ H1 locs1 (158 + (zc uc).1) (165191 + (zc uc).2) Q (F0 (zKm κ) (pc + 3) ls ((ret' r).toList ++ rest))) : zW κ H locs (158 + (zc uc).1) (165191 + (zc uc).2) Q (F0 (zKm κ) pc ls st) := by
  subst hst
  have zr := ((hM a2 a2 _ _ rfl).1 κ).2.2 rfl
  have e1 : 158 + (zc uc).1 + ((zc ur').1 - (zc ur).1) = 158 + (zc uc).1 := by rw [zr]; omega
  have e2 : 165191 + (zc uc).2 + ((zc ur').2 - (zc ur).2) = 165191 + (zc uc).2 := by rw [zr]; omega
  refine lw_call (Λ := zRf ca D2) (k0 := 0) hF.1 (hM a2 a2) hG.1 hG.2 hm hdd ⟨rf_T, 105, 0, rfl, zlt rfl, rfl⟩ rfl ⟨fun q h => h, trivial, zTrue_ok⟩ hF.2.2.1 hS.2.1 hS.1 (va_D_swap hS.2.2.1) hS.2.2.2 hl hn hW (by rw [e1]; omega) (by rw [e2]; omega) hd (fun g' H1 locs1 hg h1 h2 h3 h4 => ?_)
  have hg := hg rfl
  subst hg
  rw [e1, e2]
  exact k H1 locs1 ⟨h2, h1, va_D_swap h3, h4⟩
/-- script[i + j] -/
theorem lw_arg {b L i j : Nat} {xs : Nat → Int32} {lv : List (Nat × Value)} (hC : lC κ) (hX : va_X b L xs (zKs κ) (zKs κ).heap) (hbl : b < (zKs κ).heap.size) (hS : va_S (lA (zKs κ)) (zKs κ).heap H locs) (hl : lv_has ls 4 lv) (h0 : lv[0]? = some (0, .ref b)) (h3 : lv[3]? = some (3, .int (nI i))) (hL : L ≤ 2048) (hij : i + j < L) {jj : Int} (hj : Int32.ofInt jj = nI j) (hd0 : decode code pc = .ok (.aload_n 0, 1)) (hd1 : decode code (pc + 1) = .ok (.iload_n 3, 1)) (hd2 : decode code (pc + 1 + 1) = .ok (.iconst jj, 1)) (hd3 : decode code (pc + 1 + 1 + 1) = .ok (.iadd, 1)) (hd4 : decode code (pc + 1 + 1 + 1 + 1) = .ok (.iaload, 1)) (k : zW κ H locs cells slots Q (F0 (zKm κ) (pc + 1 + 1 + 1 + 1 + 1) ls (.int (xs (i + j)) :: st))) : zW κ H locs cells slots Q (F0 (zKm κ) pc ls st) := by
  obtain ⟨c1, c2, c3, c4, c5, c6⟩ := hC
  refine lv_aload_n (k := 0) (i := 0) c1 c2 hd0 rfl (lv_at hl 0 h0) ?_
  refine lv_iload_n (k := 3) (i := 3) c1 c2 hd1 rfl (lv_at hl 3 h3) ?_
  refine lv_iconst c1 c2 hd2 hj ?_
  refine lv_iadd c1 c2 hd3 ?_
  rw [nI_add]
  refine va_sld c1 c2 hX hbl (Nat.not_le.mpr hbl) hS (vp_in_nI hij (by omega)) hd4 ?_
  rw [nI_clamp (by omega)]
  exact k
end lwSteps
/-- the law's locals -/
def lV (b i : Nat) (a1 a2 : Nat → Nat) : List (Nat × Value) := [(0, .ref b), (1, .ref (a1 0)), (2, .ref (a2 0)), (3, .int (nI i))]
def lB (x y : Int32) : Int64 := (x.toInt64 <<< ((32 : Int32).toInt64 &&& 63)) ||| (y.toInt64 &&& 4294967295)
theorem lgc_rf (x : Int64) : lg_cmp x x = 0 := by
  unfold lg_cmp
  simp
