/-! THE LAW: its start -/
theorem lw_arr {args : Array Value} {s : State} {ty : FieldType} (hp : ty = .int ∨ ty = .byte ∨ ty = .short ∨ ty = .boolean ∨ ty = .long) (h : (Cond.arrayClass ty).before args s = true) : ∃ cA : ClassId, ArrOfT s cA ty ∧ va_RA s cA ty := by
  obtain ⟨cA, kA, comp, h1, h2, h3⟩ := Cond.arrayClass_spec h
  refine ⟨cA, fun n z => ⟨fun k h => (by cases h), kA, h2, comp, h3⟩, ?_⟩
  rcases hp with rfl | rfl | rfl | rfl | rfl <;> exact h1
def lwT (i : Nat) : Term := .string "ShapeEngine$Lexer" (zsIdx.getD i 0)
set_option maxRecDepth 100000 in
theorem lw_f1 : ∀ i, i < 13 → Cond.exactly (lwT i) "java/lang/String" ∈ flatC (Jvm.Cond.and given_1 narrow_1) := by decide +kernel
set_option maxRecDepth 100000 in
theorem lw_f2 : ∀ i, i < 13 → Cond.eq (.field (lwT i) "java/lang/String" "coder" "B") (.int 0) ∈ flatC (Jvm.Cond.and given_1 narrow_1) := by decide +kernel
set_option maxRecDepth 100000 in
theorem lw_f3 : ∀ i, i < 13 → Cond.arrayOf (.field (lwT i) "java/lang/String" "value" "[B") .byte ∈ flatC (Jvm.Cond.and given_1 narrow_1) := by decide +kernel
set_option maxRecDepth 100000 in
theorem lw_f4 : ∀ i, i < 13 → Cond.eq (.length (.field (lwT i) "java/lang/String" "value" "[B")) (.int (Int32.ofNat (zsLen.getD i 0))) ∈ flatC (Jvm.Cond.and given_1 narrow_1) := by decide +kernel
set_option maxRecDepth 100000 in
theorem lw_f5 : ∀ i, i < 13 → ∀ j, j < zsLen.getD i 0 → Cond.eq (.elem (.field (lwT i) "java/lang/String" "value" "[B") (.int (Int32.ofNat j))) (.int ((zsByt.getD i []).getD j 0)) ∈ flatC (Jvm.Cond.and given_1 narrow_1) := by decide +kernel
set_option maxRecDepth 100000 in
theorem lw_f6 : ∀ i, i < 13 → ∀ j, j < 13 → i ≠ j → Cond.not (Cond.eq (lwT i) (lwT j)) ∈ flatC (Jvm.Cond.and given_1 narrow_1) ∨ Cond.not (Cond.eq (lwT j) (lwT i)) ∈ flatC (Jvm.Cond.and given_1 narrow_1) := by decide +kernel
set_option maxRecDepth 100000 in
theorem lw_f7 : Cond.eq (.static "java/lang/String" "COMPACT_STRINGS" "Z") (.int 1) ∈ flatC (Jvm.Cond.and given_1 narrow_1) := by decide +kernel
set_option maxRecDepth 100000 in
theorem lw_f8 : Cond.isRef (.static "jdk/internal/util/Preconditions" "SIOOBE_FORMATTER" "Ljava/util/function/BiFunction;") ∈ flatC (Jvm.Cond.and given_1 narrow_1) := by decide +kernel
theorem lw_setup {args : Array Value} {s : State} (hts : ∀ w ∈ lw_tbl, w.before args s = true) (hgv : (Jvm.Cond.and given_1 narrow_1).before args s = true) : ∃ (ca : Nat → ClassId) (D1 D2 : va_G), va_K D1 ce_cl (zTys ca) s ∧ va_K D2 rf_cl (zTys ca) s ∧ zNs D1 (lA s) s s.heap := by
  have hf := flat_of_before _ hgv
  have hA : ∀ a : Nat, a < s.heap.size → ¬ lA s a := fun a h q => absurd h (Nat.not_lt.mpr q)
  obtain ⟨adK, adV, hS, hE⟩ := vk_Sof (N := 13) (tm := lwT) (len := zsLen) (byt := zsByt) (A := lA s) (args := args) (s := s) (by decide) (fun i hi => hf _ (lw_f1 i hi)) (fun i hi => hf _ (lw_f2 i hi)) (fun i hi => hf _ (lw_f3 i hi)) (fun i hi => hf _ (lw_f4 i hi)) (fun i hi j hj => hf _ (lw_f5 i hi j hj)) (fun i j hi hj ne => (lw_f6 i hi j hj ne).imp (hf _) (hf _)) hA
  obtain ⟨k1, a1⟩ := lw_arr (Or.inl rfl) (hts _ lwE_a1)
  obtain ⟨k2, a2⟩ := lw_arr (Or.inr (Or.inl rfl)) (hts _ lwE_a2)
  obtain ⟨k3, a3⟩ := lw_arr (Or.inr (Or.inr (Or.inl rfl))) (hts _ lwE_a3)
  obtain ⟨k4, a4⟩ := lw_arr (Or.inr (Or.inr (Or.inr (Or.inl rfl)))) (hts _ lwE_a4)
  obtain ⟨k5, a5⟩ := lw_arr (Or.inr (Or.inr (Or.inr (Or.inr rfl)))) (hts _ lwE_a5)
  obtain ⟨c0, i0, u0⟩ := u_known (C := ce_RE) (T := ce_TE) (N := 7) hts (fun w hw => lwm_cegl w (ce_zclE.1 w hw)) (hts _ lwI_E)
  obtain ⟨c1, i1, u1⟩ := u_known (C := ce_RC) (T := ce_TC) (N := 13) hts (fun w hw => lwm_cegl w (ce_zclC.1 w hw)) (hts _ lwI_C)
  obtain ⟨c2, i2, u2⟩ := u_known (C := ce_RX) (T := ce_TX) (N := 9) hts (fun w hw => lwm_cegl w (ce_zclX.1 w hw)) (hts _ lwI_X)
  obtain ⟨c3, i3, u3⟩ := u_known (C := ce_RP) (T := ce_TP) (N := 16) hts (fun w hw => lwm_cegl w (ce_zclP.1 w hw)) (hts _ lwI_P)
  obtain ⟨c4, i4, u4⟩ := u_known (C := ce_RM) (T := ce_TM) (N := 20) hts (fun w hw => lwm_cegl w (ce_zclM.1 w hw)) (hts _ lwI_M)
  obtain ⟨c5, i5, u5⟩ := u_known (C := ce_RH) (T := ce_TH) (N := 14) hts (fun w hw => lwm_cegl w (ce_zclH.1 w hw)) (hts _ lwI_H)
  obtain ⟨c6, i6, u6⟩ := u_known (C := ce_RS) (T := ce_TS) (N := 9) hts (fun w hw => lwm_cegl w (ce_zclS.1 w hw)) (hts _ lwI_S)
  obtain ⟨c7, i7, u7⟩ := u_known (C := ce_RR) (T := ce_TR) (N := 7) hts (fun w hw => lwm_cegl w (ce_zclR.1 w hw)) (hts _ lwI_R)
  obtain ⟨c8, i8, u8⟩ := u_known (C := ce_RT) (T := ce_TT) (N := 12) hts (fun w hw => lwm_cegl w (ce_zclT.1 w hw)) (hts _ lwI_T)
  obtain ⟨c9, i9, u9⟩ := u_known (C := ce_RF) (T := ce_TF) (N := 8) hts (fun w hw => lwm_cegl w (ce_zclF.1 w hw)) (hts _ lwI_F)
  obtain ⟨c10, i10, u10⟩ := u_known (C := ce_RV) (T := ce_TV) (N := 3) hts (fun w hw => lwm_cegl w (ce_zclV.1 w hw)) (hts _ lwI_V)
  obtain ⟨r0, j0, v0⟩ := u_known (C := rf_C) (T := rf_T) (N := 105) hts (fun w hw => lwm_rfgl w (rf_zcl.1 w hw)) (hts _ lwE_ir)
  have hty : ∀ (k : Nat) (q : ClassId × FieldType), (zTys (fun t => match t with
      | 1 => k1
      | 2 => k2
      | 3 => k3
      | 4 => k4
      | _ => k5))[k]? = some q → ArrOfT s q.1 q.2 ∧ va_RA s q.1 q.2 := by
    intro k q hq
    match k, hq with
    | 0, hq => cases hq; exact a1
    | 1, hq => cases hq; exact a2
    | 2, hq => cases hq; exact a3
    | 3, hq => cases hq; exact a4
    | 4, hq => cases hq; exact a5
    | k + 5, hq => simp at hq
  refine ⟨fun t => match t with
      | 1 => k1
      | 2 => k2
      | 3 => k3
      | 4 => k4
      | _ => k5, (fun k => match k with
      | 0 => c0
      | 1 => c1
      | 2 => c2
      | 3 => c3
      | 4 => c4
      | 5 => c5
      | 6 => c6
      | 7 => c7
      | 8 => c8
      | 9 => c9
      | _ => c10, fun k => match k with
      | 0 => i0
      | 1 => i1
      | 2 => i2
      | 3 => i3
      | 4 => i4
      | 5 => i5
      | 6 => i6
      | 7 => i7
      | 8 => i8
      | 9 => i9
      | 100 => adK
      | 101 => adV
      | _ => i10), (fun _ => r0, fun _ => j0), ⟨fun k q hq => ?_, hty⟩, ⟨fun k q hq => ?_, hty⟩, ⟨hS, fun i hi => vk_R.of (A := args) (hts _ (lwS i hi)) (hE i hi), va_Zof (hts _ lwE_sc) (hts _ lwE_js) (va_eqt (hf _ lw_f7)) hA, va_Zqof (hts _ lwE_sp) (hts _ lwE_jp) (hf _ lw_f8) hA⟩, fun q hq => va_Nw.of rfl (hts _ (lwN q hq))⟩
  · match k, hq with
    | 0, hq => cases hq; exact u0
    | 1, hq => cases hq; exact u1
    | 2, hq => cases hq; exact u2
    | 3, hq => cases hq; exact u3
    | 4, hq => cases hq; exact u4
    | 5, hq => cases hq; exact u5
    | 6, hq => cases hq; exact u6
    | 7, hq => cases hq; exact u7
    | 8, hq => cases hq; exact u8
    | 9, hq => cases hq; exact u9
    | 10, hq => cases hq; exact u10
    | k + 11, hq => simp [ce_cl] at hq
  · match k, hq with
    | 0, hq => cases hq; exact v0
    | k + 1, hq => simp [rf_cl] at hq
