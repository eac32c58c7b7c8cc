/-! CONSTRUCTORS of the class (printed by wip/gen/ctor.py) -/
def cw_V (ca : Nat → ClassId) (x : Nat) (g : Nat → Nat) (b : Nat) (m : Int32) : va_W := [(x, .inr (10, [.int (if nI b < m then m else nI b), .ref (g 1), .ref (g 2)])), (g 1, .inl (ca 2, b, .inl (fun _ => 0))), (g 2, .inl (ca 5, b, .inr (.inl (fun _ => 0))))]
set_option maxRecDepth 20000 in
set_option maxHeartbeats 4000000 in
theorem cc_V (l : Launch) (ca : Nat → ClassId) (D : va_G) (x b : Nat) (m : Int32) (hb : b < 20000) : bMet l (zCk ca D) ceY_V_init (.code ceY_V_init prog_11_method_1_code 3 none) 1 2 (2 * b) [.ref x, .int (nI b), .int m] [(x, .inr (10, [.int 0, .null, .null]))] (fun g => cw_V ca x g b m) := by
  have hb31 : b < 2 ^ 31 := by omega
  refine bMet.of (by decide +kernel) rfl (Nat.le_of_ble_eq_true rfl) fun κ A hl => ?_
  subst hl
  refine b_aload (pc' := 1) (k := 0) (i := 0) 0 rfl rfl ⟨by decide +kernel, rfl⟩ ?_
  refine b_oinit (pc' := 4) (idx := 3) (cek_w0 0 rfl) (cek_w0 1 rfl) (cek_w0 2 rfl) (Nat.le_of_ble_eq_true rfl) ⟨by decide +kernel, rfl⟩ ?_
  refine b_aload (pc' := 5) (k := 0) (i := 0) 0 rfl rfl ⟨by decide +kernel, rfl⟩ ?_
  refine b_iload_n (pc' := 6) (k := 1) (i := 1) 1 rfl rfl ⟨by decide +kernel, rfl⟩ ?_
  refine b_iload_n (pc' := 7) (k := 2) (i := 2) 2 rfl rfl ⟨by decide +kernel, rfl⟩ ?_
  refine b_max (pc' := 10) (idx := 9) (cek_w0 3 rfl) (cek_w0 4 rfl) (cek_w0 5 rfl) (cek_w0 6 rfl) (Nat.le_refl 1) (Nat.zero_le _) (Nat.zero_le _) ⟨by decide +kernel, rfl⟩ (Nat.le_of_ble_eq_true rfl) ?_
  refine b_put (pc' := 13) (idx := 15) (ci := 10) (N := 3) (j := 0) (f := true) (ty := .int) 0 ⟨ce_RV, ce_TV, ce_tyV, rfl, cek_zV, (Nat.le_of_ble_eq_true rfl), (cek_w0 7 rfl), rfl, rfl, rfl⟩ rfl rfl rfl rfl ⟨by decide +kernel, rfl⟩ ?_
  simp only [List.cons_append, List.nil_append, List.set_cons_zero, List.set_cons_succ]
  refine b_aload (pc' := 14) (k := 0) (i := 0) 0 rfl rfl ⟨by decide +kernel, rfl⟩ ?_
  refine b_iload_n (pc' := 15) (k := 1) (i := 1) 1 rfl rfl ⟨by decide +kernel, rfl⟩ ?_
  refine b_newa (pc' := 17) (atype := .byte) (ty := .byte) (t := 2) (N := b) (a0 := (b, .inl (fun _ => 0))) (cek_w0 8 rfl) rfl ⟨1, by decide, rfl⟩ (fun _ => rfl) (nI_pos hb31) (nI_clamp hb31) (by show b * 1 ≤ 536870912; omega) (Nat.le_of_ble_eq_true rfl) (by omega) (Or.inr (Or.inl rfl)) ⟨by decide +kernel, rfl⟩ (fun q1 => ?_)
  refine b_put (pc' := 20) (idx := 21) (ci := 10) (N := 3) (j := 1) (f := false) (ty := .array .byte) 0 ⟨ce_RV, ce_TV, ce_tyV, rfl, cek_zV, (Nat.le_of_ble_eq_true rfl), (cek_w0 9 rfl), rfl, rfl, rfl⟩ rfl rfl rfl rfl ⟨by decide +kernel, rfl⟩ ?_
  simp only [List.cons_append, List.nil_append, List.set_cons_zero, List.set_cons_succ]
  refine b_aload (pc' := 21) (k := 0) (i := 0) 0 rfl rfl ⟨by decide +kernel, rfl⟩ ?_
  refine b_iload_n (pc' := 22) (k := 1) (i := 1) 1 rfl rfl ⟨by decide +kernel, rfl⟩ ?_
  refine b_newa (pc' := 24) (atype := .long) (ty := .long) (t := 5) (N := b) (a0 := (b, .inr (.inl (fun _ => 0)))) (cek_w0 10 rfl) rfl ⟨4, by decide, rfl⟩ (fun _ => rfl) (nI_pos hb31) (nI_clamp hb31) (by show b * 8 ≤ 536870912; omega) (Nat.le_of_ble_eq_true rfl) (by omega) (Or.inr (Or.inr (Or.inr (Or.inr rfl)))) ⟨by decide +kernel, rfl⟩ (fun q2 => ?_)
  refine b_put (pc' := 27) (idx := 25) (ci := 10) (N := 3) (j := 2) (f := false) (ty := .array .long) 0 ⟨ce_RV, ce_TV, ce_tyV, rfl, cek_zV, (Nat.le_of_ble_eq_true rfl), (cek_w0 11 rfl), rfl, rfl, rfl⟩ rfl rfl rfl rfl ⟨by decide +kernel, rfl⟩ ?_
  simp only [List.cons_append, List.nil_append, List.set_cons_zero, List.set_cons_succ]
  exact b_end (pc' := 28) (bGs [q1, q2]) (by simp only [cw_V, List.cons_append, List.nil_append]; rfl) rfl (by omega) ⟨by decide +kernel, rfl⟩
def cw_S (ca : Nat → ClassId) (x : Nat) (g : Nat → Nat) : va_W := [(x, .inr (6, [.ref (g 1), .ref (g 2), .ref (g 3), .ref (g 4), .ref (g 5), .ref (g 6), .ref (g 7), .ref (g 8), .int 0])), (g 1, .inl (ca 1, 201, .inl (fun _ => 0))), (g 2, .inl (ca 1, 32, .inl (fun _ => 0))), (g 3, .inl (ca 1, 32, .inl (fun _ => 0))), (g 4, .inl (ca 1, 32, .inl (fun _ => 0))), (g 5, .inl (ca 1, 32, .inl (fun _ => 0))), (g 6, .inl (ca 5, 32, .inr (.inl (fun _ => 0)))), (g 7, .inl (ca 1, 32, .inl (fun _ => 0))), (g 8, .inl (ca 1, 32, .inl (fun _ => 0)))]
set_option maxRecDepth 20000 in
set_option maxHeartbeats 4000000 in
theorem cc_S (l : Launch) (ca : Nat → ClassId) (D : va_G) (x : Nat) : bMet l (zCk ca D) ceY_S_init (.code ceY_S_init prog_9_method_1_code 1 none) 1 8 425 [.ref x] [(x, .inr (6, [.null, .null, .null, .null, .null, .null, .null, .null, .int 0]))] (fun g => cw_S ca x g) := by
  refine bMet.of (by decide +kernel) rfl (Nat.le_of_ble_eq_true rfl) fun κ A hl => ?_
  subst hl
  refine b_aload (pc' := 1) (k := 0) (i := 0) 0 rfl rfl ⟨by decide +kernel, rfl⟩ ?_
  refine b_oinit (pc' := 4) (idx := 3) (cek_w0 12 rfl) (cek_w0 1 rfl) (cek_w0 2 rfl) (Nat.le_of_ble_eq_true rfl) ⟨by decide +kernel, rfl⟩ ?_
  refine b_aload (pc' := 5) (k := 0) (i := 0) 0 rfl rfl ⟨by decide +kernel, rfl⟩ ?_
  refine b_sipush (pc' := 8) (n := 201) (v := 201) (by decide) ⟨by decide +kernel, rfl⟩ ?_
  refine b_newa (pc' := 10) (atype := .int) (ty := .int) (t := 1) (N := 201) (a0 := (201, .inl (fun _ => 0))) (cek_w0 13 rfl) rfl ⟨0, by decide, rfl⟩ (fun _ => rfl) (by decide) (by decide) (Nat.le_of_ble_eq_true rfl) (Nat.le_of_ble_eq_true rfl) (Nat.le_of_ble_eq_true rfl) (Or.inl rfl) ⟨by decide +kernel, rfl⟩ (fun q1 => ?_)
  refine b_put (pc' := 13) (idx := 9) (ci := 6) (N := 9) (j := 0) (f := true) (ty := .array .int) 0 ⟨ce_RS, ce_TS, ce_tyS, rfl, cek_zS, (Nat.le_of_ble_eq_true rfl), (cek_w0 14 rfl), rfl, rfl, rfl⟩ rfl rfl rfl rfl ⟨by decide +kernel, rfl⟩ ?_
  simp only [List.cons_append, List.nil_append, List.set_cons_zero, List.set_cons_succ]
  refine b_aload (pc' := 14) (k := 0) (i := 0) 0 rfl rfl ⟨by decide +kernel, rfl⟩ ?_
  refine b_bipush (pc' := 16) (n := 32) (v := 32) (by decide) ⟨by decide +kernel, rfl⟩ ?_
  refine b_newa (pc' := 18) (atype := .int) (ty := .int) (t := 1) (N := 32) (a0 := (32, .inl (fun _ => 0))) (cek_w0 13 rfl) rfl ⟨0, by decide, rfl⟩ (fun _ => rfl) (by decide) (by decide) (Nat.le_of_ble_eq_true rfl) (Nat.le_of_ble_eq_true rfl) (Nat.le_of_ble_eq_true rfl) (Or.inl rfl) ⟨by decide +kernel, rfl⟩ (fun q2 => ?_)
  refine b_put (pc' := 21) (idx := 15) (ci := 6) (N := 9) (j := 1) (f := false) (ty := .array .int) 0 ⟨ce_RS, ce_TS, ce_tyS, rfl, cek_zS, (Nat.le_of_ble_eq_true rfl), (cek_w0 15 rfl), rfl, rfl, rfl⟩ rfl rfl rfl rfl ⟨by decide +kernel, rfl⟩ ?_
  simp only [List.cons_append, List.nil_append, List.set_cons_zero, List.set_cons_succ]
  refine b_aload (pc' := 22) (k := 0) (i := 0) 0 rfl rfl ⟨by decide +kernel, rfl⟩ ?_
  refine b_bipush (pc' := 24) (n := 32) (v := 32) (by decide) ⟨by decide +kernel, rfl⟩ ?_
  refine b_newa (pc' := 26) (atype := .int) (ty := .int) (t := 1) (N := 32) (a0 := (32, .inl (fun _ => 0))) (cek_w0 13 rfl) rfl ⟨0, by decide, rfl⟩ (fun _ => rfl) (by decide) (by decide) (Nat.le_of_ble_eq_true rfl) (Nat.le_of_ble_eq_true rfl) (Nat.le_of_ble_eq_true rfl) (Or.inl rfl) ⟨by decide +kernel, rfl⟩ (fun q3 => ?_)
  refine b_put (pc' := 29) (idx := 18) (ci := 6) (N := 9) (j := 2) (f := false) (ty := .array .int) 0 ⟨ce_RS, ce_TS, ce_tyS, rfl, cek_zS, (Nat.le_of_ble_eq_true rfl), (cek_w0 16 rfl), rfl, rfl, rfl⟩ rfl rfl rfl rfl ⟨by decide +kernel, rfl⟩ ?_
  simp only [List.cons_append, List.nil_append, List.set_cons_zero, List.set_cons_succ]
  refine b_aload (pc' := 30) (k := 0) (i := 0) 0 rfl rfl ⟨by decide +kernel, rfl⟩ ?_
  refine b_bipush (pc' := 32) (n := 32) (v := 32) (by decide) ⟨by decide +kernel, rfl⟩ ?_
  refine b_newa (pc' := 34) (atype := .int) (ty := .int) (t := 1) (N := 32) (a0 := (32, .inl (fun _ => 0))) (cek_w0 13 rfl) rfl ⟨0, by decide, rfl⟩ (fun _ => rfl) (by decide) (by decide) (Nat.le_of_ble_eq_true rfl) (Nat.le_of_ble_eq_true rfl) (Nat.le_of_ble_eq_true rfl) (Or.inl rfl) ⟨by decide +kernel, rfl⟩ (fun q4 => ?_)
  refine b_put (pc' := 37) (idx := 21) (ci := 6) (N := 9) (j := 3) (f := false) (ty := .array .int) 0 ⟨ce_RS, ce_TS, ce_tyS, rfl, cek_zS, (Nat.le_of_ble_eq_true rfl), (cek_w0 17 rfl), rfl, rfl, rfl⟩ rfl rfl rfl rfl ⟨by decide +kernel, rfl⟩ ?_
  simp only [List.cons_append, List.nil_append, List.set_cons_zero, List.set_cons_succ]
  refine b_aload (pc' := 38) (k := 0) (i := 0) 0 rfl rfl ⟨by decide +kernel, rfl⟩ ?_
  refine b_bipush (pc' := 40) (n := 32) (v := 32) (by decide) ⟨by decide +kernel, rfl⟩ ?_
  refine b_newa (pc' := 42) (atype := .int) (ty := .int) (t := 1) (N := 32) (a0 := (32, .inl (fun _ => 0))) (cek_w0 13 rfl) rfl ⟨0, by decide, rfl⟩ (fun _ => rfl) (by decide) (by decide) (Nat.le_of_ble_eq_true rfl) (Nat.le_of_ble_eq_true rfl) (Nat.le_of_ble_eq_true rfl) (Or.inl rfl) ⟨by decide +kernel, rfl⟩ (fun q5 => ?_)
  refine b_put (pc' := 45) (idx := 24) (ci := 6) (N := 9) (j := 4) (f := false) (ty := .array .int) 0 ⟨ce_RS, ce_TS, ce_tyS, rfl, cek_zS, (Nat.le_of_ble_eq_true rfl), (cek_w0 18 rfl), rfl, rfl, rfl⟩ rfl rfl rfl rfl ⟨by decide +kernel, rfl⟩ ?_
  simp only [List.cons_append, List.nil_append, List.set_cons_zero, List.set_cons_succ]
  refine b_aload (pc' := 46) (k := 0) (i := 0) 0 rfl rfl ⟨by decide +kernel, rfl⟩ ?_
  refine b_bipush (pc' := 48) (n := 32) (v := 32) (by decide) ⟨by decide +kernel, rfl⟩ ?_
  refine b_newa (pc' := 50) (atype := .long) (ty := .long) (t := 5) (N := 32) (a0 := (32, .inr (.inl (fun _ => 0)))) (cek_w0 10 rfl) rfl ⟨4, by decide, rfl⟩ (fun _ => rfl) (by decide) (by decide) (Nat.le_of_ble_eq_true rfl) (Nat.le_of_ble_eq_true rfl) (Nat.le_of_ble_eq_true rfl) (Or.inr (Or.inr (Or.inr (Or.inr rfl)))) ⟨by decide +kernel, rfl⟩ (fun q6 => ?_)
  refine b_put (pc' := 53) (idx := 27) (ci := 6) (N := 9) (j := 5) (f := false) (ty := .array .long) 0 ⟨ce_RS, ce_TS, ce_tyS, rfl, cek_zS, (Nat.le_of_ble_eq_true rfl), (cek_w0 19 rfl), rfl, rfl, rfl⟩ rfl rfl rfl rfl ⟨by decide +kernel, rfl⟩ ?_
  simp only [List.cons_append, List.nil_append, List.set_cons_zero, List.set_cons_succ]
  refine b_aload (pc' := 54) (k := 0) (i := 0) 0 rfl rfl ⟨by decide +kernel, rfl⟩ ?_
  refine b_bipush (pc' := 56) (n := 32) (v := 32) (by decide) ⟨by decide +kernel, rfl⟩ ?_
  refine b_newa (pc' := 58) (atype := .int) (ty := .int) (t := 1) (N := 32) (a0 := (32, .inl (fun _ => 0))) (cek_w0 13 rfl) rfl ⟨0, by decide, rfl⟩ (fun _ => rfl) (by decide) (by decide) (Nat.le_of_ble_eq_true rfl) (Nat.le_of_ble_eq_true rfl) (Nat.le_of_ble_eq_true rfl) (Or.inl rfl) ⟨by decide +kernel, rfl⟩ (fun q7 => ?_)
  refine b_put (pc' := 61) (idx := 31) (ci := 6) (N := 9) (j := 6) (f := false) (ty := .array .int) 0 ⟨ce_RS, ce_TS, ce_tyS, rfl, cek_zS, (Nat.le_of_ble_eq_true rfl), (cek_w0 20 rfl), rfl, rfl, rfl⟩ rfl rfl rfl rfl ⟨by decide +kernel, rfl⟩ ?_
  simp only [List.cons_append, List.nil_append, List.set_cons_zero, List.set_cons_succ]
  refine b_aload (pc' := 62) (k := 0) (i := 0) 0 rfl rfl ⟨by decide +kernel, rfl⟩ ?_
  refine b_bipush (pc' := 64) (n := 32) (v := 32) (by decide) ⟨by decide +kernel, rfl⟩ ?_
  refine b_newa (pc' := 66) (atype := .int) (ty := .int) (t := 1) (N := 32) (a0 := (32, .inl (fun _ => 0))) (cek_w0 13 rfl) rfl ⟨0, by decide, rfl⟩ (fun _ => rfl) (by decide) (by decide) (Nat.le_of_ble_eq_true rfl) (Nat.le_of_ble_eq_true rfl) (Nat.le_of_ble_eq_true rfl) (Or.inl rfl) ⟨by decide +kernel, rfl⟩ (fun q8 => ?_)
  refine b_put (pc' := 69) (idx := 34) (ci := 6) (N := 9) (j := 7) (f := false) (ty := .array .int) 0 ⟨ce_RS, ce_TS, ce_tyS, rfl, cek_zS, (Nat.le_of_ble_eq_true rfl), (cek_w0 21 rfl), rfl, rfl, rfl⟩ rfl rfl rfl rfl ⟨by decide +kernel, rfl⟩ ?_
  simp only [List.cons_append, List.nil_append, List.set_cons_zero, List.set_cons_succ]
  exact b_end (pc' := 70) (bGs [q1, q2, q3, q4, q5, q6, q7, q8]) (by simp only [cw_S, List.cons_append, List.nil_append]; rfl) rfl rfl ⟨by decide +kernel, rfl⟩
def cw_T (ca : Nat → ClassId) (x : Nat) (g : Nat → Nat) : va_W := [(x, .inr (8, [.ref (g 1), .ref (g 2), .ref (g 3), .ref (g 4), .ref (g 5), .ref (g 6), .ref (g 7), .ref (g 8), .ref (g 9), .int 0, .int 0, .int 0])), (g 1, .inl (ca 1, 80, .inl (fun _ => 0))), (g 2, .inl (ca 1, 80, .inl (fun _ => 0))), (g 3, .inl (ca 1, 80, .inl (fun _ => 0))), (g 4, .inl (ca 1, 80, .inl (fun _ => 0))), (g 5, .inl (ca 1, 80, .inl (fun _ => 0))), (g 6, .inl (ca 1, 320, .inl (fun _ => 0))), (g 7, .inl (ca 1, 320, .inl (fun _ => 0))), (g 8, .inl (ca 1, 320, .inl (fun _ => 0))), (g 9, .inl (ca 1, 80, .inl (fun _ => 0)))]
set_option maxRecDepth 20000 in
set_option maxHeartbeats 4000000 in
theorem cc_T (l : Launch) (ca : Nat → ClassId) (D : va_G) (x : Nat) : bMet l (zCk ca D) ceY_T_init (.code ceY_T_init prog_10_method_1_code 1 none) 1 9 1440 [.ref x] [(x, .inr (8, [.null, .null, .null, .null, .null, .null, .null, .null, .null, .int 0, .int 0, .int 0]))] (fun g => cw_T ca x g) := by
  refine bMet.of (by decide +kernel) rfl (Nat.le_of_ble_eq_true rfl) fun κ A hl => ?_
  subst hl
  refine b_aload (pc' := 1) (k := 0) (i := 0) 0 rfl rfl ⟨by decide +kernel, rfl⟩ ?_
  refine b_oinit (pc' := 4) (idx := 3) (cek_w0 22 rfl) (cek_w0 1 rfl) (cek_w0 2 rfl) (Nat.le_of_ble_eq_true rfl) ⟨by decide +kernel, rfl⟩ ?_
  refine b_aload (pc' := 5) (k := 0) (i := 0) 0 rfl rfl ⟨by decide +kernel, rfl⟩ ?_
  refine b_bipush (pc' := 7) (n := 80) (v := 80) (by decide) ⟨by decide +kernel, rfl⟩ ?_
  refine b_newa (pc' := 9) (atype := .int) (ty := .int) (t := 1) (N := 80) (a0 := (80, .inl (fun _ => 0))) (cek_w0 13 rfl) rfl ⟨0, by decide, rfl⟩ (fun _ => rfl) (by decide) (by decide) (Nat.le_of_ble_eq_true rfl) (Nat.le_of_ble_eq_true rfl) (Nat.le_of_ble_eq_true rfl) (Or.inl rfl) ⟨by decide +kernel, rfl⟩ (fun q1 => ?_)
  refine b_put (pc' := 12) (idx := 9) (ci := 8) (N := 12) (j := 0) (f := true) (ty := .array .int) 0 ⟨ce_RT, ce_TT, ce_tyT, rfl, cek_zT, (Nat.le_of_ble_eq_true rfl), (cek_w0 23 rfl), rfl, rfl, rfl⟩ rfl rfl rfl rfl ⟨by decide +kernel, rfl⟩ ?_
  simp only [List.cons_append, List.nil_append, List.set_cons_zero, List.set_cons_succ]
  refine b_aload (pc' := 13) (k := 0) (i := 0) 0 rfl rfl ⟨by decide +kernel, rfl⟩ ?_
  refine b_bipush (pc' := 15) (n := 80) (v := 80) (by decide) ⟨by decide +kernel, rfl⟩ ?_
  refine b_newa (pc' := 17) (atype := .int) (ty := .int) (t := 1) (N := 80) (a0 := (80, .inl (fun _ => 0))) (cek_w0 13 rfl) rfl ⟨0, by decide, rfl⟩ (fun _ => rfl) (by decide) (by decide) (Nat.le_of_ble_eq_true rfl) (Nat.le_of_ble_eq_true rfl) (Nat.le_of_ble_eq_true rfl) (Or.inl rfl) ⟨by decide +kernel, rfl⟩ (fun q2 => ?_)
  refine b_put (pc' := 20) (idx := 15) (ci := 8) (N := 12) (j := 1) (f := true) (ty := .array .int) 0 ⟨ce_RT, ce_TT, ce_tyT, rfl, cek_zT, (Nat.le_of_ble_eq_true rfl), (cek_w0 24 rfl), rfl, rfl, rfl⟩ rfl rfl rfl rfl ⟨by decide +kernel, rfl⟩ ?_
  simp only [List.cons_append, List.nil_append, List.set_cons_zero, List.set_cons_succ]
  refine b_aload (pc' := 21) (k := 0) (i := 0) 0 rfl rfl ⟨by decide +kernel, rfl⟩ ?_
  refine b_bipush (pc' := 23) (n := 80) (v := 80) (by decide) ⟨by decide +kernel, rfl⟩ ?_
  refine b_newa (pc' := 25) (atype := .int) (ty := .int) (t := 1) (N := 80) (a0 := (80, .inl (fun _ => 0))) (cek_w0 13 rfl) rfl ⟨0, by decide, rfl⟩ (fun _ => rfl) (by decide) (by decide) (Nat.le_of_ble_eq_true rfl) (Nat.le_of_ble_eq_true rfl) (Nat.le_of_ble_eq_true rfl) (Or.inl rfl) ⟨by decide +kernel, rfl⟩ (fun q3 => ?_)
  refine b_put (pc' := 28) (idx := 18) (ci := 8) (N := 12) (j := 2) (f := true) (ty := .array .int) 0 ⟨ce_RT, ce_TT, ce_tyT, rfl, cek_zT, (Nat.le_of_ble_eq_true rfl), (cek_w0 25 rfl), rfl, rfl, rfl⟩ rfl rfl rfl rfl ⟨by decide +kernel, rfl⟩ ?_
  simp only [List.cons_append, List.nil_append, List.set_cons_zero, List.set_cons_succ]
  refine b_aload (pc' := 29) (k := 0) (i := 0) 0 rfl rfl ⟨by decide +kernel, rfl⟩ ?_
  refine b_bipush (pc' := 31) (n := 80) (v := 80) (by decide) ⟨by decide +kernel, rfl⟩ ?_
  refine b_newa (pc' := 33) (atype := .int) (ty := .int) (t := 1) (N := 80) (a0 := (80, .inl (fun _ => 0))) (cek_w0 13 rfl) rfl ⟨0, by decide, rfl⟩ (fun _ => rfl) (by decide) (by decide) (Nat.le_of_ble_eq_true rfl) (Nat.le_of_ble_eq_true rfl) (Nat.le_of_ble_eq_true rfl) (Or.inl rfl) ⟨by decide +kernel, rfl⟩ (fun q4 => ?_)
  refine b_put (pc' := 36) (idx := 21) (ci := 8) (N := 12) (j := 3) (f := true) (ty := .array .int) 0 ⟨ce_RT, ce_TT, ce_tyT, rfl, cek_zT, (Nat.le_of_ble_eq_true rfl), (cek_w0 26 rfl), rfl, rfl, rfl⟩ rfl rfl rfl rfl ⟨by decide +kernel, rfl⟩ ?_
  simp only [List.cons_append, List.nil_append, List.set_cons_zero, List.set_cons_succ]
  refine b_aload (pc' := 37) (k := 0) (i := 0) 0 rfl rfl ⟨by decide +kernel, rfl⟩ ?_
  refine b_bipush (pc' := 39) (n := 80) (v := 80) (by decide) ⟨by decide +kernel, rfl⟩ ?_
  refine b_newa (pc' := 41) (atype := .int) (ty := .int) (t := 1) (N := 80) (a0 := (80, .inl (fun _ => 0))) (cek_w0 13 rfl) rfl ⟨0, by decide, rfl⟩ (fun _ => rfl) (by decide) (by decide) (Nat.le_of_ble_eq_true rfl) (Nat.le_of_ble_eq_true rfl) (Nat.le_of_ble_eq_true rfl) (Or.inl rfl) ⟨by decide +kernel, rfl⟩ (fun q5 => ?_)
  refine b_put (pc' := 44) (idx := 24) (ci := 8) (N := 12) (j := 4) (f := true) (ty := .array .int) 0 ⟨ce_RT, ce_TT, ce_tyT, rfl, cek_zT, (Nat.le_of_ble_eq_true rfl), (cek_w0 27 rfl), rfl, rfl, rfl⟩ rfl rfl rfl rfl ⟨by decide +kernel, rfl⟩ ?_
  simp only [List.cons_append, List.nil_append, List.set_cons_zero, List.set_cons_succ]
  refine b_aload (pc' := 45) (k := 0) (i := 0) 0 rfl rfl ⟨by decide +kernel, rfl⟩ ?_
  refine b_sipush (pc' := 48) (n := 320) (v := 320) (by decide) ⟨by decide +kernel, rfl⟩ ?_
  refine b_newa (pc' := 50) (atype := .int) (ty := .int) (t := 1) (N := 320) (a0 := (320, .inl (fun _ => 0))) (cek_w0 13 rfl) rfl ⟨0, by decide, rfl⟩ (fun _ => rfl) (by decide) (by decide) (Nat.le_of_ble_eq_true rfl) (Nat.le_of_ble_eq_true rfl) (Nat.le_of_ble_eq_true rfl) (Or.inl rfl) ⟨by decide +kernel, rfl⟩ (fun q6 => ?_)
  refine b_put (pc' := 53) (idx := 27) (ci := 8) (N := 12) (j := 5) (f := true) (ty := .array .int) 0 ⟨ce_RT, ce_TT, ce_tyT, rfl, cek_zT, (Nat.le_of_ble_eq_true rfl), (cek_w0 28 rfl), rfl, rfl, rfl⟩ rfl rfl rfl rfl ⟨by decide +kernel, rfl⟩ ?_
  simp only [List.cons_append, List.nil_append, List.set_cons_zero, List.set_cons_succ]
  refine b_aload (pc' := 54) (k := 0) (i := 0) 0 rfl rfl ⟨by decide +kernel, rfl⟩ ?_
  refine b_sipush (pc' := 57) (n := 320) (v := 320) (by decide) ⟨by decide +kernel, rfl⟩ ?_
  refine b_newa (pc' := 59) (atype := .int) (ty := .int) (t := 1) (N := 320) (a0 := (320, .inl (fun _ => 0))) (cek_w0 13 rfl) rfl ⟨0, by decide, rfl⟩ (fun _ => rfl) (by decide) (by decide) (Nat.le_of_ble_eq_true rfl) (Nat.le_of_ble_eq_true rfl) (Nat.le_of_ble_eq_true rfl) (Or.inl rfl) ⟨by decide +kernel, rfl⟩ (fun q7 => ?_)
  refine b_put (pc' := 62) (idx := 30) (ci := 8) (N := 12) (j := 6) (f := true) (ty := .array .int) 0 ⟨ce_RT, ce_TT, ce_tyT, rfl, cek_zT, (Nat.le_of_ble_eq_true rfl), (cek_w0 29 rfl), rfl, rfl, rfl⟩ rfl rfl rfl rfl ⟨by decide +kernel, rfl⟩ ?_
  simp only [List.cons_append, List.nil_append, List.set_cons_zero, List.set_cons_succ]
  refine b_aload (pc' := 63) (k := 0) (i := 0) 0 rfl rfl ⟨by decide +kernel, rfl⟩ ?_
  refine b_sipush (pc' := 66) (n := 320) (v := 320) (by decide) ⟨by decide +kernel, rfl⟩ ?_
  refine b_newa (pc' := 68) (atype := .int) (ty := .int) (t := 1) (N := 320) (a0 := (320, .inl (fun _ => 0))) (cek_w0 13 rfl) rfl ⟨0, by decide, rfl⟩ (fun _ => rfl) (by decide) (by decide) (Nat.le_of_ble_eq_true rfl) (Nat.le_of_ble_eq_true rfl) (Nat.le_of_ble_eq_true rfl) (Or.inl rfl) ⟨by decide +kernel, rfl⟩ (fun q8 => ?_)
  refine b_put (pc' := 71) (idx := 33) (ci := 8) (N := 12) (j := 7) (f := true) (ty := .array .int) 0 ⟨ce_RT, ce_TT, ce_tyT, rfl, cek_zT, (Nat.le_of_ble_eq_true rfl), (cek_w0 30 rfl), rfl, rfl, rfl⟩ rfl rfl rfl rfl ⟨by decide +kernel, rfl⟩ ?_
  simp only [List.cons_append, List.nil_append, List.set_cons_zero, List.set_cons_succ]
  refine b_aload (pc' := 72) (k := 0) (i := 0) 0 rfl rfl ⟨by decide +kernel, rfl⟩ ?_
  refine b_bipush (pc' := 74) (n := 80) (v := 80) (by decide) ⟨by decide +kernel, rfl⟩ ?_
  refine b_newa (pc' := 76) (atype := .int) (ty := .int) (t := 1) (N := 80) (a0 := (80, .inl (fun _ => 0))) (cek_w0 13 rfl) rfl ⟨0, by decide, rfl⟩ (fun _ => rfl) (by decide) (by decide) (Nat.le_of_ble_eq_true rfl) (Nat.le_of_ble_eq_true rfl) (Nat.le_of_ble_eq_true rfl) (Or.inl rfl) ⟨by decide +kernel, rfl⟩ (fun q9 => ?_)
  refine b_put (pc' := 79) (idx := 36) (ci := 8) (N := 12) (j := 8) (f := true) (ty := .array .int) 0 ⟨ce_RT, ce_TT, ce_tyT, rfl, cek_zT, (Nat.le_of_ble_eq_true rfl), (cek_w0 31 rfl), rfl, rfl, rfl⟩ rfl rfl rfl rfl ⟨by decide +kernel, rfl⟩ ?_
  simp only [List.cons_append, List.nil_append, List.set_cons_zero, List.set_cons_succ]
  exact b_end (pc' := 80) (bGs [q1, q2, q3, q4, q5, q6, q7, q8, q9]) (by simp only [cw_T, List.cons_append, List.nil_append]; rfl) rfl rfl ⟨by decide +kernel, rfl⟩
def cw_F (ca : Nat → ClassId) (x : Nat) (g : Nat → Nat) : va_W := [(x, .inr (9, [.ref (g 1), .ref (g 2), .ref (g 3), .ref (g 4), .ref (g 5), .ref (g 6), .int 0, .int 0])), (g 1, .inl (ca 1, 8, .inl (fun _ => 0))), (g 2, .inl (ca 1, 8, .inl (fun _ => 0))), (g 3, .inl (ca 1, 8, .inl (fun _ => 0))), (g 4, .inl (ca 1, 8, .inl (fun _ => 0))), (g 5, .inl (ca 1, 8, .inl (fun _ => 0))), (g 6, .inl (ca 1, 8, .inl (fun _ => 0)))]
set_option maxRecDepth 20000 in
set_option maxHeartbeats 4000000 in
theorem cc_F (l : Launch) (ca : Nat → ClassId) (D : va_G) (x : Nat) : bMet l (zCk ca D) ceY_F_init (.code ceY_F_init prog_3_method_1_code 1 none) 1 6 48 [.ref x] [(x, .inr (9, [.null, .null, .null, .null, .null, .null, .int 0, .int 0]))] (fun g => cw_F ca x g) := by
  refine bMet.of (by decide +kernel) rfl (Nat.le_of_ble_eq_true rfl) fun κ A hl => ?_
  subst hl
  refine b_aload (pc' := 1) (k := 0) (i := 0) 0 rfl rfl ⟨by decide +kernel, rfl⟩ ?_
  refine b_oinit (pc' := 4) (idx := 3) (cek_w0 32 rfl) (cek_w0 1 rfl) (cek_w0 2 rfl) (Nat.le_of_ble_eq_true rfl) ⟨by decide +kernel, rfl⟩ ?_
  refine b_aload (pc' := 5) (k := 0) (i := 0) 0 rfl rfl ⟨by decide +kernel, rfl⟩ ?_
  refine b_bipush (pc' := 7) (n := 8) (v := 8) (by decide) ⟨by decide +kernel, rfl⟩ ?_
  refine b_newa (pc' := 9) (atype := .int) (ty := .int) (t := 1) (N := 8) (a0 := (8, .inl (fun _ => 0))) (cek_w0 13 rfl) rfl ⟨0, by decide, rfl⟩ (fun _ => rfl) (by decide) (by decide) (Nat.le_of_ble_eq_true rfl) (Nat.le_of_ble_eq_true rfl) (Nat.le_of_ble_eq_true rfl) (Or.inl rfl) ⟨by decide +kernel, rfl⟩ (fun q1 => ?_)
  refine b_put (pc' := 12) (idx := 9) (ci := 9) (N := 8) (j := 0) (f := true) (ty := .array .int) 0 ⟨ce_RF, ce_TF, ce_tyF, rfl, cek_zF, (Nat.le_of_ble_eq_true rfl), (cek_w0 33 rfl), rfl, rfl, rfl⟩ rfl rfl rfl rfl ⟨by decide +kernel, rfl⟩ ?_
  simp only [List.cons_append, List.nil_append, List.set_cons_zero, List.set_cons_succ]
  refine b_aload (pc' := 13) (k := 0) (i := 0) 0 rfl rfl ⟨by decide +kernel, rfl⟩ ?_
  refine b_bipush (pc' := 15) (n := 8) (v := 8) (by decide) ⟨by decide +kernel, rfl⟩ ?_
  refine b_newa (pc' := 17) (atype := .int) (ty := .int) (t := 1) (N := 8) (a0 := (8, .inl (fun _ => 0))) (cek_w0 13 rfl) rfl ⟨0, by decide, rfl⟩ (fun _ => rfl) (by decide) (by decide) (Nat.le_of_ble_eq_true rfl) (Nat.le_of_ble_eq_true rfl) (Nat.le_of_ble_eq_true rfl) (Or.inl rfl) ⟨by decide +kernel, rfl⟩ (fun q2 => ?_)
  refine b_put (pc' := 20) (idx := 15) (ci := 9) (N := 8) (j := 1) (f := true) (ty := .array .int) 0 ⟨ce_RF, ce_TF, ce_tyF, rfl, cek_zF, (Nat.le_of_ble_eq_true rfl), (cek_w0 34 rfl), rfl, rfl, rfl⟩ rfl rfl rfl rfl ⟨by decide +kernel, rfl⟩ ?_
  simp only [List.cons_append, List.nil_append, List.set_cons_zero, List.set_cons_succ]
  refine b_aload (pc' := 21) (k := 0) (i := 0) 0 rfl rfl ⟨by decide +kernel, rfl⟩ ?_
  refine b_bipush (pc' := 23) (n := 8) (v := 8) (by decide) ⟨by decide +kernel, rfl⟩ ?_
  refine b_newa (pc' := 25) (atype := .int) (ty := .int) (t := 1) (N := 8) (a0 := (8, .inl (fun _ => 0))) (cek_w0 13 rfl) rfl ⟨0, by decide, rfl⟩ (fun _ => rfl) (by decide) (by decide) (Nat.le_of_ble_eq_true rfl) (Nat.le_of_ble_eq_true rfl) (Nat.le_of_ble_eq_true rfl) (Or.inl rfl) ⟨by decide +kernel, rfl⟩ (fun q3 => ?_)
  refine b_put (pc' := 28) (idx := 18) (ci := 9) (N := 8) (j := 2) (f := true) (ty := .array .int) 0 ⟨ce_RF, ce_TF, ce_tyF, rfl, cek_zF, (Nat.le_of_ble_eq_true rfl), (cek_w0 35 rfl), rfl, rfl, rfl⟩ rfl rfl rfl rfl ⟨by decide +kernel, rfl⟩ ?_
  simp only [List.cons_append, List.nil_append, List.set_cons_zero, List.set_cons_succ]
  refine b_aload (pc' := 29) (k := 0) (i := 0) 0 rfl rfl ⟨by decide +kernel, rfl⟩ ?_
  refine b_bipush (pc' := 31) (n := 8) (v := 8) (by decide) ⟨by decide +kernel, rfl⟩ ?_
  refine b_newa (pc' := 33) (atype := .int) (ty := .int) (t := 1) (N := 8) (a0 := (8, .inl (fun _ => 0))) (cek_w0 13 rfl) rfl ⟨0, by decide, rfl⟩ (fun _ => rfl) (by decide) (by decide) (Nat.le_of_ble_eq_true rfl) (Nat.le_of_ble_eq_true rfl) (Nat.le_of_ble_eq_true rfl) (Or.inl rfl) ⟨by decide +kernel, rfl⟩ (fun q4 => ?_)
  refine b_put (pc' := 36) (idx := 21) (ci := 9) (N := 8) (j := 3) (f := true) (ty := .array .int) 0 ⟨ce_RF, ce_TF, ce_tyF, rfl, cek_zF, (Nat.le_of_ble_eq_true rfl), (cek_w0 36 rfl), rfl, rfl, rfl⟩ rfl rfl rfl rfl ⟨by decide +kernel, rfl⟩ ?_
  simp only [List.cons_append, List.nil_append, List.set_cons_zero, List.set_cons_succ]
  refine b_aload (pc' := 37) (k := 0) (i := 0) 0 rfl rfl ⟨by decide +kernel, rfl⟩ ?_
  refine b_bipush (pc' := 39) (n := 8) (v := 8) (by decide) ⟨by decide +kernel, rfl⟩ ?_
  refine b_newa (pc' := 41) (atype := .int) (ty := .int) (t := 1) (N := 8) (a0 := (8, .inl (fun _ => 0))) (cek_w0 13 rfl) rfl ⟨0, by decide, rfl⟩ (fun _ => rfl) (by decide) (by decide) (Nat.le_of_ble_eq_true rfl) (Nat.le_of_ble_eq_true rfl) (Nat.le_of_ble_eq_true rfl) (Or.inl rfl) ⟨by decide +kernel, rfl⟩ (fun q5 => ?_)
  refine b_put (pc' := 44) (idx := 24) (ci := 9) (N := 8) (j := 4) (f := true) (ty := .array .int) 0 ⟨ce_RF, ce_TF, ce_tyF, rfl, cek_zF, (Nat.le_of_ble_eq_true rfl), (cek_w0 37 rfl), rfl, rfl, rfl⟩ rfl rfl rfl rfl ⟨by decide +kernel, rfl⟩ ?_
  simp only [List.cons_append, List.nil_append, List.set_cons_zero, List.set_cons_succ]
  refine b_aload (pc' := 45) (k := 0) (i := 0) 0 rfl rfl ⟨by decide +kernel, rfl⟩ ?_
  refine b_bipush (pc' := 47) (n := 8) (v := 8) (by decide) ⟨by decide +kernel, rfl⟩ ?_
  refine b_newa (pc' := 49) (atype := .int) (ty := .int) (t := 1) (N := 8) (a0 := (8, .inl (fun _ => 0))) (cek_w0 13 rfl) rfl ⟨0, by decide, rfl⟩ (fun _ => rfl) (by decide) (by decide) (Nat.le_of_ble_eq_true rfl) (Nat.le_of_ble_eq_true rfl) (Nat.le_of_ble_eq_true rfl) (Or.inl rfl) ⟨by decide +kernel, rfl⟩ (fun q6 => ?_)
  refine b_put (pc' := 52) (idx := 27) (ci := 9) (N := 8) (j := 5) (f := true) (ty := .array .int) 0 ⟨ce_RF, ce_TF, ce_tyF, rfl, cek_zF, (Nat.le_of_ble_eq_true rfl), (cek_w0 38 rfl), rfl, rfl, rfl⟩ rfl rfl rfl rfl ⟨by decide +kernel, rfl⟩ ?_
  simp only [List.cons_append, List.nil_append, List.set_cons_zero, List.set_cons_succ]
  exact b_end (pc' := 53) (bGs [q1, q2, q3, q4, q5, q6]) (by simp only [cw_F, List.cons_append, List.nil_append]; rfl) rfl rfl ⟨by decide +kernel, rfl⟩
def cw_P (ca : Nat → ClassId) (x : Nat) (g : Nat → Nat) : va_W := [(x, .inr (3, [.ref (g 1), .ref (g 2), .ref (g 3), .int 0, .ref (g 4), .ref (g 5), .ref (g 6), .ref (g 7), .int 0, .ref (g 8), .ref (g 9), .ref (g 10), .int 0, .int 0, .int 0, .int 0])), (g 1, .inl (ca 2, 2400, .inl (fun _ => 0))), (g 2, .inl (ca 1, 2400, .inl (fun _ => 0))), (g 3, .inl (ca 3, 2400, .inl (fun _ => 0))), (g 4, .inl (ca 1, 80, .inl (fun _ => 0))), (g 5, .inl (ca 1, 80, .inl (fun _ => 0))), (g 6, .inl (ca 1, 80, .inl (fun _ => 0))), (g 7, .inl (ca 5, 80, .inr (.inl (fun _ => 0)))), (g 8, .inl (ca 5, 8, .inr (.inl (fun _ => 0)))), (g 9, .inl (ca 1, 8, .inl (fun _ => 0))), (g 10, .inl (ca 1, 8, .inl (fun _ => 0)))]
set_option maxRecDepth 20000 in
set_option maxHeartbeats 4000000 in
theorem cc_P (l : Launch) (ca : Nat → ClassId) (D : va_G) (x : Nat) : bMet l (zCk ca D) ceY_P_init (.code ceY_P_init prog_7_method_1_code 1 none) 1 10 7544 [.ref x] [(x, .inr (3, [.null, .null, .null, .int 0, .null, .null, .null, .null, .int 0, .null, .null, .null, .int 0, .int 0, .int 0, .int 0]))] (fun g => cw_P ca x g) := by
  refine bMet.of (by decide +kernel) rfl (Nat.le_of_ble_eq_true rfl) fun κ A hl => ?_
  subst hl
  refine b_aload (pc' := 1) (k := 0) (i := 0) 0 rfl rfl ⟨by decide +kernel, rfl⟩ ?_
  refine b_oinit (pc' := 4) (idx := 3) (cek_w0 39 rfl) (cek_w0 1 rfl) (cek_w0 2 rfl) (Nat.le_of_ble_eq_true rfl) ⟨by decide +kernel, rfl⟩ ?_
  refine b_aload (pc' := 5) (k := 0) (i := 0) 0 rfl rfl ⟨by decide +kernel, rfl⟩ ?_
  refine b_sipush (pc' := 8) (n := 2400) (v := 2400) (by decide) ⟨by decide +kernel, rfl⟩ ?_
  refine b_newa (pc' := 10) (atype := .byte) (ty := .byte) (t := 2) (N := 2400) (a0 := (2400, .inl (fun _ => 0))) (cek_w0 8 rfl) rfl ⟨1, by decide, rfl⟩ (fun _ => rfl) (by decide) (by decide) (Nat.le_of_ble_eq_true rfl) (Nat.le_of_ble_eq_true rfl) (Nat.le_of_ble_eq_true rfl) (Or.inr (Or.inl rfl)) ⟨by decide +kernel, rfl⟩ (fun q1 => ?_)
  refine b_put (pc' := 13) (idx := 11) (ci := 3) (N := 16) (j := 0) (f := true) (ty := .array .byte) 0 ⟨ce_RP, ce_TP, ce_tyP, rfl, cek_zP, (Nat.le_of_ble_eq_true rfl), (cek_w1 0 rfl), rfl, rfl, rfl⟩ rfl rfl rfl rfl ⟨by decide +kernel, rfl⟩ ?_
  simp only [List.cons_append, List.nil_append, List.set_cons_zero, List.set_cons_succ]
  refine b_aload (pc' := 14) (k := 0) (i := 0) 0 rfl rfl ⟨by decide +kernel, rfl⟩ ?_
  refine b_sipush (pc' := 17) (n := 2400) (v := 2400) (by decide) ⟨by decide +kernel, rfl⟩ ?_
  refine b_newa (pc' := 19) (atype := .int) (ty := .int) (t := 1) (N := 2400) (a0 := (2400, .inl (fun _ => 0))) (cek_w0 13 rfl) rfl ⟨0, by decide, rfl⟩ (fun _ => rfl) (by decide) (by decide) (Nat.le_of_ble_eq_true rfl) (Nat.le_of_ble_eq_true rfl) (Nat.le_of_ble_eq_true rfl) (Or.inl rfl) ⟨by decide +kernel, rfl⟩ (fun q2 => ?_)
  refine b_put (pc' := 22) (idx := 15) (ci := 3) (N := 16) (j := 1) (f := true) (ty := .array .int) 0 ⟨ce_RP, ce_TP, ce_tyP, rfl, cek_zP, (Nat.le_of_ble_eq_true rfl), (cek_w1 1 rfl), rfl, rfl, rfl⟩ rfl rfl rfl rfl ⟨by decide +kernel, rfl⟩ ?_
  simp only [List.cons_append, List.nil_append, List.set_cons_zero, List.set_cons_succ]
  refine b_aload (pc' := 23) (k := 0) (i := 0) 0 rfl rfl ⟨by decide +kernel, rfl⟩ ?_
  refine b_sipush (pc' := 26) (n := 2400) (v := 2400) (by decide) ⟨by decide +kernel, rfl⟩ ?_
  refine b_newa (pc' := 28) (atype := .short) (ty := .short) (t := 3) (N := 2400) (a0 := (2400, .inl (fun _ => 0))) (cek_w1 2 rfl) rfl ⟨2, by decide, rfl⟩ (fun _ => rfl) (by decide) (by decide) (Nat.le_of_ble_eq_true rfl) (Nat.le_of_ble_eq_true rfl) (Nat.le_of_ble_eq_true rfl) (Or.inr (Or.inr (Or.inl rfl))) ⟨by decide +kernel, rfl⟩ (fun q3 => ?_)
  refine b_put (pc' := 31) (idx := 19) (ci := 3) (N := 16) (j := 2) (f := true) (ty := .array .short) 0 ⟨ce_RP, ce_TP, ce_tyP, rfl, cek_zP, (Nat.le_of_ble_eq_true rfl), (cek_w1 3 rfl), rfl, rfl, rfl⟩ rfl rfl rfl rfl ⟨by decide +kernel, rfl⟩ ?_
  simp only [List.cons_append, List.nil_append, List.set_cons_zero, List.set_cons_succ]
  refine b_aload (pc' := 32) (k := 0) (i := 0) 0 rfl rfl ⟨by decide +kernel, rfl⟩ ?_
  refine b_bipush (pc' := 34) (n := 80) (v := 80) (by decide) ⟨by decide +kernel, rfl⟩ ?_
  refine b_newa (pc' := 36) (atype := .int) (ty := .int) (t := 1) (N := 80) (a0 := (80, .inl (fun _ => 0))) (cek_w0 13 rfl) rfl ⟨0, by decide, rfl⟩ (fun _ => rfl) (by decide) (by decide) (Nat.le_of_ble_eq_true rfl) (Nat.le_of_ble_eq_true rfl) (Nat.le_of_ble_eq_true rfl) (Or.inl rfl) ⟨by decide +kernel, rfl⟩ (fun q4 => ?_)
  refine b_put (pc' := 39) (idx := 23) (ci := 3) (N := 16) (j := 4) (f := true) (ty := .array .int) 0 ⟨ce_RP, ce_TP, ce_tyP, rfl, cek_zP, (Nat.le_of_ble_eq_true rfl), (cek_w1 4 rfl), rfl, rfl, rfl⟩ rfl rfl rfl rfl ⟨by decide +kernel, rfl⟩ ?_
  simp only [List.cons_append, List.nil_append, List.set_cons_zero, List.set_cons_succ]
  refine b_aload (pc' := 40) (k := 0) (i := 0) 0 rfl rfl ⟨by decide +kernel, rfl⟩ ?_
  refine b_bipush (pc' := 42) (n := 80) (v := 80) (by decide) ⟨by decide +kernel, rfl⟩ ?_
  refine b_newa (pc' := 44) (atype := .int) (ty := .int) (t := 1) (N := 80) (a0 := (80, .inl (fun _ => 0))) (cek_w0 13 rfl) rfl ⟨0, by decide, rfl⟩ (fun _ => rfl) (by decide) (by decide) (Nat.le_of_ble_eq_true rfl) (Nat.le_of_ble_eq_true rfl) (Nat.le_of_ble_eq_true rfl) (Or.inl rfl) ⟨by decide +kernel, rfl⟩ (fun q5 => ?_)
  refine b_put (pc' := 47) (idx := 26) (ci := 3) (N := 16) (j := 5) (f := true) (ty := .array .int) 0 ⟨ce_RP, ce_TP, ce_tyP, rfl, cek_zP, (Nat.le_of_ble_eq_true rfl), (cek_w1 5 rfl), rfl, rfl, rfl⟩ rfl rfl rfl rfl ⟨by decide +kernel, rfl⟩ ?_
  simp only [List.cons_append, List.nil_append, List.set_cons_zero, List.set_cons_succ]
  refine b_aload (pc' := 48) (k := 0) (i := 0) 0 rfl rfl ⟨by decide +kernel, rfl⟩ ?_
  refine b_bipush (pc' := 50) (n := 80) (v := 80) (by decide) ⟨by decide +kernel, rfl⟩ ?_
  refine b_newa (pc' := 52) (atype := .int) (ty := .int) (t := 1) (N := 80) (a0 := (80, .inl (fun _ => 0))) (cek_w0 13 rfl) rfl ⟨0, by decide, rfl⟩ (fun _ => rfl) (by decide) (by decide) (Nat.le_of_ble_eq_true rfl) (Nat.le_of_ble_eq_true rfl) (Nat.le_of_ble_eq_true rfl) (Or.inl rfl) ⟨by decide +kernel, rfl⟩ (fun q6 => ?_)
  refine b_put (pc' := 55) (idx := 29) (ci := 3) (N := 16) (j := 6) (f := true) (ty := .array .int) 0 ⟨ce_RP, ce_TP, ce_tyP, rfl, cek_zP, (Nat.le_of_ble_eq_true rfl), (cek_w1 6 rfl), rfl, rfl, rfl⟩ rfl rfl rfl rfl ⟨by decide +kernel, rfl⟩ ?_
  simp only [List.cons_append, List.nil_append, List.set_cons_zero, List.set_cons_succ]
  refine b_aload (pc' := 56) (k := 0) (i := 0) 0 rfl rfl ⟨by decide +kernel, rfl⟩ ?_
  refine b_bipush (pc' := 58) (n := 80) (v := 80) (by decide) ⟨by decide +kernel, rfl⟩ ?_
  refine b_newa (pc' := 60) (atype := .long) (ty := .long) (t := 5) (N := 80) (a0 := (80, .inr (.inl (fun _ => 0)))) (cek_w0 10 rfl) rfl ⟨4, by decide, rfl⟩ (fun _ => rfl) (by decide) (by decide) (Nat.le_of_ble_eq_true rfl) (Nat.le_of_ble_eq_true rfl) (Nat.le_of_ble_eq_true rfl) (Or.inr (Or.inr (Or.inr (Or.inr rfl)))) ⟨by decide +kernel, rfl⟩ (fun q7 => ?_)
  refine b_put (pc' := 63) (idx := 32) (ci := 3) (N := 16) (j := 7) (f := true) (ty := .array .long) 0 ⟨ce_RP, ce_TP, ce_tyP, rfl, cek_zP, (Nat.le_of_ble_eq_true rfl), (cek_w1 7 rfl), rfl, rfl, rfl⟩ rfl rfl rfl rfl ⟨by decide +kernel, rfl⟩ ?_
  simp only [List.cons_append, List.nil_append, List.set_cons_zero, List.set_cons_succ]
  refine b_aload (pc' := 64) (k := 0) (i := 0) 0 rfl rfl ⟨by decide +kernel, rfl⟩ ?_
  refine b_bipush (pc' := 66) (n := 8) (v := 8) (by decide) ⟨by decide +kernel, rfl⟩ ?_
  refine b_newa (pc' := 68) (atype := .long) (ty := .long) (t := 5) (N := 8) (a0 := (8, .inr (.inl (fun _ => 0)))) (cek_w0 10 rfl) rfl ⟨4, by decide, rfl⟩ (fun _ => rfl) (by decide) (by decide) (Nat.le_of_ble_eq_true rfl) (Nat.le_of_ble_eq_true rfl) (Nat.le_of_ble_eq_true rfl) (Or.inr (Or.inr (Or.inr (Or.inr rfl)))) ⟨by decide +kernel, rfl⟩ (fun q8 => ?_)
  refine b_put (pc' := 71) (idx := 36) (ci := 3) (N := 16) (j := 9) (f := true) (ty := .array .long) 0 ⟨ce_RP, ce_TP, ce_tyP, rfl, cek_zP, (Nat.le_of_ble_eq_true rfl), (cek_w1 8 rfl), rfl, rfl, rfl⟩ rfl rfl rfl rfl ⟨by decide +kernel, rfl⟩ ?_
  simp only [List.cons_append, List.nil_append, List.set_cons_zero, List.set_cons_succ]
  refine b_aload (pc' := 72) (k := 0) (i := 0) 0 rfl rfl ⟨by decide +kernel, rfl⟩ ?_
  refine b_bipush (pc' := 74) (n := 8) (v := 8) (by decide) ⟨by decide +kernel, rfl⟩ ?_
  refine b_newa (pc' := 76) (atype := .int) (ty := .int) (t := 1) (N := 8) (a0 := (8, .inl (fun _ => 0))) (cek_w0 13 rfl) rfl ⟨0, by decide, rfl⟩ (fun _ => rfl) (by decide) (by decide) (Nat.le_of_ble_eq_true rfl) (Nat.le_of_ble_eq_true rfl) (Nat.le_of_ble_eq_true rfl) (Or.inl rfl) ⟨by decide +kernel, rfl⟩ (fun q9 => ?_)
  refine b_put (pc' := 79) (idx := 39) (ci := 3) (N := 16) (j := 10) (f := true) (ty := .array .int) 0 ⟨ce_RP, ce_TP, ce_tyP, rfl, cek_zP, (Nat.le_of_ble_eq_true rfl), (cek_w1 9 rfl), rfl, rfl, rfl⟩ rfl rfl rfl rfl ⟨by decide +kernel, rfl⟩ ?_
  simp only [List.cons_append, List.nil_append, List.set_cons_zero, List.set_cons_succ]
  refine b_aload (pc' := 80) (k := 0) (i := 0) 0 rfl rfl ⟨by decide +kernel, rfl⟩ ?_
  refine b_bipush (pc' := 82) (n := 8) (v := 8) (by decide) ⟨by decide +kernel, rfl⟩ ?_
  refine b_newa (pc' := 84) (atype := .int) (ty := .int) (t := 1) (N := 8) (a0 := (8, .inl (fun _ => 0))) (cek_w0 13 rfl) rfl ⟨0, by decide, rfl⟩ (fun _ => rfl) (by decide) (by decide) (Nat.le_of_ble_eq_true rfl) (Nat.le_of_ble_eq_true rfl) (Nat.le_of_ble_eq_true rfl) (Or.inl rfl) ⟨by decide +kernel, rfl⟩ (fun q10 => ?_)
  refine b_put (pc' := 87) (idx := 42) (ci := 3) (N := 16) (j := 11) (f := true) (ty := .array .int) 0 ⟨ce_RP, ce_TP, ce_tyP, rfl, cek_zP, (Nat.le_of_ble_eq_true rfl), (cek_w1 10 rfl), rfl, rfl, rfl⟩ rfl rfl rfl rfl ⟨by decide +kernel, rfl⟩ ?_
  simp only [List.cons_append, List.nil_append, List.set_cons_zero, List.set_cons_succ]
  exact b_end (pc' := 88) (bGs [q1, q2, q3, q4, q5, q6, q7, q8, q9, q10]) (by simp only [cw_P, List.cons_append, List.nil_append]; rfl) rfl rfl ⟨by decide +kernel, rfl⟩
