/-! CONSTRUCTORS of the class, second (printed by wip/gen/ctor.py) -/
def cw_R (ca : Nat → ClassId) (x : Nat) (g : Nat → Nat) : va_W := [(x, .inr (7, [.ref (g 1), .ref (g 2), .ref (g 3), .ref (g 4), .int 0, .int 0, .int 0])), (g 1, .inl (ca 1, 60, .inl (fun _ => 0))), (g 2, .inl (ca 1, 60, .inl (fun _ => 0))), (g 3, .inl (ca 1, 60, .inl (fun _ => 0)))] ++ (cw_V ca (g 4) (fun k => g (4 + k)) 64 3000)
set_option maxRecDepth 20000 in
set_option maxHeartbeats 4000000 in
theorem cc_R (l : Launch) (ca : Nat → ClassId) (D : va_G) (x : Nat) : bMet l (zCk ca D) ceY_R_init (.code ceY_R_init prog_8_method_1_code 1 none) 2 6 311 [.ref x] [(x, .inr (7, [.null, .null, .null, .null, .int 0, .int 0, .int 0]))] (fun g => cw_R ca x g) := by
  refine bMet.of (by decide +kernel) rfl (Nat.le_of_ble_eq_true rfl) fun κ A hl => ?_
  subst hl
  refine b_aload (pc' := 1) (k := 0) (i := 0) 0 rfl rfl ⟨by decide +kernel, rfl⟩ ?_
  refine b_oinit (pc' := 4) (idx := 3) (cek_w1 11 rfl) (cek_w0 1 rfl) (cek_w0 2 rfl) (Nat.le_of_ble_eq_true rfl) ⟨by decide +kernel, rfl⟩ ?_
  refine b_aload (pc' := 5) (k := 0) (i := 0) 0 rfl rfl ⟨by decide +kernel, rfl⟩ ?_
  refine b_bipush (pc' := 7) (n := 60) (v := 60) (by decide) ⟨by decide +kernel, rfl⟩ ?_
  refine b_newa (pc' := 9) (atype := .int) (ty := .int) (t := 1) (N := 60) (a0 := (60, .inl (fun _ => 0))) (cek_w0 13 rfl) rfl ⟨0, by decide, rfl⟩ (fun _ => rfl) (by decide) (by decide) (Nat.le_of_ble_eq_true rfl) (Nat.le_of_ble_eq_true rfl) (Nat.le_of_ble_eq_true rfl) (Or.inl rfl) ⟨by decide +kernel, rfl⟩ (fun q1 => ?_)
  refine b_put (pc' := 12) (idx := 9) (ci := 7) (N := 7) (j := 0) (f := true) (ty := .array .int) 0 ⟨ce_RR, ce_TR, ce_tyR, rfl, cek_zR, (Nat.le_of_ble_eq_true rfl), (cek_w1 12 rfl), rfl, rfl, rfl⟩ rfl rfl rfl rfl ⟨by decide +kernel, rfl⟩ ?_
  simp only [List.cons_append, List.nil_append, List.set_cons_zero, List.set_cons_succ]
  refine b_aload (pc' := 13) (k := 0) (i := 0) 0 rfl rfl ⟨by decide +kernel, rfl⟩ ?_
  refine b_bipush (pc' := 15) (n := 60) (v := 60) (by decide) ⟨by decide +kernel, rfl⟩ ?_
  refine b_newa (pc' := 17) (atype := .int) (ty := .int) (t := 1) (N := 60) (a0 := (60, .inl (fun _ => 0))) (cek_w0 13 rfl) rfl ⟨0, by decide, rfl⟩ (fun _ => rfl) (by decide) (by decide) (Nat.le_of_ble_eq_true rfl) (Nat.le_of_ble_eq_true rfl) (Nat.le_of_ble_eq_true rfl) (Or.inl rfl) ⟨by decide +kernel, rfl⟩ (fun q2 => ?_)
  refine b_put (pc' := 20) (idx := 15) (ci := 7) (N := 7) (j := 1) (f := true) (ty := .array .int) 0 ⟨ce_RR, ce_TR, ce_tyR, rfl, cek_zR, (Nat.le_of_ble_eq_true rfl), (cek_w1 13 rfl), rfl, rfl, rfl⟩ rfl rfl rfl rfl ⟨by decide +kernel, rfl⟩ ?_
  simp only [List.cons_append, List.nil_append, List.set_cons_zero, List.set_cons_succ]
  refine b_aload (pc' := 21) (k := 0) (i := 0) 0 rfl rfl ⟨by decide +kernel, rfl⟩ ?_
  refine b_bipush (pc' := 23) (n := 60) (v := 60) (by decide) ⟨by decide +kernel, rfl⟩ ?_
  refine b_newa (pc' := 25) (atype := .int) (ty := .int) (t := 1) (N := 60) (a0 := (60, .inl (fun _ => 0))) (cek_w0 13 rfl) rfl ⟨0, by decide, rfl⟩ (fun _ => rfl) (by decide) (by decide) (Nat.le_of_ble_eq_true rfl) (Nat.le_of_ble_eq_true rfl) (Nat.le_of_ble_eq_true rfl) (Or.inl rfl) ⟨by decide +kernel, rfl⟩ (fun q3 => ?_)
  refine b_put (pc' := 28) (idx := 18) (ci := 7) (N := 7) (j := 2) (f := true) (ty := .array .int) 0 ⟨ce_RR, ce_TR, ce_tyR, rfl, cek_zR, (Nat.le_of_ble_eq_true rfl), (cek_w1 14 rfl), rfl, rfl, rfl⟩ rfl rfl rfl rfl ⟨by decide +kernel, rfl⟩ ?_
  simp only [List.cons_append, List.nil_append, List.set_cons_zero, List.set_cons_succ]
  refine b_aload (pc' := 29) (k := 0) (i := 0) 0 rfl rfl ⟨by decide +kernel, rfl⟩ ?_
  refine b_new (pc' := 32) (idx := 21) (ci := 10) (N := 3) (C := ce_RV) (Tt := ce_TV) (tf := ce_tyV) (fs := [.int 0, .null, .null]) rfl cek_zV (cek_w1 15 rfl) (cek_w1 16 rfl) (cek_w1 17 rfl) (fun j hj => match j, hj with | 0, _ => rfl | 1, _ => rfl | 2, _ => rfl | n + 3, h => absurd h (by omega)) (Nat.le_of_ble_eq_true rfl) (Nat.le_of_ble_eq_true rfl) ⟨by decide +kernel, rfl⟩ (fun q4 => ?_)
  refine b_dup (pc' := 33) rfl ⟨by decide +kernel, rfl⟩ ?_
  refine b_bipush (pc' := 35) (n := 64) (v := 64) (by decide) ⟨by decide +kernel, rfl⟩ ?_
  refine b_sipush (pc' := 38) (n := 3000) (v := 3000) (by decide) ⟨by decide +kernel, rfl⟩ ?_
  refine b_ctor (pc' := 41) (idx := 23) (cc_V (zKl κ) ca D q4 64 3000 (by decide)) cek_gV (cek_w1 17 rfl) (cek_w1 18 rfl) (cek_w1 19 rfl) rfl (by decide +kernel) (Nat.le_of_ble_eq_true rfl) (Nat.le_of_ble_eq_true rfl) rfl rfl (Nat.le_of_ble_eq_true rfl) (Nat.le_of_ble_eq_true rfl) (Nat.le_of_ble_eq_true rfl) ⟨by decide +kernel, rfl⟩ (fun g5 => ?_)
  refine b_put (pc' := 44) (idx := 26) (ci := 7) (N := 7) (j := 3) (f := true) (ty := .object "ShapeEngine$Values") 0 ⟨ce_RR, ce_TR, ce_tyR, rfl, cek_zR, (Nat.le_of_ble_eq_true rfl), (cek_w1 21 rfl), rfl, rfl, rfl⟩ rfl rfl rfl rfl ⟨by decide +kernel, rfl⟩ ?_
  simp only [List.cons_append, List.nil_append, List.set_cons_zero, List.set_cons_succ]
  exact b_end (pc' := 45) (bGs [q1, q2, q3, q4, (g5 1), (g5 2)]) (by simp only [cw_R, cw_V, List.cons_append, List.nil_append]; rfl) rfl rfl ⟨by decide +kernel, rfl⟩
def cw_H (ca : Nat → ClassId) (x : Nat) (g : Nat → Nat) : va_W := [(x, .inr (5, [.ref (g 1), .ref (g 10), .ref (g 11), .ref (g 12), .ref (g 13), .ref (g 14), .ref (g 15), .int 0, .int 0, .ref (g 16), .ref (g 17), .ref (g 18), .int 0, .int 0]))] ++ (cw_S ca (g 1) (fun k => g (1 + k)) ++ ([(g 10, .inl (ca 1, 200, .inl (fun _ => 0))), (g 11, .inl (ca 1, 200, .inl (fun _ => 0))), (g 12, .inl (ca 1, 200, .inl (fun _ => 0))), (g 13, .inl (ca 1, 200, .inl (fun _ => 0))), (g 14, .inl (ca 1, 200, .inl (fun _ => 0))), (g 15, .inl (ca 5, 800, .inr (.inl (fun _ => 0)))), (g 16, .inl (ca 5, 32, .inr (.inl (fun _ => 0)))), (g 17, .inl (ca 1, 32, .inl (fun _ => 0)))] ++ (cw_V ca (g 18) (fun k => g (18 + k)) 32 16000)))
set_option maxRecDepth 20000 in
set_option maxHeartbeats 4000000 in
theorem cc_H (l : Launch) (ca : Nat → ClassId) (D : va_G) (x : Nat) : bMet l (zCk ca D) ceY_H_init (.code ceY_H_init prog_4_method_1_code 1 none) 2 20 2365 [.ref x] [(x, .inr (5, [.null, .null, .null, .null, .null, .null, .null, .int 0, .int 0, .null, .null, .null, .int 0, .int 0]))] (fun g => cw_H ca x g) := by
  refine bMet.of (by decide +kernel) rfl (Nat.le_of_ble_eq_true rfl) fun κ A hl => ?_
  subst hl
  refine b_aload (pc' := 1) (k := 0) (i := 0) 0 rfl rfl ⟨by decide +kernel, rfl⟩ ?_
  refine b_oinit (pc' := 4) (idx := 3) (cek_w1 22 rfl) (cek_w0 1 rfl) (cek_w0 2 rfl) (Nat.le_of_ble_eq_true rfl) ⟨by decide +kernel, rfl⟩ ?_
  refine b_aload (pc' := 5) (k := 0) (i := 0) 0 rfl rfl ⟨by decide +kernel, rfl⟩ ?_
  refine b_new (pc' := 8) (idx := 9) (ci := 6) (N := 9) (C := ce_RS) (Tt := ce_TS) (tf := ce_tyS) (fs := [.null, .null, .null, .null, .null, .null, .null, .null, .int 0]) rfl cek_zS (cek_w1 23 rfl) (cek_w1 24 rfl) (cek_w1 25 rfl) (fun j hj => match j, hj with | 0, _ => rfl | 1, _ => rfl | 2, _ => rfl | 3, _ => rfl | 4, _ => rfl | 5, _ => rfl | 6, _ => rfl | 7, _ => rfl | 8, _ => rfl | n + 9, h => absurd h (by omega)) (Nat.le_of_ble_eq_true rfl) (Nat.le_of_ble_eq_true rfl) ⟨by decide +kernel, rfl⟩ (fun q1 => ?_)
  refine b_dup (pc' := 9) rfl ⟨by decide +kernel, rfl⟩ ?_
  refine b_ctorN (pc' := 12) (idx := 11) (cc_S (zKl κ) ca D q1) cek_gS (cek_w1 25 rfl) (host := "ShapeEngine") (fun _ _ _ h => zNs_get h 0 rfl) (cek_w1 26 rfl) rfl (by decide +kernel) (Nat.le_of_ble_eq_true rfl) (Nat.le_of_ble_eq_true rfl) rfl rfl (Nat.le_of_ble_eq_true rfl) (Nat.le_of_ble_eq_true rfl) (Nat.le_of_ble_eq_true rfl) ⟨by decide +kernel, rfl⟩ (fun g2 => ?_)
  refine b_put (pc' := 15) (idx := 12) (ci := 5) (N := 14) (j := 0) (f := true) (ty := .object "ShapeEngine$Shapes") 0 ⟨ce_RH, ce_TH, ce_tyH, rfl, cek_zH, (Nat.le_of_ble_eq_true rfl), (cek_w1 28 rfl), rfl, rfl, rfl⟩ rfl rfl rfl rfl ⟨by decide +kernel, rfl⟩ ?_
  simp only [List.cons_append, List.nil_append, List.set_cons_zero, List.set_cons_succ]
  refine b_aload (pc' := 16) (k := 0) (i := 0) 0 rfl rfl ⟨by decide +kernel, rfl⟩ ?_
  refine b_sipush (pc' := 19) (n := 200) (v := 200) (by decide) ⟨by decide +kernel, rfl⟩ ?_
  refine b_newa (pc' := 21) (atype := .int) (ty := .int) (t := 1) (N := 200) (a0 := (200, .inl (fun _ => 0))) (cek_w0 13 rfl) rfl ⟨0, by decide, rfl⟩ (fun _ => rfl) (by decide) (by decide) (Nat.le_of_ble_eq_true rfl) (Nat.le_of_ble_eq_true rfl) (Nat.le_of_ble_eq_true rfl) (Or.inl rfl) ⟨by decide +kernel, rfl⟩ (fun q3 => ?_)
  refine b_put (pc' := 24) (idx := 18) (ci := 5) (N := 14) (j := 1) (f := true) (ty := .array .int) 0 ⟨ce_RH, ce_TH, ce_tyH, rfl, cek_zH, (Nat.le_of_ble_eq_true rfl), (cek_w1 29 rfl), rfl, rfl, rfl⟩ rfl rfl rfl rfl ⟨by decide +kernel, rfl⟩ ?_
  simp only [List.cons_append, List.nil_append, List.set_cons_zero, List.set_cons_succ]
  refine b_aload (pc' := 25) (k := 0) (i := 0) 0 rfl rfl ⟨by decide +kernel, rfl⟩ ?_
  refine b_sipush (pc' := 28) (n := 200) (v := 200) (by decide) ⟨by decide +kernel, rfl⟩ ?_
  refine b_newa (pc' := 30) (atype := .int) (ty := .int) (t := 1) (N := 200) (a0 := (200, .inl (fun _ => 0))) (cek_w0 13 rfl) rfl ⟨0, by decide, rfl⟩ (fun _ => rfl) (by decide) (by decide) (Nat.le_of_ble_eq_true rfl) (Nat.le_of_ble_eq_true rfl) (Nat.le_of_ble_eq_true rfl) (Or.inl rfl) ⟨by decide +kernel, rfl⟩ (fun q4 => ?_)
  refine b_put (pc' := 33) (idx := 22) (ci := 5) (N := 14) (j := 2) (f := true) (ty := .array .int) 0 ⟨ce_RH, ce_TH, ce_tyH, rfl, cek_zH, (Nat.le_of_ble_eq_true rfl), (cek_w1 30 rfl), rfl, rfl, rfl⟩ rfl rfl rfl rfl ⟨by decide +kernel, rfl⟩ ?_
  simp only [List.cons_append, List.nil_append, List.set_cons_zero, List.set_cons_succ]
  refine b_aload (pc' := 34) (k := 0) (i := 0) 0 rfl rfl ⟨by decide +kernel, rfl⟩ ?_
  refine b_sipush (pc' := 37) (n := 200) (v := 200) (by decide) ⟨by decide +kernel, rfl⟩ ?_
  refine b_newa (pc' := 39) (atype := .int) (ty := .int) (t := 1) (N := 200) (a0 := (200, .inl (fun _ => 0))) (cek_w0 13 rfl) rfl ⟨0, by decide, rfl⟩ (fun _ => rfl) (by decide) (by decide) (Nat.le_of_ble_eq_true rfl) (Nat.le_of_ble_eq_true rfl) (Nat.le_of_ble_eq_true rfl) (Or.inl rfl) ⟨by decide +kernel, rfl⟩ (fun q5 => ?_)
  refine b_put (pc' := 42) (idx := 25) (ci := 5) (N := 14) (j := 3) (f := true) (ty := .array .int) 0 ⟨ce_RH, ce_TH, ce_tyH, rfl, cek_zH, (Nat.le_of_ble_eq_true rfl), (cek_w1 31 rfl), rfl, rfl, rfl⟩ rfl rfl rfl rfl ⟨by decide +kernel, rfl⟩ ?_
  simp only [List.cons_append, List.nil_append, List.set_cons_zero, List.set_cons_succ]
  refine b_aload (pc' := 43) (k := 0) (i := 0) 0 rfl rfl ⟨by decide +kernel, rfl⟩ ?_
  refine b_sipush (pc' := 46) (n := 200) (v := 200) (by decide) ⟨by decide +kernel, rfl⟩ ?_
  refine b_newa (pc' := 48) (atype := .int) (ty := .int) (t := 1) (N := 200) (a0 := (200, .inl (fun _ => 0))) (cek_w0 13 rfl) rfl ⟨0, by decide, rfl⟩ (fun _ => rfl) (by decide) (by decide) (Nat.le_of_ble_eq_true rfl) (Nat.le_of_ble_eq_true rfl) (Nat.le_of_ble_eq_true rfl) (Or.inl rfl) ⟨by decide +kernel, rfl⟩ (fun q6 => ?_)
  refine b_put (pc' := 51) (idx := 28) (ci := 5) (N := 14) (j := 4) (f := true) (ty := .array .int) 0 ⟨ce_RH, ce_TH, ce_tyH, rfl, cek_zH, (Nat.le_of_ble_eq_true rfl), (cek_w1 32 rfl), rfl, rfl, rfl⟩ rfl rfl rfl rfl ⟨by decide +kernel, rfl⟩ ?_
  simp only [List.cons_append, List.nil_append, List.set_cons_zero, List.set_cons_succ]
  refine b_aload (pc' := 52) (k := 0) (i := 0) 0 rfl rfl ⟨by decide +kernel, rfl⟩ ?_
  refine b_sipush (pc' := 55) (n := 200) (v := 200) (by decide) ⟨by decide +kernel, rfl⟩ ?_
  refine b_newa (pc' := 57) (atype := .int) (ty := .int) (t := 1) (N := 200) (a0 := (200, .inl (fun _ => 0))) (cek_w0 13 rfl) rfl ⟨0, by decide, rfl⟩ (fun _ => rfl) (by decide) (by decide) (Nat.le_of_ble_eq_true rfl) (Nat.le_of_ble_eq_true rfl) (Nat.le_of_ble_eq_true rfl) (Or.inl rfl) ⟨by decide +kernel, rfl⟩ (fun q7 => ?_)
  refine b_put (pc' := 60) (idx := 31) (ci := 5) (N := 14) (j := 5) (f := true) (ty := .array .int) 0 ⟨ce_RH, ce_TH, ce_tyH, rfl, cek_zH, (Nat.le_of_ble_eq_true rfl), (cek_w1 33 rfl), rfl, rfl, rfl⟩ rfl rfl rfl rfl ⟨by decide +kernel, rfl⟩ ?_
  simp only [List.cons_append, List.nil_append, List.set_cons_zero, List.set_cons_succ]
  refine b_aload (pc' := 61) (k := 0) (i := 0) 0 rfl rfl ⟨by decide +kernel, rfl⟩ ?_
  refine b_sipush (pc' := 64) (n := 800) (v := 800) (by decide) ⟨by decide +kernel, rfl⟩ ?_
  refine b_newa (pc' := 66) (atype := .long) (ty := .long) (t := 5) (N := 800) (a0 := (800, .inr (.inl (fun _ => 0)))) (cek_w0 10 rfl) rfl ⟨4, by decide, rfl⟩ (fun _ => rfl) (by decide) (by decide) (Nat.le_of_ble_eq_true rfl) (Nat.le_of_ble_eq_true rfl) (Nat.le_of_ble_eq_true rfl) (Or.inr (Or.inr (Or.inr (Or.inr rfl)))) ⟨by decide +kernel, rfl⟩ (fun q8 => ?_)
  refine b_put (pc' := 69) (idx := 34) (ci := 5) (N := 14) (j := 6) (f := true) (ty := .array .long) 0 ⟨ce_RH, ce_TH, ce_tyH, rfl, cek_zH, (Nat.le_of_ble_eq_true rfl), (cek_w1 34 rfl), rfl, rfl, rfl⟩ rfl rfl rfl rfl ⟨by decide +kernel, rfl⟩ ?_
  simp only [List.cons_append, List.nil_append, List.set_cons_zero, List.set_cons_succ]
  refine b_aload (pc' := 70) (k := 0) (i := 0) 0 rfl rfl ⟨by decide +kernel, rfl⟩ ?_
  refine b_bipush (pc' := 72) (n := 32) (v := 32) (by decide) ⟨by decide +kernel, rfl⟩ ?_
  refine b_newa (pc' := 74) (atype := .long) (ty := .long) (t := 5) (N := 32) (a0 := (32, .inr (.inl (fun _ => 0)))) (cek_w0 10 rfl) rfl ⟨4, by decide, rfl⟩ (fun _ => rfl) (by decide) (by decide) (Nat.le_of_ble_eq_true rfl) (Nat.le_of_ble_eq_true rfl) (Nat.le_of_ble_eq_true rfl) (Or.inr (Or.inr (Or.inr (Or.inr rfl)))) ⟨by decide +kernel, rfl⟩ (fun q9 => ?_)
  refine b_put (pc' := 77) (idx := 38) (ci := 5) (N := 14) (j := 9) (f := false) (ty := .array .long) 0 ⟨ce_RH, ce_TH, ce_tyH, rfl, cek_zH, (Nat.le_of_ble_eq_true rfl), (cek_w1 35 rfl), rfl, rfl, rfl⟩ rfl rfl rfl rfl ⟨by decide +kernel, rfl⟩ ?_
  simp only [List.cons_append, List.nil_append, List.set_cons_zero, List.set_cons_succ]
  refine b_aload (pc' := 78) (k := 0) (i := 0) 0 rfl rfl ⟨by decide +kernel, rfl⟩ ?_
  refine b_bipush (pc' := 80) (n := 32) (v := 32) (by decide) ⟨by decide +kernel, rfl⟩ ?_
  refine b_newa (pc' := 82) (atype := .int) (ty := .int) (t := 1) (N := 32) (a0 := (32, .inl (fun _ => 0))) (cek_w0 13 rfl) rfl ⟨0, by decide, rfl⟩ (fun _ => rfl) (by decide) (by decide) (Nat.le_of_ble_eq_true rfl) (Nat.le_of_ble_eq_true rfl) (Nat.le_of_ble_eq_true rfl) (Or.inl rfl) ⟨by decide +kernel, rfl⟩ (fun q10 => ?_)
  refine b_put (pc' := 85) (idx := 41) (ci := 5) (N := 14) (j := 10) (f := false) (ty := .array .int) 0 ⟨ce_RH, ce_TH, ce_tyH, rfl, cek_zH, (Nat.le_of_ble_eq_true rfl), (cek_w1 36 rfl), rfl, rfl, rfl⟩ rfl rfl rfl rfl ⟨by decide +kernel, rfl⟩ ?_
  simp only [List.cons_append, List.nil_append, List.set_cons_zero, List.set_cons_succ]
  refine b_aload (pc' := 86) (k := 0) (i := 0) 0 rfl rfl ⟨by decide +kernel, rfl⟩ ?_
  refine b_new (pc' := 89) (idx := 44) (ci := 10) (N := 3) (C := ce_RV) (Tt := ce_TV) (tf := ce_tyV) (fs := [.int 0, .null, .null]) rfl cek_zV (cek_w1 37 rfl) (cek_w1 16 rfl) (cek_w1 17 rfl) (fun j hj => match j, hj with | 0, _ => rfl | 1, _ => rfl | 2, _ => rfl | n + 3, h => absurd h (by omega)) (Nat.le_of_ble_eq_true rfl) (Nat.le_of_ble_eq_true rfl) ⟨by decide +kernel, rfl⟩ (fun q11 => ?_)
  refine b_dup (pc' := 90) rfl ⟨by decide +kernel, rfl⟩ ?_
  refine b_bipush (pc' := 92) (n := 32) (v := 32) (by decide) ⟨by decide +kernel, rfl⟩ ?_
  refine b_sipush (pc' := 95) (n := 16000) (v := 16000) (by decide) ⟨by decide +kernel, rfl⟩ ?_
  refine b_ctor (pc' := 98) (idx := 46) (cc_V (zKl κ) ca D q11 32 16000 (by decide)) cek_gV (cek_w1 17 rfl) (cek_w1 38 rfl) (cek_w1 19 rfl) rfl (by decide +kernel) (Nat.le_of_ble_eq_true rfl) (Nat.le_of_ble_eq_true rfl) rfl rfl (Nat.le_of_ble_eq_true rfl) (Nat.le_of_ble_eq_true rfl) (Nat.le_of_ble_eq_true rfl) ⟨by decide +kernel, rfl⟩ (fun g12 => ?_)
  refine b_put (pc' := 101) (idx := 49) (ci := 5) (N := 14) (j := 11) (f := true) (ty := .object "ShapeEngine$Values") 0 ⟨ce_RH, ce_TH, ce_tyH, rfl, cek_zH, (Nat.le_of_ble_eq_true rfl), (cek_w1 39 rfl), rfl, rfl, rfl⟩ rfl rfl rfl rfl ⟨by decide +kernel, rfl⟩ ?_
  simp only [List.cons_append, List.nil_append, List.set_cons_zero, List.set_cons_succ]
  exact b_end (pc' := 102) (bGs [q1, (g2 1), (g2 2), (g2 3), (g2 4), (g2 5), (g2 6), (g2 7), (g2 8), q3, q4, q5, q6, q7, q8, q9, q10, q11, (g12 1), (g12 2)]) (by simp only [cw_H, cw_S, cw_V, List.cons_append, List.nil_append]; rfl) rfl rfl ⟨by decide +kernel, rfl⟩
def cw_M (ca : Nat → ClassId) (x : Nat) (g : Nat → Nat) : va_W := [(x, .inr (4, [.ref (g 1), .ref (g 22), .ref (g 29), .ref (g 39), .ref (g 46), .int 0, .null, .ref (g 49), .int 0, .ref (g 52), .ref (g 55), .int 0, .int 0, .int 0, .int 0, .int 0, .int 0, .int 0, .int 0, .int 0]))] ++ (cw_H ca (g 1) (fun k => g (1 + k)) ++ (cw_R ca (g 22) (fun k => g (22 + k)) ++ (cw_T ca (g 29) (fun k => g (29 + k)) ++ (cw_F ca (g 39) (fun k => g (39 + k)) ++ (cw_V ca (g 46) (fun k => g (46 + k)) 16 200 ++ (cw_V ca (g 49) (fun k => g (49 + k)) 64 780 ++ (cw_V ca (g 52) (fun k => g (52 + k)) 156 0 ++ ([(g 55, .inl (ca 1, 12, .inl (fun _ => 0)))]))))))))
set_option maxRecDepth 20000 in
set_option maxHeartbeats 4000000 in
theorem cc_M (l : Launch) (ca : Nat → ClassId) (D : va_G) (x : Nat) : bMet l (zCk ca D) ceY_M_init (.code ceY_M_init prog_6_method_1_code 1 none) 3 55 4698 [.ref x] [(x, .inr (4, [.null, .null, .null, .null, .null, .int 0, .null, .null, .int 0, .null, .null, .int 0, .int 0, .int 0, .int 0, .int 0, .int 0, .int 0, .int 0, .int 0]))] (fun g => cw_M ca x g) := by
  refine bMet.of (by decide +kernel) rfl (Nat.le_of_ble_eq_true rfl) fun κ A hl => ?_
  subst hl
  refine b_aload (pc' := 1) (k := 0) (i := 0) 0 rfl rfl ⟨by decide +kernel, rfl⟩ ?_
  refine b_oinit (pc' := 4) (idx := 3) (cek_w2 0 rfl) (cek_w0 1 rfl) (cek_w0 2 rfl) (Nat.le_of_ble_eq_true rfl) ⟨by decide +kernel, rfl⟩ ?_
  refine b_aload (pc' := 5) (k := 0) (i := 0) 0 rfl rfl ⟨by decide +kernel, rfl⟩ ?_
  refine b_new (pc' := 8) (idx := 9) (ci := 5) (N := 14) (C := ce_RH) (Tt := ce_TH) (tf := ce_tyH) (fs := [.null, .null, .null, .null, .null, .null, .null, .int 0, .int 0, .null, .null, .null, .int 0, .int 0]) rfl cek_zH (cek_w2 1 rfl) (cek_w2 2 rfl) (cek_w2 3 rfl) (fun j hj => match j, hj with | 0, _ => rfl | 1, _ => rfl | 2, _ => rfl | 3, _ => rfl | 4, _ => rfl | 5, _ => rfl | 6, _ => rfl | 7, _ => rfl | 8, _ => rfl | 9, _ => rfl | 10, _ => rfl | 11, _ => rfl | 12, _ => rfl | 13, _ => rfl | n + 14, h => absurd h (by omega)) (Nat.le_of_ble_eq_true rfl) (Nat.le_of_ble_eq_true rfl) ⟨by decide +kernel, rfl⟩ (fun q1 => ?_)
  refine b_dup (pc' := 9) rfl ⟨by decide +kernel, rfl⟩ ?_
  refine b_ctorN (pc' := 12) (idx := 11) (cc_H (zKl κ) ca D q1) cek_gH (cek_w2 3 rfl) (host := "ShapeEngine") (fun _ _ _ h => zNs_get h 1 rfl) (cek_w2 4 rfl) rfl (by decide +kernel) (Nat.le_of_ble_eq_true rfl) (Nat.le_of_ble_eq_true rfl) rfl rfl (Nat.le_of_ble_eq_true rfl) (Nat.le_of_ble_eq_true rfl) (Nat.le_of_ble_eq_true rfl) ⟨by decide +kernel, rfl⟩ (fun g2 => ?_)
  refine b_put (pc' := 15) (idx := 12) (ci := 4) (N := 20) (j := 0) (f := true) (ty := .object "ShapeEngine$Heap") 0 ⟨ce_RM, ce_TM, ce_tyM, rfl, cek_zM, (Nat.le_of_ble_eq_true rfl), (cek_w2 6 rfl), rfl, rfl, rfl⟩ rfl rfl rfl rfl ⟨by decide +kernel, rfl⟩ ?_
  simp only [List.cons_append, List.nil_append, List.set_cons_zero, List.set_cons_succ]
  refine b_aload (pc' := 16) (k := 0) (i := 0) 0 rfl rfl ⟨by decide +kernel, rfl⟩ ?_
  refine b_new (pc' := 19) (idx := 18) (ci := 7) (N := 7) (C := ce_RR) (Tt := ce_TR) (tf := ce_tyR) (fs := [.null, .null, .null, .null, .int 0, .int 0, .int 0]) rfl cek_zR (cek_w2 7 rfl) (cek_w2 8 rfl) (cek_w2 9 rfl) (fun j hj => match j, hj with | 0, _ => rfl | 1, _ => rfl | 2, _ => rfl | 3, _ => rfl | 4, _ => rfl | 5, _ => rfl | 6, _ => rfl | n + 7, h => absurd h (by omega)) (Nat.le_of_ble_eq_true rfl) (Nat.le_of_ble_eq_true rfl) ⟨by decide +kernel, rfl⟩ (fun q3 => ?_)
  refine b_dup (pc' := 20) rfl ⟨by decide +kernel, rfl⟩ ?_
  refine b_ctorN (pc' := 23) (idx := 20) (cc_R (zKl κ) ca D q3) cek_gR (cek_w2 9 rfl) (host := "ShapeEngine") (fun _ _ _ h => zNs_get h 2 rfl) (cek_w2 10 rfl) rfl (by decide +kernel) (Nat.le_of_ble_eq_true rfl) (Nat.le_of_ble_eq_true rfl) rfl rfl (Nat.le_of_ble_eq_true rfl) (Nat.le_of_ble_eq_true rfl) (Nat.le_of_ble_eq_true rfl) ⟨by decide +kernel, rfl⟩ (fun g4 => ?_)
  refine b_put (pc' := 26) (idx := 21) (ci := 4) (N := 20) (j := 1) (f := true) (ty := .object "ShapeEngine$Rows") 0 ⟨ce_RM, ce_TM, ce_tyM, rfl, cek_zM, (Nat.le_of_ble_eq_true rfl), (cek_w2 12 rfl), rfl, rfl, rfl⟩ rfl rfl rfl rfl ⟨by decide +kernel, rfl⟩ ?_
  simp only [List.cons_append, List.nil_append, List.set_cons_zero, List.set_cons_succ]
  refine b_aload (pc' := 27) (k := 0) (i := 0) 0 rfl rfl ⟨by decide +kernel, rfl⟩ ?_
  refine b_new (pc' := 30) (idx := 25) (ci := 8) (N := 12) (C := ce_RT) (Tt := ce_TT) (tf := ce_tyT) (fs := [.null, .null, .null, .null, .null, .null, .null, .null, .null, .int 0, .int 0, .int 0]) rfl cek_zT (cek_w2 13 rfl) (cek_w2 14 rfl) (cek_w2 15 rfl) (fun j hj => match j, hj with | 0, _ => rfl | 1, _ => rfl | 2, _ => rfl | 3, _ => rfl | 4, _ => rfl | 5, _ => rfl | 6, _ => rfl | 7, _ => rfl | 8, _ => rfl | 9, _ => rfl | 10, _ => rfl | 11, _ => rfl | n + 12, h => absurd h (by omega)) (Nat.le_of_ble_eq_true rfl) (Nat.le_of_ble_eq_true rfl) ⟨by decide +kernel, rfl⟩ (fun q5 => ?_)
  refine b_dup (pc' := 31) rfl ⟨by decide +kernel, rfl⟩ ?_
  refine b_ctorN (pc' := 34) (idx := 27) (cc_T (zKl κ) ca D q5) cek_gT (cek_w2 15 rfl) (host := "ShapeEngine") (fun _ _ _ h => zNs_get h 3 rfl) (cek_w2 16 rfl) rfl (by decide +kernel) (Nat.le_of_ble_eq_true rfl) (Nat.le_of_ble_eq_true rfl) rfl rfl (Nat.le_of_ble_eq_true rfl) (Nat.le_of_ble_eq_true rfl) (Nat.le_of_ble_eq_true rfl) ⟨by decide +kernel, rfl⟩ (fun g6 => ?_)
  refine b_put (pc' := 37) (idx := 28) (ci := 4) (N := 20) (j := 2) (f := true) (ty := .object "ShapeEngine$Sites") 0 ⟨ce_RM, ce_TM, ce_tyM, rfl, cek_zM, (Nat.le_of_ble_eq_true rfl), (cek_w2 18 rfl), rfl, rfl, rfl⟩ rfl rfl rfl rfl ⟨by decide +kernel, rfl⟩ ?_
  simp only [List.cons_append, List.nil_append, List.set_cons_zero, List.set_cons_succ]
  refine b_aload (pc' := 38) (k := 0) (i := 0) 0 rfl rfl ⟨by decide +kernel, rfl⟩ ?_
  refine b_new (pc' := 41) (idx := 32) (ci := 9) (N := 8) (C := ce_RF) (Tt := ce_TF) (tf := ce_tyF) (fs := [.null, .null, .null, .null, .null, .null, .int 0, .int 0]) rfl cek_zF (cek_w2 19 rfl) (cek_w2 20 rfl) (cek_w2 21 rfl) (fun j hj => match j, hj with | 0, _ => rfl | 1, _ => rfl | 2, _ => rfl | 3, _ => rfl | 4, _ => rfl | 5, _ => rfl | 6, _ => rfl | 7, _ => rfl | n + 8, h => absurd h (by omega)) (Nat.le_of_ble_eq_true rfl) (Nat.le_of_ble_eq_true rfl) ⟨by decide +kernel, rfl⟩ (fun q7 => ?_)
  refine b_dup (pc' := 42) rfl ⟨by decide +kernel, rfl⟩ ?_
  refine b_ctorN (pc' := 45) (idx := 34) (cc_F (zKl κ) ca D q7) cek_gF (cek_w2 21 rfl) (host := "ShapeEngine") (fun _ _ _ h => zNs_get h 4 rfl) (cek_w2 22 rfl) rfl (by decide +kernel) (Nat.le_of_ble_eq_true rfl) (Nat.le_of_ble_eq_true rfl) rfl rfl (Nat.le_of_ble_eq_true rfl) (Nat.le_of_ble_eq_true rfl) (Nat.le_of_ble_eq_true rfl) ⟨by decide +kernel, rfl⟩ (fun g8 => ?_)
  refine b_put (pc' := 48) (idx := 35) (ci := 4) (N := 20) (j := 3) (f := true) (ty := .object "ShapeEngine$Functions") 0 ⟨ce_RM, ce_TM, ce_tyM, rfl, cek_zM, (Nat.le_of_ble_eq_true rfl), (cek_w2 24 rfl), rfl, rfl, rfl⟩ rfl rfl rfl rfl ⟨by decide +kernel, rfl⟩ ?_
  simp only [List.cons_append, List.nil_append, List.set_cons_zero, List.set_cons_succ]
  refine b_aload (pc' := 49) (k := 0) (i := 0) 0 rfl rfl ⟨by decide +kernel, rfl⟩ ?_
  refine b_new (pc' := 52) (idx := 39) (ci := 10) (N := 3) (C := ce_RV) (Tt := ce_TV) (tf := ce_tyV) (fs := [.int 0, .null, .null]) rfl cek_zV (cek_w2 25 rfl) (cek_w1 16 rfl) (cek_w1 17 rfl) (fun j hj => match j, hj with | 0, _ => rfl | 1, _ => rfl | 2, _ => rfl | n + 3, h => absurd h (by omega)) (Nat.le_of_ble_eq_true rfl) (Nat.le_of_ble_eq_true rfl) ⟨by decide +kernel, rfl⟩ (fun q9 => ?_)
  refine b_dup (pc' := 53) rfl ⟨by decide +kernel, rfl⟩ ?_
  refine b_bipush (pc' := 55) (n := 16) (v := 16) (by decide) ⟨by decide +kernel, rfl⟩ ?_
  refine b_sipush (pc' := 58) (n := 200) (v := 200) (by decide) ⟨by decide +kernel, rfl⟩ ?_
  refine b_ctor (pc' := 61) (idx := 41) (cc_V (zKl κ) ca D q9 16 200 (by decide)) cek_gV (cek_w1 17 rfl) (cek_w2 26 rfl) (cek_w1 19 rfl) rfl (by decide +kernel) (Nat.le_of_ble_eq_true rfl) (Nat.le_of_ble_eq_true rfl) rfl rfl (Nat.le_of_ble_eq_true rfl) (Nat.le_of_ble_eq_true rfl) (Nat.le_of_ble_eq_true rfl) ⟨by decide +kernel, rfl⟩ (fun g10 => ?_)
  refine b_put (pc' := 64) (idx := 44) (ci := 4) (N := 20) (j := 4) (f := true) (ty := .object "ShapeEngine$Values") 0 ⟨ce_RM, ce_TM, ce_tyM, rfl, cek_zM, (Nat.le_of_ble_eq_true rfl), (cek_w2 27 rfl), rfl, rfl, rfl⟩ rfl rfl rfl rfl ⟨by decide +kernel, rfl⟩ ?_
  simp only [List.cons_append, List.nil_append, List.set_cons_zero, List.set_cons_succ]
  refine b_aload (pc' := 65) (k := 0) (i := 0) 0 rfl rfl ⟨by decide +kernel, rfl⟩ ?_
  refine b_new (pc' := 68) (idx := 39) (ci := 10) (N := 3) (C := ce_RV) (Tt := ce_TV) (tf := ce_tyV) (fs := [.int 0, .null, .null]) rfl cek_zV (cek_w2 25 rfl) (cek_w1 16 rfl) (cek_w1 17 rfl) (fun j hj => match j, hj with | 0, _ => rfl | 1, _ => rfl | 2, _ => rfl | n + 3, h => absurd h (by omega)) (Nat.le_of_ble_eq_true rfl) (Nat.le_of_ble_eq_true rfl) ⟨by decide +kernel, rfl⟩ (fun q11 => ?_)
  refine b_dup (pc' := 69) rfl ⟨by decide +kernel, rfl⟩ ?_
  refine b_bipush (pc' := 71) (n := 64) (v := 64) (by decide) ⟨by decide +kernel, rfl⟩ ?_
  refine b_sipush (pc' := 74) (n := 780) (v := 780) (by decide) ⟨by decide +kernel, rfl⟩ ?_
  refine b_ctor (pc' := 77) (idx := 41) (cc_V (zKl κ) ca D q11 64 780 (by decide)) cek_gV (cek_w1 17 rfl) (cek_w2 26 rfl) (cek_w1 19 rfl) rfl (by decide +kernel) (Nat.le_of_ble_eq_true rfl) (Nat.le_of_ble_eq_true rfl) rfl rfl (Nat.le_of_ble_eq_true rfl) (Nat.le_of_ble_eq_true rfl) (Nat.le_of_ble_eq_true rfl) ⟨by decide +kernel, rfl⟩ (fun g12 => ?_)
  refine b_put (pc' := 80) (idx := 48) (ci := 4) (N := 20) (j := 7) (f := true) (ty := .object "ShapeEngine$Values") 0 ⟨ce_RM, ce_TM, ce_tyM, rfl, cek_zM, (Nat.le_of_ble_eq_true rfl), (cek_w2 28 rfl), rfl, rfl, rfl⟩ rfl rfl rfl rfl ⟨by decide +kernel, rfl⟩ ?_
  simp only [List.cons_append, List.nil_append, List.set_cons_zero, List.set_cons_succ]
  refine b_aload (pc' := 81) (k := 0) (i := 0) 0 rfl rfl ⟨by decide +kernel, rfl⟩ ?_
  refine b_new (pc' := 84) (idx := 39) (ci := 10) (N := 3) (C := ce_RV) (Tt := ce_TV) (tf := ce_tyV) (fs := [.int 0, .null, .null]) rfl cek_zV (cek_w2 25 rfl) (cek_w1 16 rfl) (cek_w1 17 rfl) (fun j hj => match j, hj with | 0, _ => rfl | 1, _ => rfl | 2, _ => rfl | n + 3, h => absurd h (by omega)) (Nat.le_of_ble_eq_true rfl) (Nat.le_of_ble_eq_true rfl) ⟨by decide +kernel, rfl⟩ (fun q13 => ?_)
  refine b_dup (pc' := 85) rfl ⟨by decide +kernel, rfl⟩ ?_
  refine b_sipush (pc' := 88) (n := 156) (v := 156) (by decide) ⟨by decide +kernel, rfl⟩ ?_
  refine b_iconst (pc' := 89) (n := 0) (v := 0) (by decide) ⟨by decide +kernel, rfl⟩ ?_
  refine b_ctor (pc' := 92) (idx := 41) (cc_V (zKl κ) ca D q13 156 0 (by decide)) cek_gV (cek_w1 17 rfl) (cek_w2 26 rfl) (cek_w1 19 rfl) rfl (by decide +kernel) (Nat.le_of_ble_eq_true rfl) (Nat.le_of_ble_eq_true rfl) rfl rfl (Nat.le_of_ble_eq_true rfl) (Nat.le_of_ble_eq_true rfl) (Nat.le_of_ble_eq_true rfl) ⟨by decide +kernel, rfl⟩ (fun g14 => ?_)
  refine b_put (pc' := 95) (idx := 51) (ci := 4) (N := 20) (j := 9) (f := true) (ty := .object "ShapeEngine$Values") 0 ⟨ce_RM, ce_TM, ce_tyM, rfl, cek_zM, (Nat.le_of_ble_eq_true rfl), (cek_w2 29 rfl), rfl, rfl, rfl⟩ rfl rfl rfl rfl ⟨by decide +kernel, rfl⟩ ?_
  simp only [List.cons_append, List.nil_append, List.set_cons_zero, List.set_cons_succ]
  refine b_aload (pc' := 96) (k := 0) (i := 0) 0 rfl rfl ⟨by decide +kernel, rfl⟩ ?_
  refine b_bipush (pc' := 98) (n := 12) (v := 12) (by decide) ⟨by decide +kernel, rfl⟩ ?_
  refine b_newa (pc' := 100) (atype := .int) (ty := .int) (t := 1) (N := 12) (a0 := (12, .inl (fun _ => 0))) (cek_w0 13 rfl) rfl ⟨0, by decide, rfl⟩ (fun _ => rfl) (by decide) (by decide) (Nat.le_of_ble_eq_true rfl) (Nat.le_of_ble_eq_true rfl) (Nat.le_of_ble_eq_true rfl) (Or.inl rfl) ⟨by decide +kernel, rfl⟩ (fun q15 => ?_)
  refine b_put (pc' := 103) (idx := 54) (ci := 4) (N := 20) (j := 10) (f := true) (ty := .array .int) 0 ⟨ce_RM, ce_TM, ce_tyM, rfl, cek_zM, (Nat.le_of_ble_eq_true rfl), (cek_w2 30 rfl), rfl, rfl, rfl⟩ rfl rfl rfl rfl ⟨by decide +kernel, rfl⟩ ?_
  simp only [List.cons_append, List.nil_append, List.set_cons_zero, List.set_cons_succ]
  exact b_end (pc' := 104) (bGs [q1, (g2 1), (g2 2), (g2 3), (g2 4), (g2 5), (g2 6), (g2 7), (g2 8), (g2 9), (g2 10), (g2 11), (g2 12), (g2 13), (g2 14), (g2 15), (g2 16), (g2 17), (g2 18), (g2 19), (g2 20), q3, (g4 1), (g4 2), (g4 3), (g4 4), (g4 5), (g4 6), q5, (g6 1), (g6 2), (g6 3), (g6 4), (g6 5), (g6 6), (g6 7), (g6 8), (g6 9), q7, (g8 1), (g8 2), (g8 3), (g8 4), (g8 5), (g8 6), q9, (g10 1), (g10 2), q11, (g12 1), (g12 2), q13, (g14 1), (g14 2), q15]) (by simp only [cw_M, cw_H, cw_S, cw_V, cw_R, cw_T, cw_F, List.cons_append, List.nil_append]; rfl) rfl rfl ⟨by decide +kernel, rfl⟩
