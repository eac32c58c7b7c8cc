/-! CONSTRUCTORS of the class, third (printed by wip/gen/ctor.py) -/
def cw_X (ca : Nat → ClassId) (x : Nat) (g : Nat → Nat) : va_W := [(x, .inr (2, [.ref (g 1), .ref (g 2), .ref (g 3), .ref (g 4), .int 0, .int 0, .int (256), .int 0, .long 0])), (g 1, .inl (ca 5, 12, .inr (.inl (kyF 12)))), (g 2, .inl (ca 3, 1501, .inl (fun _ => 0))), (g 3, .inl (ca 3, 1501, .inl (fun _ => 0))), (g 4, .inl (ca 5, 1501, .inr (.inl (fun _ => 0))))]
set_option maxRecDepth 20000 in
set_option maxHeartbeats 4000000 in
theorem cc_X (l : Launch) (ca : Nat → ClassId) (D : va_G) (x : Nat) : bMet l (zCk ca D) ceY_X_init (.code ceY_X_init prog_5_method_1_code 1 none) 5 4 4515 [.ref x] [(x, .inr (2, [.null, .null, .null, .null, .int 0, .int 0, .int 0, .int 0, .long 0]))] (fun g => cw_X ca x g) := by
  refine bMet.of (by decide +kernel) rfl (Nat.le_of_ble_eq_true rfl) fun κ A hl => ?_
  subst hl
  refine b_aload (pc' := 1) (k := 0) (i := 0) 0 rfl rfl ⟨by decide +kernel, rfl⟩ ?_
  refine b_oinit (pc' := 4) (idx := 3) (cek_w2 31 rfl) (cek_w0 1 rfl) (cek_w0 2 rfl) (Nat.le_of_ble_eq_true rfl) ⟨by decide +kernel, rfl⟩ ?_
  refine b_aload (pc' := 5) (k := 0) (i := 0) 0 rfl rfl ⟨by decide +kernel, rfl⟩ ?_
  refine b_bipush (pc' := 7) (n := 12) (v := 12) (by decide) ⟨by decide +kernel, rfl⟩ ?_
  refine b_newa (pc' := 9) (atype := .long) (ty := .long) (t := 5) (N := 12) (a0 := (12, .inr (.inl (kyF 0)))) (cek_w0 10 rfl) rfl ⟨4, by decide, rfl⟩ (fun _ => by rw [kyF_0]; rfl) (by decide) (by decide) (Nat.le_of_ble_eq_true rfl) (Nat.le_of_ble_eq_true rfl) (Nat.le_of_ble_eq_true rfl) (Or.inr (Or.inr (Or.inr (Or.inr rfl)))) ⟨by decide +kernel, rfl⟩ (fun q1 => ?_)
  refine b_dup (pc' := 10) rfl ⟨by decide +kernel, rfl⟩ ?_
  refine b_iconst (pc' := 11) (n := 0) (v := 0) (by decide) ⟨by decide +kernel, rfl⟩ ?_
  refine b_ldcS (pc' := 13) (i := 0) (idx := 9) (by decide) rfl rfl ⟨by decide +kernel, rfl⟩ ?_
  refine b_packed (pc' := 16) (i := 0) (by decide) rfl (Nat.le_of_ble_eq_true rfl) (cek_w2 32 rfl) (Nat.le_of_ble_eq_true rfl) (Nat.le_of_ble_eq_true rfl) (Nat.le_of_ble_eq_true rfl) ⟨by decide +kernel, rfl⟩ (ksG_packed ca D) ?_
  refine b_keyst (pc' := 17) (i := 0) 1 rfl (by decide) (by decide) ⟨by decide +kernel, rfl⟩ ?_
  simp only [List.cons_append, List.nil_append, List.set_cons_zero, List.set_cons_succ]
  refine b_dup (pc' := 18) rfl ⟨by decide +kernel, rfl⟩ ?_
  refine b_iconst (pc' := 19) (n := 1) (v := 1) (by decide) ⟨by decide +kernel, rfl⟩ ?_
  refine b_ldcS (pc' := 21) (i := 1) (idx := 17) (by decide) rfl rfl ⟨by decide +kernel, rfl⟩ ?_
  refine b_packed (pc' := 24) (i := 1) (by decide) rfl (Nat.le_of_ble_eq_true rfl) (cek_w2 32 rfl) (Nat.le_of_ble_eq_true rfl) (Nat.le_of_ble_eq_true rfl) (Nat.le_of_ble_eq_true rfl) ⟨by decide +kernel, rfl⟩ (ksG_packed ca D) ?_
  refine b_keyst (pc' := 25) (i := 1) 1 rfl (by decide) (by decide) ⟨by decide +kernel, rfl⟩ ?_
  simp only [List.cons_append, List.nil_append, List.set_cons_zero, List.set_cons_succ]
  refine b_dup (pc' := 26) rfl ⟨by decide +kernel, rfl⟩ ?_
  refine b_iconst (pc' := 27) (n := 2) (v := 2) (by decide) ⟨by decide +kernel, rfl⟩ ?_
  refine b_ldcS (pc' := 29) (i := 2) (idx := 19) (by decide) rfl rfl ⟨by decide +kernel, rfl⟩ ?_
  refine b_packed (pc' := 32) (i := 2) (by decide) rfl (Nat.le_of_ble_eq_true rfl) (cek_w2 32 rfl) (Nat.le_of_ble_eq_true rfl) (Nat.le_of_ble_eq_true rfl) (Nat.le_of_ble_eq_true rfl) ⟨by decide +kernel, rfl⟩ (ksG_packed ca D) ?_
  refine b_keyst (pc' := 33) (i := 2) 1 rfl (by decide) (by decide) ⟨by decide +kernel, rfl⟩ ?_
  simp only [List.cons_append, List.nil_append, List.set_cons_zero, List.set_cons_succ]
  refine b_dup (pc' := 34) rfl ⟨by decide +kernel, rfl⟩ ?_
  refine b_iconst (pc' := 35) (n := 3) (v := 3) (by decide) ⟨by decide +kernel, rfl⟩ ?_
  refine b_ldcS (pc' := 37) (i := 3) (idx := 21) (by decide) rfl rfl ⟨by decide +kernel, rfl⟩ ?_
  refine b_packed (pc' := 40) (i := 3) (by decide) rfl (Nat.le_of_ble_eq_true rfl) (cek_w2 32 rfl) (Nat.le_of_ble_eq_true rfl) (Nat.le_of_ble_eq_true rfl) (Nat.le_of_ble_eq_true rfl) ⟨by decide +kernel, rfl⟩ (ksG_packed ca D) ?_
  refine b_keyst (pc' := 41) (i := 3) 1 rfl (by decide) (by decide) ⟨by decide +kernel, rfl⟩ ?_
  simp only [List.cons_append, List.nil_append, List.set_cons_zero, List.set_cons_succ]
  refine b_dup (pc' := 42) rfl ⟨by decide +kernel, rfl⟩ ?_
  refine b_iconst (pc' := 43) (n := 4) (v := 4) (by decide) ⟨by decide +kernel, rfl⟩ ?_
  refine b_ldcS (pc' := 45) (i := 4) (idx := 23) (by decide) rfl rfl ⟨by decide +kernel, rfl⟩ ?_
  refine b_packed (pc' := 48) (i := 4) (by decide) rfl (Nat.le_of_ble_eq_true rfl) (cek_w2 32 rfl) (Nat.le_of_ble_eq_true rfl) (Nat.le_of_ble_eq_true rfl) (Nat.le_of_ble_eq_true rfl) ⟨by decide +kernel, rfl⟩ (ksG_packed ca D) ?_
  refine b_keyst (pc' := 49) (i := 4) 1 rfl (by decide) (by decide) ⟨by decide +kernel, rfl⟩ ?_
  simp only [List.cons_append, List.nil_append, List.set_cons_zero, List.set_cons_succ]
  refine b_dup (pc' := 50) rfl ⟨by decide +kernel, rfl⟩ ?_
  refine b_iconst (pc' := 51) (n := 5) (v := 5) (by decide) ⟨by decide +kernel, rfl⟩ ?_
  refine b_ldcS (pc' := 53) (i := 5) (idx := 25) (by decide) rfl rfl ⟨by decide +kernel, rfl⟩ ?_
  refine b_packed (pc' := 56) (i := 5) (by decide) rfl (Nat.le_of_ble_eq_true rfl) (cek_w2 32 rfl) (Nat.le_of_ble_eq_true rfl) (Nat.le_of_ble_eq_true rfl) (Nat.le_of_ble_eq_true rfl) ⟨by decide +kernel, rfl⟩ (ksG_packed ca D) ?_
  refine b_keyst (pc' := 57) (i := 5) 1 rfl (by decide) (by decide) ⟨by decide +kernel, rfl⟩ ?_
  simp only [List.cons_append, List.nil_append, List.set_cons_zero, List.set_cons_succ]
  refine b_dup (pc' := 58) rfl ⟨by decide +kernel, rfl⟩ ?_
  refine b_bipush (pc' := 60) (n := 6) (v := 6) (by decide) ⟨by decide +kernel, rfl⟩ ?_
  refine b_ldcS (pc' := 62) (i := 6) (idx := 27) (by decide) rfl rfl ⟨by decide +kernel, rfl⟩ ?_
  refine b_packed (pc' := 65) (i := 6) (by decide) rfl (Nat.le_of_ble_eq_true rfl) (cek_w2 32 rfl) (Nat.le_of_ble_eq_true rfl) (Nat.le_of_ble_eq_true rfl) (Nat.le_of_ble_eq_true rfl) ⟨by decide +kernel, rfl⟩ (ksG_packed ca D) ?_
  refine b_keyst (pc' := 66) (i := 6) 1 rfl (by decide) (by decide) ⟨by decide +kernel, rfl⟩ ?_
  simp only [List.cons_append, List.nil_append, List.set_cons_zero, List.set_cons_succ]
  refine b_dup (pc' := 67) rfl ⟨by decide +kernel, rfl⟩ ?_
  refine b_bipush (pc' := 69) (n := 7) (v := 7) (by decide) ⟨by decide +kernel, rfl⟩ ?_
  refine b_ldcS (pc' := 71) (i := 7) (idx := 29) (by decide) rfl rfl ⟨by decide +kernel, rfl⟩ ?_
  refine b_packed (pc' := 74) (i := 7) (by decide) rfl (Nat.le_of_ble_eq_true rfl) (cek_w2 32 rfl) (Nat.le_of_ble_eq_true rfl) (Nat.le_of_ble_eq_true rfl) (Nat.le_of_ble_eq_true rfl) ⟨by decide +kernel, rfl⟩ (ksG_packed ca D) ?_
  refine b_keyst (pc' := 75) (i := 7) 1 rfl (by decide) (by decide) ⟨by decide +kernel, rfl⟩ ?_
  simp only [List.cons_append, List.nil_append, List.set_cons_zero, List.set_cons_succ]
  refine b_dup (pc' := 76) rfl ⟨by decide +kernel, rfl⟩ ?_
  refine b_bipush (pc' := 78) (n := 8) (v := 8) (by decide) ⟨by decide +kernel, rfl⟩ ?_
  refine b_ldcS (pc' := 80) (i := 8) (idx := 31) (by decide) rfl rfl ⟨by decide +kernel, rfl⟩ ?_
  refine b_packed (pc' := 83) (i := 8) (by decide) rfl (Nat.le_of_ble_eq_true rfl) (cek_w2 32 rfl) (Nat.le_of_ble_eq_true rfl) (Nat.le_of_ble_eq_true rfl) (Nat.le_of_ble_eq_true rfl) ⟨by decide +kernel, rfl⟩ (ksG_packed ca D) ?_
  refine b_keyst (pc' := 84) (i := 8) 1 rfl (by decide) (by decide) ⟨by decide +kernel, rfl⟩ ?_
  simp only [List.cons_append, List.nil_append, List.set_cons_zero, List.set_cons_succ]
  refine b_dup (pc' := 85) rfl ⟨by decide +kernel, rfl⟩ ?_
  refine b_bipush (pc' := 87) (n := 9) (v := 9) (by decide) ⟨by decide +kernel, rfl⟩ ?_
  refine b_ldcS (pc' := 89) (i := 9) (idx := 33) (by decide) rfl rfl ⟨by decide +kernel, rfl⟩ ?_
  refine b_packed (pc' := 92) (i := 9) (by decide) rfl (Nat.le_of_ble_eq_true rfl) (cek_w2 32 rfl) (Nat.le_of_ble_eq_true rfl) (Nat.le_of_ble_eq_true rfl) (Nat.le_of_ble_eq_true rfl) ⟨by decide +kernel, rfl⟩ (ksG_packed ca D) ?_
  refine b_keyst (pc' := 93) (i := 9) 1 rfl (by decide) (by decide) ⟨by decide +kernel, rfl⟩ ?_
  simp only [List.cons_append, List.nil_append, List.set_cons_zero, List.set_cons_succ]
  refine b_dup (pc' := 94) rfl ⟨by decide +kernel, rfl⟩ ?_
  refine b_bipush (pc' := 96) (n := 10) (v := 10) (by decide) ⟨by decide +kernel, rfl⟩ ?_
  refine b_ldcS (pc' := 98) (i := 10) (idx := 35) (by decide) rfl rfl ⟨by decide +kernel, rfl⟩ ?_
  refine b_packed (pc' := 101) (i := 10) (by decide) rfl (Nat.le_of_ble_eq_true rfl) (cek_w2 32 rfl) (Nat.le_of_ble_eq_true rfl) (Nat.le_of_ble_eq_true rfl) (Nat.le_of_ble_eq_true rfl) ⟨by decide +kernel, rfl⟩ (ksG_packed ca D) ?_
  refine b_keyst (pc' := 102) (i := 10) 1 rfl (by decide) (by decide) ⟨by decide +kernel, rfl⟩ ?_
  simp only [List.cons_append, List.nil_append, List.set_cons_zero, List.set_cons_succ]
  refine b_dup (pc' := 103) rfl ⟨by decide +kernel, rfl⟩ ?_
  refine b_bipush (pc' := 105) (n := 11) (v := 11) (by decide) ⟨by decide +kernel, rfl⟩ ?_
  refine b_ldcS (pc' := 107) (i := 11) (idx := 37) (by decide) rfl rfl ⟨by decide +kernel, rfl⟩ ?_
  refine b_packed (pc' := 110) (i := 11) (by decide) rfl (Nat.le_of_ble_eq_true rfl) (cek_w2 32 rfl) (Nat.le_of_ble_eq_true rfl) (Nat.le_of_ble_eq_true rfl) (Nat.le_of_ble_eq_true rfl) ⟨by decide +kernel, rfl⟩ (ksG_packed ca D) ?_
  refine b_keyst (pc' := 111) (i := 11) 1 rfl (by decide) (by decide) ⟨by decide +kernel, rfl⟩ ?_
  simp only [List.cons_append, List.nil_append, List.set_cons_zero, List.set_cons_succ]
  refine b_put (pc' := 114) (idx := 39) (ci := 2) (N := 9) (j := 0) (f := true) (ty := .array .long) 0 ⟨ce_RX, ce_TX, ce_tyX, rfl, cek_zX, (Nat.le_of_ble_eq_true rfl), (cek_w2 36 rfl), rfl, rfl, rfl⟩ rfl rfl rfl rfl ⟨by decide +kernel, rfl⟩ ?_
  simp only [List.cons_append, List.nil_append, List.set_cons_zero, List.set_cons_succ]
  refine b_aload (pc' := 115) (k := 0) (i := 0) 0 rfl rfl ⟨by decide +kernel, rfl⟩ ?_
  refine b_sipush (pc' := 118) (n := 1501) (v := 1501) (by decide) ⟨by decide +kernel, rfl⟩ ?_
  refine b_newa (pc' := 120) (atype := .short) (ty := .short) (t := 3) (N := 1501) (a0 := (1501, .inl (fun _ => 0))) (cek_w1 2 rfl) rfl ⟨2, by decide, rfl⟩ (fun _ => rfl) (by decide) (by decide) (Nat.le_of_ble_eq_true rfl) (Nat.le_of_ble_eq_true rfl) (Nat.le_of_ble_eq_true rfl) (Or.inr (Or.inr (Or.inl rfl))) ⟨by decide +kernel, rfl⟩ (fun q2 => ?_)
  refine b_put (pc' := 123) (idx := 43) (ci := 2) (N := 9) (j := 1) (f := true) (ty := .array .short) 0 ⟨ce_RX, ce_TX, ce_tyX, rfl, cek_zX, (Nat.le_of_ble_eq_true rfl), (cek_w2 37 rfl), rfl, rfl, rfl⟩ rfl rfl rfl rfl ⟨by decide +kernel, rfl⟩ ?_
  simp only [List.cons_append, List.nil_append, List.set_cons_zero, List.set_cons_succ]
  refine b_aload (pc' := 124) (k := 0) (i := 0) 0 rfl rfl ⟨by decide +kernel, rfl⟩ ?_
  refine b_sipush (pc' := 127) (n := 1501) (v := 1501) (by decide) ⟨by decide +kernel, rfl⟩ ?_
  refine b_newa (pc' := 129) (atype := .short) (ty := .short) (t := 3) (N := 1501) (a0 := (1501, .inl (fun _ => 0))) (cek_w1 2 rfl) rfl ⟨2, by decide, rfl⟩ (fun _ => rfl) (by decide) (by decide) (Nat.le_of_ble_eq_true rfl) (Nat.le_of_ble_eq_true rfl) (Nat.le_of_ble_eq_true rfl) (Or.inr (Or.inr (Or.inl rfl))) ⟨by decide +kernel, rfl⟩ (fun q3 => ?_)
  refine b_put (pc' := 132) (idx := 47) (ci := 2) (N := 9) (j := 2) (f := true) (ty := .array .short) 0 ⟨ce_RX, ce_TX, ce_tyX, rfl, cek_zX, (Nat.le_of_ble_eq_true rfl), (cek_w2 38 rfl), rfl, rfl, rfl⟩ rfl rfl rfl rfl ⟨by decide +kernel, rfl⟩ ?_
  simp only [List.cons_append, List.nil_append, List.set_cons_zero, List.set_cons_succ]
  refine b_aload (pc' := 133) (k := 0) (i := 0) 0 rfl rfl ⟨by decide +kernel, rfl⟩ ?_
  refine b_sipush (pc' := 136) (n := 1501) (v := 1501) (by decide) ⟨by decide +kernel, rfl⟩ ?_
  refine b_newa (pc' := 138) (atype := .long) (ty := .long) (t := 5) (N := 1501) (a0 := (1501, .inr (.inl (fun _ => 0)))) (cek_w0 10 rfl) rfl ⟨4, by decide, rfl⟩ (fun _ => rfl) (by decide) (by decide) (Nat.le_of_ble_eq_true rfl) (Nat.le_of_ble_eq_true rfl) (Nat.le_of_ble_eq_true rfl) (Or.inr (Or.inr (Or.inr (Or.inr rfl)))) ⟨by decide +kernel, rfl⟩ (fun q4 => ?_)
  refine b_put (pc' := 141) (idx := 50) (ci := 2) (N := 9) (j := 3) (f := true) (ty := .array .long) 0 ⟨ce_RX, ce_TX, ce_tyX, rfl, cek_zX, (Nat.le_of_ble_eq_true rfl), (cek_w2 39 rfl), rfl, rfl, rfl⟩ rfl rfl rfl rfl ⟨by decide +kernel, rfl⟩ ?_
  simp only [List.cons_append, List.nil_append, List.set_cons_zero, List.set_cons_succ]
  refine b_aload (pc' := 142) (k := 0) (i := 0) 0 rfl rfl ⟨by decide +kernel, rfl⟩ ?_
  refine b_sipush (pc' := 145) (n := 256) (v := 256) (by decide) ⟨by decide +kernel, rfl⟩ ?_
  refine b_put (pc' := 148) (idx := 53) (ci := 2) (N := 9) (j := 6) (f := false) (ty := .int) 0 ⟨ce_RX, ce_TX, ce_tyX, rfl, cek_zX, (Nat.le_of_ble_eq_true rfl), (cek_w3 0 rfl), rfl, rfl, rfl⟩ rfl rfl rfl rfl ⟨by decide +kernel, rfl⟩ ?_
  simp only [List.cons_append, List.nil_append, List.set_cons_zero, List.set_cons_succ]
  exact b_end (pc' := 149) (bGs [q1, q2, q3, q4]) (by simp only [cw_X, List.cons_append, List.nil_append]; rfl) rfl rfl ⟨by decide +kernel, rfl⟩
def cw_C (ca : Nat → ClassId) (x : Nat) (g : Nat → Nat) : va_W := [(x, .inr (1, [.ref (g 1), .null, .int 0, .int 0, .int (-1), .int 0, .int 0, .ref (g 6), .int 0, .ref (g 7), .ref (g 8), .ref (g 9), .int 0]))] ++ (cw_X ca (g 1) (fun k => g (1 + k)) ++ ([(g 6, .inl (ca 5, 12, .inr (.inl (fun _ => 0)))), (g 7, .inl (ca 5, 500, .inr (.inl (fun _ => 0)))), (g 8, .inl (ca 1, 500, .inl (fun _ => 0))), (g 9, .inl (ca 1, 500, .inl (fun _ => 0)))]))
set_option maxRecDepth 20000 in
set_option maxHeartbeats 4000000 in
theorem cc_C (l : Launch) (ca : Nat → ClassId) (D : va_G) (x : Nat) : bMet l (zCk ca D) ceY_C_init (.code ceY_C_init prog_2_method_1_code 1 none) 6 9 6036 [.ref x] [(x, .inr (1, [.null, .null, .int 0, .int 0, .int 0, .int 0, .int 0, .null, .int 0, .null, .null, .null, .int 0]))] (fun g => cw_C ca x g) := by
  refine bMet.of (by decide +kernel) rfl (Nat.le_of_ble_eq_true rfl) fun κ A hl => ?_
  subst hl
  refine b_aload (pc' := 1) (k := 0) (i := 0) 0 rfl rfl ⟨by decide +kernel, rfl⟩ ?_
  refine b_oinit (pc' := 4) (idx := 3) (cek_w3 1 rfl) (cek_w0 1 rfl) (cek_w0 2 rfl) (Nat.le_of_ble_eq_true rfl) ⟨by decide +kernel, rfl⟩ ?_
  refine b_aload (pc' := 5) (k := 0) (i := 0) 0 rfl rfl ⟨by decide +kernel, rfl⟩ ?_
  refine b_new (pc' := 8) (idx := 9) (ci := 2) (N := 9) (C := ce_RX) (Tt := ce_TX) (tf := ce_tyX) (fs := [.null, .null, .null, .null, .int 0, .int 0, .int 0, .int 0, .long 0]) rfl cek_zX (cek_w3 2 rfl) (cek_w3 3 rfl) (cek_w2 34 rfl) (fun j hj => match j, hj with | 0, _ => rfl | 1, _ => rfl | 2, _ => rfl | 3, _ => rfl | 4, _ => rfl | 5, _ => rfl | 6, _ => rfl | 7, _ => rfl | 8, _ => rfl | n + 9, h => absurd h (by omega)) (Nat.le_of_ble_eq_true rfl) (Nat.le_of_ble_eq_true rfl) ⟨by decide +kernel, rfl⟩ (fun q1 => ?_)
  refine b_dup (pc' := 9) rfl ⟨by decide +kernel, rfl⟩ ?_
  refine b_ctorN (pc' := 12) (idx := 11) (cc_X (zKl κ) ca D q1) cek_gX (cek_w2 34 rfl) (host := "ShapeEngine") (fun _ _ _ h => zNs_get h 5 rfl) (cek_w3 4 rfl) rfl (by decide +kernel) (Nat.le_of_ble_eq_true rfl) (Nat.le_of_ble_eq_true rfl) rfl rfl (Nat.le_of_ble_eq_true rfl) (Nat.le_of_ble_eq_true rfl) (Nat.le_of_ble_eq_true rfl) ⟨by decide +kernel, rfl⟩ (fun g2 => ?_)
  refine b_put (pc' := 15) (idx := 12) (ci := 1) (N := 13) (j := 0) (f := true) (ty := .object "ShapeEngine$Lexer") 0 ⟨ce_RC, ce_TC, ce_tyC, rfl, cek_zC, (Nat.le_of_ble_eq_true rfl), (cek_w3 6 rfl), rfl, rfl, rfl⟩ rfl rfl rfl rfl ⟨by decide +kernel, rfl⟩ ?_
  simp only [List.cons_append, List.nil_append, List.set_cons_zero, List.set_cons_succ]
  refine b_aload (pc' := 16) (k := 0) (i := 0) 0 rfl rfl ⟨by decide +kernel, rfl⟩ ?_
  refine b_iconst (pc' := 17) (n := -1) (v := -1) (by decide) ⟨by decide +kernel, rfl⟩ ?_
  refine b_put (pc' := 20) (idx := 18) (ci := 1) (N := 13) (j := 4) (f := false) (ty := .int) 0 ⟨ce_RC, ce_TC, ce_tyC, rfl, cek_zC, (Nat.le_of_ble_eq_true rfl), (cek_w3 7 rfl), rfl, rfl, rfl⟩ rfl rfl rfl rfl ⟨by decide +kernel, rfl⟩ ?_
  simp only [List.cons_append, List.nil_append, List.set_cons_zero, List.set_cons_succ]
  refine b_aload (pc' := 21) (k := 0) (i := 0) 0 rfl rfl ⟨by decide +kernel, rfl⟩ ?_
  refine b_bipush (pc' := 23) (n := 12) (v := 12) (by decide) ⟨by decide +kernel, rfl⟩ ?_
  refine b_newa (pc' := 25) (atype := .long) (ty := .long) (t := 5) (N := 12) (a0 := (12, .inr (.inl (fun _ => 0)))) (cek_w0 10 rfl) rfl ⟨4, by decide, rfl⟩ (fun _ => rfl) (by decide) (by decide) (Nat.le_of_ble_eq_true rfl) (Nat.le_of_ble_eq_true rfl) (Nat.le_of_ble_eq_true rfl) (Or.inr (Or.inr (Or.inr (Or.inr rfl)))) ⟨by decide +kernel, rfl⟩ (fun q3 => ?_)
  refine b_put (pc' := 28) (idx := 22) (ci := 1) (N := 13) (j := 7) (f := true) (ty := .array .long) 0 ⟨ce_RC, ce_TC, ce_tyC, rfl, cek_zC, (Nat.le_of_ble_eq_true rfl), (cek_w3 8 rfl), rfl, rfl, rfl⟩ rfl rfl rfl rfl ⟨by decide +kernel, rfl⟩ ?_
  simp only [List.cons_append, List.nil_append, List.set_cons_zero, List.set_cons_succ]
  refine b_aload (pc' := 29) (k := 0) (i := 0) 0 rfl rfl ⟨by decide +kernel, rfl⟩ ?_
  refine b_sipush (pc' := 32) (n := 500) (v := 500) (by decide) ⟨by decide +kernel, rfl⟩ ?_
  refine b_newa (pc' := 34) (atype := .long) (ty := .long) (t := 5) (N := 500) (a0 := (500, .inr (.inl (fun _ => 0)))) (cek_w0 10 rfl) rfl ⟨4, by decide, rfl⟩ (fun _ => rfl) (by decide) (by decide) (Nat.le_of_ble_eq_true rfl) (Nat.le_of_ble_eq_true rfl) (Nat.le_of_ble_eq_true rfl) (Or.inr (Or.inr (Or.inr (Or.inr rfl)))) ⟨by decide +kernel, rfl⟩ (fun q4 => ?_)
  refine b_put (pc' := 37) (idx := 26) (ci := 1) (N := 13) (j := 9) (f := true) (ty := .array .long) 0 ⟨ce_RC, ce_TC, ce_tyC, rfl, cek_zC, (Nat.le_of_ble_eq_true rfl), (cek_w3 9 rfl), rfl, rfl, rfl⟩ rfl rfl rfl rfl ⟨by decide +kernel, rfl⟩ ?_
  simp only [List.cons_append, List.nil_append, List.set_cons_zero, List.set_cons_succ]
  refine b_aload (pc' := 38) (k := 0) (i := 0) 0 rfl rfl ⟨by decide +kernel, rfl⟩ ?_
  refine b_sipush (pc' := 41) (n := 500) (v := 500) (by decide) ⟨by decide +kernel, rfl⟩ ?_
  refine b_newa (pc' := 43) (atype := .int) (ty := .int) (t := 1) (N := 500) (a0 := (500, .inl (fun _ => 0))) (cek_w0 13 rfl) rfl ⟨0, by decide, rfl⟩ (fun _ => rfl) (by decide) (by decide) (Nat.le_of_ble_eq_true rfl) (Nat.le_of_ble_eq_true rfl) (Nat.le_of_ble_eq_true rfl) (Or.inl rfl) ⟨by decide +kernel, rfl⟩ (fun q5 => ?_)
  refine b_put (pc' := 46) (idx := 29) (ci := 1) (N := 13) (j := 10) (f := true) (ty := .array .int) 0 ⟨ce_RC, ce_TC, ce_tyC, rfl, cek_zC, (Nat.le_of_ble_eq_true rfl), (cek_w3 10 rfl), rfl, rfl, rfl⟩ rfl rfl rfl rfl ⟨by decide +kernel, rfl⟩ ?_
  simp only [List.cons_append, List.nil_append, List.set_cons_zero, List.set_cons_succ]
  refine b_aload (pc' := 47) (k := 0) (i := 0) 0 rfl rfl ⟨by decide +kernel, rfl⟩ ?_
  refine b_sipush (pc' := 50) (n := 500) (v := 500) (by decide) ⟨by decide +kernel, rfl⟩ ?_
  refine b_newa (pc' := 52) (atype := .int) (ty := .int) (t := 1) (N := 500) (a0 := (500, .inl (fun _ => 0))) (cek_w0 13 rfl) rfl ⟨0, by decide, rfl⟩ (fun _ => rfl) (by decide) (by decide) (Nat.le_of_ble_eq_true rfl) (Nat.le_of_ble_eq_true rfl) (Nat.le_of_ble_eq_true rfl) (Or.inl rfl) ⟨by decide +kernel, rfl⟩ (fun q6 => ?_)
  refine b_put (pc' := 55) (idx := 33) (ci := 1) (N := 13) (j := 11) (f := true) (ty := .array .int) 0 ⟨ce_RC, ce_TC, ce_tyC, rfl, cek_zC, (Nat.le_of_ble_eq_true rfl), (cek_w3 11 rfl), rfl, rfl, rfl⟩ rfl rfl rfl rfl ⟨by decide +kernel, rfl⟩ ?_
  simp only [List.cons_append, List.nil_append, List.set_cons_zero, List.set_cons_succ]
  exact b_end (pc' := 56) (bGs [q1, (g2 1), (g2 2), (g2 3), (g2 4), q3, q4, q5, q6]) (by simp only [cw_C, cw_X, List.cons_append, List.nil_append]; rfl) rfl rfl ⟨by decide +kernel, rfl⟩
