/-! the reference's methods meet their models (printed by wip/gen/ref.py) -/
set_option maxRecDepth 20000 in
set_option maxHeartbeats 4000000 in
theorem rf_variable_J17_t {κ : zKx} {ca : Nat → ClassId} {D : va_G} {A : Nat → Prop} {c0 : Nat × Nat} {a g0 g : Nat → Nat} (n : Nat) (u : zMu) (x2 : Int32) (x3 : Int32) : zJ κ (zRf ca D) prog_13_method_29_code 4 rf_C none zrv true 1 A c0 a g0 g u 17 [(0, .ref (a 0)), (2, .int x2), (3, .int x3)] [] (rf_variable_J17 n u x2 x3) := by
  unfold rf_variable_J17
  refine z_aload_n (pc' := 18) (k := 0) (i := 0) 0 rfl rfl ⟨by decide +kernel, rfl⟩ ?_
  refine z_iconst (pc' := 19) (n := 3) (v := 3) (by decide) ⟨by decide +kernel, rfl⟩ ?_
  refine z_iload_n (pc' := 20) (k := 3) (i := 3) 2 rfl rfl ⟨by decide +kernel, rfl⟩ ?_
  refine z_iconst (pc' := 21) (n := 0) (v := 0) (by decide) ⟨by decide +kernel, rfl⟩ ?_
  refine z_iload_n (pc' := 22) (k := 2) (i := 2) 1 rfl rfl ⟨by decide +kernel, rfl⟩ ?_
  refine z_callVf (pc' := 25) 0 (rft_emit n u 3 x3 0 x2) (rfG_emit ca D) (rfO ca D) rfl (by omega) rfl rfl (Nat.le_of_ble_eq_true rfl) ⟨by decide +kernel, rfl⟩ (fun _ u2 => ?_)
  refine z_aload_n (pc' := 26) (k := 0) (i := 0) 0 rfl rfl ⟨by decide +kernel, rfl⟩ ?_
  refine z_iconst (pc' := 27) (n := 1) (v := 1) (by decide) ⟨by decide +kernel, rfl⟩ ?_
  refine z_putI (pc' := 30) (rff_kind ca D) rfl ⟨by decide +kernel, rfl⟩ (z_letU fun u3 => ?_)
  exact z_vret (pc' := 31) ⟨by decide +kernel, rfl⟩
set_option maxRecDepth 20000 in
set_option maxHeartbeats 4000000 in
theorem rft_variable {l : Launch} {ca : Nat → ClassId} {D : va_G} {a g : Nat → Nat} (n : Nat) (u : zMu) (x1 : Int32) (x2 : Int32) : zMet l (zRf ca D) rfY_variable (.code rfY_variable prog_13_method_29_code 4 none) zrv true 1 a g [.ref (a 0), .int x1, .int x2] u (rf_variable n u x1 x2) := by
  refine zMet.of rfl (Nat.le_of_ble_eq_true rfl) fun κ A hl => ?_
  subst hl
  unfold rf_variable
  refine z_aload_n (pc' := 1) (k := 0) (i := 0) 0 rfl rfl ⟨by decide +kernel, rfl⟩ ?_
  refine z_iload_n (pc' := 2) (k := 1) (i := 1) 1 rfl rfl ⟨by decide +kernel, rfl⟩ ?_
  refine z_callVf (pc' := 5) 0 (rft_findVar n u x1) (rfG_findVar ca D) (rfO ca D) rfl (by omega) rfl rfl (Nat.le_of_ble_eq_true rfl) ⟨by decide +kernel, rfl⟩ (fun r1 u2 => ?_)
  refine z_istore_n (pc' := 6) (k := 3) (i := 3) rfl (by decide) rfl ⟨by decide +kernel, rfl⟩ ?_
  refine z_iload_n (pc' := 7) (k := 3) (i := 3) 0 rfl rfl ⟨by decide +kernel, rfl⟩ ?_
  refine z_iconst (pc' := 8) (n := (-1)) (v := (-1)) (by decide) ⟨by decide +kernel, rfl⟩ ?_
  refine z_icmp_ne (pc' := 11) (tgt := 17) (off := 9) ⟨by decide +kernel, rfl⟩ rfl (fun h3 => ?_) (fun h3 => ?_)
  · refine z_aload_n (pc' := 12) (k := 0) (i := 0) 1 rfl rfl ⟨by decide +kernel, rfl⟩ ?_
    refine z_iload_n (pc' := 13) (k := 2) (i := 2) 3 rfl rfl ⟨by decide +kernel, rfl⟩ ?_
    refine z_iconst (pc' := 14) (n := 2) (v := 2) (by decide) ⟨by decide +kernel, rfl⟩ ?_
    refine z_callVf (pc' := 17) 0 (rft_notes n u2 x2 2) (rfG_notes ca D) (rfO ca D) rfl (by omega) rfl rfl (Nat.le_of_ble_eq_true rfl) ⟨by decide +kernel, rfl⟩ (fun _ u5 => ?_)
    refine z_lv [1, 3, 0] (lv' := [(0, .ref (a 0)), (2, .int x2), (3, .int r1)]) rfl ?_
    exact rf_variable_J17_t n u5 x2 r1
  · refine z_lv [1, 3, 0] (lv' := [(0, .ref (a 0)), (2, .int x2), (3, .int r1)]) rfl ?_
    exact rf_variable_J17_t n u2 x2 r1
set_option maxRecDepth 20000 in
set_option maxHeartbeats 4000000 in
theorem rf_expr_J48_t {κ : zKx} {ca : Nat → ClassId} {D : va_G} {A : Nat → Prop} {c0 : Nat × Nat} {a g0 g : Nat → Nat} {d : Nat} (n : Nat) (f_sum : zMu → Option (Unit × zMu)) (h_sum : ∀ (u : zMu), zMet (zKl κ) (zRf ca D) rfY_sum (.code rfY_sum prog_13_method_25_code 4 none) zrv true d a g [.ref (a 0)] u (f_sum u)) (hb : 4 ≤ d) (u : zMu) (s0 : Int32) : zJ κ (zRf ca D) prog_13_method_24_code 3 rf_C none zrv true (d + 1) A c0 a g0 g u 48 [(0, .ref (a 0))] [.int s0] (rf_expr_J48 n f_sum u s0) := by
  unfold rf_expr_J48
  refine z_istore_n (pc' := 49) (k := 1) (i := 1) rfl (by decide) rfl ⟨by decide +kernel, rfl⟩ ?_
  refine z_aload_n (pc' := 50) (k := 0) (i := 0) 1 rfl rfl ⟨by decide +kernel, rfl⟩ ?_
  refine z_callVf (pc' := 53) 0 (rft_place n u) (rfG_place ca D) (rfO ca D) rfl (by omega) rfl rfl (Nat.le_of_ble_eq_true rfl) ⟨by decide +kernel, rfl⟩ (fun r1 u2 => ?_)
  refine z_istore_n (pc' := 54) (k := 2) (i := 2) rfl (by decide) rfl ⟨by decide +kernel, rfl⟩ ?_
  refine z_aload_n (pc' := 55) (k := 0) (i := 0) 2 rfl rfl ⟨by decide +kernel, rfl⟩ ?_
  refine z_dup (pc' := 56) rfl ⟨by decide +kernel, rfl⟩ ?_
  refine z_getI (pc' := 59) (rff_at ca D) rfl ⟨by decide +kernel, rfl⟩ ?_
  refine z_iconst (pc' := 60) (n := 1) (v := 1) (by decide) ⟨by decide +kernel, rfl⟩ ?_
  refine z_iadd (pc' := 61) ⟨by decide +kernel, rfl⟩ ?_
  refine z_putI (pc' := 64) (rff_at ca D) rfl ⟨by decide +kernel, rfl⟩ (z_letU fun u3 => ?_)
  refine z_aload_n (pc' := 65) (k := 0) (i := 0) 2 rfl rfl ⟨by decide +kernel, rfl⟩ ?_
  refine z_callVf (pc' := 68) 0 (h_sum u3) (rfG_sum ca D) (rfO ca D) rfl (by omega) rfl rfl (Nat.le_of_ble_eq_true rfl) ⟨by decide +kernel, rfl⟩ (fun _ u5 => ?_)
  refine z_aload_n (pc' := 69) (k := 0) (i := 0) 2 rfl rfl ⟨by decide +kernel, rfl⟩ ?_
  refine z_iload_n (pc' := 70) (k := 1) (i := 1) 1 rfl rfl ⟨by decide +kernel, rfl⟩ ?_
  refine z_iconst (pc' := 71) (n := 0) (v := 0) (by decide) ⟨by decide +kernel, rfl⟩ ?_
  refine z_iconst (pc' := 72) (n := 0) (v := 0) (by decide) ⟨by decide +kernel, rfl⟩ ?_
  refine z_iload_n (pc' := 73) (k := 2) (i := 2) 0 rfl rfl ⟨by decide +kernel, rfl⟩ ?_
  refine z_callVf (pc' := 76) 0 (rft_emit n u5 s0 0 0 r1) (rfG_emit ca D) (rfO ca D) rfl (by omega) rfl rfl (Nat.le_of_ble_eq_true rfl) ⟨by decide +kernel, rfl⟩ (fun _ u7 => ?_)
  refine z_aload_n (pc' := 77) (k := 0) (i := 0) 2 rfl rfl ⟨by decide +kernel, rfl⟩ ?_
  refine z_iconst (pc' := 78) (n := 0) (v := 0) (by decide) ⟨by decide +kernel, rfl⟩ ?_
  refine z_putI (pc' := 81) (rff_kind ca D) rfl ⟨by decide +kernel, rfl⟩ (z_letU fun u8 => ?_)
  exact z_vret (pc' := 82) ⟨by decide +kernel, rfl⟩
set_option maxRecDepth 20000 in
set_option maxHeartbeats 4000000 in
theorem rf_expr_J31_t {κ : zKx} {ca : Nat → ClassId} {D : va_G} {A : Nat → Prop} {c0 : Nat × Nat} {a g0 g : Nat → Nat} {d : Nat} (n : Nat) (f_sum : zMu → Option (Unit × zMu)) (h_sum : ∀ (u : zMu), zMet (zKl κ) (zRf ca D) rfY_sum (.code rfY_sum prog_13_method_25_code 4 none) zrv true d a g [.ref (a 0)] u (f_sum u)) (hb : 4 ≤ d) (u : zMu) : zJ κ (zRf ca D) prog_13_method_24_code 3 rf_C none zrv true (d + 1) A c0 a g0 g u 31 [(0, .ref (a 0))] [] (rf_expr_J31 n f_sum u) := by
  unfold rf_expr_J31
  refine z_aload_n (pc' := 32) (k := 0) (i := 0) 0 rfl rfl ⟨by decide +kernel, rfl⟩ ?_
  refine z_callVf (pc' := 35) 0 (rft_now n u) (rfG_now ca D) (rfO ca D) rfl (by omega) rfl rfl (Nat.le_of_ble_eq_true rfl) ⟨by decide +kernel, rfl⟩ (fun r1 u2 => ?_)
  refine z_sipush (pc' := 38) (n := 150) (v := 150) (by decide) ⟨by decide +kernel, rfl⟩ ?_
  refine z_icmp_ne (pc' := 41) (tgt := 46) (off := 8) ⟨by decide +kernel, rfl⟩ rfl (fun h3 => ?_) (fun h3 => ?_)
  · refine z_bipush (pc' := 43) (n := 11) (v := 11) (by decide) ⟨by decide +kernel, rfl⟩ ?_
    refine z_goto (tgt := 48) (off := 5) (by decide +kernel) rfl ?_
    exact rf_expr_J48_t n f_sum h_sum hb u2 11
  · refine z_bipush (pc' := 48) (n := 10) (v := 10) (by decide) ⟨by decide +kernel, rfl⟩ ?_
    exact rf_expr_J48_t n f_sum h_sum hb u2 10
set_option maxRecDepth 20000 in
set_option maxHeartbeats 4000000 in
theorem rft_expr_b {l : Launch} {ca : Nat → ClassId} {D : va_G} {a g : Nat → Nat} {d : Nat} (n : Nat) (f_sum : zMu → Option (Unit × zMu)) (h_sum : ∀ (u : zMu), zMet l (zRf ca D) rfY_sum (.code rfY_sum prog_13_method_25_code 4 none) zrv true d a g [.ref (a 0)] u (f_sum u)) (hb : 4 ≤ d) (u : zMu) : zMet l (zRf ca D) rfY_expr (.code rfY_expr prog_13_method_24_code 3 none) zrv true (d + 1) a g [.ref (a 0)] u (rf_expr_b n f_sum u) := by
  refine zMet.of rfl (Nat.le_of_ble_eq_true rfl) fun κ A hl => ?_
  subst hl
  unfold rf_expr_b
  refine z_aload_n (pc' := 1) (k := 0) (i := 0) 0 rfl rfl ⟨by decide +kernel, rfl⟩ ?_
  refine z_callVf (pc' := 4) 0 (h_sum u) (rfG_sum ca D) (rfO ca D) rfl (by omega) rfl rfl (Nat.le_of_ble_eq_true rfl) ⟨by decide +kernel, rfl⟩ (fun _ u2 => ?_)
  refine z_aload_n (pc' := 5) (k := 0) (i := 0) 0 rfl rfl ⟨by decide +kernel, rfl⟩ ?_
  refine z_callVf (pc' := 8) 0 (rft_isWrong n u2) (rfG_isWrong ca D) (rfO ca D) rfl (by omega) rfl rfl (Nat.le_of_ble_eq_true rfl) ⟨by decide +kernel, rfl⟩ (fun r3 u4 => ?_)
  refine z_if_ne (pc' := 11) (tgt := 30) (off := 22) ⟨by decide +kernel, rfl⟩ rfl (fun h5 => ?_) (fun h5 => ?_)
  · refine z_aload_n (pc' := 12) (k := 0) (i := 0) 0 rfl rfl ⟨by decide +kernel, rfl⟩ ?_
    refine z_callVf (pc' := 15) 0 (rft_now n u4) (rfG_now ca D) (rfO ca D) rfl (by omega) rfl rfl (Nat.le_of_ble_eq_true rfl) ⟨by decide +kernel, rfl⟩ (fun r6 u7 => ?_)
    refine z_bipush (pc' := 17) (n := 60) (v := 60) (by decide) ⟨by decide +kernel, rfl⟩ ?_
    refine z_icmp_eq (pc' := 20) (tgt := 31) (off := 14) ⟨by decide +kernel, rfl⟩ rfl (fun h8 => ?_) (fun h8 => ?_)
    · exact rf_expr_J31_t n f_sum h_sum hb u7
    · refine z_aload_n (pc' := 21) (k := 0) (i := 0) 0 rfl rfl ⟨by decide +kernel, rfl⟩ ?_
      refine z_callVf (pc' := 24) 0 (rft_now n u7) (rfG_now ca D) (rfO ca D) rfl (by omega) rfl rfl (Nat.le_of_ble_eq_true rfl) ⟨by decide +kernel, rfl⟩ (fun r9 u10 => ?_)
      refine z_sipush (pc' := 27) (n := 150) (v := 150) (by decide) ⟨by decide +kernel, rfl⟩ ?_
      refine z_icmp_eq (pc' := 30) (tgt := 31) (off := 4) ⟨by decide +kernel, rfl⟩ rfl (fun h11 => ?_) (fun h11 => ?_)
      · exact rf_expr_J31_t n f_sum h_sum hb u10
      · exact z_vret (pc' := 31) ⟨by decide +kernel, rfl⟩
  · exact z_vret (pc' := 31) ⟨by decide +kernel, rfl⟩
set_option maxRecDepth 20000 in
set_option maxHeartbeats 4000000 in
theorem rf_sum_J29_t {κ : zKx} {ca : Nat → ClassId} {D : va_G} {A : Nat → Prop} {c0 : Nat × Nat} {a g0 g : Nat → Nat} {d : Nat} (n : Nat) (f_term : zMu → Option (Unit × zMu)) (h_term : ∀ (u : zMu), zMet (zKl κ) (zRf ca D) rfY_term (.code rfY_term prog_13_method_26_code 3 none) zrv true d a g [.ref (a 0)] u (f_term u)) (hb : 4 ≤ d) (k4 : zMu → Option (Unit × zMu)) (hk4 : ∀ (u : zMu), zJ κ (zRf ca D) prog_13_method_25_code 4 rf_C none zrv true (d + 1) A c0 a g0 g u 4 [(0, .ref (a 0))] [] (k4 u)) (u : zMu) : zJ κ (zRf ca D) prog_13_method_25_code 4 rf_C none zrv true (d + 1) A c0 a g0 g u 29 [(0, .ref (a 0))] [] (rf_sum_J29 n f_term k4 u) := by
  unfold rf_sum_J29
  refine z_aload_n (pc' := 30) (k := 0) (i := 0) 0 rfl rfl ⟨by decide +kernel, rfl⟩ ?_
  refine z_callVf (pc' := 33) 0 (rft_now n u) (rfG_now ca D) (rfO ca D) rfl (by omega) rfl rfl (Nat.le_of_ble_eq_true rfl) ⟨by decide +kernel, rfl⟩ (fun r1 u2 => ?_)
  refine z_istore_n (pc' := 34) (k := 1) (i := 1) rfl (by decide) rfl ⟨by decide +kernel, rfl⟩ ?_
  refine z_aload_n (pc' := 35) (k := 0) (i := 0) 1 rfl rfl ⟨by decide +kernel, rfl⟩ ?_
  refine z_callVf (pc' := 38) 0 (rft_place n u2) (rfG_place ca D) (rfO ca D) rfl (by omega) rfl rfl (Nat.le_of_ble_eq_true rfl) ⟨by decide +kernel, rfl⟩ (fun r3 u4 => ?_)
  refine z_istore_n (pc' := 39) (k := 2) (i := 2) rfl (by decide) rfl ⟨by decide +kernel, rfl⟩ ?_
  refine z_aload_n (pc' := 40) (k := 0) (i := 0) 2 rfl rfl ⟨by decide +kernel, rfl⟩ ?_
  refine z_iconst (pc' := 41) (n := 3) (v := 3) (by decide) ⟨by decide +kernel, rfl⟩ ?_
  refine z_iconst (pc' := 42) (n := (-1)) (v := (-1)) (by decide) ⟨by decide +kernel, rfl⟩ ?_
  refine z_callVf (pc' := 45) 0 (rft_newSite n u4 3 (-1)) (rfG_newSite ca D) (rfO ca D) rfl (by omega) rfl rfl (Nat.le_of_ble_eq_true rfl) ⟨by decide +kernel, rfl⟩ (fun r5 u6 => ?_)
  refine z_istore_n (pc' := 46) (k := 3) (i := 3) rfl (by decide) rfl ⟨by decide +kernel, rfl⟩ ?_
  refine z_aload_n (pc' := 47) (k := 0) (i := 0) 3 rfl rfl ⟨by decide +kernel, rfl⟩ ?_
  refine z_dup (pc' := 48) rfl ⟨by decide +kernel, rfl⟩ ?_
  refine z_getI (pc' := 51) (rff_at ca D) rfl ⟨by decide +kernel, rfl⟩ ?_
  refine z_iconst (pc' := 52) (n := 1) (v := 1) (by decide) ⟨by decide +kernel, rfl⟩ ?_
  refine z_iadd (pc' := 53) ⟨by decide +kernel, rfl⟩ ?_
  refine z_putI (pc' := 56) (rff_at ca D) rfl ⟨by decide +kernel, rfl⟩ (z_letU fun u7 => ?_)
  refine z_aload_n (pc' := 57) (k := 0) (i := 0) 3 rfl rfl ⟨by decide +kernel, rfl⟩ ?_
  refine z_callVf (pc' := 60) 0 (h_term u7) (rfG_term ca D) (rfO ca D) rfl (by omega) rfl rfl (Nat.le_of_ble_eq_true rfl) ⟨by decide +kernel, rfl⟩ (fun _ u9 => ?_)
  refine z_aload_n (pc' := 61) (k := 0) (i := 0) 3 rfl rfl ⟨by decide +kernel, rfl⟩ ?_
  refine z_bipush (pc' := 63) (n := 8) (v := 8) (by decide) ⟨by decide +kernel, rfl⟩ ?_
  refine z_iload_n (pc' := 64) (k := 3) (i := 3) 0 rfl rfl ⟨by decide +kernel, rfl⟩ ?_
  refine z_iload_n (pc' := 65) (k := 1) (i := 1) 2 rfl rfl ⟨by decide +kernel, rfl⟩ ?_
  refine z_iload_n (pc' := 66) (k := 2) (i := 2) 1 rfl rfl ⟨by decide +kernel, rfl⟩ ?_
  refine z_callVf (pc' := 69) 0 (rft_emit n u9 8 r5 r1 r3) (rfG_emit ca D) (rfO ca D) rfl (by omega) rfl rfl (Nat.le_of_ble_eq_true rfl) ⟨by decide +kernel, rfl⟩ (fun _ u11 => ?_)
  refine z_aload_n (pc' := 70) (k := 0) (i := 0) 3 rfl rfl ⟨by decide +kernel, rfl⟩ ?_
  refine z_iconst (pc' := 71) (n := 0) (v := 0) (by decide) ⟨by decide +kernel, rfl⟩ ?_
  refine z_putI (pc' := 74) (rff_kind ca D) rfl ⟨by decide +kernel, rfl⟩ (z_letU fun u12 => ?_)
  refine z_goto (tgt := 4) (off := -70) (by decide +kernel) rfl ?_
  refine z_lv [3] (lv' := [(0, .ref (a 0))]) rfl ?_
  exact hk4 u12
set_option maxRecDepth 20000 in
set_option maxHeartbeats 4000000 in
theorem rf_sum_L4_t {κ : zKx} {ca : Nat → ClassId} {D : va_G} {A : Nat → Prop} {c0 : Nat × Nat} {a g0 g : Nat → Nat} {d : Nat} (n : Nat) (f_term : zMu → Option (Unit × zMu)) (h_term : ∀ (u : zMu), zMet (zKl κ) (zRf ca D) rfY_term (.code rfY_term prog_13_method_26_code 3 none) zrv true d a g [.ref (a 0)] u (f_term u)) (hb : 4 ≤ d) : ∀ (m : Nat) (u : zMu), zJ κ (zRf ca D) prog_13_method_25_code 4 rf_C none zrv true (d + 1) A c0 a g0 g u 4 [(0, .ref (a 0))] [] (rf_sum_L4 n f_term m u) := by
  intro m
  induction m with
  | zero => intro u r u' h; cases h
  | succ m ih =>
    intro u
    unfold rf_sum_L4
    refine z_aload_n (pc' := 5) (k := 0) (i := 0) 0 rfl rfl ⟨by decide +kernel, rfl⟩ ?_
    refine z_callVf (pc' := 8) 0 (rft_isWrong n u) (rfG_isWrong ca D) (rfO ca D) rfl (by omega) rfl rfl (Nat.le_of_ble_eq_true rfl) ⟨by decide +kernel, rfl⟩ (fun r1 u2 => ?_)
    refine z_if_ne (pc' := 11) (tgt := 77) (off := 69) ⟨by decide +kernel, rfl⟩ rfl (fun h3 => ?_) (fun h3 => ?_)
    · refine z_aload_n (pc' := 12) (k := 0) (i := 0) 0 rfl rfl ⟨by decide +kernel, rfl⟩ ?_
      refine z_callVf (pc' := 15) 0 (rft_now n u2) (rfG_now ca D) (rfO ca D) rfl (by omega) rfl rfl (Nat.le_of_ble_eq_true rfl) ⟨by decide +kernel, rfl⟩ (fun r4 u5 => ?_)
      refine z_bipush (pc' := 17) (n := 43) (v := 43) (by decide) ⟨by decide +kernel, rfl⟩ ?_
      refine z_icmp_eq (pc' := 20) (tgt := 29) (off := 12) ⟨by decide +kernel, rfl⟩ rfl (fun h6 => ?_) (fun h6 => ?_)
      · exact rf_sum_J29_t n f_term h_term hb (rf_sum_L4 n f_term m) (ih) u5
      · refine z_aload_n (pc' := 21) (k := 0) (i := 0) 0 rfl rfl ⟨by decide +kernel, rfl⟩ ?_
        refine z_callVf (pc' := 24) 0 (rft_now n u5) (rfG_now ca D) (rfO ca D) rfl (by omega) rfl rfl (Nat.le_of_ble_eq_true rfl) ⟨by decide +kernel, rfl⟩ (fun r7 u8 => ?_)
        refine z_bipush (pc' := 26) (n := 45) (v := 45) (by decide) ⟨by decide +kernel, rfl⟩ ?_
        refine z_icmp_ne (pc' := 29) (tgt := 77) (off := 51) ⟨by decide +kernel, rfl⟩ rfl (fun h9 => ?_) (fun h9 => ?_)
        · exact rf_sum_J29_t n f_term h_term hb (rf_sum_L4 n f_term m) (ih) u8
        · exact z_vret (pc' := 78) ⟨by decide +kernel, rfl⟩
    · exact z_vret (pc' := 78) ⟨by decide +kernel, rfl⟩
set_option maxRecDepth 20000 in
set_option maxHeartbeats 4000000 in
theorem rft_sum_b {l : Launch} {ca : Nat → ClassId} {D : va_G} {a g : Nat → Nat} {d : Nat} (n : Nat) (f_term : zMu → Option (Unit × zMu)) (h_term : ∀ (u : zMu), zMet l (zRf ca D) rfY_term (.code rfY_term prog_13_method_26_code 3 none) zrv true d a g [.ref (a 0)] u (f_term u)) (hb : 4 ≤ d) (u : zMu) : zMet l (zRf ca D) rfY_sum (.code rfY_sum prog_13_method_25_code 4 none) zrv true (d + 1) a g [.ref (a 0)] u (rf_sum_b n f_term u) := by
  refine zMet.of rfl (Nat.le_of_ble_eq_true rfl) fun κ A hl => ?_
  subst hl
  unfold rf_sum_b
  refine z_aload_n (pc' := 1) (k := 0) (i := 0) 0 rfl rfl ⟨by decide +kernel, rfl⟩ ?_
  refine z_callVf (pc' := 4) 0 (h_term u) (rfG_term ca D) (rfO ca D) rfl (by omega) rfl rfl (Nat.le_of_ble_eq_true rfl) ⟨by decide +kernel, rfl⟩ (fun _ u2 => ?_)
  exact rf_sum_L4_t n f_term h_term hb n u2
set_option maxRecDepth 20000 in
set_option maxHeartbeats 4000000 in
theorem rf_term_L4_t {κ : zKx} {ca : Nat → ClassId} {D : va_G} {A : Nat → Prop} {c0 : Nat × Nat} {a g0 g : Nat → Nat} {d : Nat} (n : Nat) (f_post : zMu → Option (Unit × zMu)) (h_post : ∀ (u : zMu), zMet (zKl κ) (zRf ca D) rfY_post (.code rfY_post prog_13_method_27_code 3 none) zrv true d a g [.ref (a 0)] u (f_post u)) (hb : 4 ≤ d) : ∀ (m : Nat) (u : zMu), zJ κ (zRf ca D) prog_13_method_26_code 3 rf_C none zrv true (d + 1) A c0 a g0 g u 4 [(0, .ref (a 0))] [] (rf_term_L4 n f_post m u) := by
  intro m
  induction m with
  | zero => intro u r u' h; cases h
  | succ m ih =>
    intro u
    unfold rf_term_L4
    refine z_aload_n (pc' := 5) (k := 0) (i := 0) 0 rfl rfl ⟨by decide +kernel, rfl⟩ ?_
    refine z_callVf (pc' := 8) 0 (rft_isWrong n u) (rfG_isWrong ca D) (rfO ca D) rfl (by omega) rfl rfl (Nat.le_of_ble_eq_true rfl) ⟨by decide +kernel, rfl⟩ (fun r1 u2 => ?_)
    refine z_if_ne (pc' := 11) (tgt := 64) (off := 56) ⟨by decide +kernel, rfl⟩ rfl (fun h3 => ?_) (fun h3 => ?_)
    · refine z_aload_n (pc' := 12) (k := 0) (i := 0) 0 rfl rfl ⟨by decide +kernel, rfl⟩ ?_
      refine z_callVf (pc' := 15) 0 (rft_now n u2) (rfG_now ca D) (rfO ca D) rfl (by omega) rfl rfl (Nat.le_of_ble_eq_true rfl) ⟨by decide +kernel, rfl⟩ (fun r4 u5 => ?_)
      refine z_bipush (pc' := 17) (n := 42) (v := 42) (by decide) ⟨by decide +kernel, rfl⟩ ?_
      refine z_icmp_ne (pc' := 20) (tgt := 64) (off := 47) ⟨by decide +kernel, rfl⟩ rfl (fun h6 => ?_) (fun h6 => ?_)
      · refine z_aload_n (pc' := 21) (k := 0) (i := 0) 0 rfl rfl ⟨by decide +kernel, rfl⟩ ?_
        refine z_callVf (pc' := 24) 0 (rft_place n u5) (rfG_place ca D) (rfO ca D) rfl (by omega) rfl rfl (Nat.le_of_ble_eq_true rfl) ⟨by decide +kernel, rfl⟩ (fun r7 u8 => ?_)
        refine z_istore_n (pc' := 25) (k := 1) (i := 1) rfl (by decide) rfl ⟨by decide +kernel, rfl⟩ ?_
        refine z_aload_n (pc' := 26) (k := 0) (i := 0) 1 rfl rfl ⟨by decide +kernel, rfl⟩ ?_
        refine z_iconst (pc' := 27) (n := 3) (v := 3) (by decide) ⟨by decide +kernel, rfl⟩ ?_
        refine z_iconst (pc' := 28) (n := (-1)) (v := (-1)) (by decide) ⟨by decide +kernel, rfl⟩ ?_
        refine z_callVf (pc' := 31) 0 (rft_newSite n u8 3 (-1)) (rfG_newSite ca D) (rfO ca D) rfl (by omega) rfl rfl (Nat.le_of_ble_eq_true rfl) ⟨by decide +kernel, rfl⟩ (fun r9 u10 => ?_)
        refine z_istore_n (pc' := 32) (k := 2) (i := 2) rfl (by decide) rfl ⟨by decide +kernel, rfl⟩ ?_
        refine z_aload_n (pc' := 33) (k := 0) (i := 0) 2 rfl rfl ⟨by decide +kernel, rfl⟩ ?_
        refine z_dup (pc' := 34) rfl ⟨by decide +kernel, rfl⟩ ?_
        refine z_getI (pc' := 37) (rff_at ca D) rfl ⟨by decide +kernel, rfl⟩ ?_
        refine z_iconst (pc' := 38) (n := 1) (v := 1) (by decide) ⟨by decide +kernel, rfl⟩ ?_
        refine z_iadd (pc' := 39) ⟨by decide +kernel, rfl⟩ ?_
        refine z_putI (pc' := 42) (rff_at ca D) rfl ⟨by decide +kernel, rfl⟩ (z_letU fun u11 => ?_)
        refine z_aload_n (pc' := 43) (k := 0) (i := 0) 2 rfl rfl ⟨by decide +kernel, rfl⟩ ?_
        refine z_callVf (pc' := 46) 0 (h_post u11) (rfG_post ca D) (rfO ca D) rfl (by omega) rfl rfl (Nat.le_of_ble_eq_true rfl) ⟨by decide +kernel, rfl⟩ (fun _ u13 => ?_)
        refine z_aload_n (pc' := 47) (k := 0) (i := 0) 2 rfl rfl ⟨by decide +kernel, rfl⟩ ?_
        refine z_bipush (pc' := 49) (n := 8) (v := 8) (by decide) ⟨by decide +kernel, rfl⟩ ?_
        refine z_iload_n (pc' := 50) (k := 2) (i := 2) 0 rfl rfl ⟨by decide +kernel, rfl⟩ ?_
        refine z_bipush (pc' := 52) (n := 42) (v := 42) (by decide) ⟨by decide +kernel, rfl⟩ ?_
        refine z_iload_n (pc' := 53) (k := 1) (i := 1) 1 rfl rfl ⟨by decide +kernel, rfl⟩ ?_
        refine z_callVf (pc' := 56) 0 (rft_emit n u13 8 r9 42 r7) (rfG_emit ca D) (rfO ca D) rfl (by omega) rfl rfl (Nat.le_of_ble_eq_true rfl) ⟨by decide +kernel, rfl⟩ (fun _ u15 => ?_)
        refine z_aload_n (pc' := 57) (k := 0) (i := 0) 2 rfl rfl ⟨by decide +kernel, rfl⟩ ?_
        refine z_iconst (pc' := 58) (n := 0) (v := 0) (by decide) ⟨by decide +kernel, rfl⟩ ?_
        refine z_putI (pc' := 61) (rff_kind ca D) rfl ⟨by decide +kernel, rfl⟩ (z_letU fun u16 => ?_)
        refine z_goto (tgt := 4) (off := -57) (by decide +kernel) rfl ?_
        refine z_lv [2] (lv' := [(0, .ref (a 0))]) rfl ?_
        exact ih u16
      · exact z_vret (pc' := 65) ⟨by decide +kernel, rfl⟩
    · exact z_vret (pc' := 65) ⟨by decide +kernel, rfl⟩
set_option maxRecDepth 20000 in
set_option maxHeartbeats 4000000 in
theorem rft_term_b {l : Launch} {ca : Nat → ClassId} {D : va_G} {a g : Nat → Nat} {d : Nat} (n : Nat) (f_post : zMu → Option (Unit × zMu)) (h_post : ∀ (u : zMu), zMet l (zRf ca D) rfY_post (.code rfY_post prog_13_method_27_code 3 none) zrv true d a g [.ref (a 0)] u (f_post u)) (hb : 4 ≤ d) (u : zMu) : zMet l (zRf ca D) rfY_term (.code rfY_term prog_13_method_26_code 3 none) zrv true (d + 1) a g [.ref (a 0)] u (rf_term_b n f_post u) := by
  refine zMet.of rfl (Nat.le_of_ble_eq_true rfl) fun κ A hl => ?_
  subst hl
  unfold rf_term_b
  refine z_aload_n (pc' := 1) (k := 0) (i := 0) 0 rfl rfl ⟨by decide +kernel, rfl⟩ ?_
  refine z_callVf (pc' := 4) 0 (h_post u) (rfG_post ca D) (rfO ca D) rfl (by omega) rfl rfl (Nat.le_of_ble_eq_true rfl) ⟨by decide +kernel, rfl⟩ (fun _ u2 => ?_)
  exact rf_term_L4_t n f_post h_post hb n u2
set_option maxRecDepth 20000 in
set_option maxHeartbeats 4000000 in
theorem rf_post_J29_t {κ : zKx} {ca : Nat → ClassId} {D : va_G} {A : Nat → Prop} {c0 : Nat × Nat} {a g0 g : Nat → Nat} {d : Nat} (n : Nat) (f_expr : zMu → Option (Unit × zMu)) (f_one : zMu → Option (Unit × zMu)) (h_expr : ∀ (u : zMu), zMet (zKl κ) (zRf ca D) rfY_expr (.code rfY_expr prog_13_method_24_code 3 none) zrv true d a g [.ref (a 0)] u (f_expr u)) (h_one : ∀ (u : zMu), zMet (zKl κ) (zRf ca D) rfY_one (.code rfY_one prog_13_method_28_code 5 none) zrv true d a g [.ref (a 0)] u (f_one u)) (hb : 4 ≤ d) (k4 : zMu → Option (Unit × zMu)) (hk4 : ∀ (u : zMu), zJ κ (zRf ca D) prog_13_method_27_code 3 rf_C none zrv true (d + 1) A c0 a g0 g u 4 [(0, .ref (a 0))] [] (k4 u)) (u : zMu) : zJ κ (zRf ca D) prog_13_method_27_code 3 rf_C none zrv true (d + 1) A c0 a g0 g u 29 [(0, .ref (a 0))] [] (rf_post_J29 n f_expr f_one k4 u) := by
  unfold rf_post_J29
  refine z_aload_n (pc' := 30) (k := 0) (i := 0) 0 rfl rfl ⟨by decide +kernel, rfl⟩ ?_
  refine z_callVf (pc' := 33) 0 (rft_place n u) (rfG_place ca D) (rfO ca D) rfl (by omega) rfl rfl (Nat.le_of_ble_eq_true rfl) ⟨by decide +kernel, rfl⟩ (fun r1 u2 => ?_)
  refine z_istore_n (pc' := 34) (k := 1) (i := 1) rfl (by decide) rfl ⟨by decide +kernel, rfl⟩ ?_
  refine z_aload_n (pc' := 35) (k := 0) (i := 0) 1 rfl rfl ⟨by decide +kernel, rfl⟩ ?_
  refine z_callVf (pc' := 38) 0 (rft_now n u2) (rfG_now ca D) (rfO ca D) rfl (by omega) rfl rfl (Nat.le_of_ble_eq_true rfl) ⟨by decide +kernel, rfl⟩ (fun r3 u4 => ?_)
  refine z_bipush (pc' := 40) (n := 46) (v := 46) (by decide) ⟨by decide +kernel, rfl⟩ ?_
  refine z_icmp_ne (pc' := 43) (tgt := 114) (off := 74) ⟨by decide +kernel, rfl⟩ rfl (fun h5 => ?_) (fun h5 => ?_)
  · refine z_aload_n (pc' := 44) (k := 0) (i := 0) 1 rfl rfl ⟨by decide +kernel, rfl⟩ ?_
    refine z_iconst (pc' := 45) (n := 0) (v := 0) (by decide) ⟨by decide +kernel, rfl⟩ ?_
    refine z_iconst (pc' := 46) (n := (-1)) (v := (-1)) (by decide) ⟨by decide +kernel, rfl⟩ ?_
    refine z_callVf (pc' := 49) 0 (rft_newSite n u4 0 (-1)) (rfG_newSite ca D) (rfO ca D) rfl (by omega) rfl rfl (Nat.le_of_ble_eq_true rfl) ⟨by decide +kernel, rfl⟩ (fun r6 u7 => ?_)
    refine z_istore_n (pc' := 50) (k := 2) (i := 2) rfl (by decide) rfl ⟨by decide +kernel, rfl⟩ ?_
    refine z_aload_n (pc' := 51) (k := 0) (i := 0) 2 rfl rfl ⟨by decide +kernel, rfl⟩ ?_
    refine z_dup (pc' := 52) rfl ⟨by decide +kernel, rfl⟩ ?_
    refine z_getI (pc' := 55) (rff_at ca D) rfl ⟨by decide +kernel, rfl⟩ ?_
    refine z_iconst (pc' := 56) (n := 1) (v := 1) (by decide) ⟨by decide +kernel, rfl⟩ ?_
    refine z_iadd (pc' := 57) ⟨by decide +kernel, rfl⟩ ?_
    refine z_putI (pc' := 60) (rff_at ca D) rfl ⟨by decide +kernel, rfl⟩ (z_letU fun u8 => ?_)
    refine z_aload_n (pc' := 61) (k := 0) (i := 0) 2 rfl rfl ⟨by decide +kernel, rfl⟩ ?_
    refine z_callVf (pc' := 64) 0 (rft_now n u8) (rfG_now ca D) (rfO ca D) rfl (by omega) rfl rfl (Nat.le_of_ble_eq_true rfl) ⟨by decide +kernel, rfl⟩ (fun r9 u10 => ?_)
    refine z_iconst (pc' := 65) (n := 1) (v := 1) (by decide) ⟨by decide +kernel, rfl⟩ ?_
    refine z_icmp_eq (pc' := 68) (tgt := 73) (off := 8) ⟨by decide +kernel, rfl⟩ rfl (fun h11 => ?_) (fun h11 => ?_)
    · refine z_aload_n (pc' := 74) (k := 0) (i := 0) 2 rfl rfl ⟨by decide +kernel, rfl⟩ ?_
      refine z_getR (pc' := 77) (rff_siteName ca D) rfl (y := a 22) rfl ⟨by decide +kernel, rfl⟩ ?_
      refine z_iload_n (pc' := 78) (k := 2) (i := 2) 0 rfl rfl ⟨by decide +kernel, rfl⟩ ?_
      refine z_aload_n (pc' := 79) (k := 0) (i := 0) 2 rfl rfl ⟨by decide +kernel, rfl⟩ ?_
      refine z_getR (pc' := 82) (rff_tWorth ca D) rfl (y := a 6) rfl ⟨by decide +kernel, rfl⟩ ?_
      refine z_aload_n (pc' := 83) (k := 0) (i := 0) 2 rfl rfl ⟨by decide +kernel, rfl⟩ ?_
      refine z_getI (pc' := 86) (rff_at ca D) rfl ⟨by decide +kernel, rfl⟩ ?_
      refine z_iald (pc' := 87) 6 rfl (zlt rfl) rfl rfl ⟨by decide +kernel, rfl⟩ ?_
      refine z_iast (pc' := 88) 22 rfl (zlt rfl) rfl rfl ⟨by decide +kernel, rfl⟩ (z_letU fun u12 => ?_)
      refine z_aload_n (pc' := 89) (k := 0) (i := 0) 2 rfl rfl ⟨by decide +kernel, rfl⟩ ?_
      refine z_dup (pc' := 90) rfl ⟨by decide +kernel, rfl⟩ ?_
      refine z_getI (pc' := 93) (rff_at ca D) rfl ⟨by decide +kernel, rfl⟩ ?_
      refine z_iconst (pc' := 94) (n := 1) (v := 1) (by decide) ⟨by decide +kernel, rfl⟩ ?_
      refine z_iadd (pc' := 95) ⟨by decide +kernel, rfl⟩ ?_
      refine z_putI (pc' := 98) (rff_at ca D) rfl ⟨by decide +kernel, rfl⟩ (z_letU fun u13 => ?_)
      refine z_aload_n (pc' := 99) (k := 0) (i := 0) 2 rfl rfl ⟨by decide +kernel, rfl⟩ ?_
      refine z_iconst (pc' := 100) (n := 5) (v := 5) (by decide) ⟨by decide +kernel, rfl⟩ ?_
      refine z_iload_n (pc' := 101) (k := 2) (i := 2) 0 rfl rfl ⟨by decide +kernel, rfl⟩ ?_
      refine z_iconst (pc' := 102) (n := 0) (v := 0) (by decide) ⟨by decide +kernel, rfl⟩ ?_
      refine z_iload_n (pc' := 103) (k := 1) (i := 1) 1 rfl rfl ⟨by decide +kernel, rfl⟩ ?_
      refine z_callVf (pc' := 106) 0 (rft_emit n u13 5 r6 0 r1) (rfG_emit ca D) (rfO ca D) rfl (by omega) rfl rfl (Nat.le_of_ble_eq_true rfl) ⟨by decide +kernel, rfl⟩ (fun _ u15 => ?_)
      refine z_aload_n (pc' := 107) (k := 0) (i := 0) 2 rfl rfl ⟨by decide +kernel, rfl⟩ ?_
      refine z_iconst (pc' := 108) (n := 2) (v := 2) (by decide) ⟨by decide +kernel, rfl⟩ ?_
      refine z_putI (pc' := 111) (rff_kind ca D) rfl ⟨by decide +kernel, rfl⟩ (z_letU fun u16 => ?_)
      refine z_goto (tgt := 144) (off := 33) (by decide +kernel) rfl ?_
      refine z_goto (tgt := 4) (off := -140) (by decide +kernel) rfl ?_
      refine z_lv [2] (lv' := [(0, .ref (a 0))]) rfl ?_
      exact hk4 u16
    · refine z_aload_n (pc' := 69) (k := 0) (i := 0) 2 rfl rfl ⟨by decide +kernel, rfl⟩ ?_
      refine z_callVf (pc' := 72) 0 (rft_faulty n u10) (rfG_faulty ca D) (rfO ca D) rfl (by omega) rfl rfl (Nat.le_of_ble_eq_true rfl) ⟨by decide +kernel, rfl⟩ (fun _ u18 => ?_)
      exact z_vret (pc' := 73) ⟨by decide +kernel, rfl⟩
  · refine z_aload_n (pc' := 115) (k := 0) (i := 0) 1 rfl rfl ⟨by decide +kernel, rfl⟩ ?_
    refine z_bipush (pc' := 117) (n := 91) (v := 91) (by decide) ⟨by decide +kernel, rfl⟩ ?_
    refine z_callVf (pc' := 120) 0 (rft_opens n u4 91) (rfG_opens ca D) (rfO ca D) rfl (by omega) rfl rfl (Nat.le_of_ble_eq_true rfl) ⟨by decide +kernel, rfl⟩ (fun _ u20 => ?_)
    refine z_aload_n (pc' := 121) (k := 0) (i := 0) 1 rfl rfl ⟨by decide +kernel, rfl⟩ ?_
    refine z_callVf (pc' := 124) 0 (h_expr u20) (rfG_expr ca D) (rfO ca D) rfl (by omega) rfl rfl (Nat.le_of_ble_eq_true rfl) ⟨by decide +kernel, rfl⟩ (fun _ u22 => ?_)
    refine z_aload_n (pc' := 125) (k := 0) (i := 0) 1 rfl rfl ⟨by decide +kernel, rfl⟩ ?_
    refine z_bipush (pc' := 127) (n := 93) (v := 93) (by decide) ⟨by decide +kernel, rfl⟩ ?_
    refine z_callVf (pc' := 130) 0 (rft_closes n u22 93) (rfG_closes ca D) (rfO ca D) rfl (by omega) rfl rfl (Nat.le_of_ble_eq_true rfl) ⟨by decide +kernel, rfl⟩ (fun _ u24 => ?_)
    refine z_aload_n (pc' := 131) (k := 0) (i := 0) 1 rfl rfl ⟨by decide +kernel, rfl⟩ ?_
    refine z_bipush (pc' := 133) (n := 15) (v := 15) (by decide) ⟨by decide +kernel, rfl⟩ ?_
    refine z_iconst (pc' := 134) (n := 0) (v := 0) (by decide) ⟨by decide +kernel, rfl⟩ ?_
    refine z_iconst (pc' := 135) (n := 0) (v := 0) (by decide) ⟨by decide +kernel, rfl⟩ ?_
    refine z_iload_n (pc' := 136) (k := 1) (i := 1) 0 rfl rfl ⟨by decide +kernel, rfl⟩ ?_
    refine z_callVf (pc' := 139) 0 (rft_emit n u24 15 0 0 r1) (rfG_emit ca D) (rfO ca D) rfl (by omega) rfl rfl (Nat.le_of_ble_eq_true rfl) ⟨by decide +kernel, rfl⟩ (fun _ u26 => ?_)
    refine z_aload_n (pc' := 140) (k := 0) (i := 0) 1 rfl rfl ⟨by decide +kernel, rfl⟩ ?_
    refine z_iconst (pc' := 141) (n := 3) (v := 3) (by decide) ⟨by decide +kernel, rfl⟩ ?_
    refine z_putI (pc' := 144) (rff_kind ca D) rfl ⟨by decide +kernel, rfl⟩ (z_letU fun u27 => ?_)
    refine z_goto (tgt := 4) (off := -140) (by decide +kernel) rfl ?_
    refine z_lv [1] (lv' := [(0, .ref (a 0))]) rfl ?_
    exact hk4 u27
set_option maxRecDepth 20000 in
set_option maxHeartbeats 4000000 in
theorem rf_post_L4_t {κ : zKx} {ca : Nat → ClassId} {D : va_G} {A : Nat → Prop} {c0 : Nat × Nat} {a g0 g : Nat → Nat} {d : Nat} (n : Nat) (f_expr : zMu → Option (Unit × zMu)) (f_one : zMu → Option (Unit × zMu)) (h_expr : ∀ (u : zMu), zMet (zKl κ) (zRf ca D) rfY_expr (.code rfY_expr prog_13_method_24_code 3 none) zrv true d a g [.ref (a 0)] u (f_expr u)) (h_one : ∀ (u : zMu), zMet (zKl κ) (zRf ca D) rfY_one (.code rfY_one prog_13_method_28_code 5 none) zrv true d a g [.ref (a 0)] u (f_one u)) (hb : 4 ≤ d) : ∀ (m : Nat) (u : zMu), zJ κ (zRf ca D) prog_13_method_27_code 3 rf_C none zrv true (d + 1) A c0 a g0 g u 4 [(0, .ref (a 0))] [] (rf_post_L4 n f_expr f_one m u) := by
  intro m
  induction m with
  | zero => intro u r u' h; cases h
  | succ m ih =>
    intro u
    unfold rf_post_L4
    refine z_aload_n (pc' := 5) (k := 0) (i := 0) 0 rfl rfl ⟨by decide +kernel, rfl⟩ ?_
    refine z_callVf (pc' := 8) 0 (rft_isWrong n u) (rfG_isWrong ca D) (rfO ca D) rfl (by omega) rfl rfl (Nat.le_of_ble_eq_true rfl) ⟨by decide +kernel, rfl⟩ (fun r1 u2 => ?_)
    refine z_if_ne (pc' := 11) (tgt := 147) (off := 139) ⟨by decide +kernel, rfl⟩ rfl (fun h3 => ?_) (fun h3 => ?_)
    · refine z_aload_n (pc' := 12) (k := 0) (i := 0) 0 rfl rfl ⟨by decide +kernel, rfl⟩ ?_
      refine z_callVf (pc' := 15) 0 (rft_now n u2) (rfG_now ca D) (rfO ca D) rfl (by omega) rfl rfl (Nat.le_of_ble_eq_true rfl) ⟨by decide +kernel, rfl⟩ (fun r4 u5 => ?_)
      refine z_bipush (pc' := 17) (n := 46) (v := 46) (by decide) ⟨by decide +kernel, rfl⟩ ?_
      refine z_icmp_eq (pc' := 20) (tgt := 29) (off := 12) ⟨by decide +kernel, rfl⟩ rfl (fun h6 => ?_) (fun h6 => ?_)
      · exact rf_post_J29_t n f_expr f_one h_expr h_one hb (rf_post_L4 n f_expr f_one m) (ih) u5
      · refine z_aload_n (pc' := 21) (k := 0) (i := 0) 0 rfl rfl ⟨by decide +kernel, rfl⟩ ?_
        refine z_callVf (pc' := 24) 0 (rft_now n u5) (rfG_now ca D) (rfO ca D) rfl (by omega) rfl rfl (Nat.le_of_ble_eq_true rfl) ⟨by decide +kernel, rfl⟩ (fun r7 u8 => ?_)
        refine z_bipush (pc' := 26) (n := 91) (v := 91) (by decide) ⟨by decide +kernel, rfl⟩ ?_
        refine z_icmp_ne (pc' := 29) (tgt := 147) (off := 121) ⟨by decide +kernel, rfl⟩ rfl (fun h9 => ?_) (fun h9 => ?_)
        · exact rf_post_J29_t n f_expr f_one h_expr h_one hb (rf_post_L4 n f_expr f_one m) (ih) u8
        · exact z_vret (pc' := 148) ⟨by decide +kernel, rfl⟩
    · exact z_vret (pc' := 148) ⟨by decide +kernel, rfl⟩
set_option maxRecDepth 20000 in
set_option maxHeartbeats 4000000 in
theorem rft_post_b {l : Launch} {ca : Nat → ClassId} {D : va_G} {a g : Nat → Nat} {d : Nat} (n : Nat) (f_expr : zMu → Option (Unit × zMu)) (f_one : zMu → Option (Unit × zMu)) (h_expr : ∀ (u : zMu), zMet l (zRf ca D) rfY_expr (.code rfY_expr prog_13_method_24_code 3 none) zrv true d a g [.ref (a 0)] u (f_expr u)) (h_one : ∀ (u : zMu), zMet l (zRf ca D) rfY_one (.code rfY_one prog_13_method_28_code 5 none) zrv true d a g [.ref (a 0)] u (f_one u)) (hb : 4 ≤ d) (u : zMu) : zMet l (zRf ca D) rfY_post (.code rfY_post prog_13_method_27_code 3 none) zrv true (d + 1) a g [.ref (a 0)] u (rf_post_b n f_expr f_one u) := by
  refine zMet.of rfl (Nat.le_of_ble_eq_true rfl) fun κ A hl => ?_
  subst hl
  unfold rf_post_b
  refine z_aload_n (pc' := 1) (k := 0) (i := 0) 0 rfl rfl ⟨by decide +kernel, rfl⟩ ?_
  refine z_callVf (pc' := 4) 0 (h_one u) (rfG_one ca D) (rfO ca D) rfl (by omega) rfl rfl (Nat.le_of_ble_eq_true rfl) ⟨by decide +kernel, rfl⟩ (fun _ u2 => ?_)
  exact rf_post_L4_t n f_expr f_one h_expr h_one hb n u2
set_option maxRecDepth 20000 in
set_option maxHeartbeats 4000000 in
theorem rf_one_J316_t {κ : zKx} {ca : Nat → ClassId} {D : va_G} {A : Nat → Prop} {c0 : Nat × Nat} {a g0 g : Nat → Nat} {d : Nat} (n : Nat) (f_expr : zMu → Option (Unit × zMu)) (f_one : zMu → Option (Unit × zMu)) (f_callOf : zMu → Int32 → Int32 → Option (Unit × zMu)) (h_expr : ∀ (u : zMu), zMet (zKl κ) (zRf ca D) rfY_expr (.code rfY_expr prog_13_method_24_code 3 none) zrv true d a g [.ref (a 0)] u (f_expr u)) (h_one : ∀ (u : zMu), zMet (zKl κ) (zRf ca D) rfY_one (.code rfY_one prog_13_method_28_code 5 none) zrv true d a g [.ref (a 0)] u (f_one u)) (h_callOf : ∀ (u : zMu) (x1 : Int32) (x2 : Int32), zMet (zKl κ) (zRf ca D) rfY_callOf (.code rfY_callOf prog_13_method_30_code 4 none) zrv true d a g [.ref (a 0), .int x1, .int x2] u (f_callOf u x1 x2)) (hb : 4 ≤ d) (u : zMu) (x1 : Int32) (x4 : Int32) (s1 : Int32) : zJ κ (zRf ca D) prog_13_method_28_code 5 rf_C none zrv true (d + 1) A c0 a g0 g u 316 [(0, .ref (a 0)), (1, .int x1), (4, .int x4)] [.int s1, .ref (a 0)] (rf_one_J316 n f_expr f_one f_callOf u x1 x4 s1) := by
  unfold rf_one_J316
  refine z_iload (pc' := 318) (i := 4) 2 rfl ⟨by decide +kernel, rfl⟩ ?_
  refine z_if_eq (pc' := 321) (tgt := 325) (off := 7) ⟨by decide +kernel, rfl⟩ rfl (fun h1 => ?_) (fun h1 => ?_)
  · refine z_iconst (pc' := 326) (n := 1) (v := 1) (by decide) ⟨by decide +kernel, rfl⟩ ?_
    refine z_iconst (pc' := 327) (n := 0) (v := 0) (by decide) ⟨by decide +kernel, rfl⟩ ?_
    refine z_iload_n (pc' := 328) (k := 1) (i := 1) 1 rfl rfl ⟨by decide +kernel, rfl⟩ ?_
    refine z_callVf (pc' := 331) 0 (rft_emit n u s1 1 0 x1) (rfG_emit ca D) (rfO ca D) rfl (by omega) rfl rfl (Nat.le_of_ble_eq_true rfl) ⟨by decide +kernel, rfl⟩ (fun _ u3 => ?_)
    refine z_aload_n (pc' := 332) (k := 0) (i := 0) 0 rfl rfl ⟨by decide +kernel, rfl⟩ ?_
    refine z_iconst (pc' := 333) (n := 0) (v := 0) (by decide) ⟨by decide +kernel, rfl⟩ ?_
    refine z_putI (pc' := 336) (rff_kind ca D) rfl ⟨by decide +kernel, rfl⟩ (z_letU fun u4 => ?_)
    refine z_goto (tgt := 343) (off := 7) (by decide +kernel) rfl ?_
    exact z_vret (pc' := 344) ⟨by decide +kernel, rfl⟩
  · refine z_iconst (pc' := 322) (n := 0) (v := 0) (by decide) ⟨by decide +kernel, rfl⟩ ?_
    refine z_goto (tgt := 326) (off := 4) (by decide +kernel) rfl ?_
    refine z_iconst (pc' := 327) (n := 0) (v := 0) (by decide) ⟨by decide +kernel, rfl⟩ ?_
    refine z_iload_n (pc' := 328) (k := 1) (i := 1) 1 rfl rfl ⟨by decide +kernel, rfl⟩ ?_
    refine z_callVf (pc' := 331) 0 (rft_emit n u s1 0 0 x1) (rfG_emit ca D) (rfO ca D) rfl (by omega) rfl rfl (Nat.le_of_ble_eq_true rfl) ⟨by decide +kernel, rfl⟩ (fun _ u6 => ?_)
    refine z_aload_n (pc' := 332) (k := 0) (i := 0) 0 rfl rfl ⟨by decide +kernel, rfl⟩ ?_
    refine z_iconst (pc' := 333) (n := 0) (v := 0) (by decide) ⟨by decide +kernel, rfl⟩ ?_
    refine z_putI (pc' := 336) (rff_kind ca D) rfl ⟨by decide +kernel, rfl⟩ (z_letU fun u7 => ?_)
    refine z_goto (tgt := 343) (off := 7) (by decide +kernel) rfl ?_
    exact z_vret (pc' := 344) ⟨by decide +kernel, rfl⟩
set_option maxRecDepth 20000 in
set_option maxHeartbeats 4000000 in
theorem rf_one_J283_t {κ : zKx} {ca : Nat → ClassId} {D : va_G} {A : Nat → Prop} {c0 : Nat × Nat} {a g0 g : Nat → Nat} {d : Nat} (n : Nat) (f_expr : zMu → Option (Unit × zMu)) (f_one : zMu → Option (Unit × zMu)) (f_callOf : zMu → Int32 → Int32 → Option (Unit × zMu)) (h_expr : ∀ (u : zMu), zMet (zKl κ) (zRf ca D) rfY_expr (.code rfY_expr prog_13_method_24_code 3 none) zrv true d a g [.ref (a 0)] u (f_expr u)) (h_one : ∀ (u : zMu), zMet (zKl κ) (zRf ca D) rfY_one (.code rfY_one prog_13_method_28_code 5 none) zrv true d a g [.ref (a 0)] u (f_one u)) (h_callOf : ∀ (u : zMu) (x1 : Int32) (x2 : Int32), zMet (zKl κ) (zRf ca D) rfY_callOf (.code rfY_callOf prog_13_method_30_code 4 none) zrv true d a g [.ref (a 0), .int x1, .int x2] u (f_callOf u x1 x2)) (hb : 4 ≤ d) (u : zMu) (x1 : Int32) (x2 : Int32) (x4 : Int32) : zJ κ (zRf ca D) prog_13_method_28_code 5 rf_C none zrv true (d + 1) A c0 a g0 g u 283 [(0, .ref (a 0)), (1, .int x1), (2, .int x2), (4, .int x4)] [] (rf_one_J283 n f_expr f_one f_callOf u x1 x2 x4) := by
  unfold rf_one_J283
  refine z_aload_n (pc' := 284) (k := 0) (i := 0) 0 rfl rfl ⟨by decide +kernel, rfl⟩ ?_
  refine z_bipush (pc' := 286) (n := 41) (v := 41) (by decide) ⟨by decide +kernel, rfl⟩ ?_
  refine z_callVf (pc' := 289) 0 (rft_closes n u 41) (rfG_closes ca D) (rfO ca D) rfl (by omega) rfl rfl (Nat.le_of_ble_eq_true rfl) ⟨by decide +kernel, rfl⟩ (fun _ u2 => ?_)
  refine z_aload_n (pc' := 290) (k := 0) (i := 0) 0 rfl rfl ⟨by decide +kernel, rfl⟩ ?_
  refine z_iload_n (pc' := 291) (k := 2) (i := 2) 2 rfl rfl ⟨by decide +kernel, rfl⟩ ?_
  refine z_sipush (pc' := 294) (n := 208) (v := 208) (by decide) ⟨by decide +kernel, rfl⟩ ?_
  refine z_icmp_ne (pc' := 297) (tgt := 302) (off := 8) ⟨by decide +kernel, rfl⟩ rfl (fun h3 => ?_) (fun h3 => ?_)
  · refine z_bipush (pc' := 299) (n := 12) (v := 12) (by decide) ⟨by decide +kernel, rfl⟩ ?_
    refine z_goto (tgt := 316) (off := 17) (by decide +kernel) rfl ?_
    refine z_lv [0, 1, 3] (lv' := [(0, .ref (a 0)), (1, .int x1), (4, .int x4)]) rfl ?_
    exact rf_one_J316_t n f_expr f_one f_callOf h_expr h_one h_callOf hb u2 x1 x4 12
  · refine z_iload_n (pc' := 303) (k := 2) (i := 2) 2 rfl rfl ⟨by decide +kernel, rfl⟩ ?_
    refine z_sipush (pc' := 306) (n := 209) (v := 209) (by decide) ⟨by decide +kernel, rfl⟩ ?_
    refine z_icmp_ne (pc' := 309) (tgt := 314) (off := 8) ⟨by decide +kernel, rfl⟩ rfl (fun h4 => ?_) (fun h4 => ?_)
    · refine z_bipush (pc' := 311) (n := 13) (v := 13) (by decide) ⟨by decide +kernel, rfl⟩ ?_
      refine z_goto (tgt := 316) (off := 5) (by decide +kernel) rfl ?_
      refine z_lv [0, 1, 3] (lv' := [(0, .ref (a 0)), (1, .int x1), (4, .int x4)]) rfl ?_
      exact rf_one_J316_t n f_expr f_one f_callOf h_expr h_one h_callOf hb u2 x1 x4 13
    · refine z_bipush (pc' := 316) (n := 14) (v := 14) (by decide) ⟨by decide +kernel, rfl⟩ ?_
      refine z_lv [0, 1, 3] (lv' := [(0, .ref (a 0)), (1, .int x1), (4, .int x4)]) rfl ?_
      exact rf_one_J316_t n f_expr f_one f_callOf h_expr h_one h_callOf hb u2 x1 x4 14
set_option maxRecDepth 20000 in
set_option maxHeartbeats 4000000 in
theorem rf_one_J272_t {κ : zKx} {ca : Nat → ClassId} {D : va_G} {A : Nat → Prop} {c0 : Nat × Nat} {a g0 g : Nat → Nat} {d : Nat} (n : Nat) (f_expr : zMu → Option (Unit × zMu)) (f_one : zMu → Option (Unit × zMu)) (f_callOf : zMu → Int32 → Int32 → Option (Unit × zMu)) (h_expr : ∀ (u : zMu), zMet (zKl κ) (zRf ca D) rfY_expr (.code rfY_expr prog_13_method_24_code 3 none) zrv true d a g [.ref (a 0)] u (f_expr u)) (h_one : ∀ (u : zMu), zMet (zKl κ) (zRf ca D) rfY_one (.code rfY_one prog_13_method_28_code 5 none) zrv true d a g [.ref (a 0)] u (f_one u)) (h_callOf : ∀ (u : zMu) (x1 : Int32) (x2 : Int32), zMet (zKl κ) (zRf ca D) rfY_callOf (.code rfY_callOf prog_13_method_30_code 4 none) zrv true d a g [.ref (a 0), .int x1, .int x2] u (f_callOf u x1 x2)) (hb : 4 ≤ d) (u : zMu) (x1 : Int32) (x2 : Int32) (s0 : Int32) : zJ κ (zRf ca D) prog_13_method_28_code 5 rf_C none zrv true (d + 1) A c0 a g0 g u 272 [(0, .ref (a 0)), (1, .int x1), (2, .int x2)] [.int s0] (rf_one_J272 n f_expr f_one f_callOf u x1 x2 s0) := by
  unfold rf_one_J272
  refine z_istore (pc' := 274) (i := 4) (by decide) rfl ⟨by decide +kernel, rfl⟩ ?_
  refine z_iload (pc' := 276) (i := 4) 0 rfl ⟨by decide +kernel, rfl⟩ ?_
  refine z_if_ne (pc' := 279) (tgt := 283) (off := 7) ⟨by decide +kernel, rfl⟩ rfl (fun h1 => ?_) (fun h1 => ?_)
  · refine z_aload_n (pc' := 280) (k := 0) (i := 0) 1 rfl rfl ⟨by decide +kernel, rfl⟩ ?_
    refine z_callVf (pc' := 283) 0 (h_expr u) (rfG_expr ca D) (rfO ca D) rfl (by omega) rfl rfl (Nat.le_of_ble_eq_true rfl) ⟨by decide +kernel, rfl⟩ (fun _ u3 => ?_)
    refine z_lv [1, 2, 3, 0] (lv' := [(0, .ref (a 0)), (1, .int x1), (2, .int x2), (4, .int s0)]) rfl ?_
    exact rf_one_J283_t n f_expr f_one f_callOf h_expr h_one h_callOf hb u3 x1 x2 s0
  · refine z_lv [1, 2, 3, 0] (lv' := [(0, .ref (a 0)), (1, .int x1), (2, .int x2), (4, .int s0)]) rfl ?_
    exact rf_one_J283_t n f_expr f_one f_callOf h_expr h_one h_callOf hb u x1 x2 s0
set_option maxRecDepth 20000 in
set_option maxHeartbeats 4000000 in
theorem rf_one_J271_t {κ : zKx} {ca : Nat → ClassId} {D : va_G} {A : Nat → Prop} {c0 : Nat × Nat} {a g0 g : Nat → Nat} {d : Nat} (n : Nat) (f_expr : zMu → Option (Unit × zMu)) (f_one : zMu → Option (Unit × zMu)) (f_callOf : zMu → Int32 → Int32 → Option (Unit × zMu)) (h_expr : ∀ (u : zMu), zMet (zKl κ) (zRf ca D) rfY_expr (.code rfY_expr prog_13_method_24_code 3 none) zrv true d a g [.ref (a 0)] u (f_expr u)) (h_one : ∀ (u : zMu), zMet (zKl κ) (zRf ca D) rfY_one (.code rfY_one prog_13_method_28_code 5 none) zrv true d a g [.ref (a 0)] u (f_one u)) (h_callOf : ∀ (u : zMu) (x1 : Int32) (x2 : Int32), zMet (zKl κ) (zRf ca D) rfY_callOf (.code rfY_callOf prog_13_method_30_code 4 none) zrv true d a g [.ref (a 0), .int x1, .int x2] u (f_callOf u x1 x2)) (hb : 4 ≤ d) (u : zMu) (x1 : Int32) (x2 : Int32) : zJ κ (zRf ca D) prog_13_method_28_code 5 rf_C none zrv true (d + 1) A c0 a g0 g u 271 [(0, .ref (a 0)), (1, .int x1), (2, .int x2)] [] (rf_one_J271 n f_expr f_one f_callOf u x1 x2) := by
  unfold rf_one_J271
  refine z_iconst (pc' := 272) (n := 0) (v := 0) (by decide) ⟨by decide +kernel, rfl⟩ ?_
  exact rf_one_J272_t n f_expr f_one f_callOf h_expr h_one h_callOf hb u x1 x2 0
set_option maxRecDepth 20000 in
set_option maxHeartbeats 4000000 in
theorem rf_one_J228_t {κ : zKx} {ca : Nat → ClassId} {D : va_G} {A : Nat → Prop} {c0 : Nat × Nat} {a g0 g : Nat → Nat} {d : Nat} (n : Nat) (f_expr : zMu → Option (Unit × zMu)) (f_one : zMu → Option (Unit × zMu)) (f_callOf : zMu → Int32 → Int32 → Option (Unit × zMu)) (h_expr : ∀ (u : zMu), zMet (zKl κ) (zRf ca D) rfY_expr (.code rfY_expr prog_13_method_24_code 3 none) zrv true d a g [.ref (a 0)] u (f_expr u)) (h_one : ∀ (u : zMu), zMet (zKl κ) (zRf ca D) rfY_one (.code rfY_one prog_13_method_28_code 5 none) zrv true d a g [.ref (a 0)] u (f_one u)) (h_callOf : ∀ (u : zMu) (x1 : Int32) (x2 : Int32), zMet (zKl κ) (zRf ca D) rfY_callOf (.code rfY_callOf prog_13_method_30_code 4 none) zrv true d a g [.ref (a 0), .int x1, .int x2] u (f_callOf u x1 x2)) (hb : 4 ≤ d) (u : zMu) (x1 : Int32) (x2 : Int32) : zJ κ (zRf ca D) prog_13_method_28_code 5 rf_C none zrv true (d + 1) A c0 a g0 g u 228 [(0, .ref (a 0)), (1, .int x1), (2, .int x2)] [] (rf_one_J228 n f_expr f_one f_callOf u x1 x2) := by
  unfold rf_one_J228
  refine z_aload_n (pc' := 229) (k := 0) (i := 0) 0 rfl rfl ⟨by decide +kernel, rfl⟩ ?_
  refine z_dup (pc' := 230) rfl ⟨by decide +kernel, rfl⟩ ?_
  refine z_getI (pc' := 233) (rff_at ca D) rfl ⟨by decide +kernel, rfl⟩ ?_
  refine z_iconst (pc' := 234) (n := 1) (v := 1) (by decide) ⟨by decide +kernel, rfl⟩ ?_
  refine z_iadd (pc' := 235) ⟨by decide +kernel, rfl⟩ ?_
  refine z_putI (pc' := 238) (rff_at ca D) rfl ⟨by decide +kernel, rfl⟩ (z_letU fun u1 => ?_)
  refine z_aload_n (pc' := 239) (k := 0) (i := 0) 0 rfl rfl ⟨by decide +kernel, rfl⟩ ?_
  refine z_bipush (pc' := 241) (n := 40) (v := 40) (by decide) ⟨by decide +kernel, rfl⟩ ?_
  refine z_callVf (pc' := 244) 0 (rft_opens n u1 40) (rfG_opens ca D) (rfO ca D) rfl (by omega) rfl rfl (Nat.le_of_ble_eq_true rfl) ⟨by decide +kernel, rfl⟩ (fun _ u3 => ?_)
  refine z_iload_n (pc' := 245) (k := 2) (i := 2) 2 rfl rfl ⟨by decide +kernel, rfl⟩ ?_
  refine z_sipush (pc' := 248) (n := 208) (v := 208) (by decide) ⟨by decide +kernel, rfl⟩ ?_
  refine z_icmp_ne (pc' := 251) (tgt := 271) (off := 23) ⟨by decide +kernel, rfl⟩ rfl (fun h4 => ?_) (fun h4 => ?_)
  · refine z_aload_n (pc' := 252) (k := 0) (i := 0) 0 rfl rfl ⟨by decide +kernel, rfl⟩ ?_
    refine z_callVf (pc' := 255) 0 (rft_isWrong n u3) (rfG_isWrong ca D) (rfO ca D) rfl (by omega) rfl rfl (Nat.le_of_ble_eq_true rfl) ⟨by decide +kernel, rfl⟩ (fun r5 u6 => ?_)
    refine z_if_ne (pc' := 258) (tgt := 271) (off := 16) ⟨by decide +kernel, rfl⟩ rfl (fun h7 => ?_) (fun h7 => ?_)
    · refine z_aload_n (pc' := 259) (k := 0) (i := 0) 0 rfl rfl ⟨by decide +kernel, rfl⟩ ?_
      refine z_callVf (pc' := 262) 0 (rft_now n u6) (rfG_now ca D) (rfO ca D) rfl (by omega) rfl rfl (Nat.le_of_ble_eq_true rfl) ⟨by decide +kernel, rfl⟩ (fun r8 u9 => ?_)
      refine z_bipush (pc' := 264) (n := 41) (v := 41) (by decide) ⟨by decide +kernel, rfl⟩ ?_
      refine z_icmp_ne (pc' := 267) (tgt := 271) (off := 7) ⟨by decide +kernel, rfl⟩ rfl (fun h10 => ?_) (fun h10 => ?_)
      · refine z_iconst (pc' := 268) (n := 1) (v := 1) (by decide) ⟨by decide +kernel, rfl⟩ ?_
        refine z_goto (tgt := 272) (off := 4) (by decide +kernel) rfl ?_
        exact rf_one_J272_t n f_expr f_one f_callOf h_expr h_one h_callOf hb u9 x1 x2 1
      · exact rf_one_J271_t n f_expr f_one f_callOf h_expr h_one h_callOf hb u9 x1 x2
    · exact rf_one_J271_t n f_expr f_one f_callOf h_expr h_one h_callOf hb u6 x1 x2
  · exact rf_one_J271_t n f_expr f_one f_callOf h_expr h_one h_callOf hb u3 x1 x2
set_option maxRecDepth 20000 in
set_option maxHeartbeats 4000000 in
theorem rft_one_b {l : Launch} {ca : Nat → ClassId} {D : va_G} {a g : Nat → Nat} {d : Nat} (n : Nat) (f_expr : zMu → Option (Unit × zMu)) (f_one : zMu → Option (Unit × zMu)) (f_callOf : zMu → Int32 → Int32 → Option (Unit × zMu)) (h_expr : ∀ (u : zMu), zMet l (zRf ca D) rfY_expr (.code rfY_expr prog_13_method_24_code 3 none) zrv true d a g [.ref (a 0)] u (f_expr u)) (h_one : ∀ (u : zMu), zMet l (zRf ca D) rfY_one (.code rfY_one prog_13_method_28_code 5 none) zrv true d a g [.ref (a 0)] u (f_one u)) (h_callOf : ∀ (u : zMu) (x1 : Int32) (x2 : Int32), zMet l (zRf ca D) rfY_callOf (.code rfY_callOf prog_13_method_30_code 4 none) zrv true d a g [.ref (a 0), .int x1, .int x2] u (f_callOf u x1 x2)) (hb : 4 ≤ d) (u : zMu) : zMet l (zRf ca D) rfY_one (.code rfY_one prog_13_method_28_code 5 none) zrv true (d + 1) a g [.ref (a 0)] u (rf_one_b n f_expr f_one f_callOf u) := by
  refine zMet.of rfl (Nat.le_of_ble_eq_true rfl) fun κ A hl => ?_
  subst hl
  unfold rf_one_b
  refine z_aload_n (pc' := 1) (k := 0) (i := 0) 0 rfl rfl ⟨by decide +kernel, rfl⟩ ?_
  refine z_callVf (pc' := 4) 0 (rft_isWrong n u) (rfG_isWrong ca D) (rfO ca D) rfl (by omega) rfl rfl (Nat.le_of_ble_eq_true rfl) ⟨by decide +kernel, rfl⟩ (fun r1 u2 => ?_)
  refine z_if_eq (pc' := 7) (tgt := 8) (off := 4) ⟨by decide +kernel, rfl⟩ rfl (fun h3 => ?_) (fun h3 => ?_)
  · refine z_aload_n (pc' := 9) (k := 0) (i := 0) 0 rfl rfl ⟨by decide +kernel, rfl⟩ ?_
    refine z_callVf (pc' := 12) 0 (rft_place n u2) (rfG_place ca D) (rfO ca D) rfl (by omega) rfl rfl (Nat.le_of_ble_eq_true rfl) ⟨by decide +kernel, rfl⟩ (fun r4 u5 => ?_)
    refine z_istore_n (pc' := 13) (k := 1) (i := 1) rfl (by decide) rfl ⟨by decide +kernel, rfl⟩ ?_
    refine z_aload_n (pc' := 14) (k := 0) (i := 0) 1 rfl rfl ⟨by decide +kernel, rfl⟩ ?_
    refine z_callVf (pc' := 17) 0 (rft_now n u5) (rfG_now ca D) (rfO ca D) rfl (by omega) rfl rfl (Nat.le_of_ble_eq_true rfl) ⟨by decide +kernel, rfl⟩ (fun r6 u7 => ?_)
    refine z_istore_n (pc' := 18) (k := 2) (i := 2) rfl (by decide) rfl ⟨by decide +kernel, rfl⟩ ?_
    refine z_aload_n (pc' := 19) (k := 0) (i := 0) 2 rfl rfl ⟨by decide +kernel, rfl⟩ ?_
    refine z_getR (pc' := 22) (rff_tWorth ca D) rfl (y := a 6) rfl ⟨by decide +kernel, rfl⟩ ?_
    refine z_aload_n (pc' := 23) (k := 0) (i := 0) 2 rfl rfl ⟨by decide +kernel, rfl⟩ ?_
    refine z_getI (pc' := 26) (rff_at ca D) rfl ⟨by decide +kernel, rfl⟩ ?_
    refine z_iald (pc' := 27) 6 rfl (zlt rfl) rfl rfl ⟨by decide +kernel, rfl⟩ ?_
    refine z_letI fun v8 => ?_
    refine z_istore_n (pc' := 28) (k := 3) (i := 3) rfl (by decide) rfl ⟨by decide +kernel, rfl⟩ ?_
    refine z_iload_n (pc' := 29) (k := 2) (i := 2) 1 rfl rfl ⟨by decide +kernel, rfl⟩ ?_
    refine z_iconst (pc' := 30) (n := 2) (v := 2) (by decide) ⟨by decide +kernel, rfl⟩ ?_
    refine z_icmp_ne (pc' := 33) (tgt := 59) (off := 29) ⟨by decide +kernel, rfl⟩ rfl (fun h9 => ?_) (fun h9 => ?_)
    · refine z_aload_n (pc' := 34) (k := 0) (i := 0) 3 rfl rfl ⟨by decide +kernel, rfl⟩ ?_
      refine z_dup (pc' := 35) rfl ⟨by decide +kernel, rfl⟩ ?_
      refine z_getI (pc' := 38) (rff_at ca D) rfl ⟨by decide +kernel, rfl⟩ ?_
      refine z_iconst (pc' := 39) (n := 1) (v := 1) (by decide) ⟨by decide +kernel, rfl⟩ ?_
      refine z_iadd (pc' := 40) ⟨by decide +kernel, rfl⟩ ?_
      refine z_putI (pc' := 43) (rff_at ca D) rfl ⟨by decide +kernel, rfl⟩ (z_letU fun u10 => ?_)
      refine z_aload_n (pc' := 44) (k := 0) (i := 0) 3 rfl rfl ⟨by decide +kernel, rfl⟩ ?_
      refine z_iconst (pc' := 45) (n := 1) (v := 1) (by decide) ⟨by decide +kernel, rfl⟩ ?_
      refine z_iload_n (pc' := 46) (k := 3) (i := 3) 0 rfl rfl ⟨by decide +kernel, rfl⟩ ?_
      refine z_iconst (pc' := 47) (n := 0) (v := 0) (by decide) ⟨by decide +kernel, rfl⟩ ?_
      refine z_iload_n (pc' := 48) (k := 1) (i := 1) 2 rfl rfl ⟨by decide +kernel, rfl⟩ ?_
      refine z_callVf (pc' := 51) 0 (rft_emit n u10 1 v8 0 r4) (rfG_emit ca D) (rfO ca D) rfl (by omega) rfl rfl (Nat.le_of_ble_eq_true rfl) ⟨by decide +kernel, rfl⟩ (fun _ u12 => ?_)
      refine z_aload_n (pc' := 52) (k := 0) (i := 0) 3 rfl rfl ⟨by decide +kernel, rfl⟩ ?_
      refine z_iconst (pc' := 53) (n := 0) (v := 0) (by decide) ⟨by decide +kernel, rfl⟩ ?_
      refine z_putI (pc' := 56) (rff_kind ca D) rfl ⟨by decide +kernel, rfl⟩ (z_letU fun u13 => ?_)
      refine z_goto (tgt := 343) (off := 287) (by decide +kernel) rfl ?_
      exact z_vret (pc' := 344) ⟨by decide +kernel, rfl⟩
    · refine z_iload_n (pc' := 60) (k := 2) (i := 2) 1 rfl rfl ⟨by decide +kernel, rfl⟩ ?_
      refine z_sipush (pc' := 63) (n := 211) (v := 211) (by decide) ⟨by decide +kernel, rfl⟩ ?_
      refine z_icmp_ne (pc' := 66) (tgt := 92) (off := 29) ⟨by decide +kernel, rfl⟩ rfl (fun h14 => ?_) (fun h14 => ?_)
      · refine z_aload_n (pc' := 67) (k := 0) (i := 0) 3 rfl rfl ⟨by decide +kernel, rfl⟩ ?_
        refine z_dup (pc' := 68) rfl ⟨by decide +kernel, rfl⟩ ?_
        refine z_getI (pc' := 71) (rff_at ca D) rfl ⟨by decide +kernel, rfl⟩ ?_
        refine z_iconst (pc' := 72) (n := 1) (v := 1) (by decide) ⟨by decide +kernel, rfl⟩ ?_
        refine z_iadd (pc' := 73) ⟨by decide +kernel, rfl⟩ ?_
        refine z_putI (pc' := 76) (rff_at ca D) rfl ⟨by decide +kernel, rfl⟩ (z_letU fun u15 => ?_)
        refine z_aload_n (pc' := 77) (k := 0) (i := 0) 3 rfl rfl ⟨by decide +kernel, rfl⟩ ?_
        refine z_iconst (pc' := 78) (n := 2) (v := 2) (by decide) ⟨by decide +kernel, rfl⟩ ?_
        refine z_iconst (pc' := 79) (n := 0) (v := 0) (by decide) ⟨by decide +kernel, rfl⟩ ?_
        refine z_iconst (pc' := 80) (n := 0) (v := 0) (by decide) ⟨by decide +kernel, rfl⟩ ?_
        refine z_iload_n (pc' := 81) (k := 1) (i := 1) 2 rfl rfl ⟨by decide +kernel, rfl⟩ ?_
        refine z_callVf (pc' := 84) 0 (rft_emit n u15 2 0 0 r4) (rfG_emit ca D) (rfO ca D) rfl (by omega) rfl rfl (Nat.le_of_ble_eq_true rfl) ⟨by decide +kernel, rfl⟩ (fun _ u17 => ?_)
        refine z_aload_n (pc' := 85) (k := 0) (i := 0) 3 rfl rfl ⟨by decide +kernel, rfl⟩ ?_
        refine z_iconst (pc' := 86) (n := 0) (v := 0) (by decide) ⟨by decide +kernel, rfl⟩ ?_
        refine z_putI (pc' := 89) (rff_kind ca D) rfl ⟨by decide +kernel, rfl⟩ (z_letU fun u18 => ?_)
        refine z_goto (tgt := 343) (off := 254) (by decide +kernel) rfl ?_
        exact z_vret (pc' := 344) ⟨by decide +kernel, rfl⟩
      · refine z_iload_n (pc' := 93) (k := 2) (i := 2) 1 rfl rfl ⟨by decide +kernel, rfl⟩ ?_
        refine z_bipush (pc' := 95) (n := 45) (v := 45) (by decide) ⟨by decide +kernel, rfl⟩ ?_
        refine z_icmp_ne (pc' := 98) (tgt := 135) (off := 40) ⟨by decide +kernel, rfl⟩ rfl (fun h19 => ?_) (fun h19 => ?_)
        · refine z_aload_n (pc' := 99) (k := 0) (i := 0) 3 rfl rfl ⟨by decide +kernel, rfl⟩ ?_
          refine z_bipush (pc' := 101) (n := 45) (v := 45) (by decide) ⟨by decide +kernel, rfl⟩ ?_
          refine z_callVf (pc' := 104) 0 (rft_opens n u7 45) (rfG_opens ca D) (rfO ca D) rfl (by omega) rfl rfl (Nat.le_of_ble_eq_true rfl) ⟨by decide +kernel, rfl⟩ (fun _ u21 => ?_)
          refine z_aload_n (pc' := 105) (k := 0) (i := 0) 3 rfl rfl ⟨by decide +kernel, rfl⟩ ?_
          refine z_callVf (pc' := 108) 0 (h_one u21) (rfG_one ca D) (rfO ca D) rfl (by omega) rfl rfl (Nat.le_of_ble_eq_true rfl) ⟨by decide +kernel, rfl⟩ (fun _ u23 => ?_)
          refine z_aload_n (pc' := 109) (k := 0) (i := 0) 3 rfl rfl ⟨by decide +kernel, rfl⟩ ?_
          refine z_dup (pc' := 110) rfl ⟨by decide +kernel, rfl⟩ ?_
          refine z_getI (pc' := 113) (rff_open ca D) rfl ⟨by decide +kernel, rfl⟩ ?_
          refine z_iconst (pc' := 114) (n := 1) (v := 1) (by decide) ⟨by decide +kernel, rfl⟩ ?_
          refine z_isub (pc' := 115) ⟨by decide +kernel, rfl⟩ ?_
          refine z_putI (pc' := 118) (rff_open ca D) rfl ⟨by decide +kernel, rfl⟩ (z_letU fun u24 => ?_)
          refine z_aload_n (pc' := 119) (k := 0) (i := 0) 3 rfl rfl ⟨by decide +kernel, rfl⟩ ?_
          refine z_bipush (pc' := 121) (n := 9) (v := 9) (by decide) ⟨by decide +kernel, rfl⟩ ?_
          refine z_iconst (pc' := 122) (n := 0) (v := 0) (by decide) ⟨by decide +kernel, rfl⟩ ?_
          refine z_iconst (pc' := 123) (n := 0) (v := 0) (by decide) ⟨by decide +kernel, rfl⟩ ?_
          refine z_iload_n (pc' := 124) (k := 1) (i := 1) 2 rfl rfl ⟨by decide +kernel, rfl⟩ ?_
          refine z_callVf (pc' := 127) 0 (rft_emit n u24 9 0 0 r4) (rfG_emit ca D) (rfO ca D) rfl (by omega) rfl rfl (Nat.le_of_ble_eq_true rfl) ⟨by decide +kernel, rfl⟩ (fun _ u26 => ?_)
          refine z_aload_n (pc' := 128) (k := 0) (i := 0) 3 rfl rfl ⟨by decide +kernel, rfl⟩ ?_
          refine z_iconst (pc' := 129) (n := 0) (v := 0) (by decide) ⟨by decide +kernel, rfl⟩ ?_
          refine z_putI (pc' := 132) (rff_kind ca D) rfl ⟨by decide +kernel, rfl⟩ (z_letU fun u27 => ?_)
          refine z_goto (tgt := 343) (off := 211) (by decide +kernel) rfl ?_
          exact z_vret (pc' := 344) ⟨by decide +kernel, rfl⟩
        · refine z_iload_n (pc' := 136) (k := 2) (i := 2) 1 rfl rfl ⟨by decide +kernel, rfl⟩ ?_
          refine z_bipush (pc' := 138) (n := 40) (v := 40) (by decide) ⟨by decide +kernel, rfl⟩ ?_
          refine z_icmp_ne (pc' := 141) (tgt := 165) (off := 27) ⟨by decide +kernel, rfl⟩ rfl (fun h28 => ?_) (fun h28 => ?_)
          · refine z_aload_n (pc' := 142) (k := 0) (i := 0) 3 rfl rfl ⟨by decide +kernel, rfl⟩ ?_
            refine z_bipush (pc' := 144) (n := 40) (v := 40) (by decide) ⟨by decide +kernel, rfl⟩ ?_
            refine z_callVf (pc' := 147) 0 (rft_opens n u7 40) (rfG_opens ca D) (rfO ca D) rfl (by omega) rfl rfl (Nat.le_of_ble_eq_true rfl) ⟨by decide +kernel, rfl⟩ (fun _ u30 => ?_)
            refine z_aload_n (pc' := 148) (k := 0) (i := 0) 3 rfl rfl ⟨by decide +kernel, rfl⟩ ?_
            refine z_callVf (pc' := 151) 0 (h_expr u30) (rfG_expr ca D) (rfO ca D) rfl (by omega) rfl rfl (Nat.le_of_ble_eq_true rfl) ⟨by decide +kernel, rfl⟩ (fun _ u32 => ?_)
            refine z_aload_n (pc' := 152) (k := 0) (i := 0) 3 rfl rfl ⟨by decide +kernel, rfl⟩ ?_
            refine z_bipush (pc' := 154) (n := 41) (v := 41) (by decide) ⟨by decide +kernel, rfl⟩ ?_
            refine z_callVf (pc' := 157) 0 (rft_closes n u32 41) (rfG_closes ca D) (rfO ca D) rfl (by omega) rfl rfl (Nat.le_of_ble_eq_true rfl) ⟨by decide +kernel, rfl⟩ (fun _ u34 => ?_)
            refine z_aload_n (pc' := 158) (k := 0) (i := 0) 3 rfl rfl ⟨by decide +kernel, rfl⟩ ?_
            refine z_iconst (pc' := 159) (n := 0) (v := 0) (by decide) ⟨by decide +kernel, rfl⟩ ?_
            refine z_putI (pc' := 162) (rff_kind ca D) rfl ⟨by decide +kernel, rfl⟩ (z_letU fun u35 => ?_)
            refine z_goto (tgt := 343) (off := 181) (by decide +kernel) rfl ?_
            exact z_vret (pc' := 344) ⟨by decide +kernel, rfl⟩
          · refine z_iload_n (pc' := 166) (k := 2) (i := 2) 1 rfl rfl ⟨by decide +kernel, rfl⟩ ?_
            refine z_iconst (pc' := 167) (n := 1) (v := 1) (by decide) ⟨by decide +kernel, rfl⟩ ?_
            refine z_icmp_ne (pc' := 170) (tgt := 207) (off := 40) ⟨by decide +kernel, rfl⟩ rfl (fun h36 => ?_) (fun h36 => ?_)
            · refine z_aload_n (pc' := 171) (k := 0) (i := 0) 3 rfl rfl ⟨by decide +kernel, rfl⟩ ?_
              refine z_dup (pc' := 172) rfl ⟨by decide +kernel, rfl⟩ ?_
              refine z_getI (pc' := 175) (rff_at ca D) rfl ⟨by decide +kernel, rfl⟩ ?_
              refine z_iconst (pc' := 176) (n := 1) (v := 1) (by decide) ⟨by decide +kernel, rfl⟩ ?_
              refine z_iadd (pc' := 177) ⟨by decide +kernel, rfl⟩ ?_
              refine z_putI (pc' := 180) (rff_at ca D) rfl ⟨by decide +kernel, rfl⟩ (z_letU fun u37 => ?_)
              refine z_aload_n (pc' := 181) (k := 0) (i := 0) 3 rfl rfl ⟨by decide +kernel, rfl⟩ ?_
              refine z_callVf (pc' := 184) 0 (rft_now n u37) (rfG_now ca D) (rfO ca D) rfl (by omega) rfl rfl (Nat.le_of_ble_eq_true rfl) ⟨by decide +kernel, rfl⟩ (fun r38 u39 => ?_)
              refine z_bipush (pc' := 186) (n := 40) (v := 40) (by decide) ⟨by decide +kernel, rfl⟩ ?_
              refine z_icmp_ne (pc' := 189) (tgt := 198) (off := 12) ⟨by decide +kernel, rfl⟩ rfl (fun h40 => ?_) (fun h40 => ?_)
              · refine z_aload_n (pc' := 190) (k := 0) (i := 0) 3 rfl rfl ⟨by decide +kernel, rfl⟩ ?_
                refine z_iload_n (pc' := 191) (k := 3) (i := 3) 0 rfl rfl ⟨by decide +kernel, rfl⟩ ?_
                refine z_iload_n (pc' := 192) (k := 1) (i := 1) 2 rfl rfl ⟨by decide +kernel, rfl⟩ ?_
                refine z_callVf (pc' := 195) 0 (h_callOf u39 v8 r4) (rfG_callOf ca D) (rfO ca D) rfl (by omega) rfl rfl (Nat.le_of_ble_eq_true rfl) ⟨by decide +kernel, rfl⟩ (fun _ u42 => ?_)
                refine z_goto (tgt := 343) (off := 148) (by decide +kernel) rfl ?_
                exact z_vret (pc' := 344) ⟨by decide +kernel, rfl⟩
              · refine z_aload_n (pc' := 199) (k := 0) (i := 0) 3 rfl rfl ⟨by decide +kernel, rfl⟩ ?_
                refine z_iload_n (pc' := 200) (k := 3) (i := 3) 0 rfl rfl ⟨by decide +kernel, rfl⟩ ?_
                refine z_iload_n (pc' := 201) (k := 1) (i := 1) 2 rfl rfl ⟨by decide +kernel, rfl⟩ ?_
                refine z_callVf (pc' := 204) 0 (rft_variable n u39 v8 r4) (rfG_variable ca D) (rfO ca D) rfl (by omega) rfl rfl (Nat.le_of_ble_eq_true rfl) ⟨by decide +kernel, rfl⟩ (fun _ u44 => ?_)
                refine z_goto (tgt := 343) (off := 139) (by decide +kernel) rfl ?_
                exact z_vret (pc' := 344) ⟨by decide +kernel, rfl⟩
            · refine z_iload_n (pc' := 208) (k := 2) (i := 2) 1 rfl rfl ⟨by decide +kernel, rfl⟩ ?_
              refine z_sipush (pc' := 211) (n := 208) (v := 208) (by decide) ⟨by decide +kernel, rfl⟩ ?_
              refine z_icmp_eq (pc' := 214) (tgt := 228) (off := 17) ⟨by decide +kernel, rfl⟩ rfl (fun h45 => ?_) (fun h45 => ?_)
              · refine z_lv [3, 2, 1] (lv' := [(0, .ref (a 0)), (1, .int r4), (2, .int r6)]) rfl ?_
                exact rf_one_J228_t n f_expr f_one f_callOf h_expr h_one h_callOf hb u7 r4 r6
              · refine z_iload_n (pc' := 215) (k := 2) (i := 2) 1 rfl rfl ⟨by decide +kernel, rfl⟩ ?_
                refine z_sipush (pc' := 218) (n := 209) (v := 209) (by decide) ⟨by decide +kernel, rfl⟩ ?_
                refine z_icmp_eq (pc' := 221) (tgt := 228) (off := 10) ⟨by decide +kernel, rfl⟩ rfl (fun h46 => ?_) (fun h46 => ?_)
                · refine z_lv [3, 2, 1] (lv' := [(0, .ref (a 0)), (1, .int r4), (2, .int r6)]) rfl ?_
                  exact rf_one_J228_t n f_expr f_one f_callOf h_expr h_one h_callOf hb u7 r4 r6
                · refine z_iload_n (pc' := 222) (k := 2) (i := 2) 1 rfl rfl ⟨by decide +kernel, rfl⟩ ?_
                  refine z_sipush (pc' := 225) (n := 210) (v := 210) (by decide) ⟨by decide +kernel, rfl⟩ ?_
                  refine z_icmp_ne (pc' := 228) (tgt := 339) (off := 114) ⟨by decide +kernel, rfl⟩ rfl (fun h47 => ?_) (fun h47 => ?_)
                  · refine z_lv [3, 2, 1] (lv' := [(0, .ref (a 0)), (1, .int r4), (2, .int r6)]) rfl ?_
                    exact rf_one_J228_t n f_expr f_one f_callOf h_expr h_one h_callOf hb u7 r4 r6
                  · refine z_aload_n (pc' := 340) (k := 0) (i := 0) 3 rfl rfl ⟨by decide +kernel, rfl⟩ ?_
                    refine z_callVf (pc' := 343) 0 (rft_faulty n u7) (rfG_faulty ca D) (rfO ca D) rfl (by omega) rfl rfl (Nat.le_of_ble_eq_true rfl) ⟨by decide +kernel, rfl⟩ (fun _ u49 => ?_)
                    exact z_vret (pc' := 344) ⟨by decide +kernel, rfl⟩
  · exact z_vret (pc' := 8) ⟨by decide +kernel, rfl⟩
set_option maxRecDepth 20000 in
set_option maxHeartbeats 4000000 in
theorem rf_callOf_J76_t {κ : zKx} {ca : Nat → ClassId} {D : va_G} {A : Nat → Prop} {c0 : Nat × Nat} {a g0 g : Nat → Nat} {d : Nat} (n : Nat) (f_expr : zMu → Option (Unit × zMu)) (h_expr : ∀ (u : zMu), zMet (zKl κ) (zRf ca D) rfY_expr (.code rfY_expr prog_13_method_24_code 3 none) zrv true d a g [.ref (a 0)] u (f_expr u)) (hb : 4 ≤ d) (u : zMu) (x1 : Int32) (x2 : Int32) (x3 : Int32) : zJ κ (zRf ca D) prog_13_method_30_code 4 rf_C none zrv true (d + 1) A c0 a g0 g u 76 [(0, .ref (a 0)), (1, .int x1), (2, .int x2), (3, .int x3)] [] (rf_callOf_J76 n f_expr u x1 x2 x3) := by
  unfold rf_callOf_J76
  refine z_aload_n (pc' := 77) (k := 0) (i := 0) 0 rfl rfl ⟨by decide +kernel, rfl⟩ ?_
  refine z_bipush (pc' := 79) (n := 41) (v := 41) (by decide) ⟨by decide +kernel, rfl⟩ ?_
  refine z_callVf (pc' := 82) 0 (rft_closes n u 41) (rfG_closes ca D) (rfO ca D) rfl (by omega) rfl rfl (Nat.le_of_ble_eq_true rfl) ⟨by decide +kernel, rfl⟩ (fun _ u2 => ?_)
  refine z_aload_n (pc' := 83) (k := 0) (i := 0) 0 rfl rfl ⟨by decide +kernel, rfl⟩ ?_
  refine z_getR (pc' := 86) (rff_callAt ca D) rfl (y := a 23) rfl ⟨by decide +kernel, rfl⟩ ?_
  refine z_aload_n (pc' := 87) (k := 0) (i := 0) 0 rfl rfl ⟨by decide +kernel, rfl⟩ ?_
  refine z_getI (pc' := 90) (rff_calls ca D) rfl ⟨by decide +kernel, rfl⟩ ?_
  refine z_aload_n (pc' := 91) (k := 0) (i := 0) 0 rfl rfl ⟨by decide +kernel, rfl⟩ ?_
  refine z_getI (pc' := 94) (rff_codes ca D) rfl ⟨by decide +kernel, rfl⟩ ?_
  refine z_iast (pc' := 95) 23 rfl (zlt rfl) rfl rfl ⟨by decide +kernel, rfl⟩ (z_letU fun u3 => ?_)
  refine z_aload_n (pc' := 96) (k := 0) (i := 0) 0 rfl rfl ⟨by decide +kernel, rfl⟩ ?_
  refine z_getR (pc' := 99) (rff_callName ca D) rfl (y := a 24) rfl ⟨by decide +kernel, rfl⟩ ?_
  refine z_aload_n (pc' := 100) (k := 0) (i := 0) 0 rfl rfl ⟨by decide +kernel, rfl⟩ ?_
  refine z_getI (pc' := 103) (rff_calls ca D) rfl ⟨by decide +kernel, rfl⟩ ?_
  refine z_iload_n (pc' := 104) (k := 1) (i := 1) 1 rfl rfl ⟨by decide +kernel, rfl⟩ ?_
  refine z_iast (pc' := 105) 24 rfl (zlt rfl) rfl rfl ⟨by decide +kernel, rfl⟩ (z_letU fun u4 => ?_)
  refine z_aload_n (pc' := 106) (k := 0) (i := 0) 0 rfl rfl ⟨by decide +kernel, rfl⟩ ?_
  refine z_getR (pc' := 109) (rff_callN ca D) rfl (y := a 25) rfl ⟨by decide +kernel, rfl⟩ ?_
  refine z_aload_n (pc' := 110) (k := 0) (i := 0) 0 rfl rfl ⟨by decide +kernel, rfl⟩ ?_
  refine z_getI (pc' := 113) (rff_calls ca D) rfl ⟨by decide +kernel, rfl⟩ ?_
  refine z_iload_n (pc' := 114) (k := 3) (i := 3) 3 rfl rfl ⟨by decide +kernel, rfl⟩ ?_
  refine z_iast (pc' := 115) 25 rfl (zlt rfl) rfl rfl ⟨by decide +kernel, rfl⟩ (z_letU fun u5 => ?_)
  refine z_aload_n (pc' := 116) (k := 0) (i := 0) 0 rfl rfl ⟨by decide +kernel, rfl⟩ ?_
  refine z_getR (pc' := 119) (rff_callPlace ca D) rfl (y := a 26) rfl ⟨by decide +kernel, rfl⟩ ?_
  refine z_aload_n (pc' := 120) (k := 0) (i := 0) 0 rfl rfl ⟨by decide +kernel, rfl⟩ ?_
  refine z_getI (pc' := 123) (rff_calls ca D) rfl ⟨by decide +kernel, rfl⟩ ?_
  refine z_iload_n (pc' := 124) (k := 2) (i := 2) 2 rfl rfl ⟨by decide +kernel, rfl⟩ ?_
  refine z_iast (pc' := 125) 26 rfl (zlt rfl) rfl rfl ⟨by decide +kernel, rfl⟩ (z_letU fun u6 => ?_)
  refine z_aload_n (pc' := 126) (k := 0) (i := 0) 0 rfl rfl ⟨by decide +kernel, rfl⟩ ?_
  refine z_dup (pc' := 127) rfl ⟨by decide +kernel, rfl⟩ ?_
  refine z_getI (pc' := 130) (rff_calls ca D) rfl ⟨by decide +kernel, rfl⟩ ?_
  refine z_iconst (pc' := 131) (n := 1) (v := 1) (by decide) ⟨by decide +kernel, rfl⟩ ?_
  refine z_iadd (pc' := 132) ⟨by decide +kernel, rfl⟩ ?_
  refine z_putI (pc' := 135) (rff_calls ca D) rfl ⟨by decide +kernel, rfl⟩ (z_letU fun u7 => ?_)
  refine z_aload_n (pc' := 136) (k := 0) (i := 0) 0 rfl rfl ⟨by decide +kernel, rfl⟩ ?_
  refine z_bipush (pc' := 138) (n := 17) (v := 17) (by decide) ⟨by decide +kernel, rfl⟩ ?_
  refine z_iconst (pc' := 139) (n := 0) (v := 0) (by decide) ⟨by decide +kernel, rfl⟩ ?_
  refine z_iload_n (pc' := 140) (k := 3) (i := 3) 3 rfl rfl ⟨by decide +kernel, rfl⟩ ?_
  refine z_iload_n (pc' := 141) (k := 2) (i := 2) 2 rfl rfl ⟨by decide +kernel, rfl⟩ ?_
  refine z_callVf (pc' := 144) 0 (rft_emit n u7 17 0 x3 x2) (rfG_emit ca D) (rfO ca D) rfl (by omega) rfl rfl (Nat.le_of_ble_eq_true rfl) ⟨by decide +kernel, rfl⟩ (fun _ u9 => ?_)
  refine z_aload_n (pc' := 145) (k := 0) (i := 0) 0 rfl rfl ⟨by decide +kernel, rfl⟩ ?_
  refine z_iconst (pc' := 146) (n := 0) (v := 0) (by decide) ⟨by decide +kernel, rfl⟩ ?_
  refine z_putI (pc' := 149) (rff_kind ca D) rfl ⟨by decide +kernel, rfl⟩ (z_letU fun u10 => ?_)
  exact z_vret (pc' := 150) ⟨by decide +kernel, rfl⟩
set_option maxRecDepth 20000 in
set_option maxHeartbeats 4000000 in
theorem rf_callOf_L30_t {κ : zKx} {ca : Nat → ClassId} {D : va_G} {A : Nat → Prop} {c0 : Nat × Nat} {a g0 g : Nat → Nat} {d : Nat} (n : Nat) (f_expr : zMu → Option (Unit × zMu)) (h_expr : ∀ (u : zMu), zMet (zKl κ) (zRf ca D) rfY_expr (.code rfY_expr prog_13_method_24_code 3 none) zrv true d a g [.ref (a 0)] u (f_expr u)) (hb : 4 ≤ d) : ∀ (m : Nat) (u : zMu) (x1 : Int32) (x2 : Int32) (x3 : Int32), zJ κ (zRf ca D) prog_13_method_30_code 4 rf_C none zrv true (d + 1) A c0 a g0 g u 30 [(0, .ref (a 0)), (1, .int x1), (2, .int x2), (3, .int x3)] [] (rf_callOf_L30 n f_expr m u x1 x2 x3) := by
  intro m
  induction m with
  | zero => intro u x1 x2 x3 r u' h; cases h
  | succ m ih =>
    intro u x1 x2 x3
    unfold rf_callOf_L30
    refine z_aload_n (pc' := 31) (k := 0) (i := 0) 0 rfl rfl ⟨by decide +kernel, rfl⟩ ?_
    refine z_callVf (pc' := 34) 0 (rft_isWrong n u) (rfG_isWrong ca D) (rfO ca D) rfl (by omega) rfl rfl (Nat.le_of_ble_eq_true rfl) ⟨by decide +kernel, rfl⟩ (fun r1 u2 => ?_)
    refine z_if_ne (pc' := 37) (tgt := 76) (off := 42) ⟨by decide +kernel, rfl⟩ rfl (fun h3 => ?_) (fun h3 => ?_)
    · refine z_aload_n (pc' := 38) (k := 0) (i := 0) 0 rfl rfl ⟨by decide +kernel, rfl⟩ ?_
      refine z_callVf (pc' := 41) 0 (rft_now n u2) (rfG_now ca D) (rfO ca D) rfl (by omega) rfl rfl (Nat.le_of_ble_eq_true rfl) ⟨by decide +kernel, rfl⟩ (fun r4 u5 => ?_)
      refine z_bipush (pc' := 43) (n := 44) (v := 44) (by decide) ⟨by decide +kernel, rfl⟩ ?_
      refine z_icmp_ne (pc' := 46) (tgt := 76) (off := 33) ⟨by decide +kernel, rfl⟩ rfl (fun h6 => ?_) (fun h6 => ?_)
      · refine z_aload_n (pc' := 47) (k := 0) (i := 0) 0 rfl rfl ⟨by decide +kernel, rfl⟩ ?_
        refine z_dup (pc' := 48) rfl ⟨by decide +kernel, rfl⟩ ?_
        refine z_getI (pc' := 51) (rff_at ca D) rfl ⟨by decide +kernel, rfl⟩ ?_
        refine z_iconst (pc' := 52) (n := 1) (v := 1) (by decide) ⟨by decide +kernel, rfl⟩ ?_
        refine z_iadd (pc' := 53) ⟨by decide +kernel, rfl⟩ ?_
        refine z_putI (pc' := 56) (rff_at ca D) rfl ⟨by decide +kernel, rfl⟩ (z_letU fun u7 => ?_)
        refine z_iload_n (pc' := 57) (k := 3) (i := 3) 3 rfl rfl ⟨by decide +kernel, rfl⟩ ?_
        refine z_iconst (pc' := 58) (n := 4) (v := 4) (by decide) ⟨by decide +kernel, rfl⟩ ?_
        refine z_icmp_ne (pc' := 61) (tgt := 66) (off := 8) ⟨by decide +kernel, rfl⟩ rfl (fun h8 => ?_) (fun h8 => ?_)
        · refine z_aload_n (pc' := 62) (k := 0) (i := 0) 0 rfl rfl ⟨by decide +kernel, rfl⟩ ?_
          refine z_callVf (pc' := 65) 0 (rft_faulty n u7) (rfG_faulty ca D) (rfO ca D) rfl (by omega) rfl rfl (Nat.le_of_ble_eq_true rfl) ⟨by decide +kernel, rfl⟩ (fun _ u10 => ?_)
          exact z_vret (pc' := 66) ⟨by decide +kernel, rfl⟩
        · refine z_aload_n (pc' := 67) (k := 0) (i := 0) 0 rfl rfl ⟨by decide +kernel, rfl⟩ ?_
          refine z_callVf (pc' := 70) 0 (h_expr u7) (rfG_expr ca D) (rfO ca D) rfl (by omega) rfl rfl (Nat.le_of_ble_eq_true rfl) ⟨by decide +kernel, rfl⟩ (fun _ u12 => ?_)
          refine z_iincN (pc' := 73) (i := 3) (n := 1) (c := 1) 3 rfl (by decide) (by decide) rfl ⟨by decide +kernel, rfl⟩ fun v13 => ?_
          refine z_goto (tgt := 30) (off := -43) (by decide +kernel) rfl ?_
          refine z_lv [1, 2, 3, 0] (lv' := [(0, .ref (a 0)), (1, .int x1), (2, .int x2), (3, .int v13)]) rfl ?_
          exact ih u12 x1 x2 v13
      · exact rf_callOf_J76_t n f_expr h_expr hb u5 x1 x2 x3
    · exact rf_callOf_J76_t n f_expr h_expr hb u2 x1 x2 x3
set_option maxRecDepth 20000 in
set_option maxHeartbeats 4000000 in
theorem rft_callOf_b {l : Launch} {ca : Nat → ClassId} {D : va_G} {a g : Nat → Nat} {d : Nat} (n : Nat) (f_expr : zMu → Option (Unit × zMu)) (h_expr : ∀ (u : zMu), zMet l (zRf ca D) rfY_expr (.code rfY_expr prog_13_method_24_code 3 none) zrv true d a g [.ref (a 0)] u (f_expr u)) (hb : 4 ≤ d) (u : zMu) (x1 : Int32) (x2 : Int32) : zMet l (zRf ca D) rfY_callOf (.code rfY_callOf prog_13_method_30_code 4 none) zrv true (d + 1) a g [.ref (a 0), .int x1, .int x2] u (rf_callOf_b n f_expr u x1 x2) := by
  refine zMet.of rfl (Nat.le_of_ble_eq_true rfl) fun κ A hl => ?_
  subst hl
  unfold rf_callOf_b
  refine z_aload_n (pc' := 1) (k := 0) (i := 0) 0 rfl rfl ⟨by decide +kernel, rfl⟩ ?_
  refine z_bipush (pc' := 3) (n := 40) (v := 40) (by decide) ⟨by decide +kernel, rfl⟩ ?_
  refine z_callVf (pc' := 6) 0 (rft_opens n u 40) (rfG_opens ca D) (rfO ca D) rfl (by omega) rfl rfl (Nat.le_of_ble_eq_true rfl) ⟨by decide +kernel, rfl⟩ (fun _ u2 => ?_)
  refine z_iconst (pc' := 7) (n := 0) (v := 0) (by decide) ⟨by decide +kernel, rfl⟩ ?_
  refine z_istore_n (pc' := 8) (k := 3) (i := 3) rfl (by decide) rfl ⟨by decide +kernel, rfl⟩ ?_
  refine z_aload_n (pc' := 9) (k := 0) (i := 0) 1 rfl rfl ⟨by decide +kernel, rfl⟩ ?_
  refine z_callVf (pc' := 12) 0 (rft_isWrong n u2) (rfG_isWrong ca D) (rfO ca D) rfl (by omega) rfl rfl (Nat.le_of_ble_eq_true rfl) ⟨by decide +kernel, rfl⟩ (fun r3 u4 => ?_)
  refine z_if_ne (pc' := 15) (tgt := 76) (off := 64) ⟨by decide +kernel, rfl⟩ rfl (fun h5 => ?_) (fun h5 => ?_)
  · refine z_aload_n (pc' := 16) (k := 0) (i := 0) 1 rfl rfl ⟨by decide +kernel, rfl⟩ ?_
    refine z_callVf (pc' := 19) 0 (rft_now n u4) (rfG_now ca D) (rfO ca D) rfl (by omega) rfl rfl (Nat.le_of_ble_eq_true rfl) ⟨by decide +kernel, rfl⟩ (fun r6 u7 => ?_)
    refine z_bipush (pc' := 21) (n := 41) (v := 41) (by decide) ⟨by decide +kernel, rfl⟩ ?_
    refine z_icmp_eq (pc' := 24) (tgt := 76) (off := 55) ⟨by decide +kernel, rfl⟩ rfl (fun h8 => ?_) (fun h8 => ?_)
    · refine z_lv [1, 2, 3, 0] (lv' := [(0, .ref (a 0)), (1, .int x1), (2, .int x2), (3, .int 0)]) rfl ?_
      exact rf_callOf_J76_t n f_expr h_expr hb u7 x1 x2 0
    · refine z_aload_n (pc' := 25) (k := 0) (i := 0) 1 rfl rfl ⟨by decide +kernel, rfl⟩ ?_
      refine z_callVf (pc' := 28) 0 (h_expr u7) (rfG_expr ca D) (rfO ca D) rfl (by omega) rfl rfl (Nat.le_of_ble_eq_true rfl) ⟨by decide +kernel, rfl⟩ (fun _ u10 => ?_)
      refine z_iconst (pc' := 29) (n := 1) (v := 1) (by decide) ⟨by decide +kernel, rfl⟩ ?_
      refine z_istore_n (pc' := 30) (k := 3) (i := 3) rfl (by decide) rfl ⟨by decide +kernel, rfl⟩ ?_
      refine z_lv [1, 2, 3, 0] (lv' := [(0, .ref (a 0)), (1, .int x1), (2, .int x2), (3, .int 1)]) rfl ?_
      exact rf_callOf_L30_t n f_expr h_expr hb n u10 x1 x2 1
  · refine z_lv [1, 2, 3, 0] (lv' := [(0, .ref (a 0)), (1, .int x1), (2, .int x2), (3, .int 0)]) rfl ?_
    exact rf_callOf_J76_t n f_expr h_expr hb u4 x1 x2 0
set_option maxRecDepth 20000 in
set_option maxHeartbeats 4000000 in
theorem rf_S_expr_t {l : Launch} {ca : Nat → ClassId} {D : va_G} {a g : Nat → Nat} (n : Nat) : ∀ j : Nat, (∀ (u : zMu), zMet l (zRf ca D) rfY_expr (.code rfY_expr prog_13_method_24_code 3 none) zrv true (4 + j) a g [.ref (a 0)] u ((rf_S_expr n j).1 u)) ∧ (∀ (u : zMu), zMet l (zRf ca D) rfY_sum (.code rfY_sum prog_13_method_25_code 4 none) zrv true (4 + j) a g [.ref (a 0)] u ((rf_S_expr n j).2.1 u)) ∧ (∀ (u : zMu), zMet l (zRf ca D) rfY_term (.code rfY_term prog_13_method_26_code 3 none) zrv true (4 + j) a g [.ref (a 0)] u ((rf_S_expr n j).2.2.1 u)) ∧ (∀ (u : zMu), zMet l (zRf ca D) rfY_post (.code rfY_post prog_13_method_27_code 3 none) zrv true (4 + j) a g [.ref (a 0)] u ((rf_S_expr n j).2.2.2.1 u)) ∧ (∀ (u : zMu), zMet l (zRf ca D) rfY_one (.code rfY_one prog_13_method_28_code 5 none) zrv true (4 + j) a g [.ref (a 0)] u ((rf_S_expr n j).2.2.2.2.1 u)) ∧ (∀ (u : zMu) (x1 : Int32) (x2 : Int32), zMet l (zRf ca D) rfY_callOf (.code rfY_callOf prog_13_method_30_code 4 none) zrv true (4 + j) a g [.ref (a 0), .int x1, .int x2] u ((rf_S_expr n j).2.2.2.2.2 u x1 x2))
  | 0 => ⟨(fun _ _ _ h => by cases h), (fun _ _ _ h => by cases h), (fun _ _ _ h => by cases h), (fun _ _ _ h => by cases h), (fun _ _ _ h => by cases h), (fun _ _ _ _ _ h => by cases h)⟩
  | j + 1 => by
    have ih := rf_S_expr_t (l := l) (ca := ca) (D := D) (a := a) (g := g) n j
    refine ⟨?_, ?_, ?_, ?_, ?_, ?_⟩
    · intro u 
      exact rft_expr_b n _ ih.2.1 (by omega) u 
    · intro u 
      exact rft_sum_b n _ ih.2.2.1 (by omega) u 
    · intro u 
      exact rft_term_b n _ ih.2.2.2.1 (by omega) u 
    · intro u 
      exact rft_post_b n _ _ ih.1 ih.2.2.2.2.1 (by omega) u 
    · intro u 
      exact rft_one_b n _ _ _ ih.1 ih.2.2.2.2.1 ih.2.2.2.2.2 (by omega) u 
    · intro u x1 x2
      exact rft_callOf_b n _ ih.1 (by omega) u x1 x2
set_option maxRecDepth 20000 in
set_option maxHeartbeats 4000000 in
theorem rft_expr {l : Launch} {ca : Nat → ClassId} {D : va_G} {a g : Nat → Nat} (n k : Nat) (u : zMu) : zMet l (zRf ca D) rfY_expr (.code rfY_expr prog_13_method_24_code 3 none) zrv true (1 * k + 4) a g [.ref (a 0)] u (rf_expr n k u) := by
  have h := (rf_S_expr_t (l := l) (ca := ca) (D := D) (a := a) (g := g) n k).1 u
  have e : 4 + k = (1 * k + 4) := by omega
  rw [e] at h
  exact h
set_option maxRecDepth 20000 in
set_option maxHeartbeats 4000000 in
theorem rft_sum {l : Launch} {ca : Nat → ClassId} {D : va_G} {a g : Nat → Nat} (n k : Nat) (u : zMu) : zMet l (zRf ca D) rfY_sum (.code rfY_sum prog_13_method_25_code 4 none) zrv true (1 * k + 4) a g [.ref (a 0)] u (rf_sum n k u) := by
  have h := (rf_S_expr_t (l := l) (ca := ca) (D := D) (a := a) (g := g) n k).2.1 u
  have e : 4 + k = (1 * k + 4) := by omega
  rw [e] at h
  exact h
set_option maxRecDepth 20000 in
set_option maxHeartbeats 4000000 in
theorem rft_term {l : Launch} {ca : Nat → ClassId} {D : va_G} {a g : Nat → Nat} (n k : Nat) (u : zMu) : zMet l (zRf ca D) rfY_term (.code rfY_term prog_13_method_26_code 3 none) zrv true (1 * k + 4) a g [.ref (a 0)] u (rf_term n k u) := by
  have h := (rf_S_expr_t (l := l) (ca := ca) (D := D) (a := a) (g := g) n k).2.2.1 u
  have e : 4 + k = (1 * k + 4) := by omega
  rw [e] at h
  exact h
set_option maxRecDepth 20000 in
set_option maxHeartbeats 4000000 in
theorem rft_post {l : Launch} {ca : Nat → ClassId} {D : va_G} {a g : Nat → Nat} (n k : Nat) (u : zMu) : zMet l (zRf ca D) rfY_post (.code rfY_post prog_13_method_27_code 3 none) zrv true (1 * k + 4) a g [.ref (a 0)] u (rf_post n k u) := by
  have h := (rf_S_expr_t (l := l) (ca := ca) (D := D) (a := a) (g := g) n k).2.2.2.1 u
  have e : 4 + k = (1 * k + 4) := by omega
  rw [e] at h
  exact h
set_option maxRecDepth 20000 in
set_option maxHeartbeats 4000000 in
theorem rft_one {l : Launch} {ca : Nat → ClassId} {D : va_G} {a g : Nat → Nat} (n k : Nat) (u : zMu) : zMet l (zRf ca D) rfY_one (.code rfY_one prog_13_method_28_code 5 none) zrv true (1 * k + 4) a g [.ref (a 0)] u (rf_one n k u) := by
  have h := (rf_S_expr_t (l := l) (ca := ca) (D := D) (a := a) (g := g) n k).2.2.2.2.1 u
  have e : 4 + k = (1 * k + 4) := by omega
  rw [e] at h
  exact h
set_option maxRecDepth 20000 in
set_option maxHeartbeats 4000000 in
theorem rft_callOf {l : Launch} {ca : Nat → ClassId} {D : va_G} {a g : Nat → Nat} (n k : Nat) (u : zMu) (x1 : Int32) (x2 : Int32) : zMet l (zRf ca D) rfY_callOf (.code rfY_callOf prog_13_method_30_code 4 none) zrv true (1 * k + 4) a g [.ref (a 0), .int x1, .int x2] u (rf_callOf n k u x1 x2) := by
  have h := (rf_S_expr_t (l := l) (ca := ca) (D := D) (a := a) (g := g) n k).2.2.2.2.2 u x1 x2
  have e : 4 + k = (1 * k + 4) := by omega
  rw [e] at h
  exact h
set_option maxRecDepth 20000 in
set_option maxHeartbeats 4000000 in
theorem rft_lets {l : Launch} {ca : Nat → ClassId} {D : va_G} {a g : Nat → Nat} (n k : Nat) (u : zMu) : zMet l (zRf ca D) rfY_lets (.code rfY_lets prog_13_method_33_code 4 none) zrv true (1 * k + 5) a g [.ref (a 0)] u (rf_lets n k u) := by
  refine zMet.of rfl (Nat.le_of_ble_eq_true rfl) fun κ A hl => ?_
  subst hl
  unfold rf_lets
  refine z_aload_n (pc' := 1) (k := 0) (i := 0) 0 rfl rfl ⟨by decide +kernel, rfl⟩ ?_
  refine z_dup (pc' := 2) rfl ⟨by decide +kernel, rfl⟩ ?_
  refine z_getI (pc' := 5) (rff_at ca D) rfl ⟨by decide +kernel, rfl⟩ ?_
  refine z_iconst (pc' := 6) (n := 1) (v := 1) (by decide) ⟨by decide +kernel, rfl⟩ ?_
  refine z_iadd (pc' := 7) ⟨by decide +kernel, rfl⟩ ?_
  refine z_putI (pc' := 10) (rff_at ca D) rfl ⟨by decide +kernel, rfl⟩ (z_letU fun u1 => ?_)
  refine z_aload_n (pc' := 11) (k := 0) (i := 0) 0 rfl rfl ⟨by decide +kernel, rfl⟩ ?_
  refine z_callVf (pc' := 14) 0 (rft_now n u1) (rfG_now ca D) (rfO ca D) rfl (by omega) rfl rfl (Nat.le_of_ble_eq_true rfl) ⟨by decide +kernel, rfl⟩ (fun r2 u3 => ?_)
  refine z_iconst (pc' := 15) (n := 1) (v := 1) (by decide) ⟨by decide +kernel, rfl⟩ ?_
  refine z_icmp_eq (pc' := 18) (tgt := 23) (off := 8) ⟨by decide +kernel, rfl⟩ rfl (fun h4 => ?_) (fun h4 => ?_)
  · refine z_aload_n (pc' := 24) (k := 0) (i := 0) 0 rfl rfl ⟨by decide +kernel, rfl⟩ ?_
    refine z_getR (pc' := 27) (rff_tWorth ca D) rfl (y := a 6) rfl ⟨by decide +kernel, rfl⟩ ?_
    refine z_aload_n (pc' := 28) (k := 0) (i := 0) 0 rfl rfl ⟨by decide +kernel, rfl⟩ ?_
    refine z_getI (pc' := 31) (rff_at ca D) rfl ⟨by decide +kernel, rfl⟩ ?_
    refine z_iald (pc' := 32) 6 rfl (zlt rfl) rfl rfl ⟨by decide +kernel, rfl⟩ ?_
    refine z_letI fun v5 => ?_
    refine z_istore_n (pc' := 33) (k := 1) (i := 1) rfl (by decide) rfl ⟨by decide +kernel, rfl⟩ ?_
    refine z_aload_n (pc' := 34) (k := 0) (i := 0) 1 rfl rfl ⟨by decide +kernel, rfl⟩ ?_
    refine z_callVf (pc' := 37) 0 (rft_place n u3) (rfG_place ca D) (rfO ca D) rfl (by omega) rfl rfl (Nat.le_of_ble_eq_true rfl) ⟨by decide +kernel, rfl⟩ (fun r6 u7 => ?_)
    refine z_istore_n (pc' := 38) (k := 2) (i := 2) rfl (by decide) rfl ⟨by decide +kernel, rfl⟩ ?_
    refine z_aload_n (pc' := 39) (k := 0) (i := 0) 2 rfl rfl ⟨by decide +kernel, rfl⟩ ?_
    refine z_dup (pc' := 40) rfl ⟨by decide +kernel, rfl⟩ ?_
    refine z_getI (pc' := 43) (rff_at ca D) rfl ⟨by decide +kernel, rfl⟩ ?_
    refine z_iconst (pc' := 44) (n := 1) (v := 1) (by decide) ⟨by decide +kernel, rfl⟩ ?_
    refine z_iadd (pc' := 45) ⟨by decide +kernel, rfl⟩ ?_
    refine z_putI (pc' := 48) (rff_at ca D) rfl ⟨by decide +kernel, rfl⟩ (z_letU fun u8 => ?_)
    refine z_aload_n (pc' := 49) (k := 0) (i := 0) 2 rfl rfl ⟨by decide +kernel, rfl⟩ ?_
    refine z_bipush (pc' := 51) (n := 61) (v := 61) (by decide) ⟨by decide +kernel, rfl⟩ ?_
    refine z_callVf (pc' := 54) 0 (rft_want n u8 61) (rfG_want ca D) (rfO ca D) rfl (by omega) rfl rfl (Nat.le_of_ble_eq_true rfl) ⟨by decide +kernel, rfl⟩ (fun _ u10 => ?_)
    refine z_aload_n (pc' := 55) (k := 0) (i := 0) 2 rfl rfl ⟨by decide +kernel, rfl⟩ ?_
    refine z_callVf (pc' := 58) 0 (rft_isWrong n u10) (rfG_isWrong ca D) (rfO ca D) rfl (by omega) rfl rfl (Nat.le_of_ble_eq_true rfl) ⟨by decide +kernel, rfl⟩ (fun r11 u12 => ?_)
    refine z_if_eq (pc' := 61) (tgt := 62) (off := 4) ⟨by decide +kernel, rfl⟩ rfl (fun h13 => ?_) (fun h13 => ?_)
    · refine z_aload_n (pc' := 63) (k := 0) (i := 0) 2 rfl rfl ⟨by decide +kernel, rfl⟩ ?_
      refine z_callVf (pc' := 66) 0 (rft_expr n k u12) (rfG_expr ca D) (rfO ca D) rfl (by omega) rfl rfl (Nat.le_of_ble_eq_true rfl) ⟨by decide +kernel, rfl⟩ (fun _ u15 => ?_)
      refine z_aload_n (pc' := 67) (k := 0) (i := 0) 2 rfl rfl ⟨by decide +kernel, rfl⟩ ?_
      refine z_bipush (pc' := 69) (n := 59) (v := 59) (by decide) ⟨by decide +kernel, rfl⟩ ?_
      refine z_callVf (pc' := 72) 0 (rft_want n u15 59) (rfG_want ca D) (rfO ca D) rfl (by omega) rfl rfl (Nat.le_of_ble_eq_true rfl) ⟨by decide +kernel, rfl⟩ (fun _ u17 => ?_)
      refine z_aload_n (pc' := 73) (k := 0) (i := 0) 2 rfl rfl ⟨by decide +kernel, rfl⟩ ?_
      refine z_iload_n (pc' := 74) (k := 1) (i := 1) 1 rfl rfl ⟨by decide +kernel, rfl⟩ ?_
      refine z_iload_n (pc' := 75) (k := 2) (i := 2) 0 rfl rfl ⟨by decide +kernel, rfl⟩ ?_
      refine z_callVf (pc' := 78) 0 (rft_addVar n u17 v5 r6) (rfG_addVar ca D) (rfO ca D) rfl (by omega) rfl rfl (Nat.le_of_ble_eq_true rfl) ⟨by decide +kernel, rfl⟩ (fun _ u19 => ?_)
      refine z_aload_n (pc' := 79) (k := 0) (i := 0) 2 rfl rfl ⟨by decide +kernel, rfl⟩ ?_
      refine z_iload_n (pc' := 80) (k := 1) (i := 1) 1 rfl rfl ⟨by decide +kernel, rfl⟩ ?_
      refine z_callVf (pc' := 83) 0 (rft_findVar n u19 v5) (rfG_findVar ca D) (rfO ca D) rfl (by omega) rfl rfl (Nat.le_of_ble_eq_true rfl) ⟨by decide +kernel, rfl⟩ (fun r20 u21 => ?_)
      refine z_istore_n (pc' := 84) (k := 3) (i := 3) rfl (by decide) rfl ⟨by decide +kernel, rfl⟩ ?_
      refine z_aload_n (pc' := 85) (k := 0) (i := 0) 3 rfl rfl ⟨by decide +kernel, rfl⟩ ?_
      refine z_iconst (pc' := 86) (n := 4) (v := 4) (by decide) ⟨by decide +kernel, rfl⟩ ?_
      refine z_iload_n (pc' := 87) (k := 3) (i := 3) 0 rfl rfl ⟨by decide +kernel, rfl⟩ ?_
      refine z_iconst (pc' := 88) (n := 0) (v := 0) (by decide) ⟨by decide +kernel, rfl⟩ ?_
      refine z_iload_n (pc' := 89) (k := 2) (i := 2) 1 rfl rfl ⟨by decide +kernel, rfl⟩ ?_
      refine z_callVf (pc' := 92) 0 (rft_emit n u21 4 r20 0 r6) (rfG_emit ca D) (rfO ca D) rfl (by omega) rfl rfl (Nat.le_of_ble_eq_true rfl) ⟨by decide +kernel, rfl⟩ (fun _ u23 => ?_)
      exact z_vret (pc' := 93) ⟨by decide +kernel, rfl⟩
    · exact z_vret (pc' := 62) ⟨by decide +kernel, rfl⟩
  · refine z_aload_n (pc' := 19) (k := 0) (i := 0) 0 rfl rfl ⟨by decide +kernel, rfl⟩ ?_
    refine z_callVf (pc' := 22) 0 (rft_faulty n u3) (rfG_faulty ca D) (rfO ca D) rfl (by omega) rfl rfl (Nat.le_of_ble_eq_true rfl) ⟨by decide +kernel, rfl⟩ (fun _ u25 => ?_)
    exact z_vret (pc' := 23) ⟨by decide +kernel, rfl⟩
set_option maxRecDepth 20000 in
set_option maxHeartbeats 4000000 in
theorem rft_assigns {l : Launch} {ca : Nat → ClassId} {D : va_G} {a g : Nat → Nat} (n k : Nat) (u : zMu) : zMet l (zRf ca D) rfY_assigns (.code rfY_assigns prog_13_method_34_code 4 none) zrv true (1 * k + 5) a g [.ref (a 0)] u (rf_assigns n k u) := by
  refine zMet.of rfl (Nat.le_of_ble_eq_true rfl) fun κ A hl => ?_
  subst hl
  unfold rf_assigns
  refine z_aload_n (pc' := 1) (k := 0) (i := 0) 0 rfl rfl ⟨by decide +kernel, rfl⟩ ?_
  refine z_callVf (pc' := 4) 0 (rft_expr n k u) (rfG_expr ca D) (rfO ca D) rfl (by omega) rfl rfl (Nat.le_of_ble_eq_true rfl) ⟨by decide +kernel, rfl⟩ (fun _ u2 => ?_)
  refine z_aload_n (pc' := 5) (k := 0) (i := 0) 0 rfl rfl ⟨by decide +kernel, rfl⟩ ?_
  refine z_callVf (pc' := 8) 0 (rft_isWrong n u2) (rfG_isWrong ca D) (rfO ca D) rfl (by omega) rfl rfl (Nat.le_of_ble_eq_true rfl) ⟨by decide +kernel, rfl⟩ (fun r3 u4 => ?_)
  refine z_if_eq (pc' := 11) (tgt := 12) (off := 4) ⟨by decide +kernel, rfl⟩ rfl (fun h5 => ?_) (fun h5 => ?_)
  · refine z_aload_n (pc' := 13) (k := 0) (i := 0) 0 rfl rfl ⟨by decide +kernel, rfl⟩ ?_
    refine z_callVf (pc' := 16) 0 (rft_now n u4) (rfG_now ca D) (rfO ca D) rfl (by omega) rfl rfl (Nat.le_of_ble_eq_true rfl) ⟨by decide +kernel, rfl⟩ (fun r6 u7 => ?_)
    refine z_bipush (pc' := 18) (n := 61) (v := 61) (by decide) ⟨by decide +kernel, rfl⟩ ?_
    refine z_icmp_eq (pc' := 21) (tgt := 37) (off := 19) ⟨by decide +kernel, rfl⟩ rfl (fun h8 => ?_) (fun h8 => ?_)
    · refine z_aload_n (pc' := 38) (k := 0) (i := 0) 0 rfl rfl ⟨by decide +kernel, rfl⟩ ?_
      refine z_getI (pc' := 41) (rff_kind ca D) rfl ⟨by decide +kernel, rfl⟩ ?_
      refine z_if_ne (pc' := 44) (tgt := 49) (off := 8) ⟨by decide +kernel, rfl⟩ rfl (fun h9 => ?_) (fun h9 => ?_)
      · refine z_aload_n (pc' := 45) (k := 0) (i := 0) 0 rfl rfl ⟨by decide +kernel, rfl⟩ ?_
        refine z_callVf (pc' := 48) 0 (rft_faulty n u7) (rfG_faulty ca D) (rfO ca D) rfl (by omega) rfl rfl (Nat.le_of_ble_eq_true rfl) ⟨by decide +kernel, rfl⟩ (fun _ u11 => ?_)
        exact z_vret (pc' := 49) ⟨by decide +kernel, rfl⟩
      · refine z_aload_n (pc' := 50) (k := 0) (i := 0) 0 rfl rfl ⟨by decide +kernel, rfl⟩ ?_
        refine z_dup (pc' := 51) rfl ⟨by decide +kernel, rfl⟩ ?_
        refine z_getI (pc' := 54) (rff_codes ca D) rfl ⟨by decide +kernel, rfl⟩ ?_
        refine z_iconst (pc' := 55) (n := 1) (v := 1) (by decide) ⟨by decide +kernel, rfl⟩ ?_
        refine z_isub (pc' := 56) ⟨by decide +kernel, rfl⟩ ?_
        refine z_putI (pc' := 59) (rff_codes ca D) rfl ⟨by decide +kernel, rfl⟩ (z_letU fun u12 => ?_)
        refine z_aload_n (pc' := 60) (k := 0) (i := 0) 0 rfl rfl ⟨by decide +kernel, rfl⟩ ?_
        refine z_getI (pc' := 63) (rff_kind ca D) rfl ⟨by decide +kernel, rfl⟩ ?_
        refine z_letI fun v13 => ?_
        refine z_istore_n (pc' := 64) (k := 1) (i := 1) rfl (by decide) rfl ⟨by decide +kernel, rfl⟩ ?_
        refine z_aload_n (pc' := 65) (k := 0) (i := 0) 1 rfl rfl ⟨by decide +kernel, rfl⟩ ?_
        refine z_getR (pc' := 68) (rff_opA ca D) rfl (y := a 11) rfl ⟨by decide +kernel, rfl⟩ ?_
        refine z_aload_n (pc' := 69) (k := 0) (i := 0) 1 rfl rfl ⟨by decide +kernel, rfl⟩ ?_
        refine z_getI (pc' := 72) (rff_codes ca D) rfl ⟨by decide +kernel, rfl⟩ ?_
        refine z_iald (pc' := 73) 11 rfl (zlt rfl) rfl rfl ⟨by decide +kernel, rfl⟩ ?_
        refine z_letI fun v14 => ?_
        refine z_istore_n (pc' := 74) (k := 2) (i := 2) rfl (by decide) rfl ⟨by decide +kernel, rfl⟩ ?_
        refine z_aload_n (pc' := 75) (k := 0) (i := 0) 2 rfl rfl ⟨by decide +kernel, rfl⟩ ?_
        refine z_getR (pc' := 78) (rff_opPlace ca D) rfl (y := a 13) rfl ⟨by decide +kernel, rfl⟩ ?_
        refine z_aload_n (pc' := 79) (k := 0) (i := 0) 2 rfl rfl ⟨by decide +kernel, rfl⟩ ?_
        refine z_getI (pc' := 82) (rff_codes ca D) rfl ⟨by decide +kernel, rfl⟩ ?_
        refine z_iald (pc' := 83) 13 rfl (zlt rfl) rfl rfl ⟨by decide +kernel, rfl⟩ ?_
        refine z_letI fun v15 => ?_
        refine z_istore_n (pc' := 84) (k := 3) (i := 3) rfl (by decide) rfl ⟨by decide +kernel, rfl⟩ ?_
        refine z_aload_n (pc' := 85) (k := 0) (i := 0) 3 rfl rfl ⟨by decide +kernel, rfl⟩ ?_
        refine z_dup (pc' := 86) rfl ⟨by decide +kernel, rfl⟩ ?_
        refine z_getI (pc' := 89) (rff_at ca D) rfl ⟨by decide +kernel, rfl⟩ ?_
        refine z_iconst (pc' := 90) (n := 1) (v := 1) (by decide) ⟨by decide +kernel, rfl⟩ ?_
        refine z_iadd (pc' := 91) ⟨by decide +kernel, rfl⟩ ?_
        refine z_putI (pc' := 94) (rff_at ca D) rfl ⟨by decide +kernel, rfl⟩ (z_letU fun u16 => ?_)
        refine z_aload_n (pc' := 95) (k := 0) (i := 0) 3 rfl rfl ⟨by decide +kernel, rfl⟩ ?_
        refine z_callVf (pc' := 98) 0 (rft_expr n k u16) (rfG_expr ca D) (rfO ca D) rfl (by omega) rfl rfl (Nat.le_of_ble_eq_true rfl) ⟨by decide +kernel, rfl⟩ (fun _ u18 => ?_)
        refine z_aload_n (pc' := 99) (k := 0) (i := 0) 3 rfl rfl ⟨by decide +kernel, rfl⟩ ?_
        refine z_bipush (pc' := 101) (n := 59) (v := 59) (by decide) ⟨by decide +kernel, rfl⟩ ?_
        refine z_callVf (pc' := 104) 0 (rft_want n u18 59) (rfG_want ca D) (rfO ca D) rfl (by omega) rfl rfl (Nat.le_of_ble_eq_true rfl) ⟨by decide +kernel, rfl⟩ (fun _ u20 => ?_)
        refine z_iload_n (pc' := 105) (k := 1) (i := 1) 2 rfl rfl ⟨by decide +kernel, rfl⟩ ?_
        refine z_iconst (pc' := 106) (n := 1) (v := 1) (by decide) ⟨by decide +kernel, rfl⟩ ?_
        refine z_icmp_ne (pc' := 109) (tgt := 120) (off := 14) ⟨by decide +kernel, rfl⟩ rfl (fun h21 => ?_) (fun h21 => ?_)
        · refine z_aload_n (pc' := 110) (k := 0) (i := 0) 3 rfl rfl ⟨by decide +kernel, rfl⟩ ?_
          refine z_iconst (pc' := 111) (n := 4) (v := 4) (by decide) ⟨by decide +kernel, rfl⟩ ?_
          refine z_iload_n (pc' := 112) (k := 2) (i := 2) 1 rfl rfl ⟨by decide +kernel, rfl⟩ ?_
          refine z_iconst (pc' := 113) (n := 0) (v := 0) (by decide) ⟨by decide +kernel, rfl⟩ ?_
          refine z_iload_n (pc' := 114) (k := 3) (i := 3) 0 rfl rfl ⟨by decide +kernel, rfl⟩ ?_
          refine z_callVf (pc' := 117) 0 (rft_emit n u20 4 v14 0 v15) (rfG_emit ca D) (rfO ca D) rfl (by omega) rfl rfl (Nat.le_of_ble_eq_true rfl) ⟨by decide +kernel, rfl⟩ (fun _ u23 => ?_)
          refine z_goto (tgt := 153) (off := 36) (by decide +kernel) rfl ?_
          exact z_vret (pc' := 154) ⟨by decide +kernel, rfl⟩
        · refine z_iload_n (pc' := 121) (k := 1) (i := 1) 2 rfl rfl ⟨by decide +kernel, rfl⟩ ?_
          refine z_iconst (pc' := 122) (n := 2) (v := 2) (by decide) ⟨by decide +kernel, rfl⟩ ?_
          refine z_icmp_ne (pc' := 125) (tgt := 144) (off := 22) ⟨by decide +kernel, rfl⟩ rfl (fun h24 => ?_) (fun h24 => ?_)
          · refine z_aload_n (pc' := 126) (k := 0) (i := 0) 3 rfl rfl ⟨by decide +kernel, rfl⟩ ?_
            refine z_getR (pc' := 129) (rff_siteKind ca D) rfl (y := a 19) rfl ⟨by decide +kernel, rfl⟩ ?_
            refine z_iload_n (pc' := 130) (k := 2) (i := 2) 1 rfl rfl ⟨by decide +kernel, rfl⟩ ?_
            refine z_iconst (pc' := 131) (n := 1) (v := 1) (by decide) ⟨by decide +kernel, rfl⟩ ?_
            refine z_iast (pc' := 132) 19 rfl (zlt rfl) rfl rfl ⟨by decide +kernel, rfl⟩ (z_letU fun u25 => ?_)
            refine z_aload_n (pc' := 133) (k := 0) (i := 0) 3 rfl rfl ⟨by decide +kernel, rfl⟩ ?_
            refine z_bipush (pc' := 135) (n := 6) (v := 6) (by decide) ⟨by decide +kernel, rfl⟩ ?_
            refine z_iload_n (pc' := 136) (k := 2) (i := 2) 1 rfl rfl ⟨by decide +kernel, rfl⟩ ?_
            refine z_iconst (pc' := 137) (n := 0) (v := 0) (by decide) ⟨by decide +kernel, rfl⟩ ?_
            refine z_iload_n (pc' := 138) (k := 3) (i := 3) 0 rfl rfl ⟨by decide +kernel, rfl⟩ ?_
            refine z_callVf (pc' := 141) 0 (rft_emit n u25 6 v14 0 v15) (rfG_emit ca D) (rfO ca D) rfl (by omega) rfl rfl (Nat.le_of_ble_eq_true rfl) ⟨by decide +kernel, rfl⟩ (fun _ u27 => ?_)
            refine z_goto (tgt := 153) (off := 12) (by decide +kernel) rfl ?_
            exact z_vret (pc' := 154) ⟨by decide +kernel, rfl⟩
          · refine z_aload_n (pc' := 145) (k := 0) (i := 0) 3 rfl rfl ⟨by decide +kernel, rfl⟩ ?_
            refine z_bipush (pc' := 147) (n := 16) (v := 16) (by decide) ⟨by decide +kernel, rfl⟩ ?_
            refine z_iconst (pc' := 148) (n := 0) (v := 0) (by decide) ⟨by decide +kernel, rfl⟩ ?_
            refine z_iconst (pc' := 149) (n := 0) (v := 0) (by decide) ⟨by decide +kernel, rfl⟩ ?_
            refine z_iload_n (pc' := 150) (k := 3) (i := 3) 0 rfl rfl ⟨by decide +kernel, rfl⟩ ?_
            refine z_callVf (pc' := 153) 0 (rft_emit n u20 16 0 0 v15) (rfG_emit ca D) (rfO ca D) rfl (by omega) rfl rfl (Nat.le_of_ble_eq_true rfl) ⟨by decide +kernel, rfl⟩ (fun _ u29 => ?_)
            exact z_vret (pc' := 154) ⟨by decide +kernel, rfl⟩
    · refine z_aload_n (pc' := 22) (k := 0) (i := 0) 0 rfl rfl ⟨by decide +kernel, rfl⟩ ?_
      refine z_bipush (pc' := 24) (n := 59) (v := 59) (by decide) ⟨by decide +kernel, rfl⟩ ?_
      refine z_callVf (pc' := 27) 0 (rft_want n u7 59) (rfG_want ca D) (rfO ca D) rfl (by omega) rfl rfl (Nat.le_of_ble_eq_true rfl) ⟨by decide +kernel, rfl⟩ (fun _ u31 => ?_)
      refine z_aload_n (pc' := 28) (k := 0) (i := 0) 0 rfl rfl ⟨by decide +kernel, rfl⟩ ?_
      refine z_bipush (pc' := 30) (n := 20) (v := 20) (by decide) ⟨by decide +kernel, rfl⟩ ?_
      refine z_iconst (pc' := 31) (n := 0) (v := 0) (by decide) ⟨by decide +kernel, rfl⟩ ?_
      refine z_iconst (pc' := 32) (n := 0) (v := 0) (by decide) ⟨by decide +kernel, rfl⟩ ?_
      refine z_iconst (pc' := 33) (n := 0) (v := 0) (by decide) ⟨by decide +kernel, rfl⟩ ?_
      refine z_callVf (pc' := 36) 0 (rft_emit n u31 20 0 0 0) (rfG_emit ca D) (rfO ca D) rfl (by omega) rfl rfl (Nat.le_of_ble_eq_true rfl) ⟨by decide +kernel, rfl⟩ (fun _ u33 => ?_)
      exact z_vret (pc' := 37) ⟨by decide +kernel, rfl⟩
  · exact z_vret (pc' := 12) ⟨by decide +kernel, rfl⟩
set_option maxRecDepth 20000 in
set_option maxHeartbeats 4000000 in
theorem rf_block_L6_t {κ : zKx} {ca : Nat → ClassId} {D : va_G} {A : Nat → Prop} {c0 : Nat × Nat} {a g0 g : Nat → Nat} {d : Nat} (n k : Nat) (f_step : zMu → Option (Unit × zMu)) (h_step : ∀ (u : zMu), zMet (zKl κ) (zRf ca D) rfY_step (.code rfY_step prog_13_method_32_code 6 none) zrv true d a g [.ref (a 0)] u (f_step u)) (hb : (1 * k + 6) ≤ d) : ∀ (m : Nat) (u : zMu), zJ κ (zRf ca D) prog_13_method_31_code 1 rf_C none zrv true (d + 1) A c0 a g0 g u 6 [(0, .ref (a 0))] [] (rf_block_L6 n k f_step m u) := by
  intro m
  induction m with
  | zero => intro u r u' h; cases h
  | succ m ih =>
    intro u
    unfold rf_block_L6
    refine z_aload_n (pc' := 7) (k := 0) (i := 0) 0 rfl rfl ⟨by decide +kernel, rfl⟩ ?_
    refine z_callVf (pc' := 10) 0 (rft_isWrong n u) (rfG_isWrong ca D) (rfO ca D) rfl (by omega) rfl rfl (Nat.le_of_ble_eq_true rfl) ⟨by decide +kernel, rfl⟩ (fun r1 u2 => ?_)
    refine z_if_ne (pc' := 13) (tgt := 36) (off := 26) ⟨by decide +kernel, rfl⟩ rfl (fun h3 => ?_) (fun h3 => ?_)
    · refine z_aload_n (pc' := 14) (k := 0) (i := 0) 0 rfl rfl ⟨by decide +kernel, rfl⟩ ?_
      refine z_callVf (pc' := 17) 0 (rft_now n u2) (rfG_now ca D) (rfO ca D) rfl (by omega) rfl rfl (Nat.le_of_ble_eq_true rfl) ⟨by decide +kernel, rfl⟩ (fun r4 u5 => ?_)
      refine z_bipush (pc' := 19) (n := 125) (v := 125) (by decide) ⟨by decide +kernel, rfl⟩ ?_
      refine z_icmp_eq (pc' := 22) (tgt := 36) (off := 17) ⟨by decide +kernel, rfl⟩ rfl (fun h6 => ?_) (fun h6 => ?_)
      · refine z_aload_n (pc' := 37) (k := 0) (i := 0) 0 rfl rfl ⟨by decide +kernel, rfl⟩ ?_
        refine z_bipush (pc' := 39) (n := 125) (v := 125) (by decide) ⟨by decide +kernel, rfl⟩ ?_
        refine z_callVf (pc' := 42) 0 (rft_closes n u5 125) (rfG_closes ca D) (rfO ca D) rfl (by omega) rfl rfl (Nat.le_of_ble_eq_true rfl) ⟨by decide +kernel, rfl⟩ (fun _ u8 => ?_)
        exact z_vret (pc' := 43) ⟨by decide +kernel, rfl⟩
      · refine z_aload_n (pc' := 23) (k := 0) (i := 0) 0 rfl rfl ⟨by decide +kernel, rfl⟩ ?_
        refine z_callVf (pc' := 26) 0 (rft_now n u5) (rfG_now ca D) (rfO ca D) rfl (by omega) rfl rfl (Nat.le_of_ble_eq_true rfl) ⟨by decide +kernel, rfl⟩ (fun r9 u10 => ?_)
        refine z_if_eq (pc' := 29) (tgt := 36) (off := 10) ⟨by decide +kernel, rfl⟩ rfl (fun h11 => ?_) (fun h11 => ?_)
        · refine z_aload_n (pc' := 37) (k := 0) (i := 0) 0 rfl rfl ⟨by decide +kernel, rfl⟩ ?_
          refine z_bipush (pc' := 39) (n := 125) (v := 125) (by decide) ⟨by decide +kernel, rfl⟩ ?_
          refine z_callVf (pc' := 42) 0 (rft_closes n u10 125) (rfG_closes ca D) (rfO ca D) rfl (by omega) rfl rfl (Nat.le_of_ble_eq_true rfl) ⟨by decide +kernel, rfl⟩ (fun _ u13 => ?_)
          exact z_vret (pc' := 43) ⟨by decide +kernel, rfl⟩
        · refine z_aload_n (pc' := 30) (k := 0) (i := 0) 0 rfl rfl ⟨by decide +kernel, rfl⟩ ?_
          refine z_callVf (pc' := 33) 0 (h_step u10) (rfG_step ca D) (rfO ca D) rfl (by omega) rfl rfl (Nat.le_of_ble_eq_true rfl) ⟨by decide +kernel, rfl⟩ (fun _ u15 => ?_)
          refine z_goto (tgt := 6) (off := -27) (by decide +kernel) rfl ?_
          exact ih u15
    · refine z_aload_n (pc' := 37) (k := 0) (i := 0) 0 rfl rfl ⟨by decide +kernel, rfl⟩ ?_
      refine z_bipush (pc' := 39) (n := 125) (v := 125) (by decide) ⟨by decide +kernel, rfl⟩ ?_
      refine z_callVf (pc' := 42) 0 (rft_closes n u2 125) (rfG_closes ca D) (rfO ca D) rfl (by omega) rfl rfl (Nat.le_of_ble_eq_true rfl) ⟨by decide +kernel, rfl⟩ (fun _ u17 => ?_)
      exact z_vret (pc' := 43) ⟨by decide +kernel, rfl⟩
set_option maxRecDepth 20000 in
set_option maxHeartbeats 4000000 in
theorem rft_block_b {l : Launch} {ca : Nat → ClassId} {D : va_G} {a g : Nat → Nat} {d : Nat} (n k : Nat) (f_step : zMu → Option (Unit × zMu)) (h_step : ∀ (u : zMu), zMet l (zRf ca D) rfY_step (.code rfY_step prog_13_method_32_code 6 none) zrv true d a g [.ref (a 0)] u (f_step u)) (hb : (1 * k + 6) ≤ d) (u : zMu) : zMet l (zRf ca D) rfY_block (.code rfY_block prog_13_method_31_code 1 none) zrv true (d + 1) a g [.ref (a 0)] u (rf_block_b n k f_step u) := by
  refine zMet.of rfl (Nat.le_of_ble_eq_true rfl) fun κ A hl => ?_
  subst hl
  unfold rf_block_b
  refine z_aload_n (pc' := 1) (k := 0) (i := 0) 0 rfl rfl ⟨by decide +kernel, rfl⟩ ?_
  refine z_bipush (pc' := 3) (n := 123) (v := 123) (by decide) ⟨by decide +kernel, rfl⟩ ?_
  refine z_callVf (pc' := 6) 0 (rft_opens n u 123) (rfG_opens ca D) (rfO ca D) rfl (by omega) rfl rfl (Nat.le_of_ble_eq_true rfl) ⟨by decide +kernel, rfl⟩ (fun _ u2 => ?_)
  exact rf_block_L6_t n k f_step h_step hb n u2
set_option maxRecDepth 20000 in
set_option maxHeartbeats 4000000 in
theorem rf_step_J51_t {κ : zKx} {ca : Nat → ClassId} {D : va_G} {A : Nat → Prop} {c0 : Nat × Nat} {a g0 g : Nat → Nat} {d : Nat} (n k : Nat) (f_block : zMu → Option (Unit × zMu)) (h_block : ∀ (u : zMu), zMet (zKl κ) (zRf ca D) rfY_block (.code rfY_block prog_13_method_31_code 1 none) zrv true d a g [.ref (a 0)] u (f_block u)) (hb : (1 * k + 6) ≤ d) (u : zMu) (x1 : Int32) (x2 : Int32) (x3 : Int32) : zJ κ (zRf ca D) prog_13_method_32_code 6 rf_C none zrv true (d + 1) A c0 a g0 g u 51 [(0, .ref (a 0)), (1, .int x1), (2, .int x2), (3, .int x3)] [] (rf_step_J51 n k f_block u x1 x2 x3) := by
  unfold rf_step_J51
  refine z_aload_n (pc' := 52) (k := 0) (i := 0) 0 rfl rfl ⟨by decide +kernel, rfl⟩ ?_
  refine z_dup (pc' := 53) rfl ⟨by decide +kernel, rfl⟩ ?_
  refine z_getI (pc' := 56) (rff_at ca D) rfl ⟨by decide +kernel, rfl⟩ ?_
  refine z_iconst (pc' := 57) (n := 1) (v := 1) (by decide) ⟨by decide +kernel, rfl⟩ ?_
  refine z_iadd (pc' := 58) ⟨by decide +kernel, rfl⟩ ?_
  refine z_putI (pc' := 61) (rff_at ca D) rfl ⟨by decide +kernel, rfl⟩ (z_letU fun u1 => ?_)
  refine z_aload_n (pc' := 62) (k := 0) (i := 0) 0 rfl rfl ⟨by decide +kernel, rfl⟩ ?_
  refine z_callVf (pc' := 65) 0 (rft_expr n k u1) (rfG_expr ca D) (rfO ca D) rfl (by omega) rfl rfl (Nat.le_of_ble_eq_true rfl) ⟨by decide +kernel, rfl⟩ (fun _ u3 => ?_)
  refine z_aload_n (pc' := 66) (k := 0) (i := 0) 0 rfl rfl ⟨by decide +kernel, rfl⟩ ?_
  refine z_getI (pc' := 69) (rff_codes ca D) rfl ⟨by decide +kernel, rfl⟩ ?_
  refine z_letI fun v4 => ?_
  refine z_istore (pc' := 71) (i := 4) (by decide) rfl ⟨by decide +kernel, rfl⟩ ?_
  refine z_aload_n (pc' := 72) (k := 0) (i := 0) 1 rfl rfl ⟨by decide +kernel, rfl⟩ ?_
  refine z_bipush (pc' := 74) (n := 21) (v := 21) (by decide) ⟨by decide +kernel, rfl⟩ ?_
  refine z_iconst (pc' := 75) (n := 0) (v := 0) (by decide) ⟨by decide +kernel, rfl⟩ ?_
  refine z_iconst (pc' := 76) (n := 0) (v := 0) (by decide) ⟨by decide +kernel, rfl⟩ ?_
  refine z_iload_n (pc' := 77) (k := 2) (i := 2) 3 rfl rfl ⟨by decide +kernel, rfl⟩ ?_
  refine z_callVf (pc' := 80) 0 (rft_emit n u3 21 0 0 x2) (rfG_emit ca D) (rfO ca D) rfl (by omega) rfl rfl (Nat.le_of_ble_eq_true rfl) ⟨by decide +kernel, rfl⟩ (fun _ u6 => ?_)
  refine z_aload_n (pc' := 81) (k := 0) (i := 0) 1 rfl rfl ⟨by decide +kernel, rfl⟩ ?_
  refine z_callVf (pc' := 84) 0 (h_block u6) (rfG_block ca D) (rfO ca D) rfl (by omega) rfl rfl (Nat.le_of_ble_eq_true rfl) ⟨by decide +kernel, rfl⟩ (fun _ u8 => ?_)
  refine z_iload_n (pc' := 85) (k := 1) (i := 1) 2 rfl rfl ⟨by decide +kernel, rfl⟩ ?_
  refine z_sipush (pc' := 88) (n := 204) (v := 204) (by decide) ⟨by decide +kernel, rfl⟩ ?_
  refine z_icmp_ne (pc' := 91) (tgt := 103) (off := 15) ⟨by decide +kernel, rfl⟩ rfl (fun h9 => ?_) (fun h9 => ?_)
  · refine z_aload_n (pc' := 92) (k := 0) (i := 0) 1 rfl rfl ⟨by decide +kernel, rfl⟩ ?_
    refine z_bipush (pc' := 94) (n := 22) (v := 22) (by decide) ⟨by decide +kernel, rfl⟩ ?_
    refine z_iload_n (pc' := 95) (k := 3) (i := 3) 4 rfl rfl ⟨by decide +kernel, rfl⟩ ?_
    refine z_iconst (pc' := 96) (n := 0) (v := 0) (by decide) ⟨by decide +kernel, rfl⟩ ?_
    refine z_iload_n (pc' := 97) (k := 2) (i := 2) 3 rfl rfl ⟨by decide +kernel, rfl⟩ ?_
    refine z_callVf (pc' := 100) 0 (rft_emit n u8 22 x3 0 x2) (rfG_emit ca D) (rfO ca D) rfl (by omega) rfl rfl (Nat.le_of_ble_eq_true rfl) ⟨by decide +kernel, rfl⟩ (fun _ u11 => ?_)
    refine z_goto (tgt := 172) (off := 72) (by decide +kernel) rfl ?_
    refine z_aload_n (pc' := 173) (k := 0) (i := 0) 1 rfl rfl ⟨by decide +kernel, rfl⟩ ?_
    refine z_getR (pc' := 176) (rff_opA ca D) rfl (y := a 11) rfl ⟨by decide +kernel, rfl⟩ ?_
    refine z_iload (pc' := 178) (i := 4) 0 rfl ⟨by decide +kernel, rfl⟩ ?_
    refine z_aload_n (pc' := 179) (k := 0) (i := 0) 1 rfl rfl ⟨by decide +kernel, rfl⟩ ?_
    refine z_getI (pc' := 182) (rff_codes ca D) rfl ⟨by decide +kernel, rfl⟩ ?_
    refine z_iast (pc' := 183) 11 rfl (zlt rfl) rfl rfl ⟨by decide +kernel, rfl⟩ (z_letU fun u12 => ?_)
    refine z_goto (tgt := 350) (off := 167) (by decide +kernel) rfl ?_
    exact z_vret (pc' := 351) ⟨by decide +kernel, rfl⟩
  · refine z_aload_n (pc' := 104) (k := 0) (i := 0) 1 rfl rfl ⟨by decide +kernel, rfl⟩ ?_
    refine z_callVf (pc' := 107) 0 (rft_isWrong n u8) (rfG_isWrong ca D) (rfO ca D) rfl (by omega) rfl rfl (Nat.le_of_ble_eq_true rfl) ⟨by decide +kernel, rfl⟩ (fun r13 u14 => ?_)
    refine z_if_ne (pc' := 110) (tgt := 172) (off := 65) ⟨by decide +kernel, rfl⟩ rfl (fun h15 => ?_) (fun h15 => ?_)
    · refine z_aload_n (pc' := 111) (k := 0) (i := 0) 1 rfl rfl ⟨by decide +kernel, rfl⟩ ?_
      refine z_callVf (pc' := 114) 0 (rft_now n u14) (rfG_now ca D) (rfO ca D) rfl (by omega) rfl rfl (Nat.le_of_ble_eq_true rfl) ⟨by decide +kernel, rfl⟩ (fun r16 u17 => ?_)
      refine z_sipush (pc' := 117) (n := 203) (v := 203) (by decide) ⟨by decide +kernel, rfl⟩ ?_
      refine z_icmp_ne (pc' := 120) (tgt := 172) (off := 55) ⟨by decide +kernel, rfl⟩ rfl (fun h18 => ?_) (fun h18 => ?_)
      · refine z_aload_n (pc' := 121) (k := 0) (i := 0) 1 rfl rfl ⟨by decide +kernel, rfl⟩ ?_
        refine z_dup (pc' := 122) rfl ⟨by decide +kernel, rfl⟩ ?_
        refine z_getI (pc' := 125) (rff_at ca D) rfl ⟨by decide +kernel, rfl⟩ ?_
        refine z_iconst (pc' := 126) (n := 1) (v := 1) (by decide) ⟨by decide +kernel, rfl⟩ ?_
        refine z_iadd (pc' := 127) ⟨by decide +kernel, rfl⟩ ?_
        refine z_putI (pc' := 130) (rff_at ca D) rfl ⟨by decide +kernel, rfl⟩ (z_letU fun u19 => ?_)
        refine z_aload_n (pc' := 131) (k := 0) (i := 0) 1 rfl rfl ⟨by decide +kernel, rfl⟩ ?_
        refine z_getI (pc' := 134) (rff_codes ca D) rfl ⟨by decide +kernel, rfl⟩ ?_
        refine z_letI fun v20 => ?_
        refine z_istore (pc' := 136) (i := 5) (by decide) rfl ⟨by decide +kernel, rfl⟩ ?_
        refine z_aload_n (pc' := 137) (k := 0) (i := 0) 2 rfl rfl ⟨by decide +kernel, rfl⟩ ?_
        refine z_bipush (pc' := 139) (n := 22) (v := 22) (by decide) ⟨by decide +kernel, rfl⟩ ?_
        refine z_iconst (pc' := 140) (n := 0) (v := 0) (by decide) ⟨by decide +kernel, rfl⟩ ?_
        refine z_iconst (pc' := 141) (n := 0) (v := 0) (by decide) ⟨by decide +kernel, rfl⟩ ?_
        refine z_iload_n (pc' := 142) (k := 2) (i := 2) 4 rfl rfl ⟨by decide +kernel, rfl⟩ ?_
        refine z_callVf (pc' := 145) 0 (rft_emit n u19 22 0 0 x2) (rfG_emit ca D) (rfO ca D) rfl (by omega) rfl rfl (Nat.le_of_ble_eq_true rfl) ⟨by decide +kernel, rfl⟩ (fun _ u22 => ?_)
        refine z_aload_n (pc' := 146) (k := 0) (i := 0) 2 rfl rfl ⟨by decide +kernel, rfl⟩ ?_
        refine z_getR (pc' := 149) (rff_opA ca D) rfl (y := a 11) rfl ⟨by decide +kernel, rfl⟩ ?_
        refine z_iload (pc' := 151) (i := 4) 1 rfl ⟨by decide +kernel, rfl⟩ ?_
        refine z_aload_n (pc' := 152) (k := 0) (i := 0) 2 rfl rfl ⟨by decide +kernel, rfl⟩ ?_
        refine z_getI (pc' := 155) (rff_codes ca D) rfl ⟨by decide +kernel, rfl⟩ ?_
        refine z_iast (pc' := 156) 11 rfl (zlt rfl) rfl rfl ⟨by decide +kernel, rfl⟩ (z_letU fun u23 => ?_)
        refine z_aload_n (pc' := 157) (k := 0) (i := 0) 2 rfl rfl ⟨by decide +kernel, rfl⟩ ?_
        refine z_callVf (pc' := 160) 0 (h_block u23) (rfG_block ca D) (rfO ca D) rfl (by omega) rfl rfl (Nat.le_of_ble_eq_true rfl) ⟨by decide +kernel, rfl⟩ (fun _ u25 => ?_)
        refine z_aload_n (pc' := 161) (k := 0) (i := 0) 2 rfl rfl ⟨by decide +kernel, rfl⟩ ?_
        refine z_getR (pc' := 164) (rff_opA ca D) rfl (y := a 11) rfl ⟨by decide +kernel, rfl⟩ ?_
        refine z_iload (pc' := 166) (i := 5) 0 rfl ⟨by decide +kernel, rfl⟩ ?_
        refine z_aload_n (pc' := 167) (k := 0) (i := 0) 2 rfl rfl ⟨by decide +kernel, rfl⟩ ?_
        refine z_getI (pc' := 170) (rff_codes ca D) rfl ⟨by decide +kernel, rfl⟩ ?_
        refine z_iast (pc' := 171) 11 rfl (zlt rfl) rfl rfl ⟨by decide +kernel, rfl⟩ (z_letU fun u26 => ?_)
        exact z_vret (pc' := 172) ⟨by decide +kernel, rfl⟩
      · refine z_aload_n (pc' := 173) (k := 0) (i := 0) 1 rfl rfl ⟨by decide +kernel, rfl⟩ ?_
        refine z_getR (pc' := 176) (rff_opA ca D) rfl (y := a 11) rfl ⟨by decide +kernel, rfl⟩ ?_
        refine z_iload (pc' := 178) (i := 4) 0 rfl ⟨by decide +kernel, rfl⟩ ?_
        refine z_aload_n (pc' := 179) (k := 0) (i := 0) 1 rfl rfl ⟨by decide +kernel, rfl⟩ ?_
        refine z_getI (pc' := 182) (rff_codes ca D) rfl ⟨by decide +kernel, rfl⟩ ?_
        refine z_iast (pc' := 183) 11 rfl (zlt rfl) rfl rfl ⟨by decide +kernel, rfl⟩ (z_letU fun u27 => ?_)
        refine z_goto (tgt := 350) (off := 167) (by decide +kernel) rfl ?_
        exact z_vret (pc' := 351) ⟨by decide +kernel, rfl⟩
    · refine z_aload_n (pc' := 173) (k := 0) (i := 0) 1 rfl rfl ⟨by decide +kernel, rfl⟩ ?_
      refine z_getR (pc' := 176) (rff_opA ca D) rfl (y := a 11) rfl ⟨by decide +kernel, rfl⟩ ?_
      refine z_iload (pc' := 178) (i := 4) 0 rfl ⟨by decide +kernel, rfl⟩ ?_
      refine z_aload_n (pc' := 179) (k := 0) (i := 0) 1 rfl rfl ⟨by decide +kernel, rfl⟩ ?_
      refine z_getI (pc' := 182) (rff_codes ca D) rfl ⟨by decide +kernel, rfl⟩ ?_
      refine z_iast (pc' := 183) 11 rfl (zlt rfl) rfl rfl ⟨by decide +kernel, rfl⟩ (z_letU fun u28 => ?_)
      refine z_goto (tgt := 350) (off := 167) (by decide +kernel) rfl ?_
      exact z_vret (pc' := 351) ⟨by decide +kernel, rfl⟩
set_option maxRecDepth 20000 in
set_option maxHeartbeats 4000000 in
theorem rf_step_J200_t {κ : zKx} {ca : Nat → ClassId} {D : va_G} {A : Nat → Prop} {c0 : Nat × Nat} {a g0 g : Nat → Nat} {d : Nat} (n k : Nat) (f_block : zMu → Option (Unit × zMu)) (h_block : ∀ (u : zMu), zMet (zKl κ) (zRf ca D) rfY_block (.code rfY_block prog_13_method_31_code 1 none) zrv true d a g [.ref (a 0)] u (f_block u)) (hb : (1 * k + 6) ≤ d) (u : zMu) (x1 : Int32) (x2 : Int32) : zJ κ (zRf ca D) prog_13_method_32_code 6 rf_C none zrv true (d + 1) A c0 a g0 g u 200 [(0, .ref (a 0)), (1, .int x1), (2, .int x2)] [] (rf_step_J200 n k f_block u x1 x2) := by
  unfold rf_step_J200
  refine z_aload_n (pc' := 201) (k := 0) (i := 0) 0 rfl rfl ⟨by decide +kernel, rfl⟩ ?_
  refine z_dup (pc' := 202) rfl ⟨by decide +kernel, rfl⟩ ?_
  refine z_getI (pc' := 205) (rff_at ca D) rfl ⟨by decide +kernel, rfl⟩ ?_
  refine z_iconst (pc' := 206) (n := 1) (v := 1) (by decide) ⟨by decide +kernel, rfl⟩ ?_
  refine z_iadd (pc' := 207) ⟨by decide +kernel, rfl⟩ ?_
  refine z_putI (pc' := 210) (rff_at ca D) rfl ⟨by decide +kernel, rfl⟩ (z_letU fun u1 => ?_)
  refine z_aload_n (pc' := 211) (k := 0) (i := 0) 0 rfl rfl ⟨by decide +kernel, rfl⟩ ?_
  refine z_callVf (pc' := 214) 0 (rft_expr n k u1) (rfG_expr ca D) (rfO ca D) rfl (by omega) rfl rfl (Nat.le_of_ble_eq_true rfl) ⟨by decide +kernel, rfl⟩ (fun _ u3 => ?_)
  refine z_aload_n (pc' := 215) (k := 0) (i := 0) 0 rfl rfl ⟨by decide +kernel, rfl⟩ ?_
  refine z_bipush (pc' := 217) (n := 59) (v := 59) (by decide) ⟨by decide +kernel, rfl⟩ ?_
  refine z_callVf (pc' := 220) 0 (rft_want n u3 59) (rfG_want ca D) (rfO ca D) rfl (by omega) rfl rfl (Nat.le_of_ble_eq_true rfl) ⟨by decide +kernel, rfl⟩ (fun _ u5 => ?_)
  refine z_aload_n (pc' := 221) (k := 0) (i := 0) 0 rfl rfl ⟨by decide +kernel, rfl⟩ ?_
  refine z_iload_n (pc' := 222) (k := 1) (i := 1) 1 rfl rfl ⟨by decide +kernel, rfl⟩ ?_
  refine z_sipush (pc' := 225) (n := 205) (v := 205) (by decide) ⟨by decide +kernel, rfl⟩ ?_
  refine z_icmp_ne (pc' := 228) (tgt := 233) (off := 8) ⟨by decide +kernel, rfl⟩ rfl (fun h6 => ?_) (fun h6 => ?_)
  · refine z_bipush (pc' := 230) (n := 18) (v := 18) (by decide) ⟨by decide +kernel, rfl⟩ ?_
    refine z_goto (tgt := 235) (off := 5) (by decide +kernel) rfl ?_
    refine z_iconst (pc' := 236) (n := 0) (v := 0) (by decide) ⟨by decide +kernel, rfl⟩ ?_
    refine z_iconst (pc' := 237) (n := 0) (v := 0) (by decide) ⟨by decide +kernel, rfl⟩ ?_
    refine z_iload_n (pc' := 238) (k := 2) (i := 2) 2 rfl rfl ⟨by decide +kernel, rfl⟩ ?_
    refine z_callVf (pc' := 241) 0 (rft_emit n u5 18 0 0 x2) (rfG_emit ca D) (rfO ca D) rfl (by omega) rfl rfl (Nat.le_of_ble_eq_true rfl) ⟨by decide +kernel, rfl⟩ (fun _ u8 => ?_)
    refine z_goto (tgt := 350) (off := 109) (by decide +kernel) rfl ?_
    exact z_vret (pc' := 351) ⟨by decide +kernel, rfl⟩
  · refine z_bipush (pc' := 235) (n := 19) (v := 19) (by decide) ⟨by decide +kernel, rfl⟩ ?_
    refine z_iconst (pc' := 236) (n := 0) (v := 0) (by decide) ⟨by decide +kernel, rfl⟩ ?_
    refine z_iconst (pc' := 237) (n := 0) (v := 0) (by decide) ⟨by decide +kernel, rfl⟩ ?_
    refine z_iload_n (pc' := 238) (k := 2) (i := 2) 2 rfl rfl ⟨by decide +kernel, rfl⟩ ?_
    refine z_callVf (pc' := 241) 0 (rft_emit n u5 19 0 0 x2) (rfG_emit ca D) (rfO ca D) rfl (by omega) rfl rfl (Nat.le_of_ble_eq_true rfl) ⟨by decide +kernel, rfl⟩ (fun _ u10 => ?_)
    refine z_goto (tgt := 350) (off := 109) (by decide +kernel) rfl ?_
    exact z_vret (pc' := 351) ⟨by decide +kernel, rfl⟩
set_option maxRecDepth 20000 in
set_option maxHeartbeats 4000000 in
theorem rf_step_J284_t {κ : zKx} {ca : Nat → ClassId} {D : va_G} {A : Nat → Prop} {c0 : Nat × Nat} {a g0 g : Nat → Nat} {d : Nat} (n k : Nat) (f_block : zMu → Option (Unit × zMu)) (h_block : ∀ (u : zMu), zMet (zKl κ) (zRf ca D) rfY_block (.code rfY_block prog_13_method_31_code 1 none) zrv true d a g [.ref (a 0)] u (f_block u)) (hb : (1 * k + 6) ≤ d) (u : zMu) : zJ κ (zRf ca D) prog_13_method_32_code 6 rf_C none zrv true (d + 1) A c0 a g0 g u 284 [(0, .ref (a 0))] [] (rf_step_J284 n k f_block u) := by
  unfold rf_step_J284
  refine z_aload_n (pc' := 285) (k := 0) (i := 0) 0 rfl rfl ⟨by decide +kernel, rfl⟩ ?_
  refine z_callVf (pc' := 288) 0 (rft_isWrong n u) (rfG_isWrong ca D) (rfO ca D) rfl (by omega) rfl rfl (Nat.le_of_ble_eq_true rfl) ⟨by decide +kernel, rfl⟩ (fun r1 u2 => ?_)
  refine z_if_eq (pc' := 291) (tgt := 292) (off := 4) ⟨by decide +kernel, rfl⟩ rfl (fun h3 => ?_) (fun h3 => ?_)
  · refine z_aload_n (pc' := 293) (k := 0) (i := 0) 0 rfl rfl ⟨by decide +kernel, rfl⟩ ?_
    refine z_dup (pc' := 294) rfl ⟨by decide +kernel, rfl⟩ ?_
    refine z_getI (pc' := 297) (rff_codes ca D) rfl ⟨by decide +kernel, rfl⟩ ?_
    refine z_iconst (pc' := 298) (n := 1) (v := 1) (by decide) ⟨by decide +kernel, rfl⟩ ?_
    refine z_isub (pc' := 299) ⟨by decide +kernel, rfl⟩ ?_
    refine z_putI (pc' := 302) (rff_codes ca D) rfl ⟨by decide +kernel, rfl⟩ (z_letU fun u4 => ?_)
    refine z_aload_n (pc' := 303) (k := 0) (i := 0) 0 rfl rfl ⟨by decide +kernel, rfl⟩ ?_
    refine z_getR (pc' := 306) (rff_opA ca D) rfl (y := a 11) rfl ⟨by decide +kernel, rfl⟩ ?_
    refine z_aload_n (pc' := 307) (k := 0) (i := 0) 0 rfl rfl ⟨by decide +kernel, rfl⟩ ?_
    refine z_getI (pc' := 310) (rff_codes ca D) rfl ⟨by decide +kernel, rfl⟩ ?_
    refine z_iald (pc' := 311) 11 rfl (zlt rfl) rfl rfl ⟨by decide +kernel, rfl⟩ ?_
    refine z_letI fun v5 => ?_
    refine z_istore (pc' := 313) (i := 4) (by decide) rfl ⟨by decide +kernel, rfl⟩ ?_
    refine z_aload_n (pc' := 314) (k := 0) (i := 0) 1 rfl rfl ⟨by decide +kernel, rfl⟩ ?_
    refine z_getR (pc' := 317) (rff_siteKind ca D) rfl (y := a 19) rfl ⟨by decide +kernel, rfl⟩ ?_
    refine z_iload (pc' := 319) (i := 4) 0 rfl ⟨by decide +kernel, rfl⟩ ?_
    refine z_iconst (pc' := 320) (n := 2) (v := 2) (by decide) ⟨by decide +kernel, rfl⟩ ?_
    refine z_iast (pc' := 321) 19 rfl (zlt rfl) rfl rfl ⟨by decide +kernel, rfl⟩ (z_letU fun u6 => ?_)
    refine z_aload_n (pc' := 322) (k := 0) (i := 0) 1 rfl rfl ⟨by decide +kernel, rfl⟩ ?_
    refine z_bipush (pc' := 324) (n := 59) (v := 59) (by decide) ⟨by decide +kernel, rfl⟩ ?_
    refine z_callVf (pc' := 327) 0 (rft_want n u6 59) (rfG_want ca D) (rfO ca D) rfl (by omega) rfl rfl (Nat.le_of_ble_eq_true rfl) ⟨by decide +kernel, rfl⟩ (fun _ u8 => ?_)
    refine z_aload_n (pc' := 328) (k := 0) (i := 0) 1 rfl rfl ⟨by decide +kernel, rfl⟩ ?_
    refine z_bipush (pc' := 330) (n := 7) (v := 7) (by decide) ⟨by decide +kernel, rfl⟩ ?_
    refine z_iload (pc' := 332) (i := 4) 0 rfl ⟨by decide +kernel, rfl⟩ ?_
    refine z_iconst (pc' := 333) (n := 0) (v := 0) (by decide) ⟨by decide +kernel, rfl⟩ ?_
    refine z_aload_n (pc' := 334) (k := 0) (i := 0) 1 rfl rfl ⟨by decide +kernel, rfl⟩ ?_
    refine z_getR (pc' := 337) (rff_sitePlace ca D) rfl (y := a 20) rfl ⟨by decide +kernel, rfl⟩ ?_
    refine z_iload (pc' := 339) (i := 4) 0 rfl ⟨by decide +kernel, rfl⟩ ?_
    refine z_iald (pc' := 340) 20 rfl (zlt rfl) rfl rfl ⟨by decide +kernel, rfl⟩ ?_
    refine z_callVf (pc' := 343) 0 (rft_emit n u8 7 v5 0 (zI u8 20 (zx v5))) (rfG_emit ca D) (rfO ca D) rfl (by omega) rfl rfl (Nat.le_of_ble_eq_true rfl) ⟨by decide +kernel, rfl⟩ (fun _ u10 => ?_)
    refine z_goto (tgt := 350) (off := 7) (by decide +kernel) rfl ?_
    exact z_vret (pc' := 351) ⟨by decide +kernel, rfl⟩
  · exact z_vret (pc' := 292) ⟨by decide +kernel, rfl⟩
set_option maxRecDepth 20000 in
set_option maxHeartbeats 4000000 in
theorem rft_step_b {l : Launch} {ca : Nat → ClassId} {D : va_G} {a g : Nat → Nat} {d : Nat} (n k : Nat) (f_block : zMu → Option (Unit × zMu)) (h_block : ∀ (u : zMu), zMet l (zRf ca D) rfY_block (.code rfY_block prog_13_method_31_code 1 none) zrv true d a g [.ref (a 0)] u (f_block u)) (hb : (1 * k + 6) ≤ d) (u : zMu) : zMet l (zRf ca D) rfY_step (.code rfY_step prog_13_method_32_code 6 none) zrv true (d + 1) a g [.ref (a 0)] u (rf_step_b n k f_block u) := by
  refine zMet.of rfl (Nat.le_of_ble_eq_true rfl) fun κ A hl => ?_
  subst hl
  unfold rf_step_b
  refine z_aload_n (pc' := 1) (k := 0) (i := 0) 0 rfl rfl ⟨by decide +kernel, rfl⟩ ?_
  refine z_callVf (pc' := 4) 0 (rft_now n u) (rfG_now ca D) (rfO ca D) rfl (by omega) rfl rfl (Nat.le_of_ble_eq_true rfl) ⟨by decide +kernel, rfl⟩ (fun r1 u2 => ?_)
  refine z_istore_n (pc' := 5) (k := 1) (i := 1) rfl (by decide) rfl ⟨by decide +kernel, rfl⟩ ?_
  refine z_aload_n (pc' := 6) (k := 0) (i := 0) 1 rfl rfl ⟨by decide +kernel, rfl⟩ ?_
  refine z_callVf (pc' := 9) 0 (rft_place n u2) (rfG_place ca D) (rfO ca D) rfl (by omega) rfl rfl (Nat.le_of_ble_eq_true rfl) ⟨by decide +kernel, rfl⟩ (fun r3 u4 => ?_)
  refine z_istore_n (pc' := 10) (k := 2) (i := 2) rfl (by decide) rfl ⟨by decide +kernel, rfl⟩ ?_
  refine z_aload_n (pc' := 11) (k := 0) (i := 0) 2 rfl rfl ⟨by decide +kernel, rfl⟩ ?_
  refine z_getI (pc' := 14) (rff_codes ca D) rfl ⟨by decide +kernel, rfl⟩ ?_
  refine z_letI fun v5 => ?_
  refine z_istore_n (pc' := 15) (k := 3) (i := 3) rfl (by decide) rfl ⟨by decide +kernel, rfl⟩ ?_
  refine z_aload_n (pc' := 16) (k := 0) (i := 0) 3 rfl rfl ⟨by decide +kernel, rfl⟩ ?_
  refine z_iconst (pc' := 17) (n := 0) (v := 0) (by decide) ⟨by decide +kernel, rfl⟩ ?_
  refine z_iconst (pc' := 18) (n := 0) (v := 0) (by decide) ⟨by decide +kernel, rfl⟩ ?_
  refine z_iconst (pc' := 19) (n := 0) (v := 0) (by decide) ⟨by decide +kernel, rfl⟩ ?_
  refine z_iload_n (pc' := 20) (k := 2) (i := 2) 1 rfl rfl ⟨by decide +kernel, rfl⟩ ?_
  refine z_callVf (pc' := 23) 0 (rft_emit n u4 0 0 0 r3) (rfG_emit ca D) (rfO ca D) rfl (by omega) rfl rfl (Nat.le_of_ble_eq_true rfl) ⟨by decide +kernel, rfl⟩ (fun _ u7 => ?_)
  refine z_iload_n (pc' := 24) (k := 1) (i := 1) 2 rfl rfl ⟨by decide +kernel, rfl⟩ ?_
  refine z_sipush (pc' := 27) (n := 201) (v := 201) (by decide) ⟨by decide +kernel, rfl⟩ ?_
  refine z_icmp_ne (pc' := 30) (tgt := 37) (off := 10) ⟨by decide +kernel, rfl⟩ rfl (fun h8 => ?_) (fun h8 => ?_)
  · refine z_aload_n (pc' := 31) (k := 0) (i := 0) 3 rfl rfl ⟨by decide +kernel, rfl⟩ ?_
    refine z_callVf (pc' := 34) 0 (rft_lets n k u7) (rfG_lets ca D) (rfO ca D) rfl (by omega) rfl rfl (Nat.le_of_ble_eq_true rfl) ⟨by decide +kernel, rfl⟩ (fun _ u10 => ?_)
    refine z_goto (tgt := 350) (off := 316) (by decide +kernel) rfl ?_
    exact z_vret (pc' := 351) ⟨by decide +kernel, rfl⟩
  · refine z_iload_n (pc' := 38) (k := 1) (i := 1) 2 rfl rfl ⟨by decide +kernel, rfl⟩ ?_
    refine z_sipush (pc' := 41) (n := 202) (v := 202) (by decide) ⟨by decide +kernel, rfl⟩ ?_
    refine z_icmp_eq (pc' := 44) (tgt := 51) (off := 10) ⟨by decide +kernel, rfl⟩ rfl (fun h11 => ?_) (fun h11 => ?_)
    · refine z_lv [3, 2, 1, 0] (lv' := [(0, .ref (a 0)), (1, .int r1), (2, .int r3), (3, .int v5)]) rfl ?_
      exact rf_step_J51_t n k f_block h_block hb u7 r1 r3 v5
    · refine z_iload_n (pc' := 45) (k := 1) (i := 1) 2 rfl rfl ⟨by decide +kernel, rfl⟩ ?_
      refine z_sipush (pc' := 48) (n := 204) (v := 204) (by decide) ⟨by decide +kernel, rfl⟩ ?_
      refine z_icmp_ne (pc' := 51) (tgt := 186) (off := 138) ⟨by decide +kernel, rfl⟩ rfl (fun h12 => ?_) (fun h12 => ?_)
      · refine z_lv [3, 2, 1, 0] (lv' := [(0, .ref (a 0)), (1, .int r1), (2, .int r3), (3, .int v5)]) rfl ?_
        exact rf_step_J51_t n k f_block h_block hb u7 r1 r3 v5
      · refine z_iload_n (pc' := 187) (k := 1) (i := 1) 2 rfl rfl ⟨by decide +kernel, rfl⟩ ?_
        refine z_sipush (pc' := 190) (n := 205) (v := 205) (by decide) ⟨by decide +kernel, rfl⟩ ?_
        refine z_icmp_eq (pc' := 193) (tgt := 200) (off := 10) ⟨by decide +kernel, rfl⟩ rfl (fun h13 => ?_) (fun h13 => ?_)
        · refine z_lv [3, 2, 1] (lv' := [(0, .ref (a 0)), (1, .int r1), (2, .int r3)]) rfl ?_
          exact rf_step_J200_t n k f_block h_block hb u7 r1 r3
        · refine z_iload_n (pc' := 194) (k := 1) (i := 1) 2 rfl rfl ⟨by decide +kernel, rfl⟩ ?_
          refine z_sipush (pc' := 197) (n := 206) (v := 206) (by decide) ⟨by decide +kernel, rfl⟩ ?_
          refine z_icmp_ne (pc' := 200) (tgt := 244) (off := 47) ⟨by decide +kernel, rfl⟩ rfl (fun h14 => ?_) (fun h14 => ?_)
          · refine z_lv [3, 2, 1] (lv' := [(0, .ref (a 0)), (1, .int r1), (2, .int r3)]) rfl ?_
            exact rf_step_J200_t n k f_block h_block hb u7 r1 r3
          · refine z_iload_n (pc' := 245) (k := 1) (i := 1) 2 rfl rfl ⟨by decide +kernel, rfl⟩ ?_
            refine z_sipush (pc' := 248) (n := 207) (v := 207) (by decide) ⟨by decide +kernel, rfl⟩ ?_
            refine z_icmp_ne (pc' := 251) (tgt := 346) (off := 98) ⟨by decide +kernel, rfl⟩ rfl (fun h15 => ?_) (fun h15 => ?_)
            · refine z_aload_n (pc' := 252) (k := 0) (i := 0) 3 rfl rfl ⟨by decide +kernel, rfl⟩ ?_
              refine z_dup (pc' := 253) rfl ⟨by decide +kernel, rfl⟩ ?_
              refine z_getI (pc' := 256) (rff_at ca D) rfl ⟨by decide +kernel, rfl⟩ ?_
              refine z_iconst (pc' := 257) (n := 1) (v := 1) (by decide) ⟨by decide +kernel, rfl⟩ ?_
              refine z_iadd (pc' := 258) ⟨by decide +kernel, rfl⟩ ?_
              refine z_putI (pc' := 261) (rff_at ca D) rfl ⟨by decide +kernel, rfl⟩ (z_letU fun u16 => ?_)
              refine z_aload_n (pc' := 262) (k := 0) (i := 0) 3 rfl rfl ⟨by decide +kernel, rfl⟩ ?_
              refine z_callVf (pc' := 265) 0 (rft_expr n k u16) (rfG_expr ca D) (rfO ca D) rfl (by omega) rfl rfl (Nat.le_of_ble_eq_true rfl) ⟨by decide +kernel, rfl⟩ (fun _ u18 => ?_)
              refine z_aload_n (pc' := 266) (k := 0) (i := 0) 3 rfl rfl ⟨by decide +kernel, rfl⟩ ?_
              refine z_callVf (pc' := 269) 0 (rft_isWrong n u18) (rfG_isWrong ca D) (rfO ca D) rfl (by omega) rfl rfl (Nat.le_of_ble_eq_true rfl) ⟨by decide +kernel, rfl⟩ (fun r19 u20 => ?_)
              refine z_if_ne (pc' := 272) (tgt := 284) (off := 15) ⟨by decide +kernel, rfl⟩ rfl (fun h21 => ?_) (fun h21 => ?_)
              · refine z_aload_n (pc' := 273) (k := 0) (i := 0) 3 rfl rfl ⟨by decide +kernel, rfl⟩ ?_
                refine z_getI (pc' := 276) (rff_kind ca D) rfl ⟨by decide +kernel, rfl⟩ ?_
                refine z_iconst (pc' := 277) (n := 2) (v := 2) (by decide) ⟨by decide +kernel, rfl⟩ ?_
                refine z_icmp_eq (pc' := 280) (tgt := 284) (off := 7) ⟨by decide +kernel, rfl⟩ rfl (fun h22 => ?_) (fun h22 => ?_)
                · refine z_lv [3] (lv' := [(0, .ref (a 0))]) rfl ?_
                  exact rf_step_J284_t n k f_block h_block hb u20
                · refine z_aload_n (pc' := 281) (k := 0) (i := 0) 3 rfl rfl ⟨by decide +kernel, rfl⟩ ?_
                  refine z_callVf (pc' := 284) 0 (rft_faulty n u20) (rfG_faulty ca D) (rfO ca D) rfl (by omega) rfl rfl (Nat.le_of_ble_eq_true rfl) ⟨by decide +kernel, rfl⟩ (fun _ u24 => ?_)
                  refine z_lv [3] (lv' := [(0, .ref (a 0))]) rfl ?_
                  exact rf_step_J284_t n k f_block h_block hb u24
              · refine z_lv [3] (lv' := [(0, .ref (a 0))]) rfl ?_
                exact rf_step_J284_t n k f_block h_block hb u20
            · refine z_aload_n (pc' := 347) (k := 0) (i := 0) 3 rfl rfl ⟨by decide +kernel, rfl⟩ ?_
              refine z_callVf (pc' := 350) 0 (rft_assigns n k u7) (rfG_assigns ca D) (rfO ca D) rfl (by omega) rfl rfl (Nat.le_of_ble_eq_true rfl) ⟨by decide +kernel, rfl⟩ (fun _ u26 => ?_)
              exact z_vret (pc' := 351) ⟨by decide +kernel, rfl⟩
