/-! the reference's methods meet their models (printed by wip/gen/ref.py) -/
set_option maxRecDepth 20000 in
set_option maxHeartbeats 4000000 in
theorem rft_fitOf {l : Launch} {ca : Nat → ClassId} {D : va_G} {a g : Nat → Nat} (n : Nat) (u : zMu) (x0 : Int32) (x1 : Int64) : zMet l (zRf ca D) rfY_fitOf (.code rfY_fitOf prog_13_method_67_code 3 (some .int)) zri true 1 a g [.int x0, .long x1] u (rf_fitOf n u x0 x1) := by
  refine zMet.of rfl (Nat.le_of_ble_eq_true rfl) fun κ A hl => ?_
  subst hl
  unfold rf_fitOf
  refine z_iload_n (pc' := 1) (k := 0) (i := 0) 0 rfl rfl ⟨by decide +kernel, rfl⟩ ?_
  refine z_iconst (pc' := 2) (n := 1) (v := 1) (by decide) ⟨by decide +kernel, rfl⟩ ?_
  refine z_icmp_ne (pc' := 5) (tgt := 12) (off := 10) ⟨by decide +kernel, rfl⟩ rfl (fun h1 => ?_) (fun h1 => ?_)
  · refine z_lload_n (pc' := 6) (k := 1) (i := 1) 1 rfl rfl ⟨by decide +kernel, rfl⟩ ?_
    refine z_callSf (pc' := 9) (rft_isWhole n u x1) (rfG_isWhole ca D) (by omega) rfl rfl (Nat.le_of_ble_eq_true rfl) ⟨by decide +kernel, rfl⟩ (fun r2 u3 => ?_)
    refine z_if_ne (pc' := 12) (tgt := 14) (off := 5) ⟨by decide +kernel, rfl⟩ rfl (fun h4 => ?_) (fun h4 => ?_)
    · refine z_iconst (pc' := 13) (n := 2) (v := 2) (by decide) ⟨by decide +kernel, rfl⟩ ?_
      exact z_iret (pc' := 14) ⟨by decide +kernel, rfl⟩
    · refine z_lload_n (pc' := 15) (k := 1) (i := 1) 1 rfl rfl ⟨by decide +kernel, rfl⟩ ?_
      refine z_ldc2 (pc' := 18) (v := (-128)) (rf_w 7 rfl) ⟨by decide +kernel, rfl⟩ ?_
      refine z_lcmp (pc' := 19) ⟨by decide +kernel, rfl⟩ ?_
      refine z_if_lt (pc' := 22) (tgt := 34) (off := 15) ⟨by decide +kernel, rfl⟩ rfl (fun h5 => ?_) (fun h5 => ?_)
      · refine z_iconst (pc' := 35) (n := 1) (v := 1) (by decide) ⟨by decide +kernel, rfl⟩ ?_
        exact z_iret (pc' := 36) ⟨by decide +kernel, rfl⟩
      · refine z_lload_n (pc' := 23) (k := 1) (i := 1) 1 rfl rfl ⟨by decide +kernel, rfl⟩ ?_
        refine z_ldc2 (pc' := 26) (v := 127) (rf_w 8 rfl) ⟨by decide +kernel, rfl⟩ ?_
        refine z_lcmp (pc' := 27) ⟨by decide +kernel, rfl⟩ ?_
        refine z_if_gt (pc' := 30) (tgt := 34) (off := 7) ⟨by decide +kernel, rfl⟩ rfl (fun h6 => ?_) (fun h6 => ?_)
        · refine z_iconst (pc' := 35) (n := 1) (v := 1) (by decide) ⟨by decide +kernel, rfl⟩ ?_
          exact z_iret (pc' := 36) ⟨by decide +kernel, rfl⟩
        · refine z_iconst (pc' := 31) (n := 0) (v := 0) (by decide) ⟨by decide +kernel, rfl⟩ ?_
          refine z_goto (tgt := 35) (off := 4) (by decide +kernel) rfl ?_
          exact z_iret (pc' := 36) ⟨by decide +kernel, rfl⟩
  · refine z_iconst (pc' := 13) (n := 2) (v := 2) (by decide) ⟨by decide +kernel, rfl⟩ ?_
    exact z_iret (pc' := 14) ⟨by decide +kernel, rfl⟩
set_option maxRecDepth 20000 in
set_option maxHeartbeats 4000000 in
theorem rf_lays_J112_t {κ : zKx} {ca : Nat → ClassId} {D : va_G} {A : Nat → Prop} {c0 : Nat × Nat} {a g0 g : Nat → Nat} (n : Nat) (u : zMu) (x4 : Int32) : zJ κ (zRf ca D) prog_13_method_68_code 6 rf_C (some .int) zri true 2 A c0 a g0 g u 112 [(0, .ref (a 0)), (4, .int x4)] [] (rf_lays_J112 n u x4) := by
  unfold rf_lays_J112
  refine z_aload_n (pc' := 113) (k := 0) (i := 0) 0 rfl rfl ⟨by decide +kernel, rfl⟩ ?_
  refine z_getR (pc' := 116) (rff_iSort ca D) rfl (y := a 50) rfl ⟨by decide +kernel, rfl⟩ ?_
  refine z_iload (pc' := 118) (i := 4) 1 rfl ⟨by decide +kernel, rfl⟩ ?_
  refine z_aload_n (pc' := 119) (k := 0) (i := 0) 0 rfl rfl ⟨by decide +kernel, rfl⟩ ?_
  refine z_getR (pc' := 122) (rff_vSort ca D) rfl (y := a 27) rfl ⟨by decide +kernel, rfl⟩ ?_
  refine z_aload_n (pc' := 123) (k := 0) (i := 0) 0 rfl rfl ⟨by decide +kernel, rfl⟩ ?_
  refine z_getI (pc' := 126) (rff_top ca D) rfl ⟨by decide +kernel, rfl⟩ ?_
  refine z_iconst (pc' := 127) (n := 2) (v := 2) (by decide) ⟨by decide +kernel, rfl⟩ ?_
  refine z_iadd (pc' := 128) ⟨by decide +kernel, rfl⟩ ?_
  refine z_iald (pc' := 129) 27 rfl (zlt rfl) rfl rfl ⟨by decide +kernel, rfl⟩ ?_
  refine z_iast (pc' := 130) 50 rfl (zlt rfl) rfl rfl ⟨by decide +kernel, rfl⟩ (z_letU fun u1 => ?_)
  refine z_aload_n (pc' := 131) (k := 0) (i := 0) 0 rfl rfl ⟨by decide +kernel, rfl⟩ ?_
  refine z_getR (pc' := 134) (rff_iNum ca D) rfl (y := a 51) rfl ⟨by decide +kernel, rfl⟩ ?_
  refine z_iload (pc' := 136) (i := 4) 1 rfl ⟨by decide +kernel, rfl⟩ ?_
  refine z_aload_n (pc' := 137) (k := 0) (i := 0) 0 rfl rfl ⟨by decide +kernel, rfl⟩ ?_
  refine z_getR (pc' := 140) (rff_vNum ca D) rfl (y := a 31) rfl ⟨by decide +kernel, rfl⟩ ?_
  refine z_aload_n (pc' := 141) (k := 0) (i := 0) 0 rfl rfl ⟨by decide +kernel, rfl⟩ ?_
  refine z_getI (pc' := 144) (rff_top ca D) rfl ⟨by decide +kernel, rfl⟩ ?_
  refine z_iconst (pc' := 145) (n := 2) (v := 2) (by decide) ⟨by decide +kernel, rfl⟩ ?_
  refine z_iadd (pc' := 146) ⟨by decide +kernel, rfl⟩ ?_
  refine z_lald (pc' := 147) 31 rfl (zlt rfl) rfl rfl ⟨by decide +kernel, rfl⟩ ?_
  refine z_last (pc' := 148) 51 rfl (zlt rfl) rfl rfl ⟨by decide +kernel, rfl⟩ (z_letU fun u2 => ?_)
  refine z_iconst (pc' := 149) (n := (-1)) (v := (-1)) (by decide) ⟨by decide +kernel, rfl⟩ ?_
  exact z_iret (pc' := 150) ⟨by decide +kernel, rfl⟩
set_option maxRecDepth 20000 in
set_option maxHeartbeats 4000000 in
theorem rft_lays {l : Launch} {ca : Nat → ClassId} {D : va_G} {a g : Nat → Nat} (n : Nat) (u : zMu) (x1 : Int32) : zMet l (zRf ca D) rfY_lays (.code rfY_lays prog_13_method_68_code 6 (some .int)) zri true 2 a g [.ref (a 0), .int x1] u (rf_lays n u x1) := by
  refine zMet.of rfl (Nat.le_of_ble_eq_true rfl) fun κ A hl => ?_
  subst hl
  unfold rf_lays
  refine z_aload_n (pc' := 1) (k := 0) (i := 0) 0 rfl rfl ⟨by decide +kernel, rfl⟩ ?_
  refine z_dup (pc' := 2) rfl ⟨by decide +kernel, rfl⟩ ?_
  refine z_getI (pc' := 5) (rff_top ca D) rfl ⟨by decide +kernel, rfl⟩ ?_
  refine z_iconst (pc' := 6) (n := 3) (v := 3) (by decide) ⟨by decide +kernel, rfl⟩ ?_
  refine z_isub (pc' := 7) ⟨by decide +kernel, rfl⟩ ?_
  refine z_putI (pc' := 10) (rff_top ca D) rfl ⟨by decide +kernel, rfl⟩ (z_letU fun u1 => ?_)
  refine z_aload_n (pc' := 11) (k := 0) (i := 0) 0 rfl rfl ⟨by decide +kernel, rfl⟩ ?_
  refine z_callVf (pc' := 14) 0 (rft_hinders n u1) (rfG_hinders ca D) (rfO ca D) rfl (by omega) rfl rfl (Nat.le_of_ble_eq_true rfl) ⟨by decide +kernel, rfl⟩ (fun r2 u3 => ?_)
  refine z_istore_n (pc' := 15) (k := 2) (i := 2) rfl (by decide) rfl ⟨by decide +kernel, rfl⟩ ?_
  refine z_iload_n (pc' := 16) (k := 2) (i := 2) 0 rfl rfl ⟨by decide +kernel, rfl⟩ ?_
  refine z_if_eq (pc' := 19) (tgt := 26) (off := 10) ⟨by decide +kernel, rfl⟩ rfl (fun h4 => ?_) (fun h4 => ?_)
  · refine z_aload_n (pc' := 27) (k := 0) (i := 0) 1 rfl rfl ⟨by decide +kernel, rfl⟩ ?_
    refine z_getR (pc' := 30) (rff_vNum ca D) rfl (y := a 31) rfl ⟨by decide +kernel, rfl⟩ ?_
    refine z_aload_n (pc' := 31) (k := 0) (i := 0) 1 rfl rfl ⟨by decide +kernel, rfl⟩ ?_
    refine z_getI (pc' := 34) (rff_top ca D) rfl ⟨by decide +kernel, rfl⟩ ?_
    refine z_lald (pc' := 35) 31 rfl (zlt rfl) rfl rfl ⟨by decide +kernel, rfl⟩ ?_
    refine z_l2i (pc' := 36) ⟨by decide +kernel, rfl⟩ ?_
    refine z_letI fun v5 => ?_
    refine z_istore_n (pc' := 37) (k := 3) (i := 3) rfl (by decide) rfl ⟨by decide +kernel, rfl⟩ ?_
    refine z_bipush (pc' := 39) (n := 50) (v := 50) (by decide) ⟨by decide +kernel, rfl⟩ ?_
    refine z_iload_n (pc' := 40) (k := 3) (i := 3) 0 rfl rfl ⟨by decide +kernel, rfl⟩ ?_
    refine z_imul (pc' := 41) ⟨by decide +kernel, rfl⟩ ?_
    refine z_aload_n (pc' := 42) (k := 0) (i := 0) 2 rfl rfl ⟨by decide +kernel, rfl⟩ ?_
    refine z_getR (pc' := 45) (rff_vNum ca D) rfl (y := a 31) rfl ⟨by decide +kernel, rfl⟩ ?_
    refine z_aload_n (pc' := 46) (k := 0) (i := 0) 2 rfl rfl ⟨by decide +kernel, rfl⟩ ?_
    refine z_getI (pc' := 49) (rff_top ca D) rfl ⟨by decide +kernel, rfl⟩ ?_
    refine z_iconst (pc' := 50) (n := 1) (v := 1) (by decide) ⟨by decide +kernel, rfl⟩ ?_
    refine z_iadd (pc' := 51) ⟨by decide +kernel, rfl⟩ ?_
    refine z_lald (pc' := 52) 31 rfl (zlt rfl) rfl rfl ⟨by decide +kernel, rfl⟩ ?_
    refine z_l2i (pc' := 53) ⟨by decide +kernel, rfl⟩ ?_
    refine z_iadd (pc' := 54) ⟨by decide +kernel, rfl⟩ ?_
    refine z_letI fun v6 => ?_
    refine z_istore (pc' := 56) (i := 4) (by decide) rfl ⟨by decide +kernel, rfl⟩ ?_
    refine z_aload_n (pc' := 57) (k := 0) (i := 0) 3 rfl rfl ⟨by decide +kernel, rfl⟩ ?_
    refine z_getR (pc' := 60) (rff_vSort ca D) rfl (y := a 27) rfl ⟨by decide +kernel, rfl⟩ ?_
    refine z_aload_n (pc' := 61) (k := 0) (i := 0) 3 rfl rfl ⟨by decide +kernel, rfl⟩ ?_
    refine z_getI (pc' := 64) (rff_top ca D) rfl ⟨by decide +kernel, rfl⟩ ?_
    refine z_iconst (pc' := 65) (n := 2) (v := 2) (by decide) ⟨by decide +kernel, rfl⟩ ?_
    refine z_iadd (pc' := 66) ⟨by decide +kernel, rfl⟩ ?_
    refine z_iald (pc' := 67) 27 rfl (zlt rfl) rfl rfl ⟨by decide +kernel, rfl⟩ ?_
    refine z_aload_n (pc' := 68) (k := 0) (i := 0) 3 rfl rfl ⟨by decide +kernel, rfl⟩ ?_
    refine z_getR (pc' := 71) (rff_vNum ca D) rfl (y := a 31) rfl ⟨by decide +kernel, rfl⟩ ?_
    refine z_aload_n (pc' := 72) (k := 0) (i := 0) 3 rfl rfl ⟨by decide +kernel, rfl⟩ ?_
    refine z_getI (pc' := 75) (rff_top ca D) rfl ⟨by decide +kernel, rfl⟩ ?_
    refine z_iconst (pc' := 76) (n := 2) (v := 2) (by decide) ⟨by decide +kernel, rfl⟩ ?_
    refine z_iadd (pc' := 77) ⟨by decide +kernel, rfl⟩ ?_
    refine z_lald (pc' := 78) 31 rfl (zlt rfl) rfl rfl ⟨by decide +kernel, rfl⟩ ?_
    refine z_callSf (pc' := 81) (rft_fitOf n u3 (zI u3 27 (zx ((zI u3 0 51) + 2))) (zL u3 31 (zx ((zI u3 0 51) + 2)))) (rfG_fitOf ca D) (by omega) rfl rfl (Nat.le_of_ble_eq_true rfl) ⟨by decide +kernel, rfl⟩ (fun r7 u8 => ?_)
    refine z_istore (pc' := 83) (i := 5) (by decide) rfl ⟨by decide +kernel, rfl⟩ ?_
    refine z_iload (pc' := 85) (i := 5) 0 rfl ⟨by decide +kernel, rfl⟩ ?_
    refine z_aload_n (pc' := 86) (k := 0) (i := 0) 4 rfl rfl ⟨by decide +kernel, rfl⟩ ?_
    refine z_getR (pc' := 89) (rff_rKind ca D) rfl (y := a 48) rfl ⟨by decide +kernel, rfl⟩ ?_
    refine z_iload_n (pc' := 90) (k := 3) (i := 3) 2 rfl rfl ⟨by decide +kernel, rfl⟩ ?_
    refine z_iald (pc' := 91) 48 rfl (zlt rfl) rfl rfl ⟨by decide +kernel, rfl⟩ ?_
    refine z_icmp_le (pc' := 94) (tgt := 112) (off := 21) ⟨by decide +kernel, rfl⟩ rfl (fun h9 => ?_) (fun h9 => ?_)
    · refine z_aload_n (pc' := 95) (k := 0) (i := 0) 4 rfl rfl ⟨by decide +kernel, rfl⟩ ?_
      refine z_getR (pc' := 98) (rff_rKind ca D) rfl (y := a 48) rfl ⟨by decide +kernel, rfl⟩ ?_
      refine z_iload_n (pc' := 99) (k := 3) (i := 3) 2 rfl rfl ⟨by decide +kernel, rfl⟩ ?_
      refine z_iload (pc' := 101) (i := 5) 0 rfl ⟨by decide +kernel, rfl⟩ ?_
      refine z_iast (pc' := 102) 48 rfl (zlt rfl) rfl rfl ⟨by decide +kernel, rfl⟩ (z_letU fun u10 => ?_)
      refine z_aload_n (pc' := 103) (k := 0) (i := 0) 4 rfl rfl ⟨by decide +kernel, rfl⟩ ?_
      refine z_dup (pc' := 104) rfl ⟨by decide +kernel, rfl⟩ ?_
      refine z_getI (pc' := 107) (rff_widened ca D) rfl ⟨by decide +kernel, rfl⟩ ?_
      refine z_iconst (pc' := 108) (n := 1) (v := 1) (by decide) ⟨by decide +kernel, rfl⟩ ?_
      refine z_iadd (pc' := 109) ⟨by decide +kernel, rfl⟩ ?_
      refine z_putI (pc' := 112) (rff_widened ca D) rfl ⟨by decide +kernel, rfl⟩ (z_letU fun u11 => ?_)
      refine z_lv [4, 1] (lv' := [(0, .ref (a 0)), (4, .int v6)]) rfl ?_
      exact rf_lays_J112_t n u11 v6
    · refine z_lv [4, 1] (lv' := [(0, .ref (a 0)), (4, .int v6)]) rfl ?_
      exact rf_lays_J112_t n u8 v6
  · refine z_aload_n (pc' := 20) (k := 0) (i := 0) 1 rfl rfl ⟨by decide +kernel, rfl⟩ ?_
    refine z_iload_n (pc' := 21) (k := 2) (i := 2) 0 rfl rfl ⟨by decide +kernel, rfl⟩ ?_
    refine z_iload_n (pc' := 22) (k := 1) (i := 1) 2 rfl rfl ⟨by decide +kernel, rfl⟩ ?_
    refine z_callVf (pc' := 25) 0 (rft_fails n u3 r2 x1) (rfG_fails ca D) (rfO ca D) rfl (by omega) rfl rfl (Nat.le_of_ble_eq_true rfl) ⟨by decide +kernel, rfl⟩ (fun r12 u13 => ?_)
    exact z_iret (pc' := 26) ⟨by decide +kernel, rfl⟩
set_option maxRecDepth 20000 in
set_option maxHeartbeats 4000000 in
theorem rf_isKept_L2_t {κ : zKx} {ca : Nat → ClassId} {D : va_G} {A : Nat → Prop} {c0 : Nat × Nat} {a g0 g : Nat → Nat} (n : Nat) : ∀ (m : Nat) (u : zMu) (x1 : Int32) (x2 : Int32) (x3 : Int32), zJ κ (zRf ca D) prog_13_method_54_code 4 rf_C (some .boolean) zri true 0 A c0 a g0 g u 2 [(0, .ref (a 0)), (1, .int x1), (2, .int x2), (3, .int x3)] [] (rf_isKept_L2 n m u x1 x2 x3) := by
  intro m
  induction m with
  | zero => intro u x1 x2 x3 r u' h; cases h
  | succ m ih =>
    intro u x1 x2 x3
    unfold rf_isKept_L2
    refine z_iload_n (pc' := 3) (k := 3) (i := 3) 3 rfl rfl ⟨by decide +kernel, rfl⟩ ?_
    refine z_aload_n (pc' := 4) (k := 0) (i := 0) 0 rfl rfl ⟨by decide +kernel, rfl⟩ ?_
    refine z_getR (pc' := 7) (rff_entries ca D) rfl (y := a 54) rfl ⟨by decide +kernel, rfl⟩ ?_
    refine z_iload_n (pc' := 8) (k := 1) (i := 1) 1 rfl rfl ⟨by decide +kernel, rfl⟩ ?_
    refine z_iald (pc' := 9) 54 rfl (zlt rfl) rfl rfl ⟨by decide +kernel, rfl⟩ ?_
    refine z_icmp_ge (pc' := 12) (tgt := 34) (off := 25) ⟨by decide +kernel, rfl⟩ rfl (fun h1 => ?_) (fun h1 => ?_)
    · refine z_aload_n (pc' := 13) (k := 0) (i := 0) 0 rfl rfl ⟨by decide +kernel, rfl⟩ ?_
      refine z_getR (pc' := 16) (rff_entry ca D) rfl (y := a 55) rfl ⟨by decide +kernel, rfl⟩ ?_
      refine z_iconst (pc' := 17) (n := 4) (v := 4) (by decide) ⟨by decide +kernel, rfl⟩ ?_
      refine z_iload_n (pc' := 18) (k := 1) (i := 1) 1 rfl rfl ⟨by decide +kernel, rfl⟩ ?_
      refine z_imul (pc' := 19) ⟨by decide +kernel, rfl⟩ ?_
      refine z_iload_n (pc' := 20) (k := 3) (i := 3) 3 rfl rfl ⟨by decide +kernel, rfl⟩ ?_
      refine z_iadd (pc' := 21) ⟨by decide +kernel, rfl⟩ ?_
      refine z_iald (pc' := 22) 55 rfl (zlt rfl) rfl rfl ⟨by decide +kernel, rfl⟩ ?_
      refine z_iload_n (pc' := 23) (k := 2) (i := 2) 2 rfl rfl ⟨by decide +kernel, rfl⟩ ?_
      refine z_icmp_ne (pc' := 26) (tgt := 28) (off := 5) ⟨by decide +kernel, rfl⟩ rfl (fun h2 => ?_) (fun h2 => ?_)
      · refine z_iconst (pc' := 27) (n := 1) (v := 1) (by decide) ⟨by decide +kernel, rfl⟩ ?_
        exact z_zret (pc' := 28) (by decide) ⟨by decide +kernel, rfl⟩
      · refine z_iincN (pc' := 31) (i := 3) (n := 1) (c := 1) 3 rfl (by decide) (by decide) rfl ⟨by decide +kernel, rfl⟩ fun v3 => ?_
        refine z_goto (tgt := 2) (off := -29) (by decide +kernel) rfl ?_
        refine z_lv [1, 2, 3, 0] (lv' := [(0, .ref (a 0)), (1, .int x1), (2, .int x2), (3, .int v3)]) rfl ?_
        exact ih u x1 x2 v3
    · refine z_iconst (pc' := 35) (n := 0) (v := 0) (by decide) ⟨by decide +kernel, rfl⟩ ?_
      exact z_zret (pc' := 36) (by decide) ⟨by decide +kernel, rfl⟩
set_option maxRecDepth 20000 in
set_option maxHeartbeats 4000000 in
theorem rft_isKept {l : Launch} {ca : Nat → ClassId} {D : va_G} {a g : Nat → Nat} (n : Nat) (u : zMu) (x1 : Int32) (x2 : Int32) : zMet l (zRf ca D) rfY_isKept (.code rfY_isKept prog_13_method_54_code 4 (some .boolean)) zri true 0 a g [.ref (a 0), .int x1, .int x2] u (rf_isKept n u x1 x2) := by
  refine zMet.of rfl (Nat.le_of_ble_eq_true rfl) fun κ A hl => ?_
  subst hl
  unfold rf_isKept
  refine z_iconst (pc' := 1) (n := 0) (v := 0) (by decide) ⟨by decide +kernel, rfl⟩ ?_
  refine z_istore_n (pc' := 2) (k := 3) (i := 3) rfl (by decide) rfl ⟨by decide +kernel, rfl⟩ ?_
  refine z_lv [1, 2, 3, 0] (lv' := [(0, .ref (a 0)), (1, .int x1), (2, .int x2), (3, .int 0)]) rfl ?_
  exact rf_isKept_L2_t n n u x1 x2 0
set_option maxRecDepth 20000 in
set_option maxHeartbeats 4000000 in
theorem rf_hasName_L2_t {κ : zKx} {ca : Nat → ClassId} {D : va_G} {A : Nat → Prop} {c0 : Nat × Nat} {a g0 g : Nat → Nat} (n : Nat) : ∀ (m : Nat) (u : zMu) (x2 : Int32) (x3 : Int32), zJ κ (zRf ca D) prog_13_method_53_code 4 rf_C (some .boolean) zri true 0 A c0 a g0 g u 2 [(0, .ref (a 0)), (2, .int x2), (3, .int x3)] [] (rf_hasName_L2 n m u x2 x3) := by
  intro m
  induction m with
  | zero => intro u x2 x3 r u' h; cases h
  | succ m ih =>
    intro u x2 x3
    unfold rf_hasName_L2
    refine z_iload_n (pc' := 3) (k := 3) (i := 3) 2 rfl rfl ⟨by decide +kernel, rfl⟩ ?_
    refine z_iconst (pc' := 4) (n := (-1)) (v := (-1)) (by decide) ⟨by decide +kernel, rfl⟩ ?_
    refine z_icmp_eq (pc' := 7) (tgt := 39) (off := 35) ⟨by decide +kernel, rfl⟩ rfl (fun h1 => ?_) (fun h1 => ?_)
    · refine z_iconst (pc' := 40) (n := 0) (v := 0) (by decide) ⟨by decide +kernel, rfl⟩ ?_
      exact z_zret (pc' := 41) (by decide) ⟨by decide +kernel, rfl⟩
    · refine z_aload_n (pc' := 8) (k := 0) (i := 0) 0 rfl rfl ⟨by decide +kernel, rfl⟩ ?_
      refine z_getR (pc' := 11) (rff_sName ca D) rfl (y := a 46) rfl ⟨by decide +kernel, rfl⟩ ?_
      refine z_iload_n (pc' := 12) (k := 3) (i := 3) 2 rfl rfl ⟨by decide +kernel, rfl⟩ ?_
      refine z_iald (pc' := 13) 46 rfl (zlt rfl) rfl rfl ⟨by decide +kernel, rfl⟩ ?_
      refine z_iload_n (pc' := 14) (k := 2) (i := 2) 1 rfl rfl ⟨by decide +kernel, rfl⟩ ?_
      refine z_icmp_ne (pc' := 17) (tgt := 29) (off := 15) ⟨by decide +kernel, rfl⟩ rfl (fun h2 => ?_) (fun h2 => ?_)
      · refine z_aload_n (pc' := 18) (k := 0) (i := 0) 0 rfl rfl ⟨by decide +kernel, rfl⟩ ?_
        refine z_getR (pc' := 21) (rff_sUp ca D) rfl (y := a 45) rfl ⟨by decide +kernel, rfl⟩ ?_
        refine z_iload_n (pc' := 22) (k := 3) (i := 3) 2 rfl rfl ⟨by decide +kernel, rfl⟩ ?_
        refine z_iald (pc' := 23) 45 rfl (zlt rfl) rfl rfl ⟨by decide +kernel, rfl⟩ ?_
        refine z_iconst (pc' := 24) (n := (-1)) (v := (-1)) (by decide) ⟨by decide +kernel, rfl⟩ ?_
        refine z_icmp_eq (pc' := 27) (tgt := 29) (off := 5) ⟨by decide +kernel, rfl⟩ rfl (fun h3 => ?_) (fun h3 => ?_)
        · refine z_aload_n (pc' := 30) (k := 0) (i := 0) 0 rfl rfl ⟨by decide +kernel, rfl⟩ ?_
          refine z_getR (pc' := 33) (rff_sUp ca D) rfl (y := a 45) rfl ⟨by decide +kernel, rfl⟩ ?_
          refine z_iload_n (pc' := 34) (k := 3) (i := 3) 2 rfl rfl ⟨by decide +kernel, rfl⟩ ?_
          refine z_iald (pc' := 35) 45 rfl (zlt rfl) rfl rfl ⟨by decide +kernel, rfl⟩ ?_
          refine z_letI fun v4 => ?_
          refine z_istore_n (pc' := 36) (k := 3) (i := 3) rfl (by decide) rfl ⟨by decide +kernel, rfl⟩ ?_
          refine z_goto (tgt := 2) (off := -34) (by decide +kernel) rfl ?_
          refine z_lv [1, 2, 0] (lv' := [(0, .ref (a 0)), (2, .int x2), (3, .int v4)]) rfl ?_
          exact ih u x2 v4
        · refine z_iconst (pc' := 28) (n := 1) (v := 1) (by decide) ⟨by decide +kernel, rfl⟩ ?_
          exact z_zret (pc' := 29) (by decide) ⟨by decide +kernel, rfl⟩
      · refine z_aload_n (pc' := 30) (k := 0) (i := 0) 0 rfl rfl ⟨by decide +kernel, rfl⟩ ?_
        refine z_getR (pc' := 33) (rff_sUp ca D) rfl (y := a 45) rfl ⟨by decide +kernel, rfl⟩ ?_
        refine z_iload_n (pc' := 34) (k := 3) (i := 3) 2 rfl rfl ⟨by decide +kernel, rfl⟩ ?_
        refine z_iald (pc' := 35) 45 rfl (zlt rfl) rfl rfl ⟨by decide +kernel, rfl⟩ ?_
        refine z_letI fun v5 => ?_
        refine z_istore_n (pc' := 36) (k := 3) (i := 3) rfl (by decide) rfl ⟨by decide +kernel, rfl⟩ ?_
        refine z_goto (tgt := 2) (off := -34) (by decide +kernel) rfl ?_
        refine z_lv [1, 2, 0] (lv' := [(0, .ref (a 0)), (2, .int x2), (3, .int v5)]) rfl ?_
        exact ih u x2 v5
set_option maxRecDepth 20000 in
set_option maxHeartbeats 4000000 in
theorem rft_hasName {l : Launch} {ca : Nat → ClassId} {D : va_G} {a g : Nat → Nat} (n : Nat) (u : zMu) (x1 : Int32) (x2 : Int32) : zMet l (zRf ca D) rfY_hasName (.code rfY_hasName prog_13_method_53_code 4 (some .boolean)) zri true 0 a g [.ref (a 0), .int x1, .int x2] u (rf_hasName n u x1 x2) := by
  refine zMet.of rfl (Nat.le_of_ble_eq_true rfl) fun κ A hl => ?_
  subst hl
  unfold rf_hasName
  refine z_iload_n (pc' := 1) (k := 1) (i := 1) 1 rfl rfl ⟨by decide +kernel, rfl⟩ ?_
  refine z_istore_n (pc' := 2) (k := 3) (i := 3) rfl (by decide) rfl ⟨by decide +kernel, rfl⟩ ?_
  refine z_lv [1, 3, 0] (lv' := [(0, .ref (a 0)), (2, .int x2), (3, .int x1)]) rfl ?_
  exact rf_hasName_L2_t n n u x2 x1
set_option maxRecDepth 20000 in
set_option maxHeartbeats 4000000 in
theorem rf_memberOf_L7_t {κ : zKx} {ca : Nat → ClassId} {D : va_G} {A : Nat → Prop} {c0 : Nat × Nat} {a g0 g : Nat → Nat} (n : Nat) : ∀ (m : Nat) (u : zMu) (x2 : Int32) (x3 : Int32), zJ κ (zRf ca D) prog_13_method_52_code 4 rf_C (some .int) zri true 0 A c0 a g0 g u 7 [(0, .ref (a 0)), (2, .int x2), (3, .int x3)] [] (rf_memberOf_L7 n m u x2 x3) := by
  intro m
  induction m with
  | zero => intro u x2 x3 r u' h; cases h
  | succ m ih =>
    intro u x2 x3
    unfold rf_memberOf_L7
    refine z_iload_n (pc' := 8) (k := 3) (i := 3) 2 rfl rfl ⟨by decide +kernel, rfl⟩ ?_
    refine z_iconst (pc' := 9) (n := (-1)) (v := (-1)) (by decide) ⟨by decide +kernel, rfl⟩ ?_
    refine z_icmp_eq (pc' := 12) (tgt := 32) (off := 23) ⟨by decide +kernel, rfl⟩ rfl (fun h1 => ?_) (fun h1 => ?_)
    · refine z_iload_n (pc' := 33) (k := 3) (i := 3) 2 rfl rfl ⟨by decide +kernel, rfl⟩ ?_
      exact z_iret (pc' := 34) ⟨by decide +kernel, rfl⟩
    · refine z_aload_n (pc' := 13) (k := 0) (i := 0) 0 rfl rfl ⟨by decide +kernel, rfl⟩ ?_
      refine z_getR (pc' := 16) (rff_mName ca D) rfl (y := a 40) rfl ⟨by decide +kernel, rfl⟩ ?_
      refine z_iload_n (pc' := 17) (k := 3) (i := 3) 2 rfl rfl ⟨by decide +kernel, rfl⟩ ?_
      refine z_iald (pc' := 18) 40 rfl (zlt rfl) rfl rfl ⟨by decide +kernel, rfl⟩ ?_
      refine z_iload_n (pc' := 19) (k := 2) (i := 2) 1 rfl rfl ⟨by decide +kernel, rfl⟩ ?_
      refine z_icmp_eq (pc' := 22) (tgt := 32) (off := 13) ⟨by decide +kernel, rfl⟩ rfl (fun h2 => ?_) (fun h2 => ?_)
      · refine z_iload_n (pc' := 33) (k := 3) (i := 3) 2 rfl rfl ⟨by decide +kernel, rfl⟩ ?_
        exact z_iret (pc' := 34) ⟨by decide +kernel, rfl⟩
      · refine z_aload_n (pc' := 23) (k := 0) (i := 0) 0 rfl rfl ⟨by decide +kernel, rfl⟩ ?_
        refine z_getR (pc' := 26) (rff_mNext ca D) rfl (y := a 42) rfl ⟨by decide +kernel, rfl⟩ ?_
        refine z_iload_n (pc' := 27) (k := 3) (i := 3) 2 rfl rfl ⟨by decide +kernel, rfl⟩ ?_
        refine z_iald (pc' := 28) 42 rfl (zlt rfl) rfl rfl ⟨by decide +kernel, rfl⟩ ?_
        refine z_letI fun v3 => ?_
        refine z_istore_n (pc' := 29) (k := 3) (i := 3) rfl (by decide) rfl ⟨by decide +kernel, rfl⟩ ?_
        refine z_goto (tgt := 7) (off := -22) (by decide +kernel) rfl ?_
        refine z_lv [1, 2, 0] (lv' := [(0, .ref (a 0)), (2, .int x2), (3, .int v3)]) rfl ?_
        exact ih u x2 v3
set_option maxRecDepth 20000 in
set_option maxHeartbeats 4000000 in
theorem rft_memberOf {l : Launch} {ca : Nat → ClassId} {D : va_G} {a g : Nat → Nat} (n : Nat) (u : zMu) (x1 : Int32) (x2 : Int32) : zMet l (zRf ca D) rfY_memberOf (.code rfY_memberOf prog_13_method_52_code 4 (some .int)) zri true 0 a g [.ref (a 0), .int x1, .int x2] u (rf_memberOf n u x1 x2) := by
  refine zMet.of rfl (Nat.le_of_ble_eq_true rfl) fun κ A hl => ?_
  subst hl
  unfold rf_memberOf
  refine z_aload_n (pc' := 1) (k := 0) (i := 0) 0 rfl rfl ⟨by decide +kernel, rfl⟩ ?_
  refine z_getR (pc' := 4) (rff_oFirst ca D) rfl (y := a 37) rfl ⟨by decide +kernel, rfl⟩ ?_
  refine z_iload_n (pc' := 5) (k := 1) (i := 1) 1 rfl rfl ⟨by decide +kernel, rfl⟩ ?_
  refine z_iald (pc' := 6) 37 rfl (zlt rfl) rfl rfl ⟨by decide +kernel, rfl⟩ ?_
  refine z_letI fun v1 => ?_
  refine z_istore_n (pc' := 7) (k := 3) (i := 3) rfl (by decide) rfl ⟨by decide +kernel, rfl⟩ ?_
  refine z_lv [1, 3, 0] (lv' := [(0, .ref (a 0)), (2, .int x2), (3, .int v1)]) rfl ?_
  exact rf_memberOf_L7_t n n u x2 v1
set_option maxRecDepth 20000 in
set_option maxHeartbeats 4000000 in
theorem rf_way_L10_t {κ : zKx} {ca : Nat → ClassId} {D : va_G} {A : Nat → Prop} {c0 : Nat × Nat} {a g0 g : Nat → Nat} (n : Nat) : ∀ (m : Nat) (u : zMu) (x1 : Int32) (x3 : Int32) (x4 : Int32), zJ κ (zRf ca D) prog_13_method_56_code 5 rf_C none zrv true 1 A c0 a g0 g u 10 [(0, .ref (a 0)), (1, .int x1), (3, .int x3), (4, .int x4)] [] (rf_way_L10 n m u x1 x3 x4) := by
  intro m
  induction m with
  | zero => intro u x1 x3 x4 r u' h; cases h
  | succ m ih =>
    intro u x1 x3 x4
    unfold rf_way_L10
    refine z_iload (pc' := 12) (i := 4) 3 rfl ⟨by decide +kernel, rfl⟩ ?_
    refine z_iconst (pc' := 13) (n := (-1)) (v := (-1)) (by decide) ⟨by decide +kernel, rfl⟩ ?_
    refine z_icmp_eq (pc' := 16) (tgt := 48) (off := 35) ⟨by decide +kernel, rfl⟩ rfl (fun h1 => ?_) (fun h1 => ?_)
    · exact z_vret (pc' := 49) ⟨by decide +kernel, rfl⟩
    · refine z_aload_n (pc' := 17) (k := 0) (i := 0) 0 rfl rfl ⟨by decide +kernel, rfl⟩ ?_
      refine z_getR (pc' := 20) (rff_wayTo ca D) rfl (y := a 57) rfl ⟨by decide +kernel, rfl⟩ ?_
      refine z_iload_n (pc' := 21) (k := 1) (i := 1) 1 rfl rfl ⟨by decide +kernel, rfl⟩ ?_
      refine z_iload (pc' := 23) (i := 4) 3 rfl ⟨by decide +kernel, rfl⟩ ?_
      refine z_iast (pc' := 24) 57 rfl (zlt rfl) rfl rfl ⟨by decide +kernel, rfl⟩ (z_letU fun u2 => ?_)
      refine z_aload_n (pc' := 25) (k := 0) (i := 0) 0 rfl rfl ⟨by decide +kernel, rfl⟩ ?_
      refine z_iload (pc' := 27) (i := 4) 3 rfl ⟨by decide +kernel, rfl⟩ ?_
      refine z_iload_n (pc' := 28) (k := 3) (i := 3) 2 rfl rfl ⟨by decide +kernel, rfl⟩ ?_
      refine z_callVf (pc' := 31) 0 (rft_memberOf n u2 x4 x3) (rfG_memberOf ca D) (rfO ca D) rfl (by omega) rfl rfl (Nat.le_of_ble_eq_true rfl) ⟨by decide +kernel, rfl⟩ (fun r3 u4 => ?_)
      refine z_iconst (pc' := 32) (n := (-1)) (v := (-1)) (by decide) ⟨by decide +kernel, rfl⟩ ?_
      refine z_icmp_eq (pc' := 35) (tgt := 36) (off := 4) ⟨by decide +kernel, rfl⟩ rfl (fun h5 => ?_) (fun h5 => ?_)
      · refine z_aload_n (pc' := 37) (k := 0) (i := 0) 0 rfl rfl ⟨by decide +kernel, rfl⟩ ?_
        refine z_getR (pc' := 40) (rff_oParent ca D) rfl (y := a 35) rfl ⟨by decide +kernel, rfl⟩ ?_
        refine z_iload (pc' := 42) (i := 4) 3 rfl ⟨by decide +kernel, rfl⟩ ?_
        refine z_iald (pc' := 43) 35 rfl (zlt rfl) rfl rfl ⟨by decide +kernel, rfl⟩ ?_
        refine z_letI fun v6 => ?_
        refine z_istore (pc' := 45) (i := 4) (by decide) rfl ⟨by decide +kernel, rfl⟩ ?_
        refine z_goto (tgt := 10) (off := -35) (by decide +kernel) rfl ?_
        refine z_lv [1, 2, 3, 0] (lv' := [(0, .ref (a 0)), (1, .int x1), (3, .int x3), (4, .int v6)]) rfl ?_
        exact ih u4 x1 x3 v6
      · exact z_vret (pc' := 36) ⟨by decide +kernel, rfl⟩
set_option maxRecDepth 20000 in
set_option maxHeartbeats 4000000 in
theorem rft_way {l : Launch} {ca : Nat → ClassId} {D : va_G} {a g : Nat → Nat} (n : Nat) (u : zMu) (x1 : Int32) (x2 : Int32) (x3 : Int32) : zMet l (zRf ca D) rfY_way (.code rfY_way prog_13_method_56_code 5 none) zrv true 1 a g [.ref (a 0), .int x1, .int x2, .int x3] u (rf_way n u x1 x2 x3) := by
  refine zMet.of rfl (Nat.le_of_ble_eq_true rfl) fun κ A hl => ?_
  subst hl
  unfold rf_way
  refine z_iload_n (pc' := 1) (k := 2) (i := 2) 2 rfl rfl ⟨by decide +kernel, rfl⟩ ?_
  refine z_istore (pc' := 3) (i := 4) (by decide) rfl ⟨by decide +kernel, rfl⟩ ?_
  refine z_aload_n (pc' := 4) (k := 0) (i := 0) 1 rfl rfl ⟨by decide +kernel, rfl⟩ ?_
  refine z_getR (pc' := 7) (rff_wayFrom ca D) rfl (y := a 56) rfl ⟨by decide +kernel, rfl⟩ ?_
  refine z_iload_n (pc' := 8) (k := 1) (i := 1) 2 rfl rfl ⟨by decide +kernel, rfl⟩ ?_
  refine z_iload_n (pc' := 9) (k := 2) (i := 2) 3 rfl rfl ⟨by decide +kernel, rfl⟩ ?_
  refine z_iast (pc' := 10) 56 rfl (zlt rfl) rfl rfl ⟨by decide +kernel, rfl⟩ (z_letU fun u1 => ?_)
  refine z_lv [1, 2, 4, 0] (lv' := [(0, .ref (a 0)), (1, .int x1), (3, .int x3), (4, .int x2)]) rfl ?_
  exact rf_way_L10_t n n u1 x1 x3 x2
set_option maxRecDepth 20000 in
set_option maxHeartbeats 4000000 in
theorem rft_meets {l : Launch} {ca : Nat → ClassId} {D : va_G} {a g : Nat → Nat} (n : Nat) (u : zMu) (x1 : Int32) (x2 : Int32) : zMet l (zRf ca D) rfY_meets (.code rfY_meets prog_13_method_55_code 5 (some .boolean)) zri true 2 a g [.ref (a 0), .int x1, .int x2] u (rf_meets n u x1 x2) := by
  refine zMet.of rfl (Nat.le_of_ble_eq_true rfl) fun κ A hl => ?_
  subst hl
  unfold rf_meets
  refine z_aload_n (pc' := 1) (k := 0) (i := 0) 0 rfl rfl ⟨by decide +kernel, rfl⟩ ?_
  refine z_getR (pc' := 4) (rff_ran ca D) rfl (y := a 52) rfl ⟨by decide +kernel, rfl⟩ ?_
  refine z_iload_n (pc' := 5) (k := 1) (i := 1) 1 rfl rfl ⟨by decide +kernel, rfl⟩ ?_
  refine z_dup2_11 (pc' := 6) rfl rfl ⟨by decide +kernel, rfl⟩ ?_
  refine z_iald (pc' := 7) 52 rfl (zlt rfl) rfl rfl ⟨by decide +kernel, rfl⟩ ?_
  refine z_iconst (pc' := 8) (n := 1) (v := 1) (by decide) ⟨by decide +kernel, rfl⟩ ?_
  refine z_iadd (pc' := 9) ⟨by decide +kernel, rfl⟩ ?_
  refine z_iast (pc' := 10) 52 rfl (zlt rfl) rfl rfl ⟨by decide +kernel, rfl⟩ (z_letU fun u1 => ?_)
  refine z_aload_n (pc' := 11) (k := 0) (i := 0) 0 rfl rfl ⟨by decide +kernel, rfl⟩ ?_
  refine z_getR (pc' := 14) (rff_oShape ca D) rfl (y := a 36) rfl ⟨by decide +kernel, rfl⟩ ?_
  refine z_iload_n (pc' := 15) (k := 2) (i := 2) 2 rfl rfl ⟨by decide +kernel, rfl⟩ ?_
  refine z_iald (pc' := 16) 36 rfl (zlt rfl) rfl rfl ⟨by decide +kernel, rfl⟩ ?_
  refine z_letI fun v2 => ?_
  refine z_istore_n (pc' := 17) (k := 3) (i := 3) rfl (by decide) rfl ⟨by decide +kernel, rfl⟩ ?_
  refine z_iload_n (pc' := 18) (k := 3) (i := 3) 0 rfl rfl ⟨by decide +kernel, rfl⟩ ?_
  refine z_iconst (pc' := 19) (n := (-1)) (v := (-1)) (by decide) ⟨by decide +kernel, rfl⟩ ?_
  refine z_icmp_ne (pc' := 22) (tgt := 24) (off := 5) ⟨by decide +kernel, rfl⟩ rfl (fun h3 => ?_) (fun h3 => ?_)
  · refine z_iconst (pc' := 23) (n := 0) (v := 0) (by decide) ⟨by decide +kernel, rfl⟩ ?_
    exact z_zret (pc' := 24) (by decide) ⟨by decide +kernel, rfl⟩
  · refine z_aload_n (pc' := 25) (k := 0) (i := 0) 1 rfl rfl ⟨by decide +kernel, rfl⟩ ?_
    refine z_iload_n (pc' := 26) (k := 1) (i := 1) 2 rfl rfl ⟨by decide +kernel, rfl⟩ ?_
    refine z_iload_n (pc' := 27) (k := 3) (i := 3) 0 rfl rfl ⟨by decide +kernel, rfl⟩ ?_
    refine z_callVf (pc' := 30) 0 (rft_isKept n u1 x1 v2) (rfG_isKept ca D) (rfO ca D) rfl (by omega) rfl rfl (Nat.le_of_ble_eq_true rfl) ⟨by decide +kernel, rfl⟩ (fun r4 u5 => ?_)
    refine z_if_eq (pc' := 33) (tgt := 45) (off := 15) ⟨by decide +kernel, rfl⟩ rfl (fun h6 => ?_) (fun h6 => ?_)
    · refine z_aload_n (pc' := 46) (k := 0) (i := 0) 1 rfl rfl ⟨by decide +kernel, rfl⟩ ?_
      refine z_getR (pc' := 49) (rff_many ca D) rfl (y := a 58) rfl ⟨by decide +kernel, rfl⟩ ?_
      refine z_iload_n (pc' := 50) (k := 1) (i := 1) 2 rfl rfl ⟨by decide +kernel, rfl⟩ ?_
      refine z_zald (pc' := 51) 58 rfl (zlt rfl) rfl rfl ⟨by decide +kernel, rfl⟩ ?_
      refine z_if_eq (pc' := 54) (tgt := 56) (off := 5) ⟨by decide +kernel, rfl⟩ rfl (fun h7 => ?_) (fun h7 => ?_)
      · refine z_aload_n (pc' := 57) (k := 0) (i := 0) 1 rfl rfl ⟨by decide +kernel, rfl⟩ ?_
        refine z_getR (pc' := 60) (rff_entries ca D) rfl (y := a 54) rfl ⟨by decide +kernel, rfl⟩ ?_
        refine z_iload_n (pc' := 61) (k := 1) (i := 1) 2 rfl rfl ⟨by decide +kernel, rfl⟩ ?_
        refine z_iald (pc' := 62) 54 rfl (zlt rfl) rfl rfl ⟨by decide +kernel, rfl⟩ ?_
        refine z_iconst (pc' := 63) (n := 4) (v := 4) (by decide) ⟨by decide +kernel, rfl⟩ ?_
        refine z_icmp_ne (pc' := 66) (tgt := 82) (off := 19) ⟨by decide +kernel, rfl⟩ rfl (fun h8 => ?_) (fun h8 => ?_)
        · refine z_aload_n (pc' := 67) (k := 0) (i := 0) 1 rfl rfl ⟨by decide +kernel, rfl⟩ ?_
          refine z_getR (pc' := 70) (rff_many ca D) rfl (y := a 58) rfl ⟨by decide +kernel, rfl⟩ ?_
          refine z_iload_n (pc' := 71) (k := 1) (i := 1) 2 rfl rfl ⟨by decide +kernel, rfl⟩ ?_
          refine z_iconst (pc' := 72) (n := 1) (v := 1) (by decide) ⟨by decide +kernel, rfl⟩ ?_
          refine z_zast (pc' := 73) 58 rfl (zlt rfl) rfl rfl ⟨by decide +kernel, rfl⟩ (z_letU fun u9 => ?_)
          refine z_aload_n (pc' := 74) (k := 0) (i := 0) 1 rfl rfl ⟨by decide +kernel, rfl⟩ ?_
          refine z_getR (pc' := 77) (rff_entries ca D) rfl (y := a 54) rfl ⟨by decide +kernel, rfl⟩ ?_
          refine z_iload_n (pc' := 78) (k := 1) (i := 1) 2 rfl rfl ⟨by decide +kernel, rfl⟩ ?_
          refine z_iconst (pc' := 79) (n := 0) (v := 0) (by decide) ⟨by decide +kernel, rfl⟩ ?_
          refine z_iast (pc' := 80) 54 rfl (zlt rfl) rfl rfl ⟨by decide +kernel, rfl⟩ (z_letU fun u10 => ?_)
          refine z_iconst (pc' := 81) (n := 0) (v := 0) (by decide) ⟨by decide +kernel, rfl⟩ ?_
          exact z_zret (pc' := 82) (by decide) ⟨by decide +kernel, rfl⟩
        · refine z_iconst (pc' := 83) (n := 4) (v := 4) (by decide) ⟨by decide +kernel, rfl⟩ ?_
          refine z_iload_n (pc' := 84) (k := 1) (i := 1) 2 rfl rfl ⟨by decide +kernel, rfl⟩ ?_
          refine z_imul (pc' := 85) ⟨by decide +kernel, rfl⟩ ?_
          refine z_aload_n (pc' := 86) (k := 0) (i := 0) 1 rfl rfl ⟨by decide +kernel, rfl⟩ ?_
          refine z_getR (pc' := 89) (rff_entries ca D) rfl (y := a 54) rfl ⟨by decide +kernel, rfl⟩ ?_
          refine z_iload_n (pc' := 90) (k := 1) (i := 1) 2 rfl rfl ⟨by decide +kernel, rfl⟩ ?_
          refine z_dup2_11 (pc' := 91) rfl rfl ⟨by decide +kernel, rfl⟩ ?_
          refine z_iald (pc' := 92) 54 rfl (zlt rfl) rfl rfl ⟨by decide +kernel, rfl⟩ ?_
          refine z_letI fun v11 => ?_
          refine z_dup_x2 (pc' := 93) rfl rfl rfl ⟨by decide +kernel, rfl⟩ ?_
          refine z_iconst (pc' := 94) (n := 1) (v := 1) (by decide) ⟨by decide +kernel, rfl⟩ ?_
          refine z_iadd (pc' := 95) ⟨by decide +kernel, rfl⟩ ?_
          refine z_iast (pc' := 96) 54 rfl (zlt rfl) rfl rfl ⟨by decide +kernel, rfl⟩ (z_letU fun u12 => ?_)
          refine z_iadd (pc' := 97) ⟨by decide +kernel, rfl⟩ ?_
          refine z_letI fun v13 => ?_
          refine z_istore (pc' := 99) (i := 4) (by decide) rfl ⟨by decide +kernel, rfl⟩ ?_
          refine z_aload_n (pc' := 100) (k := 0) (i := 0) 2 rfl rfl ⟨by decide +kernel, rfl⟩ ?_
          refine z_getR (pc' := 103) (rff_entry ca D) rfl (y := a 55) rfl ⟨by decide +kernel, rfl⟩ ?_
          refine z_iload (pc' := 105) (i := 4) 0 rfl ⟨by decide +kernel, rfl⟩ ?_
          refine z_iload_n (pc' := 106) (k := 3) (i := 3) 1 rfl rfl ⟨by decide +kernel, rfl⟩ ?_
          refine z_iast (pc' := 107) 55 rfl (zlt rfl) rfl rfl ⟨by decide +kernel, rfl⟩ (z_letU fun u14 => ?_)
          refine z_aload_n (pc' := 108) (k := 0) (i := 0) 2 rfl rfl ⟨by decide +kernel, rfl⟩ ?_
          refine z_getR (pc' := 111) (rff_wayFrom ca D) rfl (y := a 56) rfl ⟨by decide +kernel, rfl⟩ ?_
          refine z_iload (pc' := 113) (i := 4) 0 rfl ⟨by decide +kernel, rfl⟩ ?_
          refine z_iconst (pc' := 114) (n := (-1)) (v := (-1)) (by decide) ⟨by decide +kernel, rfl⟩ ?_
          refine z_iast (pc' := 115) 56 rfl (zlt rfl) rfl rfl ⟨by decide +kernel, rfl⟩ (z_letU fun u15 => ?_)
          refine z_aload_n (pc' := 116) (k := 0) (i := 0) 2 rfl rfl ⟨by decide +kernel, rfl⟩ ?_
          refine z_getR (pc' := 119) (rff_wayTo ca D) rfl (y := a 57) rfl ⟨by decide +kernel, rfl⟩ ?_
          refine z_iload (pc' := 121) (i := 4) 0 rfl ⟨by decide +kernel, rfl⟩ ?_
          refine z_iconst (pc' := 122) (n := (-1)) (v := (-1)) (by decide) ⟨by decide +kernel, rfl⟩ ?_
          refine z_iast (pc' := 123) 57 rfl (zlt rfl) rfl rfl ⟨by decide +kernel, rfl⟩ (z_letU fun u16 => ?_)
          refine z_aload_n (pc' := 124) (k := 0) (i := 0) 2 rfl rfl ⟨by decide +kernel, rfl⟩ ?_
          refine z_getR (pc' := 127) (rff_siteKind ca D) rfl (y := a 19) rfl ⟨by decide +kernel, rfl⟩ ?_
          refine z_iload_n (pc' := 128) (k := 1) (i := 1) 3 rfl rfl ⟨by decide +kernel, rfl⟩ ?_
          refine z_iald (pc' := 129) 19 rfl (zlt rfl) rfl rfl ⟨by decide +kernel, rfl⟩ ?_
          refine z_if_ne (pc' := 132) (tgt := 164) (off := 35) ⟨by decide +kernel, rfl⟩ rfl (fun h17 => ?_) (fun h17 => ?_)
          · refine z_aload_n (pc' := 133) (k := 0) (i := 0) 2 rfl rfl ⟨by decide +kernel, rfl⟩ ?_
            refine z_iload_n (pc' := 134) (k := 3) (i := 3) 1 rfl rfl ⟨by decide +kernel, rfl⟩ ?_
            refine z_aload_n (pc' := 135) (k := 0) (i := 0) 2 rfl rfl ⟨by decide +kernel, rfl⟩ ?_
            refine z_getR (pc' := 138) (rff_siteName ca D) rfl (y := a 22) rfl ⟨by decide +kernel, rfl⟩ ?_
            refine z_iload_n (pc' := 139) (k := 1) (i := 1) 3 rfl rfl ⟨by decide +kernel, rfl⟩ ?_
            refine z_iald (pc' := 140) 22 rfl (zlt rfl) rfl rfl ⟨by decide +kernel, rfl⟩ ?_
            refine z_callVf (pc' := 143) 0 (rft_hasName n u16 v2 (zI u16 22 (zx x1))) (rfG_hasName ca D) (rfO ca D) rfl (by omega) rfl rfl (Nat.le_of_ble_eq_true rfl) ⟨by decide +kernel, rfl⟩ (fun r18 u19 => ?_)
            refine z_if_ne (pc' := 146) (tgt := 164) (off := 21) ⟨by decide +kernel, rfl⟩ rfl (fun h20 => ?_) (fun h20 => ?_)
            · refine z_aload_n (pc' := 147) (k := 0) (i := 0) 2 rfl rfl ⟨by decide +kernel, rfl⟩ ?_
              refine z_iload (pc' := 149) (i := 4) 0 rfl ⟨by decide +kernel, rfl⟩ ?_
              refine z_aload_n (pc' := 150) (k := 0) (i := 0) 2 rfl rfl ⟨by decide +kernel, rfl⟩ ?_
              refine z_getR (pc' := 153) (rff_sParent ca D) rfl (y := a 44) rfl ⟨by decide +kernel, rfl⟩ ?_
              refine z_iload_n (pc' := 154) (k := 3) (i := 3) 1 rfl rfl ⟨by decide +kernel, rfl⟩ ?_
              refine z_iald (pc' := 155) 44 rfl (zlt rfl) rfl rfl ⟨by decide +kernel, rfl⟩ ?_
              refine z_aload_n (pc' := 156) (k := 0) (i := 0) 2 rfl rfl ⟨by decide +kernel, rfl⟩ ?_
              refine z_getR (pc' := 159) (rff_siteName ca D) rfl (y := a 22) rfl ⟨by decide +kernel, rfl⟩ ?_
              refine z_iload_n (pc' := 160) (k := 1) (i := 1) 3 rfl rfl ⟨by decide +kernel, rfl⟩ ?_
              refine z_iald (pc' := 161) 22 rfl (zlt rfl) rfl rfl ⟨by decide +kernel, rfl⟩ ?_
              refine z_callVf (pc' := 164) 0 (rft_way n u19 v13 (zI u19 44 (zx v2)) (zI u19 22 (zx x1))) (rfG_way ca D) (rfO ca D) rfl (by omega) rfl rfl (Nat.le_of_ble_eq_true rfl) ⟨by decide +kernel, rfl⟩ (fun _ u22 => ?_)
              refine z_iconst (pc' := 165) (n := 0) (v := 0) (by decide) ⟨by decide +kernel, rfl⟩ ?_
              exact z_zret (pc' := 166) (by decide) ⟨by decide +kernel, rfl⟩
            · refine z_iconst (pc' := 165) (n := 0) (v := 0) (by decide) ⟨by decide +kernel, rfl⟩ ?_
              exact z_zret (pc' := 166) (by decide) ⟨by decide +kernel, rfl⟩
          · refine z_iconst (pc' := 165) (n := 0) (v := 0) (by decide) ⟨by decide +kernel, rfl⟩ ?_
            exact z_zret (pc' := 166) (by decide) ⟨by decide +kernel, rfl⟩
      · refine z_iconst (pc' := 55) (n := 0) (v := 0) (by decide) ⟨by decide +kernel, rfl⟩ ?_
        exact z_zret (pc' := 56) (by decide) ⟨by decide +kernel, rfl⟩
    · refine z_aload_n (pc' := 34) (k := 0) (i := 0) 1 rfl rfl ⟨by decide +kernel, rfl⟩ ?_
      refine z_getR (pc' := 37) (rff_siteHits ca D) rfl (y := a 53) rfl ⟨by decide +kernel, rfl⟩ ?_
      refine z_iload_n (pc' := 38) (k := 1) (i := 1) 2 rfl rfl ⟨by decide +kernel, rfl⟩ ?_
      refine z_dup2_11 (pc' := 39) rfl rfl ⟨by decide +kernel, rfl⟩ ?_
      refine z_iald (pc' := 40) 53 rfl (zlt rfl) rfl rfl ⟨by decide +kernel, rfl⟩ ?_
      refine z_iconst (pc' := 41) (n := 1) (v := 1) (by decide) ⟨by decide +kernel, rfl⟩ ?_
      refine z_iadd (pc' := 42) ⟨by decide +kernel, rfl⟩ ?_
      refine z_iast (pc' := 43) 53 rfl (zlt rfl) rfl rfl ⟨by decide +kernel, rfl⟩ (z_letU fun u23 => ?_)
      refine z_iconst (pc' := 44) (n := 1) (v := 1) (by decide) ⟨by decide +kernel, rfl⟩ ?_
      exact z_zret (pc' := 45) (by decide) ⟨by decide +kernel, rfl⟩
set_option maxRecDepth 20000 in
set_option maxHeartbeats 4000000 in
theorem rf_reads_J231_t {κ : zKx} {ca : Nat → ClassId} {D : va_G} {A : Nat → Prop} {c0 : Nat × Nat} {a g0 g : Nat → Nat} (n : Nat) (u : zMu) (x7 : Int32) (s1 : Int32) (s2 : Int32) : zJ κ (zRf ca D) prog_13_method_59_code 8 rf_C (some .int) zri true 3 A c0 a g0 g u 231 [(0, .ref (a 0)), (7, .int x7)] [.int s2, .int s1, .ref (a 27)] (rf_reads_J231 n u x7 s1 s2) := by
  unfold rf_reads_J231
  refine z_iast (pc' := 232) 27 rfl (zlt rfl) rfl rfl ⟨by decide +kernel, rfl⟩ (z_letU fun u1 => ?_)
  refine z_aload_n (pc' := 233) (k := 0) (i := 0) 0 rfl rfl ⟨by decide +kernel, rfl⟩ ?_
  refine z_getR (pc' := 236) (rff_vNum ca D) rfl (y := a 31) rfl ⟨by decide +kernel, rfl⟩ ?_
  refine z_aload_n (pc' := 237) (k := 0) (i := 0) 0 rfl rfl ⟨by decide +kernel, rfl⟩ ?_
  refine z_getI (pc' := 240) (rff_top ca D) rfl ⟨by decide +kernel, rfl⟩ ?_
  refine z_iconst (pc' := 241) (n := 1) (v := 1) (by decide) ⟨by decide +kernel, rfl⟩ ?_
  refine z_isub (pc' := 242) ⟨by decide +kernel, rfl⟩ ?_
  refine z_iload (pc' := 244) (i := 7) 1 rfl ⟨by decide +kernel, rfl⟩ ?_
  refine z_iconst (pc' := 245) (n := (-1)) (v := (-1)) (by decide) ⟨by decide +kernel, rfl⟩ ?_
  refine z_icmp_ne (pc' := 248) (tgt := 252) (off := 7) ⟨by decide +kernel, rfl⟩ rfl (fun h2 => ?_) (fun h2 => ?_)
  · refine z_lconst (pc' := 249) (n := 0) (v := 0) (by decide) ⟨by decide +kernel, rfl⟩ ?_
    refine z_goto (tgt := 259) (off := 10) (by decide +kernel) rfl ?_
    refine z_last (pc' := 260) 31 rfl (zlt rfl) rfl rfl ⟨by decide +kernel, rfl⟩ (z_letU fun u3 => ?_)
    refine z_iconst (pc' := 261) (n := (-1)) (v := (-1)) (by decide) ⟨by decide +kernel, rfl⟩ ?_
    exact z_iret (pc' := 262) ⟨by decide +kernel, rfl⟩
  · refine z_aload_n (pc' := 253) (k := 0) (i := 0) 0 rfl rfl ⟨by decide +kernel, rfl⟩ ?_
    refine z_getR (pc' := 256) (rff_mNum ca D) rfl (y := a 43) rfl ⟨by decide +kernel, rfl⟩ ?_
    refine z_iload (pc' := 258) (i := 7) 1 rfl ⟨by decide +kernel, rfl⟩ ?_
    refine z_lald (pc' := 259) 43 rfl (zlt rfl) rfl rfl ⟨by decide +kernel, rfl⟩ ?_
    refine z_last (pc' := 260) 31 rfl (zlt rfl) rfl rfl ⟨by decide +kernel, rfl⟩ (z_letU fun u4 => ?_)
    refine z_iconst (pc' := 261) (n := (-1)) (v := (-1)) (by decide) ⟨by decide +kernel, rfl⟩ ?_
    exact z_iret (pc' := 262) ⟨by decide +kernel, rfl⟩
set_option maxRecDepth 20000 in
set_option maxHeartbeats 4000000 in
theorem rf_reads_J204_t {κ : zKx} {ca : Nat → ClassId} {D : va_G} {A : Nat → Prop} {c0 : Nat × Nat} {a g0 g : Nat → Nat} (n : Nat) (u : zMu) (x7 : Int32) : zJ κ (zRf ca D) prog_13_method_59_code 8 rf_C (some .int) zri true 3 A c0 a g0 g u 204 [(0, .ref (a 0)), (7, .int x7)] [] (rf_reads_J204 n u x7) := by
  unfold rf_reads_J204
  refine z_aload_n (pc' := 205) (k := 0) (i := 0) 0 rfl rfl ⟨by decide +kernel, rfl⟩ ?_
  refine z_getR (pc' := 208) (rff_vSort ca D) rfl (y := a 27) rfl ⟨by decide +kernel, rfl⟩ ?_
  refine z_aload_n (pc' := 209) (k := 0) (i := 0) 0 rfl rfl ⟨by decide +kernel, rfl⟩ ?_
  refine z_getI (pc' := 212) (rff_top ca D) rfl ⟨by decide +kernel, rfl⟩ ?_
  refine z_iconst (pc' := 213) (n := 1) (v := 1) (by decide) ⟨by decide +kernel, rfl⟩ ?_
  refine z_isub (pc' := 214) ⟨by decide +kernel, rfl⟩ ?_
  refine z_iload (pc' := 216) (i := 7) 1 rfl ⟨by decide +kernel, rfl⟩ ?_
  refine z_iconst (pc' := 217) (n := (-1)) (v := (-1)) (by decide) ⟨by decide +kernel, rfl⟩ ?_
  refine z_icmp_ne (pc' := 220) (tgt := 224) (off := 7) ⟨by decide +kernel, rfl⟩ rfl (fun h1 => ?_) (fun h1 => ?_)
  · refine z_iconst (pc' := 221) (n := 0) (v := 0) (by decide) ⟨by decide +kernel, rfl⟩ ?_
    refine z_goto (tgt := 231) (off := 10) (by decide +kernel) rfl ?_
    exact rf_reads_J231_t n u x7 ((zI u 0 51) - 1) 0
  · refine z_aload_n (pc' := 225) (k := 0) (i := 0) 0 rfl rfl ⟨by decide +kernel, rfl⟩ ?_
    refine z_getR (pc' := 228) (rff_mSort ca D) rfl (y := a 41) rfl ⟨by decide +kernel, rfl⟩ ?_
    refine z_iload (pc' := 230) (i := 7) 1 rfl ⟨by decide +kernel, rfl⟩ ?_
    refine z_iald (pc' := 231) 41 rfl (zlt rfl) rfl rfl ⟨by decide +kernel, rfl⟩ ?_
    exact rf_reads_J231_t n u x7 ((zI u 0 51) - 1) (zI u 41 (zx x7))
set_option maxRecDepth 20000 in
set_option maxHeartbeats 4000000 in
theorem rf_reads_L161_t {κ : zKx} {ca : Nat → ClassId} {D : va_G} {A : Nat → Prop} {c0 : Nat × Nat} {a g0 g : Nat → Nat} (n : Nat) : ∀ (m : Nat) (u : zMu) (x1 : Int32) (x6 : Int32) (x7 : Int32), zJ κ (zRf ca D) prog_13_method_59_code 8 rf_C (some .int) zri true 3 A c0 a g0 g u 161 [(0, .ref (a 0)), (1, .int x1), (6, .int x6), (7, .int x7)] [] (rf_reads_L161 n m u x1 x6 x7) := by
  intro m
  induction m with
  | zero => intro u x1 x6 x7 r u' h; cases h
  | succ m ih =>
    intro u x1 x6 x7
    unfold rf_reads_L161
    refine z_iload (pc' := 163) (i := 7) 3 rfl ⟨by decide +kernel, rfl⟩ ?_
    refine z_iconst (pc' := 164) (n := (-1)) (v := (-1)) (by decide) ⟨by decide +kernel, rfl⟩ ?_
    refine z_icmp_ne (pc' := 167) (tgt := 204) (off := 40) ⟨by decide +kernel, rfl⟩ rfl (fun h1 => ?_) (fun h1 => ?_)
    · refine z_aload_n (pc' := 168) (k := 0) (i := 0) 0 rfl rfl ⟨by decide +kernel, rfl⟩ ?_
      refine z_getR (pc' := 171) (rff_oParent ca D) rfl (y := a 35) rfl ⟨by decide +kernel, rfl⟩ ?_
      refine z_iload (pc' := 173) (i := 6) 2 rfl ⟨by decide +kernel, rfl⟩ ?_
      refine z_iald (pc' := 174) 35 rfl (zlt rfl) rfl rfl ⟨by decide +kernel, rfl⟩ ?_
      refine z_iconst (pc' := 175) (n := (-1)) (v := (-1)) (by decide) ⟨by decide +kernel, rfl⟩ ?_
      refine z_icmp_eq (pc' := 178) (tgt := 204) (off := 29) ⟨by decide +kernel, rfl⟩ rfl (fun h2 => ?_) (fun h2 => ?_)
      · refine z_lv [0, 3] (lv' := [(0, .ref (a 0)), (7, .int x7)]) rfl ?_
        exact rf_reads_J204_t n u x7
      · refine z_aload_n (pc' := 179) (k := 0) (i := 0) 0 rfl rfl ⟨by decide +kernel, rfl⟩ ?_
        refine z_getR (pc' := 182) (rff_oParent ca D) rfl (y := a 35) rfl ⟨by decide +kernel, rfl⟩ ?_
        refine z_iload (pc' := 184) (i := 6) 2 rfl ⟨by decide +kernel, rfl⟩ ?_
        refine z_iald (pc' := 185) 35 rfl (zlt rfl) rfl rfl ⟨by decide +kernel, rfl⟩ ?_
        refine z_letI fun v3 => ?_
        refine z_istore (pc' := 187) (i := 6) (by decide) rfl ⟨by decide +kernel, rfl⟩ ?_
        refine z_aload_n (pc' := 188) (k := 0) (i := 0) 1 rfl rfl ⟨by decide +kernel, rfl⟩ ?_
        refine z_iload (pc' := 190) (i := 6) 0 rfl ⟨by decide +kernel, rfl⟩ ?_
        refine z_aload_n (pc' := 191) (k := 0) (i := 0) 1 rfl rfl ⟨by decide +kernel, rfl⟩ ?_
        refine z_getR (pc' := 194) (rff_siteName ca D) rfl (y := a 22) rfl ⟨by decide +kernel, rfl⟩ ?_
        refine z_iload_n (pc' := 195) (k := 1) (i := 1) 2 rfl rfl ⟨by decide +kernel, rfl⟩ ?_
        refine z_iald (pc' := 196) 22 rfl (zlt rfl) rfl rfl ⟨by decide +kernel, rfl⟩ ?_
        refine z_callVf (pc' := 199) 0 (rft_memberOf n u v3 (zI u 22 (zx x1))) (rfG_memberOf ca D) (rfO ca D) rfl (by omega) rfl rfl (Nat.le_of_ble_eq_true rfl) ⟨by decide +kernel, rfl⟩ (fun r4 u5 => ?_)
        refine z_istore (pc' := 201) (i := 7) (by decide) rfl ⟨by decide +kernel, rfl⟩ ?_
        refine z_goto (tgt := 161) (off := -40) (by decide +kernel) rfl ?_
        refine z_lv [2, 3, 1, 0] (lv' := [(0, .ref (a 0)), (1, .int x1), (6, .int v3), (7, .int r4)]) rfl ?_
        exact ih u5 x1 v3 r4
    · refine z_lv [0, 3] (lv' := [(0, .ref (a 0)), (7, .int x7)]) rfl ?_
      exact rf_reads_J204_t n u x7
set_option maxRecDepth 20000 in
set_option maxHeartbeats 4000000 in
theorem rf_reads_J144_t {κ : zKx} {ca : Nat → ClassId} {D : va_G} {A : Nat → Prop} {c0 : Nat × Nat} {a g0 g : Nat → Nat} (n : Nat) (u : zMu) (x1 : Int32) (x3 : Int32) : zJ κ (zRf ca D) prog_13_method_59_code 8 rf_C (some .int) zri true 3 A c0 a g0 g u 144 [(0, .ref (a 0)), (1, .int x1), (3, .int x3)] [] (rf_reads_J144 n u x1 x3) := by
  unfold rf_reads_J144
  refine z_iload_n (pc' := 145) (k := 3) (i := 3) 2 rfl rfl ⟨by decide +kernel, rfl⟩ ?_
  refine z_istore (pc' := 147) (i := 6) (by decide) rfl ⟨by decide +kernel, rfl⟩ ?_
  refine z_aload_n (pc' := 148) (k := 0) (i := 0) 1 rfl rfl ⟨by decide +kernel, rfl⟩ ?_
  refine z_iload (pc' := 150) (i := 6) 0 rfl ⟨by decide +kernel, rfl⟩ ?_
  refine z_aload_n (pc' := 151) (k := 0) (i := 0) 1 rfl rfl ⟨by decide +kernel, rfl⟩ ?_
  refine z_getR (pc' := 154) (rff_siteName ca D) rfl (y := a 22) rfl ⟨by decide +kernel, rfl⟩ ?_
  refine z_iload_n (pc' := 155) (k := 1) (i := 1) 2 rfl rfl ⟨by decide +kernel, rfl⟩ ?_
  refine z_iald (pc' := 156) 22 rfl (zlt rfl) rfl rfl ⟨by decide +kernel, rfl⟩ ?_
  refine z_callVf (pc' := 159) 0 (rft_memberOf n u x3 (zI u 22 (zx x1))) (rfG_memberOf ca D) (rfO ca D) rfl (by omega) rfl rfl (Nat.le_of_ble_eq_true rfl) ⟨by decide +kernel, rfl⟩ (fun r1 u2 => ?_)
  refine z_istore (pc' := 161) (i := 7) (by decide) rfl ⟨by decide +kernel, rfl⟩ ?_
  refine z_lv [2, 3, 1, 0] (lv' := [(0, .ref (a 0)), (1, .int x1), (6, .int x3), (7, .int r1)]) rfl ?_
  exact rf_reads_L161_t n n u2 x1 x3 r1
set_option maxRecDepth 20000 in
set_option maxHeartbeats 4000000 in
theorem rf_reads_J134_t {κ : zKx} {ca : Nat → ClassId} {D : va_G} {A : Nat → Prop} {c0 : Nat × Nat} {a g0 g : Nat → Nat} (n : Nat) (u : zMu) (x1 : Int32) (x3 : Int32) (x5 : Int32) : zJ κ (zRf ca D) prog_13_method_59_code 8 rf_C (some .int) zri true 3 A c0 a g0 g u 134 [(0, .ref (a 0)), (1, .int x1), (3, .int x3), (5, .int x5)] [] (rf_reads_J134 n u x1 x3 x5) := by
  unfold rf_reads_J134
  refine z_iload (pc' := 136) (i := 5) 3 rfl ⟨by decide +kernel, rfl⟩ ?_
  refine z_if_eq (pc' := 139) (tgt := 144) (off := 8) ⟨by decide +kernel, rfl⟩ rfl (fun h1 => ?_) (fun h1 => ?_)
  · refine z_lv [0, 1, 2] (lv' := [(0, .ref (a 0)), (1, .int x1), (3, .int x3)]) rfl ?_
    exact rf_reads_J144_t n u x1 x3
  · refine z_aload_n (pc' := 140) (k := 0) (i := 0) 0 rfl rfl ⟨by decide +kernel, rfl⟩ ?_
    refine z_iload_n (pc' := 141) (k := 1) (i := 1) 1 rfl rfl ⟨by decide +kernel, rfl⟩ ?_
    refine z_callVf (pc' := 144) 0 (rft_leaves n u x1) (rfG_leaves ca D) (rfO ca D) rfl (by omega) rfl rfl (Nat.le_of_ble_eq_true rfl) ⟨by decide +kernel, rfl⟩ (fun _ u3 => ?_)
    refine z_lv [0, 1, 2] (lv' := [(0, .ref (a 0)), (1, .int x1), (3, .int x3)]) rfl ?_
    exact rf_reads_J144_t n u3 x1 x3
set_option maxRecDepth 20000 in
set_option maxHeartbeats 4000000 in
theorem rf_reads_J100_t {κ : zKx} {ca : Nat → ClassId} {D : va_G} {A : Nat → Prop} {c0 : Nat × Nat} {a g0 g : Nat → Nat} (n : Nat) (u : zMu) (x1 : Int32) (x3 : Int32) (s0 : Int32) : zJ κ (zRf ca D) prog_13_method_59_code 8 rf_C (some .int) zri true 3 A c0 a g0 g u 100 [(0, .ref (a 0)), (1, .int x1), (3, .int x3)] [.int s0] (rf_reads_J100 n u x1 x3 s0) := by
  unfold rf_reads_J100
  refine z_istore (pc' := 102) (i := 5) (by decide) rfl ⟨by decide +kernel, rfl⟩ ?_
  refine z_aload_n (pc' := 103) (k := 0) (i := 0) 1 rfl rfl ⟨by decide +kernel, rfl⟩ ?_
  refine z_iload_n (pc' := 104) (k := 1) (i := 1) 2 rfl rfl ⟨by decide +kernel, rfl⟩ ?_
  refine z_iload_n (pc' := 105) (k := 3) (i := 3) 3 rfl rfl ⟨by decide +kernel, rfl⟩ ?_
  refine z_callVf (pc' := 108) 0 (rft_meets n u x1 x3) (rfG_meets ca D) (rfO ca D) rfl (by omega) rfl rfl (Nat.le_of_ble_eq_true rfl) ⟨by decide +kernel, rfl⟩ (fun r1 u2 => ?_)
  refine z_if_eq (pc' := 111) (tgt := 124) (off := 16) ⟨by decide +kernel, rfl⟩ rfl (fun h3 => ?_) (fun h3 => ?_)
  · refine z_aload_n (pc' := 125) (k := 0) (i := 0) 1 rfl rfl ⟨by decide +kernel, rfl⟩ ?_
    refine z_dup (pc' := 126) rfl ⟨by decide +kernel, rfl⟩ ?_
    refine z_getI (pc' := 129) (rff_misses ca D) rfl ⟨by decide +kernel, rfl⟩ ?_
    refine z_iconst (pc' := 130) (n := 1) (v := 1) (by decide) ⟨by decide +kernel, rfl⟩ ?_
    refine z_iadd (pc' := 131) ⟨by decide +kernel, rfl⟩ ?_
    refine z_putI (pc' := 134) (rff_misses ca D) rfl ⟨by decide +kernel, rfl⟩ (z_letU fun u4 => ?_)
    refine z_lv [1, 2, 3, 0] (lv' := [(0, .ref (a 0)), (1, .int x1), (3, .int x3), (5, .int s0)]) rfl ?_
    exact rf_reads_J134_t n u4 x1 x3 s0
  · refine z_aload_n (pc' := 112) (k := 0) (i := 0) 1 rfl rfl ⟨by decide +kernel, rfl⟩ ?_
    refine z_dup (pc' := 113) rfl ⟨by decide +kernel, rfl⟩ ?_
    refine z_getI (pc' := 116) (rff_hits ca D) rfl ⟨by decide +kernel, rfl⟩ ?_
    refine z_iconst (pc' := 117) (n := 1) (v := 1) (by decide) ⟨by decide +kernel, rfl⟩ ?_
    refine z_iadd (pc' := 118) ⟨by decide +kernel, rfl⟩ ?_
    refine z_putI (pc' := 121) (rff_hits ca D) rfl ⟨by decide +kernel, rfl⟩ (z_letU fun u5 => ?_)
    refine z_goto (tgt := 134) (off := 13) (by decide +kernel) rfl ?_
    refine z_lv [1, 2, 3, 0] (lv' := [(0, .ref (a 0)), (1, .int x1), (3, .int x3), (5, .int s0)]) rfl ?_
    exact rf_reads_J134_t n u5 x1 x3 s0
set_option maxRecDepth 20000 in
set_option maxHeartbeats 4000000 in
theorem rf_reads_J99_t {κ : zKx} {ca : Nat → ClassId} {D : va_G} {A : Nat → Prop} {c0 : Nat × Nat} {a g0 g : Nat → Nat} (n : Nat) (u : zMu) (x1 : Int32) (x3 : Int32) : zJ κ (zRf ca D) prog_13_method_59_code 8 rf_C (some .int) zri true 3 A c0 a g0 g u 99 [(0, .ref (a 0)), (1, .int x1), (3, .int x3)] [] (rf_reads_J99 n u x1 x3) := by
  unfold rf_reads_J99
  refine z_iconst (pc' := 100) (n := 0) (v := 0) (by decide) ⟨by decide +kernel, rfl⟩ ?_
  exact rf_reads_J100_t n u x1 x3 0
set_option maxRecDepth 20000 in
set_option maxHeartbeats 4000000 in
theorem rf_reads_L41_t {κ : zKx} {ca : Nat → ClassId} {D : va_G} {A : Nat → Prop} {c0 : Nat × Nat} {a g0 g : Nat → Nat} (n : Nat) : ∀ (m : Nat) (u : zMu) (x1 : Int32) (x3 : Int32) (x4 : Int32) (x5 : Int32), zJ κ (zRf ca D) prog_13_method_59_code 8 rf_C (some .int) zri true 3 A c0 a g0 g u 41 [(0, .ref (a 0)), (1, .int x1), (3, .int x3), (4, .int x4), (5, .int x5)] [] (rf_reads_L41 n m u x1 x3 x4 x5) := by
  intro m
  induction m with
  | zero => intro u x1 x3 x4 x5 r u' h; cases h
  | succ m ih =>
    intro u x1 x3 x4 x5
    unfold rf_reads_L41
    refine z_iload (pc' := 43) (i := 5) 4 rfl ⟨by decide +kernel, rfl⟩ ?_
    refine z_aload_n (pc' := 44) (k := 0) (i := 0) 0 rfl rfl ⟨by decide +kernel, rfl⟩ ?_
    refine z_getR (pc' := 47) (rff_guesses ca D) rfl (y := a 59) rfl ⟨by decide +kernel, rfl⟩ ?_
    refine z_iload_n (pc' := 48) (k := 1) (i := 1) 1 rfl rfl ⟨by decide +kernel, rfl⟩ ?_
    refine z_iald (pc' := 49) 59 rfl (zlt rfl) rfl rfl ⟨by decide +kernel, rfl⟩ ?_
    refine z_icmp_ge (pc' := 52) (tgt := 81) (off := 32) ⟨by decide +kernel, rfl⟩ rfl (fun h1 => ?_) (fun h1 => ?_)
    · refine z_aload_n (pc' := 53) (k := 0) (i := 0) 0 rfl rfl ⟨by decide +kernel, rfl⟩ ?_
      refine z_getR (pc' := 56) (rff_guess ca D) rfl (y := a 60) rfl ⟨by decide +kernel, rfl⟩ ?_
      refine z_iconst (pc' := 57) (n := 4) (v := 4) (by decide) ⟨by decide +kernel, rfl⟩ ?_
      refine z_iload_n (pc' := 58) (k := 1) (i := 1) 1 rfl rfl ⟨by decide +kernel, rfl⟩ ?_
      refine z_imul (pc' := 59) ⟨by decide +kernel, rfl⟩ ?_
      refine z_iload (pc' := 61) (i := 5) 4 rfl ⟨by decide +kernel, rfl⟩ ?_
      refine z_iadd (pc' := 62) ⟨by decide +kernel, rfl⟩ ?_
      refine z_iald (pc' := 63) 60 rfl (zlt rfl) rfl rfl ⟨by decide +kernel, rfl⟩ ?_
      refine z_aload_n (pc' := 64) (k := 0) (i := 0) 0 rfl rfl ⟨by decide +kernel, rfl⟩ ?_
      refine z_getR (pc' := 67) (rff_oShape ca D) rfl (y := a 36) rfl ⟨by decide +kernel, rfl⟩ ?_
      refine z_iload_n (pc' := 68) (k := 3) (i := 3) 2 rfl rfl ⟨by decide +kernel, rfl⟩ ?_
      refine z_iald (pc' := 69) 36 rfl (zlt rfl) rfl rfl ⟨by decide +kernel, rfl⟩ ?_
      refine z_icmp_ne (pc' := 72) (tgt := 75) (off := 6) ⟨by decide +kernel, rfl⟩ rfl (fun h2 => ?_) (fun h2 => ?_)
      · refine z_iconst (pc' := 73) (n := 1) (v := 1) (by decide) ⟨by decide +kernel, rfl⟩ ?_
        refine z_istore (pc' := 75) (i := 4) (by decide) rfl ⟨by decide +kernel, rfl⟩ ?_
        refine z_iincN (pc' := 78) (i := 5) (n := 1) (c := 1) 4 rfl (by decide) (by decide) rfl ⟨by decide +kernel, rfl⟩ fun v3 => ?_
        refine z_goto (tgt := 41) (off := -37) (by decide +kernel) rfl ?_
        refine z_lv [2, 3, 4, 1, 0] (lv' := [(0, .ref (a 0)), (1, .int x1), (3, .int x3), (4, .int 1), (5, .int v3)]) rfl ?_
        exact ih u x1 x3 1 v3
      · refine z_iincN (pc' := 78) (i := 5) (n := 1) (c := 1) 4 rfl (by decide) (by decide) rfl ⟨by decide +kernel, rfl⟩ fun v4 => ?_
        refine z_goto (tgt := 41) (off := -37) (by decide +kernel) rfl ?_
        refine z_lv [1, 2, 3, 4, 0] (lv' := [(0, .ref (a 0)), (1, .int x1), (3, .int x3), (4, .int x4), (5, .int v4)]) rfl ?_
        exact ih u x1 x3 x4 v4
    · refine z_aload_n (pc' := 82) (k := 0) (i := 0) 0 rfl rfl ⟨by decide +kernel, rfl⟩ ?_
      refine z_getR (pc' := 85) (rff_guesses ca D) rfl (y := a 59) rfl ⟨by decide +kernel, rfl⟩ ?_
      refine z_iload_n (pc' := 86) (k := 1) (i := 1) 1 rfl rfl ⟨by decide +kernel, rfl⟩ ?_
      refine z_iald (pc' := 87) 59 rfl (zlt rfl) rfl rfl ⟨by decide +kernel, rfl⟩ ?_
      refine z_if_le (pc' := 90) (tgt := 99) (off := 12) ⟨by decide +kernel, rfl⟩ rfl (fun h5 => ?_) (fun h5 => ?_)
      · refine z_iload (pc' := 92) (i := 4) 3 rfl ⟨by decide +kernel, rfl⟩ ?_
        refine z_if_ne (pc' := 95) (tgt := 99) (off := 7) ⟨by decide +kernel, rfl⟩ rfl (fun h6 => ?_) (fun h6 => ?_)
        · refine z_iconst (pc' := 96) (n := 1) (v := 1) (by decide) ⟨by decide +kernel, rfl⟩ ?_
          refine z_goto (tgt := 100) (off := 4) (by decide +kernel) rfl ?_
          refine z_lv [0, 1, 2] (lv' := [(0, .ref (a 0)), (1, .int x1), (3, .int x3)]) rfl ?_
          exact rf_reads_J100_t n u x1 x3 1
        · refine z_lv [0, 1, 2] (lv' := [(0, .ref (a 0)), (1, .int x1), (3, .int x3)]) rfl ?_
          exact rf_reads_J99_t n u x1 x3
      · refine z_lv [0, 1, 2] (lv' := [(0, .ref (a 0)), (1, .int x1), (3, .int x3)]) rfl ?_
        exact rf_reads_J99_t n u x1 x3
set_option maxRecDepth 20000 in
set_option maxHeartbeats 4000000 in
theorem rft_reads {l : Launch} {ca : Nat → ClassId} {D : va_G} {a g : Nat → Nat} (n : Nat) (u : zMu) (x1 : Int32) (x2 : Int32) : zMet l (zRf ca D) rfY_reads (.code rfY_reads prog_13_method_59_code 8 (some .int)) zri true 3 a g [.ref (a 0), .int x1, .int x2] u (rf_reads n u x1 x2) := by
  refine zMet.of rfl (Nat.le_of_ble_eq_true rfl) fun κ A hl => ?_
  subst hl
  unfold rf_reads
  refine z_aload_n (pc' := 1) (k := 0) (i := 0) 0 rfl rfl ⟨by decide +kernel, rfl⟩ ?_
  refine z_getR (pc' := 4) (rff_vSort ca D) rfl (y := a 27) rfl ⟨by decide +kernel, rfl⟩ ?_
  refine z_aload_n (pc' := 5) (k := 0) (i := 0) 0 rfl rfl ⟨by decide +kernel, rfl⟩ ?_
  refine z_getI (pc' := 8) (rff_top ca D) rfl ⟨by decide +kernel, rfl⟩ ?_
  refine z_iconst (pc' := 9) (n := 1) (v := 1) (by decide) ⟨by decide +kernel, rfl⟩ ?_
  refine z_isub (pc' := 10) ⟨by decide +kernel, rfl⟩ ?_
  refine z_iald (pc' := 11) 27 rfl (zlt rfl) rfl rfl ⟨by decide +kernel, rfl⟩ ?_
  refine z_iconst (pc' := 12) (n := 2) (v := 2) (by decide) ⟨by decide +kernel, rfl⟩ ?_
  refine z_icmp_eq (pc' := 15) (tgt := 22) (off := 10) ⟨by decide +kernel, rfl⟩ rfl (fun h1 => ?_) (fun h1 => ?_)
  · refine z_aload_n (pc' := 23) (k := 0) (i := 0) 0 rfl rfl ⟨by decide +kernel, rfl⟩ ?_
    refine z_getR (pc' := 26) (rff_vNum ca D) rfl (y := a 31) rfl ⟨by decide +kernel, rfl⟩ ?_
    refine z_aload_n (pc' := 27) (k := 0) (i := 0) 0 rfl rfl ⟨by decide +kernel, rfl⟩ ?_
    refine z_getI (pc' := 30) (rff_top ca D) rfl ⟨by decide +kernel, rfl⟩ ?_
    refine z_iconst (pc' := 31) (n := 1) (v := 1) (by decide) ⟨by decide +kernel, rfl⟩ ?_
    refine z_isub (pc' := 32) ⟨by decide +kernel, rfl⟩ ?_
    refine z_lald (pc' := 33) 31 rfl (zlt rfl) rfl rfl ⟨by decide +kernel, rfl⟩ ?_
    refine z_l2i (pc' := 34) ⟨by decide +kernel, rfl⟩ ?_
    refine z_letI fun v2 => ?_
    refine z_istore_n (pc' := 35) (k := 3) (i := 3) rfl (by decide) rfl ⟨by decide +kernel, rfl⟩ ?_
    refine z_iconst (pc' := 36) (n := 0) (v := 0) (by decide) ⟨by decide +kernel, rfl⟩ ?_
    refine z_istore (pc' := 38) (i := 4) (by decide) rfl ⟨by decide +kernel, rfl⟩ ?_
    refine z_iconst (pc' := 39) (n := 0) (v := 0) (by decide) ⟨by decide +kernel, rfl⟩ ?_
    refine z_istore (pc' := 41) (i := 5) (by decide) rfl ⟨by decide +kernel, rfl⟩ ?_
    refine z_lv [3, 4, 2, 1, 0] (lv' := [(0, .ref (a 0)), (1, .int x1), (3, .int v2), (4, .int 0), (5, .int 0)]) rfl ?_
    exact rf_reads_L41_t n n u x1 v2 0 0
  · refine z_aload_n (pc' := 16) (k := 0) (i := 0) 0 rfl rfl ⟨by decide +kernel, rfl⟩ ?_
    refine z_iconst (pc' := 17) (n := 2) (v := 2) (by decide) ⟨by decide +kernel, rfl⟩ ?_
    refine z_iload_n (pc' := 18) (k := 2) (i := 2) 2 rfl rfl ⟨by decide +kernel, rfl⟩ ?_
    refine z_callVf (pc' := 21) 0 (rft_fails n u 2 x2) (rfG_fails ca D) (rfO ca D) rfl (by omega) rfl rfl (Nat.le_of_ble_eq_true rfl) ⟨by decide +kernel, rfl⟩ (fun r3 u4 => ?_)
    exact z_iret (pc' := 22) ⟨by decide +kernel, rfl⟩
set_option maxRecDepth 20000 in
set_option maxHeartbeats 4000000 in
theorem rf_grows_J58_t {κ : zKx} {ca : Nat → ClassId} {D : va_G} {A : Nat → Prop} {c0 : Nat × Nat} {a g0 g : Nat → Nat} (n : Nat) (u : zMu) (x1 : Int32) (x2 : Int32) (x3 : Int32) : zJ κ (zRf ca D) prog_13_method_61_code 4 rf_C (some .int) zri true 1 A c0 a g0 g u 58 [(0, .ref (a 0)), (1, .int x1), (2, .int x2), (3, .int x3)] [] (rf_grows_J58 n u x1 x2 x3) := by
  unfold rf_grows_J58
  refine z_aload_n (pc' := 59) (k := 0) (i := 0) 0 rfl rfl ⟨by decide +kernel, rfl⟩ ?_
  refine z_getR (pc' := 62) (rff_oLast ca D) rfl (y := a 38) rfl ⟨by decide +kernel, rfl⟩ ?_
  refine z_iload_n (pc' := 63) (k := 1) (i := 1) 1 rfl rfl ⟨by decide +kernel, rfl⟩ ?_
  refine z_iload_n (pc' := 64) (k := 3) (i := 3) 3 rfl rfl ⟨by decide +kernel, rfl⟩ ?_
  refine z_iast (pc' := 65) 38 rfl (zlt rfl) rfl rfl ⟨by decide +kernel, rfl⟩ (z_letU fun u1 => ?_)
  refine z_aload_n (pc' := 66) (k := 0) (i := 0) 0 rfl rfl ⟨by decide +kernel, rfl⟩ ?_
  refine z_getR (pc' := 69) (rff_oSize ca D) rfl (y := a 39) rfl ⟨by decide +kernel, rfl⟩ ?_
  refine z_iload_n (pc' := 70) (k := 1) (i := 1) 1 rfl rfl ⟨by decide +kernel, rfl⟩ ?_
  refine z_dup2_11 (pc' := 71) rfl rfl ⟨by decide +kernel, rfl⟩ ?_
  refine z_iald (pc' := 72) 39 rfl (zlt rfl) rfl rfl ⟨by decide +kernel, rfl⟩ ?_
  refine z_iconst (pc' := 73) (n := 1) (v := 1) (by decide) ⟨by decide +kernel, rfl⟩ ?_
  refine z_iadd (pc' := 74) ⟨by decide +kernel, rfl⟩ ?_
  refine z_iast (pc' := 75) 39 rfl (zlt rfl) rfl rfl ⟨by decide +kernel, rfl⟩ (z_letU fun u2 => ?_)
  refine z_aload_n (pc' := 76) (k := 0) (i := 0) 0 rfl rfl ⟨by decide +kernel, rfl⟩ ?_
  refine z_getR (pc' := 79) (rff_oShape ca D) rfl (y := a 36) rfl ⟨by decide +kernel, rfl⟩ ?_
  refine z_iload_n (pc' := 80) (k := 1) (i := 1) 1 rfl rfl ⟨by decide +kernel, rfl⟩ ?_
  refine z_iald (pc' := 81) 36 rfl (zlt rfl) rfl rfl ⟨by decide +kernel, rfl⟩ ?_
  refine z_iconst (pc' := 82) (n := (-1)) (v := (-1)) (by decide) ⟨by decide +kernel, rfl⟩ ?_
  refine z_icmp_eq (pc' := 85) (tgt := 139) (off := 57) ⟨by decide +kernel, rfl⟩ rfl (fun h3 => ?_) (fun h3 => ?_)
  · refine z_iload_n (pc' := 140) (k := 3) (i := 3) 3 rfl rfl ⟨by decide +kernel, rfl⟩ ?_
    exact z_iret (pc' := 141) ⟨by decide +kernel, rfl⟩
  · refine z_aload_n (pc' := 86) (k := 0) (i := 0) 0 rfl rfl ⟨by decide +kernel, rfl⟩ ?_
    refine z_getR (pc' := 89) (rff_oSize ca D) rfl (y := a 39) rfl ⟨by decide +kernel, rfl⟩ ?_
    refine z_iload_n (pc' := 90) (k := 1) (i := 1) 1 rfl rfl ⟨by decide +kernel, rfl⟩ ?_
    refine z_iald (pc' := 91) 39 rfl (zlt rfl) rfl rfl ⟨by decide +kernel, rfl⟩ ?_
    refine z_bipush (pc' := 93) (n := 8) (v := 8) (by decide) ⟨by decide +kernel, rfl⟩ ?_
    refine z_icmp_le (pc' := 96) (tgt := 116) (off := 23) ⟨by decide +kernel, rfl⟩ rfl (fun h4 => ?_) (fun h4 => ?_)
    · refine z_aload_n (pc' := 97) (k := 0) (i := 0) 0 rfl rfl ⟨by decide +kernel, rfl⟩ ?_
      refine z_getR (pc' := 100) (rff_oShape ca D) rfl (y := a 36) rfl ⟨by decide +kernel, rfl⟩ ?_
      refine z_iload_n (pc' := 101) (k := 1) (i := 1) 1 rfl rfl ⟨by decide +kernel, rfl⟩ ?_
      refine z_iconst (pc' := 102) (n := (-1)) (v := (-1)) (by decide) ⟨by decide +kernel, rfl⟩ ?_
      refine z_iast (pc' := 103) 36 rfl (zlt rfl) rfl rfl ⟨by decide +kernel, rfl⟩ (z_letU fun u5 => ?_)
      refine z_aload_n (pc' := 104) (k := 0) (i := 0) 0 rfl rfl ⟨by decide +kernel, rfl⟩ ?_
      refine z_dup (pc' := 105) rfl ⟨by decide +kernel, rfl⟩ ?_
      refine z_getI (pc' := 108) (rff_dictionaries ca D) rfl ⟨by decide +kernel, rfl⟩ ?_
      refine z_iconst (pc' := 109) (n := 1) (v := 1) (by decide) ⟨by decide +kernel, rfl⟩ ?_
      refine z_iadd (pc' := 110) ⟨by decide +kernel, rfl⟩ ?_
      refine z_putI (pc' := 113) (rff_dictionaries ca D) rfl ⟨by decide +kernel, rfl⟩ (z_letU fun u6 => ?_)
      refine z_goto (tgt := 139) (off := 26) (by decide +kernel) rfl ?_
      refine z_iload_n (pc' := 140) (k := 3) (i := 3) 3 rfl rfl ⟨by decide +kernel, rfl⟩ ?_
      exact z_iret (pc' := 141) ⟨by decide +kernel, rfl⟩
    · refine z_aload_n (pc' := 117) (k := 0) (i := 0) 0 rfl rfl ⟨by decide +kernel, rfl⟩ ?_
      refine z_getR (pc' := 120) (rff_oShape ca D) rfl (y := a 36) rfl ⟨by decide +kernel, rfl⟩ ?_
      refine z_iload_n (pc' := 121) (k := 1) (i := 1) 1 rfl rfl ⟨by decide +kernel, rfl⟩ ?_
      refine z_aload_n (pc' := 122) (k := 0) (i := 0) 0 rfl rfl ⟨by decide +kernel, rfl⟩ ?_
      refine z_aload_n (pc' := 123) (k := 0) (i := 0) 0 rfl rfl ⟨by decide +kernel, rfl⟩ ?_
      refine z_getR (pc' := 126) (rff_oParent ca D) rfl (y := a 35) rfl ⟨by decide +kernel, rfl⟩ ?_
      refine z_iload_n (pc' := 127) (k := 1) (i := 1) 1 rfl rfl ⟨by decide +kernel, rfl⟩ ?_
      refine z_iald (pc' := 128) 35 rfl (zlt rfl) rfl rfl ⟨by decide +kernel, rfl⟩ ?_
      refine z_aload_n (pc' := 129) (k := 0) (i := 0) 0 rfl rfl ⟨by decide +kernel, rfl⟩ ?_
      refine z_getR (pc' := 132) (rff_oShape ca D) rfl (y := a 36) rfl ⟨by decide +kernel, rfl⟩ ?_
      refine z_iload_n (pc' := 133) (k := 1) (i := 1) 1 rfl rfl ⟨by decide +kernel, rfl⟩ ?_
      refine z_iald (pc' := 134) 36 rfl (zlt rfl) rfl rfl ⟨by decide +kernel, rfl⟩ ?_
      refine z_iload_n (pc' := 135) (k := 2) (i := 2) 2 rfl rfl ⟨by decide +kernel, rfl⟩ ?_
      refine z_callVf (pc' := 138) 0 (rft_shapeOf n u2 (zI u2 35 (zx x1)) (zI u2 36 (zx x1)) x2) (rfG_shapeOf ca D) (rfO ca D) rfl (by omega) rfl rfl (Nat.le_of_ble_eq_true rfl) ⟨by decide +kernel, rfl⟩ (fun r7 u8 => ?_)
      refine z_iast (pc' := 139) 36 rfl (zlt rfl) rfl rfl ⟨by decide +kernel, rfl⟩ (z_letU fun u9 => ?_)
      refine z_iload_n (pc' := 140) (k := 3) (i := 3) 3 rfl rfl ⟨by decide +kernel, rfl⟩ ?_
      exact z_iret (pc' := 141) ⟨by decide +kernel, rfl⟩
set_option maxRecDepth 20000 in
set_option maxHeartbeats 4000000 in
theorem rft_grows {l : Launch} {ca : Nat → ClassId} {D : va_G} {a g : Nat → Nat} (n : Nat) (u : zMu) (x1 : Int32) (x2 : Int32) : zMet l (zRf ca D) rfY_grows (.code rfY_grows prog_13_method_61_code 4 (some .int)) zri true 1 a g [.ref (a 0), .int x1, .int x2] u (rf_grows n u x1 x2) := by
  refine zMet.of rfl (Nat.le_of_ble_eq_true rfl) fun κ A hl => ?_
  subst hl
  unfold rf_grows
  refine z_aload_n (pc' := 1) (k := 0) (i := 0) 0 rfl rfl ⟨by decide +kernel, rfl⟩ ?_
  refine z_dup (pc' := 2) rfl ⟨by decide +kernel, rfl⟩ ?_
  refine z_getI (pc' := 5) (rff_members ca D) rfl ⟨by decide +kernel, rfl⟩ ?_
  refine z_letI fun v1 => ?_
  refine z_dup_x1 (pc' := 6) rfl rfl ⟨by decide +kernel, rfl⟩ ?_
  refine z_iconst (pc' := 7) (n := 1) (v := 1) (by decide) ⟨by decide +kernel, rfl⟩ ?_
  refine z_iadd (pc' := 8) ⟨by decide +kernel, rfl⟩ ?_
  refine z_putI (pc' := 11) (rff_members ca D) rfl ⟨by decide +kernel, rfl⟩ (z_letU fun u2 => ?_)
  refine z_istore_n (pc' := 12) (k := 3) (i := 3) rfl (by decide) rfl ⟨by decide +kernel, rfl⟩ ?_
  refine z_aload_n (pc' := 13) (k := 0) (i := 0) 1 rfl rfl ⟨by decide +kernel, rfl⟩ ?_
  refine z_getR (pc' := 16) (rff_mName ca D) rfl (y := a 40) rfl ⟨by decide +kernel, rfl⟩ ?_
  refine z_iload_n (pc' := 17) (k := 3) (i := 3) 0 rfl rfl ⟨by decide +kernel, rfl⟩ ?_
  refine z_iload_n (pc' := 18) (k := 2) (i := 2) 3 rfl rfl ⟨by decide +kernel, rfl⟩ ?_
  refine z_iast (pc' := 19) 40 rfl (zlt rfl) rfl rfl ⟨by decide +kernel, rfl⟩ (z_letU fun u3 => ?_)
  refine z_aload_n (pc' := 20) (k := 0) (i := 0) 1 rfl rfl ⟨by decide +kernel, rfl⟩ ?_
  refine z_getR (pc' := 23) (rff_mNext ca D) rfl (y := a 42) rfl ⟨by decide +kernel, rfl⟩ ?_
  refine z_iload_n (pc' := 24) (k := 3) (i := 3) 0 rfl rfl ⟨by decide +kernel, rfl⟩ ?_
  refine z_iconst (pc' := 25) (n := (-1)) (v := (-1)) (by decide) ⟨by decide +kernel, rfl⟩ ?_
  refine z_iast (pc' := 26) 42 rfl (zlt rfl) rfl rfl ⟨by decide +kernel, rfl⟩ (z_letU fun u4 => ?_)
  refine z_aload_n (pc' := 27) (k := 0) (i := 0) 1 rfl rfl ⟨by decide +kernel, rfl⟩ ?_
  refine z_getR (pc' := 30) (rff_oLast ca D) rfl (y := a 38) rfl ⟨by decide +kernel, rfl⟩ ?_
  refine z_iload_n (pc' := 31) (k := 1) (i := 1) 2 rfl rfl ⟨by decide +kernel, rfl⟩ ?_
  refine z_iald (pc' := 32) 38 rfl (zlt rfl) rfl rfl ⟨by decide +kernel, rfl⟩ ?_
  refine z_iconst (pc' := 33) (n := (-1)) (v := (-1)) (by decide) ⟨by decide +kernel, rfl⟩ ?_
  refine z_icmp_ne (pc' := 36) (tgt := 46) (off := 13) ⟨by decide +kernel, rfl⟩ rfl (fun h5 => ?_) (fun h5 => ?_)
  · refine z_aload_n (pc' := 37) (k := 0) (i := 0) 1 rfl rfl ⟨by decide +kernel, rfl⟩ ?_
    refine z_getR (pc' := 40) (rff_oFirst ca D) rfl (y := a 37) rfl ⟨by decide +kernel, rfl⟩ ?_
    refine z_iload_n (pc' := 41) (k := 1) (i := 1) 2 rfl rfl ⟨by decide +kernel, rfl⟩ ?_
    refine z_iload_n (pc' := 42) (k := 3) (i := 3) 0 rfl rfl ⟨by decide +kernel, rfl⟩ ?_
    refine z_iast (pc' := 43) 37 rfl (zlt rfl) rfl rfl ⟨by decide +kernel, rfl⟩ (z_letU fun u6 => ?_)
    refine z_goto (tgt := 58) (off := 15) (by decide +kernel) rfl ?_
    refine z_lv [1, 2, 3, 0] (lv' := [(0, .ref (a 0)), (1, .int x1), (2, .int x2), (3, .int v1)]) rfl ?_
    exact rf_grows_J58_t n u6 x1 x2 v1
  · refine z_aload_n (pc' := 47) (k := 0) (i := 0) 1 rfl rfl ⟨by decide +kernel, rfl⟩ ?_
    refine z_getR (pc' := 50) (rff_mNext ca D) rfl (y := a 42) rfl ⟨by decide +kernel, rfl⟩ ?_
    refine z_aload_n (pc' := 51) (k := 0) (i := 0) 1 rfl rfl ⟨by decide +kernel, rfl⟩ ?_
    refine z_getR (pc' := 54) (rff_oLast ca D) rfl (y := a 38) rfl ⟨by decide +kernel, rfl⟩ ?_
    refine z_iload_n (pc' := 55) (k := 1) (i := 1) 2 rfl rfl ⟨by decide +kernel, rfl⟩ ?_
    refine z_iald (pc' := 56) 38 rfl (zlt rfl) rfl rfl ⟨by decide +kernel, rfl⟩ ?_
    refine z_iload_n (pc' := 57) (k := 3) (i := 3) 0 rfl rfl ⟨by decide +kernel, rfl⟩ ?_
    refine z_iast (pc' := 58) 42 rfl (zlt rfl) rfl rfl ⟨by decide +kernel, rfl⟩ (z_letU fun u7 => ?_)
    refine z_lv [1, 2, 3, 0] (lv' := [(0, .ref (a 0)), (1, .int x1), (2, .int x2), (3, .int v1)]) rfl ?_
    exact rf_grows_J58_t n u7 x1 x2 v1
set_option maxRecDepth 20000 in
set_option maxHeartbeats 4000000 in
theorem rf_isOnWay_L7_t {κ : zKx} {ca : Nat → ClassId} {D : va_G} {A : Nat → Prop} {c0 : Nat × Nat} {a g0 g : Nat → Nat} (n : Nat) : ∀ (m : Nat) (u : zMu) (x1 : Int32) (x2 : Int32) (x3 : Int32), zJ κ (zRf ca D) prog_13_method_57_code 4 rf_C (some .boolean) zri true 0 A c0 a g0 g u 7 [(0, .ref (a 0)), (1, .int x1), (2, .int x2), (3, .int x3)] [] (rf_isOnWay_L7 n m u x1 x2 x3) := by
  intro m
  induction m with
  | zero => intro u x1 x2 x3 r u' h; cases h
  | succ m ih =>
    intro u x1 x2 x3
    unfold rf_isOnWay_L7
    refine z_iload_n (pc' := 8) (k := 3) (i := 3) 3 rfl rfl ⟨by decide +kernel, rfl⟩ ?_
    refine z_iconst (pc' := 9) (n := (-1)) (v := (-1)) (by decide) ⟨by decide +kernel, rfl⟩ ?_
    refine z_icmp_eq (pc' := 12) (tgt := 41) (off := 32) ⟨by decide +kernel, rfl⟩ rfl (fun h1 => ?_) (fun h1 => ?_)
    · refine z_iconst (pc' := 42) (n := 0) (v := 0) (by decide) ⟨by decide +kernel, rfl⟩ ?_
      exact z_zret (pc' := 43) (by decide) ⟨by decide +kernel, rfl⟩
    · refine z_iload_n (pc' := 13) (k := 3) (i := 3) 3 rfl rfl ⟨by decide +kernel, rfl⟩ ?_
      refine z_iload_n (pc' := 14) (k := 2) (i := 2) 2 rfl rfl ⟨by decide +kernel, rfl⟩ ?_
      refine z_icmp_ne (pc' := 17) (tgt := 19) (off := 5) ⟨by decide +kernel, rfl⟩ rfl (fun h2 => ?_) (fun h2 => ?_)
      · refine z_iconst (pc' := 18) (n := 1) (v := 1) (by decide) ⟨by decide +kernel, rfl⟩ ?_
        exact z_zret (pc' := 19) (by decide) ⟨by decide +kernel, rfl⟩
      · refine z_iload_n (pc' := 20) (k := 3) (i := 3) 3 rfl rfl ⟨by decide +kernel, rfl⟩ ?_
        refine z_aload_n (pc' := 21) (k := 0) (i := 0) 0 rfl rfl ⟨by decide +kernel, rfl⟩ ?_
        refine z_getR (pc' := 24) (rff_wayTo ca D) rfl (y := a 57) rfl ⟨by decide +kernel, rfl⟩ ?_
        refine z_iload_n (pc' := 25) (k := 1) (i := 1) 1 rfl rfl ⟨by decide +kernel, rfl⟩ ?_
        refine z_iald (pc' := 26) 57 rfl (zlt rfl) rfl rfl ⟨by decide +kernel, rfl⟩ ?_
        refine z_icmp_ne (pc' := 29) (tgt := 31) (off := 5) ⟨by decide +kernel, rfl⟩ rfl (fun h3 => ?_) (fun h3 => ?_)
        · refine z_iconst (pc' := 30) (n := 0) (v := 0) (by decide) ⟨by decide +kernel, rfl⟩ ?_
          exact z_zret (pc' := 31) (by decide) ⟨by decide +kernel, rfl⟩
        · refine z_aload_n (pc' := 32) (k := 0) (i := 0) 0 rfl rfl ⟨by decide +kernel, rfl⟩ ?_
          refine z_getR (pc' := 35) (rff_oParent ca D) rfl (y := a 35) rfl ⟨by decide +kernel, rfl⟩ ?_
          refine z_iload_n (pc' := 36) (k := 3) (i := 3) 3 rfl rfl ⟨by decide +kernel, rfl⟩ ?_
          refine z_iald (pc' := 37) 35 rfl (zlt rfl) rfl rfl ⟨by decide +kernel, rfl⟩ ?_
          refine z_letI fun v4 => ?_
          refine z_istore_n (pc' := 38) (k := 3) (i := 3) rfl (by decide) rfl ⟨by decide +kernel, rfl⟩ ?_
          refine z_goto (tgt := 7) (off := -31) (by decide +kernel) rfl ?_
          refine z_lv [1, 2, 3, 0] (lv' := [(0, .ref (a 0)), (1, .int x1), (2, .int x2), (3, .int v4)]) rfl ?_
          exact ih u x1 x2 v4
set_option maxRecDepth 20000 in
set_option maxHeartbeats 4000000 in
theorem rft_isOnWay {l : Launch} {ca : Nat → ClassId} {D : va_G} {a g : Nat → Nat} (n : Nat) (u : zMu) (x1 : Int32) (x2 : Int32) : zMet l (zRf ca D) rfY_isOnWay (.code rfY_isOnWay prog_13_method_57_code 4 (some .boolean)) zri true 0 a g [.ref (a 0), .int x1, .int x2] u (rf_isOnWay n u x1 x2) := by
  refine zMet.of rfl (Nat.le_of_ble_eq_true rfl) fun κ A hl => ?_
  subst hl
  unfold rf_isOnWay
  refine z_aload_n (pc' := 1) (k := 0) (i := 0) 0 rfl rfl ⟨by decide +kernel, rfl⟩ ?_
  refine z_getR (pc' := 4) (rff_wayFrom ca D) rfl (y := a 56) rfl ⟨by decide +kernel, rfl⟩ ?_
  refine z_iload_n (pc' := 5) (k := 1) (i := 1) 1 rfl rfl ⟨by decide +kernel, rfl⟩ ?_
  refine z_iald (pc' := 6) 56 rfl (zlt rfl) rfl rfl ⟨by decide +kernel, rfl⟩ ?_
  refine z_letI fun v1 => ?_
  refine z_istore_n (pc' := 7) (k := 3) (i := 3) rfl (by decide) rfl ⟨by decide +kernel, rfl⟩ ?_
  refine z_lv [1, 2, 3, 0] (lv' := [(0, .ref (a 0)), (1, .int x1), (2, .int x2), (3, .int v1)]) rfl ?_
  exact rf_isOnWay_L7_t n n u x1 x2 v1
set_option maxRecDepth 20000 in
set_option maxHeartbeats 4000000 in
theorem rf_breaks_L27_t {κ : zKx} {ca : Nat → ClassId} {D : va_G} {A : Nat → Prop} {c0 : Nat × Nat} {a g0 g : Nat → Nat} (n : Nat) (k2 : zMu → Int32 → Int32 → Option (Unit × zMu)) (hk2 : ∀ (u : zMu) (x1 : Int32) (x2 : Int32), zJ κ (zRf ca D) prog_13_method_58_code 6 rf_C none zrv true 1 A c0 a g0 g u 2 [(0, .ref (a 0)), (1, .int x1), (2, .int x2)] [] (k2 u x1 x2)) : ∀ (m : Nat) (u : zMu) (x1 : Int32) (x2 : Int32) (x3 : Int32) (x4 : Int32), zJ κ (zRf ca D) prog_13_method_58_code 6 rf_C none zrv true 1 A c0 a g0 g u 27 [(0, .ref (a 0)), (1, .int x1), (2, .int x2), (3, .int x3), (4, .int x4)] [] (rf_breaks_L27 n k2 m u x1 x2 x3 x4) := by
  intro m
  induction m with
  | zero => intro u x1 x2 x3 x4 r u' h; cases h
  | succ m ih =>
    intro u x1 x2 x3 x4
    unfold rf_breaks_L27
    refine z_iload (pc' := 29) (i := 4) 4 rfl ⟨by decide +kernel, rfl⟩ ?_
    refine z_aload_n (pc' := 30) (k := 0) (i := 0) 0 rfl rfl ⟨by decide +kernel, rfl⟩ ?_
    refine z_getR (pc' := 33) (rff_entries ca D) rfl (y := a 54) rfl ⟨by decide +kernel, rfl⟩ ?_
    refine z_iload_n (pc' := 34) (k := 2) (i := 2) 2 rfl rfl ⟨by decide +kernel, rfl⟩ ?_
    refine z_iald (pc' := 35) 54 rfl (zlt rfl) rfl rfl ⟨by decide +kernel, rfl⟩ ?_
    refine z_icmp_ge (pc' := 38) (tgt := 129) (off := 94) ⟨by decide +kernel, rfl⟩ rfl (fun h1 => ?_) (fun h1 => ?_)
    · refine z_iconst (pc' := 39) (n := 4) (v := 4) (by decide) ⟨by decide +kernel, rfl⟩ ?_
      refine z_iload_n (pc' := 40) (k := 2) (i := 2) 2 rfl rfl ⟨by decide +kernel, rfl⟩ ?_
      refine z_imul (pc' := 41) ⟨by decide +kernel, rfl⟩ ?_
      refine z_iload (pc' := 43) (i := 4) 4 rfl ⟨by decide +kernel, rfl⟩ ?_
      refine z_iadd (pc' := 44) ⟨by decide +kernel, rfl⟩ ?_
      refine z_letI fun v2 => ?_
      refine z_istore (pc' := 46) (i := 5) (by decide) rfl ⟨by decide +kernel, rfl⟩ ?_
      refine z_aload_n (pc' := 47) (k := 0) (i := 0) 1 rfl rfl ⟨by decide +kernel, rfl⟩ ?_
      refine z_iload (pc' := 49) (i := 5) 0 rfl ⟨by decide +kernel, rfl⟩ ?_
      refine z_iload_n (pc' := 50) (k := 1) (i := 1) 2 rfl rfl ⟨by decide +kernel, rfl⟩ ?_
      refine z_callVf (pc' := 53) 0 (rft_isOnWay n u v2 x1) (rfG_isOnWay ca D) (rfO ca D) rfl (by omega) rfl rfl (Nat.le_of_ble_eq_true rfl) ⟨by decide +kernel, rfl⟩ (fun r3 u4 => ?_)
      refine z_if_eq (pc' := 56) (tgt := 69) (off := 16) ⟨by decide +kernel, rfl⟩ rfl (fun h5 => ?_) (fun h5 => ?_)
      · refine z_aload_n (pc' := 70) (k := 0) (i := 0) 1 rfl rfl ⟨by decide +kernel, rfl⟩ ?_
        refine z_getR (pc' := 73) (rff_entry ca D) rfl (y := a 55) rfl ⟨by decide +kernel, rfl⟩ ?_
        refine z_iconst (pc' := 74) (n := 4) (v := 4) (by decide) ⟨by decide +kernel, rfl⟩ ?_
        refine z_iload_n (pc' := 75) (k := 2) (i := 2) 3 rfl rfl ⟨by decide +kernel, rfl⟩ ?_
        refine z_imul (pc' := 76) ⟨by decide +kernel, rfl⟩ ?_
        refine z_iload_n (pc' := 77) (k := 3) (i := 3) 4 rfl rfl ⟨by decide +kernel, rfl⟩ ?_
        refine z_iadd (pc' := 78) ⟨by decide +kernel, rfl⟩ ?_
        refine z_aload_n (pc' := 79) (k := 0) (i := 0) 1 rfl rfl ⟨by decide +kernel, rfl⟩ ?_
        refine z_getR (pc' := 82) (rff_entry ca D) rfl (y := a 55) rfl ⟨by decide +kernel, rfl⟩ ?_
        refine z_iload (pc' := 84) (i := 5) 0 rfl ⟨by decide +kernel, rfl⟩ ?_
        refine z_iald (pc' := 85) 55 rfl (zlt rfl) rfl rfl ⟨by decide +kernel, rfl⟩ ?_
        refine z_iast (pc' := 86) 55 rfl (zlt rfl) rfl rfl ⟨by decide +kernel, rfl⟩ (z_letU fun u6 => ?_)
        refine z_aload_n (pc' := 87) (k := 0) (i := 0) 1 rfl rfl ⟨by decide +kernel, rfl⟩ ?_
        refine z_getR (pc' := 90) (rff_wayFrom ca D) rfl (y := a 56) rfl ⟨by decide +kernel, rfl⟩ ?_
        refine z_iconst (pc' := 91) (n := 4) (v := 4) (by decide) ⟨by decide +kernel, rfl⟩ ?_
        refine z_iload_n (pc' := 92) (k := 2) (i := 2) 3 rfl rfl ⟨by decide +kernel, rfl⟩ ?_
        refine z_imul (pc' := 93) ⟨by decide +kernel, rfl⟩ ?_
        refine z_iload_n (pc' := 94) (k := 3) (i := 3) 4 rfl rfl ⟨by decide +kernel, rfl⟩ ?_
        refine z_iadd (pc' := 95) ⟨by decide +kernel, rfl⟩ ?_
        refine z_aload_n (pc' := 96) (k := 0) (i := 0) 1 rfl rfl ⟨by decide +kernel, rfl⟩ ?_
        refine z_getR (pc' := 99) (rff_wayFrom ca D) rfl (y := a 56) rfl ⟨by decide +kernel, rfl⟩ ?_
        refine z_iload (pc' := 101) (i := 5) 0 rfl ⟨by decide +kernel, rfl⟩ ?_
        refine z_iald (pc' := 102) 56 rfl (zlt rfl) rfl rfl ⟨by decide +kernel, rfl⟩ ?_
        refine z_iast (pc' := 103) 56 rfl (zlt rfl) rfl rfl ⟨by decide +kernel, rfl⟩ (z_letU fun u7 => ?_)
        refine z_aload_n (pc' := 104) (k := 0) (i := 0) 1 rfl rfl ⟨by decide +kernel, rfl⟩ ?_
        refine z_getR (pc' := 107) (rff_wayTo ca D) rfl (y := a 57) rfl ⟨by decide +kernel, rfl⟩ ?_
        refine z_iconst (pc' := 108) (n := 4) (v := 4) (by decide) ⟨by decide +kernel, rfl⟩ ?_
        refine z_iload_n (pc' := 109) (k := 2) (i := 2) 3 rfl rfl ⟨by decide +kernel, rfl⟩ ?_
        refine z_imul (pc' := 110) ⟨by decide +kernel, rfl⟩ ?_
        refine z_iload_n (pc' := 111) (k := 3) (i := 3) 4 rfl rfl ⟨by decide +kernel, rfl⟩ ?_
        refine z_iadd (pc' := 112) ⟨by decide +kernel, rfl⟩ ?_
        refine z_aload_n (pc' := 113) (k := 0) (i := 0) 1 rfl rfl ⟨by decide +kernel, rfl⟩ ?_
        refine z_getR (pc' := 116) (rff_wayTo ca D) rfl (y := a 57) rfl ⟨by decide +kernel, rfl⟩ ?_
        refine z_iload (pc' := 118) (i := 5) 0 rfl ⟨by decide +kernel, rfl⟩ ?_
        refine z_iald (pc' := 119) 57 rfl (zlt rfl) rfl rfl ⟨by decide +kernel, rfl⟩ ?_
        refine z_iast (pc' := 120) 57 rfl (zlt rfl) rfl rfl ⟨by decide +kernel, rfl⟩ (z_letU fun u8 => ?_)
        refine z_iincN (pc' := 123) (i := 3) (n := 1) (c := 1) 4 rfl (by decide) (by decide) rfl ⟨by decide +kernel, rfl⟩ fun v9 => ?_
        refine z_iincN (pc' := 126) (i := 4) (n := 1) (c := 1) 5 rfl (by decide) (by decide) rfl ⟨by decide +kernel, rfl⟩ fun v10 => ?_
        refine z_goto (tgt := 27) (off := -99) (by decide +kernel) rfl ?_
        refine z_lv [3, 4, 5, 1, 0] (lv' := [(0, .ref (a 0)), (1, .int x1), (2, .int x2), (3, .int v9), (4, .int v10)]) rfl ?_
        exact ih u8 x1 x2 v9 v10
      · refine z_aload_n (pc' := 57) (k := 0) (i := 0) 1 rfl rfl ⟨by decide +kernel, rfl⟩ ?_
        refine z_dup (pc' := 58) rfl ⟨by decide +kernel, rfl⟩ ?_
        refine z_getI (pc' := 61) (rff_broken ca D) rfl ⟨by decide +kernel, rfl⟩ ?_
        refine z_iconst (pc' := 62) (n := 1) (v := 1) (by decide) ⟨by decide +kernel, rfl⟩ ?_
        refine z_iadd (pc' := 63) ⟨by decide +kernel, rfl⟩ ?_
        refine z_putI (pc' := 66) (rff_broken ca D) rfl ⟨by decide +kernel, rfl⟩ (z_letU fun u11 => ?_)
        refine z_goto (tgt := 123) (off := 57) (by decide +kernel) rfl ?_
        refine z_iincN (pc' := 126) (i := 4) (n := 1) (c := 1) 5 rfl (by decide) (by decide) rfl ⟨by decide +kernel, rfl⟩ fun v12 => ?_
        refine z_goto (tgt := 27) (off := -99) (by decide +kernel) rfl ?_
        refine z_lv [2, 3, 4, 5, 0] (lv' := [(0, .ref (a 0)), (1, .int x1), (2, .int x2), (3, .int x3), (4, .int v12)]) rfl ?_
        exact ih u11 x1 x2 x3 v12
    · refine z_aload_n (pc' := 130) (k := 0) (i := 0) 0 rfl rfl ⟨by decide +kernel, rfl⟩ ?_
      refine z_getR (pc' := 133) (rff_entries ca D) rfl (y := a 54) rfl ⟨by decide +kernel, rfl⟩ ?_
      refine z_iload_n (pc' := 134) (k := 2) (i := 2) 2 rfl rfl ⟨by decide +kernel, rfl⟩ ?_
      refine z_iload_n (pc' := 135) (k := 3) (i := 3) 3 rfl rfl ⟨by decide +kernel, rfl⟩ ?_
      refine z_iast (pc' := 136) 54 rfl (zlt rfl) rfl rfl ⟨by decide +kernel, rfl⟩ (z_letU fun u13 => ?_)
      refine z_iincN (pc' := 139) (i := 2) (n := 1) (c := 1) 2 rfl (by decide) (by decide) rfl ⟨by decide +kernel, rfl⟩ fun v14 => ?_
      refine z_goto (tgt := 2) (off := -137) (by decide +kernel) rfl ?_
      refine z_lv [1, 2, 0] (lv' := [(0, .ref (a 0)), (1, .int x1), (2, .int v14)]) rfl ?_
      exact hk2 u13 x1 v14
set_option maxRecDepth 20000 in
set_option maxHeartbeats 4000000 in
theorem rf_breaks_L2_t {κ : zKx} {ca : Nat → ClassId} {D : va_G} {A : Nat → Prop} {c0 : Nat × Nat} {a g0 g : Nat → Nat} (n : Nat) : ∀ (m : Nat) (u : zMu) (x1 : Int32) (x2 : Int32), zJ κ (zRf ca D) prog_13_method_58_code 6 rf_C none zrv true 1 A c0 a g0 g u 2 [(0, .ref (a 0)), (1, .int x1), (2, .int x2)] [] (rf_breaks_L2 n m u x1 x2) := by
  intro m
  induction m with
  | zero => intro u x1 x2 r u' h; cases h
  | succ m ih =>
    intro u x1 x2
    unfold rf_breaks_L2
    refine z_iload_n (pc' := 3) (k := 2) (i := 2) 2 rfl rfl ⟨by decide +kernel, rfl⟩ ?_
    refine z_aload_n (pc' := 4) (k := 0) (i := 0) 0 rfl rfl ⟨by decide +kernel, rfl⟩ ?_
    refine z_getI (pc' := 7) (rff_sites ca D) rfl ⟨by decide +kernel, rfl⟩ ?_
    refine z_icmp_ge (pc' := 10) (tgt := 142) (off := 135) ⟨by decide +kernel, rfl⟩ rfl (fun h1 => ?_) (fun h1 => ?_)
    · refine z_aload_n (pc' := 11) (k := 0) (i := 0) 0 rfl rfl ⟨by decide +kernel, rfl⟩ ?_
      refine z_getR (pc' := 14) (rff_siteKind ca D) rfl (y := a 19) rfl ⟨by decide +kernel, rfl⟩ ?_
      refine z_iload_n (pc' := 15) (k := 2) (i := 2) 2 rfl rfl ⟨by decide +kernel, rfl⟩ ?_
      refine z_iald (pc' := 16) 19 rfl (zlt rfl) rfl rfl ⟨by decide +kernel, rfl⟩ ?_
      refine z_if_eq (pc' := 19) (tgt := 22) (off := 6) ⟨by decide +kernel, rfl⟩ rfl (fun h2 => ?_) (fun h2 => ?_)
      · refine z_iconst (pc' := 23) (n := 0) (v := 0) (by decide) ⟨by decide +kernel, rfl⟩ ?_
        refine z_istore_n (pc' := 24) (k := 3) (i := 3) rfl (by decide) rfl ⟨by decide +kernel, rfl⟩ ?_
        refine z_iconst (pc' := 25) (n := 0) (v := 0) (by decide) ⟨by decide +kernel, rfl⟩ ?_
        refine z_istore (pc' := 27) (i := 4) (by decide) rfl ⟨by decide +kernel, rfl⟩ ?_
        refine z_lv [2, 3, 4, 1, 0] (lv' := [(0, .ref (a 0)), (1, .int x1), (2, .int x2), (3, .int 0), (4, .int 0)]) rfl ?_
        exact rf_breaks_L27_t n (rf_breaks_L2 n m) (ih) n u x1 x2 0 0
      · refine z_goto (tgt := 136) (off := 117) (by decide +kernel) rfl ?_
        refine z_iincN (pc' := 139) (i := 2) (n := 1) (c := 1) 2 rfl (by decide) (by decide) rfl ⟨by decide +kernel, rfl⟩ fun v3 => ?_
        refine z_goto (tgt := 2) (off := -137) (by decide +kernel) rfl ?_
        refine z_lv [1, 2, 0] (lv' := [(0, .ref (a 0)), (1, .int x1), (2, .int v3)]) rfl ?_
        exact ih u x1 v3
    · exact z_vret (pc' := 143) ⟨by decide +kernel, rfl⟩
set_option maxRecDepth 20000 in
set_option maxHeartbeats 4000000 in
theorem rft_breaks {l : Launch} {ca : Nat → ClassId} {D : va_G} {a g : Nat → Nat} (n : Nat) (u : zMu) (x1 : Int32) : zMet l (zRf ca D) rfY_breaks (.code rfY_breaks prog_13_method_58_code 6 none) zrv true 1 a g [.ref (a 0), .int x1] u (rf_breaks n u x1) := by
  refine zMet.of rfl (Nat.le_of_ble_eq_true rfl) fun κ A hl => ?_
  subst hl
  unfold rf_breaks
  refine z_iconst (pc' := 1) (n := 0) (v := 0) (by decide) ⟨by decide +kernel, rfl⟩ ?_
  refine z_istore_n (pc' := 2) (k := 2) (i := 2) rfl (by decide) rfl ⟨by decide +kernel, rfl⟩ ?_
  refine z_lv [1, 2, 0] (lv' := [(0, .ref (a 0)), (1, .int x1), (2, .int 0)]) rfl ?_
  exact rf_breaks_L2_t n n u x1 0
set_option maxRecDepth 20000 in
set_option maxHeartbeats 4000000 in
theorem rf_puts_J80_t {κ : zKx} {ca : Nat → ClassId} {D : va_G} {A : Nat → Prop} {c0 : Nat × Nat} {a g0 g : Nat → Nat} (n : Nat) (u : zMu) (x3 : Int32) (x4 : Int32) : zJ κ (zRf ca D) prog_13_method_60_code 5 rf_C (some .int) zri true 3 A c0 a g0 g u 80 [(0, .ref (a 0)), (3, .int x3), (4, .int x4)] [] (rf_puts_J80 n u x3 x4) := by
  unfold rf_puts_J80
  refine z_aload_n (pc' := 81) (k := 0) (i := 0) 0 rfl rfl ⟨by decide +kernel, rfl⟩ ?_
  refine z_getR (pc' := 84) (rff_mSort ca D) rfl (y := a 41) rfl ⟨by decide +kernel, rfl⟩ ?_
  refine z_iload (pc' := 86) (i := 4) 2 rfl ⟨by decide +kernel, rfl⟩ ?_
  refine z_aload_n (pc' := 87) (k := 0) (i := 0) 0 rfl rfl ⟨by decide +kernel, rfl⟩ ?_
  refine z_getR (pc' := 90) (rff_vSort ca D) rfl (y := a 27) rfl ⟨by decide +kernel, rfl⟩ ?_
  refine z_aload_n (pc' := 91) (k := 0) (i := 0) 0 rfl rfl ⟨by decide +kernel, rfl⟩ ?_
  refine z_getI (pc' := 94) (rff_top ca D) rfl ⟨by decide +kernel, rfl⟩ ?_
  refine z_iconst (pc' := 95) (n := 1) (v := 1) (by decide) ⟨by decide +kernel, rfl⟩ ?_
  refine z_iadd (pc' := 96) ⟨by decide +kernel, rfl⟩ ?_
  refine z_iald (pc' := 97) 27 rfl (zlt rfl) rfl rfl ⟨by decide +kernel, rfl⟩ ?_
  refine z_iast (pc' := 98) 41 rfl (zlt rfl) rfl rfl ⟨by decide +kernel, rfl⟩ (z_letU fun u1 => ?_)
  refine z_aload_n (pc' := 99) (k := 0) (i := 0) 0 rfl rfl ⟨by decide +kernel, rfl⟩ ?_
  refine z_getR (pc' := 102) (rff_mNum ca D) rfl (y := a 43) rfl ⟨by decide +kernel, rfl⟩ ?_
  refine z_iload (pc' := 104) (i := 4) 2 rfl ⟨by decide +kernel, rfl⟩ ?_
  refine z_aload_n (pc' := 105) (k := 0) (i := 0) 0 rfl rfl ⟨by decide +kernel, rfl⟩ ?_
  refine z_getR (pc' := 108) (rff_vNum ca D) rfl (y := a 31) rfl ⟨by decide +kernel, rfl⟩ ?_
  refine z_aload_n (pc' := 109) (k := 0) (i := 0) 0 rfl rfl ⟨by decide +kernel, rfl⟩ ?_
  refine z_getI (pc' := 112) (rff_top ca D) rfl ⟨by decide +kernel, rfl⟩ ?_
  refine z_iconst (pc' := 113) (n := 1) (v := 1) (by decide) ⟨by decide +kernel, rfl⟩ ?_
  refine z_iadd (pc' := 114) ⟨by decide +kernel, rfl⟩ ?_
  refine z_lald (pc' := 115) 31 rfl (zlt rfl) rfl rfl ⟨by decide +kernel, rfl⟩ ?_
  refine z_last (pc' := 116) 43 rfl (zlt rfl) rfl rfl ⟨by decide +kernel, rfl⟩ (z_letU fun u2 => ?_)
  refine z_aload_n (pc' := 117) (k := 0) (i := 0) 0 rfl rfl ⟨by decide +kernel, rfl⟩ ?_
  refine z_iload_n (pc' := 118) (k := 3) (i := 3) 1 rfl rfl ⟨by decide +kernel, rfl⟩ ?_
  refine z_callVf (pc' := 121) 0 (rft_breaks n u2 x3) (rfG_breaks ca D) (rfO ca D) rfl (by omega) rfl rfl (Nat.le_of_ble_eq_true rfl) ⟨by decide +kernel, rfl⟩ (fun _ u4 => ?_)
  refine z_iconst (pc' := 122) (n := (-1)) (v := (-1)) (by decide) ⟨by decide +kernel, rfl⟩ ?_
  exact z_iret (pc' := 123) ⟨by decide +kernel, rfl⟩
set_option maxRecDepth 20000 in
set_option maxHeartbeats 4000000 in
theorem rft_puts {l : Launch} {ca : Nat → ClassId} {D : va_G} {a g : Nat → Nat} (n : Nat) (u : zMu) (x1 : Int32) (x2 : Int32) : zMet l (zRf ca D) rfY_puts (.code rfY_puts prog_13_method_60_code 5 (some .int)) zri true 3 a g [.ref (a 0), .int x1, .int x2] u (rf_puts n u x1 x2) := by
  refine zMet.of rfl (Nat.le_of_ble_eq_true rfl) fun κ A hl => ?_
  subst hl
  unfold rf_puts
  refine z_aload_n (pc' := 1) (k := 0) (i := 0) 0 rfl rfl ⟨by decide +kernel, rfl⟩ ?_
  refine z_dup (pc' := 2) rfl ⟨by decide +kernel, rfl⟩ ?_
  refine z_getI (pc' := 5) (rff_top ca D) rfl ⟨by decide +kernel, rfl⟩ ?_
  refine z_iconst (pc' := 6) (n := 2) (v := 2) (by decide) ⟨by decide +kernel, rfl⟩ ?_
  refine z_isub (pc' := 7) ⟨by decide +kernel, rfl⟩ ?_
  refine z_putI (pc' := 10) (rff_top ca D) rfl ⟨by decide +kernel, rfl⟩ (z_letU fun u1 => ?_)
  refine z_aload_n (pc' := 11) (k := 0) (i := 0) 0 rfl rfl ⟨by decide +kernel, rfl⟩ ?_
  refine z_getR (pc' := 14) (rff_vSort ca D) rfl (y := a 27) rfl ⟨by decide +kernel, rfl⟩ ?_
  refine z_aload_n (pc' := 15) (k := 0) (i := 0) 0 rfl rfl ⟨by decide +kernel, rfl⟩ ?_
  refine z_getI (pc' := 18) (rff_top ca D) rfl ⟨by decide +kernel, rfl⟩ ?_
  refine z_iald (pc' := 19) 27 rfl (zlt rfl) rfl rfl ⟨by decide +kernel, rfl⟩ ?_
  refine z_iconst (pc' := 20) (n := 2) (v := 2) (by decide) ⟨by decide +kernel, rfl⟩ ?_
  refine z_icmp_eq (pc' := 23) (tgt := 30) (off := 10) ⟨by decide +kernel, rfl⟩ rfl (fun h2 => ?_) (fun h2 => ?_)
  · refine z_aload_n (pc' := 31) (k := 0) (i := 0) 0 rfl rfl ⟨by decide +kernel, rfl⟩ ?_
    refine z_getR (pc' := 34) (rff_vNum ca D) rfl (y := a 31) rfl ⟨by decide +kernel, rfl⟩ ?_
    refine z_aload_n (pc' := 35) (k := 0) (i := 0) 0 rfl rfl ⟨by decide +kernel, rfl⟩ ?_
    refine z_getI (pc' := 38) (rff_top ca D) rfl ⟨by decide +kernel, rfl⟩ ?_
    refine z_lald (pc' := 39) 31 rfl (zlt rfl) rfl rfl ⟨by decide +kernel, rfl⟩ ?_
    refine z_l2i (pc' := 40) ⟨by decide +kernel, rfl⟩ ?_
    refine z_letI fun v3 => ?_
    refine z_istore_n (pc' := 41) (k := 3) (i := 3) rfl (by decide) rfl ⟨by decide +kernel, rfl⟩ ?_
    refine z_aload_n (pc' := 42) (k := 0) (i := 0) 1 rfl rfl ⟨by decide +kernel, rfl⟩ ?_
    refine z_iload_n (pc' := 43) (k := 1) (i := 1) 2 rfl rfl ⟨by decide +kernel, rfl⟩ ?_
    refine z_iload_n (pc' := 44) (k := 3) (i := 3) 0 rfl rfl ⟨by decide +kernel, rfl⟩ ?_
    refine z_callVf (pc' := 47) 0 (rft_meets n u1 x1 v3) (rfG_meets ca D) (rfO ca D) rfl (by omega) rfl rfl (Nat.le_of_ble_eq_true rfl) ⟨by decide +kernel, rfl⟩ (fun r4 u5 => ?_)
    refine z_pop (pc' := 48) rfl ⟨by decide +kernel, rfl⟩ ?_
    refine z_aload_n (pc' := 49) (k := 0) (i := 0) 1 rfl rfl ⟨by decide +kernel, rfl⟩ ?_
    refine z_iload_n (pc' := 50) (k := 3) (i := 3) 0 rfl rfl ⟨by decide +kernel, rfl⟩ ?_
    refine z_aload_n (pc' := 51) (k := 0) (i := 0) 1 rfl rfl ⟨by decide +kernel, rfl⟩ ?_
    refine z_getR (pc' := 54) (rff_siteName ca D) rfl (y := a 22) rfl ⟨by decide +kernel, rfl⟩ ?_
    refine z_iload_n (pc' := 55) (k := 1) (i := 1) 2 rfl rfl ⟨by decide +kernel, rfl⟩ ?_
    refine z_iald (pc' := 56) 22 rfl (zlt rfl) rfl rfl ⟨by decide +kernel, rfl⟩ ?_
    refine z_callVf (pc' := 59) 0 (rft_memberOf n u5 v3 (zI u5 22 (zx x1))) (rfG_memberOf ca D) (rfO ca D) rfl (by omega) rfl rfl (Nat.le_of_ble_eq_true rfl) ⟨by decide +kernel, rfl⟩ (fun r6 u7 => ?_)
    refine z_istore (pc' := 61) (i := 4) (by decide) rfl ⟨by decide +kernel, rfl⟩ ?_
    refine z_iload (pc' := 63) (i := 4) 0 rfl ⟨by decide +kernel, rfl⟩ ?_
    refine z_iconst (pc' := 64) (n := (-1)) (v := (-1)) (by decide) ⟨by decide +kernel, rfl⟩ ?_
    refine z_icmp_ne (pc' := 67) (tgt := 80) (off := 16) ⟨by decide +kernel, rfl⟩ rfl (fun h8 => ?_) (fun h8 => ?_)
    · refine z_aload_n (pc' := 68) (k := 0) (i := 0) 2 rfl rfl ⟨by decide +kernel, rfl⟩ ?_
      refine z_iload_n (pc' := 69) (k := 3) (i := 3) 1 rfl rfl ⟨by decide +kernel, rfl⟩ ?_
      refine z_aload_n (pc' := 70) (k := 0) (i := 0) 2 rfl rfl ⟨by decide +kernel, rfl⟩ ?_
      refine z_getR (pc' := 73) (rff_siteName ca D) rfl (y := a 22) rfl ⟨by decide +kernel, rfl⟩ ?_
      refine z_iload_n (pc' := 74) (k := 1) (i := 1) 3 rfl rfl ⟨by decide +kernel, rfl⟩ ?_
      refine z_iald (pc' := 75) 22 rfl (zlt rfl) rfl rfl ⟨by decide +kernel, rfl⟩ ?_
      refine z_callVf (pc' := 78) 0 (rft_grows n u7 v3 (zI u7 22 (zx x1))) (rfG_grows ca D) (rfO ca D) rfl (by omega) rfl rfl (Nat.le_of_ble_eq_true rfl) ⟨by decide +kernel, rfl⟩ (fun r9 u10 => ?_)
      refine z_istore (pc' := 80) (i := 4) (by decide) rfl ⟨by decide +kernel, rfl⟩ ?_
      refine z_lv [2, 1, 0] (lv' := [(0, .ref (a 0)), (3, .int v3), (4, .int r9)]) rfl ?_
      exact rf_puts_J80_t n u10 v3 r9
    · refine z_lv [2, 1, 0] (lv' := [(0, .ref (a 0)), (3, .int v3), (4, .int r6)]) rfl ?_
      exact rf_puts_J80_t n u7 v3 r6
  · refine z_aload_n (pc' := 24) (k := 0) (i := 0) 0 rfl rfl ⟨by decide +kernel, rfl⟩ ?_
    refine z_iconst (pc' := 25) (n := 2) (v := 2) (by decide) ⟨by decide +kernel, rfl⟩ ?_
    refine z_iload_n (pc' := 26) (k := 2) (i := 2) 2 rfl rfl ⟨by decide +kernel, rfl⟩ ?_
    refine z_callVf (pc' := 29) 0 (rft_fails n u1 2 x2) (rfG_fails ca D) (rfO ca D) rfl (by omega) rfl rfl (Nat.le_of_ble_eq_true rfl) ⟨by decide +kernel, rfl⟩ (fun r11 u12 => ?_)
    exact z_iret (pc' := 30) ⟨by decide +kernel, rfl⟩
