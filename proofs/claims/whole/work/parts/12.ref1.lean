/-! the reference's methods meet their models (printed by wip/gen/ref.py) -/
set_option maxRecDepth 20000 in
set_option maxHeartbeats 4000000 in
theorem rf_feed_L32_t {κ : zKx} {ca : Nat → ClassId} {D : va_G} {A : Nat → Prop} {c0 : Nat × Nat} {a g0 g : Nat → Nat} (n : Nat) : ∀ (m : Nat) (u : zMu) (x1 : Int32) (x2 : Int64) (x4 : Int32), zJ κ (zRf ca D) prog_13_method_2_code 5 rf_C (some .int) zri true 0 A c0 a g0 g u 32 [(0, .ref (a 0)), (1, .int x1), (2, .long x2), (4, .int x4)] [] (rf_feed_L32 n m u x1 x2 x4) := by
  intro m
  induction m with
  | zero => intro u x1 x2 x4 r u' h; cases h
  | succ m ih =>
    intro u x1 x2 x4
    unfold rf_feed_L32
    refine z_iload (pc' := 34) (i := 4) 3 rfl ⟨by decide +kernel, rfl⟩ ?_
    refine z_iload_n (pc' := 35) (k := 1) (i := 1) 1 rfl rfl ⟨by decide +kernel, rfl⟩ ?_
    refine z_icmp_ge (pc' := 38) (tgt := 72) (off := 37) ⟨by decide +kernel, rfl⟩ rfl (fun h1 => ?_) (fun h1 => ?_)
    · refine z_aload_n (pc' := 39) (k := 0) (i := 0) 0 rfl rfl ⟨by decide +kernel, rfl⟩ ?_
      refine z_getR (pc' := 42) (rff_tape ca D) rfl (y := a 1) rfl ⟨by decide +kernel, rfl⟩ ?_
      refine z_aload_n (pc' := 43) (k := 0) (i := 0) 0 rfl rfl ⟨by decide +kernel, rfl⟩ ?_
      refine z_dup (pc' := 44) rfl ⟨by decide +kernel, rfl⟩ ?_
      refine z_getI (pc' := 47) (rff_taped ca D) rfl ⟨by decide +kernel, rfl⟩ ?_
      refine z_letI fun v2 => ?_
      refine z_dup_x1 (pc' := 48) rfl rfl ⟨by decide +kernel, rfl⟩ ?_
      refine z_iconst (pc' := 49) (n := 1) (v := 1) (by decide) ⟨by decide +kernel, rfl⟩ ?_
      refine z_iadd (pc' := 50) ⟨by decide +kernel, rfl⟩ ?_
      refine z_putI (pc' := 53) (rff_taped ca D) rfl ⟨by decide +kernel, rfl⟩ (z_letU fun u3 => ?_)
      refine z_lload_n (pc' := 54) (k := 2) (i := 2) 2 rfl rfl ⟨by decide +kernel, rfl⟩ ?_
      refine z_bipush (pc' := 56) (n := 8) (v := 8) (by decide) ⟨by decide +kernel, rfl⟩ ?_
      refine z_iload (pc' := 58) (i := 4) 3 rfl ⟨by decide +kernel, rfl⟩ ?_
      refine z_imul (pc' := 59) ⟨by decide +kernel, rfl⟩ ?_
      refine z_lshr (pc' := 60) ⟨by decide +kernel, rfl⟩ ?_
      refine z_ldc2 (pc' := 63) (v := 255) (rf_w 0 rfl) ⟨by decide +kernel, rfl⟩ ?_
      refine z_land (pc' := 64) ⟨by decide +kernel, rfl⟩ ?_
      refine z_l2i (pc' := 65) ⟨by decide +kernel, rfl⟩ ?_
      refine z_iast (pc' := 66) 1 rfl (zlt rfl) rfl rfl ⟨by decide +kernel, rfl⟩ (z_letU fun u4 => ?_)
      refine z_iincN (pc' := 69) (i := 4) (n := 1) (c := 1) 3 rfl (by decide) (by decide) rfl ⟨by decide +kernel, rfl⟩ fun v5 => ?_
      refine z_goto (tgt := 32) (off := -37) (by decide +kernel) rfl ?_
      refine z_lv [1, 2, 3, 0] (lv' := [(0, .ref (a 0)), (1, .int x1), (2, .long x2), (4, .int v5)]) rfl ?_
      exact ih u4 x1 x2 v5
    · refine z_aload_n (pc' := 73) (k := 0) (i := 0) 0 rfl rfl ⟨by decide +kernel, rfl⟩ ?_
      refine z_getI (pc' := 76) (rff_taped ca D) rfl ⟨by decide +kernel, rfl⟩ ?_
      exact z_iret (pc' := 77) ⟨by decide +kernel, rfl⟩
set_option maxRecDepth 20000 in
set_option maxHeartbeats 4000000 in
theorem rft_feed {l : Launch} {ca : Nat → ClassId} {D : va_G} {a g : Nat → Nat} (n : Nat) (u : zMu) (x1 : Int32) (x2 : Int64) : zMet l (zRf ca D) rfY_feed (.code rfY_feed prog_13_method_2_code 5 (some .int)) zri true 0 a g [.ref (a 0), .int x1, .long x2] u (rf_feed n u x1 x2) := by
  refine zMet.of rfl (Nat.le_of_ble_eq_true rfl) fun κ A hl => ?_
  subst hl
  unfold rf_feed
  refine z_iload_n (pc' := 1) (k := 1) (i := 1) 1 rfl rfl ⟨by decide +kernel, rfl⟩ ?_
  refine z_iconst (pc' := 2) (n := 1) (v := 1) (by decide) ⟨by decide +kernel, rfl⟩ ?_
  refine z_icmp_lt (pc' := 5) (tgt := 11) (off := 9) ⟨by decide +kernel, rfl⟩ rfl (fun h1 => ?_) (fun h1 => ?_)
  · refine z_bipush (pc' := 13) (n := (-2)) (v := (-2)) (by decide) ⟨by decide +kernel, rfl⟩ ?_
    exact z_iret (pc' := 14) ⟨by decide +kernel, rfl⟩
  · refine z_iload_n (pc' := 6) (k := 1) (i := 1) 1 rfl rfl ⟨by decide +kernel, rfl⟩ ?_
    refine z_bipush (pc' := 8) (n := 8) (v := 8) (by decide) ⟨by decide +kernel, rfl⟩ ?_
    refine z_icmp_le (pc' := 11) (tgt := 14) (off := 6) ⟨by decide +kernel, rfl⟩ rfl (fun h2 => ?_) (fun h2 => ?_)
    · refine z_bipush (pc' := 13) (n := (-2)) (v := (-2)) (by decide) ⟨by decide +kernel, rfl⟩ ?_
      exact z_iret (pc' := 14) ⟨by decide +kernel, rfl⟩
    · refine z_aload_n (pc' := 15) (k := 0) (i := 0) 0 rfl rfl ⟨by decide +kernel, rfl⟩ ?_
      refine z_getI (pc' := 18) (rff_taped ca D) rfl ⟨by decide +kernel, rfl⟩ ?_
      refine z_iload_n (pc' := 19) (k := 1) (i := 1) 1 rfl rfl ⟨by decide +kernel, rfl⟩ ?_
      refine z_iadd (pc' := 20) ⟨by decide +kernel, rfl⟩ ?_
      refine z_sipush (pc' := 23) (n := 1500) (v := 1500) (by decide) ⟨by decide +kernel, rfl⟩ ?_
      refine z_icmp_le (pc' := 26) (tgt := 29) (off := 6) ⟨by decide +kernel, rfl⟩ rfl (fun h3 => ?_) (fun h3 => ?_)
      · refine z_bipush (pc' := 28) (n := (-4)) (v := (-4)) (by decide) ⟨by decide +kernel, rfl⟩ ?_
        exact z_iret (pc' := 29) ⟨by decide +kernel, rfl⟩
      · refine z_iconst (pc' := 30) (n := 0) (v := 0) (by decide) ⟨by decide +kernel, rfl⟩ ?_
        refine z_istore (pc' := 32) (i := 4) (by decide) rfl ⟨by decide +kernel, rfl⟩ ?_
        refine z_lv [1, 2, 3, 0] (lv' := [(0, .ref (a 0)), (1, .int x1), (2, .long x2), (4, .int 0)]) rfl ?_
        exact rf_feed_L32_t n n u x1 x2 0
set_option maxRecDepth 20000 in
set_option maxHeartbeats 4000000 in
theorem rft_isLetter {l : Launch} {ca : Nat → ClassId} {D : va_G} {a g : Nat → Nat} (n : Nat) (u : zMu) (x0 : Int32) : zMet l (zRf ca D) rfY_isLetter (.code rfY_isLetter prog_13_method_3_code 1 (some .boolean)) zri true 0 a g [.int x0] u (rf_isLetter n u x0) := by
  refine zMet.of rfl (Nat.le_of_ble_eq_true rfl) fun κ A hl => ?_
  subst hl
  unfold rf_isLetter
  refine z_iload_n (pc' := 1) (k := 0) (i := 0) 0 rfl rfl ⟨by decide +kernel, rfl⟩ ?_
  refine z_bipush (pc' := 3) (n := 97) (v := 97) (by decide) ⟨by decide +kernel, rfl⟩ ?_
  refine z_icmp_lt (pc' := 6) (tgt := 16) (off := 13) ⟨by decide +kernel, rfl⟩ rfl (fun h1 => ?_) (fun h1 => ?_)
  · refine z_iconst (pc' := 17) (n := 0) (v := 0) (by decide) ⟨by decide +kernel, rfl⟩ ?_
    exact z_zret (pc' := 18) (by decide) ⟨by decide +kernel, rfl⟩
  · refine z_iload_n (pc' := 7) (k := 0) (i := 0) 0 rfl rfl ⟨by decide +kernel, rfl⟩ ?_
    refine z_bipush (pc' := 9) (n := 122) (v := 122) (by decide) ⟨by decide +kernel, rfl⟩ ?_
    refine z_icmp_gt (pc' := 12) (tgt := 16) (off := 7) ⟨by decide +kernel, rfl⟩ rfl (fun h2 => ?_) (fun h2 => ?_)
    · refine z_iconst (pc' := 17) (n := 0) (v := 0) (by decide) ⟨by decide +kernel, rfl⟩ ?_
      exact z_zret (pc' := 18) (by decide) ⟨by decide +kernel, rfl⟩
    · refine z_iconst (pc' := 13) (n := 1) (v := 1) (by decide) ⟨by decide +kernel, rfl⟩ ?_
      refine z_goto (tgt := 17) (off := 4) (by decide +kernel) rfl ?_
      exact z_zret (pc' := 18) (by decide) ⟨by decide +kernel, rfl⟩
set_option maxRecDepth 20000 in
set_option maxHeartbeats 4000000 in
theorem rft_isDigit {l : Launch} {ca : Nat → ClassId} {D : va_G} {a g : Nat → Nat} (n : Nat) (u : zMu) (x0 : Int32) : zMet l (zRf ca D) rfY_isDigit (.code rfY_isDigit prog_13_method_4_code 1 (some .boolean)) zri true 0 a g [.int x0] u (rf_isDigit n u x0) := by
  refine zMet.of rfl (Nat.le_of_ble_eq_true rfl) fun κ A hl => ?_
  subst hl
  unfold rf_isDigit
  refine z_iload_n (pc' := 1) (k := 0) (i := 0) 0 rfl rfl ⟨by decide +kernel, rfl⟩ ?_
  refine z_bipush (pc' := 3) (n := 48) (v := 48) (by decide) ⟨by decide +kernel, rfl⟩ ?_
  refine z_icmp_lt (pc' := 6) (tgt := 16) (off := 13) ⟨by decide +kernel, rfl⟩ rfl (fun h1 => ?_) (fun h1 => ?_)
  · refine z_iconst (pc' := 17) (n := 0) (v := 0) (by decide) ⟨by decide +kernel, rfl⟩ ?_
    exact z_zret (pc' := 18) (by decide) ⟨by decide +kernel, rfl⟩
  · refine z_iload_n (pc' := 7) (k := 0) (i := 0) 0 rfl rfl ⟨by decide +kernel, rfl⟩ ?_
    refine z_bipush (pc' := 9) (n := 57) (v := 57) (by decide) ⟨by decide +kernel, rfl⟩ ?_
    refine z_icmp_gt (pc' := 12) (tgt := 16) (off := 7) ⟨by decide +kernel, rfl⟩ rfl (fun h2 => ?_) (fun h2 => ?_)
    · refine z_iconst (pc' := 17) (n := 0) (v := 0) (by decide) ⟨by decide +kernel, rfl⟩ ?_
      exact z_zret (pc' := 18) (by decide) ⟨by decide +kernel, rfl⟩
    · refine z_iconst (pc' := 13) (n := 1) (v := 1) (by decide) ⟨by decide +kernel, rfl⟩ ?_
      refine z_goto (tgt := 17) (off := 4) (by decide +kernel) rfl ?_
      exact z_zret (pc' := 18) (by decide) ⟨by decide +kernel, rfl⟩
set_option maxRecDepth 20000 in
set_option maxHeartbeats 4000000 in
theorem rf_keyOf_L11_t {κ : zKx} {ca : Nat → ClassId} {D : va_G} {A : Nat → Prop} {c0 : Nat × Nat} {a g0 g : Nat → Nat} (n : Nat) : ∀ (m : Nat) (u : zMu) (x1 : Int32) (x2 : Int32) (x3 : Int32) (x4 : Int32) (x5 : Int32) (x6 : Int32), zJ κ (zRf ca D) prog_13_method_5_code 7 rf_C (some .int) zri true 0 A c0 a g0 g u 11 [(0, .ref (a 0)), (1, .int x1), (2, .int x2), (3, .int x3), (4, .int x4), (5, .int x5), (6, .int x6)] [] (rf_keyOf_L11 n m u x1 x2 x3 x4 x5 x6) := by
  intro m
  induction m with
  | zero => intro u x1 x2 x3 x4 x5 x6 r u' h; cases h
  | succ m ih =>
    intro u x1 x2 x3 x4 x5 x6
    unfold rf_keyOf_L11
    refine z_iload (pc' := 13) (i := 6) 6 rfl ⟨by decide +kernel, rfl⟩ ?_
    refine z_aload_n (pc' := 14) (k := 0) (i := 0) 0 rfl rfl ⟨by decide +kernel, rfl⟩ ?_
    refine z_getR (pc' := 17) (rff_keyLetters ca D) rfl (y := a 9) rfl ⟨by decide +kernel, rfl⟩ ?_
    refine z_alen (pc' := 18) (v := 56) 9 (t := 1) (p := 0) (n := 56) rfl rfl (by decide) (zlt rfl) rfl rfl (by decide) ⟨by decide +kernel, rfl⟩ ?_
    refine z_icmp_ge (pc' := 21) (tgt := 93) (off := 75) ⟨by decide +kernel, rfl⟩ rfl (fun h1 => ?_) (fun h1 => ?_)
    · refine z_aload_n (pc' := 22) (k := 0) (i := 0) 0 rfl rfl ⟨by decide +kernel, rfl⟩ ?_
      refine z_getR (pc' := 25) (rff_keyLetters ca D) rfl (y := a 9) rfl ⟨by decide +kernel, rfl⟩ ?_
      refine z_iload (pc' := 27) (i := 6) 6 rfl ⟨by decide +kernel, rfl⟩ ?_
      refine z_iald (pc' := 28) 9 rfl (zlt rfl) rfl rfl ⟨by decide +kernel, rfl⟩ ?_
      refine z_if_ne (pc' := 31) (tgt := 56) (off := 28) ⟨by decide +kernel, rfl⟩ rfl (fun h2 => ?_) (fun h2 => ?_)
      · refine z_iload (pc' := 33) (i := 5) 5 rfl ⟨by decide +kernel, rfl⟩ ?_
        refine z_if_eq (pc' := 36) (tgt := 44) (off := 11) ⟨by decide +kernel, rfl⟩ rfl (fun h3 => ?_) (fun h3 => ?_)
        · refine z_iincN (pc' := 47) (i := 3) (n := 1) (c := 1) 3 rfl (by decide) (by decide) rfl ⟨by decide +kernel, rfl⟩ fun v4 => ?_
          refine z_iconst (pc' := 48) (n := 0) (v := 0) (by decide) ⟨by decide +kernel, rfl⟩ ?_
          refine z_istore (pc' := 50) (i := 4) (by decide) rfl ⟨by decide +kernel, rfl⟩ ?_
          refine z_iconst (pc' := 51) (n := 1) (v := 1) (by decide) ⟨by decide +kernel, rfl⟩ ?_
          refine z_istore (pc' := 53) (i := 5) (by decide) rfl ⟨by decide +kernel, rfl⟩ ?_
          refine z_goto (tgt := 87) (off := 34) (by decide +kernel) rfl ?_
          refine z_iincN (pc' := 90) (i := 6) (n := 1) (c := 1) 6 rfl (by decide) (by decide) rfl ⟨by decide +kernel, rfl⟩ fun v5 => ?_
          refine z_goto (tgt := 11) (off := -79) (by decide +kernel) rfl ?_
          refine z_lv [4, 5, 6, 3, 2, 1, 0] (lv' := [(0, .ref (a 0)), (1, .int x1), (2, .int x2), (3, .int v4), (4, .int 0), (5, .int 1), (6, .int v5)]) rfl ?_
          exact ih u x1 x2 v4 0 1 v5
        · refine z_iload (pc' := 38) (i := 4) 4 rfl ⟨by decide +kernel, rfl⟩ ?_
          refine z_iload_n (pc' := 39) (k := 2) (i := 2) 2 rfl rfl ⟨by decide +kernel, rfl⟩ ?_
          refine z_icmp_ne (pc' := 42) (tgt := 44) (off := 5) ⟨by decide +kernel, rfl⟩ rfl (fun h6 => ?_) (fun h6 => ?_)
          · refine z_iload_n (pc' := 43) (k := 3) (i := 3) 3 rfl rfl ⟨by decide +kernel, rfl⟩ ?_
            exact z_iret (pc' := 44) ⟨by decide +kernel, rfl⟩
          · refine z_iincN (pc' := 47) (i := 3) (n := 1) (c := 1) 3 rfl (by decide) (by decide) rfl ⟨by decide +kernel, rfl⟩ fun v7 => ?_
            refine z_iconst (pc' := 48) (n := 0) (v := 0) (by decide) ⟨by decide +kernel, rfl⟩ ?_
            refine z_istore (pc' := 50) (i := 4) (by decide) rfl ⟨by decide +kernel, rfl⟩ ?_
            refine z_iconst (pc' := 51) (n := 1) (v := 1) (by decide) ⟨by decide +kernel, rfl⟩ ?_
            refine z_istore (pc' := 53) (i := 5) (by decide) rfl ⟨by decide +kernel, rfl⟩ ?_
            refine z_goto (tgt := 87) (off := 34) (by decide +kernel) rfl ?_
            refine z_iincN (pc' := 90) (i := 6) (n := 1) (c := 1) 6 rfl (by decide) (by decide) rfl ⟨by decide +kernel, rfl⟩ fun v8 => ?_
            refine z_goto (tgt := 11) (off := -79) (by decide +kernel) rfl ?_
            refine z_lv [4, 5, 6, 3, 2, 1, 0] (lv' := [(0, .ref (a 0)), (1, .int x1), (2, .int x2), (3, .int v7), (4, .int 0), (5, .int 1), (6, .int v8)]) rfl ?_
            exact ih u x1 x2 v7 0 1 v8
      · refine z_iload (pc' := 58) (i := 4) 4 rfl ⟨by decide +kernel, rfl⟩ ?_
        refine z_iload_n (pc' := 59) (k := 2) (i := 2) 2 rfl rfl ⟨by decide +kernel, rfl⟩ ?_
        refine z_icmp_ge (pc' := 62) (tgt := 81) (off := 22) ⟨by decide +kernel, rfl⟩ rfl (fun h9 => ?_) (fun h9 => ?_)
        · refine z_aload_n (pc' := 63) (k := 0) (i := 0) 0 rfl rfl ⟨by decide +kernel, rfl⟩ ?_
          refine z_getR (pc' := 66) (rff_text ca D) rfl (y := a 2) rfl ⟨by decide +kernel, rfl⟩ ?_
          refine z_iload_n (pc' := 67) (k := 1) (i := 1) 1 rfl rfl ⟨by decide +kernel, rfl⟩ ?_
          refine z_iload (pc' := 69) (i := 4) 4 rfl ⟨by decide +kernel, rfl⟩ ?_
          refine z_iadd (pc' := 70) ⟨by decide +kernel, rfl⟩ ?_
          refine z_iald (pc' := 71) 2 rfl (zlt rfl) rfl rfl ⟨by decide +kernel, rfl⟩ ?_
          refine z_aload_n (pc' := 72) (k := 0) (i := 0) 0 rfl rfl ⟨by decide +kernel, rfl⟩ ?_
          refine z_getR (pc' := 75) (rff_keyLetters ca D) rfl (y := a 9) rfl ⟨by decide +kernel, rfl⟩ ?_
          refine z_iload (pc' := 77) (i := 6) 6 rfl ⟨by decide +kernel, rfl⟩ ?_
          refine z_iald (pc' := 78) 9 rfl (zlt rfl) rfl rfl ⟨by decide +kernel, rfl⟩ ?_
          refine z_icmp_eq (pc' := 81) (tgt := 84) (off := 6) ⟨by decide +kernel, rfl⟩ rfl (fun h10 => ?_) (fun h10 => ?_)
          · refine z_iincN (pc' := 87) (i := 4) (n := 1) (c := 1) 4 rfl (by decide) (by decide) rfl ⟨by decide +kernel, rfl⟩ fun v11 => ?_
            refine z_iincN (pc' := 90) (i := 6) (n := 1) (c := 1) 6 rfl (by decide) (by decide) rfl ⟨by decide +kernel, rfl⟩ fun v12 => ?_
            refine z_goto (tgt := 11) (off := -79) (by decide +kernel) rfl ?_
            refine z_lv [2, 3, 4, 5, 1, 6, 0] (lv' := [(0, .ref (a 0)), (1, .int x1), (2, .int x2), (3, .int x3), (4, .int v11), (5, .int x5), (6, .int v12)]) rfl ?_
            exact ih u x1 x2 x3 v11 x5 v12
          · refine z_iconst (pc' := 82) (n := 0) (v := 0) (by decide) ⟨by decide +kernel, rfl⟩ ?_
            refine z_istore (pc' := 84) (i := 5) (by decide) rfl ⟨by decide +kernel, rfl⟩ ?_
            refine z_iincN (pc' := 87) (i := 4) (n := 1) (c := 1) 5 rfl (by decide) (by decide) rfl ⟨by decide +kernel, rfl⟩ fun v13 => ?_
            refine z_iincN (pc' := 90) (i := 6) (n := 1) (c := 1) 6 rfl (by decide) (by decide) rfl ⟨by decide +kernel, rfl⟩ fun v14 => ?_
            refine z_goto (tgt := 11) (off := -79) (by decide +kernel) rfl ?_
            refine z_lv [3, 4, 5, 6, 1, 2, 0] (lv' := [(0, .ref (a 0)), (1, .int x1), (2, .int x2), (3, .int x3), (4, .int v13), (5, .int 0), (6, .int v14)]) rfl ?_
            exact ih u x1 x2 x3 v13 0 v14
        · refine z_iconst (pc' := 82) (n := 0) (v := 0) (by decide) ⟨by decide +kernel, rfl⟩ ?_
          refine z_istore (pc' := 84) (i := 5) (by decide) rfl ⟨by decide +kernel, rfl⟩ ?_
          refine z_iincN (pc' := 87) (i := 4) (n := 1) (c := 1) 5 rfl (by decide) (by decide) rfl ⟨by decide +kernel, rfl⟩ fun v15 => ?_
          refine z_iincN (pc' := 90) (i := 6) (n := 1) (c := 1) 6 rfl (by decide) (by decide) rfl ⟨by decide +kernel, rfl⟩ fun v16 => ?_
          refine z_goto (tgt := 11) (off := -79) (by decide +kernel) rfl ?_
          refine z_lv [3, 4, 5, 6, 1, 2, 0] (lv' := [(0, .ref (a 0)), (1, .int x1), (2, .int x2), (3, .int x3), (4, .int v15), (5, .int 0), (6, .int v16)]) rfl ?_
          exact ih u x1 x2 x3 v15 0 v16
    · refine z_iconst (pc' := 94) (n := (-1)) (v := (-1)) (by decide) ⟨by decide +kernel, rfl⟩ ?_
      exact z_iret (pc' := 95) ⟨by decide +kernel, rfl⟩
set_option maxRecDepth 20000 in
set_option maxHeartbeats 4000000 in
theorem rft_keyOf {l : Launch} {ca : Nat → ClassId} {D : va_G} {a g : Nat → Nat} (n : Nat) (u : zMu) (x1 : Int32) (x2 : Int32) : zMet l (zRf ca D) rfY_keyOf (.code rfY_keyOf prog_13_method_5_code 7 (some .int)) zri true 0 a g [.ref (a 0), .int x1, .int x2] u (rf_keyOf n u x1 x2) := by
  refine zMet.of rfl (Nat.le_of_ble_eq_true rfl) fun κ A hl => ?_
  subst hl
  unfold rf_keyOf
  refine z_iconst (pc' := 1) (n := 0) (v := 0) (by decide) ⟨by decide +kernel, rfl⟩ ?_
  refine z_istore_n (pc' := 2) (k := 3) (i := 3) rfl (by decide) rfl ⟨by decide +kernel, rfl⟩ ?_
  refine z_iconst (pc' := 3) (n := 0) (v := 0) (by decide) ⟨by decide +kernel, rfl⟩ ?_
  refine z_istore (pc' := 5) (i := 4) (by decide) rfl ⟨by decide +kernel, rfl⟩ ?_
  refine z_iconst (pc' := 6) (n := 1) (v := 1) (by decide) ⟨by decide +kernel, rfl⟩ ?_
  refine z_istore (pc' := 8) (i := 5) (by decide) rfl ⟨by decide +kernel, rfl⟩ ?_
  refine z_iconst (pc' := 9) (n := 0) (v := 0) (by decide) ⟨by decide +kernel, rfl⟩ ?_
  refine z_istore (pc' := 11) (i := 6) (by decide) rfl ⟨by decide +kernel, rfl⟩ ?_
  refine z_lv [4, 5, 6, 3, 2, 1, 0] (lv' := [(0, .ref (a 0)), (1, .int x1), (2, .int x2), (3, .int 0), (4, .int 0), (5, .int 1), (6, .int 0)]) rfl ?_
  exact rf_keyOf_L11_t n n u x1 x2 0 0 1 0
set_option maxRecDepth 20000 in
set_option maxHeartbeats 4000000 in
theorem rf_nameOf_J80_t {κ : zKx} {ca : Nat → ClassId} {D : va_G} {A : Nat → Prop} {c0 : Nat × Nat} {a g0 g : Nat → Nat} (n : Nat) (k2 : zMu → Int32 → Int32 → Int32 → Option (Int32 × zMu)) (hk2 : ∀ (u : zMu) (x1 : Int32) (x2 : Int32) (x3 : Int32), zJ κ (zRf ca D) prog_13_method_6_code 6 rf_C (some .int) zri true 0 A c0 a g0 g u 2 [(0, .ref (a 0)), (1, .int x1), (2, .int x2), (3, .int x3)] [] (k2 u x1 x2 x3)) (u : zMu) (x1 : Int32) (x2 : Int32) (x3 : Int32) (x4 : Int32) : zJ κ (zRf ca D) prog_13_method_6_code 6 rf_C (some .int) zri true 0 A c0 a g0 g u 80 [(0, .ref (a 0)), (1, .int x1), (2, .int x2), (3, .int x3), (4, .int x4)] [] (rf_nameOf_J80 n k2 u x1 x2 x3 x4) := by
  unfold rf_nameOf_J80
  refine z_iload (pc' := 82) (i := 4) 4 rfl ⟨by decide +kernel, rfl⟩ ?_
  refine z_if_eq (pc' := 85) (tgt := 87) (off := 5) ⟨by decide +kernel, rfl⟩ rfl (fun h1 => ?_) (fun h1 => ?_)
  · refine z_iincN (pc' := 90) (i := 3) (n := 1) (c := 1) 3 rfl (by decide) (by decide) rfl ⟨by decide +kernel, rfl⟩ fun v2 => ?_
    refine z_goto (tgt := 2) (off := -88) (by decide +kernel) rfl ?_
    refine z_lv [1, 2, 3, 0] (lv' := [(0, .ref (a 0)), (1, .int x1), (2, .int x2), (3, .int v2)]) rfl ?_
    exact hk2 u x1 x2 v2
  · refine z_iload_n (pc' := 86) (k := 3) (i := 3) 3 rfl rfl ⟨by decide +kernel, rfl⟩ ?_
    exact z_iret (pc' := 87) ⟨by decide +kernel, rfl⟩
set_option maxRecDepth 20000 in
set_option maxHeartbeats 4000000 in
theorem rf_nameOf_L30_t {κ : zKx} {ca : Nat → ClassId} {D : va_G} {A : Nat → Prop} {c0 : Nat × Nat} {a g0 g : Nat → Nat} (n : Nat) (k2 : zMu → Int32 → Int32 → Int32 → Option (Int32 × zMu)) (hk2 : ∀ (u : zMu) (x1 : Int32) (x2 : Int32) (x3 : Int32), zJ κ (zRf ca D) prog_13_method_6_code 6 rf_C (some .int) zri true 0 A c0 a g0 g u 2 [(0, .ref (a 0)), (1, .int x1), (2, .int x2), (3, .int x3)] [] (k2 u x1 x2 x3)) : ∀ (m : Nat) (u : zMu) (x1 : Int32) (x2 : Int32) (x3 : Int32) (x4 : Int32) (x5 : Int32), zJ κ (zRf ca D) prog_13_method_6_code 6 rf_C (some .int) zri true 0 A c0 a g0 g u 30 [(0, .ref (a 0)), (1, .int x1), (2, .int x2), (3, .int x3), (4, .int x4), (5, .int x5)] [] (rf_nameOf_L30 n k2 m u x1 x2 x3 x4 x5) := by
  intro m
  induction m with
  | zero => intro u x1 x2 x3 x4 x5 r u' h; cases h
  | succ m ih =>
    intro u x1 x2 x3 x4 x5
    unfold rf_nameOf_L30
    refine z_iload (pc' := 32) (i := 5) 5 rfl ⟨by decide +kernel, rfl⟩ ?_
    refine z_iload_n (pc' := 33) (k := 2) (i := 2) 2 rfl rfl ⟨by decide +kernel, rfl⟩ ?_
    refine z_icmp_ge (pc' := 36) (tgt := 80) (off := 47) ⟨by decide +kernel, rfl⟩ rfl (fun h1 => ?_) (fun h1 => ?_)
    · refine z_iload (pc' := 38) (i := 4) 4 rfl ⟨by decide +kernel, rfl⟩ ?_
      refine z_if_eq (pc' := 41) (tgt := 80) (off := 42) ⟨by decide +kernel, rfl⟩ rfl (fun h2 => ?_) (fun h2 => ?_)
      · refine z_lv [0, 1, 2, 3, 4] (lv' := [(0, .ref (a 0)), (1, .int x1), (2, .int x2), (3, .int x3), (4, .int x4)]) rfl ?_
        exact rf_nameOf_J80_t n (k2) (hk2) u x1 x2 x3 x4
      · refine z_aload_n (pc' := 42) (k := 0) (i := 0) 0 rfl rfl ⟨by decide +kernel, rfl⟩ ?_
        refine z_getR (pc' := 45) (rff_text ca D) rfl (y := a 2) rfl ⟨by decide +kernel, rfl⟩ ?_
        refine z_aload_n (pc' := 46) (k := 0) (i := 0) 0 rfl rfl ⟨by decide +kernel, rfl⟩ ?_
        refine z_getR (pc' := 49) (rff_nBegin ca D) rfl (y := a 7) rfl ⟨by decide +kernel, rfl⟩ ?_
        refine z_iload_n (pc' := 50) (k := 3) (i := 3) 3 rfl rfl ⟨by decide +kernel, rfl⟩ ?_
        refine z_iald (pc' := 51) 7 rfl (zlt rfl) rfl rfl ⟨by decide +kernel, rfl⟩ ?_
        refine z_iload (pc' := 53) (i := 5) 5 rfl ⟨by decide +kernel, rfl⟩ ?_
        refine z_iadd (pc' := 54) ⟨by decide +kernel, rfl⟩ ?_
        refine z_iald (pc' := 55) 2 rfl (zlt rfl) rfl rfl ⟨by decide +kernel, rfl⟩ ?_
        refine z_aload_n (pc' := 56) (k := 0) (i := 0) 0 rfl rfl ⟨by decide +kernel, rfl⟩ ?_
        refine z_getR (pc' := 59) (rff_text ca D) rfl (y := a 2) rfl ⟨by decide +kernel, rfl⟩ ?_
        refine z_iload_n (pc' := 60) (k := 1) (i := 1) 1 rfl rfl ⟨by decide +kernel, rfl⟩ ?_
        refine z_iload (pc' := 62) (i := 5) 5 rfl ⟨by decide +kernel, rfl⟩ ?_
        refine z_iadd (pc' := 63) ⟨by decide +kernel, rfl⟩ ?_
        refine z_iald (pc' := 64) 2 rfl (zlt rfl) rfl rfl ⟨by decide +kernel, rfl⟩ ?_
        refine z_icmp_ne (pc' := 67) (tgt := 71) (off := 7) ⟨by decide +kernel, rfl⟩ rfl (fun h3 => ?_) (fun h3 => ?_)
        · refine z_iconst (pc' := 68) (n := 1) (v := 1) (by decide) ⟨by decide +kernel, rfl⟩ ?_
          refine z_goto (tgt := 72) (off := 4) (by decide +kernel) rfl ?_
          refine z_istore (pc' := 74) (i := 4) (by decide) rfl ⟨by decide +kernel, rfl⟩ ?_
          refine z_iincN (pc' := 77) (i := 5) (n := 1) (c := 1) 5 rfl (by decide) (by decide) rfl ⟨by decide +kernel, rfl⟩ fun v4 => ?_
          refine z_goto (tgt := 30) (off := -47) (by decide +kernel) rfl ?_
          refine z_lv [2, 3, 4, 5, 1, 0] (lv' := [(0, .ref (a 0)), (1, .int x1), (2, .int x2), (3, .int x3), (4, .int 1), (5, .int v4)]) rfl ?_
          exact ih u x1 x2 x3 1 v4
        · refine z_iconst (pc' := 72) (n := 0) (v := 0) (by decide) ⟨by decide +kernel, rfl⟩ ?_
          refine z_istore (pc' := 74) (i := 4) (by decide) rfl ⟨by decide +kernel, rfl⟩ ?_
          refine z_iincN (pc' := 77) (i := 5) (n := 1) (c := 1) 5 rfl (by decide) (by decide) rfl ⟨by decide +kernel, rfl⟩ fun v5 => ?_
          refine z_goto (tgt := 30) (off := -47) (by decide +kernel) rfl ?_
          refine z_lv [2, 3, 4, 5, 1, 0] (lv' := [(0, .ref (a 0)), (1, .int x1), (2, .int x2), (3, .int x3), (4, .int 0), (5, .int v5)]) rfl ?_
          exact ih u x1 x2 x3 0 v5
    · refine z_lv [0, 1, 2, 3, 4] (lv' := [(0, .ref (a 0)), (1, .int x1), (2, .int x2), (3, .int x3), (4, .int x4)]) rfl ?_
      exact rf_nameOf_J80_t n (k2) (hk2) u x1 x2 x3 x4
set_option maxRecDepth 20000 in
set_option maxHeartbeats 4000000 in
theorem rf_nameOf_L2_t {κ : zKx} {ca : Nat → ClassId} {D : va_G} {A : Nat → Prop} {c0 : Nat × Nat} {a g0 g : Nat → Nat} (n : Nat) : ∀ (m : Nat) (u : zMu) (x1 : Int32) (x2 : Int32) (x3 : Int32), zJ κ (zRf ca D) prog_13_method_6_code 6 rf_C (some .int) zri true 0 A c0 a g0 g u 2 [(0, .ref (a 0)), (1, .int x1), (2, .int x2), (3, .int x3)] [] (rf_nameOf_L2 n m u x1 x2 x3) := by
  intro m
  induction m with
  | zero => intro u x1 x2 x3 r u' h; cases h
  | succ m ih =>
    intro u x1 x2 x3
    unfold rf_nameOf_L2
    refine z_iload_n (pc' := 3) (k := 3) (i := 3) 3 rfl rfl ⟨by decide +kernel, rfl⟩ ?_
    refine z_aload_n (pc' := 4) (k := 0) (i := 0) 0 rfl rfl ⟨by decide +kernel, rfl⟩ ?_
    refine z_getI (pc' := 7) (rff_names ca D) rfl ⟨by decide +kernel, rfl⟩ ?_
    refine z_icmp_ge (pc' := 10) (tgt := 93) (off := 86) ⟨by decide +kernel, rfl⟩ rfl (fun h1 => ?_) (fun h1 => ?_)
    · refine z_aload_n (pc' := 11) (k := 0) (i := 0) 0 rfl rfl ⟨by decide +kernel, rfl⟩ ?_
      refine z_getR (pc' := 14) (rff_nSize ca D) rfl (y := a 8) rfl ⟨by decide +kernel, rfl⟩ ?_
      refine z_iload_n (pc' := 15) (k := 3) (i := 3) 3 rfl rfl ⟨by decide +kernel, rfl⟩ ?_
      refine z_iald (pc' := 16) 8 rfl (zlt rfl) rfl rfl ⟨by decide +kernel, rfl⟩ ?_
      refine z_iload_n (pc' := 17) (k := 2) (i := 2) 2 rfl rfl ⟨by decide +kernel, rfl⟩ ?_
      refine z_icmp_ne (pc' := 20) (tgt := 24) (off := 7) ⟨by decide +kernel, rfl⟩ rfl (fun h2 => ?_) (fun h2 => ?_)
      · refine z_iconst (pc' := 21) (n := 1) (v := 1) (by decide) ⟨by decide +kernel, rfl⟩ ?_
        refine z_goto (tgt := 25) (off := 4) (by decide +kernel) rfl ?_
        refine z_istore (pc' := 27) (i := 4) (by decide) rfl ⟨by decide +kernel, rfl⟩ ?_
        refine z_iconst (pc' := 28) (n := 0) (v := 0) (by decide) ⟨by decide +kernel, rfl⟩ ?_
        refine z_istore (pc' := 30) (i := 5) (by decide) rfl ⟨by decide +kernel, rfl⟩ ?_
        refine z_lv [2, 3, 4, 5, 1, 0] (lv' := [(0, .ref (a 0)), (1, .int x1), (2, .int x2), (3, .int x3), (4, .int 1), (5, .int 0)]) rfl ?_
        exact rf_nameOf_L30_t n (rf_nameOf_L2 n m) (ih) n u x1 x2 x3 1 0
      · refine z_iconst (pc' := 25) (n := 0) (v := 0) (by decide) ⟨by decide +kernel, rfl⟩ ?_
        refine z_istore (pc' := 27) (i := 4) (by decide) rfl ⟨by decide +kernel, rfl⟩ ?_
        refine z_iconst (pc' := 28) (n := 0) (v := 0) (by decide) ⟨by decide +kernel, rfl⟩ ?_
        refine z_istore (pc' := 30) (i := 5) (by decide) rfl ⟨by decide +kernel, rfl⟩ ?_
        refine z_lv [2, 3, 4, 5, 1, 0] (lv' := [(0, .ref (a 0)), (1, .int x1), (2, .int x2), (3, .int x3), (4, .int 0), (5, .int 0)]) rfl ?_
        exact rf_nameOf_L30_t n (rf_nameOf_L2 n m) (ih) n u x1 x2 x3 0 0
    · refine z_aload_n (pc' := 94) (k := 0) (i := 0) 0 rfl rfl ⟨by decide +kernel, rfl⟩ ?_
      refine z_getR (pc' := 97) (rff_nBegin ca D) rfl (y := a 7) rfl ⟨by decide +kernel, rfl⟩ ?_
      refine z_aload_n (pc' := 98) (k := 0) (i := 0) 0 rfl rfl ⟨by decide +kernel, rfl⟩ ?_
      refine z_getI (pc' := 101) (rff_names ca D) rfl ⟨by decide +kernel, rfl⟩ ?_
      refine z_iload_n (pc' := 102) (k := 1) (i := 1) 1 rfl rfl ⟨by decide +kernel, rfl⟩ ?_
      refine z_iast (pc' := 103) 7 rfl (zlt rfl) rfl rfl ⟨by decide +kernel, rfl⟩ (z_letU fun u3 => ?_)
      refine z_aload_n (pc' := 104) (k := 0) (i := 0) 0 rfl rfl ⟨by decide +kernel, rfl⟩ ?_
      refine z_getR (pc' := 107) (rff_nSize ca D) rfl (y := a 8) rfl ⟨by decide +kernel, rfl⟩ ?_
      refine z_aload_n (pc' := 108) (k := 0) (i := 0) 0 rfl rfl ⟨by decide +kernel, rfl⟩ ?_
      refine z_getI (pc' := 111) (rff_names ca D) rfl ⟨by decide +kernel, rfl⟩ ?_
      refine z_iload_n (pc' := 112) (k := 2) (i := 2) 2 rfl rfl ⟨by decide +kernel, rfl⟩ ?_
      refine z_iast (pc' := 113) 8 rfl (zlt rfl) rfl rfl ⟨by decide +kernel, rfl⟩ (z_letU fun u4 => ?_)
      refine z_aload_n (pc' := 114) (k := 0) (i := 0) 0 rfl rfl ⟨by decide +kernel, rfl⟩ ?_
      refine z_dup (pc' := 115) rfl ⟨by decide +kernel, rfl⟩ ?_
      refine z_getI (pc' := 118) (rff_names ca D) rfl ⟨by decide +kernel, rfl⟩ ?_
      refine z_letI fun v5 => ?_
      refine z_dup_x1 (pc' := 119) rfl rfl ⟨by decide +kernel, rfl⟩ ?_
      refine z_iconst (pc' := 120) (n := 1) (v := 1) (by decide) ⟨by decide +kernel, rfl⟩ ?_
      refine z_iadd (pc' := 121) ⟨by decide +kernel, rfl⟩ ?_
      refine z_putI (pc' := 124) (rff_names ca D) rfl ⟨by decide +kernel, rfl⟩ (z_letU fun u6 => ?_)
      exact z_iret (pc' := 125) ⟨by decide +kernel, rfl⟩
set_option maxRecDepth 20000 in
set_option maxHeartbeats 4000000 in
theorem rft_nameOf {l : Launch} {ca : Nat → ClassId} {D : va_G} {a g : Nat → Nat} (n : Nat) (u : zMu) (x1 : Int32) (x2 : Int32) : zMet l (zRf ca D) rfY_nameOf (.code rfY_nameOf prog_13_method_6_code 6 (some .int)) zri true 0 a g [.ref (a 0), .int x1, .int x2] u (rf_nameOf n u x1 x2) := by
  refine zMet.of rfl (Nat.le_of_ble_eq_true rfl) fun κ A hl => ?_
  subst hl
  unfold rf_nameOf
  refine z_iconst (pc' := 1) (n := 0) (v := 0) (by decide) ⟨by decide +kernel, rfl⟩ ?_
  refine z_istore_n (pc' := 2) (k := 3) (i := 3) rfl (by decide) rfl ⟨by decide +kernel, rfl⟩ ?_
  refine z_lv [1, 2, 3, 0] (lv' := [(0, .ref (a 0)), (1, .int x1), (2, .int x2), (3, .int 0)]) rfl ?_
  exact rf_nameOf_L2_t n n u x1 x2 0
set_option maxRecDepth 20000 in
set_option maxHeartbeats 4000000 in
theorem rft_token {l : Launch} {ca : Nat → ClassId} {D : va_G} {a g : Nat → Nat} (n : Nat) (u : zMu) (x1 : Int32) (x2 : Int32) (x3 : Int32) : zMet l (zRf ca D) rfY_token (.code rfY_token prog_13_method_7_code 4 none) zrv true 0 a g [.ref (a 0), .int x1, .int x2, .int x3] u (rf_token n u x1 x2 x3) := by
  refine zMet.of rfl (Nat.le_of_ble_eq_true rfl) fun κ A hl => ?_
  subst hl
  unfold rf_token
  refine z_aload_n (pc' := 1) (k := 0) (i := 0) 0 rfl rfl ⟨by decide +kernel, rfl⟩ ?_
  refine z_getR (pc' := 4) (rff_tKind ca D) rfl (y := a 4) rfl ⟨by decide +kernel, rfl⟩ ?_
  refine z_aload_n (pc' := 5) (k := 0) (i := 0) 0 rfl rfl ⟨by decide +kernel, rfl⟩ ?_
  refine z_getI (pc' := 8) (rff_tokens ca D) rfl ⟨by decide +kernel, rfl⟩ ?_
  refine z_iload_n (pc' := 9) (k := 1) (i := 1) 1 rfl rfl ⟨by decide +kernel, rfl⟩ ?_
  refine z_iast (pc' := 10) 4 rfl (zlt rfl) rfl rfl ⟨by decide +kernel, rfl⟩ (z_letU fun u1 => ?_)
  refine z_aload_n (pc' := 11) (k := 0) (i := 0) 0 rfl rfl ⟨by decide +kernel, rfl⟩ ?_
  refine z_getR (pc' := 14) (rff_tPlace ca D) rfl (y := a 5) rfl ⟨by decide +kernel, rfl⟩ ?_
  refine z_aload_n (pc' := 15) (k := 0) (i := 0) 0 rfl rfl ⟨by decide +kernel, rfl⟩ ?_
  refine z_getI (pc' := 18) (rff_tokens ca D) rfl ⟨by decide +kernel, rfl⟩ ?_
  refine z_iload_n (pc' := 19) (k := 2) (i := 2) 2 rfl rfl ⟨by decide +kernel, rfl⟩ ?_
  refine z_iast (pc' := 20) 5 rfl (zlt rfl) rfl rfl ⟨by decide +kernel, rfl⟩ (z_letU fun u2 => ?_)
  refine z_aload_n (pc' := 21) (k := 0) (i := 0) 0 rfl rfl ⟨by decide +kernel, rfl⟩ ?_
  refine z_getR (pc' := 24) (rff_tWorth ca D) rfl (y := a 6) rfl ⟨by decide +kernel, rfl⟩ ?_
  refine z_aload_n (pc' := 25) (k := 0) (i := 0) 0 rfl rfl ⟨by decide +kernel, rfl⟩ ?_
  refine z_getI (pc' := 28) (rff_tokens ca D) rfl ⟨by decide +kernel, rfl⟩ ?_
  refine z_iload_n (pc' := 29) (k := 3) (i := 3) 3 rfl rfl ⟨by decide +kernel, rfl⟩ ?_
  refine z_iast (pc' := 30) 6 rfl (zlt rfl) rfl rfl ⟨by decide +kernel, rfl⟩ (z_letU fun u3 => ?_)
  refine z_aload_n (pc' := 31) (k := 0) (i := 0) 0 rfl rfl ⟨by decide +kernel, rfl⟩ ?_
  refine z_dup (pc' := 32) rfl ⟨by decide +kernel, rfl⟩ ?_
  refine z_getI (pc' := 35) (rff_tokens ca D) rfl ⟨by decide +kernel, rfl⟩ ?_
  refine z_iconst (pc' := 36) (n := 1) (v := 1) (by decide) ⟨by decide +kernel, rfl⟩ ?_
  refine z_iadd (pc' := 37) ⟨by decide +kernel, rfl⟩ ?_
  refine z_putI (pc' := 40) (rff_tokens ca D) rfl ⟨by decide +kernel, rfl⟩ (z_letU fun u4 => ?_)
  exact z_vret (pc' := 41) ⟨by decide +kernel, rfl⟩
set_option maxRecDepth 20000 in
set_option maxHeartbeats 4000000 in
theorem rf_word_J40_t {κ : zKx} {ca : Nat → ClassId} {D : va_G} {A : Nat → Prop} {c0 : Nat × Nat} {a g0 g : Nat → Nat} (n : Nat) (u : zMu) (x1 : Int32) (x2 : Int32) : zJ κ (zRf ca D) prog_13_method_8_code 4 rf_C (some .int) zri true 1 A c0 a g0 g u 40 [(0, .ref (a 0)), (1, .int x1), (2, .int x2)] [] (rf_word_J40 n u x1 x2) := by
  unfold rf_word_J40
  refine z_aload_n (pc' := 41) (k := 0) (i := 0) 0 rfl rfl ⟨by decide +kernel, rfl⟩ ?_
  refine z_iload_n (pc' := 42) (k := 1) (i := 1) 1 rfl rfl ⟨by decide +kernel, rfl⟩ ?_
  refine z_iload_n (pc' := 43) (k := 2) (i := 2) 2 rfl rfl ⟨by decide +kernel, rfl⟩ ?_
  refine z_iload_n (pc' := 44) (k := 1) (i := 1) 1 rfl rfl ⟨by decide +kernel, rfl⟩ ?_
  refine z_isub (pc' := 45) ⟨by decide +kernel, rfl⟩ ?_
  refine z_callVf (pc' := 48) 0 (rft_keyOf n u x1 (x2 - x1)) (rfG_keyOf ca D) (rfO ca D) rfl (by omega) rfl rfl (Nat.le_of_ble_eq_true rfl) ⟨by decide +kernel, rfl⟩ (fun r1 u2 => ?_)
  refine z_istore_n (pc' := 49) (k := 3) (i := 3) rfl (by decide) rfl ⟨by decide +kernel, rfl⟩ ?_
  refine z_iload_n (pc' := 50) (k := 2) (i := 2) 3 rfl rfl ⟨by decide +kernel, rfl⟩ ?_
  refine z_iload_n (pc' := 51) (k := 1) (i := 1) 2 rfl rfl ⟨by decide +kernel, rfl⟩ ?_
  refine z_isub (pc' := 52) ⟨by decide +kernel, rfl⟩ ?_
  refine z_bipush (pc' := 54) (n := 8) (v := 8) (by decide) ⟨by decide +kernel, rfl⟩ ?_
  refine z_icmp_le (pc' := 57) (tgt := 67) (off := 13) ⟨by decide +kernel, rfl⟩ rfl (fun h3 => ?_) (fun h3 => ?_)
  · refine z_aload_n (pc' := 58) (k := 0) (i := 0) 1 rfl rfl ⟨by decide +kernel, rfl⟩ ?_
    refine z_iconst (pc' := 59) (n := 3) (v := 3) (by decide) ⟨by decide +kernel, rfl⟩ ?_
    refine z_iload_n (pc' := 60) (k := 1) (i := 1) 2 rfl rfl ⟨by decide +kernel, rfl⟩ ?_
    refine z_iconst (pc' := 61) (n := 0) (v := 0) (by decide) ⟨by decide +kernel, rfl⟩ ?_
    refine z_callVf (pc' := 64) 0 (rft_token n u2 3 x1 0) (rfG_token ca D) (rfO ca D) rfl (by omega) rfl rfl (Nat.le_of_ble_eq_true rfl) ⟨by decide +kernel, rfl⟩ (fun _ u5 => ?_)
    refine z_goto (tgt := 100) (off := 36) (by decide +kernel) rfl ?_
    refine z_iload_n (pc' := 101) (k := 2) (i := 2) 3 rfl rfl ⟨by decide +kernel, rfl⟩ ?_
    exact z_iret (pc' := 102) ⟨by decide +kernel, rfl⟩
  · refine z_iload_n (pc' := 68) (k := 3) (i := 3) 0 rfl rfl ⟨by decide +kernel, rfl⟩ ?_
    refine z_iconst (pc' := 69) (n := (-1)) (v := (-1)) (by decide) ⟨by decide +kernel, rfl⟩ ?_
    refine z_icmp_eq (pc' := 72) (tgt := 86) (off := 17) ⟨by decide +kernel, rfl⟩ rfl (fun h6 => ?_) (fun h6 => ?_)
    · refine z_aload_n (pc' := 87) (k := 0) (i := 0) 1 rfl rfl ⟨by decide +kernel, rfl⟩ ?_
      refine z_iconst (pc' := 88) (n := 1) (v := 1) (by decide) ⟨by decide +kernel, rfl⟩ ?_
      refine z_iload_n (pc' := 89) (k := 1) (i := 1) 2 rfl rfl ⟨by decide +kernel, rfl⟩ ?_
      refine z_aload_n (pc' := 90) (k := 0) (i := 0) 1 rfl rfl ⟨by decide +kernel, rfl⟩ ?_
      refine z_iload_n (pc' := 91) (k := 1) (i := 1) 2 rfl rfl ⟨by decide +kernel, rfl⟩ ?_
      refine z_iload_n (pc' := 92) (k := 2) (i := 2) 3 rfl rfl ⟨by decide +kernel, rfl⟩ ?_
      refine z_iload_n (pc' := 93) (k := 1) (i := 1) 2 rfl rfl ⟨by decide +kernel, rfl⟩ ?_
      refine z_isub (pc' := 94) ⟨by decide +kernel, rfl⟩ ?_
      refine z_callVf (pc' := 97) 0 (rft_nameOf n u2 x1 (x2 - x1)) (rfG_nameOf ca D) (rfO ca D) rfl (by omega) rfl rfl (Nat.le_of_ble_eq_true rfl) ⟨by decide +kernel, rfl⟩ (fun r7 u8 => ?_)
      refine z_callVf (pc' := 100) 0 (rft_token n u8 1 x1 r7) (rfG_token ca D) (rfO ca D) rfl (by omega) rfl rfl (Nat.le_of_ble_eq_true rfl) ⟨by decide +kernel, rfl⟩ (fun _ u10 => ?_)
      refine z_iload_n (pc' := 101) (k := 2) (i := 2) 3 rfl rfl ⟨by decide +kernel, rfl⟩ ?_
      exact z_iret (pc' := 102) ⟨by decide +kernel, rfl⟩
    · refine z_aload_n (pc' := 73) (k := 0) (i := 0) 1 rfl rfl ⟨by decide +kernel, rfl⟩ ?_
      refine z_sipush (pc' := 76) (n := 200) (v := 200) (by decide) ⟨by decide +kernel, rfl⟩ ?_
      refine z_iload_n (pc' := 77) (k := 3) (i := 3) 0 rfl rfl ⟨by decide +kernel, rfl⟩ ?_
      refine z_iadd (pc' := 78) ⟨by decide +kernel, rfl⟩ ?_
      refine z_iload_n (pc' := 79) (k := 1) (i := 1) 2 rfl rfl ⟨by decide +kernel, rfl⟩ ?_
      refine z_iconst (pc' := 80) (n := 0) (v := 0) (by decide) ⟨by decide +kernel, rfl⟩ ?_
      refine z_callVf (pc' := 83) 0 (rft_token n u2 (200 + r1) x1 0) (rfG_token ca D) (rfO ca D) rfl (by omega) rfl rfl (Nat.le_of_ble_eq_true rfl) ⟨by decide +kernel, rfl⟩ (fun _ u12 => ?_)
      refine z_goto (tgt := 100) (off := 17) (by decide +kernel) rfl ?_
      refine z_iload_n (pc' := 101) (k := 2) (i := 2) 3 rfl rfl ⟨by decide +kernel, rfl⟩ ?_
      exact z_iret (pc' := 102) ⟨by decide +kernel, rfl⟩
set_option maxRecDepth 20000 in
set_option maxHeartbeats 4000000 in
theorem rf_word_L2_t {κ : zKx} {ca : Nat → ClassId} {D : va_G} {A : Nat → Prop} {c0 : Nat × Nat} {a g0 g : Nat → Nat} (n : Nat) : ∀ (m : Nat) (u : zMu) (x1 : Int32) (x2 : Int32), zJ κ (zRf ca D) prog_13_method_8_code 4 rf_C (some .int) zri true 1 A c0 a g0 g u 2 [(0, .ref (a 0)), (1, .int x1), (2, .int x2)] [] (rf_word_L2 n m u x1 x2) := by
  intro m
  induction m with
  | zero => intro u x1 x2 r u' h; cases h
  | succ m ih =>
    intro u x1 x2
    unfold rf_word_L2
    refine z_iload_n (pc' := 3) (k := 2) (i := 2) 2 rfl rfl ⟨by decide +kernel, rfl⟩ ?_
    refine z_aload_n (pc' := 4) (k := 0) (i := 0) 0 rfl rfl ⟨by decide +kernel, rfl⟩ ?_
    refine z_getI (pc' := 7) (rff_size ca D) rfl ⟨by decide +kernel, rfl⟩ ?_
    refine z_icmp_ge (pc' := 10) (tgt := 40) (off := 33) ⟨by decide +kernel, rfl⟩ rfl (fun h1 => ?_) (fun h1 => ?_)
    · refine z_aload_n (pc' := 11) (k := 0) (i := 0) 0 rfl rfl ⟨by decide +kernel, rfl⟩ ?_
      refine z_getR (pc' := 14) (rff_text ca D) rfl (y := a 2) rfl ⟨by decide +kernel, rfl⟩ ?_
      refine z_iload_n (pc' := 15) (k := 2) (i := 2) 2 rfl rfl ⟨by decide +kernel, rfl⟩ ?_
      refine z_iald (pc' := 16) 2 rfl (zlt rfl) rfl rfl ⟨by decide +kernel, rfl⟩ ?_
      refine z_callSf (pc' := 19) (rft_isLetter n u (zI u 2 (zx x2))) (rfG_isLetter ca D) (by omega) rfl rfl (Nat.le_of_ble_eq_true rfl) ⟨by decide +kernel, rfl⟩ (fun r2 u3 => ?_)
      refine z_if_ne (pc' := 22) (tgt := 34) (off := 15) ⟨by decide +kernel, rfl⟩ rfl (fun h4 => ?_) (fun h4 => ?_)
      · refine z_aload_n (pc' := 23) (k := 0) (i := 0) 0 rfl rfl ⟨by decide +kernel, rfl⟩ ?_
        refine z_getR (pc' := 26) (rff_text ca D) rfl (y := a 2) rfl ⟨by decide +kernel, rfl⟩ ?_
        refine z_iload_n (pc' := 27) (k := 2) (i := 2) 2 rfl rfl ⟨by decide +kernel, rfl⟩ ?_
        refine z_iald (pc' := 28) 2 rfl (zlt rfl) rfl rfl ⟨by decide +kernel, rfl⟩ ?_
        refine z_callSf (pc' := 31) (rft_isDigit n u3 (zI u3 2 (zx x2))) (rfG_isDigit ca D) (by omega) rfl rfl (Nat.le_of_ble_eq_true rfl) ⟨by decide +kernel, rfl⟩ (fun r5 u6 => ?_)
        refine z_if_eq (pc' := 34) (tgt := 40) (off := 9) ⟨by decide +kernel, rfl⟩ rfl (fun h7 => ?_) (fun h7 => ?_)
        · exact rf_word_J40_t n u6 x1 x2
        · refine z_iincN (pc' := 37) (i := 2) (n := 1) (c := 1) 2 rfl (by decide) (by decide) rfl ⟨by decide +kernel, rfl⟩ fun v8 => ?_
          refine z_goto (tgt := 2) (off := -35) (by decide +kernel) rfl ?_
          refine z_lv [1, 2, 0] (lv' := [(0, .ref (a 0)), (1, .int x1), (2, .int v8)]) rfl ?_
          exact ih u6 x1 v8
      · refine z_iincN (pc' := 37) (i := 2) (n := 1) (c := 1) 2 rfl (by decide) (by decide) rfl ⟨by decide +kernel, rfl⟩ fun v9 => ?_
        refine z_goto (tgt := 2) (off := -35) (by decide +kernel) rfl ?_
        refine z_lv [1, 2, 0] (lv' := [(0, .ref (a 0)), (1, .int x1), (2, .int v9)]) rfl ?_
        exact ih u3 x1 v9
    · exact rf_word_J40_t n u x1 x2
set_option maxRecDepth 20000 in
set_option maxHeartbeats 4000000 in
theorem rft_word {l : Launch} {ca : Nat → ClassId} {D : va_G} {a g : Nat → Nat} (n : Nat) (u : zMu) (x1 : Int32) : zMet l (zRf ca D) rfY_word (.code rfY_word prog_13_method_8_code 4 (some .int)) zri true 1 a g [.ref (a 0), .int x1] u (rf_word n u x1) := by
  refine zMet.of rfl (Nat.le_of_ble_eq_true rfl) fun κ A hl => ?_
  subst hl
  unfold rf_word
  refine z_iload_n (pc' := 1) (k := 1) (i := 1) 1 rfl rfl ⟨by decide +kernel, rfl⟩ ?_
  refine z_istore_n (pc' := 2) (k := 2) (i := 2) rfl (by decide) rfl ⟨by decide +kernel, rfl⟩ ?_
  refine z_lv [1, 2, 0] (lv' := [(0, .ref (a 0)), (1, .int x1), (2, .int x1)]) rfl ?_
  exact rf_word_L2_t n n u x1 x1
set_option maxRecDepth 20000 in
set_option maxHeartbeats 4000000 in
theorem rf_number_J56_t {κ : zKx} {ca : Nat → ClassId} {D : va_G} {A : Nat → Prop} {c0 : Nat × Nat} {a g0 g : Nat → Nat} (n : Nat) (u : zMu) (x1 : Int32) (x2 : Int32) (x3 : Int64) : zJ κ (zRf ca D) prog_13_method_9_code 5 rf_C (some .int) zri true 1 A c0 a g0 g u 56 [(0, .ref (a 0)), (1, .int x1), (2, .int x2), (3, .long x3)] [] (rf_number_J56 n u x1 x2 x3) := by
  unfold rf_number_J56
  refine z_iload_n (pc' := 57) (k := 2) (i := 2) 2 rfl rfl ⟨by decide +kernel, rfl⟩ ?_
  refine z_iload_n (pc' := 58) (k := 1) (i := 1) 1 rfl rfl ⟨by decide +kernel, rfl⟩ ?_
  refine z_isub (pc' := 59) ⟨by decide +kernel, rfl⟩ ?_
  refine z_bipush (pc' := 61) (n := 9) (v := 9) (by decide) ⟨by decide +kernel, rfl⟩ ?_
  refine z_icmp_gt (pc' := 64) (tgt := 72) (off := 11) ⟨by decide +kernel, rfl⟩ rfl (fun h1 => ?_) (fun h1 => ?_)
  · refine z_aload_n (pc' := 73) (k := 0) (i := 0) 0 rfl rfl ⟨by decide +kernel, rfl⟩ ?_
    refine z_iconst (pc' := 74) (n := 3) (v := 3) (by decide) ⟨by decide +kernel, rfl⟩ ?_
    refine z_iload_n (pc' := 75) (k := 1) (i := 1) 1 rfl rfl ⟨by decide +kernel, rfl⟩ ?_
    refine z_iconst (pc' := 76) (n := 0) (v := 0) (by decide) ⟨by decide +kernel, rfl⟩ ?_
    refine z_callVf (pc' := 79) 0 (rft_token n u 3 x1 0) (rfG_token ca D) (rfO ca D) rfl (by omega) rfl rfl (Nat.le_of_ble_eq_true rfl) ⟨by decide +kernel, rfl⟩ (fun _ u3 => ?_)
    refine z_goto (tgt := 90) (off := 11) (by decide +kernel) rfl ?_
    refine z_iload_n (pc' := 91) (k := 2) (i := 2) 2 rfl rfl ⟨by decide +kernel, rfl⟩ ?_
    exact z_iret (pc' := 92) ⟨by decide +kernel, rfl⟩
  · refine z_lload_n (pc' := 65) (k := 3) (i := 3) 3 rfl rfl ⟨by decide +kernel, rfl⟩ ?_
    refine z_ldc2 (pc' := 68) (v := 536870911) (rf_w 1 rfl) ⟨by decide +kernel, rfl⟩ ?_
    refine z_lcmp (pc' := 69) ⟨by decide +kernel, rfl⟩ ?_
    refine z_if_le (pc' := 72) (tgt := 82) (off := 13) ⟨by decide +kernel, rfl⟩ rfl (fun h4 => ?_) (fun h4 => ?_)
    · refine z_aload_n (pc' := 73) (k := 0) (i := 0) 0 rfl rfl ⟨by decide +kernel, rfl⟩ ?_
      refine z_iconst (pc' := 74) (n := 3) (v := 3) (by decide) ⟨by decide +kernel, rfl⟩ ?_
      refine z_iload_n (pc' := 75) (k := 1) (i := 1) 1 rfl rfl ⟨by decide +kernel, rfl⟩ ?_
      refine z_iconst (pc' := 76) (n := 0) (v := 0) (by decide) ⟨by decide +kernel, rfl⟩ ?_
      refine z_callVf (pc' := 79) 0 (rft_token n u 3 x1 0) (rfG_token ca D) (rfO ca D) rfl (by omega) rfl rfl (Nat.le_of_ble_eq_true rfl) ⟨by decide +kernel, rfl⟩ (fun _ u6 => ?_)
      refine z_goto (tgt := 90) (off := 11) (by decide +kernel) rfl ?_
      refine z_iload_n (pc' := 91) (k := 2) (i := 2) 2 rfl rfl ⟨by decide +kernel, rfl⟩ ?_
      exact z_iret (pc' := 92) ⟨by decide +kernel, rfl⟩
    · refine z_aload_n (pc' := 83) (k := 0) (i := 0) 0 rfl rfl ⟨by decide +kernel, rfl⟩ ?_
      refine z_iconst (pc' := 84) (n := 2) (v := 2) (by decide) ⟨by decide +kernel, rfl⟩ ?_
      refine z_iload_n (pc' := 85) (k := 1) (i := 1) 1 rfl rfl ⟨by decide +kernel, rfl⟩ ?_
      refine z_lload_n (pc' := 86) (k := 3) (i := 3) 3 rfl rfl ⟨by decide +kernel, rfl⟩ ?_
      refine z_l2i (pc' := 87) ⟨by decide +kernel, rfl⟩ ?_
      refine z_callVf (pc' := 90) 0 (rft_token n u 2 x1 (x3.toInt32)) (rfG_token ca D) (rfO ca D) rfl (by omega) rfl rfl (Nat.le_of_ble_eq_true rfl) ⟨by decide +kernel, rfl⟩ (fun _ u8 => ?_)
      refine z_iload_n (pc' := 91) (k := 2) (i := 2) 2 rfl rfl ⟨by decide +kernel, rfl⟩ ?_
      exact z_iret (pc' := 92) ⟨by decide +kernel, rfl⟩
set_option maxRecDepth 20000 in
set_option maxHeartbeats 4000000 in
theorem rf_number_L4_t {κ : zKx} {ca : Nat → ClassId} {D : va_G} {A : Nat → Prop} {c0 : Nat × Nat} {a g0 g : Nat → Nat} (n : Nat) : ∀ (m : Nat) (u : zMu) (x1 : Int32) (x2 : Int32) (x3 : Int64), zJ κ (zRf ca D) prog_13_method_9_code 5 rf_C (some .int) zri true 1 A c0 a g0 g u 4 [(0, .ref (a 0)), (1, .int x1), (2, .int x2), (3, .long x3)] [] (rf_number_L4 n m u x1 x2 x3) := by
  intro m
  induction m with
  | zero => intro u x1 x2 x3 r u' h; cases h
  | succ m ih =>
    intro u x1 x2 x3
    unfold rf_number_L4
    refine z_iload_n (pc' := 5) (k := 2) (i := 2) 2 rfl rfl ⟨by decide +kernel, rfl⟩ ?_
    refine z_aload_n (pc' := 6) (k := 0) (i := 0) 0 rfl rfl ⟨by decide +kernel, rfl⟩ ?_
    refine z_getI (pc' := 9) (rff_size ca D) rfl ⟨by decide +kernel, rfl⟩ ?_
    refine z_icmp_ge (pc' := 12) (tgt := 56) (off := 47) ⟨by decide +kernel, rfl⟩ rfl (fun h1 => ?_) (fun h1 => ?_)
    · refine z_aload_n (pc' := 13) (k := 0) (i := 0) 0 rfl rfl ⟨by decide +kernel, rfl⟩ ?_
      refine z_getR (pc' := 16) (rff_text ca D) rfl (y := a 2) rfl ⟨by decide +kernel, rfl⟩ ?_
      refine z_iload_n (pc' := 17) (k := 2) (i := 2) 2 rfl rfl ⟨by decide +kernel, rfl⟩ ?_
      refine z_iald (pc' := 18) 2 rfl (zlt rfl) rfl rfl ⟨by decide +kernel, rfl⟩ ?_
      refine z_callSf (pc' := 21) (rft_isDigit n u (zI u 2 (zx x2))) (rfG_isDigit ca D) (by omega) rfl rfl (Nat.le_of_ble_eq_true rfl) ⟨by decide +kernel, rfl⟩ (fun r2 u3 => ?_)
      refine z_if_eq (pc' := 24) (tgt := 56) (off := 35) ⟨by decide +kernel, rfl⟩ rfl (fun h4 => ?_) (fun h4 => ?_)
      · exact rf_number_J56_t n u3 x1 x2 x3
      · refine z_iload_n (pc' := 25) (k := 2) (i := 2) 2 rfl rfl ⟨by decide +kernel, rfl⟩ ?_
        refine z_iload_n (pc' := 26) (k := 1) (i := 1) 1 rfl rfl ⟨by decide +kernel, rfl⟩ ?_
        refine z_isub (pc' := 27) ⟨by decide +kernel, rfl⟩ ?_
        refine z_bipush (pc' := 29) (n := 10) (v := 10) (by decide) ⟨by decide +kernel, rfl⟩ ?_
        refine z_icmp_ge (pc' := 32) (tgt := 50) (off := 21) ⟨by decide +kernel, rfl⟩ rfl (fun h5 => ?_) (fun h5 => ?_)
        · refine z_ldc2 (pc' := 35) (v := 10) (rf_w 2 rfl) ⟨by decide +kernel, rfl⟩ ?_
          refine z_lload_n (pc' := 36) (k := 3) (i := 3) 3 rfl rfl ⟨by decide +kernel, rfl⟩ ?_
          refine z_lmul (pc' := 37) ⟨by decide +kernel, rfl⟩ ?_
          refine z_aload_n (pc' := 38) (k := 0) (i := 0) 0 rfl rfl ⟨by decide +kernel, rfl⟩ ?_
          refine z_getR (pc' := 41) (rff_text ca D) rfl (y := a 2) rfl ⟨by decide +kernel, rfl⟩ ?_
          refine z_iload_n (pc' := 42) (k := 2) (i := 2) 2 rfl rfl ⟨by decide +kernel, rfl⟩ ?_
          refine z_iald (pc' := 43) 2 rfl (zlt rfl) rfl rfl ⟨by decide +kernel, rfl⟩ ?_
          refine z_i2l (pc' := 44) ⟨by decide +kernel, rfl⟩ ?_
          refine z_ladd (pc' := 45) ⟨by decide +kernel, rfl⟩ ?_
          refine z_ldc2 (pc' := 48) (v := 48) (rf_w 3 rfl) ⟨by decide +kernel, rfl⟩ ?_
          refine z_lsub (pc' := 49) ⟨by decide +kernel, rfl⟩ ?_
          refine z_letL fun v6 => ?_
          refine z_lstore_n (pc' := 50) (k := 3) (i := 3) rfl (by decide) rfl ⟨by decide +kernel, rfl⟩ ?_
          refine z_iincN (pc' := 53) (i := 2) (n := 1) (c := 1) 3 rfl (by decide) (by decide) rfl ⟨by decide +kernel, rfl⟩ fun v7 => ?_
          refine z_goto (tgt := 4) (off := -49) (by decide +kernel) rfl ?_
          refine z_lv [2, 3, 0, 1] (lv' := [(0, .ref (a 0)), (1, .int x1), (2, .int v7), (3, .long v6)]) rfl ?_
          exact ih u3 x1 v7 v6
        · refine z_iincN (pc' := 53) (i := 2) (n := 1) (c := 1) 2 rfl (by decide) (by decide) rfl ⟨by decide +kernel, rfl⟩ fun v8 => ?_
          refine z_goto (tgt := 4) (off := -49) (by decide +kernel) rfl ?_
          refine z_lv [1, 2, 0, 3] (lv' := [(0, .ref (a 0)), (1, .int x1), (2, .int v8), (3, .long x3)]) rfl ?_
          exact ih u3 x1 v8 x3
    · exact rf_number_J56_t n u x1 x2 x3
set_option maxRecDepth 20000 in
set_option maxHeartbeats 4000000 in
theorem rft_number {l : Launch} {ca : Nat → ClassId} {D : va_G} {a g : Nat → Nat} (n : Nat) (u : zMu) (x1 : Int32) : zMet l (zRf ca D) rfY_number (.code rfY_number prog_13_method_9_code 5 (some .int)) zri true 1 a g [.ref (a 0), .int x1] u (rf_number n u x1) := by
  refine zMet.of rfl (Nat.le_of_ble_eq_true rfl) fun κ A hl => ?_
  subst hl
  unfold rf_number
  refine z_iload_n (pc' := 1) (k := 1) (i := 1) 1 rfl rfl ⟨by decide +kernel, rfl⟩ ?_
  refine z_istore_n (pc' := 2) (k := 2) (i := 2) rfl (by decide) rfl ⟨by decide +kernel, rfl⟩ ?_
  refine z_lconst (pc' := 3) (n := 0) (v := 0) (by decide) ⟨by decide +kernel, rfl⟩ ?_
  refine z_lstore_n (pc' := 4) (k := 3) (i := 3) rfl (by decide) rfl ⟨by decide +kernel, rfl⟩ ?_
  refine z_lv [2, 3, 1, 0] (lv' := [(0, .ref (a 0)), (1, .int x1), (2, .int x1), (3, .long 0)]) rfl ?_
  exact rf_number_L4_t n n u x1 x1 0
set_option maxRecDepth 20000 in
set_option maxHeartbeats 4000000 in
theorem rft_isSign {l : Launch} {ca : Nat → ClassId} {D : va_G} {a g : Nat → Nat} (n : Nat) (u : zMu) (x0 : Int32) : zMet l (zRf ca D) rfY_isSign (.code rfY_isSign prog_13_method_10_code 1 (some .boolean)) zri true 0 a g [.int x0] u (rf_isSign n u x0) := by
  refine zMet.of rfl (Nat.le_of_ble_eq_true rfl) fun κ A hl => ?_
  subst hl
  unfold rf_isSign
  refine z_iload_n (pc' := 1) (k := 0) (i := 0) 0 rfl rfl ⟨by decide +kernel, rfl⟩ ?_
  refine z_bipush (pc' := 3) (n := 40) (v := 40) (by decide) ⟨by decide +kernel, rfl⟩ ?_
  refine z_icmp_eq (pc' := 6) (tgt := 84) (off := 81) ⟨by decide +kernel, rfl⟩ rfl (fun h1 => ?_) (fun h1 => ?_)
  · refine z_iconst (pc' := 85) (n := 1) (v := 1) (by decide) ⟨by decide +kernel, rfl⟩ ?_
    refine z_goto (tgt := 89) (off := 4) (by decide +kernel) rfl ?_
    exact z_zret (pc' := 90) (by decide) ⟨by decide +kernel, rfl⟩
  · refine z_iload_n (pc' := 7) (k := 0) (i := 0) 0 rfl rfl ⟨by decide +kernel, rfl⟩ ?_
    refine z_bipush (pc' := 9) (n := 41) (v := 41) (by decide) ⟨by decide +kernel, rfl⟩ ?_
    refine z_icmp_eq (pc' := 12) (tgt := 84) (off := 75) ⟨by decide +kernel, rfl⟩ rfl (fun h2 => ?_) (fun h2 => ?_)
    · refine z_iconst (pc' := 85) (n := 1) (v := 1) (by decide) ⟨by decide +kernel, rfl⟩ ?_
      refine z_goto (tgt := 89) (off := 4) (by decide +kernel) rfl ?_
      exact z_zret (pc' := 90) (by decide) ⟨by decide +kernel, rfl⟩
    · refine z_iload_n (pc' := 13) (k := 0) (i := 0) 0 rfl rfl ⟨by decide +kernel, rfl⟩ ?_
      refine z_bipush (pc' := 15) (n := 123) (v := 123) (by decide) ⟨by decide +kernel, rfl⟩ ?_
      refine z_icmp_eq (pc' := 18) (tgt := 84) (off := 69) ⟨by decide +kernel, rfl⟩ rfl (fun h3 => ?_) (fun h3 => ?_)
      · refine z_iconst (pc' := 85) (n := 1) (v := 1) (by decide) ⟨by decide +kernel, rfl⟩ ?_
        refine z_goto (tgt := 89) (off := 4) (by decide +kernel) rfl ?_
        exact z_zret (pc' := 90) (by decide) ⟨by decide +kernel, rfl⟩
      · refine z_iload_n (pc' := 19) (k := 0) (i := 0) 0 rfl rfl ⟨by decide +kernel, rfl⟩ ?_
        refine z_bipush (pc' := 21) (n := 125) (v := 125) (by decide) ⟨by decide +kernel, rfl⟩ ?_
        refine z_icmp_eq (pc' := 24) (tgt := 84) (off := 63) ⟨by decide +kernel, rfl⟩ rfl (fun h4 => ?_) (fun h4 => ?_)
        · refine z_iconst (pc' := 85) (n := 1) (v := 1) (by decide) ⟨by decide +kernel, rfl⟩ ?_
          refine z_goto (tgt := 89) (off := 4) (by decide +kernel) rfl ?_
          exact z_zret (pc' := 90) (by decide) ⟨by decide +kernel, rfl⟩
        · refine z_iload_n (pc' := 25) (k := 0) (i := 0) 0 rfl rfl ⟨by decide +kernel, rfl⟩ ?_
          refine z_bipush (pc' := 27) (n := 91) (v := 91) (by decide) ⟨by decide +kernel, rfl⟩ ?_
          refine z_icmp_eq (pc' := 30) (tgt := 84) (off := 57) ⟨by decide +kernel, rfl⟩ rfl (fun h5 => ?_) (fun h5 => ?_)
          · refine z_iconst (pc' := 85) (n := 1) (v := 1) (by decide) ⟨by decide +kernel, rfl⟩ ?_
            refine z_goto (tgt := 89) (off := 4) (by decide +kernel) rfl ?_
            exact z_zret (pc' := 90) (by decide) ⟨by decide +kernel, rfl⟩
          · refine z_iload_n (pc' := 31) (k := 0) (i := 0) 0 rfl rfl ⟨by decide +kernel, rfl⟩ ?_
            refine z_bipush (pc' := 33) (n := 93) (v := 93) (by decide) ⟨by decide +kernel, rfl⟩ ?_
            refine z_icmp_eq (pc' := 36) (tgt := 84) (off := 51) ⟨by decide +kernel, rfl⟩ rfl (fun h6 => ?_) (fun h6 => ?_)
            · refine z_iconst (pc' := 85) (n := 1) (v := 1) (by decide) ⟨by decide +kernel, rfl⟩ ?_
              refine z_goto (tgt := 89) (off := 4) (by decide +kernel) rfl ?_
              exact z_zret (pc' := 90) (by decide) ⟨by decide +kernel, rfl⟩
            · refine z_iload_n (pc' := 37) (k := 0) (i := 0) 0 rfl rfl ⟨by decide +kernel, rfl⟩ ?_
              refine z_bipush (pc' := 39) (n := 59) (v := 59) (by decide) ⟨by decide +kernel, rfl⟩ ?_
              refine z_icmp_eq (pc' := 42) (tgt := 84) (off := 45) ⟨by decide +kernel, rfl⟩ rfl (fun h7 => ?_) (fun h7 => ?_)
              · refine z_iconst (pc' := 85) (n := 1) (v := 1) (by decide) ⟨by decide +kernel, rfl⟩ ?_
                refine z_goto (tgt := 89) (off := 4) (by decide +kernel) rfl ?_
                exact z_zret (pc' := 90) (by decide) ⟨by decide +kernel, rfl⟩
              · refine z_iload_n (pc' := 43) (k := 0) (i := 0) 0 rfl rfl ⟨by decide +kernel, rfl⟩ ?_
                refine z_bipush (pc' := 45) (n := 44) (v := 44) (by decide) ⟨by decide +kernel, rfl⟩ ?_
                refine z_icmp_eq (pc' := 48) (tgt := 84) (off := 39) ⟨by decide +kernel, rfl⟩ rfl (fun h8 => ?_) (fun h8 => ?_)
                · refine z_iconst (pc' := 85) (n := 1) (v := 1) (by decide) ⟨by decide +kernel, rfl⟩ ?_
                  refine z_goto (tgt := 89) (off := 4) (by decide +kernel) rfl ?_
                  exact z_zret (pc' := 90) (by decide) ⟨by decide +kernel, rfl⟩
                · refine z_iload_n (pc' := 49) (k := 0) (i := 0) 0 rfl rfl ⟨by decide +kernel, rfl⟩ ?_
                  refine z_bipush (pc' := 51) (n := 46) (v := 46) (by decide) ⟨by decide +kernel, rfl⟩ ?_
                  refine z_icmp_eq (pc' := 54) (tgt := 84) (off := 33) ⟨by decide +kernel, rfl⟩ rfl (fun h9 => ?_) (fun h9 => ?_)
                  · refine z_iconst (pc' := 85) (n := 1) (v := 1) (by decide) ⟨by decide +kernel, rfl⟩ ?_
                    refine z_goto (tgt := 89) (off := 4) (by decide +kernel) rfl ?_
                    exact z_zret (pc' := 90) (by decide) ⟨by decide +kernel, rfl⟩
                  · refine z_iload_n (pc' := 55) (k := 0) (i := 0) 0 rfl rfl ⟨by decide +kernel, rfl⟩ ?_
                    refine z_bipush (pc' := 57) (n := 61) (v := 61) (by decide) ⟨by decide +kernel, rfl⟩ ?_
                    refine z_icmp_eq (pc' := 60) (tgt := 84) (off := 27) ⟨by decide +kernel, rfl⟩ rfl (fun h10 => ?_) (fun h10 => ?_)
                    · refine z_iconst (pc' := 85) (n := 1) (v := 1) (by decide) ⟨by decide +kernel, rfl⟩ ?_
                      refine z_goto (tgt := 89) (off := 4) (by decide +kernel) rfl ?_
                      exact z_zret (pc' := 90) (by decide) ⟨by decide +kernel, rfl⟩
                    · refine z_iload_n (pc' := 61) (k := 0) (i := 0) 0 rfl rfl ⟨by decide +kernel, rfl⟩ ?_
                      refine z_bipush (pc' := 63) (n := 60) (v := 60) (by decide) ⟨by decide +kernel, rfl⟩ ?_
                      refine z_icmp_eq (pc' := 66) (tgt := 84) (off := 21) ⟨by decide +kernel, rfl⟩ rfl (fun h11 => ?_) (fun h11 => ?_)
                      · refine z_iconst (pc' := 85) (n := 1) (v := 1) (by decide) ⟨by decide +kernel, rfl⟩ ?_
                        refine z_goto (tgt := 89) (off := 4) (by decide +kernel) rfl ?_
                        exact z_zret (pc' := 90) (by decide) ⟨by decide +kernel, rfl⟩
                      · refine z_iload_n (pc' := 67) (k := 0) (i := 0) 0 rfl rfl ⟨by decide +kernel, rfl⟩ ?_
                        refine z_bipush (pc' := 69) (n := 43) (v := 43) (by decide) ⟨by decide +kernel, rfl⟩ ?_
                        refine z_icmp_eq (pc' := 72) (tgt := 84) (off := 15) ⟨by decide +kernel, rfl⟩ rfl (fun h12 => ?_) (fun h12 => ?_)
                        · refine z_iconst (pc' := 85) (n := 1) (v := 1) (by decide) ⟨by decide +kernel, rfl⟩ ?_
                          refine z_goto (tgt := 89) (off := 4) (by decide +kernel) rfl ?_
                          exact z_zret (pc' := 90) (by decide) ⟨by decide +kernel, rfl⟩
                        · refine z_iload_n (pc' := 73) (k := 0) (i := 0) 0 rfl rfl ⟨by decide +kernel, rfl⟩ ?_
                          refine z_bipush (pc' := 75) (n := 45) (v := 45) (by decide) ⟨by decide +kernel, rfl⟩ ?_
                          refine z_icmp_eq (pc' := 78) (tgt := 84) (off := 9) ⟨by decide +kernel, rfl⟩ rfl (fun h13 => ?_) (fun h13 => ?_)
                          · refine z_iconst (pc' := 85) (n := 1) (v := 1) (by decide) ⟨by decide +kernel, rfl⟩ ?_
                            refine z_goto (tgt := 89) (off := 4) (by decide +kernel) rfl ?_
                            exact z_zret (pc' := 90) (by decide) ⟨by decide +kernel, rfl⟩
                          · refine z_iload_n (pc' := 79) (k := 0) (i := 0) 0 rfl rfl ⟨by decide +kernel, rfl⟩ ?_
                            refine z_bipush (pc' := 81) (n := 42) (v := 42) (by decide) ⟨by decide +kernel, rfl⟩ ?_
                            refine z_icmp_ne (pc' := 84) (tgt := 88) (off := 7) ⟨by decide +kernel, rfl⟩ rfl (fun h14 => ?_) (fun h14 => ?_)
                            · refine z_iconst (pc' := 85) (n := 1) (v := 1) (by decide) ⟨by decide +kernel, rfl⟩ ?_
                              refine z_goto (tgt := 89) (off := 4) (by decide +kernel) rfl ?_
                              exact z_zret (pc' := 90) (by decide) ⟨by decide +kernel, rfl⟩
                            · refine z_iconst (pc' := 89) (n := 0) (v := 0) (by decide) ⟨by decide +kernel, rfl⟩ ?_
                              exact z_zret (pc' := 90) (by decide) ⟨by decide +kernel, rfl⟩
set_option maxRecDepth 20000 in
set_option maxHeartbeats 4000000 in
theorem rf_cuts_J121_t {κ : zKx} {ca : Nat → ClassId} {D : va_G} {A : Nat → Prop} {c0 : Nat × Nat} {a g0 g : Nat → Nat} (n : Nat) (k12 : zMu → Int32 → Option (Unit × zMu)) (hk12 : ∀ (u : zMu) (x1 : Int32), zJ κ (zRf ca D) prog_13_method_11_code 3 rf_C none zrv true 2 A c0 a g0 g u 12 [(0, .ref (a 0)), (1, .int x1)] [] (k12 u x1)) (u : zMu) (x1 : Int32) (x2 : Int32) : zJ κ (zRf ca D) prog_13_method_11_code 3 rf_C none zrv true 2 A c0 a g0 g u 121 [(0, .ref (a 0)), (1, .int x1), (2, .int x2)] [] (rf_cuts_J121 n k12 u x1 x2) := by
  unfold rf_cuts_J121
  refine z_aload_n (pc' := 122) (k := 0) (i := 0) 0 rfl rfl ⟨by decide +kernel, rfl⟩ ?_
  refine z_iload_n (pc' := 123) (k := 2) (i := 2) 2 rfl rfl ⟨by decide +kernel, rfl⟩ ?_
  refine z_callSf (pc' := 126) (rft_isSign n u x2) (rfG_isSign ca D) (by omega) rfl rfl (Nat.le_of_ble_eq_true rfl) ⟨by decide +kernel, rfl⟩ (fun r1 u2 => ?_)
  refine z_if_eq (pc' := 129) (tgt := 133) (off := 7) ⟨by decide +kernel, rfl⟩ rfl (fun h3 => ?_) (fun h3 => ?_)
  · refine z_iconst (pc' := 134) (n := 3) (v := 3) (by decide) ⟨by decide +kernel, rfl⟩ ?_
    refine z_iload_n (pc' := 135) (k := 1) (i := 1) 1 rfl rfl ⟨by decide +kernel, rfl⟩ ?_
    refine z_iconst (pc' := 136) (n := 0) (v := 0) (by decide) ⟨by decide +kernel, rfl⟩ ?_
    refine z_callVf (pc' := 139) 0 (rft_token n u2 3 x1 0) (rfG_token ca D) (rfO ca D) rfl (by omega) rfl rfl (Nat.le_of_ble_eq_true rfl) ⟨by decide +kernel, rfl⟩ (fun _ u5 => ?_)
    refine z_iincN (pc' := 142) (i := 1) (n := 1) (c := 1) 1 rfl (by decide) (by decide) rfl ⟨by decide +kernel, rfl⟩ fun v6 => ?_
    refine z_goto (tgt := 12) (off := -130) (by decide +kernel) rfl ?_
    refine z_lv [1, 0] (lv' := [(0, .ref (a 0)), (1, .int v6)]) rfl ?_
    exact hk12 u5 v6
  · refine z_iload_n (pc' := 130) (k := 2) (i := 2) 2 rfl rfl ⟨by decide +kernel, rfl⟩ ?_
    refine z_goto (tgt := 134) (off := 4) (by decide +kernel) rfl ?_
    refine z_iload_n (pc' := 135) (k := 1) (i := 1) 1 rfl rfl ⟨by decide +kernel, rfl⟩ ?_
    refine z_iconst (pc' := 136) (n := 0) (v := 0) (by decide) ⟨by decide +kernel, rfl⟩ ?_
    refine z_callVf (pc' := 139) 0 (rft_token n u2 x2 x1 0) (rfG_token ca D) (rfO ca D) rfl (by omega) rfl rfl (Nat.le_of_ble_eq_true rfl) ⟨by decide +kernel, rfl⟩ (fun _ u8 => ?_)
    refine z_iincN (pc' := 142) (i := 1) (n := 1) (c := 1) 1 rfl (by decide) (by decide) rfl ⟨by decide +kernel, rfl⟩ fun v9 => ?_
    refine z_goto (tgt := 12) (off := -130) (by decide +kernel) rfl ?_
    refine z_lv [1, 0] (lv' := [(0, .ref (a 0)), (1, .int v9)]) rfl ?_
    exact hk12 u8 v9
set_option maxRecDepth 20000 in
set_option maxHeartbeats 4000000 in
theorem rf_cuts_L12_t {κ : zKx} {ca : Nat → ClassId} {D : va_G} {A : Nat → Prop} {c0 : Nat × Nat} {a g0 g : Nat → Nat} (n : Nat) : ∀ (m : Nat) (u : zMu) (x1 : Int32), zJ κ (zRf ca D) prog_13_method_11_code 3 rf_C none zrv true 2 A c0 a g0 g u 12 [(0, .ref (a 0)), (1, .int x1)] [] (rf_cuts_L12 n m u x1) := by
  intro m
  induction m with
  | zero => intro u x1 r u' h; cases h
  | succ m ih =>
    intro u x1
    unfold rf_cuts_L12
    refine z_iload_n (pc' := 13) (k := 1) (i := 1) 1 rfl rfl ⟨by decide +kernel, rfl⟩ ?_
    refine z_aload_n (pc' := 14) (k := 0) (i := 0) 0 rfl rfl ⟨by decide +kernel, rfl⟩ ?_
    refine z_getI (pc' := 17) (rff_size ca D) rfl ⟨by decide +kernel, rfl⟩ ?_
    refine z_icmp_ge (pc' := 20) (tgt := 145) (off := 128) ⟨by decide +kernel, rfl⟩ rfl (fun h1 => ?_) (fun h1 => ?_)
    · refine z_aload_n (pc' := 21) (k := 0) (i := 0) 0 rfl rfl ⟨by decide +kernel, rfl⟩ ?_
      refine z_getR (pc' := 24) (rff_text ca D) rfl (y := a 2) rfl ⟨by decide +kernel, rfl⟩ ?_
      refine z_iload_n (pc' := 25) (k := 1) (i := 1) 1 rfl rfl ⟨by decide +kernel, rfl⟩ ?_
      refine z_iald (pc' := 26) 2 rfl (zlt rfl) rfl rfl ⟨by decide +kernel, rfl⟩ ?_
      refine z_letI fun v2 => ?_
      refine z_istore_n (pc' := 27) (k := 2) (i := 2) rfl (by decide) rfl ⟨by decide +kernel, rfl⟩ ?_
      refine z_iload_n (pc' := 28) (k := 2) (i := 2) 0 rfl rfl ⟨by decide +kernel, rfl⟩ ?_
      refine z_bipush (pc' := 30) (n := 32) (v := 32) (by decide) ⟨by decide +kernel, rfl⟩ ?_
      refine z_icmp_eq (pc' := 33) (tgt := 39) (off := 9) ⟨by decide +kernel, rfl⟩ rfl (fun h3 => ?_) (fun h3 => ?_)
      · refine z_iincN (pc' := 42) (i := 1) (n := 1) (c := 1) 2 rfl (by decide) (by decide) rfl ⟨by decide +kernel, rfl⟩ fun v4 => ?_
        refine z_goto (tgt := 142) (off := 100) (by decide +kernel) rfl ?_
        refine z_goto (tgt := 12) (off := -130) (by decide +kernel) rfl ?_
        refine z_lv [2, 0] (lv' := [(0, .ref (a 0)), (1, .int v4)]) rfl ?_
        exact ih u v4
      · refine z_iload_n (pc' := 34) (k := 2) (i := 2) 0 rfl rfl ⟨by decide +kernel, rfl⟩ ?_
        refine z_bipush (pc' := 36) (n := 10) (v := 10) (by decide) ⟨by decide +kernel, rfl⟩ ?_
        refine z_icmp_ne (pc' := 39) (tgt := 45) (off := 9) ⟨by decide +kernel, rfl⟩ rfl (fun h5 => ?_) (fun h5 => ?_)
        · refine z_iincN (pc' := 42) (i := 1) (n := 1) (c := 1) 2 rfl (by decide) (by decide) rfl ⟨by decide +kernel, rfl⟩ fun v6 => ?_
          refine z_goto (tgt := 142) (off := 100) (by decide +kernel) rfl ?_
          refine z_goto (tgt := 12) (off := -130) (by decide +kernel) rfl ?_
          refine z_lv [2, 0] (lv' := [(0, .ref (a 0)), (1, .int v6)]) rfl ?_
          exact ih u v6
        · refine z_iload_n (pc' := 46) (k := 2) (i := 2) 0 rfl rfl ⟨by decide +kernel, rfl⟩ ?_
          refine z_callSf (pc' := 49) (rft_isLetter n u v2) (rfG_isLetter ca D) (by omega) rfl rfl (Nat.le_of_ble_eq_true rfl) ⟨by decide +kernel, rfl⟩ (fun r7 u8 => ?_)
          refine z_if_eq (pc' := 52) (tgt := 61) (off := 12) ⟨by decide +kernel, rfl⟩ rfl (fun h9 => ?_) (fun h9 => ?_)
          · refine z_iload_n (pc' := 62) (k := 2) (i := 2) 0 rfl rfl ⟨by decide +kernel, rfl⟩ ?_
            refine z_callSf (pc' := 65) (rft_isDigit n u8 v2) (rfG_isDigit ca D) (by omega) rfl rfl (Nat.le_of_ble_eq_true rfl) ⟨by decide +kernel, rfl⟩ (fun r10 u11 => ?_)
            refine z_if_eq (pc' := 68) (tgt := 77) (off := 12) ⟨by decide +kernel, rfl⟩ rfl (fun h12 => ?_) (fun h12 => ?_)
            · refine z_iload_n (pc' := 78) (k := 2) (i := 2) 0 rfl rfl ⟨by decide +kernel, rfl⟩ ?_
              refine z_bipush (pc' := 80) (n := 61) (v := 61) (by decide) ⟨by decide +kernel, rfl⟩ ?_
              refine z_icmp_ne (pc' := 83) (tgt := 121) (off := 41) ⟨by decide +kernel, rfl⟩ rfl (fun h13 => ?_) (fun h13 => ?_)
              · refine z_iload_n (pc' := 84) (k := 1) (i := 1) 2 rfl rfl ⟨by decide +kernel, rfl⟩ ?_
                refine z_iconst (pc' := 85) (n := 1) (v := 1) (by decide) ⟨by decide +kernel, rfl⟩ ?_
                refine z_iadd (pc' := 86) ⟨by decide +kernel, rfl⟩ ?_
                refine z_aload_n (pc' := 87) (k := 0) (i := 0) 1 rfl rfl ⟨by decide +kernel, rfl⟩ ?_
                refine z_getI (pc' := 90) (rff_size ca D) rfl ⟨by decide +kernel, rfl⟩ ?_
                refine z_icmp_ge (pc' := 93) (tgt := 121) (off := 31) ⟨by decide +kernel, rfl⟩ rfl (fun h14 => ?_) (fun h14 => ?_)
                · refine z_aload_n (pc' := 94) (k := 0) (i := 0) 1 rfl rfl ⟨by decide +kernel, rfl⟩ ?_
                  refine z_getR (pc' := 97) (rff_text ca D) rfl (y := a 2) rfl ⟨by decide +kernel, rfl⟩ ?_
                  refine z_iload_n (pc' := 98) (k := 1) (i := 1) 2 rfl rfl ⟨by decide +kernel, rfl⟩ ?_
                  refine z_iconst (pc' := 99) (n := 1) (v := 1) (by decide) ⟨by decide +kernel, rfl⟩ ?_
                  refine z_iadd (pc' := 100) ⟨by decide +kernel, rfl⟩ ?_
                  refine z_iald (pc' := 101) 2 rfl (zlt rfl) rfl rfl ⟨by decide +kernel, rfl⟩ ?_
                  refine z_bipush (pc' := 103) (n := 61) (v := 61) (by decide) ⟨by decide +kernel, rfl⟩ ?_
                  refine z_icmp_ne (pc' := 106) (tgt := 121) (off := 18) ⟨by decide +kernel, rfl⟩ rfl (fun h15 => ?_) (fun h15 => ?_)
                  · refine z_aload_n (pc' := 107) (k := 0) (i := 0) 1 rfl rfl ⟨by decide +kernel, rfl⟩ ?_
                    refine z_sipush (pc' := 110) (n := 150) (v := 150) (by decide) ⟨by decide +kernel, rfl⟩ ?_
                    refine z_iload_n (pc' := 111) (k := 1) (i := 1) 2 rfl rfl ⟨by decide +kernel, rfl⟩ ?_
                    refine z_iconst (pc' := 112) (n := 0) (v := 0) (by decide) ⟨by decide +kernel, rfl⟩ ?_
                    refine z_callVf (pc' := 115) 0 (rft_token n u11 150 x1 0) (rfG_token ca D) (rfO ca D) rfl (by omega) rfl rfl (Nat.le_of_ble_eq_true rfl) ⟨by decide +kernel, rfl⟩ (fun _ u17 => ?_)
                    refine z_iincN (pc' := 118) (i := 1) (n := 2) (c := 2) 2 rfl (by decide) (by decide) rfl ⟨by decide +kernel, rfl⟩ fun v18 => ?_
                    refine z_goto (tgt := 142) (off := 24) (by decide +kernel) rfl ?_
                    refine z_goto (tgt := 12) (off := -130) (by decide +kernel) rfl ?_
                    refine z_lv [2, 0] (lv' := [(0, .ref (a 0)), (1, .int v18)]) rfl ?_
                    exact ih u17 v18
                  · refine z_lv [1, 2, 0] (lv' := [(0, .ref (a 0)), (1, .int x1), (2, .int v2)]) rfl ?_
                    exact rf_cuts_J121_t n (rf_cuts_L12 n m) (ih) u11 x1 v2
                · refine z_lv [1, 2, 0] (lv' := [(0, .ref (a 0)), (1, .int x1), (2, .int v2)]) rfl ?_
                  exact rf_cuts_J121_t n (rf_cuts_L12 n m) (ih) u11 x1 v2
              · refine z_lv [1, 2, 0] (lv' := [(0, .ref (a 0)), (1, .int x1), (2, .int v2)]) rfl ?_
                exact rf_cuts_J121_t n (rf_cuts_L12 n m) (ih) u11 x1 v2
            · refine z_aload_n (pc' := 69) (k := 0) (i := 0) 1 rfl rfl ⟨by decide +kernel, rfl⟩ ?_
              refine z_iload_n (pc' := 70) (k := 1) (i := 1) 2 rfl rfl ⟨by decide +kernel, rfl⟩ ?_
              refine z_callVf (pc' := 73) 0 (rft_number n u11 x1) (rfG_number ca D) (rfO ca D) rfl (by omega) rfl rfl (Nat.le_of_ble_eq_true rfl) ⟨by decide +kernel, rfl⟩ (fun r19 u20 => ?_)
              refine z_istore_n (pc' := 74) (k := 1) (i := 1) rfl (by decide) rfl ⟨by decide +kernel, rfl⟩ ?_
              refine z_goto (tgt := 142) (off := 68) (by decide +kernel) rfl ?_
              refine z_goto (tgt := 12) (off := -130) (by decide +kernel) rfl ?_
              refine z_lv [2, 0] (lv' := [(0, .ref (a 0)), (1, .int r19)]) rfl ?_
              exact ih u20 r19
          · refine z_aload_n (pc' := 53) (k := 0) (i := 0) 1 rfl rfl ⟨by decide +kernel, rfl⟩ ?_
            refine z_iload_n (pc' := 54) (k := 1) (i := 1) 2 rfl rfl ⟨by decide +kernel, rfl⟩ ?_
            refine z_callVf (pc' := 57) 0 (rft_word n u8 x1) (rfG_word ca D) (rfO ca D) rfl (by omega) rfl rfl (Nat.le_of_ble_eq_true rfl) ⟨by decide +kernel, rfl⟩ (fun r21 u22 => ?_)
            refine z_istore_n (pc' := 58) (k := 1) (i := 1) rfl (by decide) rfl ⟨by decide +kernel, rfl⟩ ?_
            refine z_goto (tgt := 142) (off := 84) (by decide +kernel) rfl ?_
            refine z_goto (tgt := 12) (off := -130) (by decide +kernel) rfl ?_
            refine z_lv [2, 0] (lv' := [(0, .ref (a 0)), (1, .int r21)]) rfl ?_
            exact ih u22 r21
    · refine z_aload_n (pc' := 146) (k := 0) (i := 0) 0 rfl rfl ⟨by decide +kernel, rfl⟩ ?_
      refine z_iconst (pc' := 147) (n := 0) (v := 0) (by decide) ⟨by decide +kernel, rfl⟩ ?_
      refine z_aload_n (pc' := 148) (k := 0) (i := 0) 0 rfl rfl ⟨by decide +kernel, rfl⟩ ?_
      refine z_getI (pc' := 151) (rff_size ca D) rfl ⟨by decide +kernel, rfl⟩ ?_
      refine z_iconst (pc' := 152) (n := 0) (v := 0) (by decide) ⟨by decide +kernel, rfl⟩ ?_
      refine z_callVf (pc' := 155) 0 (rft_token n u 0 (zI u 0 4) 0) (rfG_token ca D) (rfO ca D) rfl (by omega) rfl rfl (Nat.le_of_ble_eq_true rfl) ⟨by decide +kernel, rfl⟩ (fun _ u24 => ?_)
      exact z_vret (pc' := 156) ⟨by decide +kernel, rfl⟩
set_option maxRecDepth 20000 in
set_option maxHeartbeats 4000000 in
theorem rft_cuts {l : Launch} {ca : Nat → ClassId} {D : va_G} {a g : Nat → Nat} (n : Nat) (u : zMu) : zMet l (zRf ca D) rfY_cuts (.code rfY_cuts prog_13_method_11_code 3 none) zrv true 2 a g [.ref (a 0)] u (rf_cuts n u) := by
  refine zMet.of rfl (Nat.le_of_ble_eq_true rfl) fun κ A hl => ?_
  subst hl
  unfold rf_cuts
  refine z_aload_n (pc' := 1) (k := 0) (i := 0) 0 rfl rfl ⟨by decide +kernel, rfl⟩ ?_
  refine z_iconst (pc' := 2) (n := 0) (v := 0) (by decide) ⟨by decide +kernel, rfl⟩ ?_
  refine z_putI (pc' := 5) (rff_tokens ca D) rfl ⟨by decide +kernel, rfl⟩ (z_letU fun u1 => ?_)
  refine z_aload_n (pc' := 6) (k := 0) (i := 0) 0 rfl rfl ⟨by decide +kernel, rfl⟩ ?_
  refine z_iconst (pc' := 7) (n := 0) (v := 0) (by decide) ⟨by decide +kernel, rfl⟩ ?_
  refine z_putI (pc' := 10) (rff_names ca D) rfl ⟨by decide +kernel, rfl⟩ (z_letU fun u2 => ?_)
  refine z_iconst (pc' := 11) (n := 0) (v := 0) (by decide) ⟨by decide +kernel, rfl⟩ ?_
  refine z_istore_n (pc' := 12) (k := 1) (i := 1) rfl (by decide) rfl ⟨by decide +kernel, rfl⟩ ?_
  refine z_lv [1, 0] (lv' := [(0, .ref (a 0)), (1, .int 0)]) rfl ?_
  exact rf_cuts_L12_t n n u2 0
set_option maxRecDepth 20000 in
set_option maxHeartbeats 4000000 in
theorem rft_now {l : Launch} {ca : Nat → ClassId} {D : va_G} {a g : Nat → Nat} (n : Nat) (u : zMu) : zMet l (zRf ca D) rfY_now (.code rfY_now prog_13_method_12_code 1 (some .int)) zri true 0 a g [.ref (a 0)] u (rf_now n u) := by
  refine zMet.of rfl (Nat.le_of_ble_eq_true rfl) fun κ A hl => ?_
  subst hl
  unfold rf_now
  refine z_aload_n (pc' := 1) (k := 0) (i := 0) 0 rfl rfl ⟨by decide +kernel, rfl⟩ ?_
  refine z_getR (pc' := 4) (rff_tKind ca D) rfl (y := a 4) rfl ⟨by decide +kernel, rfl⟩ ?_
  refine z_aload_n (pc' := 5) (k := 0) (i := 0) 0 rfl rfl ⟨by decide +kernel, rfl⟩ ?_
  refine z_getI (pc' := 8) (rff_at ca D) rfl ⟨by decide +kernel, rfl⟩ ?_
  refine z_iald (pc' := 9) 4 rfl (zlt rfl) rfl rfl ⟨by decide +kernel, rfl⟩ ?_
  exact z_iret (pc' := 10) ⟨by decide +kernel, rfl⟩
set_option maxRecDepth 20000 in
set_option maxHeartbeats 4000000 in
theorem rft_place {l : Launch} {ca : Nat → ClassId} {D : va_G} {a g : Nat → Nat} (n : Nat) (u : zMu) : zMet l (zRf ca D) rfY_place (.code rfY_place prog_13_method_13_code 1 (some .int)) zri true 0 a g [.ref (a 0)] u (rf_place n u) := by
  refine zMet.of rfl (Nat.le_of_ble_eq_true rfl) fun κ A hl => ?_
  subst hl
  unfold rf_place
  refine z_aload_n (pc' := 1) (k := 0) (i := 0) 0 rfl rfl ⟨by decide +kernel, rfl⟩ ?_
  refine z_getR (pc' := 4) (rff_tPlace ca D) rfl (y := a 5) rfl ⟨by decide +kernel, rfl⟩ ?_
  refine z_aload_n (pc' := 5) (k := 0) (i := 0) 0 rfl rfl ⟨by decide +kernel, rfl⟩ ?_
  refine z_getI (pc' := 8) (rff_at ca D) rfl ⟨by decide +kernel, rfl⟩ ?_
  refine z_iald (pc' := 9) 5 rfl (zlt rfl) rfl rfl ⟨by decide +kernel, rfl⟩ ?_
  exact z_iret (pc' := 10) ⟨by decide +kernel, rfl⟩
set_option maxRecDepth 20000 in
set_option maxHeartbeats 4000000 in
theorem rft_faulty {l : Launch} {ca : Nat → ClassId} {D : va_G} {a g : Nat → Nat} (n : Nat) (u : zMu) : zMet l (zRf ca D) rfY_faulty (.code rfY_faulty prog_13_method_14_code 1 none) zrv true 1 a g [.ref (a 0)] u (rf_faulty n u) := by
  refine zMet.of rfl (Nat.le_of_ble_eq_true rfl) fun κ A hl => ?_
  subst hl
  unfold rf_faulty
  refine z_aload_n (pc' := 1) (k := 0) (i := 0) 0 rfl rfl ⟨by decide +kernel, rfl⟩ ?_
  refine z_getI (pc' := 4) (rff_wrong ca D) rfl ⟨by decide +kernel, rfl⟩ ?_
  refine z_iconst (pc' := 5) (n := (-1)) (v := (-1)) (by decide) ⟨by decide +kernel, rfl⟩ ?_
  refine z_icmp_ne (pc' := 8) (tgt := 16) (off := 11) ⟨by decide +kernel, rfl⟩ rfl (fun h1 => ?_) (fun h1 => ?_)
  · refine z_aload_n (pc' := 9) (k := 0) (i := 0) 0 rfl rfl ⟨by decide +kernel, rfl⟩ ?_
    refine z_aload_n (pc' := 10) (k := 0) (i := 0) 0 rfl rfl ⟨by decide +kernel, rfl⟩ ?_
    refine z_callVf (pc' := 13) 0 (rft_place n u) (rfG_place ca D) (rfO ca D) rfl (by omega) rfl rfl (Nat.le_of_ble_eq_true rfl) ⟨by decide +kernel, rfl⟩ (fun r2 u3 => ?_)
    refine z_putI (pc' := 16) (rff_wrong ca D) rfl ⟨by decide +kernel, rfl⟩ (z_letU fun u4 => ?_)
    exact z_vret (pc' := 17) ⟨by decide +kernel, rfl⟩
  · exact z_vret (pc' := 17) ⟨by decide +kernel, rfl⟩
set_option maxRecDepth 20000 in
set_option maxHeartbeats 4000000 in
theorem rft_isWrong {l : Launch} {ca : Nat → ClassId} {D : va_G} {a g : Nat → Nat} (n : Nat) (u : zMu) : zMet l (zRf ca D) rfY_isWrong (.code rfY_isWrong prog_13_method_15_code 1 (some .boolean)) zri true 0 a g [.ref (a 0)] u (rf_isWrong n u) := by
  refine zMet.of rfl (Nat.le_of_ble_eq_true rfl) fun κ A hl => ?_
  subst hl
  unfold rf_isWrong
  refine z_aload_n (pc' := 1) (k := 0) (i := 0) 0 rfl rfl ⟨by decide +kernel, rfl⟩ ?_
  refine z_getI (pc' := 4) (rff_wrong ca D) rfl ⟨by decide +kernel, rfl⟩ ?_
  refine z_iconst (pc' := 5) (n := (-1)) (v := (-1)) (by decide) ⟨by decide +kernel, rfl⟩ ?_
  refine z_icmp_eq (pc' := 8) (tgt := 12) (off := 7) ⟨by decide +kernel, rfl⟩ rfl (fun h1 => ?_) (fun h1 => ?_)
  · refine z_iconst (pc' := 13) (n := 0) (v := 0) (by decide) ⟨by decide +kernel, rfl⟩ ?_
    exact z_zret (pc' := 14) (by decide) ⟨by decide +kernel, rfl⟩
  · refine z_iconst (pc' := 9) (n := 1) (v := 1) (by decide) ⟨by decide +kernel, rfl⟩ ?_
    refine z_goto (tgt := 13) (off := 4) (by decide +kernel) rfl ?_
    exact z_zret (pc' := 14) (by decide) ⟨by decide +kernel, rfl⟩
set_option maxRecDepth 20000 in
set_option maxHeartbeats 4000000 in
theorem rft_notes {l : Launch} {ca : Nat → ClassId} {D : va_G} {a g : Nat → Nat} (n : Nat) (u : zMu) (x1 : Int32) (x2 : Int32) : zMet l (zRf ca D) rfY_notes (.code rfY_notes prog_13_method_16_code 3 none) zrv true 0 a g [.ref (a 0), .int x1, .int x2] u (rf_notes n u x1 x2) := by
  refine zMet.of rfl (Nat.le_of_ble_eq_true rfl) fun κ A hl => ?_
  subst hl
  unfold rf_notes
  refine z_aload_n (pc' := 1) (k := 0) (i := 0) 0 rfl rfl ⟨by decide +kernel, rfl⟩ ?_
  refine z_getI (pc' := 4) (rff_later ca D) rfl ⟨by decide +kernel, rfl⟩ ?_
  refine z_iconst (pc' := 5) (n := (-1)) (v := (-1)) (by decide) ⟨by decide +kernel, rfl⟩ ?_
  refine z_icmp_eq (pc' := 8) (tgt := 32) (off := 27) ⟨by decide +kernel, rfl⟩ rfl (fun h1 => ?_) (fun h1 => ?_)
  · refine z_aload_n (pc' := 33) (k := 0) (i := 0) 0 rfl rfl ⟨by decide +kernel, rfl⟩ ?_
    refine z_iload_n (pc' := 34) (k := 1) (i := 1) 1 rfl rfl ⟨by decide +kernel, rfl⟩ ?_
    refine z_putI (pc' := 37) (rff_later ca D) rfl ⟨by decide +kernel, rfl⟩ (z_letU fun u2 => ?_)
    refine z_aload_n (pc' := 38) (k := 0) (i := 0) 0 rfl rfl ⟨by decide +kernel, rfl⟩ ?_
    refine z_iload_n (pc' := 39) (k := 2) (i := 2) 2 rfl rfl ⟨by decide +kernel, rfl⟩ ?_
    refine z_putI (pc' := 42) (rff_laterKind ca D) rfl ⟨by decide +kernel, rfl⟩ (z_letU fun u3 => ?_)
    exact z_vret (pc' := 43) ⟨by decide +kernel, rfl⟩
  · refine z_iload_n (pc' := 9) (k := 1) (i := 1) 1 rfl rfl ⟨by decide +kernel, rfl⟩ ?_
    refine z_aload_n (pc' := 10) (k := 0) (i := 0) 0 rfl rfl ⟨by decide +kernel, rfl⟩ ?_
    refine z_getI (pc' := 13) (rff_later ca D) rfl ⟨by decide +kernel, rfl⟩ ?_
    refine z_icmp_lt (pc' := 16) (tgt := 32) (off := 19) ⟨by decide +kernel, rfl⟩ rfl (fun h4 => ?_) (fun h4 => ?_)
    · refine z_aload_n (pc' := 33) (k := 0) (i := 0) 0 rfl rfl ⟨by decide +kernel, rfl⟩ ?_
      refine z_iload_n (pc' := 34) (k := 1) (i := 1) 1 rfl rfl ⟨by decide +kernel, rfl⟩ ?_
      refine z_putI (pc' := 37) (rff_later ca D) rfl ⟨by decide +kernel, rfl⟩ (z_letU fun u5 => ?_)
      refine z_aload_n (pc' := 38) (k := 0) (i := 0) 0 rfl rfl ⟨by decide +kernel, rfl⟩ ?_
      refine z_iload_n (pc' := 39) (k := 2) (i := 2) 2 rfl rfl ⟨by decide +kernel, rfl⟩ ?_
      refine z_putI (pc' := 42) (rff_laterKind ca D) rfl ⟨by decide +kernel, rfl⟩ (z_letU fun u6 => ?_)
      exact z_vret (pc' := 43) ⟨by decide +kernel, rfl⟩
    · refine z_iload_n (pc' := 17) (k := 1) (i := 1) 1 rfl rfl ⟨by decide +kernel, rfl⟩ ?_
      refine z_aload_n (pc' := 18) (k := 0) (i := 0) 0 rfl rfl ⟨by decide +kernel, rfl⟩ ?_
      refine z_getI (pc' := 21) (rff_later ca D) rfl ⟨by decide +kernel, rfl⟩ ?_
      refine z_icmp_ne (pc' := 24) (tgt := 42) (off := 21) ⟨by decide +kernel, rfl⟩ rfl (fun h7 => ?_) (fun h7 => ?_)
      · refine z_iload_n (pc' := 25) (k := 2) (i := 2) 2 rfl rfl ⟨by decide +kernel, rfl⟩ ?_
        refine z_aload_n (pc' := 26) (k := 0) (i := 0) 0 rfl rfl ⟨by decide +kernel, rfl⟩ ?_
        refine z_getI (pc' := 29) (rff_laterKind ca D) rfl ⟨by decide +kernel, rfl⟩ ?_
        refine z_icmp_ge (pc' := 32) (tgt := 42) (off := 13) ⟨by decide +kernel, rfl⟩ rfl (fun h8 => ?_) (fun h8 => ?_)
        · refine z_aload_n (pc' := 33) (k := 0) (i := 0) 0 rfl rfl ⟨by decide +kernel, rfl⟩ ?_
          refine z_iload_n (pc' := 34) (k := 1) (i := 1) 1 rfl rfl ⟨by decide +kernel, rfl⟩ ?_
          refine z_putI (pc' := 37) (rff_later ca D) rfl ⟨by decide +kernel, rfl⟩ (z_letU fun u9 => ?_)
          refine z_aload_n (pc' := 38) (k := 0) (i := 0) 0 rfl rfl ⟨by decide +kernel, rfl⟩ ?_
          refine z_iload_n (pc' := 39) (k := 2) (i := 2) 2 rfl rfl ⟨by decide +kernel, rfl⟩ ?_
          refine z_putI (pc' := 42) (rff_laterKind ca D) rfl ⟨by decide +kernel, rfl⟩ (z_letU fun u10 => ?_)
          exact z_vret (pc' := 43) ⟨by decide +kernel, rfl⟩
        · exact z_vret (pc' := 43) ⟨by decide +kernel, rfl⟩
      · exact z_vret (pc' := 43) ⟨by decide +kernel, rfl⟩
set_option maxRecDepth 20000 in
set_option maxHeartbeats 4000000 in
theorem rft_want {l : Launch} {ca : Nat → ClassId} {D : va_G} {a g : Nat → Nat} (n : Nat) (u : zMu) (x1 : Int32) : zMet l (zRf ca D) rfY_want (.code rfY_want prog_13_method_17_code 2 none) zrv true 2 a g [.ref (a 0), .int x1] u (rf_want n u x1) := by
  refine zMet.of rfl (Nat.le_of_ble_eq_true rfl) fun κ A hl => ?_
  subst hl
  unfold rf_want
  refine z_aload_n (pc' := 1) (k := 0) (i := 0) 0 rfl rfl ⟨by decide +kernel, rfl⟩ ?_
  refine z_callVf (pc' := 4) 0 (rft_isWrong n u) (rfG_isWrong ca D) (rfO ca D) rfl (by omega) rfl rfl (Nat.le_of_ble_eq_true rfl) ⟨by decide +kernel, rfl⟩ (fun r1 u2 => ?_)
  refine z_if_eq (pc' := 7) (tgt := 8) (off := 4) ⟨by decide +kernel, rfl⟩ rfl (fun h3 => ?_) (fun h3 => ?_)
  · refine z_aload_n (pc' := 9) (k := 0) (i := 0) 0 rfl rfl ⟨by decide +kernel, rfl⟩ ?_
    refine z_callVf (pc' := 12) 0 (rft_now n u2) (rfG_now ca D) (rfO ca D) rfl (by omega) rfl rfl (Nat.le_of_ble_eq_true rfl) ⟨by decide +kernel, rfl⟩ (fun r4 u5 => ?_)
    refine z_iload_n (pc' := 13) (k := 1) (i := 1) 1 rfl rfl ⟨by decide +kernel, rfl⟩ ?_
    refine z_icmp_eq (pc' := 16) (tgt := 23) (off := 10) ⟨by decide +kernel, rfl⟩ rfl (fun h6 => ?_) (fun h6 => ?_)
    · refine z_aload_n (pc' := 24) (k := 0) (i := 0) 0 rfl rfl ⟨by decide +kernel, rfl⟩ ?_
      refine z_dup (pc' := 25) rfl ⟨by decide +kernel, rfl⟩ ?_
      refine z_getI (pc' := 28) (rff_at ca D) rfl ⟨by decide +kernel, rfl⟩ ?_
      refine z_iconst (pc' := 29) (n := 1) (v := 1) (by decide) ⟨by decide +kernel, rfl⟩ ?_
      refine z_iadd (pc' := 30) ⟨by decide +kernel, rfl⟩ ?_
      refine z_putI (pc' := 33) (rff_at ca D) rfl ⟨by decide +kernel, rfl⟩ (z_letU fun u7 => ?_)
      exact z_vret (pc' := 34) ⟨by decide +kernel, rfl⟩
    · refine z_aload_n (pc' := 17) (k := 0) (i := 0) 0 rfl rfl ⟨by decide +kernel, rfl⟩ ?_
      refine z_callVf (pc' := 20) 0 (rft_faulty n u5) (rfG_faulty ca D) (rfO ca D) rfl (by omega) rfl rfl (Nat.le_of_ble_eq_true rfl) ⟨by decide +kernel, rfl⟩ (fun _ u9 => ?_)
      refine z_goto (tgt := 33) (off := 13) (by decide +kernel) rfl ?_
      exact z_vret (pc' := 34) ⟨by decide +kernel, rfl⟩
  · exact z_vret (pc' := 8) ⟨by decide +kernel, rfl⟩
set_option maxRecDepth 20000 in
set_option maxHeartbeats 4000000 in
theorem rft_opens {l : Launch} {ca : Nat → ClassId} {D : va_G} {a g : Nat → Nat} (n : Nat) (u : zMu) (x1 : Int32) : zMet l (zRf ca D) rfY_opens (.code rfY_opens prog_13_method_18_code 2 none) zrv true 2 a g [.ref (a 0), .int x1] u (rf_opens n u x1) := by
  refine zMet.of rfl (Nat.le_of_ble_eq_true rfl) fun κ A hl => ?_
  subst hl
  unfold rf_opens
  refine z_aload_n (pc' := 1) (k := 0) (i := 0) 0 rfl rfl ⟨by decide +kernel, rfl⟩ ?_
  refine z_callVf (pc' := 4) 0 (rft_isWrong n u) (rfG_isWrong ca D) (rfO ca D) rfl (by omega) rfl rfl (Nat.le_of_ble_eq_true rfl) ⟨by decide +kernel, rfl⟩ (fun r1 u2 => ?_)
  refine z_if_eq (pc' := 7) (tgt := 8) (off := 4) ⟨by decide +kernel, rfl⟩ rfl (fun h3 => ?_) (fun h3 => ?_)
  · refine z_aload_n (pc' := 9) (k := 0) (i := 0) 0 rfl rfl ⟨by decide +kernel, rfl⟩ ?_
    refine z_callVf (pc' := 12) 0 (rft_now n u2) (rfG_now ca D) (rfO ca D) rfl (by omega) rfl rfl (Nat.le_of_ble_eq_true rfl) ⟨by decide +kernel, rfl⟩ (fun r4 u5 => ?_)
    refine z_iload_n (pc' := 13) (k := 1) (i := 1) 1 rfl rfl ⟨by decide +kernel, rfl⟩ ?_
    refine z_icmp_ne (pc' := 16) (tgt := 25) (off := 12) ⟨by decide +kernel, rfl⟩ rfl (fun h6 => ?_) (fun h6 => ?_)
    · refine z_aload_n (pc' := 17) (k := 0) (i := 0) 0 rfl rfl ⟨by decide +kernel, rfl⟩ ?_
      refine z_getI (pc' := 20) (rff_open ca D) rfl ⟨by decide +kernel, rfl⟩ ?_
      refine z_bipush (pc' := 22) (n := 8) (v := 8) (by decide) ⟨by decide +kernel, rfl⟩ ?_
      refine z_icmp_ne (pc' := 25) (tgt := 30) (off := 8) ⟨by decide +kernel, rfl⟩ rfl (fun h7 => ?_) (fun h7 => ?_)
      · refine z_aload_n (pc' := 26) (k := 0) (i := 0) 0 rfl rfl ⟨by decide +kernel, rfl⟩ ?_
        refine z_callVf (pc' := 29) 0 (rft_faulty n u5) (rfG_faulty ca D) (rfO ca D) rfl (by omega) rfl rfl (Nat.le_of_ble_eq_true rfl) ⟨by decide +kernel, rfl⟩ (fun _ u9 => ?_)
        exact z_vret (pc' := 30) ⟨by decide +kernel, rfl⟩
      · refine z_aload_n (pc' := 31) (k := 0) (i := 0) 0 rfl rfl ⟨by decide +kernel, rfl⟩ ?_
        refine z_dup (pc' := 32) rfl ⟨by decide +kernel, rfl⟩ ?_
        refine z_getI (pc' := 35) (rff_open ca D) rfl ⟨by decide +kernel, rfl⟩ ?_
        refine z_iconst (pc' := 36) (n := 1) (v := 1) (by decide) ⟨by decide +kernel, rfl⟩ ?_
        refine z_iadd (pc' := 37) ⟨by decide +kernel, rfl⟩ ?_
        refine z_putI (pc' := 40) (rff_open ca D) rfl ⟨by decide +kernel, rfl⟩ (z_letU fun u10 => ?_)
        refine z_aload_n (pc' := 41) (k := 0) (i := 0) 0 rfl rfl ⟨by decide +kernel, rfl⟩ ?_
        refine z_dup (pc' := 42) rfl ⟨by decide +kernel, rfl⟩ ?_
        refine z_getI (pc' := 45) (rff_at ca D) rfl ⟨by decide +kernel, rfl⟩ ?_
        refine z_iconst (pc' := 46) (n := 1) (v := 1) (by decide) ⟨by decide +kernel, rfl⟩ ?_
        refine z_iadd (pc' := 47) ⟨by decide +kernel, rfl⟩ ?_
        refine z_putI (pc' := 50) (rff_at ca D) rfl ⟨by decide +kernel, rfl⟩ (z_letU fun u11 => ?_)
        exact z_vret (pc' := 51) ⟨by decide +kernel, rfl⟩
    · refine z_aload_n (pc' := 26) (k := 0) (i := 0) 0 rfl rfl ⟨by decide +kernel, rfl⟩ ?_
      refine z_callVf (pc' := 29) 0 (rft_faulty n u5) (rfG_faulty ca D) (rfO ca D) rfl (by omega) rfl rfl (Nat.le_of_ble_eq_true rfl) ⟨by decide +kernel, rfl⟩ (fun _ u13 => ?_)
      exact z_vret (pc' := 30) ⟨by decide +kernel, rfl⟩
  · exact z_vret (pc' := 8) ⟨by decide +kernel, rfl⟩
set_option maxRecDepth 20000 in
set_option maxHeartbeats 4000000 in
theorem rft_closes {l : Launch} {ca : Nat → ClassId} {D : va_G} {a g : Nat → Nat} (n : Nat) (u : zMu) (x1 : Int32) : zMet l (zRf ca D) rfY_closes (.code rfY_closes prog_13_method_19_code 2 none) zrv true 3 a g [.ref (a 0), .int x1] u (rf_closes n u x1) := by
  refine zMet.of rfl (Nat.le_of_ble_eq_true rfl) fun κ A hl => ?_
  subst hl
  unfold rf_closes
  refine z_aload_n (pc' := 1) (k := 0) (i := 0) 0 rfl rfl ⟨by decide +kernel, rfl⟩ ?_
  refine z_iload_n (pc' := 2) (k := 1) (i := 1) 1 rfl rfl ⟨by decide +kernel, rfl⟩ ?_
  refine z_callVf (pc' := 5) 0 (rft_want n u x1) (rfG_want ca D) (rfO ca D) rfl (by omega) rfl rfl (Nat.le_of_ble_eq_true rfl) ⟨by decide +kernel, rfl⟩ (fun _ u2 => ?_)
  refine z_aload_n (pc' := 6) (k := 0) (i := 0) 0 rfl rfl ⟨by decide +kernel, rfl⟩ ?_
  refine z_dup (pc' := 7) rfl ⟨by decide +kernel, rfl⟩ ?_
  refine z_getI (pc' := 10) (rff_open ca D) rfl ⟨by decide +kernel, rfl⟩ ?_
  refine z_iconst (pc' := 11) (n := 1) (v := 1) (by decide) ⟨by decide +kernel, rfl⟩ ?_
  refine z_isub (pc' := 12) ⟨by decide +kernel, rfl⟩ ?_
  refine z_putI (pc' := 15) (rff_open ca D) rfl ⟨by decide +kernel, rfl⟩ (z_letU fun u3 => ?_)
  exact z_vret (pc' := 16) ⟨by decide +kernel, rfl⟩
set_option maxRecDepth 20000 in
set_option maxHeartbeats 4000000 in
theorem rft_emit {l : Launch} {ca : Nat → ClassId} {D : va_G} {a g : Nat → Nat} (n : Nat) (u : zMu) (x1 : Int32) (x2 : Int32) (x3 : Int32) (x4 : Int32) : zMet l (zRf ca D) rfY_emit (.code rfY_emit prog_13_method_20_code 5 none) zrv true 0 a g [.ref (a 0), .int x1, .int x2, .int x3, .int x4] u (rf_emit n u x1 x2 x3 x4) := by
  refine zMet.of rfl (Nat.le_of_ble_eq_true rfl) fun κ A hl => ?_
  subst hl
  unfold rf_emit
  refine z_aload_n (pc' := 1) (k := 0) (i := 0) 0 rfl rfl ⟨by decide +kernel, rfl⟩ ?_
  refine z_getR (pc' := 4) (rff_op ca D) rfl (y := a 10) rfl ⟨by decide +kernel, rfl⟩ ?_
  refine z_aload_n (pc' := 5) (k := 0) (i := 0) 0 rfl rfl ⟨by decide +kernel, rfl⟩ ?_
  refine z_getI (pc' := 8) (rff_codes ca D) rfl ⟨by decide +kernel, rfl⟩ ?_
  refine z_iload_n (pc' := 9) (k := 1) (i := 1) 1 rfl rfl ⟨by decide +kernel, rfl⟩ ?_
  refine z_iast (pc' := 10) 10 rfl (zlt rfl) rfl rfl ⟨by decide +kernel, rfl⟩ (z_letU fun u1 => ?_)
  refine z_aload_n (pc' := 11) (k := 0) (i := 0) 0 rfl rfl ⟨by decide +kernel, rfl⟩ ?_
  refine z_getR (pc' := 14) (rff_opA ca D) rfl (y := a 11) rfl ⟨by decide +kernel, rfl⟩ ?_
  refine z_aload_n (pc' := 15) (k := 0) (i := 0) 0 rfl rfl ⟨by decide +kernel, rfl⟩ ?_
  refine z_getI (pc' := 18) (rff_codes ca D) rfl ⟨by decide +kernel, rfl⟩ ?_
  refine z_iload_n (pc' := 19) (k := 2) (i := 2) 2 rfl rfl ⟨by decide +kernel, rfl⟩ ?_
  refine z_iast (pc' := 20) 11 rfl (zlt rfl) rfl rfl ⟨by decide +kernel, rfl⟩ (z_letU fun u2 => ?_)
  refine z_aload_n (pc' := 21) (k := 0) (i := 0) 0 rfl rfl ⟨by decide +kernel, rfl⟩ ?_
  refine z_getR (pc' := 24) (rff_opB ca D) rfl (y := a 12) rfl ⟨by decide +kernel, rfl⟩ ?_
  refine z_aload_n (pc' := 25) (k := 0) (i := 0) 0 rfl rfl ⟨by decide +kernel, rfl⟩ ?_
  refine z_getI (pc' := 28) (rff_codes ca D) rfl ⟨by decide +kernel, rfl⟩ ?_
  refine z_iload_n (pc' := 29) (k := 3) (i := 3) 3 rfl rfl ⟨by decide +kernel, rfl⟩ ?_
  refine z_iast (pc' := 30) 12 rfl (zlt rfl) rfl rfl ⟨by decide +kernel, rfl⟩ (z_letU fun u3 => ?_)
  refine z_aload_n (pc' := 31) (k := 0) (i := 0) 0 rfl rfl ⟨by decide +kernel, rfl⟩ ?_
  refine z_getR (pc' := 34) (rff_opPlace ca D) rfl (y := a 13) rfl ⟨by decide +kernel, rfl⟩ ?_
  refine z_aload_n (pc' := 35) (k := 0) (i := 0) 0 rfl rfl ⟨by decide +kernel, rfl⟩ ?_
  refine z_getI (pc' := 38) (rff_codes ca D) rfl ⟨by decide +kernel, rfl⟩ ?_
  refine z_iload (pc' := 40) (i := 4) 4 rfl ⟨by decide +kernel, rfl⟩ ?_
  refine z_iast (pc' := 41) 13 rfl (zlt rfl) rfl rfl ⟨by decide +kernel, rfl⟩ (z_letU fun u4 => ?_)
  refine z_aload_n (pc' := 42) (k := 0) (i := 0) 0 rfl rfl ⟨by decide +kernel, rfl⟩ ?_
  refine z_dup (pc' := 43) rfl ⟨by decide +kernel, rfl⟩ ?_
  refine z_getI (pc' := 46) (rff_codes ca D) rfl ⟨by decide +kernel, rfl⟩ ?_
  refine z_iconst (pc' := 47) (n := 1) (v := 1) (by decide) ⟨by decide +kernel, rfl⟩ ?_
  refine z_iadd (pc' := 48) ⟨by decide +kernel, rfl⟩ ?_
  refine z_putI (pc' := 51) (rff_codes ca D) rfl ⟨by decide +kernel, rfl⟩ (z_letU fun u5 => ?_)
  exact z_vret (pc' := 52) ⟨by decide +kernel, rfl⟩
set_option maxRecDepth 20000 in
set_option maxHeartbeats 4000000 in
theorem rft_newSite {l : Launch} {ca : Nat → ClassId} {D : va_G} {a g : Nat → Nat} (n : Nat) (u : zMu) (x1 : Int32) (x2 : Int32) : zMet l (zRf ca D) rfY_newSite (.code rfY_newSite prog_13_method_21_code 3 (some .int)) zri true 1 a g [.ref (a 0), .int x1, .int x2] u (rf_newSite n u x1 x2) := by
  refine zMet.of rfl (Nat.le_of_ble_eq_true rfl) fun κ A hl => ?_
  subst hl
  unfold rf_newSite
  refine z_aload_n (pc' := 1) (k := 0) (i := 0) 0 rfl rfl ⟨by decide +kernel, rfl⟩ ?_
  refine z_getR (pc' := 4) (rff_siteKind ca D) rfl (y := a 19) rfl ⟨by decide +kernel, rfl⟩ ?_
  refine z_aload_n (pc' := 5) (k := 0) (i := 0) 0 rfl rfl ⟨by decide +kernel, rfl⟩ ?_
  refine z_getI (pc' := 8) (rff_sites ca D) rfl ⟨by decide +kernel, rfl⟩ ?_
  refine z_iload_n (pc' := 9) (k := 1) (i := 1) 1 rfl rfl ⟨by decide +kernel, rfl⟩ ?_
  refine z_iast (pc' := 10) 19 rfl (zlt rfl) rfl rfl ⟨by decide +kernel, rfl⟩ (z_letU fun u1 => ?_)
  refine z_aload_n (pc' := 11) (k := 0) (i := 0) 0 rfl rfl ⟨by decide +kernel, rfl⟩ ?_
  refine z_getR (pc' := 14) (rff_sitePlace ca D) rfl (y := a 20) rfl ⟨by decide +kernel, rfl⟩ ?_
  refine z_aload_n (pc' := 15) (k := 0) (i := 0) 0 rfl rfl ⟨by decide +kernel, rfl⟩ ?_
  refine z_getI (pc' := 18) (rff_sites ca D) rfl ⟨by decide +kernel, rfl⟩ ?_
  refine z_aload_n (pc' := 19) (k := 0) (i := 0) 0 rfl rfl ⟨by decide +kernel, rfl⟩ ?_
  refine z_callVf (pc' := 22) 0 (rft_place n u1) (rfG_place ca D) (rfO ca D) rfl (by omega) rfl rfl (Nat.le_of_ble_eq_true rfl) ⟨by decide +kernel, rfl⟩ (fun r2 u3 => ?_)
  refine z_iast (pc' := 23) 20 rfl (zlt rfl) rfl rfl ⟨by decide +kernel, rfl⟩ (z_letU fun u4 => ?_)
  refine z_aload_n (pc' := 24) (k := 0) (i := 0) 0 rfl rfl ⟨by decide +kernel, rfl⟩ ?_
  refine z_getR (pc' := 27) (rff_siteFn ca D) rfl (y := a 21) rfl ⟨by decide +kernel, rfl⟩ ?_
  refine z_aload_n (pc' := 28) (k := 0) (i := 0) 0 rfl rfl ⟨by decide +kernel, rfl⟩ ?_
  refine z_getI (pc' := 31) (rff_sites ca D) rfl ⟨by decide +kernel, rfl⟩ ?_
  refine z_aload_n (pc' := 32) (k := 0) (i := 0) 0 rfl rfl ⟨by decide +kernel, rfl⟩ ?_
  refine z_getI (pc' := 35) (rff_routine ca D) rfl ⟨by decide +kernel, rfl⟩ ?_
  refine z_iast (pc' := 36) 21 rfl (zlt rfl) rfl rfl ⟨by decide +kernel, rfl⟩ (z_letU fun u5 => ?_)
  refine z_aload_n (pc' := 37) (k := 0) (i := 0) 0 rfl rfl ⟨by decide +kernel, rfl⟩ ?_
  refine z_getR (pc' := 40) (rff_siteName ca D) rfl (y := a 22) rfl ⟨by decide +kernel, rfl⟩ ?_
  refine z_aload_n (pc' := 41) (k := 0) (i := 0) 0 rfl rfl ⟨by decide +kernel, rfl⟩ ?_
  refine z_getI (pc' := 44) (rff_sites ca D) rfl ⟨by decide +kernel, rfl⟩ ?_
  refine z_iload_n (pc' := 45) (k := 2) (i := 2) 2 rfl rfl ⟨by decide +kernel, rfl⟩ ?_
  refine z_iast (pc' := 46) 22 rfl (zlt rfl) rfl rfl ⟨by decide +kernel, rfl⟩ (z_letU fun u6 => ?_)
  refine z_aload_n (pc' := 47) (k := 0) (i := 0) 0 rfl rfl ⟨by decide +kernel, rfl⟩ ?_
  refine z_getI (pc' := 50) (rff_sites ca D) rfl ⟨by decide +kernel, rfl⟩ ?_
  refine z_bipush (pc' := 52) (n := 80) (v := 80) (by decide) ⟨by decide +kernel, rfl⟩ ?_
  refine z_icmp_ne (pc' := 55) (tgt := 64) (off := 12) ⟨by decide +kernel, rfl⟩ rfl (fun h7 => ?_) (fun h7 => ?_)
  · refine z_aload_n (pc' := 56) (k := 0) (i := 0) 0 rfl rfl ⟨by decide +kernel, rfl⟩ ?_
    refine z_aload_n (pc' := 57) (k := 0) (i := 0) 0 rfl rfl ⟨by decide +kernel, rfl⟩ ?_
    refine z_callVf (pc' := 60) 0 (rft_place n u6) (rfG_place ca D) (rfO ca D) rfl (by omega) rfl rfl (Nat.le_of_ble_eq_true rfl) ⟨by decide +kernel, rfl⟩ (fun r8 u9 => ?_)
    refine z_iconst (pc' := 61) (n := 3) (v := 3) (by decide) ⟨by decide +kernel, rfl⟩ ?_
    refine z_callVf (pc' := 64) 0 (rft_notes n u9 r8 3) (rfG_notes ca D) (rfO ca D) rfl (by omega) rfl rfl (Nat.le_of_ble_eq_true rfl) ⟨by decide +kernel, rfl⟩ (fun _ u11 => ?_)
    refine z_aload_n (pc' := 65) (k := 0) (i := 0) 0 rfl rfl ⟨by decide +kernel, rfl⟩ ?_
    refine z_dup (pc' := 66) rfl ⟨by decide +kernel, rfl⟩ ?_
    refine z_getI (pc' := 69) (rff_sites ca D) rfl ⟨by decide +kernel, rfl⟩ ?_
    refine z_letI fun v12 => ?_
    refine z_dup_x1 (pc' := 70) rfl rfl ⟨by decide +kernel, rfl⟩ ?_
    refine z_iconst (pc' := 71) (n := 1) (v := 1) (by decide) ⟨by decide +kernel, rfl⟩ ?_
    refine z_iadd (pc' := 72) ⟨by decide +kernel, rfl⟩ ?_
    refine z_putI (pc' := 75) (rff_sites ca D) rfl ⟨by decide +kernel, rfl⟩ (z_letU fun u13 => ?_)
    exact z_iret (pc' := 76) ⟨by decide +kernel, rfl⟩
  · refine z_aload_n (pc' := 65) (k := 0) (i := 0) 0 rfl rfl ⟨by decide +kernel, rfl⟩ ?_
    refine z_dup (pc' := 66) rfl ⟨by decide +kernel, rfl⟩ ?_
    refine z_getI (pc' := 69) (rff_sites ca D) rfl ⟨by decide +kernel, rfl⟩ ?_
    refine z_letI fun v14 => ?_
    refine z_dup_x1 (pc' := 70) rfl rfl ⟨by decide +kernel, rfl⟩ ?_
    refine z_iconst (pc' := 71) (n := 1) (v := 1) (by decide) ⟨by decide +kernel, rfl⟩ ?_
    refine z_iadd (pc' := 72) ⟨by decide +kernel, rfl⟩ ?_
    refine z_putI (pc' := 75) (rff_sites ca D) rfl ⟨by decide +kernel, rfl⟩ (z_letU fun u15 => ?_)
    exact z_iret (pc' := 76) ⟨by decide +kernel, rfl⟩
set_option maxRecDepth 20000 in
set_option maxHeartbeats 4000000 in
theorem rf_findVar_L20_t {κ : zKx} {ca : Nat → ClassId} {D : va_G} {A : Nat → Prop} {c0 : Nat × Nat} {a g0 g : Nat → Nat} (n : Nat) : ∀ (m : Nat) (u : zMu) (x1 : Int32) (x2 : Int32) (x3 : Int32), zJ κ (zRf ca D) prog_13_method_22_code 4 rf_C (some .int) zri true 0 A c0 a g0 g u 20 [(0, .ref (a 0)), (1, .int x1), (2, .int x2), (3, .int x3)] [] (rf_findVar_L20 n m u x1 x2 x3) := by
  intro m
  induction m with
  | zero => intro u x1 x2 x3 r u' h; cases h
  | succ m ih =>
    intro u x1 x2 x3
    unfold rf_findVar_L20
    refine z_iload_n (pc' := 21) (k := 3) (i := 3) 3 rfl rfl ⟨by decide +kernel, rfl⟩ ?_
    refine z_aload_n (pc' := 22) (k := 0) (i := 0) 0 rfl rfl ⟨by decide +kernel, rfl⟩ ?_
    refine z_getR (pc' := 25) (rff_varN ca D) rfl (y := a 17) rfl ⟨by decide +kernel, rfl⟩ ?_
    refine z_iload_n (pc' := 26) (k := 2) (i := 2) 2 rfl rfl ⟨by decide +kernel, rfl⟩ ?_
    refine z_iald (pc' := 27) 17 rfl (zlt rfl) rfl rfl ⟨by decide +kernel, rfl⟩ ?_
    refine z_icmp_ge (pc' := 30) (tgt := 53) (off := 26) ⟨by decide +kernel, rfl⟩ rfl (fun h1 => ?_) (fun h1 => ?_)
    · refine z_aload_n (pc' := 31) (k := 0) (i := 0) 0 rfl rfl ⟨by decide +kernel, rfl⟩ ?_
      refine z_getR (pc' := 34) (rff_varName ca D) rfl (y := a 18) rfl ⟨by decide +kernel, rfl⟩ ?_
      refine z_bipush (pc' := 36) (n := 13) (v := 13) (by decide) ⟨by decide +kernel, rfl⟩ ?_
      refine z_iload_n (pc' := 37) (k := 2) (i := 2) 2 rfl rfl ⟨by decide +kernel, rfl⟩ ?_
      refine z_imul (pc' := 38) ⟨by decide +kernel, rfl⟩ ?_
      refine z_iload_n (pc' := 39) (k := 3) (i := 3) 3 rfl rfl ⟨by decide +kernel, rfl⟩ ?_
      refine z_iadd (pc' := 40) ⟨by decide +kernel, rfl⟩ ?_
      refine z_iald (pc' := 41) 18 rfl (zlt rfl) rfl rfl ⟨by decide +kernel, rfl⟩ ?_
      refine z_iload_n (pc' := 42) (k := 1) (i := 1) 1 rfl rfl ⟨by decide +kernel, rfl⟩ ?_
      refine z_icmp_ne (pc' := 45) (tgt := 47) (off := 5) ⟨by decide +kernel, rfl⟩ rfl (fun h2 => ?_) (fun h2 => ?_)
      · refine z_iload_n (pc' := 46) (k := 3) (i := 3) 3 rfl rfl ⟨by decide +kernel, rfl⟩ ?_
        exact z_iret (pc' := 47) ⟨by decide +kernel, rfl⟩
      · refine z_iincN (pc' := 50) (i := 3) (n := 1) (c := 1) 3 rfl (by decide) (by decide) rfl ⟨by decide +kernel, rfl⟩ fun v3 => ?_
        refine z_goto (tgt := 20) (off := -30) (by decide +kernel) rfl ?_
        refine z_lv [1, 2, 3, 0] (lv' := [(0, .ref (a 0)), (1, .int x1), (2, .int x2), (3, .int v3)]) rfl ?_
        exact ih u x1 x2 v3
    · refine z_iconst (pc' := 54) (n := (-1)) (v := (-1)) (by decide) ⟨by decide +kernel, rfl⟩ ?_
      exact z_iret (pc' := 55) ⟨by decide +kernel, rfl⟩
set_option maxRecDepth 20000 in
set_option maxHeartbeats 4000000 in
theorem rft_findVar {l : Launch} {ca : Nat → ClassId} {D : va_G} {a g : Nat → Nat} (n : Nat) (u : zMu) (x1 : Int32) : zMet l (zRf ca D) rfY_findVar (.code rfY_findVar prog_13_method_22_code 4 (some .int)) zri true 0 a g [.ref (a 0), .int x1] u (rf_findVar n u x1) := by
  refine zMet.of rfl (Nat.le_of_ble_eq_true rfl) fun κ A hl => ?_
  subst hl
  unfold rf_findVar
  refine z_aload_n (pc' := 1) (k := 0) (i := 0) 0 rfl rfl ⟨by decide +kernel, rfl⟩ ?_
  refine z_getI (pc' := 4) (rff_routine ca D) rfl ⟨by decide +kernel, rfl⟩ ?_
  refine z_iconst (pc' := 5) (n := (-1)) (v := (-1)) (by decide) ⟨by decide +kernel, rfl⟩ ?_
  refine z_icmp_ne (pc' := 8) (tgt := 13) (off := 8) ⟨by decide +kernel, rfl⟩ rfl (fun h1 => ?_) (fun h1 => ?_)
  · refine z_bipush (pc' := 10) (n := 9) (v := 9) (by decide) ⟨by decide +kernel, rfl⟩ ?_
    refine z_goto (tgt := 17) (off := 7) (by decide +kernel) rfl ?_
    refine z_istore_n (pc' := 18) (k := 2) (i := 2) rfl (by decide) rfl ⟨by decide +kernel, rfl⟩ ?_
    refine z_iconst (pc' := 19) (n := 0) (v := 0) (by decide) ⟨by decide +kernel, rfl⟩ ?_
    refine z_istore_n (pc' := 20) (k := 3) (i := 3) rfl (by decide) rfl ⟨by decide +kernel, rfl⟩ ?_
    refine z_lv [2, 3, 1, 0] (lv' := [(0, .ref (a 0)), (1, .int x1), (2, .int 9), (3, .int 0)]) rfl ?_
    exact rf_findVar_L20_t n n u x1 9 0
  · refine z_aload_n (pc' := 14) (k := 0) (i := 0) 0 rfl rfl ⟨by decide +kernel, rfl⟩ ?_
    refine z_getI (pc' := 17) (rff_routine ca D) rfl ⟨by decide +kernel, rfl⟩ ?_
    refine z_letI fun v2 => ?_
    refine z_istore_n (pc' := 18) (k := 2) (i := 2) rfl (by decide) rfl ⟨by decide +kernel, rfl⟩ ?_
    refine z_iconst (pc' := 19) (n := 0) (v := 0) (by decide) ⟨by decide +kernel, rfl⟩ ?_
    refine z_istore_n (pc' := 20) (k := 3) (i := 3) rfl (by decide) rfl ⟨by decide +kernel, rfl⟩ ?_
    refine z_lv [2, 3, 1, 0] (lv' := [(0, .ref (a 0)), (1, .int x1), (2, .int v2), (3, .int 0)]) rfl ?_
    exact rf_findVar_L20_t n n u x1 v2 0
set_option maxRecDepth 20000 in
set_option maxHeartbeats 4000000 in
theorem rf_addVar_J17_t {κ : zKx} {ca : Nat → ClassId} {D : va_G} {A : Nat → Prop} {c0 : Nat × Nat} {a g0 g : Nat → Nat} (n : Nat) (u : zMu) (x1 : Int32) (x2 : Int32) (s0 : Int32) : zJ κ (zRf ca D) prog_13_method_23_code 4 rf_C none zrv true 1 A c0 a g0 g u 17 [(0, .ref (a 0)), (1, .int x1), (2, .int x2)] [.int s0] (rf_addVar_J17 n u x1 x2 s0) := by
  unfold rf_addVar_J17
  refine z_istore_n (pc' := 18) (k := 3) (i := 3) rfl (by decide) rfl ⟨by decide +kernel, rfl⟩ ?_
  refine z_aload_n (pc' := 19) (k := 0) (i := 0) 1 rfl rfl ⟨by decide +kernel, rfl⟩ ?_
  refine z_iload_n (pc' := 20) (k := 1) (i := 1) 2 rfl rfl ⟨by decide +kernel, rfl⟩ ?_
  refine z_callVf (pc' := 23) 0 (rft_findVar n u x1) (rfG_findVar ca D) (rfO ca D) rfl (by omega) rfl rfl (Nat.le_of_ble_eq_true rfl) ⟨by decide +kernel, rfl⟩ (fun r1 u2 => ?_)
  refine z_iconst (pc' := 24) (n := (-1)) (v := (-1)) (by decide) ⟨by decide +kernel, rfl⟩ ?_
  refine z_icmp_eq (pc' := 27) (tgt := 28) (off := 4) ⟨by decide +kernel, rfl⟩ rfl (fun h3 => ?_) (fun h3 => ?_)
  · refine z_aload_n (pc' := 29) (k := 0) (i := 0) 1 rfl rfl ⟨by decide +kernel, rfl⟩ ?_
    refine z_getR (pc' := 32) (rff_varN ca D) rfl (y := a 17) rfl ⟨by decide +kernel, rfl⟩ ?_
    refine z_iload_n (pc' := 33) (k := 3) (i := 3) 0 rfl rfl ⟨by decide +kernel, rfl⟩ ?_
    refine z_iald (pc' := 34) 17 rfl (zlt rfl) rfl rfl ⟨by decide +kernel, rfl⟩ ?_
    refine z_bipush (pc' := 36) (n := 12) (v := 12) (by decide) ⟨by decide +kernel, rfl⟩ ?_
    refine z_icmp_ne (pc' := 39) (tgt := 46) (off := 10) ⟨by decide +kernel, rfl⟩ rfl (fun h4 => ?_) (fun h4 => ?_)
    · refine z_aload_n (pc' := 40) (k := 0) (i := 0) 1 rfl rfl ⟨by decide +kernel, rfl⟩ ?_
      refine z_iload_n (pc' := 41) (k := 2) (i := 2) 3 rfl rfl ⟨by decide +kernel, rfl⟩ ?_
      refine z_iconst (pc' := 42) (n := 3) (v := 3) (by decide) ⟨by decide +kernel, rfl⟩ ?_
      refine z_callVf (pc' := 45) 0 (rft_notes n u2 x2 3) (rfG_notes ca D) (rfO ca D) rfl (by omega) rfl rfl (Nat.le_of_ble_eq_true rfl) ⟨by decide +kernel, rfl⟩ (fun _ u6 => ?_)
      exact z_vret (pc' := 46) ⟨by decide +kernel, rfl⟩
    · refine z_aload_n (pc' := 47) (k := 0) (i := 0) 1 rfl rfl ⟨by decide +kernel, rfl⟩ ?_
      refine z_getR (pc' := 50) (rff_varName ca D) rfl (y := a 18) rfl ⟨by decide +kernel, rfl⟩ ?_
      refine z_bipush (pc' := 52) (n := 13) (v := 13) (by decide) ⟨by decide +kernel, rfl⟩ ?_
      refine z_iload_n (pc' := 53) (k := 3) (i := 3) 0 rfl rfl ⟨by decide +kernel, rfl⟩ ?_
      refine z_imul (pc' := 54) ⟨by decide +kernel, rfl⟩ ?_
      refine z_aload_n (pc' := 55) (k := 0) (i := 0) 1 rfl rfl ⟨by decide +kernel, rfl⟩ ?_
      refine z_getR (pc' := 58) (rff_varN ca D) rfl (y := a 17) rfl ⟨by decide +kernel, rfl⟩ ?_
      refine z_iload_n (pc' := 59) (k := 3) (i := 3) 0 rfl rfl ⟨by decide +kernel, rfl⟩ ?_
      refine z_dup2_11 (pc' := 60) rfl rfl ⟨by decide +kernel, rfl⟩ ?_
      refine z_iald (pc' := 61) 17 rfl (zlt rfl) rfl rfl ⟨by decide +kernel, rfl⟩ ?_
      refine z_letI fun v7 => ?_
      refine z_dup_x2 (pc' := 62) rfl rfl rfl ⟨by decide +kernel, rfl⟩ ?_
      refine z_iconst (pc' := 63) (n := 1) (v := 1) (by decide) ⟨by decide +kernel, rfl⟩ ?_
      refine z_iadd (pc' := 64) ⟨by decide +kernel, rfl⟩ ?_
      refine z_iast (pc' := 65) 17 rfl (zlt rfl) rfl rfl ⟨by decide +kernel, rfl⟩ (z_letU fun u8 => ?_)
      refine z_iadd (pc' := 66) ⟨by decide +kernel, rfl⟩ ?_
      refine z_iload_n (pc' := 67) (k := 1) (i := 1) 2 rfl rfl ⟨by decide +kernel, rfl⟩ ?_
      refine z_iast (pc' := 68) 18 rfl (zlt rfl) rfl rfl ⟨by decide +kernel, rfl⟩ (z_letU fun u9 => ?_)
      exact z_vret (pc' := 69) ⟨by decide +kernel, rfl⟩
  · exact z_vret (pc' := 28) ⟨by decide +kernel, rfl⟩
set_option maxRecDepth 20000 in
set_option maxHeartbeats 4000000 in
theorem rft_addVar {l : Launch} {ca : Nat → ClassId} {D : va_G} {a g : Nat → Nat} (n : Nat) (u : zMu) (x1 : Int32) (x2 : Int32) : zMet l (zRf ca D) rfY_addVar (.code rfY_addVar prog_13_method_23_code 4 none) zrv true 1 a g [.ref (a 0), .int x1, .int x2] u (rf_addVar n u x1 x2) := by
  refine zMet.of rfl (Nat.le_of_ble_eq_true rfl) fun κ A hl => ?_
  subst hl
  unfold rf_addVar
  refine z_aload_n (pc' := 1) (k := 0) (i := 0) 0 rfl rfl ⟨by decide +kernel, rfl⟩ ?_
  refine z_getI (pc' := 4) (rff_routine ca D) rfl ⟨by decide +kernel, rfl⟩ ?_
  refine z_iconst (pc' := 5) (n := (-1)) (v := (-1)) (by decide) ⟨by decide +kernel, rfl⟩ ?_
  refine z_icmp_ne (pc' := 8) (tgt := 13) (off := 8) ⟨by decide +kernel, rfl⟩ rfl (fun h1 => ?_) (fun h1 => ?_)
  · refine z_bipush (pc' := 10) (n := 9) (v := 9) (by decide) ⟨by decide +kernel, rfl⟩ ?_
    refine z_goto (tgt := 17) (off := 7) (by decide +kernel) rfl ?_
    exact rf_addVar_J17_t n u x1 x2 9
  · refine z_aload_n (pc' := 14) (k := 0) (i := 0) 0 rfl rfl ⟨by decide +kernel, rfl⟩ ?_
    refine z_getI (pc' := 17) (rff_routine ca D) rfl ⟨by decide +kernel, rfl⟩ ?_
    exact rf_addVar_J17_t n u x1 x2 (zI u 0 27)
