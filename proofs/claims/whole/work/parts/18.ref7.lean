/-! the reference's methods meet their models (printed by wip/gen/ref.py) -/
set_option maxRecDepth 20000 in
set_option maxHeartbeats 4000000 in
theorem rft_isPrinted {l : Launch} {ca : Nat → ClassId} {D : va_G} {a g : Nat → Nat} (n : Nat) (u : zMu) (x1 : Int32) : zMet l (zRf ca D) rfY_isPrinted (.code rfY_isPrinted prog_13_method_71_code 2 (some .boolean)) zri true 0 a g [.ref (a 0), .int x1] u (rf_isPrinted n u x1) := by
  refine zMet.of rfl (Nat.le_of_ble_eq_true rfl) fun κ A hl => ?_
  subst hl
  unfold rf_isPrinted
  refine z_iload_n (pc' := 1) (k := 1) (i := 1) 1 rfl rfl ⟨by decide +kernel, rfl⟩ ?_
  refine z_if_lt (pc' := 4) (tgt := 23) (off := 22) ⟨by decide +kernel, rfl⟩ rfl (fun h1 => ?_) (fun h1 => ?_)
  · refine z_iconst (pc' := 24) (n := 0) (v := 0) (by decide) ⟨by decide +kernel, rfl⟩ ?_
    exact z_zret (pc' := 25) (by decide) ⟨by decide +kernel, rfl⟩
  · refine z_iload_n (pc' := 5) (k := 1) (i := 1) 1 rfl rfl ⟨by decide +kernel, rfl⟩ ?_
    refine z_aload_n (pc' := 6) (k := 0) (i := 0) 0 rfl rfl ⟨by decide +kernel, rfl⟩ ?_
    refine z_getI (pc' := 9) (rff_printedN ca D) rfl ⟨by decide +kernel, rfl⟩ ?_
    refine z_icmp_ge (pc' := 12) (tgt := 23) (off := 14) ⟨by decide +kernel, rfl⟩ rfl (fun h2 => ?_) (fun h2 => ?_)
    · refine z_iload_n (pc' := 13) (k := 1) (i := 1) 1 rfl rfl ⟨by decide +kernel, rfl⟩ ?_
      refine z_sipush (pc' := 16) (n := 200) (v := 200) (by decide) ⟨by decide +kernel, rfl⟩ ?_
      refine z_icmp_ge (pc' := 19) (tgt := 23) (off := 7) ⟨by decide +kernel, rfl⟩ rfl (fun h3 => ?_) (fun h3 => ?_)
      · refine z_iconst (pc' := 20) (n := 1) (v := 1) (by decide) ⟨by decide +kernel, rfl⟩ ?_
        refine z_goto (tgt := 24) (off := 4) (by decide +kernel) rfl ?_
        exact z_zret (pc' := 25) (by decide) ⟨by decide +kernel, rfl⟩
      · refine z_iconst (pc' := 24) (n := 0) (v := 0) (by decide) ⟨by decide +kernel, rfl⟩ ?_
        exact z_zret (pc' := 25) (by decide) ⟨by decide +kernel, rfl⟩
    · refine z_iconst (pc' := 24) (n := 0) (v := 0) (by decide) ⟨by decide +kernel, rfl⟩ ?_
      exact z_zret (pc' := 25) (by decide) ⟨by decide +kernel, rfl⟩
set_option maxRecDepth 20000 in
set_option maxHeartbeats 4000000 in
theorem rf_paper_J12_t {κ : zKx} {ca : Nat → ClassId} {D : va_G} {A : Nat → Prop} {c0 : Nat × Nat} {a g0 g : Nat → Nat} (n : Nat) (u : zMu) (x1 : Int32) (x2 : Int32) : zJ κ (zRf ca D) prog_13_method_72_code 3 rf_C (some .int) zri true 2 A c0 a g0 g u 12 [(0, .ref (a 0)), (1, .int x1), (2, .int x2)] [] (rf_paper_J12 n u x1 x2) := by
  unfold rf_paper_J12
  refine z_aload_n (pc' := 13) (k := 0) (i := 0) 0 rfl rfl ⟨by decide +kernel, rfl⟩ ?_
  refine z_iload_n (pc' := 14) (k := 1) (i := 1) 1 rfl rfl ⟨by decide +kernel, rfl⟩ ?_
  refine z_callVf (pc' := 17) 0 (rft_isPrinted n u x1) (rfG_isPrinted ca D) (rfO ca D) rfl (by omega) rfl rfl (Nat.le_of_ble_eq_true rfl) ⟨by decide +kernel, rfl⟩ (fun r1 u2 => ?_)
  refine z_if_ne (pc' := 20) (tgt := 22) (off := 5) ⟨by decide +kernel, rfl⟩ rfl (fun h3 => ?_) (fun h3 => ?_)
  · refine z_iconst (pc' := 21) (n := (-1)) (v := (-1)) (by decide) ⟨by decide +kernel, rfl⟩ ?_
    exact z_iret (pc' := 22) ⟨by decide +kernel, rfl⟩
  · refine z_iload_n (pc' := 23) (k := 2) (i := 2) 2 rfl rfl ⟨by decide +kernel, rfl⟩ ?_
    refine z_if_ne (pc' := 26) (tgt := 42) (off := 19) ⟨by decide +kernel, rfl⟩ rfl (fun h4 => ?_) (fun h4 => ?_)
    · refine z_aload_n (pc' := 27) (k := 0) (i := 0) 0 rfl rfl ⟨by decide +kernel, rfl⟩ ?_
      refine z_getR (pc' := 30) (rff_paperSort ca D) rfl (y := a 33) rfl ⟨by decide +kernel, rfl⟩ ?_
      refine z_iload_n (pc' := 31) (k := 1) (i := 1) 1 rfl rfl ⟨by decide +kernel, rfl⟩ ?_
      refine z_iald (pc' := 32) 33 rfl (zlt rfl) rfl rfl ⟨by decide +kernel, rfl⟩ ?_
      refine z_aload_n (pc' := 33) (k := 0) (i := 0) 0 rfl rfl ⟨by decide +kernel, rfl⟩ ?_
      refine z_getR (pc' := 36) (rff_paperNum ca D) rfl (y := a 34) rfl ⟨by decide +kernel, rfl⟩ ?_
      refine z_iload_n (pc' := 37) (k := 1) (i := 1) 1 rfl rfl ⟨by decide +kernel, rfl⟩ ?_
      refine z_lald (pc' := 38) 34 rfl (zlt rfl) rfl rfl ⟨by decide +kernel, rfl⟩ ?_
      refine z_callSf (pc' := 41) (rft_sortOf n u2 (zI u2 33 (zx x1)) (zL u2 34 (zx x1))) (rfG_sortOf ca D) (by omega) rfl rfl (Nat.le_of_ble_eq_true rfl) ⟨by decide +kernel, rfl⟩ (fun r5 u6 => ?_)
      exact z_iret (pc' := 42) ⟨by decide +kernel, rfl⟩
    · refine z_aload_n (pc' := 43) (k := 0) (i := 0) 0 rfl rfl ⟨by decide +kernel, rfl⟩ ?_
      refine z_getR (pc' := 46) (rff_paperSort ca D) rfl (y := a 33) rfl ⟨by decide +kernel, rfl⟩ ?_
      refine z_iload_n (pc' := 47) (k := 1) (i := 1) 1 rfl rfl ⟨by decide +kernel, rfl⟩ ?_
      refine z_iald (pc' := 48) 33 rfl (zlt rfl) rfl rfl ⟨by decide +kernel, rfl⟩ ?_
      refine z_iconst (pc' := 49) (n := 2) (v := 2) (by decide) ⟨by decide +kernel, rfl⟩ ?_
      refine z_icmp_lt (pc' := 52) (tgt := 62) (off := 13) ⟨by decide +kernel, rfl⟩ rfl (fun h7 => ?_) (fun h7 => ?_)
      · refine z_iconst (pc' := 63) (n := 0) (v := 0) (by decide) ⟨by decide +kernel, rfl⟩ ?_
        exact z_iret (pc' := 64) ⟨by decide +kernel, rfl⟩
      · refine z_aload_n (pc' := 53) (k := 0) (i := 0) 0 rfl rfl ⟨by decide +kernel, rfl⟩ ?_
        refine z_getR (pc' := 56) (rff_paperNum ca D) rfl (y := a 34) rfl ⟨by decide +kernel, rfl⟩ ?_
        refine z_iload_n (pc' := 57) (k := 1) (i := 1) 1 rfl rfl ⟨by decide +kernel, rfl⟩ ?_
        refine z_lald (pc' := 58) 34 rfl (zlt rfl) rfl rfl ⟨by decide +kernel, rfl⟩ ?_
        refine z_l2i (pc' := 59) ⟨by decide +kernel, rfl⟩ ?_
        refine z_goto (tgt := 63) (off := 4) (by decide +kernel) rfl ?_
        exact z_iret (pc' := 64) ⟨by decide +kernel, rfl⟩
set_option maxRecDepth 20000 in
set_option maxHeartbeats 4000000 in
theorem rft_paper {l : Launch} {ca : Nat → ClassId} {D : va_G} {a g : Nat → Nat} (n : Nat) (u : zMu) (x1 : Int32) (x2 : Int32) : zMet l (zRf ca D) rfY_paper (.code rfY_paper prog_13_method_72_code 3 (some .int)) zri true 2 a g [.ref (a 0), .int x1, .int x2] u (rf_paper n u x1 x2) := by
  refine zMet.of rfl (Nat.le_of_ble_eq_true rfl) fun κ A hl => ?_
  subst hl
  unfold rf_paper
  refine z_iload_n (pc' := 1) (k := 2) (i := 2) 2 rfl rfl ⟨by decide +kernel, rfl⟩ ?_
  refine z_if_eq (pc' := 4) (tgt := 12) (off := 11) ⟨by decide +kernel, rfl⟩ rfl (fun h1 => ?_) (fun h1 => ?_)
  · exact rf_paper_J12_t n u x1 x2
  · refine z_iload_n (pc' := 5) (k := 2) (i := 2) 2 rfl rfl ⟨by decide +kernel, rfl⟩ ?_
    refine z_iconst (pc' := 6) (n := 1) (v := 1) (by decide) ⟨by decide +kernel, rfl⟩ ?_
    refine z_icmp_eq (pc' := 9) (tgt := 12) (off := 6) ⟨by decide +kernel, rfl⟩ rfl (fun h2 => ?_) (fun h2 => ?_)
    · exact rf_paper_J12_t n u x1 x2
    · refine z_bipush (pc' := 11) (n := (-2)) (v := (-2)) (by decide) ⟨by decide +kernel, rfl⟩ ?_
      exact z_iret (pc' := 12) ⟨by decide +kernel, rfl⟩
set_option maxRecDepth 20000 in
set_option maxHeartbeats 4000000 in
theorem rft_printed {l : Launch} {ca : Nat → ClassId} {D : va_G} {a g : Nat → Nat} (n : Nat) (u : zMu) (x1 : Int32) : zMet l (zRf ca D) rfY_printed (.code rfY_printed prog_13_method_73_code 2 (some .long)) zrl true 1 a g [.ref (a 0), .int x1] u (rf_printed n u x1) := by
  refine zMet.of rfl (Nat.le_of_ble_eq_true rfl) fun κ A hl => ?_
  subst hl
  unfold rf_printed
  refine z_aload_n (pc' := 1) (k := 0) (i := 0) 0 rfl rfl ⟨by decide +kernel, rfl⟩ ?_
  refine z_iload_n (pc' := 2) (k := 1) (i := 1) 1 rfl rfl ⟨by decide +kernel, rfl⟩ ?_
  refine z_callVf (pc' := 5) 0 (rft_isPrinted n u x1) (rfG_isPrinted ca D) (rfO ca D) rfl (by omega) rfl rfl (Nat.le_of_ble_eq_true rfl) ⟨by decide +kernel, rfl⟩ (fun r1 u2 => ?_)
  refine z_if_eq (pc' := 8) (tgt := 27) (off := 22) ⟨by decide +kernel, rfl⟩ rfl (fun h3 => ?_) (fun h3 => ?_)
  · refine z_lconst (pc' := 28) (n := 0) (v := 0) (by decide) ⟨by decide +kernel, rfl⟩ ?_
    exact z_lret (pc' := 29) ⟨by decide +kernel, rfl⟩
  · refine z_aload_n (pc' := 9) (k := 0) (i := 0) 0 rfl rfl ⟨by decide +kernel, rfl⟩ ?_
    refine z_getR (pc' := 12) (rff_paperSort ca D) rfl (y := a 33) rfl ⟨by decide +kernel, rfl⟩ ?_
    refine z_iload_n (pc' := 13) (k := 1) (i := 1) 1 rfl rfl ⟨by decide +kernel, rfl⟩ ?_
    refine z_iald (pc' := 14) 33 rfl (zlt rfl) rfl rfl ⟨by decide +kernel, rfl⟩ ?_
    refine z_iconst (pc' := 15) (n := 1) (v := 1) (by decide) ⟨by decide +kernel, rfl⟩ ?_
    refine z_icmp_ne (pc' := 18) (tgt := 27) (off := 12) ⟨by decide +kernel, rfl⟩ rfl (fun h4 => ?_) (fun h4 => ?_)
    · refine z_aload_n (pc' := 19) (k := 0) (i := 0) 0 rfl rfl ⟨by decide +kernel, rfl⟩ ?_
      refine z_getR (pc' := 22) (rff_paperNum ca D) rfl (y := a 34) rfl ⟨by decide +kernel, rfl⟩ ?_
      refine z_iload_n (pc' := 23) (k := 1) (i := 1) 1 rfl rfl ⟨by decide +kernel, rfl⟩ ?_
      refine z_lald (pc' := 24) 34 rfl (zlt rfl) rfl rfl ⟨by decide +kernel, rfl⟩ ?_
      refine z_goto (tgt := 28) (off := 4) (by decide +kernel) rfl ?_
      exact z_lret (pc' := 29) ⟨by decide +kernel, rfl⟩
    · refine z_lconst (pc' := 28) (n := 0) (v := 0) (by decide) ⟨by decide +kernel, rfl⟩ ?_
      exact z_lret (pc' := 29) ⟨by decide +kernel, rfl⟩
set_option maxRecDepth 20000 in
set_option maxHeartbeats 4000000 in
theorem rft_object {l : Launch} {ca : Nat → ClassId} {D : va_G} {a g : Nat → Nat} (n : Nat) (u : zMu) (x1 : Int32) (x2 : Int32) : zMet l (zRf ca D) rfY_object (.code rfY_object prog_13_method_74_code 3 (some .int)) zri true 0 a g [.ref (a 0), .int x1, .int x2] u (rf_object n u x1 x2) := by
  refine zMet.of rfl (Nat.le_of_ble_eq_true rfl) fun κ A hl => ?_
  subst hl
  unfold rf_object
  refine z_iload_n (pc' := 1) (k := 1) (i := 1) 1 rfl rfl ⟨by decide +kernel, rfl⟩ ?_
  refine z_if_lt (pc' := 4) (tgt := 12) (off := 11) ⟨by decide +kernel, rfl⟩ rfl (fun h1 => ?_) (fun h1 => ?_)
  · refine z_bipush (pc' := 14) (n := (-2)) (v := (-2)) (by decide) ⟨by decide +kernel, rfl⟩ ?_
    exact z_iret (pc' := 15) ⟨by decide +kernel, rfl⟩
  · refine z_iload_n (pc' := 5) (k := 1) (i := 1) 1 rfl rfl ⟨by decide +kernel, rfl⟩ ?_
    refine z_aload_n (pc' := 6) (k := 0) (i := 0) 0 rfl rfl ⟨by decide +kernel, rfl⟩ ?_
    refine z_getI (pc' := 9) (rff_objects ca D) rfl ⟨by decide +kernel, rfl⟩ ?_
    refine z_icmp_lt (pc' := 12) (tgt := 15) (off := 6) ⟨by decide +kernel, rfl⟩ rfl (fun h2 => ?_) (fun h2 => ?_)
    · refine z_iload_n (pc' := 16) (k := 2) (i := 2) 2 rfl rfl ⟨by decide +kernel, rfl⟩ ?_
      refine z_if_ne (pc' := 19) (tgt := 28) (off := 12) ⟨by decide +kernel, rfl⟩ rfl (fun h3 => ?_) (fun h3 => ?_)
      · refine z_aload_n (pc' := 20) (k := 0) (i := 0) 0 rfl rfl ⟨by decide +kernel, rfl⟩ ?_
        refine z_getR (pc' := 23) (rff_oShape ca D) rfl (y := a 36) rfl ⟨by decide +kernel, rfl⟩ ?_
        refine z_iload_n (pc' := 24) (k := 1) (i := 1) 1 rfl rfl ⟨by decide +kernel, rfl⟩ ?_
        refine z_iald (pc' := 25) 36 rfl (zlt rfl) rfl rfl ⟨by decide +kernel, rfl⟩ ?_
        refine z_goto (tgt := 58) (off := 33) (by decide +kernel) rfl ?_
        exact z_iret (pc' := 59) ⟨by decide +kernel, rfl⟩
      · refine z_iload_n (pc' := 29) (k := 2) (i := 2) 2 rfl rfl ⟨by decide +kernel, rfl⟩ ?_
        refine z_iconst (pc' := 30) (n := 1) (v := 1) (by decide) ⟨by decide +kernel, rfl⟩ ?_
        refine z_icmp_ne (pc' := 33) (tgt := 42) (off := 12) ⟨by decide +kernel, rfl⟩ rfl (fun h4 => ?_) (fun h4 => ?_)
        · refine z_aload_n (pc' := 34) (k := 0) (i := 0) 0 rfl rfl ⟨by decide +kernel, rfl⟩ ?_
          refine z_getR (pc' := 37) (rff_oParent ca D) rfl (y := a 35) rfl ⟨by decide +kernel, rfl⟩ ?_
          refine z_iload_n (pc' := 38) (k := 1) (i := 1) 1 rfl rfl ⟨by decide +kernel, rfl⟩ ?_
          refine z_iald (pc' := 39) 35 rfl (zlt rfl) rfl rfl ⟨by decide +kernel, rfl⟩ ?_
          refine z_goto (tgt := 58) (off := 19) (by decide +kernel) rfl ?_
          exact z_iret (pc' := 59) ⟨by decide +kernel, rfl⟩
        · refine z_iload_n (pc' := 43) (k := 2) (i := 2) 2 rfl rfl ⟨by decide +kernel, rfl⟩ ?_
          refine z_iconst (pc' := 44) (n := 2) (v := 2) (by decide) ⟨by decide +kernel, rfl⟩ ?_
          refine z_icmp_ne (pc' := 47) (tgt := 56) (off := 12) ⟨by decide +kernel, rfl⟩ rfl (fun h5 => ?_) (fun h5 => ?_)
          · refine z_aload_n (pc' := 48) (k := 0) (i := 0) 0 rfl rfl ⟨by decide +kernel, rfl⟩ ?_
            refine z_getR (pc' := 51) (rff_oSize ca D) rfl (y := a 39) rfl ⟨by decide +kernel, rfl⟩ ?_
            refine z_iload_n (pc' := 52) (k := 1) (i := 1) 1 rfl rfl ⟨by decide +kernel, rfl⟩ ?_
            refine z_iald (pc' := 53) 39 rfl (zlt rfl) rfl rfl ⟨by decide +kernel, rfl⟩ ?_
            refine z_goto (tgt := 58) (off := 5) (by decide +kernel) rfl ?_
            exact z_iret (pc' := 59) ⟨by decide +kernel, rfl⟩
          · refine z_bipush (pc' := 58) (n := (-2)) (v := (-2)) (by decide) ⟨by decide +kernel, rfl⟩ ?_
            exact z_iret (pc' := 59) ⟨by decide +kernel, rfl⟩
    · refine z_bipush (pc' := 14) (n := (-2)) (v := (-2)) (by decide) ⟨by decide +kernel, rfl⟩ ?_
      exact z_iret (pc' := 15) ⟨by decide +kernel, rfl⟩
set_option maxRecDepth 20000 in
set_option maxHeartbeats 4000000 in
theorem rf_memberAt_L28_t {κ : zKx} {ca : Nat → ClassId} {D : va_G} {A : Nat → Prop} {c0 : Nat × Nat} {a g0 g : Nat → Nat} (n : Nat) : ∀ (m : Nat) (u : zMu) (x2 : Int32) (x3 : Int32) (x4 : Int32), zJ κ (zRf ca D) prog_13_method_75_code 5 rf_C (some .int) zri true 0 A c0 a g0 g u 28 [(0, .ref (a 0)), (2, .int x2), (3, .int x3), (4, .int x4)] [] (rf_memberAt_L28 n m u x2 x3 x4) := by
  intro m
  induction m with
  | zero => intro u x2 x3 x4 r u' h; cases h
  | succ m ih =>
    intro u x2 x3 x4
    unfold rf_memberAt_L28
    refine z_iload (pc' := 30) (i := 4) 3 rfl ⟨by decide +kernel, rfl⟩ ?_
    refine z_iload_n (pc' := 31) (k := 2) (i := 2) 1 rfl rfl ⟨by decide +kernel, rfl⟩ ?_
    refine z_icmp_ge (pc' := 34) (tgt := 52) (off := 21) ⟨by decide +kernel, rfl⟩ rfl (fun h1 => ?_) (fun h1 => ?_)
    · refine z_iload_n (pc' := 35) (k := 3) (i := 3) 2 rfl rfl ⟨by decide +kernel, rfl⟩ ?_
      refine z_iconst (pc' := 36) (n := (-1)) (v := (-1)) (by decide) ⟨by decide +kernel, rfl⟩ ?_
      refine z_icmp_eq (pc' := 39) (tgt := 52) (off := 16) ⟨by decide +kernel, rfl⟩ rfl (fun h2 => ?_) (fun h2 => ?_)
      · refine z_iload_n (pc' := 53) (k := 3) (i := 3) 2 rfl rfl ⟨by decide +kernel, rfl⟩ ?_
        exact z_iret (pc' := 54) ⟨by decide +kernel, rfl⟩
      · refine z_aload_n (pc' := 40) (k := 0) (i := 0) 0 rfl rfl ⟨by decide +kernel, rfl⟩ ?_
        refine z_getR (pc' := 43) (rff_mNext ca D) rfl (y := a 42) rfl ⟨by decide +kernel, rfl⟩ ?_
        refine z_iload_n (pc' := 44) (k := 3) (i := 3) 2 rfl rfl ⟨by decide +kernel, rfl⟩ ?_
        refine z_iald (pc' := 45) 42 rfl (zlt rfl) rfl rfl ⟨by decide +kernel, rfl⟩ ?_
        refine z_letI fun v3 => ?_
        refine z_istore_n (pc' := 46) (k := 3) (i := 3) rfl (by decide) rfl ⟨by decide +kernel, rfl⟩ ?_
        refine z_iincN (pc' := 49) (i := 4) (n := 1) (c := 1) 3 rfl (by decide) (by decide) rfl ⟨by decide +kernel, rfl⟩ fun v4 => ?_
        refine z_goto (tgt := 28) (off := -21) (by decide +kernel) rfl ?_
        refine z_lv [2, 3, 1, 0] (lv' := [(0, .ref (a 0)), (2, .int x2), (3, .int v3), (4, .int v4)]) rfl ?_
        exact ih u x2 v3 v4
    · refine z_iload_n (pc' := 53) (k := 3) (i := 3) 2 rfl rfl ⟨by decide +kernel, rfl⟩ ?_
      exact z_iret (pc' := 54) ⟨by decide +kernel, rfl⟩
set_option maxRecDepth 20000 in
set_option maxHeartbeats 4000000 in
theorem rft_memberAt {l : Launch} {ca : Nat → ClassId} {D : va_G} {a g : Nat → Nat} (n : Nat) (u : zMu) (x1 : Int32) (x2 : Int32) : zMet l (zRf ca D) rfY_memberAt (.code rfY_memberAt prog_13_method_75_code 5 (some .int)) zri true 0 a g [.ref (a 0), .int x1, .int x2] u (rf_memberAt n u x1 x2) := by
  refine zMet.of rfl (Nat.le_of_ble_eq_true rfl) fun κ A hl => ?_
  subst hl
  unfold rf_memberAt
  refine z_iload_n (pc' := 1) (k := 1) (i := 1) 1 rfl rfl ⟨by decide +kernel, rfl⟩ ?_
  refine z_if_lt (pc' := 4) (tgt := 16) (off := 15) ⟨by decide +kernel, rfl⟩ rfl (fun h1 => ?_) (fun h1 => ?_)
  · refine z_iconst (pc' := 17) (n := (-1)) (v := (-1)) (by decide) ⟨by decide +kernel, rfl⟩ ?_
    exact z_iret (pc' := 18) ⟨by decide +kernel, rfl⟩
  · refine z_iload_n (pc' := 5) (k := 1) (i := 1) 1 rfl rfl ⟨by decide +kernel, rfl⟩ ?_
    refine z_aload_n (pc' := 6) (k := 0) (i := 0) 0 rfl rfl ⟨by decide +kernel, rfl⟩ ?_
    refine z_getI (pc' := 9) (rff_objects ca D) rfl ⟨by decide +kernel, rfl⟩ ?_
    refine z_icmp_ge (pc' := 12) (tgt := 16) (off := 7) ⟨by decide +kernel, rfl⟩ rfl (fun h2 => ?_) (fun h2 => ?_)
    · refine z_iload_n (pc' := 13) (k := 2) (i := 2) 2 rfl rfl ⟨by decide +kernel, rfl⟩ ?_
      refine z_if_ge (pc' := 16) (tgt := 18) (off := 5) ⟨by decide +kernel, rfl⟩ rfl (fun h3 => ?_) (fun h3 => ?_)
      · refine z_iconst (pc' := 17) (n := (-1)) (v := (-1)) (by decide) ⟨by decide +kernel, rfl⟩ ?_
        exact z_iret (pc' := 18) ⟨by decide +kernel, rfl⟩
      · refine z_aload_n (pc' := 19) (k := 0) (i := 0) 0 rfl rfl ⟨by decide +kernel, rfl⟩ ?_
        refine z_getR (pc' := 22) (rff_oFirst ca D) rfl (y := a 37) rfl ⟨by decide +kernel, rfl⟩ ?_
        refine z_iload_n (pc' := 23) (k := 1) (i := 1) 1 rfl rfl ⟨by decide +kernel, rfl⟩ ?_
        refine z_iald (pc' := 24) 37 rfl (zlt rfl) rfl rfl ⟨by decide +kernel, rfl⟩ ?_
        refine z_letI fun v4 => ?_
        refine z_istore_n (pc' := 25) (k := 3) (i := 3) rfl (by decide) rfl ⟨by decide +kernel, rfl⟩ ?_
        refine z_iconst (pc' := 26) (n := 0) (v := 0) (by decide) ⟨by decide +kernel, rfl⟩ ?_
        refine z_istore (pc' := 28) (i := 4) (by decide) rfl ⟨by decide +kernel, rfl⟩ ?_
        refine z_lv [2, 4, 1, 0] (lv' := [(0, .ref (a 0)), (2, .int x2), (3, .int v4), (4, .int 0)]) rfl ?_
        exact rf_memberAt_L28_t n n u x2 v4 0
    · refine z_iconst (pc' := 17) (n := (-1)) (v := (-1)) (by decide) ⟨by decide +kernel, rfl⟩ ?_
      exact z_iret (pc' := 18) ⟨by decide +kernel, rfl⟩
set_option maxRecDepth 20000 in
set_option maxHeartbeats 4000000 in
theorem rf_member_J24_t {κ : zKx} {ca : Nat → ClassId} {D : va_G} {A : Nat → Prop} {c0 : Nat × Nat} {a g0 g : Nat → Nat} (n : Nat) (u : zMu) (x1 : Int32) (x2 : Int32) (x3 : Int32) : zJ κ (zRf ca D) prog_13_method_76_code 5 rf_C (some .int) zri true 2 A c0 a g0 g u 24 [(0, .ref (a 0)), (1, .int x1), (2, .int x2), (3, .int x3)] [] (rf_member_J24 n u x1 x2 x3) := by
  unfold rf_member_J24
  refine z_aload_n (pc' := 25) (k := 0) (i := 0) 0 rfl rfl ⟨by decide +kernel, rfl⟩ ?_
  refine z_iload_n (pc' := 26) (k := 1) (i := 1) 1 rfl rfl ⟨by decide +kernel, rfl⟩ ?_
  refine z_iload_n (pc' := 27) (k := 2) (i := 2) 2 rfl rfl ⟨by decide +kernel, rfl⟩ ?_
  refine z_callVf (pc' := 30) 0 (rft_memberAt n u x1 x2) (rfG_memberAt ca D) (rfO ca D) rfl (by omega) rfl rfl (Nat.le_of_ble_eq_true rfl) ⟨by decide +kernel, rfl⟩ (fun r1 u2 => ?_)
  refine z_istore (pc' := 32) (i := 4) (by decide) rfl ⟨by decide +kernel, rfl⟩ ?_
  refine z_iload (pc' := 34) (i := 4) 0 rfl ⟨by decide +kernel, rfl⟩ ?_
  refine z_iconst (pc' := 35) (n := (-1)) (v := (-1)) (by decide) ⟨by decide +kernel, rfl⟩ ?_
  refine z_icmp_ne (pc' := 38) (tgt := 40) (off := 5) ⟨by decide +kernel, rfl⟩ rfl (fun h3 => ?_) (fun h3 => ?_)
  · refine z_iconst (pc' := 39) (n := (-1)) (v := (-1)) (by decide) ⟨by decide +kernel, rfl⟩ ?_
    exact z_iret (pc' := 40) ⟨by decide +kernel, rfl⟩
  · refine z_iload_n (pc' := 41) (k := 3) (i := 3) 4 rfl rfl ⟨by decide +kernel, rfl⟩ ?_
    refine z_if_ne (pc' := 44) (tgt := 62) (off := 21) ⟨by decide +kernel, rfl⟩ rfl (fun h4 => ?_) (fun h4 => ?_)
    · refine z_aload_n (pc' := 45) (k := 0) (i := 0) 1 rfl rfl ⟨by decide +kernel, rfl⟩ ?_
      refine z_getR (pc' := 48) (rff_mSort ca D) rfl (y := a 41) rfl ⟨by decide +kernel, rfl⟩ ?_
      refine z_iload (pc' := 50) (i := 4) 0 rfl ⟨by decide +kernel, rfl⟩ ?_
      refine z_iald (pc' := 51) 41 rfl (zlt rfl) rfl rfl ⟨by decide +kernel, rfl⟩ ?_
      refine z_aload_n (pc' := 52) (k := 0) (i := 0) 1 rfl rfl ⟨by decide +kernel, rfl⟩ ?_
      refine z_getR (pc' := 55) (rff_mNum ca D) rfl (y := a 43) rfl ⟨by decide +kernel, rfl⟩ ?_
      refine z_iload (pc' := 57) (i := 4) 0 rfl ⟨by decide +kernel, rfl⟩ ?_
      refine z_lald (pc' := 58) 43 rfl (zlt rfl) rfl rfl ⟨by decide +kernel, rfl⟩ ?_
      refine z_callSf (pc' := 61) (rft_sortOf n u2 (zI u2 41 (zx r1)) (zL u2 43 (zx r1))) (rfG_sortOf ca D) (by omega) rfl rfl (Nat.le_of_ble_eq_true rfl) ⟨by decide +kernel, rfl⟩ (fun r5 u6 => ?_)
      exact z_iret (pc' := 62) ⟨by decide +kernel, rfl⟩
    · refine z_aload_n (pc' := 63) (k := 0) (i := 0) 1 rfl rfl ⟨by decide +kernel, rfl⟩ ?_
      refine z_getR (pc' := 66) (rff_mSort ca D) rfl (y := a 41) rfl ⟨by decide +kernel, rfl⟩ ?_
      refine z_iload (pc' := 68) (i := 4) 0 rfl ⟨by decide +kernel, rfl⟩ ?_
      refine z_iald (pc' := 69) 41 rfl (zlt rfl) rfl rfl ⟨by decide +kernel, rfl⟩ ?_
      refine z_iconst (pc' := 70) (n := 2) (v := 2) (by decide) ⟨by decide +kernel, rfl⟩ ?_
      refine z_icmp_lt (pc' := 73) (tgt := 84) (off := 14) ⟨by decide +kernel, rfl⟩ rfl (fun h7 => ?_) (fun h7 => ?_)
      · refine z_iconst (pc' := 85) (n := 0) (v := 0) (by decide) ⟨by decide +kernel, rfl⟩ ?_
        exact z_iret (pc' := 86) ⟨by decide +kernel, rfl⟩
      · refine z_aload_n (pc' := 74) (k := 0) (i := 0) 1 rfl rfl ⟨by decide +kernel, rfl⟩ ?_
        refine z_getR (pc' := 77) (rff_mNum ca D) rfl (y := a 43) rfl ⟨by decide +kernel, rfl⟩ ?_
        refine z_iload (pc' := 79) (i := 4) 0 rfl ⟨by decide +kernel, rfl⟩ ?_
        refine z_lald (pc' := 80) 43 rfl (zlt rfl) rfl rfl ⟨by decide +kernel, rfl⟩ ?_
        refine z_l2i (pc' := 81) ⟨by decide +kernel, rfl⟩ ?_
        refine z_goto (tgt := 85) (off := 4) (by decide +kernel) rfl ?_
        exact z_iret (pc' := 86) ⟨by decide +kernel, rfl⟩
set_option maxRecDepth 20000 in
set_option maxHeartbeats 4000000 in
theorem rft_member {l : Launch} {ca : Nat → ClassId} {D : va_G} {a g : Nat → Nat} (n : Nat) (u : zMu) (x1 : Int32) (x2 : Int32) (x3 : Int32) : zMet l (zRf ca D) rfY_member (.code rfY_member prog_13_method_76_code 5 (some .int)) zri true 2 a g [.ref (a 0), .int x1, .int x2, .int x3] u (rf_member n u x1 x2 x3) := by
  refine zMet.of rfl (Nat.le_of_ble_eq_true rfl) fun κ A hl => ?_
  subst hl
  unfold rf_member
  refine z_iload_n (pc' := 1) (k := 1) (i := 1) 1 rfl rfl ⟨by decide +kernel, rfl⟩ ?_
  refine z_if_lt (pc' := 4) (tgt := 21) (off := 20) ⟨by decide +kernel, rfl⟩ rfl (fun h1 => ?_) (fun h1 => ?_)
  · refine z_bipush (pc' := 23) (n := (-2)) (v := (-2)) (by decide) ⟨by decide +kernel, rfl⟩ ?_
    exact z_iret (pc' := 24) ⟨by decide +kernel, rfl⟩
  · refine z_iload_n (pc' := 5) (k := 1) (i := 1) 1 rfl rfl ⟨by decide +kernel, rfl⟩ ?_
    refine z_aload_n (pc' := 6) (k := 0) (i := 0) 0 rfl rfl ⟨by decide +kernel, rfl⟩ ?_
    refine z_getI (pc' := 9) (rff_objects ca D) rfl ⟨by decide +kernel, rfl⟩ ?_
    refine z_icmp_ge (pc' := 12) (tgt := 21) (off := 12) ⟨by decide +kernel, rfl⟩ rfl (fun h2 => ?_) (fun h2 => ?_)
    · refine z_iload_n (pc' := 13) (k := 3) (i := 3) 3 rfl rfl ⟨by decide +kernel, rfl⟩ ?_
      refine z_if_eq (pc' := 16) (tgt := 24) (off := 11) ⟨by decide +kernel, rfl⟩ rfl (fun h3 => ?_) (fun h3 => ?_)
      · exact rf_member_J24_t n u x1 x2 x3
      · refine z_iload_n (pc' := 17) (k := 3) (i := 3) 3 rfl rfl ⟨by decide +kernel, rfl⟩ ?_
        refine z_iconst (pc' := 18) (n := 1) (v := 1) (by decide) ⟨by decide +kernel, rfl⟩ ?_
        refine z_icmp_eq (pc' := 21) (tgt := 24) (off := 6) ⟨by decide +kernel, rfl⟩ rfl (fun h4 => ?_) (fun h4 => ?_)
        · exact rf_member_J24_t n u x1 x2 x3
        · refine z_bipush (pc' := 23) (n := (-2)) (v := (-2)) (by decide) ⟨by decide +kernel, rfl⟩ ?_
          exact z_iret (pc' := 24) ⟨by decide +kernel, rfl⟩
    · refine z_bipush (pc' := 23) (n := (-2)) (v := (-2)) (by decide) ⟨by decide +kernel, rfl⟩ ?_
      exact z_iret (pc' := 24) ⟨by decide +kernel, rfl⟩
set_option maxRecDepth 20000 in
set_option maxHeartbeats 4000000 in
theorem rft_worth {l : Launch} {ca : Nat → ClassId} {D : va_G} {a g : Nat → Nat} (n : Nat) (u : zMu) (x1 : Int32) (x2 : Int32) : zMet l (zRf ca D) rfY_worth (.code rfY_worth prog_13_method_77_code 4 (some .long)) zrl true 1 a g [.ref (a 0), .int x1, .int x2] u (rf_worth n u x1 x2) := by
  refine zMet.of rfl (Nat.le_of_ble_eq_true rfl) fun κ A hl => ?_
  subst hl
  unfold rf_worth
  refine z_aload_n (pc' := 1) (k := 0) (i := 0) 0 rfl rfl ⟨by decide +kernel, rfl⟩ ?_
  refine z_iload_n (pc' := 2) (k := 1) (i := 1) 1 rfl rfl ⟨by decide +kernel, rfl⟩ ?_
  refine z_iload_n (pc' := 3) (k := 2) (i := 2) 2 rfl rfl ⟨by decide +kernel, rfl⟩ ?_
  refine z_callVf (pc' := 6) 0 (rft_memberAt n u x1 x2) (rfG_memberAt ca D) (rfO ca D) rfl (by omega) rfl rfl (Nat.le_of_ble_eq_true rfl) ⟨by decide +kernel, rfl⟩ (fun r1 u2 => ?_)
  refine z_istore_n (pc' := 7) (k := 3) (i := 3) rfl (by decide) rfl ⟨by decide +kernel, rfl⟩ ?_
  refine z_iload_n (pc' := 8) (k := 3) (i := 3) 0 rfl rfl ⟨by decide +kernel, rfl⟩ ?_
  refine z_iconst (pc' := 9) (n := (-1)) (v := (-1)) (by decide) ⟨by decide +kernel, rfl⟩ ?_
  refine z_icmp_eq (pc' := 12) (tgt := 31) (off := 22) ⟨by decide +kernel, rfl⟩ rfl (fun h3 => ?_) (fun h3 => ?_)
  · refine z_lconst (pc' := 32) (n := 0) (v := 0) (by decide) ⟨by decide +kernel, rfl⟩ ?_
    exact z_lret (pc' := 33) ⟨by decide +kernel, rfl⟩
  · refine z_aload_n (pc' := 13) (k := 0) (i := 0) 1 rfl rfl ⟨by decide +kernel, rfl⟩ ?_
    refine z_getR (pc' := 16) (rff_mSort ca D) rfl (y := a 41) rfl ⟨by decide +kernel, rfl⟩ ?_
    refine z_iload_n (pc' := 17) (k := 3) (i := 3) 0 rfl rfl ⟨by decide +kernel, rfl⟩ ?_
    refine z_iald (pc' := 18) 41 rfl (zlt rfl) rfl rfl ⟨by decide +kernel, rfl⟩ ?_
    refine z_iconst (pc' := 19) (n := 1) (v := 1) (by decide) ⟨by decide +kernel, rfl⟩ ?_
    refine z_icmp_ne (pc' := 22) (tgt := 31) (off := 12) ⟨by decide +kernel, rfl⟩ rfl (fun h4 => ?_) (fun h4 => ?_)
    · refine z_aload_n (pc' := 23) (k := 0) (i := 0) 1 rfl rfl ⟨by decide +kernel, rfl⟩ ?_
      refine z_getR (pc' := 26) (rff_mNum ca D) rfl (y := a 43) rfl ⟨by decide +kernel, rfl⟩ ?_
      refine z_iload_n (pc' := 27) (k := 3) (i := 3) 0 rfl rfl ⟨by decide +kernel, rfl⟩ ?_
      refine z_lald (pc' := 28) 43 rfl (zlt rfl) rfl rfl ⟨by decide +kernel, rfl⟩ ?_
      refine z_goto (tgt := 32) (off := 4) (by decide +kernel) rfl ?_
      exact z_lret (pc' := 33) ⟨by decide +kernel, rfl⟩
    · refine z_lconst (pc' := 32) (n := 0) (v := 0) (by decide) ⟨by decide +kernel, rfl⟩ ?_
      exact z_lret (pc' := 33) ⟨by decide +kernel, rfl⟩
set_option maxRecDepth 20000 in
set_option maxHeartbeats 4000000 in
theorem rft_letter {l : Launch} {ca : Nat → ClassId} {D : va_G} {a g : Nat → Nat} (n : Nat) (u : zMu) (x1 : Int32) (x2 : Int32) (x3 : Int32) : zMet l (zRf ca D) rfY_letter (.code rfY_letter prog_13_method_78_code 5 (some .int)) zri true 1 a g [.ref (a 0), .int x1, .int x2, .int x3] u (rf_letter n u x1 x2 x3) := by
  refine zMet.of rfl (Nat.le_of_ble_eq_true rfl) fun κ A hl => ?_
  subst hl
  unfold rf_letter
  refine z_aload_n (pc' := 1) (k := 0) (i := 0) 0 rfl rfl ⟨by decide +kernel, rfl⟩ ?_
  refine z_iload_n (pc' := 2) (k := 1) (i := 1) 1 rfl rfl ⟨by decide +kernel, rfl⟩ ?_
  refine z_iload_n (pc' := 3) (k := 2) (i := 2) 2 rfl rfl ⟨by decide +kernel, rfl⟩ ?_
  refine z_callVf (pc' := 6) 0 (rft_memberAt n u x1 x2) (rfG_memberAt ca D) (rfO ca D) rfl (by omega) rfl rfl (Nat.le_of_ble_eq_true rfl) ⟨by decide +kernel, rfl⟩ (fun r1 u2 => ?_)
  refine z_istore (pc' := 8) (i := 4) (by decide) rfl ⟨by decide +kernel, rfl⟩ ?_
  refine z_iload (pc' := 10) (i := 4) 0 rfl ⟨by decide +kernel, rfl⟩ ?_
  refine z_iconst (pc' := 11) (n := (-1)) (v := (-1)) (by decide) ⟨by decide +kernel, rfl⟩ ?_
  refine z_icmp_eq (pc' := 14) (tgt := 34) (off := 23) ⟨by decide +kernel, rfl⟩ rfl (fun h3 => ?_) (fun h3 => ?_)
  · refine z_iconst (pc' := 35) (n := 0) (v := 0) (by decide) ⟨by decide +kernel, rfl⟩ ?_
    exact z_iret (pc' := 36) ⟨by decide +kernel, rfl⟩
  · refine z_iload_n (pc' := 15) (k := 3) (i := 3) 4 rfl rfl ⟨by decide +kernel, rfl⟩ ?_
    refine z_if_lt (pc' := 18) (tgt := 34) (off := 19) ⟨by decide +kernel, rfl⟩ rfl (fun h4 => ?_) (fun h4 => ?_)
    · refine z_iconst (pc' := 35) (n := 0) (v := 0) (by decide) ⟨by decide +kernel, rfl⟩ ?_
      exact z_iret (pc' := 36) ⟨by decide +kernel, rfl⟩
    · refine z_iload_n (pc' := 19) (k := 3) (i := 3) 4 rfl rfl ⟨by decide +kernel, rfl⟩ ?_
      refine z_aload_n (pc' := 20) (k := 0) (i := 0) 1 rfl rfl ⟨by decide +kernel, rfl⟩ ?_
      refine z_getR (pc' := 23) (rff_nSize ca D) rfl (y := a 8) rfl ⟨by decide +kernel, rfl⟩ ?_
      refine z_aload_n (pc' := 24) (k := 0) (i := 0) 1 rfl rfl ⟨by decide +kernel, rfl⟩ ?_
      refine z_getR (pc' := 27) (rff_mName ca D) rfl (y := a 40) rfl ⟨by decide +kernel, rfl⟩ ?_
      refine z_iload (pc' := 29) (i := 4) 0 rfl ⟨by decide +kernel, rfl⟩ ?_
      refine z_iald (pc' := 30) 40 rfl (zlt rfl) rfl rfl ⟨by decide +kernel, rfl⟩ ?_
      refine z_iald (pc' := 31) 8 rfl (zlt rfl) rfl rfl ⟨by decide +kernel, rfl⟩ ?_
      refine z_icmp_lt (pc' := 34) (tgt := 36) (off := 5) ⟨by decide +kernel, rfl⟩ rfl (fun h5 => ?_) (fun h5 => ?_)
      · refine z_aload_n (pc' := 37) (k := 0) (i := 0) 1 rfl rfl ⟨by decide +kernel, rfl⟩ ?_
        refine z_getR (pc' := 40) (rff_text ca D) rfl (y := a 2) rfl ⟨by decide +kernel, rfl⟩ ?_
        refine z_aload_n (pc' := 41) (k := 0) (i := 0) 1 rfl rfl ⟨by decide +kernel, rfl⟩ ?_
        refine z_getR (pc' := 44) (rff_nBegin ca D) rfl (y := a 7) rfl ⟨by decide +kernel, rfl⟩ ?_
        refine z_aload_n (pc' := 45) (k := 0) (i := 0) 1 rfl rfl ⟨by decide +kernel, rfl⟩ ?_
        refine z_getR (pc' := 48) (rff_mName ca D) rfl (y := a 40) rfl ⟨by decide +kernel, rfl⟩ ?_
        refine z_iload (pc' := 50) (i := 4) 0 rfl ⟨by decide +kernel, rfl⟩ ?_
        refine z_iald (pc' := 51) 40 rfl (zlt rfl) rfl rfl ⟨by decide +kernel, rfl⟩ ?_
        refine z_iald (pc' := 52) 7 rfl (zlt rfl) rfl rfl ⟨by decide +kernel, rfl⟩ ?_
        refine z_iload_n (pc' := 53) (k := 3) (i := 3) 4 rfl rfl ⟨by decide +kernel, rfl⟩ ?_
        refine z_iadd (pc' := 54) ⟨by decide +kernel, rfl⟩ ?_
        refine z_iald (pc' := 55) 2 rfl (zlt rfl) rfl rfl ⟨by decide +kernel, rfl⟩ ?_
        exact z_iret (pc' := 56) ⟨by decide +kernel, rfl⟩
      · refine z_iconst (pc' := 35) (n := 0) (v := 0) (by decide) ⟨by decide +kernel, rfl⟩ ?_
        exact z_iret (pc' := 36) ⟨by decide +kernel, rfl⟩
set_option maxRecDepth 20000 in
set_option maxHeartbeats 4000000 in
theorem rft_row {l : Launch} {ca : Nat → ClassId} {D : va_G} {a g : Nat → Nat} (n : Nat) (u : zMu) (x1 : Int32) (x2 : Int32) : zMet l (zRf ca D) rfY_row (.code rfY_row prog_13_method_79_code 3 (some .int)) zri true 2 a g [.ref (a 0), .int x1, .int x2] u (rf_row n u x1 x2) := by
  refine zMet.of rfl (Nat.le_of_ble_eq_true rfl) fun κ A hl => ?_
  subst hl
  unfold rf_row
  refine z_iload_n (pc' := 1) (k := 1) (i := 1) 1 rfl rfl ⟨by decide +kernel, rfl⟩ ?_
  refine z_if_lt (pc' := 4) (tgt := 16) (off := 15) ⟨by decide +kernel, rfl⟩ rfl (fun h1 => ?_) (fun h1 => ?_)
  · refine z_bipush (pc' := 18) (n := (-2)) (v := (-2)) (by decide) ⟨by decide +kernel, rfl⟩ ?_
    exact z_iret (pc' := 19) ⟨by decide +kernel, rfl⟩
  · refine z_iload_n (pc' := 5) (k := 1) (i := 1) 1 rfl rfl ⟨by decide +kernel, rfl⟩ ?_
    refine z_aload_n (pc' := 6) (k := 0) (i := 0) 0 rfl rfl ⟨by decide +kernel, rfl⟩ ?_
    refine z_getI (pc' := 9) (rff_rows ca D) rfl ⟨by decide +kernel, rfl⟩ ?_
    refine z_icmp_ge (pc' := 12) (tgt := 16) (off := 7) ⟨by decide +kernel, rfl⟩ rfl (fun h2 => ?_) (fun h2 => ?_)
    · refine z_iload_n (pc' := 13) (k := 2) (i := 2) 2 rfl rfl ⟨by decide +kernel, rfl⟩ ?_
      refine z_if_ge (pc' := 16) (tgt := 19) (off := 6) ⟨by decide +kernel, rfl⟩ rfl (fun h3 => ?_) (fun h3 => ?_)
      · refine z_bipush (pc' := 18) (n := (-2)) (v := (-2)) (by decide) ⟨by decide +kernel, rfl⟩ ?_
        exact z_iret (pc' := 19) ⟨by decide +kernel, rfl⟩
      · refine z_iload_n (pc' := 20) (k := 2) (i := 2) 2 rfl rfl ⟨by decide +kernel, rfl⟩ ?_
        refine z_if_ne (pc' := 23) (tgt := 30) (off := 10) ⟨by decide +kernel, rfl⟩ rfl (fun h4 => ?_) (fun h4 => ?_)
        · refine z_aload_n (pc' := 24) (k := 0) (i := 0) 0 rfl rfl ⟨by decide +kernel, rfl⟩ ?_
          refine z_getR (pc' := 27) (rff_rKind ca D) rfl (y := a 48) rfl ⟨by decide +kernel, rfl⟩ ?_
          refine z_iload_n (pc' := 28) (k := 1) (i := 1) 1 rfl rfl ⟨by decide +kernel, rfl⟩ ?_
          refine z_iald (pc' := 29) 48 rfl (zlt rfl) rfl rfl ⟨by decide +kernel, rfl⟩ ?_
          exact z_iret (pc' := 30) ⟨by decide +kernel, rfl⟩
        · refine z_iload_n (pc' := 31) (k := 2) (i := 2) 2 rfl rfl ⟨by decide +kernel, rfl⟩ ?_
          refine z_iconst (pc' := 32) (n := 1) (v := 1) (by decide) ⟨by decide +kernel, rfl⟩ ?_
          refine z_icmp_ne (pc' := 35) (tgt := 42) (off := 10) ⟨by decide +kernel, rfl⟩ rfl (fun h5 => ?_) (fun h5 => ?_)
          · refine z_aload_n (pc' := 36) (k := 0) (i := 0) 0 rfl rfl ⟨by decide +kernel, rfl⟩ ?_
            refine z_getR (pc' := 39) (rff_rSize ca D) rfl (y := a 49) rfl ⟨by decide +kernel, rfl⟩ ?_
            refine z_iload_n (pc' := 40) (k := 1) (i := 1) 1 rfl rfl ⟨by decide +kernel, rfl⟩ ?_
            refine z_iald (pc' := 41) 49 rfl (zlt rfl) rfl rfl ⟨by decide +kernel, rfl⟩ ?_
            exact z_iret (pc' := 42) ⟨by decide +kernel, rfl⟩
          · refine z_iload_n (pc' := 43) (k := 2) (i := 2) 2 rfl rfl ⟨by decide +kernel, rfl⟩ ?_
            refine z_iconst (pc' := 44) (n := 2) (v := 2) (by decide) ⟨by decide +kernel, rfl⟩ ?_
            refine z_isub (pc' := 45) ⟨by decide +kernel, rfl⟩ ?_
            refine z_aload_n (pc' := 46) (k := 0) (i := 0) 0 rfl rfl ⟨by decide +kernel, rfl⟩ ?_
            refine z_getR (pc' := 49) (rff_rSize ca D) rfl (y := a 49) rfl ⟨by decide +kernel, rfl⟩ ?_
            refine z_iload_n (pc' := 50) (k := 1) (i := 1) 1 rfl rfl ⟨by decide +kernel, rfl⟩ ?_
            refine z_iald (pc' := 51) 49 rfl (zlt rfl) rfl rfl ⟨by decide +kernel, rfl⟩ ?_
            refine z_icmp_lt (pc' := 54) (tgt := 56) (off := 5) ⟨by decide +kernel, rfl⟩ rfl (fun h6 => ?_) (fun h6 => ?_)
            · refine z_aload_n (pc' := 57) (k := 0) (i := 0) 0 rfl rfl ⟨by decide +kernel, rfl⟩ ?_
              refine z_getR (pc' := 60) (rff_iSort ca D) rfl (y := a 50) rfl ⟨by decide +kernel, rfl⟩ ?_
              refine z_bipush (pc' := 62) (n := 50) (v := 50) (by decide) ⟨by decide +kernel, rfl⟩ ?_
              refine z_iload_n (pc' := 63) (k := 1) (i := 1) 1 rfl rfl ⟨by decide +kernel, rfl⟩ ?_
              refine z_imul (pc' := 64) ⟨by decide +kernel, rfl⟩ ?_
              refine z_iload_n (pc' := 65) (k := 2) (i := 2) 2 rfl rfl ⟨by decide +kernel, rfl⟩ ?_
              refine z_iadd (pc' := 66) ⟨by decide +kernel, rfl⟩ ?_
              refine z_iconst (pc' := 67) (n := 2) (v := 2) (by decide) ⟨by decide +kernel, rfl⟩ ?_
              refine z_isub (pc' := 68) ⟨by decide +kernel, rfl⟩ ?_
              refine z_iald (pc' := 69) 50 rfl (zlt rfl) rfl rfl ⟨by decide +kernel, rfl⟩ ?_
              refine z_aload_n (pc' := 70) (k := 0) (i := 0) 0 rfl rfl ⟨by decide +kernel, rfl⟩ ?_
              refine z_getR (pc' := 73) (rff_iNum ca D) rfl (y := a 51) rfl ⟨by decide +kernel, rfl⟩ ?_
              refine z_bipush (pc' := 75) (n := 50) (v := 50) (by decide) ⟨by decide +kernel, rfl⟩ ?_
              refine z_iload_n (pc' := 76) (k := 1) (i := 1) 1 rfl rfl ⟨by decide +kernel, rfl⟩ ?_
              refine z_imul (pc' := 77) ⟨by decide +kernel, rfl⟩ ?_
              refine z_iload_n (pc' := 78) (k := 2) (i := 2) 2 rfl rfl ⟨by decide +kernel, rfl⟩ ?_
              refine z_iadd (pc' := 79) ⟨by decide +kernel, rfl⟩ ?_
              refine z_iconst (pc' := 80) (n := 2) (v := 2) (by decide) ⟨by decide +kernel, rfl⟩ ?_
              refine z_isub (pc' := 81) ⟨by decide +kernel, rfl⟩ ?_
              refine z_lald (pc' := 82) 51 rfl (zlt rfl) rfl rfl ⟨by decide +kernel, rfl⟩ ?_
              refine z_callSf (pc' := 85) (rft_sortOf n u (zI u 50 (zx (((50 * x1) + x2) - 2))) (zL u 51 (zx (((50 * x1) + x2) - 2)))) (rfG_sortOf ca D) (by omega) rfl rfl (Nat.le_of_ble_eq_true rfl) ⟨by decide +kernel, rfl⟩ (fun r7 u8 => ?_)
              exact z_iret (pc' := 86) ⟨by decide +kernel, rfl⟩
            · refine z_iconst (pc' := 55) (n := (-1)) (v := (-1)) (by decide) ⟨by decide +kernel, rfl⟩ ?_
              exact z_iret (pc' := 56) ⟨by decide +kernel, rfl⟩
    · refine z_bipush (pc' := 18) (n := (-2)) (v := (-2)) (by decide) ⟨by decide +kernel, rfl⟩ ?_
      exact z_iret (pc' := 19) ⟨by decide +kernel, rfl⟩
set_option maxRecDepth 20000 in
set_option maxHeartbeats 4000000 in
theorem rft_item {l : Launch} {ca : Nat → ClassId} {D : va_G} {a g : Nat → Nat} (n : Nat) (u : zMu) (x1 : Int32) (x2 : Int32) : zMet l (zRf ca D) rfY_item (.code rfY_item prog_13_method_80_code 3 (some .long)) zrl true 0 a g [.ref (a 0), .int x1, .int x2] u (rf_item n u x1 x2) := by
  refine zMet.of rfl (Nat.le_of_ble_eq_true rfl) fun κ A hl => ?_
  subst hl
  unfold rf_item
  refine z_iload_n (pc' := 1) (k := 1) (i := 1) 1 rfl rfl ⟨by decide +kernel, rfl⟩ ?_
  refine z_if_lt (pc' := 4) (tgt := 41) (off := 40) ⟨by decide +kernel, rfl⟩ rfl (fun h1 => ?_) (fun h1 => ?_)
  · refine z_lconst (pc' := 42) (n := 0) (v := 0) (by decide) ⟨by decide +kernel, rfl⟩ ?_
    exact z_lret (pc' := 43) ⟨by decide +kernel, rfl⟩
  · refine z_iload_n (pc' := 5) (k := 1) (i := 1) 1 rfl rfl ⟨by decide +kernel, rfl⟩ ?_
    refine z_aload_n (pc' := 6) (k := 0) (i := 0) 0 rfl rfl ⟨by decide +kernel, rfl⟩ ?_
    refine z_getI (pc' := 9) (rff_rows ca D) rfl ⟨by decide +kernel, rfl⟩ ?_
    refine z_icmp_ge (pc' := 12) (tgt := 41) (off := 32) ⟨by decide +kernel, rfl⟩ rfl (fun h2 => ?_) (fun h2 => ?_)
    · refine z_iload_n (pc' := 13) (k := 2) (i := 2) 2 rfl rfl ⟨by decide +kernel, rfl⟩ ?_
      refine z_if_lt (pc' := 16) (tgt := 41) (off := 28) ⟨by decide +kernel, rfl⟩ rfl (fun h3 => ?_) (fun h3 => ?_)
      · refine z_lconst (pc' := 42) (n := 0) (v := 0) (by decide) ⟨by decide +kernel, rfl⟩ ?_
        exact z_lret (pc' := 43) ⟨by decide +kernel, rfl⟩
      · refine z_iload_n (pc' := 17) (k := 2) (i := 2) 2 rfl rfl ⟨by decide +kernel, rfl⟩ ?_
        refine z_aload_n (pc' := 18) (k := 0) (i := 0) 0 rfl rfl ⟨by decide +kernel, rfl⟩ ?_
        refine z_getR (pc' := 21) (rff_rSize ca D) rfl (y := a 49) rfl ⟨by decide +kernel, rfl⟩ ?_
        refine z_iload_n (pc' := 22) (k := 1) (i := 1) 1 rfl rfl ⟨by decide +kernel, rfl⟩ ?_
        refine z_iald (pc' := 23) 49 rfl (zlt rfl) rfl rfl ⟨by decide +kernel, rfl⟩ ?_
        refine z_icmp_ge (pc' := 26) (tgt := 41) (off := 18) ⟨by decide +kernel, rfl⟩ rfl (fun h4 => ?_) (fun h4 => ?_)
        · refine z_aload_n (pc' := 27) (k := 0) (i := 0) 0 rfl rfl ⟨by decide +kernel, rfl⟩ ?_
          refine z_getR (pc' := 30) (rff_iSort ca D) rfl (y := a 50) rfl ⟨by decide +kernel, rfl⟩ ?_
          refine z_bipush (pc' := 32) (n := 50) (v := 50) (by decide) ⟨by decide +kernel, rfl⟩ ?_
          refine z_iload_n (pc' := 33) (k := 1) (i := 1) 1 rfl rfl ⟨by decide +kernel, rfl⟩ ?_
          refine z_imul (pc' := 34) ⟨by decide +kernel, rfl⟩ ?_
          refine z_iload_n (pc' := 35) (k := 2) (i := 2) 2 rfl rfl ⟨by decide +kernel, rfl⟩ ?_
          refine z_iadd (pc' := 36) ⟨by decide +kernel, rfl⟩ ?_
          refine z_iald (pc' := 37) 50 rfl (zlt rfl) rfl rfl ⟨by decide +kernel, rfl⟩ ?_
          refine z_iconst (pc' := 38) (n := 1) (v := 1) (by decide) ⟨by decide +kernel, rfl⟩ ?_
          refine z_icmp_eq (pc' := 41) (tgt := 43) (off := 5) ⟨by decide +kernel, rfl⟩ rfl (fun h5 => ?_) (fun h5 => ?_)
          · refine z_aload_n (pc' := 44) (k := 0) (i := 0) 0 rfl rfl ⟨by decide +kernel, rfl⟩ ?_
            refine z_getR (pc' := 47) (rff_iNum ca D) rfl (y := a 51) rfl ⟨by decide +kernel, rfl⟩ ?_
            refine z_bipush (pc' := 49) (n := 50) (v := 50) (by decide) ⟨by decide +kernel, rfl⟩ ?_
            refine z_iload_n (pc' := 50) (k := 1) (i := 1) 1 rfl rfl ⟨by decide +kernel, rfl⟩ ?_
            refine z_imul (pc' := 51) ⟨by decide +kernel, rfl⟩ ?_
            refine z_iload_n (pc' := 52) (k := 2) (i := 2) 2 rfl rfl ⟨by decide +kernel, rfl⟩ ?_
            refine z_iadd (pc' := 53) ⟨by decide +kernel, rfl⟩ ?_
            refine z_lald (pc' := 54) 51 rfl (zlt rfl) rfl rfl ⟨by decide +kernel, rfl⟩ ?_
            exact z_lret (pc' := 55) ⟨by decide +kernel, rfl⟩
          · refine z_lconst (pc' := 42) (n := 0) (v := 0) (by decide) ⟨by decide +kernel, rfl⟩ ?_
            exact z_lret (pc' := 43) ⟨by decide +kernel, rfl⟩
        · refine z_lconst (pc' := 42) (n := 0) (v := 0) (by decide) ⟨by decide +kernel, rfl⟩ ?_
          exact z_lret (pc' := 43) ⟨by decide +kernel, rfl⟩
    · refine z_lconst (pc' := 42) (n := 0) (v := 0) (by decide) ⟨by decide +kernel, rfl⟩ ?_
      exact z_lret (pc' := 43) ⟨by decide +kernel, rfl⟩
set_option maxRecDepth 20000 in
set_option maxHeartbeats 4000000 in
theorem rf_shape_L63_t {κ : zKx} {ca : Nat → ClassId} {D : va_G} {A : Nat → Prop} {c0 : Nat × Nat} {a g0 g : Nat → Nat} (n : Nat) : ∀ (m : Nat) (u : zMu) (x1 : Int32) (x3 : Int32) (x4 : Int32), zJ κ (zRf ca D) prog_13_method_81_code 5 rf_C (some .int) zri true 0 A c0 a g0 g u 63 [(0, .ref (a 0)), (1, .int x1), (3, .int x3), (4, .int x4)] [] (rf_shape_L63 n m u x1 x3 x4) := by
  intro m
  induction m with
  | zero => intro u x1 x3 x4 r u' h; cases h
  | succ m ih =>
    intro u x1 x3 x4
    unfold rf_shape_L63
    refine z_iload (pc' := 65) (i := 4) 3 rfl ⟨by decide +kernel, rfl⟩ ?_
    refine z_aload_n (pc' := 66) (k := 0) (i := 0) 0 rfl rfl ⟨by decide +kernel, rfl⟩ ?_
    refine z_getI (pc' := 69) (rff_shapes ca D) rfl ⟨by decide +kernel, rfl⟩ ?_
    refine z_icmp_ge (pc' := 72) (tgt := 92) (off := 23) ⟨by decide +kernel, rfl⟩ rfl (fun h1 => ?_) (fun h1 => ?_)
    · refine z_aload_n (pc' := 73) (k := 0) (i := 0) 0 rfl rfl ⟨by decide +kernel, rfl⟩ ?_
      refine z_getR (pc' := 76) (rff_sUp ca D) rfl (y := a 45) rfl ⟨by decide +kernel, rfl⟩ ?_
      refine z_iload (pc' := 78) (i := 4) 3 rfl ⟨by decide +kernel, rfl⟩ ?_
      refine z_iald (pc' := 79) 45 rfl (zlt rfl) rfl rfl ⟨by decide +kernel, rfl⟩ ?_
      refine z_iload_n (pc' := 80) (k := 1) (i := 1) 1 rfl rfl ⟨by decide +kernel, rfl⟩ ?_
      refine z_icmp_ne (pc' := 83) (tgt := 86) (off := 6) ⟨by decide +kernel, rfl⟩ rfl (fun h2 => ?_) (fun h2 => ?_)
      · refine z_iincN (pc' := 86) (i := 3) (n := 1) (c := 1) 2 rfl (by decide) (by decide) rfl ⟨by decide +kernel, rfl⟩ fun v3 => ?_
        refine z_iincN (pc' := 89) (i := 4) (n := 1) (c := 1) 3 rfl (by decide) (by decide) rfl ⟨by decide +kernel, rfl⟩ fun v4 => ?_
        refine z_goto (tgt := 63) (off := -26) (by decide +kernel) rfl ?_
        refine z_lv [2, 3, 1, 0] (lv' := [(0, .ref (a 0)), (1, .int x1), (3, .int v3), (4, .int v4)]) rfl ?_
        exact ih u x1 v3 v4
      · refine z_iincN (pc' := 89) (i := 4) (n := 1) (c := 1) 3 rfl (by decide) (by decide) rfl ⟨by decide +kernel, rfl⟩ fun v5 => ?_
        refine z_goto (tgt := 63) (off := -26) (by decide +kernel) rfl ?_
        refine z_lv [1, 2, 3, 0] (lv' := [(0, .ref (a 0)), (1, .int x1), (3, .int x3), (4, .int v5)]) rfl ?_
        exact ih u x1 x3 v5
    · refine z_iload_n (pc' := 93) (k := 3) (i := 3) 2 rfl rfl ⟨by decide +kernel, rfl⟩ ?_
      exact z_iret (pc' := 94) ⟨by decide +kernel, rfl⟩
set_option maxRecDepth 20000 in
set_option maxHeartbeats 4000000 in
theorem rft_shape {l : Launch} {ca : Nat → ClassId} {D : va_G} {a g : Nat → Nat} (n : Nat) (u : zMu) (x1 : Int32) (x2 : Int32) : zMet l (zRf ca D) rfY_shape (.code rfY_shape prog_13_method_81_code 5 (some .int)) zri true 0 a g [.ref (a 0), .int x1, .int x2] u (rf_shape n u x1 x2) := by
  refine zMet.of rfl (Nat.le_of_ble_eq_true rfl) fun κ A hl => ?_
  subst hl
  unfold rf_shape
  refine z_iload_n (pc' := 1) (k := 1) (i := 1) 1 rfl rfl ⟨by decide +kernel, rfl⟩ ?_
  refine z_if_lt (pc' := 4) (tgt := 12) (off := 11) ⟨by decide +kernel, rfl⟩ rfl (fun h1 => ?_) (fun h1 => ?_)
  · refine z_bipush (pc' := 14) (n := (-2)) (v := (-2)) (by decide) ⟨by decide +kernel, rfl⟩ ?_
    exact z_iret (pc' := 15) ⟨by decide +kernel, rfl⟩
  · refine z_iload_n (pc' := 5) (k := 1) (i := 1) 1 rfl rfl ⟨by decide +kernel, rfl⟩ ?_
    refine z_aload_n (pc' := 6) (k := 0) (i := 0) 0 rfl rfl ⟨by decide +kernel, rfl⟩ ?_
    refine z_getI (pc' := 9) (rff_shapes ca D) rfl ⟨by decide +kernel, rfl⟩ ?_
    refine z_icmp_lt (pc' := 12) (tgt := 15) (off := 6) ⟨by decide +kernel, rfl⟩ rfl (fun h2 => ?_) (fun h2 => ?_)
    · refine z_iload_n (pc' := 16) (k := 2) (i := 2) 2 rfl rfl ⟨by decide +kernel, rfl⟩ ?_
      refine z_if_ne (pc' := 19) (tgt := 26) (off := 10) ⟨by decide +kernel, rfl⟩ rfl (fun h3 => ?_) (fun h3 => ?_)
      · refine z_aload_n (pc' := 20) (k := 0) (i := 0) 0 rfl rfl ⟨by decide +kernel, rfl⟩ ?_
        refine z_getR (pc' := 23) (rff_sParent ca D) rfl (y := a 44) rfl ⟨by decide +kernel, rfl⟩ ?_
        refine z_iload_n (pc' := 24) (k := 1) (i := 1) 1 rfl rfl ⟨by decide +kernel, rfl⟩ ?_
        refine z_iald (pc' := 25) 44 rfl (zlt rfl) rfl rfl ⟨by decide +kernel, rfl⟩ ?_
        exact z_iret (pc' := 26) ⟨by decide +kernel, rfl⟩
      · refine z_iload_n (pc' := 27) (k := 2) (i := 2) 2 rfl rfl ⟨by decide +kernel, rfl⟩ ?_
        refine z_iconst (pc' := 28) (n := 1) (v := 1) (by decide) ⟨by decide +kernel, rfl⟩ ?_
        refine z_icmp_ne (pc' := 31) (tgt := 38) (off := 10) ⟨by decide +kernel, rfl⟩ rfl (fun h4 => ?_) (fun h4 => ?_)
        · refine z_aload_n (pc' := 32) (k := 0) (i := 0) 0 rfl rfl ⟨by decide +kernel, rfl⟩ ?_
          refine z_getR (pc' := 35) (rff_sSize ca D) rfl (y := a 47) rfl ⟨by decide +kernel, rfl⟩ ?_
          refine z_iload_n (pc' := 36) (k := 1) (i := 1) 1 rfl rfl ⟨by decide +kernel, rfl⟩ ?_
          refine z_iald (pc' := 37) 47 rfl (zlt rfl) rfl rfl ⟨by decide +kernel, rfl⟩ ?_
          exact z_iret (pc' := 38) ⟨by decide +kernel, rfl⟩
        · refine z_iload_n (pc' := 39) (k := 2) (i := 2) 2 rfl rfl ⟨by decide +kernel, rfl⟩ ?_
          refine z_iconst (pc' := 40) (n := 2) (v := 2) (by decide) ⟨by decide +kernel, rfl⟩ ?_
          refine z_icmp_ne (pc' := 43) (tgt := 50) (off := 10) ⟨by decide +kernel, rfl⟩ rfl (fun h5 => ?_) (fun h5 => ?_)
          · refine z_aload_n (pc' := 44) (k := 0) (i := 0) 0 rfl rfl ⟨by decide +kernel, rfl⟩ ?_
            refine z_getR (pc' := 47) (rff_sUp ca D) rfl (y := a 45) rfl ⟨by decide +kernel, rfl⟩ ?_
            refine z_iload_n (pc' := 48) (k := 1) (i := 1) 1 rfl rfl ⟨by decide +kernel, rfl⟩ ?_
            refine z_iald (pc' := 49) 45 rfl (zlt rfl) rfl rfl ⟨by decide +kernel, rfl⟩ ?_
            exact z_iret (pc' := 50) ⟨by decide +kernel, rfl⟩
          · refine z_iload_n (pc' := 51) (k := 2) (i := 2) 2 rfl rfl ⟨by decide +kernel, rfl⟩ ?_
            refine z_iconst (pc' := 52) (n := 3) (v := 3) (by decide) ⟨by decide +kernel, rfl⟩ ?_
            refine z_icmp_eq (pc' := 55) (tgt := 58) (off := 6) ⟨by decide +kernel, rfl⟩ rfl (fun h6 => ?_) (fun h6 => ?_)
            · refine z_iconst (pc' := 59) (n := 0) (v := 0) (by decide) ⟨by decide +kernel, rfl⟩ ?_
              refine z_istore_n (pc' := 60) (k := 3) (i := 3) rfl (by decide) rfl ⟨by decide +kernel, rfl⟩ ?_
              refine z_iconst (pc' := 61) (n := 0) (v := 0) (by decide) ⟨by decide +kernel, rfl⟩ ?_
              refine z_istore (pc' := 63) (i := 4) (by decide) rfl ⟨by decide +kernel, rfl⟩ ?_
              refine z_lv [2, 3, 1, 0] (lv' := [(0, .ref (a 0)), (1, .int x1), (3, .int 0), (4, .int 0)]) rfl ?_
              exact rf_shape_L63_t n n u x1 0 0
            · refine z_bipush (pc' := 57) (n := (-2)) (v := (-2)) (by decide) ⟨by decide +kernel, rfl⟩ ?_
              exact z_iret (pc' := 58) ⟨by decide +kernel, rfl⟩
    · refine z_bipush (pc' := 14) (n := (-2)) (v := (-2)) (by decide) ⟨by decide +kernel, rfl⟩ ?_
      exact z_iret (pc' := 15) ⟨by decide +kernel, rfl⟩
set_option maxRecDepth 20000 in
set_option maxHeartbeats 4000000 in
theorem rft_site {l : Launch} {ca : Nat → ClassId} {D : va_G} {a g : Nat → Nat} (n : Nat) (u : zMu) (x1 : Int32) (x2 : Int32) : zMet l (zRf ca D) rfY_site (.code rfY_site prog_13_method_82_code 3 (some .int)) zri true 0 a g [.ref (a 0), .int x1, .int x2] u (rf_site n u x1 x2) := by
  refine zMet.of rfl (Nat.le_of_ble_eq_true rfl) fun κ A hl => ?_
  subst hl
  unfold rf_site
  refine z_iload_n (pc' := 1) (k := 1) (i := 1) 1 rfl rfl ⟨by decide +kernel, rfl⟩ ?_
  refine z_if_lt (pc' := 4) (tgt := 16) (off := 15) ⟨by decide +kernel, rfl⟩ rfl (fun h1 => ?_) (fun h1 => ?_)
  · refine z_bipush (pc' := 18) (n := (-2)) (v := (-2)) (by decide) ⟨by decide +kernel, rfl⟩ ?_
    exact z_iret (pc' := 19) ⟨by decide +kernel, rfl⟩
  · refine z_iload_n (pc' := 5) (k := 1) (i := 1) 1 rfl rfl ⟨by decide +kernel, rfl⟩ ?_
    refine z_aload_n (pc' := 6) (k := 0) (i := 0) 0 rfl rfl ⟨by decide +kernel, rfl⟩ ?_
    refine z_getI (pc' := 9) (rff_sites ca D) rfl ⟨by decide +kernel, rfl⟩ ?_
    refine z_icmp_ge (pc' := 12) (tgt := 16) (off := 7) ⟨by decide +kernel, rfl⟩ rfl (fun h2 => ?_) (fun h2 => ?_)
    · refine z_iload_n (pc' := 13) (k := 2) (i := 2) 2 rfl rfl ⟨by decide +kernel, rfl⟩ ?_
      refine z_if_ge (pc' := 16) (tgt := 19) (off := 6) ⟨by decide +kernel, rfl⟩ rfl (fun h3 => ?_) (fun h3 => ?_)
      · refine z_bipush (pc' := 18) (n := (-2)) (v := (-2)) (by decide) ⟨by decide +kernel, rfl⟩ ?_
        exact z_iret (pc' := 19) ⟨by decide +kernel, rfl⟩
      · refine z_iload_n (pc' := 20) (k := 2) (i := 2) 2 rfl rfl ⟨by decide +kernel, rfl⟩ ?_
        refine z_ite (fun h4 => ?_) (fun h4 => ?_)
        · refine z_tabIn (dflt := 120) (lo := 0) (hi := 7) (offs := #[48, 55, 62, 69, 76, 83, 98, 105]) (len := 48) (off := 48) (tgt := 68) h4 (by decide +kernel) (by decide) (by decide) rfl rfl ?_
          refine z_aload_n (pc' := 69) (k := 0) (i := 0) 0 rfl rfl ⟨by decide +kernel, rfl⟩ ?_
          refine z_getR (pc' := 72) (rff_siteKind ca D) rfl (y := a 19) rfl ⟨by decide +kernel, rfl⟩ ?_
          refine z_iload_n (pc' := 73) (k := 1) (i := 1) 1 rfl rfl ⟨by decide +kernel, rfl⟩ ?_
          refine z_iald (pc' := 74) 19 rfl (zlt rfl) rfl rfl ⟨by decide +kernel, rfl⟩ ?_
          exact z_iret (pc' := 75) ⟨by decide +kernel, rfl⟩
        refine z_ite (fun h5 => ?_) (fun h5 => ?_)
        · refine z_tabIn (dflt := 120) (lo := 0) (hi := 7) (offs := #[48, 55, 62, 69, 76, 83, 98, 105]) (len := 48) (off := 55) (tgt := 75) h5 (by decide +kernel) (by decide) (by decide) rfl rfl ?_
          refine z_aload_n (pc' := 76) (k := 0) (i := 0) 0 rfl rfl ⟨by decide +kernel, rfl⟩ ?_
          refine z_getR (pc' := 79) (rff_sitePlace ca D) rfl (y := a 20) rfl ⟨by decide +kernel, rfl⟩ ?_
          refine z_iload_n (pc' := 80) (k := 1) (i := 1) 1 rfl rfl ⟨by decide +kernel, rfl⟩ ?_
          refine z_iald (pc' := 81) 20 rfl (zlt rfl) rfl rfl ⟨by decide +kernel, rfl⟩ ?_
          exact z_iret (pc' := 82) ⟨by decide +kernel, rfl⟩
        refine z_ite (fun h6 => ?_) (fun h6 => ?_)
        · refine z_tabIn (dflt := 120) (lo := 0) (hi := 7) (offs := #[48, 55, 62, 69, 76, 83, 98, 105]) (len := 48) (off := 62) (tgt := 82) h6 (by decide +kernel) (by decide) (by decide) rfl rfl ?_
          refine z_aload_n (pc' := 83) (k := 0) (i := 0) 0 rfl rfl ⟨by decide +kernel, rfl⟩ ?_
          refine z_getR (pc' := 86) (rff_ran ca D) rfl (y := a 52) rfl ⟨by decide +kernel, rfl⟩ ?_
          refine z_iload_n (pc' := 87) (k := 1) (i := 1) 1 rfl rfl ⟨by decide +kernel, rfl⟩ ?_
          refine z_iald (pc' := 88) 52 rfl (zlt rfl) rfl rfl ⟨by decide +kernel, rfl⟩ ?_
          exact z_iret (pc' := 89) ⟨by decide +kernel, rfl⟩
        refine z_ite (fun h7 => ?_) (fun h7 => ?_)
        · refine z_tabIn (dflt := 120) (lo := 0) (hi := 7) (offs := #[48, 55, 62, 69, 76, 83, 98, 105]) (len := 48) (off := 69) (tgt := 89) h7 (by decide +kernel) (by decide) (by decide) rfl rfl ?_
          refine z_aload_n (pc' := 90) (k := 0) (i := 0) 0 rfl rfl ⟨by decide +kernel, rfl⟩ ?_
          refine z_getR (pc' := 93) (rff_siteHits ca D) rfl (y := a 53) rfl ⟨by decide +kernel, rfl⟩ ?_
          refine z_iload_n (pc' := 94) (k := 1) (i := 1) 1 rfl rfl ⟨by decide +kernel, rfl⟩ ?_
          refine z_iald (pc' := 95) 53 rfl (zlt rfl) rfl rfl ⟨by decide +kernel, rfl⟩ ?_
          exact z_iret (pc' := 96) ⟨by decide +kernel, rfl⟩
        refine z_ite (fun h8 => ?_) (fun h8 => ?_)
        · refine z_tabIn (dflt := 120) (lo := 0) (hi := 7) (offs := #[48, 55, 62, 69, 76, 83, 98, 105]) (len := 48) (off := 76) (tgt := 96) h8 (by decide +kernel) (by decide) (by decide) rfl rfl ?_
          refine z_aload_n (pc' := 97) (k := 0) (i := 0) 0 rfl rfl ⟨by decide +kernel, rfl⟩ ?_
          refine z_getR (pc' := 100) (rff_entries ca D) rfl (y := a 54) rfl ⟨by decide +kernel, rfl⟩ ?_
          refine z_iload_n (pc' := 101) (k := 1) (i := 1) 1 rfl rfl ⟨by decide +kernel, rfl⟩ ?_
          refine z_iald (pc' := 102) 54 rfl (zlt rfl) rfl rfl ⟨by decide +kernel, rfl⟩ ?_
          exact z_iret (pc' := 103) ⟨by decide +kernel, rfl⟩
        refine z_ite (fun h10 => ?_) (fun h10 => ?_)
        · refine z_tabIn (dflt := 120) (lo := 0) (hi := 7) (offs := #[48, 55, 62, 69, 76, 83, 98, 105]) (len := 48) (off := 83) (tgt := 103) h10 (by decide +kernel) (by decide) (by decide) rfl rfl ?_
          refine z_aload_n (pc' := 104) (k := 0) (i := 0) 0 rfl rfl ⟨by decide +kernel, rfl⟩ ?_
          refine z_getR (pc' := 107) (rff_many ca D) rfl (y := a 58) rfl ⟨by decide +kernel, rfl⟩ ?_
          refine z_iload_n (pc' := 108) (k := 1) (i := 1) 1 rfl rfl ⟨by decide +kernel, rfl⟩ ?_
          refine z_zald (pc' := 109) 58 rfl (zlt rfl) rfl rfl ⟨by decide +kernel, rfl⟩ ?_
          refine z_if_eq (pc' := 112) (tgt := 116) (off := 7) ⟨by decide +kernel, rfl⟩ rfl (fun h9 => ?_) (fun h9 => ?_)
          · refine z_iconst (pc' := 117) (n := 0) (v := 0) (by decide) ⟨by decide +kernel, rfl⟩ ?_
            exact z_iret (pc' := 118) ⟨by decide +kernel, rfl⟩
          · refine z_iconst (pc' := 113) (n := 1) (v := 1) (by decide) ⟨by decide +kernel, rfl⟩ ?_
            refine z_goto (tgt := 117) (off := 4) (by decide +kernel) rfl ?_
            exact z_iret (pc' := 118) ⟨by decide +kernel, rfl⟩
        refine z_ite (fun h11 => ?_) (fun h11 => ?_)
        · refine z_tabIn (dflt := 120) (lo := 0) (hi := 7) (offs := #[48, 55, 62, 69, 76, 83, 98, 105]) (len := 48) (off := 98) (tgt := 118) h11 (by decide +kernel) (by decide) (by decide) rfl rfl ?_
          refine z_aload_n (pc' := 119) (k := 0) (i := 0) 0 rfl rfl ⟨by decide +kernel, rfl⟩ ?_
          refine z_getR (pc' := 122) (rff_siteFn ca D) rfl (y := a 21) rfl ⟨by decide +kernel, rfl⟩ ?_
          refine z_iload_n (pc' := 123) (k := 1) (i := 1) 1 rfl rfl ⟨by decide +kernel, rfl⟩ ?_
          refine z_iald (pc' := 124) 21 rfl (zlt rfl) rfl rfl ⟨by decide +kernel, rfl⟩ ?_
          exact z_iret (pc' := 125) ⟨by decide +kernel, rfl⟩
        refine z_ite (fun h13 => ?_) (fun h13 => ?_)
        · refine z_tabIn (dflt := 120) (lo := 0) (hi := 7) (offs := #[48, 55, 62, 69, 76, 83, 98, 105]) (len := 48) (off := 105) (tgt := 125) h13 (by decide +kernel) (by decide) (by decide) rfl rfl ?_
          refine z_aload_n (pc' := 126) (k := 0) (i := 0) 0 rfl rfl ⟨by decide +kernel, rfl⟩ ?_
          refine z_getR (pc' := 129) (rff_guesses ca D) rfl (y := a 59) rfl ⟨by decide +kernel, rfl⟩ ?_
          refine z_iload_n (pc' := 130) (k := 1) (i := 1) 1 rfl rfl ⟨by decide +kernel, rfl⟩ ?_
          refine z_iald (pc' := 131) 59 rfl (zlt rfl) rfl rfl ⟨by decide +kernel, rfl⟩ ?_
          refine z_if_le (pc' := 134) (tgt := 138) (off := 7) ⟨by decide +kernel, rfl⟩ rfl (fun h12 => ?_) (fun h12 => ?_)
          · refine z_iconst (pc' := 135) (n := 1) (v := 1) (by decide) ⟨by decide +kernel, rfl⟩ ?_
            refine z_goto (tgt := 139) (off := 4) (by decide +kernel) rfl ?_
            exact z_iret (pc' := 140) ⟨by decide +kernel, rfl⟩
          · refine z_iconst (pc' := 139) (n := 0) (v := 0) (by decide) ⟨by decide +kernel, rfl⟩ ?_
            exact z_iret (pc' := 140) ⟨by decide +kernel, rfl⟩
        refine z_tabOut (dflt := 120) (lo := 0) (hi := 7) (offs := #[48, 55, 62, 69, 76, 83, 98, 105]) (len := 48) (tgt := 140) (by decide +kernel) (by have h4' := lv_neT h4 (a := 0) (by decide); have h5' := lv_neT h5 (a := 1) (by decide); have h6' := lv_neT h6 (a := 2) (by decide); have h7' := lv_neT h7 (a := 3) (by decide); have h8' := lv_neT h8 (a := 4) (by decide); have h10' := lv_neT h10 (a := 5) (by decide); have h11' := lv_neT h11 (a := 6) (by decide); have h13' := lv_neT h13 (a := 7) (by decide); omega) rfl ?_
        refine z_aload_n (pc' := 141) (k := 0) (i := 0) 0 rfl rfl ⟨by decide +kernel, rfl⟩ ?_
        refine z_getR (pc' := 144) (rff_siteKind ca D) rfl (y := a 19) rfl ⟨by decide +kernel, rfl⟩ ?_
        refine z_iload_n (pc' := 145) (k := 1) (i := 1) 1 rfl rfl ⟨by decide +kernel, rfl⟩ ?_
        refine z_iald (pc' := 146) 19 rfl (zlt rfl) rfl rfl ⟨by decide +kernel, rfl⟩ ?_
        refine z_iconst (pc' := 147) (n := 2) (v := 2) (by decide) ⟨by decide +kernel, rfl⟩ ?_
        refine z_icmp_ge (pc' := 150) (tgt := 179) (off := 32) ⟨by decide +kernel, rfl⟩ rfl (fun h14 => ?_) (fun h14 => ?_)
        · refine z_iload_n (pc' := 151) (k := 2) (i := 2) 2 rfl rfl ⟨by decide +kernel, rfl⟩ ?_
          refine z_bipush (pc' := 153) (n := 8) (v := 8) (by decide) ⟨by decide +kernel, rfl⟩ ?_
          refine z_isub (pc' := 154) ⟨by decide +kernel, rfl⟩ ?_
          refine z_aload_n (pc' := 155) (k := 0) (i := 0) 0 rfl rfl ⟨by decide +kernel, rfl⟩ ?_
          refine z_getR (pc' := 158) (rff_entries ca D) rfl (y := a 54) rfl ⟨by decide +kernel, rfl⟩ ?_
          refine z_iload_n (pc' := 159) (k := 1) (i := 1) 1 rfl rfl ⟨by decide +kernel, rfl⟩ ?_
          refine z_iald (pc' := 160) 54 rfl (zlt rfl) rfl rfl ⟨by decide +kernel, rfl⟩ ?_
          refine z_icmp_ge (pc' := 163) (tgt := 179) (off := 19) ⟨by decide +kernel, rfl⟩ rfl (fun h15 => ?_) (fun h15 => ?_)
          · refine z_aload_n (pc' := 164) (k := 0) (i := 0) 0 rfl rfl ⟨by decide +kernel, rfl⟩ ?_
            refine z_getR (pc' := 167) (rff_entry ca D) rfl (y := a 55) rfl ⟨by decide +kernel, rfl⟩ ?_
            refine z_iconst (pc' := 168) (n := 4) (v := 4) (by decide) ⟨by decide +kernel, rfl⟩ ?_
            refine z_iload_n (pc' := 169) (k := 1) (i := 1) 1 rfl rfl ⟨by decide +kernel, rfl⟩ ?_
            refine z_imul (pc' := 170) ⟨by decide +kernel, rfl⟩ ?_
            refine z_iload_n (pc' := 171) (k := 2) (i := 2) 2 rfl rfl ⟨by decide +kernel, rfl⟩ ?_
            refine z_iadd (pc' := 172) ⟨by decide +kernel, rfl⟩ ?_
            refine z_bipush (pc' := 174) (n := 8) (v := 8) (by decide) ⟨by decide +kernel, rfl⟩ ?_
            refine z_isub (pc' := 175) ⟨by decide +kernel, rfl⟩ ?_
            refine z_iald (pc' := 176) 55 rfl (zlt rfl) rfl rfl ⟨by decide +kernel, rfl⟩ ?_
            refine z_goto (tgt := 180) (off := 4) (by decide +kernel) rfl ?_
            exact z_iret (pc' := 181) ⟨by decide +kernel, rfl⟩
          · refine z_iconst (pc' := 180) (n := (-1)) (v := (-1)) (by decide) ⟨by decide +kernel, rfl⟩ ?_
            exact z_iret (pc' := 181) ⟨by decide +kernel, rfl⟩
        · refine z_iconst (pc' := 180) (n := (-1)) (v := (-1)) (by decide) ⟨by decide +kernel, rfl⟩ ?_
          exact z_iret (pc' := 181) ⟨by decide +kernel, rfl⟩
    · refine z_bipush (pc' := 18) (n := (-2)) (v := (-2)) (by decide) ⟨by decide +kernel, rfl⟩ ?_
      exact z_iret (pc' := 19) ⟨by decide +kernel, rfl⟩
set_option maxRecDepth 20000 in
set_option maxHeartbeats 4000000 in
theorem rft_fn {l : Launch} {ca : Nat → ClassId} {D : va_G} {a g : Nat → Nat} (n : Nat) (u : zMu) (x1 : Int32) (x2 : Int32) : zMet l (zRf ca D) rfY_fn (.code rfY_fn prog_13_method_83_code 3 (some .int)) zri true 0 a g [.ref (a 0), .int x1, .int x2] u (rf_fn n u x1 x2) := by
  refine zMet.of rfl (Nat.le_of_ble_eq_true rfl) fun κ A hl => ?_
  subst hl
  unfold rf_fn
  refine z_iload_n (pc' := 1) (k := 1) (i := 1) 1 rfl rfl ⟨by decide +kernel, rfl⟩ ?_
  refine z_if_lt (pc' := 4) (tgt := 12) (off := 11) ⟨by decide +kernel, rfl⟩ rfl (fun h1 => ?_) (fun h1 => ?_)
  · refine z_bipush (pc' := 14) (n := (-2)) (v := (-2)) (by decide) ⟨by decide +kernel, rfl⟩ ?_
    exact z_iret (pc' := 15) ⟨by decide +kernel, rfl⟩
  · refine z_iload_n (pc' := 5) (k := 1) (i := 1) 1 rfl rfl ⟨by decide +kernel, rfl⟩ ?_
    refine z_aload_n (pc' := 6) (k := 0) (i := 0) 0 rfl rfl ⟨by decide +kernel, rfl⟩ ?_
    refine z_getI (pc' := 9) (rff_fns ca D) rfl ⟨by decide +kernel, rfl⟩ ?_
    refine z_icmp_lt (pc' := 12) (tgt := 15) (off := 6) ⟨by decide +kernel, rfl⟩ rfl (fun h2 => ?_) (fun h2 => ?_)
    · refine z_iload_n (pc' := 16) (k := 2) (i := 2) 2 rfl rfl ⟨by decide +kernel, rfl⟩ ?_
      refine z_ite (fun h3 => ?_) (fun h3 => ?_)
      · refine z_tabIn (dflt := 120) (lo := 0) (hi := 7) (offs := #[48, 55, 62, 69, 84, 91, 98, 113]) (len := 48) (off := 48) (tgt := 64) h3 (by decide +kernel) (by decide) (by decide) rfl rfl ?_
        refine z_aload_n (pc' := 65) (k := 0) (i := 0) 0 rfl rfl ⟨by decide +kernel, rfl⟩ ?_
        refine z_getR (pc' := 68) (rff_fnNames ca D) rfl (y := a 16) rfl ⟨by decide +kernel, rfl⟩ ?_
        refine z_iload_n (pc' := 69) (k := 1) (i := 1) 1 rfl rfl ⟨by decide +kernel, rfl⟩ ?_
        refine z_iald (pc' := 70) 16 rfl (zlt rfl) rfl rfl ⟨by decide +kernel, rfl⟩ ?_
        exact z_iret (pc' := 71) ⟨by decide +kernel, rfl⟩
      refine z_ite (fun h4 => ?_) (fun h4 => ?_)
      · refine z_tabIn (dflt := 120) (lo := 0) (hi := 7) (offs := #[48, 55, 62, 69, 84, 91, 98, 113]) (len := 48) (off := 55) (tgt := 71) h4 (by decide +kernel) (by decide) (by decide) rfl rfl ?_
        refine z_aload_n (pc' := 72) (k := 0) (i := 0) 0 rfl rfl ⟨by decide +kernel, rfl⟩ ?_
        refine z_getR (pc' := 75) (rff_fnCalls ca D) rfl (y := a 61) rfl ⟨by decide +kernel, rfl⟩ ?_
        refine z_iload_n (pc' := 76) (k := 1) (i := 1) 1 rfl rfl ⟨by decide +kernel, rfl⟩ ?_
        refine z_iald (pc' := 77) 61 rfl (zlt rfl) rfl rfl ⟨by decide +kernel, rfl⟩ ?_
        exact z_iret (pc' := 78) ⟨by decide +kernel, rfl⟩
      refine z_ite (fun h5 => ?_) (fun h5 => ?_)
      · refine z_tabIn (dflt := 120) (lo := 0) (hi := 7) (offs := #[48, 55, 62, 69, 84, 91, 98, 113]) (len := 48) (off := 62) (tgt := 78) h5 (by decide +kernel) (by decide) (by decide) rfl rfl ?_
        refine z_aload_n (pc' := 79) (k := 0) (i := 0) 0 rfl rfl ⟨by decide +kernel, rfl⟩ ?_
        refine z_getR (pc' := 82) (rff_fnCount ca D) rfl (y := a 62) rfl ⟨by decide +kernel, rfl⟩ ?_
        refine z_iload_n (pc' := 83) (k := 1) (i := 1) 1 rfl rfl ⟨by decide +kernel, rfl⟩ ?_
        refine z_iald (pc' := 84) 62 rfl (zlt rfl) rfl rfl ⟨by decide +kernel, rfl⟩ ?_
        exact z_iret (pc' := 85) ⟨by decide +kernel, rfl⟩
      refine z_ite (fun h7 => ?_) (fun h7 => ?_)
      · refine z_tabIn (dflt := 120) (lo := 0) (hi := 7) (offs := #[48, 55, 62, 69, 84, 91, 98, 113]) (len := 48) (off := 69) (tgt := 85) h7 (by decide +kernel) (by decide) (by decide) rfl rfl ?_
        refine z_aload_n (pc' := 86) (k := 0) (i := 0) 0 rfl rfl ⟨by decide +kernel, rfl⟩ ?_
        refine z_getR (pc' := 89) (rff_made ca D) rfl (y := a 66) rfl ⟨by decide +kernel, rfl⟩ ?_
        refine z_iload_n (pc' := 90) (k := 1) (i := 1) 1 rfl rfl ⟨by decide +kernel, rfl⟩ ?_
        refine z_zald (pc' := 91) 66 rfl (zlt rfl) rfl rfl ⟨by decide +kernel, rfl⟩ ?_
        refine z_if_eq (pc' := 94) (tgt := 98) (off := 7) ⟨by decide +kernel, rfl⟩ rfl (fun h6 => ?_) (fun h6 => ?_)
        · refine z_iconst (pc' := 99) (n := 0) (v := 0) (by decide) ⟨by decide +kernel, rfl⟩ ?_
          exact z_iret (pc' := 100) ⟨by decide +kernel, rfl⟩
        · refine z_iconst (pc' := 95) (n := 1) (v := 1) (by decide) ⟨by decide +kernel, rfl⟩ ?_
          refine z_goto (tgt := 99) (off := 4) (by decide +kernel) rfl ?_
          exact z_iret (pc' := 100) ⟨by decide +kernel, rfl⟩
      refine z_ite (fun h8 => ?_) (fun h8 => ?_)
      · refine z_tabIn (dflt := 120) (lo := 0) (hi := 7) (offs := #[48, 55, 62, 69, 84, 91, 98, 113]) (len := 48) (off := 84) (tgt := 100) h8 (by decide +kernel) (by decide) (by decide) rfl rfl ?_
        refine z_aload_n (pc' := 101) (k := 0) (i := 0) 0 rfl rfl ⟨by decide +kernel, rfl⟩ ?_
        refine z_getR (pc' := 104) (rff_fnMade ca D) rfl (y := a 63) rfl ⟨by decide +kernel, rfl⟩ ?_
        refine z_iload_n (pc' := 105) (k := 1) (i := 1) 1 rfl rfl ⟨by decide +kernel, rfl⟩ ?_
        refine z_iald (pc' := 106) 63 rfl (zlt rfl) rfl rfl ⟨by decide +kernel, rfl⟩ ?_
        exact z_iret (pc' := 107) ⟨by decide +kernel, rfl⟩
      refine z_ite (fun h9 => ?_) (fun h9 => ?_)
      · refine z_tabIn (dflt := 120) (lo := 0) (hi := 7) (offs := #[48, 55, 62, 69, 84, 91, 98, 113]) (len := 48) (off := 91) (tgt := 107) h9 (by decide +kernel) (by decide) (by decide) rfl rfl ?_
        refine z_aload_n (pc' := 108) (k := 0) (i := 0) 0 rfl rfl ⟨by decide +kernel, rfl⟩ ?_
        refine z_getR (pc' := 111) (rff_fnLeft ca D) rfl (y := a 64) rfl ⟨by decide +kernel, rfl⟩ ?_
        refine z_iload_n (pc' := 112) (k := 1) (i := 1) 1 rfl rfl ⟨by decide +kernel, rfl⟩ ?_
        refine z_iald (pc' := 113) 64 rfl (zlt rfl) rfl rfl ⟨by decide +kernel, rfl⟩ ?_
        exact z_iret (pc' := 114) ⟨by decide +kernel, rfl⟩
      refine z_ite (fun h11 => ?_) (fun h11 => ?_)
      · refine z_tabIn (dflt := 120) (lo := 0) (hi := 7) (offs := #[48, 55, 62, 69, 84, 91, 98, 113]) (len := 48) (off := 98) (tgt := 114) h11 (by decide +kernel) (by decide) (by decide) rfl rfl ?_
        refine z_aload_n (pc' := 115) (k := 0) (i := 0) 0 rfl rfl ⟨by decide +kernel, rfl⟩ ?_
        refine z_getR (pc' := 118) (rff_cold ca D) rfl (y := a 67) rfl ⟨by decide +kernel, rfl⟩ ?_
        refine z_iload_n (pc' := 119) (k := 1) (i := 1) 1 rfl rfl ⟨by decide +kernel, rfl⟩ ?_
        refine z_zald (pc' := 120) 67 rfl (zlt rfl) rfl rfl ⟨by decide +kernel, rfl⟩ ?_
        refine z_if_eq (pc' := 123) (tgt := 127) (off := 7) ⟨by decide +kernel, rfl⟩ rfl (fun h10 => ?_) (fun h10 => ?_)
        · refine z_iconst (pc' := 128) (n := 0) (v := 0) (by decide) ⟨by decide +kernel, rfl⟩ ?_
          exact z_iret (pc' := 129) ⟨by decide +kernel, rfl⟩
        · refine z_iconst (pc' := 124) (n := 1) (v := 1) (by decide) ⟨by decide +kernel, rfl⟩ ?_
          refine z_goto (tgt := 128) (off := 4) (by decide +kernel) rfl ?_
          exact z_iret (pc' := 129) ⟨by decide +kernel, rfl⟩
      refine z_ite (fun h12 => ?_) (fun h12 => ?_)
      · refine z_tabIn (dflt := 120) (lo := 0) (hi := 7) (offs := #[48, 55, 62, 69, 84, 91, 98, 113]) (len := 48) (off := 113) (tgt := 129) h12 (by decide +kernel) (by decide) (by decide) rfl rfl ?_
        refine z_aload_n (pc' := 130) (k := 0) (i := 0) 0 rfl rfl ⟨by decide +kernel, rfl⟩ ?_
        refine z_getR (pc' := 133) (rff_fnSite ca D) rfl (y := a 65) rfl ⟨by decide +kernel, rfl⟩ ?_
        refine z_iload_n (pc' := 134) (k := 1) (i := 1) 1 rfl rfl ⟨by decide +kernel, rfl⟩ ?_
        refine z_iald (pc' := 135) 65 rfl (zlt rfl) rfl rfl ⟨by decide +kernel, rfl⟩ ?_
        exact z_iret (pc' := 136) ⟨by decide +kernel, rfl⟩
      refine z_tabOut (dflt := 120) (lo := 0) (hi := 7) (offs := #[48, 55, 62, 69, 84, 91, 98, 113]) (len := 48) (tgt := 136) (by decide +kernel) (by have h3' := lv_neT h3 (a := 0) (by decide); have h4' := lv_neT h4 (a := 1) (by decide); have h5' := lv_neT h5 (a := 2) (by decide); have h7' := lv_neT h7 (a := 3) (by decide); have h8' := lv_neT h8 (a := 4) (by decide); have h9' := lv_neT h9 (a := 5) (by decide); have h11' := lv_neT h11 (a := 6) (by decide); have h12' := lv_neT h12 (a := 7) (by decide); omega) rfl ?_
      refine z_bipush (pc' := 138) (n := (-2)) (v := (-2)) (by decide) ⟨by decide +kernel, rfl⟩ ?_
      exact z_iret (pc' := 139) ⟨by decide +kernel, rfl⟩
    · refine z_bipush (pc' := 14) (n := (-2)) (v := (-2)) (by decide) ⟨by decide +kernel, rfl⟩ ?_
      exact z_iret (pc' := 15) ⟨by decide +kernel, rfl⟩
set_option maxRecDepth 20000 in
set_option maxHeartbeats 4000000 in
theorem rft_count {l : Launch} {ca : Nat → ClassId} {D : va_G} {a g : Nat → Nat} (n : Nat) (u : zMu) (x1 : Int32) : zMet l (zRf ca D) rfY_count (.code rfY_count prog_13_method_84_code 2 (some .int)) zri true 0 a g [.ref (a 0), .int x1] u (rf_count n u x1) := by
  refine zMet.of rfl (Nat.le_of_ble_eq_true rfl) fun κ A hl => ?_
  subst hl
  unfold rf_count
  refine z_iload_n (pc' := 1) (k := 1) (i := 1) 1 rfl rfl ⟨by decide +kernel, rfl⟩ ?_
  refine z_ite (fun h1 => ?_) (fun h1 => ?_)
  · refine z_tabIn (dflt := 63) (lo := 0) (hi := 4) (offs := #[35, 40, 45, 50, 58]) (len := 35) (off := 35) (tgt := 36) h1 (by decide +kernel) (by decide) (by decide) rfl rfl ?_
    refine z_aload_n (pc' := 37) (k := 0) (i := 0) 0 rfl rfl ⟨by decide +kernel, rfl⟩ ?_
    refine z_getI (pc' := 40) (rff_size ca D) rfl ⟨by decide +kernel, rfl⟩ ?_
    exact z_iret (pc' := 41) ⟨by decide +kernel, rfl⟩
  refine z_ite (fun h2 => ?_) (fun h2 => ?_)
  · refine z_tabIn (dflt := 63) (lo := 0) (hi := 4) (offs := #[35, 40, 45, 50, 58]) (len := 35) (off := 40) (tgt := 41) h2 (by decide +kernel) (by decide) (by decide) rfl rfl ?_
    refine z_aload_n (pc' := 42) (k := 0) (i := 0) 0 rfl rfl ⟨by decide +kernel, rfl⟩ ?_
    refine z_getI (pc' := 45) (rff_fns ca D) rfl ⟨by decide +kernel, rfl⟩ ?_
    exact z_iret (pc' := 46) ⟨by decide +kernel, rfl⟩
  refine z_ite (fun h3 => ?_) (fun h3 => ?_)
  · refine z_tabIn (dflt := 63) (lo := 0) (hi := 4) (offs := #[35, 40, 45, 50, 58]) (len := 35) (off := 45) (tgt := 46) h3 (by decide +kernel) (by decide) (by decide) rfl rfl ?_
    refine z_aload_n (pc' := 47) (k := 0) (i := 0) 0 rfl rfl ⟨by decide +kernel, rfl⟩ ?_
    refine z_getI (pc' := 50) (rff_sites ca D) rfl ⟨by decide +kernel, rfl⟩ ?_
    exact z_iret (pc' := 51) ⟨by decide +kernel, rfl⟩
  refine z_ite (fun h4 => ?_) (fun h4 => ?_)
  · refine z_tabIn (dflt := 63) (lo := 0) (hi := 4) (offs := #[35, 40, 45, 50, 58]) (len := 35) (off := 50) (tgt := 51) h4 (by decide +kernel) (by decide) (by decide) rfl rfl ?_
    refine z_aload_n (pc' := 52) (k := 0) (i := 0) 0 rfl rfl ⟨by decide +kernel, rfl⟩ ?_
    refine z_getR (pc' := 55) (rff_varN ca D) rfl (y := a 17) rfl ⟨by decide +kernel, rfl⟩ ?_
    refine z_bipush (pc' := 57) (n := 9) (v := 9) (by decide) ⟨by decide +kernel, rfl⟩ ?_
    refine z_iald (pc' := 58) 17 rfl (zlt rfl) rfl rfl ⟨by decide +kernel, rfl⟩ ?_
    exact z_iret (pc' := 59) ⟨by decide +kernel, rfl⟩
  refine z_ite (fun h5 => ?_) (fun h5 => ?_)
  · refine z_tabIn (dflt := 63) (lo := 0) (hi := 4) (offs := #[35, 40, 45, 50, 58]) (len := 35) (off := 58) (tgt := 59) h5 (by decide +kernel) (by decide) (by decide) rfl rfl ?_
    refine z_aload_n (pc' := 60) (k := 0) (i := 0) 0 rfl rfl ⟨by decide +kernel, rfl⟩ ?_
    refine z_getI (pc' := 63) (rff_taped ca D) rfl ⟨by decide +kernel, rfl⟩ ?_
    exact z_iret (pc' := 64) ⟨by decide +kernel, rfl⟩
  refine z_tabOut (dflt := 63) (lo := 0) (hi := 4) (offs := #[35, 40, 45, 50, 58]) (len := 35) (tgt := 64) (by decide +kernel) (by have h1' := lv_neT h1 (a := 0) (by decide); have h2' := lv_neT h2 (a := 1) (by decide); have h3' := lv_neT h3 (a := 2) (by decide); have h4' := lv_neT h4 (a := 3) (by decide); have h5' := lv_neT h5 (a := 4) (by decide); omega) rfl ?_
  refine z_bipush (pc' := 66) (n := (-2)) (v := (-2)) (by decide) ⟨by decide +kernel, rfl⟩ ?_
  exact z_iret (pc' := 67) ⟨by decide +kernel, rfl⟩
