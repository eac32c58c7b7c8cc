/-! the class's methods meet their models (printed by wip/gen/cls.py) -/
set_option maxRecDepth 20000 in
set_option maxHeartbeats 4000000 in
theorem cet_E_member {l : Launch} {ca : Nat → ClassId} {D : va_G} {a g : Nat → Nat} (n : Nat) (u : zMu) (x1 : Int32) (x2 : Int32) (x3 : Int32) : zMet l (zCe ca D) ceY_E_member (.code ceY_E_member prog_1_method_10_code 6 (some .int)) zri true 3 a g [.ref (a 0), .int x1, .int x2, .int x3] u (ce_E_member n u x1 x2 x3) := by
  refine zMet.of rfl (Nat.le_of_ble_eq_true rfl) fun κ A hl => ?_
  subst hl
  unfold ce_E_member
  refine z_aload_n (pc' := 1) (k := 0) (i := 0) 0 rfl rfl ⟨by decide +kernel, rfl⟩ ?_
  refine z_getR (pc' := 4) (cef_E23_0 ca D) rfl (y := a 34) rfl ⟨by decide +kernel, rfl⟩ ?_
  refine z_getR (pc' := 7) (cef_E92_34 ca D) rfl (y := a 36) rfl ⟨by decide +kernel, rfl⟩ ?_
  refine z_astore (pc' := 9) (i := 4) (by decide) rfl ⟨by decide +kernel, rfl⟩ ?_
  refine z_aload (pc' := 11) (i := 4) 0 rfl ⟨by decide +kernel, rfl⟩ ?_
  refine z_iload_n (pc' := 12) (k := 1) (i := 1) 2 rfl rfl ⟨by decide +kernel, rfl⟩ ?_
  refine z_callVf (pc' := 15) 36 (cet_H_isObject n u x1) (ceG_E96 ca D) (ceO_36 ca D) rfl (by omega) rfl rfl (Nat.le_of_ble_eq_true rfl) ⟨by decide +kernel, rfl⟩ (fun r1 u2 => ?_)
  refine z_if_eq (pc' := 18) (tgt := 27) (off := 12) ⟨by decide +kernel, rfl⟩ rfl (fun h3 => ?_) (fun h3 => ?_)
  · refine z_bipush (pc' := 29) (n := (-2)) (v := (-2)) (by decide) ⟨by decide +kernel, rfl⟩ ?_
    exact z_iret (pc' := 30) ⟨by decide +kernel, rfl⟩
  · refine z_iload_n (pc' := 19) (k := 3) (i := 3) 4 rfl rfl ⟨by decide +kernel, rfl⟩ ?_
    refine z_if_lt (pc' := 22) (tgt := 27) (off := 8) ⟨by decide +kernel, rfl⟩ rfl (fun h4 => ?_) (fun h4 => ?_)
    · refine z_bipush (pc' := 29) (n := (-2)) (v := (-2)) (by decide) ⟨by decide +kernel, rfl⟩ ?_
      exact z_iret (pc' := 30) ⟨by decide +kernel, rfl⟩
    · refine z_iload_n (pc' := 23) (k := 3) (i := 3) 4 rfl rfl ⟨by decide +kernel, rfl⟩ ?_
      refine z_iconst (pc' := 24) (n := 1) (v := 1) (by decide) ⟨by decide +kernel, rfl⟩ ?_
      refine z_icmp_le (pc' := 27) (tgt := 30) (off := 6) ⟨by decide +kernel, rfl⟩ rfl (fun h5 => ?_) (fun h5 => ?_)
      · refine z_bipush (pc' := 29) (n := (-2)) (v := (-2)) (by decide) ⟨by decide +kernel, rfl⟩ ?_
        exact z_iret (pc' := 30) ⟨by decide +kernel, rfl⟩
      · refine z_aload (pc' := 32) (i := 4) 0 rfl ⟨by decide +kernel, rfl⟩ ?_
        refine z_iload_n (pc' := 33) (k := 1) (i := 1) 2 rfl rfl ⟨by decide +kernel, rfl⟩ ?_
        refine z_iload_n (pc' := 34) (k := 2) (i := 2) 3 rfl rfl ⟨by decide +kernel, rfl⟩ ?_
        refine z_callVf (pc' := 37) 36 (cet_H_cellAt n u2 x1 x2) (ceG_E112 ca D) (ceO_36 ca D) rfl (by omega) rfl rfl (Nat.le_of_ble_eq_true rfl) ⟨by decide +kernel, rfl⟩ (fun r6 u7 => ?_)
        refine z_istore (pc' := 39) (i := 5) (by decide) rfl ⟨by decide +kernel, rfl⟩ ?_
        refine z_iload (pc' := 41) (i := 5) 0 rfl ⟨by decide +kernel, rfl⟩ ?_
        refine z_iconst (pc' := 42) (n := (-1)) (v := (-1)) (by decide) ⟨by decide +kernel, rfl⟩ ?_
        refine z_icmp_ne (pc' := 45) (tgt := 47) (off := 5) ⟨by decide +kernel, rfl⟩ rfl (fun h8 => ?_) (fun h8 => ?_)
        · refine z_iconst (pc' := 46) (n := (-1)) (v := (-1)) (by decide) ⟨by decide +kernel, rfl⟩ ?_
          exact z_iret (pc' := 47) ⟨by decide +kernel, rfl⟩
        · refine z_iload_n (pc' := 48) (k := 3) (i := 3) 5 rfl rfl ⟨by decide +kernel, rfl⟩ ?_
          refine z_if_ne (pc' := 51) (tgt := 64) (off := 16) ⟨by decide +kernel, rfl⟩ rfl (fun h9 => ?_) (fun h9 => ?_)
          · refine z_aload (pc' := 53) (i := 4) 1 rfl ⟨by decide +kernel, rfl⟩ ?_
            refine z_getR (pc' := 56) (cef_E116_36 ca D) rfl (y := a 66) rfl ⟨by decide +kernel, rfl⟩ ?_
            refine z_iload (pc' := 58) (i := 5) 0 rfl ⟨by decide +kernel, rfl⟩ ?_
            refine z_callVf (pc' := 61) 66 (cet_V_sortAt n 66 rfl u7 r6) (ceG_E80 ca D) (ceO_66 ca D) rfl (by omega) rfl rfl (Nat.le_of_ble_eq_true rfl) ⟨by decide +kernel, rfl⟩ (fun r10 u11 => ?_)
            refine z_goto (tgt := 74) (off := 13) (by decide +kernel) rfl ?_
            exact z_iret (pc' := 75) ⟨by decide +kernel, rfl⟩
          · refine z_aload (pc' := 66) (i := 4) 1 rfl ⟨by decide +kernel, rfl⟩ ?_
            refine z_getR (pc' := 69) (cef_E116_36 ca D) rfl (y := a 66) rfl ⟨by decide +kernel, rfl⟩ ?_
            refine z_iload (pc' := 71) (i := 5) 0 rfl ⟨by decide +kernel, rfl⟩ ?_
            refine z_callVf (pc' := 74) 66 (cet_V_referenceAt n 66 rfl u7 r6) (ceG_E85 ca D) (ceO_66 ca D) rfl (by omega) rfl rfl (Nat.le_of_ble_eq_true rfl) ⟨by decide +kernel, rfl⟩ (fun r12 u13 => ?_)
            exact z_iret (pc' := 75) ⟨by decide +kernel, rfl⟩
set_option maxRecDepth 20000 in
set_option maxHeartbeats 4000000 in
theorem cet_E_worth {l : Launch} {ca : Nat → ClassId} {D : va_G} {a g : Nat → Nat} (n : Nat) (u : zMu) (x1 : Int32) (x2 : Int32) : zMet l (zCe ca D) ceY_E_worth (.code ceY_E_worth prog_1_method_11_code 4 (some .long)) zrl true 3 a g [.ref (a 0), .int x1, .int x2] u (ce_E_worth n u x1 x2) := by
  refine zMet.of rfl (Nat.le_of_ble_eq_true rfl) fun κ A hl => ?_
  subst hl
  unfold ce_E_worth
  refine z_aload_n (pc' := 1) (k := 0) (i := 0) 0 rfl rfl ⟨by decide +kernel, rfl⟩ ?_
  refine z_getR (pc' := 4) (cef_E23_0 ca D) rfl (y := a 34) rfl ⟨by decide +kernel, rfl⟩ ?_
  refine z_getR (pc' := 7) (cef_E92_34 ca D) rfl (y := a 36) rfl ⟨by decide +kernel, rfl⟩ ?_
  refine z_iload_n (pc' := 8) (k := 1) (i := 1) 1 rfl rfl ⟨by decide +kernel, rfl⟩ ?_
  refine z_iload_n (pc' := 9) (k := 2) (i := 2) 2 rfl rfl ⟨by decide +kernel, rfl⟩ ?_
  refine z_callVf (pc' := 12) 36 (cet_H_cellAt n u x1 x2) (ceG_E112 ca D) (ceO_36 ca D) rfl (by omega) rfl rfl (Nat.le_of_ble_eq_true rfl) ⟨by decide +kernel, rfl⟩ (fun r1 u2 => ?_)
  refine z_istore_n (pc' := 13) (k := 3) (i := 3) rfl (by decide) rfl ⟨by decide +kernel, rfl⟩ ?_
  refine z_iload_n (pc' := 14) (k := 3) (i := 3) 0 rfl rfl ⟨by decide +kernel, rfl⟩ ?_
  refine z_iconst (pc' := 15) (n := (-1)) (v := (-1)) (by decide) ⟨by decide +kernel, rfl⟩ ?_
  refine z_icmp_ne (pc' := 18) (tgt := 22) (off := 7) ⟨by decide +kernel, rfl⟩ rfl (fun h3 => ?_) (fun h3 => ?_)
  · refine z_lconst (pc' := 19) (n := 0) (v := 0) (by decide) ⟨by decide +kernel, rfl⟩ ?_
    refine z_goto (tgt := 36) (off := 17) (by decide +kernel) rfl ?_
    exact z_lret (pc' := 37) ⟨by decide +kernel, rfl⟩
  · refine z_aload_n (pc' := 23) (k := 0) (i := 0) 1 rfl rfl ⟨by decide +kernel, rfl⟩ ?_
    refine z_getR (pc' := 26) (cef_E23_0 ca D) rfl (y := a 34) rfl ⟨by decide +kernel, rfl⟩ ?_
    refine z_getR (pc' := 29) (cef_E92_34 ca D) rfl (y := a 36) rfl ⟨by decide +kernel, rfl⟩ ?_
    refine z_getR (pc' := 32) (cef_E116_36 ca D) rfl (y := a 66) rfl ⟨by decide +kernel, rfl⟩ ?_
    refine z_iload_n (pc' := 33) (k := 3) (i := 3) 0 rfl rfl ⟨by decide +kernel, rfl⟩ ?_
    refine z_callVf (pc' := 36) 66 (cet_V_worthAt n 66 rfl u2 r1) (ceG_E88 ca D) (ceO_66 ca D) rfl (by omega) rfl rfl (Nat.le_of_ble_eq_true rfl) ⟨by decide +kernel, rfl⟩ (fun r4 u5 => ?_)
    exact z_lret (pc' := 37) ⟨by decide +kernel, rfl⟩
set_option maxRecDepth 20000 in
set_option maxHeartbeats 4000000 in
theorem cet_E_letter {l : Launch} {ca : Nat → ClassId} {D : va_G} {a g : Nat → Nat} (n : Nat) (u : zMu) (x1 : Int32) (x2 : Int32) (x3 : Int32) : zMet l (zCe ca D) ceY_E_letter (.code ceY_E_letter prog_1_method_12_code 5 (some .int)) zri true 2 a g [.ref (a 0), .int x1, .int x2, .int x3] u (ce_E_letter n u x1 x2 x3) := by
  refine zMet.of rfl (Nat.le_of_ble_eq_true rfl) fun κ A hl => ?_
  subst hl
  unfold ce_E_letter
  refine z_aload_n (pc' := 1) (k := 0) (i := 0) 0 rfl rfl ⟨by decide +kernel, rfl⟩ ?_
  refine z_getR (pc' := 4) (cef_E23_0 ca D) rfl (y := a 34) rfl ⟨by decide +kernel, rfl⟩ ?_
  refine z_getR (pc' := 7) (cef_E92_34 ca D) rfl (y := a 36) rfl ⟨by decide +kernel, rfl⟩ ?_
  refine z_iload_n (pc' := 8) (k := 1) (i := 1) 1 rfl rfl ⟨by decide +kernel, rfl⟩ ?_
  refine z_iload_n (pc' := 9) (k := 2) (i := 2) 2 rfl rfl ⟨by decide +kernel, rfl⟩ ?_
  refine z_callVf (pc' := 12) 36 (cet_H_cellAt n u x1 x2) (ceG_E112 ca D) (ceO_36 ca D) rfl (by omega) rfl rfl (Nat.le_of_ble_eq_true rfl) ⟨by decide +kernel, rfl⟩ (fun r1 u2 => ?_)
  refine z_istore (pc' := 14) (i := 4) (by decide) rfl ⟨by decide +kernel, rfl⟩ ?_
  refine z_iload (pc' := 16) (i := 4) 0 rfl ⟨by decide +kernel, rfl⟩ ?_
  refine z_iconst (pc' := 17) (n := (-1)) (v := (-1)) (by decide) ⟨by decide +kernel, rfl⟩ ?_
  refine z_icmp_eq (pc' := 20) (tgt := 30) (off := 13) ⟨by decide +kernel, rfl⟩ rfl (fun h3 => ?_) (fun h3 => ?_)
  · refine z_iconst (pc' := 31) (n := 0) (v := 0) (by decide) ⟨by decide +kernel, rfl⟩ ?_
    exact z_iret (pc' := 32) ⟨by decide +kernel, rfl⟩
  · refine z_iload_n (pc' := 21) (k := 3) (i := 3) 4 rfl rfl ⟨by decide +kernel, rfl⟩ ?_
    refine z_if_lt (pc' := 24) (tgt := 30) (off := 9) ⟨by decide +kernel, rfl⟩ rfl (fun h4 => ?_) (fun h4 => ?_)
    · refine z_iconst (pc' := 31) (n := 0) (v := 0) (by decide) ⟨by decide +kernel, rfl⟩ ?_
      exact z_iret (pc' := 32) ⟨by decide +kernel, rfl⟩
    · refine z_iload_n (pc' := 25) (k := 3) (i := 3) 4 rfl rfl ⟨by decide +kernel, rfl⟩ ?_
      refine z_bipush (pc' := 27) (n := 8) (v := 8) (by decide) ⟨by decide +kernel, rfl⟩ ?_
      refine z_icmp_lt (pc' := 30) (tgt := 32) (off := 5) ⟨by decide +kernel, rfl⟩ rfl (fun h5 => ?_) (fun h5 => ?_)
      · refine z_aload_n (pc' := 33) (k := 0) (i := 0) 1 rfl rfl ⟨by decide +kernel, rfl⟩ ?_
        refine z_getR (pc' := 36) (cef_E23_0 ca D) rfl (y := a 34) rfl ⟨by decide +kernel, rfl⟩ ?_
        refine z_getR (pc' := 39) (cef_E92_34 ca D) rfl (y := a 36) rfl ⟨by decide +kernel, rfl⟩ ?_
        refine z_getR (pc' := 42) (cef_E119_36 ca D) rfl (y := g 88) rfl ⟨by decide +kernel, rfl⟩ ?_
        refine z_iload (pc' := 44) (i := 4) 0 rfl ⟨by decide +kernel, rfl⟩ ?_
        refine z_lald (pc' := 45) 88 rfl (zlt rfl) rfl rfl ⟨by decide +kernel, rfl⟩ ?_
        refine z_bipush (pc' := 47) (n := 8) (v := 8) (by decide) ⟨by decide +kernel, rfl⟩ ?_
        refine z_iload_n (pc' := 48) (k := 3) (i := 3) 4 rfl rfl ⟨by decide +kernel, rfl⟩ ?_
        refine z_imul (pc' := 49) ⟨by decide +kernel, rfl⟩ ?_
        refine z_lushr (pc' := 50) ⟨by decide +kernel, rfl⟩ ?_
        refine z_l2i (pc' := 51) ⟨by decide +kernel, rfl⟩ ?_
        refine z_sipush (pc' := 54) (n := 255) (v := 255) (by decide) ⟨by decide +kernel, rfl⟩ ?_
        refine z_iand (pc' := 55) ⟨by decide +kernel, rfl⟩ ?_
        exact z_iret (pc' := 56) ⟨by decide +kernel, rfl⟩
      · refine z_iconst (pc' := 31) (n := 0) (v := 0) (by decide) ⟨by decide +kernel, rfl⟩ ?_
        exact z_iret (pc' := 32) ⟨by decide +kernel, rfl⟩
set_option maxRecDepth 20000 in
set_option maxHeartbeats 4000000 in
theorem cet_E_row {l : Launch} {ca : Nat → ClassId} {D : va_G} {a g : Nat → Nat} (n : Nat) (u : zMu) (x1 : Int32) (x2 : Int32) : zMet l (zCe ca D) ceY_E_row (.code ceY_E_row prog_1_method_13_code 5 (some .int)) zri true 2 a g [.ref (a 0), .int x1, .int x2] u (ce_E_row n u x1 x2) := by
  refine zMet.of rfl (Nat.le_of_ble_eq_true rfl) fun κ A hl => ?_
  subst hl
  unfold ce_E_row
  refine z_aload_n (pc' := 1) (k := 0) (i := 0) 0 rfl rfl ⟨by decide +kernel, rfl⟩ ?_
  refine z_getR (pc' := 4) (cef_E23_0 ca D) rfl (y := a 34) rfl ⟨by decide +kernel, rfl⟩ ?_
  refine z_getR (pc' := 7) (cef_E123_34 ca D) rfl (y := a 45) rfl ⟨by decide +kernel, rfl⟩ ?_
  refine z_astore_n (pc' := 8) (k := 3) (i := 3) rfl (by decide) rfl ⟨by decide +kernel, rfl⟩ ?_
  refine z_aload_n (pc' := 9) (k := 3) (i := 3) 0 rfl rfl ⟨by decide +kernel, rfl⟩ ?_
  refine z_iload_n (pc' := 10) (k := 1) (i := 1) 2 rfl rfl ⟨by decide +kernel, rfl⟩ ?_
  refine z_callVf (pc' := 13) 45 (cet_R_isRow n u x1) (ceG_E127 ca D) (ceO_45 ca D) rfl (by omega) rfl rfl (Nat.le_of_ble_eq_true rfl) ⟨by decide +kernel, rfl⟩ (fun r1 u2 => ?_)
  refine z_if_eq (pc' := 16) (tgt := 20) (off := 7) ⟨by decide +kernel, rfl⟩ rfl (fun h3 => ?_) (fun h3 => ?_)
  · refine z_bipush (pc' := 22) (n := (-2)) (v := (-2)) (by decide) ⟨by decide +kernel, rfl⟩ ?_
    exact z_iret (pc' := 23) ⟨by decide +kernel, rfl⟩
  · refine z_iload_n (pc' := 17) (k := 2) (i := 2) 3 rfl rfl ⟨by decide +kernel, rfl⟩ ?_
    refine z_if_ge (pc' := 20) (tgt := 23) (off := 6) ⟨by decide +kernel, rfl⟩ rfl (fun h4 => ?_) (fun h4 => ?_)
    · refine z_bipush (pc' := 22) (n := (-2)) (v := (-2)) (by decide) ⟨by decide +kernel, rfl⟩ ?_
      exact z_iret (pc' := 23) ⟨by decide +kernel, rfl⟩
    · refine z_iload_n (pc' := 24) (k := 2) (i := 2) 3 rfl rfl ⟨by decide +kernel, rfl⟩ ?_
      refine z_if_ne (pc' := 27) (tgt := 34) (off := 10) ⟨by decide +kernel, rfl⟩ rfl (fun h5 => ?_) (fun h5 => ?_)
      · refine z_aload_n (pc' := 28) (k := 3) (i := 3) 0 rfl rfl ⟨by decide +kernel, rfl⟩ ?_
        refine z_getR (pc' := 31) (cef_E132_45 ca D) rfl (y := a 46) rfl ⟨by decide +kernel, rfl⟩ ?_
        refine z_iload_n (pc' := 32) (k := 1) (i := 1) 2 rfl rfl ⟨by decide +kernel, rfl⟩ ?_
        refine z_iald (pc' := 33) 46 rfl (zlt rfl) rfl rfl ⟨by decide +kernel, rfl⟩ ?_
        exact z_iret (pc' := 34) ⟨by decide +kernel, rfl⟩
      · refine z_iload_n (pc' := 35) (k := 2) (i := 2) 3 rfl rfl ⟨by decide +kernel, rfl⟩ ?_
        refine z_iconst (pc' := 36) (n := 1) (v := 1) (by decide) ⟨by decide +kernel, rfl⟩ ?_
        refine z_icmp_ne (pc' := 39) (tgt := 46) (off := 10) ⟨by decide +kernel, rfl⟩ rfl (fun h6 => ?_) (fun h6 => ?_)
        · refine z_aload_n (pc' := 40) (k := 3) (i := 3) 0 rfl rfl ⟨by decide +kernel, rfl⟩ ?_
          refine z_getR (pc' := 43) (cef_E135_45 ca D) rfl (y := a 47) rfl ⟨by decide +kernel, rfl⟩ ?_
          refine z_iload_n (pc' := 44) (k := 1) (i := 1) 2 rfl rfl ⟨by decide +kernel, rfl⟩ ?_
          refine z_iald (pc' := 45) 47 rfl (zlt rfl) rfl rfl ⟨by decide +kernel, rfl⟩ ?_
          exact z_iret (pc' := 46) ⟨by decide +kernel, rfl⟩
        · refine z_aload_n (pc' := 47) (k := 3) (i := 3) 0 rfl rfl ⟨by decide +kernel, rfl⟩ ?_
          refine z_iload_n (pc' := 48) (k := 1) (i := 1) 2 rfl rfl ⟨by decide +kernel, rfl⟩ ?_
          refine z_iload_n (pc' := 49) (k := 2) (i := 2) 3 rfl rfl ⟨by decide +kernel, rfl⟩ ?_
          refine z_iconst (pc' := 50) (n := 2) (v := 2) (by decide) ⟨by decide +kernel, rfl⟩ ?_
          refine z_isub (pc' := 51) ⟨by decide +kernel, rfl⟩ ?_
          refine z_i2l (pc' := 52) ⟨by decide +kernel, rfl⟩ ?_
          refine z_callVf (pc' := 55) 45 (cet_R_placeOf n u2 x1 ((x2 - 2).toInt64)) (ceG_E136 ca D) (ceO_45 ca D) rfl (by omega) rfl rfl (Nat.le_of_ble_eq_true rfl) ⟨by decide +kernel, rfl⟩ (fun r7 u8 => ?_)
          refine z_istore (pc' := 57) (i := 4) (by decide) rfl ⟨by decide +kernel, rfl⟩ ?_
          refine z_iload (pc' := 59) (i := 4) 0 rfl ⟨by decide +kernel, rfl⟩ ?_
          refine z_iconst (pc' := 60) (n := (-1)) (v := (-1)) (by decide) ⟨by decide +kernel, rfl⟩ ?_
          refine z_icmp_ne (pc' := 63) (tgt := 67) (off := 7) ⟨by decide +kernel, rfl⟩ rfl (fun h9 => ?_) (fun h9 => ?_)
          · refine z_iconst (pc' := 64) (n := (-1)) (v := (-1)) (by decide) ⟨by decide +kernel, rfl⟩ ?_
            refine z_goto (tgt := 76) (off := 12) (by decide +kernel) rfl ?_
            exact z_iret (pc' := 77) ⟨by decide +kernel, rfl⟩
          · refine z_aload_n (pc' := 68) (k := 3) (i := 3) 1 rfl rfl ⟨by decide +kernel, rfl⟩ ?_
            refine z_getR (pc' := 71) (cef_E140_45 ca D) rfl (y := a 69) rfl ⟨by decide +kernel, rfl⟩ ?_
            refine z_iload (pc' := 73) (i := 4) 0 rfl ⟨by decide +kernel, rfl⟩ ?_
            refine z_callVf (pc' := 76) 69 (cet_V_sortAt n 69 rfl u8 r7) (ceG_E80 ca D) (ceO_69 ca D) rfl (by omega) rfl rfl (Nat.le_of_ble_eq_true rfl) ⟨by decide +kernel, rfl⟩ (fun r10 u11 => ?_)
            exact z_iret (pc' := 77) ⟨by decide +kernel, rfl⟩
set_option maxRecDepth 20000 in
set_option maxHeartbeats 4000000 in
theorem cet_E_item {l : Launch} {ca : Nat → ClassId} {D : va_G} {a g : Nat → Nat} (n : Nat) (u : zMu) (x1 : Int32) (x2 : Int32) : zMet l (zCe ca D) ceY_E_item (.code ceY_E_item prog_1_method_14_code 5 (some .long)) zrl true 3 a g [.ref (a 0), .int x1, .int x2] u (ce_E_item n u x1 x2) := by
  refine zMet.of rfl (Nat.le_of_ble_eq_true rfl) fun κ A hl => ?_
  subst hl
  unfold ce_E_item
  refine z_aload_n (pc' := 1) (k := 0) (i := 0) 0 rfl rfl ⟨by decide +kernel, rfl⟩ ?_
  refine z_getR (pc' := 4) (cef_E23_0 ca D) rfl (y := a 34) rfl ⟨by decide +kernel, rfl⟩ ?_
  refine z_getR (pc' := 7) (cef_E123_34 ca D) rfl (y := a 45) rfl ⟨by decide +kernel, rfl⟩ ?_
  refine z_astore_n (pc' := 8) (k := 3) (i := 3) rfl (by decide) rfl ⟨by decide +kernel, rfl⟩ ?_
  refine z_aload_n (pc' := 9) (k := 3) (i := 3) 0 rfl rfl ⟨by decide +kernel, rfl⟩ ?_
  refine z_iload_n (pc' := 10) (k := 1) (i := 1) 2 rfl rfl ⟨by decide +kernel, rfl⟩ ?_
  refine z_iload_n (pc' := 11) (k := 2) (i := 2) 3 rfl rfl ⟨by decide +kernel, rfl⟩ ?_
  refine z_i2l (pc' := 12) ⟨by decide +kernel, rfl⟩ ?_
  refine z_callVf (pc' := 15) 45 (cet_R_placeOf n u x1 (x2.toInt64)) (ceG_E136 ca D) (ceO_45 ca D) rfl (by omega) rfl rfl (Nat.le_of_ble_eq_true rfl) ⟨by decide +kernel, rfl⟩ (fun r1 u2 => ?_)
  refine z_istore (pc' := 17) (i := 4) (by decide) rfl ⟨by decide +kernel, rfl⟩ ?_
  refine z_iload (pc' := 19) (i := 4) 0 rfl ⟨by decide +kernel, rfl⟩ ?_
  refine z_iconst (pc' := 20) (n := (-1)) (v := (-1)) (by decide) ⟨by decide +kernel, rfl⟩ ?_
  refine z_icmp_ne (pc' := 23) (tgt := 27) (off := 7) ⟨by decide +kernel, rfl⟩ rfl (fun h3 => ?_) (fun h3 => ?_)
  · refine z_lconst (pc' := 24) (n := 0) (v := 0) (by decide) ⟨by decide +kernel, rfl⟩ ?_
    refine z_goto (tgt := 36) (off := 12) (by decide +kernel) rfl ?_
    exact z_lret (pc' := 37) ⟨by decide +kernel, rfl⟩
  · refine z_aload_n (pc' := 28) (k := 3) (i := 3) 1 rfl rfl ⟨by decide +kernel, rfl⟩ ?_
    refine z_getR (pc' := 31) (cef_E140_45 ca D) rfl (y := a 69) rfl ⟨by decide +kernel, rfl⟩ ?_
    refine z_iload (pc' := 33) (i := 4) 0 rfl ⟨by decide +kernel, rfl⟩ ?_
    refine z_callVf (pc' := 36) 69 (cet_V_worthAt n 69 rfl u2 r1) (ceG_E88 ca D) (ceO_69 ca D) rfl (by omega) rfl rfl (Nat.le_of_ble_eq_true rfl) ⟨by decide +kernel, rfl⟩ (fun r4 u5 => ?_)
    exact z_lret (pc' := 37) ⟨by decide +kernel, rfl⟩
set_option maxRecDepth 20000 in
set_option maxHeartbeats 4000000 in
theorem cet_E_shape {l : Launch} {ca : Nat → ClassId} {D : va_G} {a g : Nat → Nat} (n : Nat) (u : zMu) (x1 : Int32) (x2 : Int32) : zMet l (zCe ca D) ceY_E_shape (.code ceY_E_shape prog_1_method_15_code 4 (some .int)) zri true 1 a g [.ref (a 0), .int x1, .int x2] u (ce_E_shape n u x1 x2) := by
  refine zMet.of rfl (Nat.le_of_ble_eq_true rfl) fun κ A hl => ?_
  subst hl
  unfold ce_E_shape
  refine z_aload_n (pc' := 1) (k := 0) (i := 0) 0 rfl rfl ⟨by decide +kernel, rfl⟩ ?_
  refine z_getR (pc' := 4) (cef_E23_0 ca D) rfl (y := a 34) rfl ⟨by decide +kernel, rfl⟩ ?_
  refine z_getR (pc' := 7) (cef_E92_34 ca D) rfl (y := a 36) rfl ⟨by decide +kernel, rfl⟩ ?_
  refine z_getR (pc' := 10) (cef_E143_36 ca D) rfl (y := a 43) rfl ⟨by decide +kernel, rfl⟩ ?_
  refine z_astore_n (pc' := 11) (k := 3) (i := 3) rfl (by decide) rfl ⟨by decide +kernel, rfl⟩ ?_
  refine z_aload_n (pc' := 12) (k := 3) (i := 3) 0 rfl rfl ⟨by decide +kernel, rfl⟩ ?_
  refine z_iload_n (pc' := 13) (k := 1) (i := 1) 2 rfl rfl ⟨by decide +kernel, rfl⟩ ?_
  refine z_callVf (pc' := 16) 43 (cet_S_isShape n u x1) (ceG_E147 ca D) (ceO_43 ca D) rfl (by omega) rfl rfl (Nat.le_of_ble_eq_true rfl) ⟨by decide +kernel, rfl⟩ (fun r1 u2 => ?_)
  refine z_if_ne (pc' := 19) (tgt := 22) (off := 6) ⟨by decide +kernel, rfl⟩ rfl (fun h3 => ?_) (fun h3 => ?_)
  · refine z_bipush (pc' := 21) (n := (-2)) (v := (-2)) (by decide) ⟨by decide +kernel, rfl⟩ ?_
    exact z_iret (pc' := 22) ⟨by decide +kernel, rfl⟩
  · refine z_iload_n (pc' := 23) (k := 2) (i := 2) 3 rfl rfl ⟨by decide +kernel, rfl⟩ ?_
    refine z_ite (fun h4 => ?_) (fun h4 => ?_)
    · refine z_tabIn (dflt := 57) (lo := 0) (hi := 3) (offs := #[29, 36, 43, 50]) (len := 29) (off := 29) (tgt := 52) h4 (by decide +kernel) (by decide) (by decide) rfl rfl ?_
      refine z_aload_n (pc' := 53) (k := 3) (i := 3) 0 rfl rfl ⟨by decide +kernel, rfl⟩ ?_
      refine z_getR (pc' := 56) (cef_E152_43 ca D) rfl (y := g 81) rfl ⟨by decide +kernel, rfl⟩ ?_
      refine z_iload_n (pc' := 57) (k := 1) (i := 1) 2 rfl rfl ⟨by decide +kernel, rfl⟩ ?_
      refine z_iald (pc' := 58) 81 rfl (zlt rfl) rfl rfl ⟨by decide +kernel, rfl⟩ ?_
      exact z_iret (pc' := 59) ⟨by decide +kernel, rfl⟩
    refine z_ite (fun h5 => ?_) (fun h5 => ?_)
    · refine z_tabIn (dflt := 57) (lo := 0) (hi := 3) (offs := #[29, 36, 43, 50]) (len := 29) (off := 36) (tgt := 59) h5 (by decide +kernel) (by decide) (by decide) rfl rfl ?_
      refine z_aload_n (pc' := 60) (k := 3) (i := 3) 0 rfl rfl ⟨by decide +kernel, rfl⟩ ?_
      refine z_getR (pc' := 63) (cef_E153_43 ca D) rfl (y := g 82) rfl ⟨by decide +kernel, rfl⟩ ?_
      refine z_iload_n (pc' := 64) (k := 1) (i := 1) 2 rfl rfl ⟨by decide +kernel, rfl⟩ ?_
      refine z_iald (pc' := 65) 82 rfl (zlt rfl) rfl rfl ⟨by decide +kernel, rfl⟩ ?_
      exact z_iret (pc' := 66) ⟨by decide +kernel, rfl⟩
    refine z_ite (fun h6 => ?_) (fun h6 => ?_)
    · refine z_tabIn (dflt := 57) (lo := 0) (hi := 3) (offs := #[29, 36, 43, 50]) (len := 29) (off := 43) (tgt := 66) h6 (by decide +kernel) (by decide) (by decide) rfl rfl ?_
      refine z_aload_n (pc' := 67) (k := 3) (i := 3) 0 rfl rfl ⟨by decide +kernel, rfl⟩ ?_
      refine z_getR (pc' := 70) (cef_E156_43 ca D) rfl (y := g 83) rfl ⟨by decide +kernel, rfl⟩ ?_
      refine z_iload_n (pc' := 71) (k := 1) (i := 1) 2 rfl rfl ⟨by decide +kernel, rfl⟩ ?_
      refine z_iald (pc' := 72) 83 rfl (zlt rfl) rfl rfl ⟨by decide +kernel, rfl⟩ ?_
      exact z_iret (pc' := 73) ⟨by decide +kernel, rfl⟩
    refine z_ite (fun h7 => ?_) (fun h7 => ?_)
    · refine z_tabIn (dflt := 57) (lo := 0) (hi := 3) (offs := #[29, 36, 43, 50]) (len := 29) (off := 50) (tgt := 73) h7 (by decide +kernel) (by decide) (by decide) rfl rfl ?_
      refine z_aload_n (pc' := 74) (k := 3) (i := 3) 0 rfl rfl ⟨by decide +kernel, rfl⟩ ?_
      refine z_getR (pc' := 77) (cef_E159_43 ca D) rfl (y := g 84) rfl ⟨by decide +kernel, rfl⟩ ?_
      refine z_iload_n (pc' := 78) (k := 1) (i := 1) 2 rfl rfl ⟨by decide +kernel, rfl⟩ ?_
      refine z_iald (pc' := 79) 84 rfl (zlt rfl) rfl rfl ⟨by decide +kernel, rfl⟩ ?_
      exact z_iret (pc' := 80) ⟨by decide +kernel, rfl⟩
    refine z_tabOut (dflt := 57) (lo := 0) (hi := 3) (offs := #[29, 36, 43, 50]) (len := 29) (tgt := 80) (by decide +kernel) (by have h4' := lv_neT h4 (a := 0) (by decide); have h5' := lv_neT h5 (a := 1) (by decide); have h6' := lv_neT h6 (a := 2) (by decide); have h7' := lv_neT h7 (a := 3) (by decide); omega) rfl ?_
    refine z_bipush (pc' := 82) (n := (-2)) (v := (-2)) (by decide) ⟨by decide +kernel, rfl⟩ ?_
    exact z_iret (pc' := 83) ⟨by decide +kernel, rfl⟩
set_option maxRecDepth 20000 in
set_option maxHeartbeats 4000000 in
theorem cet_E_site {l : Launch} {ca : Nat → ClassId} {D : va_G} {a g : Nat → Nat} (n : Nat) (u : zMu) (x1 : Int32) (x2 : Int32) : zMet l (zCe ca D) ceY_E_site (.code ceY_E_site prog_1_method_16_code 4 (some .int)) zri true 1 a g [.ref (a 0), .int x1, .int x2] u (ce_E_site n u x1 x2) := by
  refine zMet.of rfl (Nat.le_of_ble_eq_true rfl) fun κ A hl => ?_
  subst hl
  unfold ce_E_site
  refine z_aload_n (pc' := 1) (k := 0) (i := 0) 0 rfl rfl ⟨by decide +kernel, rfl⟩ ?_
  refine z_getG (pc' := 4) (cef_E30_0 ca D) rfl (fun _ h => ⟨zpr_n0 h, ce_adP0 h⟩) ⟨by decide +kernel, rfl⟩ fun p1 hp1 => ?_
  refine z_iload_n (pc' := 5) (k := 1) (i := 1) 1 rfl rfl ⟨by decide +kernel, rfl⟩ ?_
  refine z_callVf (pc' := 8) p1 (cet_P_isSite n p1 hp1 u x1) (ceG_E162 ca D) (ceO_P ca D hp1) (ce_adP0 hp1) (by omega) rfl rfl (Nat.le_of_ble_eq_true rfl) ⟨by decide +kernel, rfl⟩ (fun r2 u3 => ?_)
  refine z_if_eq (pc' := 11) (tgt := 15) (off := 7) ⟨by decide +kernel, rfl⟩ rfl (fun h4 => ?_) (fun h4 => ?_)
  · refine z_bipush (pc' := 17) (n := (-2)) (v := (-2)) (by decide) ⟨by decide +kernel, rfl⟩ ?_
    exact z_iret (pc' := 18) ⟨by decide +kernel, rfl⟩
  · refine z_iload_n (pc' := 12) (k := 2) (i := 2) 2 rfl rfl ⟨by decide +kernel, rfl⟩ ?_
    refine z_if_ge (pc' := 15) (tgt := 18) (off := 6) ⟨by decide +kernel, rfl⟩ rfl (fun h5 => ?_) (fun h5 => ?_)
    · refine z_bipush (pc' := 17) (n := (-2)) (v := (-2)) (by decide) ⟨by decide +kernel, rfl⟩ ?_
      exact z_iret (pc' := 18) ⟨by decide +kernel, rfl⟩
    · refine z_aload_n (pc' := 19) (k := 0) (i := 0) 0 rfl rfl ⟨by decide +kernel, rfl⟩ ?_
      refine z_getR (pc' := 22) (cef_E23_0 ca D) rfl (y := a 34) rfl ⟨by decide +kernel, rfl⟩ ?_
      refine z_getR (pc' := 25) (cef_E165_34 ca D) rfl (y := a 49) rfl ⟨by decide +kernel, rfl⟩ ?_
      refine z_astore_n (pc' := 26) (k := 3) (i := 3) rfl (by decide) rfl ⟨by decide +kernel, rfl⟩ ?_
      refine z_iload_n (pc' := 27) (k := 2) (i := 2) 3 rfl rfl ⟨by decide +kernel, rfl⟩ ?_
      refine z_ite (fun h7 => ?_) (fun h7 => ?_)
      · refine z_tabIn (dflt := 139) (lo := 0) (hi := 7) (offs := #[45, 55, 65, 72, 79, 108, 115, 125]) (len := 45) (off := 45) (tgt := 72) h7 (by decide +kernel) (by decide) (by decide) rfl rfl ?_
        refine z_aload_n (pc' := 73) (k := 0) (i := 0) 1 rfl rfl ⟨by decide +kernel, rfl⟩ ?_
        refine z_getG (pc' := 76) (cef_E30_0 ca D) rfl (fun _ h => ⟨zpr_n0 h, ce_adP0 h⟩) ⟨by decide +kernel, rfl⟩ fun p6 hp6 => ?_
        refine z_getR (pc' := 79) (cef_E168_P ca D hp6) (ce_adP0 hp6) (y := a (p6 + 4)) (ce_frP4 hp6) ⟨by decide +kernel, rfl⟩ ?_
        refine z_iload_n (pc' := 80) (k := 1) (i := 1) 2 rfl rfl ⟨by decide +kernel, rfl⟩ ?_
        refine z_iald (pc' := 81) (p6 + 4) (ce_ckP4 hp6) (ce_clP4 hp6) (ce_cnP4 hp6) (ce_adP4 hp6) ⟨by decide +kernel, rfl⟩ ?_
        exact z_iret (pc' := 82) ⟨by decide +kernel, rfl⟩
      refine z_ite (fun h9 => ?_) (fun h9 => ?_)
      · refine z_tabIn (dflt := 139) (lo := 0) (hi := 7) (offs := #[45, 55, 65, 72, 79, 108, 115, 125]) (len := 45) (off := 55) (tgt := 82) h9 (by decide +kernel) (by decide) (by decide) rfl rfl ?_
        refine z_aload_n (pc' := 83) (k := 0) (i := 0) 1 rfl rfl ⟨by decide +kernel, rfl⟩ ?_
        refine z_getG (pc' := 86) (cef_E30_0 ca D) rfl (fun _ h => ⟨zpr_n0 h, ce_adP0 h⟩) ⟨by decide +kernel, rfl⟩ fun p8 hp8 => ?_
        refine z_getR (pc' := 89) (cef_E171_P ca D hp8) (ce_adP0 hp8) (y := a (p8 + 5)) (ce_frP5 hp8) ⟨by decide +kernel, rfl⟩ ?_
        refine z_iload_n (pc' := 90) (k := 1) (i := 1) 2 rfl rfl ⟨by decide +kernel, rfl⟩ ?_
        refine z_iald (pc' := 91) (p8 + 5) (ce_ckP5 hp8) (ce_clP5 hp8) (ce_cnP5 hp8) (ce_adP5 hp8) ⟨by decide +kernel, rfl⟩ ?_
        exact z_iret (pc' := 92) ⟨by decide +kernel, rfl⟩
      refine z_ite (fun h10 => ?_) (fun h10 => ?_)
      · refine z_tabIn (dflt := 139) (lo := 0) (hi := 7) (offs := #[45, 55, 65, 72, 79, 108, 115, 125]) (len := 45) (off := 65) (tgt := 92) h10 (by decide +kernel) (by decide) (by decide) rfl rfl ?_
        refine z_aload_n (pc' := 93) (k := 3) (i := 3) 0 rfl rfl ⟨by decide +kernel, rfl⟩ ?_
        refine z_getR (pc' := 96) (cef_E174_49 ca D) rfl (y := a 50) rfl ⟨by decide +kernel, rfl⟩ ?_
        refine z_iload_n (pc' := 97) (k := 1) (i := 1) 2 rfl rfl ⟨by decide +kernel, rfl⟩ ?_
        refine z_iald (pc' := 98) 50 rfl (zlt rfl) rfl rfl ⟨by decide +kernel, rfl⟩ ?_
        exact z_iret (pc' := 99) ⟨by decide +kernel, rfl⟩
      refine z_ite (fun h11 => ?_) (fun h11 => ?_)
      · refine z_tabIn (dflt := 139) (lo := 0) (hi := 7) (offs := #[45, 55, 65, 72, 79, 108, 115, 125]) (len := 45) (off := 72) (tgt := 99) h11 (by decide +kernel) (by decide) (by decide) rfl rfl ?_
        refine z_aload_n (pc' := 100) (k := 3) (i := 3) 0 rfl rfl ⟨by decide +kernel, rfl⟩ ?_
        refine z_getR (pc' := 103) (cef_E179_49 ca D) rfl (y := a 51) rfl ⟨by decide +kernel, rfl⟩ ?_
        refine z_iload_n (pc' := 104) (k := 1) (i := 1) 2 rfl rfl ⟨by decide +kernel, rfl⟩ ?_
        refine z_iald (pc' := 105) 51 rfl (zlt rfl) rfl rfl ⟨by decide +kernel, rfl⟩ ?_
        exact z_iret (pc' := 106) ⟨by decide +kernel, rfl⟩
      refine z_ite (fun h14 => ?_) (fun h14 => ?_)
      · refine z_tabIn (dflt := 139) (lo := 0) (hi := 7) (offs := #[45, 55, 65, 72, 79, 108, 115, 125]) (len := 45) (off := 79) (tgt := 106) h14 (by decide +kernel) (by decide) (by decide) rfl rfl ?_
        refine z_aload_n (pc' := 107) (k := 0) (i := 0) 1 rfl rfl ⟨by decide +kernel, rfl⟩ ?_
        refine z_getG (pc' := 110) (cef_E30_0 ca D) rfl (fun _ h => ⟨zpr_n0 h, ce_adP0 h⟩) ⟨by decide +kernel, rfl⟩ fun p12 hp12 => ?_
        refine z_getR (pc' := 113) (cef_E168_P ca D hp12) (ce_adP0 hp12) (y := a (p12 + 4)) (ce_frP4 hp12) ⟨by decide +kernel, rfl⟩ ?_
        refine z_iload_n (pc' := 114) (k := 1) (i := 1) 2 rfl rfl ⟨by decide +kernel, rfl⟩ ?_
        refine z_iald (pc' := 115) (p12 + 4) (ce_ckP4 hp12) (ce_clP4 hp12) (ce_cnP4 hp12) (ce_adP4 hp12) ⟨by decide +kernel, rfl⟩ ?_
        refine z_iconst (pc' := 116) (n := 3) (v := 3) (by decide) ⟨by decide +kernel, rfl⟩ ?_
        refine z_icmp_ne (pc' := 119) (tgt := 128) (off := 12) ⟨by decide +kernel, rfl⟩ rfl (fun h13 => ?_) (fun h13 => ?_)
        · refine z_aload_n (pc' := 120) (k := 3) (i := 3) 0 rfl rfl ⟨by decide +kernel, rfl⟩ ?_
          refine z_getR (pc' := 123) (cef_E182_49 ca D) rfl (y := a 54) rfl ⟨by decide +kernel, rfl⟩ ?_
          refine z_iload_n (pc' := 124) (k := 1) (i := 1) 2 rfl rfl ⟨by decide +kernel, rfl⟩ ?_
          refine z_iald (pc' := 125) 54 rfl (zlt rfl) rfl rfl ⟨by decide +kernel, rfl⟩ ?_
          refine z_goto (tgt := 134) (off := 9) (by decide +kernel) rfl ?_
          exact z_iret (pc' := 135) ⟨by decide +kernel, rfl⟩
        · refine z_aload_n (pc' := 129) (k := 3) (i := 3) 0 rfl rfl ⟨by decide +kernel, rfl⟩ ?_
          refine z_getR (pc' := 132) (cef_E185_49 ca D) rfl (y := a 52) rfl ⟨by decide +kernel, rfl⟩ ?_
          refine z_iload_n (pc' := 133) (k := 1) (i := 1) 2 rfl rfl ⟨by decide +kernel, rfl⟩ ?_
          refine z_iald (pc' := 134) 52 rfl (zlt rfl) rfl rfl ⟨by decide +kernel, rfl⟩ ?_
          exact z_iret (pc' := 135) ⟨by decide +kernel, rfl⟩
      refine z_ite (fun h15 => ?_) (fun h15 => ?_)
      · refine z_tabIn (dflt := 139) (lo := 0) (hi := 7) (offs := #[45, 55, 65, 72, 79, 108, 115, 125]) (len := 45) (off := 108) (tgt := 135) h15 (by decide +kernel) (by decide) (by decide) rfl rfl ?_
        refine z_aload_n (pc' := 136) (k := 3) (i := 3) 0 rfl rfl ⟨by decide +kernel, rfl⟩ ?_
        refine z_getR (pc' := 139) (cef_E186_49 ca D) rfl (y := a 53) rfl ⟨by decide +kernel, rfl⟩ ?_
        refine z_iload_n (pc' := 140) (k := 1) (i := 1) 2 rfl rfl ⟨by decide +kernel, rfl⟩ ?_
        refine z_iald (pc' := 141) 53 rfl (zlt rfl) rfl rfl ⟨by decide +kernel, rfl⟩ ?_
        exact z_iret (pc' := 142) ⟨by decide +kernel, rfl⟩
      refine z_ite (fun h17 => ?_) (fun h17 => ?_)
      · refine z_tabIn (dflt := 139) (lo := 0) (hi := 7) (offs := #[45, 55, 65, 72, 79, 108, 115, 125]) (len := 45) (off := 115) (tgt := 142) h17 (by decide +kernel) (by decide) (by decide) rfl rfl ?_
        refine z_aload_n (pc' := 143) (k := 0) (i := 0) 1 rfl rfl ⟨by decide +kernel, rfl⟩ ?_
        refine z_getG (pc' := 146) (cef_E30_0 ca D) rfl (fun _ h => ⟨zpr_n0 h, ce_adP0 h⟩) ⟨by decide +kernel, rfl⟩ fun p16 hp16 => ?_
        refine z_getR (pc' := 149) (cef_E189_P ca D hp16) (ce_adP0 hp16) (y := a (p16 + 6)) (ce_frP6 hp16) ⟨by decide +kernel, rfl⟩ ?_
        refine z_iload_n (pc' := 150) (k := 1) (i := 1) 2 rfl rfl ⟨by decide +kernel, rfl⟩ ?_
        refine z_iald (pc' := 151) (p16 + 6) (ce_ckP6 hp16) (ce_clP6 hp16) (ce_cnP6 hp16) (ce_adP6 hp16) ⟨by decide +kernel, rfl⟩ ?_
        exact z_iret (pc' := 152) ⟨by decide +kernel, rfl⟩
      refine z_ite (fun h21 => ?_) (fun h21 => ?_)
      · refine z_tabIn (dflt := 139) (lo := 0) (hi := 7) (offs := #[45, 55, 65, 72, 79, 108, 115, 125]) (len := 45) (off := 125) (tgt := 152) h21 (by decide +kernel) (by decide) (by decide) rfl rfl ?_
        refine z_aload_n (pc' := 153) (k := 3) (i := 3) 0 rfl rfl ⟨by decide +kernel, rfl⟩ ?_
        refine z_iload_n (pc' := 154) (k := 1) (i := 1) 2 rfl rfl ⟨by decide +kernel, rfl⟩ ?_
        refine z_callVf (pc' := 157) 49 (cet_T_hasGuess n u3 x1) (ceG_E192 ca D) (ceO_49 ca D) rfl (by omega) rfl rfl (Nat.le_of_ble_eq_true rfl) ⟨by decide +kernel, rfl⟩ (fun r18 u19 => ?_)
        refine z_if_eq (pc' := 160) (tgt := 164) (off := 7) ⟨by decide +kernel, rfl⟩ rfl (fun h20 => ?_) (fun h20 => ?_)
        · refine z_iconst (pc' := 165) (n := 0) (v := 0) (by decide) ⟨by decide +kernel, rfl⟩ ?_
          exact z_iret (pc' := 166) ⟨by decide +kernel, rfl⟩
        · refine z_iconst (pc' := 161) (n := 1) (v := 1) (by decide) ⟨by decide +kernel, rfl⟩ ?_
          refine z_goto (tgt := 165) (off := 4) (by decide +kernel) rfl ?_
          exact z_iret (pc' := 166) ⟨by decide +kernel, rfl⟩
      refine z_tabOut (dflt := 139) (lo := 0) (hi := 7) (offs := #[45, 55, 65, 72, 79, 108, 115, 125]) (len := 45) (tgt := 166) (by decide +kernel) (by have h7' := lv_neT h7 (a := 0) (by decide); have h9' := lv_neT h9 (a := 1) (by decide); have h10' := lv_neT h10 (a := 2) (by decide); have h11' := lv_neT h11 (a := 3) (by decide); have h14' := lv_neT h14 (a := 4) (by decide); have h15' := lv_neT h15 (a := 5) (by decide); have h17' := lv_neT h17 (a := 6) (by decide); have h21' := lv_neT h21 (a := 7) (by decide); omega) rfl ?_
      refine z_aload_n (pc' := 167) (k := 3) (i := 3) 0 rfl rfl ⟨by decide +kernel, rfl⟩ ?_
      refine z_iload_n (pc' := 168) (k := 1) (i := 1) 2 rfl rfl ⟨by decide +kernel, rfl⟩ ?_
      refine z_iload_n (pc' := 169) (k := 2) (i := 2) 3 rfl rfl ⟨by decide +kernel, rfl⟩ ?_
      refine z_bipush (pc' := 171) (n := 8) (v := 8) (by decide) ⟨by decide +kernel, rfl⟩ ?_
      refine z_isub (pc' := 172) ⟨by decide +kernel, rfl⟩ ?_
      refine z_callVf (pc' := 175) 49 (cet_T_entryAt n u3 x1 (x2 - 8)) (ceG_E195 ca D) (ceO_49 ca D) rfl (by omega) rfl rfl (Nat.le_of_ble_eq_true rfl) ⟨by decide +kernel, rfl⟩ (fun r22 u23 => ?_)
      exact z_iret (pc' := 176) ⟨by decide +kernel, rfl⟩
set_option maxRecDepth 20000 in
set_option maxHeartbeats 4000000 in
theorem cet_E_fn {l : Launch} {ca : Nat → ClassId} {D : va_G} {a g : Nat → Nat} (n : Nat) (u : zMu) (x1 : Int32) (x2 : Int32) : zMet l (zCe ca D) ceY_E_fn (.code ceY_E_fn prog_1_method_17_code 4 (some .int)) zri true 1 a g [.ref (a 0), .int x1, .int x2] u (ce_E_fn n u x1 x2) := by
  refine zMet.of rfl (Nat.le_of_ble_eq_true rfl) fun κ A hl => ?_
  subst hl
  unfold ce_E_fn
  refine z_aload_n (pc' := 1) (k := 0) (i := 0) 0 rfl rfl ⟨by decide +kernel, rfl⟩ ?_
  refine z_getG (pc' := 4) (cef_E30_0 ca D) rfl (fun _ h => ⟨zpr_n0 h, ce_adP0 h⟩) ⟨by decide +kernel, rfl⟩ fun p1 hp1 => ?_
  refine z_iload_n (pc' := 5) (k := 1) (i := 1) 1 rfl rfl ⟨by decide +kernel, rfl⟩ ?_
  refine z_callVf (pc' := 8) p1 (cet_P_isFn n p1 hp1 u x1) (ceG_E198 ca D) (ceO_P ca D hp1) (ce_adP0 hp1) (by omega) rfl rfl (Nat.le_of_ble_eq_true rfl) ⟨by decide +kernel, rfl⟩ (fun r2 u3 => ?_)
  refine z_if_ne (pc' := 11) (tgt := 14) (off := 6) ⟨by decide +kernel, rfl⟩ rfl (fun h4 => ?_) (fun h4 => ?_)
  · refine z_bipush (pc' := 13) (n := (-2)) (v := (-2)) (by decide) ⟨by decide +kernel, rfl⟩ ?_
    exact z_iret (pc' := 14) ⟨by decide +kernel, rfl⟩
  · refine z_aload_n (pc' := 15) (k := 0) (i := 0) 0 rfl rfl ⟨by decide +kernel, rfl⟩ ?_
    refine z_getR (pc' := 18) (cef_E23_0 ca D) rfl (y := a 34) rfl ⟨by decide +kernel, rfl⟩ ?_
    refine z_getR (pc' := 21) (cef_E201_34 ca D) rfl (y := a 59) rfl ⟨by decide +kernel, rfl⟩ ?_
    refine z_astore_n (pc' := 22) (k := 3) (i := 3) rfl (by decide) rfl ⟨by decide +kernel, rfl⟩ ?_
    refine z_iload_n (pc' := 23) (k := 2) (i := 2) 3 rfl rfl ⟨by decide +kernel, rfl⟩ ?_
    refine z_ite (fun h6 => ?_) (fun h6 => ?_)
    · refine z_tabIn (dflt := 111) (lo := 0) (hi := 7) (offs := #[45, 55, 62, 69, 76, 83, 90, 104]) (len := 45) (off := 45) (tgt := 68) h6 (by decide +kernel) (by decide) (by decide) rfl rfl ?_
      refine z_aload_n (pc' := 69) (k := 0) (i := 0) 1 rfl rfl ⟨by decide +kernel, rfl⟩ ?_
      refine z_getG (pc' := 72) (cef_E30_0 ca D) rfl (fun _ h => ⟨zpr_n0 h, ce_adP0 h⟩) ⟨by decide +kernel, rfl⟩ fun p5 hp5 => ?_
      refine z_getR (pc' := 75) (cef_E205_P ca D hp5) (ce_adP0 hp5) (y := a (p5 + 10)) (ce_frP10 hp5) ⟨by decide +kernel, rfl⟩ ?_
      refine z_iload_n (pc' := 76) (k := 1) (i := 1) 2 rfl rfl ⟨by decide +kernel, rfl⟩ ?_
      refine z_iald (pc' := 77) (p5 + 10) (ce_ckP10 hp5) (ce_clP10 hp5) (ce_cnP10 hp5) (ce_adP10 hp5) ⟨by decide +kernel, rfl⟩ ?_
      exact z_iret (pc' := 78) ⟨by decide +kernel, rfl⟩
    refine z_ite (fun h7 => ?_) (fun h7 => ?_)
    · refine z_tabIn (dflt := 111) (lo := 0) (hi := 7) (offs := #[45, 55, 62, 69, 76, 83, 90, 104]) (len := 45) (off := 55) (tgt := 78) h7 (by decide +kernel) (by decide) (by decide) rfl rfl ?_
      refine z_aload_n (pc' := 79) (k := 3) (i := 3) 0 rfl rfl ⟨by decide +kernel, rfl⟩ ?_
      refine z_getR (pc' := 82) (cef_E208_59 ca D) rfl (y := a 60) rfl ⟨by decide +kernel, rfl⟩ ?_
      refine z_iload_n (pc' := 83) (k := 1) (i := 1) 2 rfl rfl ⟨by decide +kernel, rfl⟩ ?_
      refine z_iald (pc' := 84) 60 rfl (zlt rfl) rfl rfl ⟨by decide +kernel, rfl⟩ ?_
      exact z_iret (pc' := 85) ⟨by decide +kernel, rfl⟩
    refine z_ite (fun h8 => ?_) (fun h8 => ?_)
    · refine z_tabIn (dflt := 111) (lo := 0) (hi := 7) (offs := #[45, 55, 62, 69, 76, 83, 90, 104]) (len := 45) (off := 62) (tgt := 85) h8 (by decide +kernel) (by decide) (by decide) rfl rfl ?_
      refine z_aload_n (pc' := 86) (k := 3) (i := 3) 0 rfl rfl ⟨by decide +kernel, rfl⟩ ?_
      refine z_getR (pc' := 89) (cef_E213_59 ca D) rfl (y := a 61) rfl ⟨by decide +kernel, rfl⟩ ?_
      refine z_iload_n (pc' := 90) (k := 1) (i := 1) 2 rfl rfl ⟨by decide +kernel, rfl⟩ ?_
      refine z_iald (pc' := 91) 61 rfl (zlt rfl) rfl rfl ⟨by decide +kernel, rfl⟩ ?_
      exact z_iret (pc' := 92) ⟨by decide +kernel, rfl⟩
    refine z_ite (fun h9 => ?_) (fun h9 => ?_)
    · refine z_tabIn (dflt := 111) (lo := 0) (hi := 7) (offs := #[45, 55, 62, 69, 76, 83, 90, 104]) (len := 45) (off := 69) (tgt := 92) h9 (by decide +kernel) (by decide) (by decide) rfl rfl ?_
      refine z_aload_n (pc' := 93) (k := 3) (i := 3) 0 rfl rfl ⟨by decide +kernel, rfl⟩ ?_
      refine z_getR (pc' := 96) (cef_E216_59 ca D) rfl (y := a 62) rfl ⟨by decide +kernel, rfl⟩ ?_
      refine z_iload_n (pc' := 97) (k := 1) (i := 1) 2 rfl rfl ⟨by decide +kernel, rfl⟩ ?_
      refine z_iald (pc' := 98) 62 rfl (zlt rfl) rfl rfl ⟨by decide +kernel, rfl⟩ ?_
      exact z_iret (pc' := 99) ⟨by decide +kernel, rfl⟩
    refine z_ite (fun h10 => ?_) (fun h10 => ?_)
    · refine z_tabIn (dflt := 111) (lo := 0) (hi := 7) (offs := #[45, 55, 62, 69, 76, 83, 90, 104]) (len := 45) (off := 76) (tgt := 99) h10 (by decide +kernel) (by decide) (by decide) rfl rfl ?_
      refine z_aload_n (pc' := 100) (k := 3) (i := 3) 0 rfl rfl ⟨by decide +kernel, rfl⟩ ?_
      refine z_getR (pc' := 103) (cef_E219_59 ca D) rfl (y := a 63) rfl ⟨by decide +kernel, rfl⟩ ?_
      refine z_iload_n (pc' := 104) (k := 1) (i := 1) 2 rfl rfl ⟨by decide +kernel, rfl⟩ ?_
      refine z_iald (pc' := 105) 63 rfl (zlt rfl) rfl rfl ⟨by decide +kernel, rfl⟩ ?_
      exact z_iret (pc' := 106) ⟨by decide +kernel, rfl⟩
    refine z_ite (fun h11 => ?_) (fun h11 => ?_)
    · refine z_tabIn (dflt := 111) (lo := 0) (hi := 7) (offs := #[45, 55, 62, 69, 76, 83, 90, 104]) (len := 45) (off := 83) (tgt := 106) h11 (by decide +kernel) (by decide) (by decide) rfl rfl ?_
      refine z_aload_n (pc' := 107) (k := 3) (i := 3) 0 rfl rfl ⟨by decide +kernel, rfl⟩ ?_
      refine z_getR (pc' := 110) (cef_E222_59 ca D) rfl (y := a 64) rfl ⟨by decide +kernel, rfl⟩ ?_
      refine z_iload_n (pc' := 111) (k := 1) (i := 1) 2 rfl rfl ⟨by decide +kernel, rfl⟩ ?_
      refine z_iald (pc' := 112) 64 rfl (zlt rfl) rfl rfl ⟨by decide +kernel, rfl⟩ ?_
      exact z_iret (pc' := 113) ⟨by decide +kernel, rfl⟩
    refine z_ite (fun h15 => ?_) (fun h15 => ?_)
    · refine z_tabIn (dflt := 111) (lo := 0) (hi := 7) (offs := #[45, 55, 62, 69, 76, 83, 90, 104]) (len := 45) (off := 90) (tgt := 113) h15 (by decide +kernel) (by decide) (by decide) rfl rfl ?_
      refine z_aload_n (pc' := 114) (k := 3) (i := 3) 0 rfl rfl ⟨by decide +kernel, rfl⟩ ?_
      refine z_iload_n (pc' := 115) (k := 1) (i := 1) 2 rfl rfl ⟨by decide +kernel, rfl⟩ ?_
      refine z_callVf (pc' := 118) 59 (cet_F_isCold n u3 x1) (ceG_E225 ca D) (ceO_59 ca D) rfl (by omega) rfl rfl (Nat.le_of_ble_eq_true rfl) ⟨by decide +kernel, rfl⟩ (fun r12 u13 => ?_)
      refine z_if_eq (pc' := 121) (tgt := 125) (off := 7) ⟨by decide +kernel, rfl⟩ rfl (fun h14 => ?_) (fun h14 => ?_)
      · refine z_iconst (pc' := 126) (n := 0) (v := 0) (by decide) ⟨by decide +kernel, rfl⟩ ?_
        exact z_iret (pc' := 127) ⟨by decide +kernel, rfl⟩
      · refine z_iconst (pc' := 122) (n := 1) (v := 1) (by decide) ⟨by decide +kernel, rfl⟩ ?_
        refine z_goto (tgt := 126) (off := 4) (by decide +kernel) rfl ?_
        exact z_iret (pc' := 127) ⟨by decide +kernel, rfl⟩
    refine z_ite (fun h16 => ?_) (fun h16 => ?_)
    · refine z_tabIn (dflt := 111) (lo := 0) (hi := 7) (offs := #[45, 55, 62, 69, 76, 83, 90, 104]) (len := 45) (off := 104) (tgt := 127) h16 (by decide +kernel) (by decide) (by decide) rfl rfl ?_
      refine z_aload_n (pc' := 128) (k := 3) (i := 3) 0 rfl rfl ⟨by decide +kernel, rfl⟩ ?_
      refine z_getR (pc' := 131) (cef_E228_59 ca D) rfl (y := a 65) rfl ⟨by decide +kernel, rfl⟩ ?_
      refine z_iload_n (pc' := 132) (k := 1) (i := 1) 2 rfl rfl ⟨by decide +kernel, rfl⟩ ?_
      refine z_iald (pc' := 133) 65 rfl (zlt rfl) rfl rfl ⟨by decide +kernel, rfl⟩ ?_
      exact z_iret (pc' := 134) ⟨by decide +kernel, rfl⟩
    refine z_tabOut (dflt := 111) (lo := 0) (hi := 7) (offs := #[45, 55, 62, 69, 76, 83, 90, 104]) (len := 45) (tgt := 134) (by decide +kernel) (by have h6' := lv_neT h6 (a := 0) (by decide); have h7' := lv_neT h7 (a := 1) (by decide); have h8' := lv_neT h8 (a := 2) (by decide); have h9' := lv_neT h9 (a := 3) (by decide); have h10' := lv_neT h10 (a := 4) (by decide); have h11' := lv_neT h11 (a := 5) (by decide); have h15' := lv_neT h15 (a := 6) (by decide); have h16' := lv_neT h16 (a := 7) (by decide); omega) rfl ?_
    refine z_bipush (pc' := 136) (n := (-2)) (v := (-2)) (by decide) ⟨by decide +kernel, rfl⟩ ?_
    exact z_iret (pc' := 137) ⟨by decide +kernel, rfl⟩
set_option maxRecDepth 20000 in
set_option maxHeartbeats 4000000 in
theorem cet_E_count {l : Launch} {ca : Nat → ClassId} {D : va_G} {a g : Nat → Nat} (n : Nat) (u : zMu) (x1 : Int32) : zMet l (zCe ca D) ceY_E_count (.code ceY_E_count prog_1_method_18_code 2 (some .int)) zri true 0 a g [.ref (a 0), .int x1] u (ce_E_count n u x1) := by
  refine zMet.of rfl (Nat.le_of_ble_eq_true rfl) fun κ A hl => ?_
  subst hl
  unfold ce_E_count
  refine z_iload_n (pc' := 1) (k := 1) (i := 1) 1 rfl rfl ⟨by decide +kernel, rfl⟩ ?_
  refine z_ite (fun h2 => ?_) (fun h2 => ?_)
  · refine z_tabIn (dflt := 72) (lo := 0) (hi := 4) (offs := #[35, 43, 51, 59, 67]) (len := 35) (off := 35) (tgt := 36) h2 (by decide +kernel) (by decide) (by decide) rfl rfl ?_
    refine z_aload_n (pc' := 37) (k := 0) (i := 0) 0 rfl rfl ⟨by decide +kernel, rfl⟩ ?_
    refine z_getG (pc' := 40) (cef_E30_0 ca D) rfl (fun _ h => ⟨zpr_n0 h, ce_adP0 h⟩) ⟨by decide +kernel, rfl⟩ fun p1 hp1 => ?_
    refine z_getI (pc' := 43) (cef_E231_P ca D hp1) (ce_adP0 hp1) ⟨by decide +kernel, rfl⟩ ?_
    exact z_iret (pc' := 44) ⟨by decide +kernel, rfl⟩
  refine z_ite (fun h4 => ?_) (fun h4 => ?_)
  · refine z_tabIn (dflt := 72) (lo := 0) (hi := 4) (offs := #[35, 43, 51, 59, 67]) (len := 35) (off := 43) (tgt := 44) h4 (by decide +kernel) (by decide) (by decide) rfl rfl ?_
    refine z_aload_n (pc' := 45) (k := 0) (i := 0) 0 rfl rfl ⟨by decide +kernel, rfl⟩ ?_
    refine z_getG (pc' := 48) (cef_E30_0 ca D) rfl (fun _ h => ⟨zpr_n0 h, ce_adP0 h⟩) ⟨by decide +kernel, rfl⟩ fun p3 hp3 => ?_
    refine z_getI (pc' := 51) (cef_E234_P ca D hp3) (ce_adP0 hp3) ⟨by decide +kernel, rfl⟩ ?_
    exact z_iret (pc' := 52) ⟨by decide +kernel, rfl⟩
  refine z_ite (fun h6 => ?_) (fun h6 => ?_)
  · refine z_tabIn (dflt := 72) (lo := 0) (hi := 4) (offs := #[35, 43, 51, 59, 67]) (len := 35) (off := 51) (tgt := 52) h6 (by decide +kernel) (by decide) (by decide) rfl rfl ?_
    refine z_aload_n (pc' := 53) (k := 0) (i := 0) 0 rfl rfl ⟨by decide +kernel, rfl⟩ ?_
    refine z_getG (pc' := 56) (cef_E30_0 ca D) rfl (fun _ h => ⟨zpr_n0 h, ce_adP0 h⟩) ⟨by decide +kernel, rfl⟩ fun p5 hp5 => ?_
    refine z_getI (pc' := 59) (cef_E56_P ca D hp5) (ce_adP0 hp5) ⟨by decide +kernel, rfl⟩ ?_
    exact z_iret (pc' := 60) ⟨by decide +kernel, rfl⟩
  refine z_ite (fun h8 => ?_) (fun h8 => ?_)
  · refine z_tabIn (dflt := 72) (lo := 0) (hi := 4) (offs := #[35, 43, 51, 59, 67]) (len := 35) (off := 59) (tgt := 60) h8 (by decide +kernel) (by decide) (by decide) rfl rfl ?_
    refine z_aload_n (pc' := 61) (k := 0) (i := 0) 0 rfl rfl ⟨by decide +kernel, rfl⟩ ?_
    refine z_getG (pc' := 64) (cef_E30_0 ca D) rfl (fun _ h => ⟨zpr_n0 h, ce_adP0 h⟩) ⟨by decide +kernel, rfl⟩ fun p7 hp7 => ?_
    refine z_getI (pc' := 67) (cef_E237_P ca D hp7) (ce_adP0 hp7) ⟨by decide +kernel, rfl⟩ ?_
    exact z_iret (pc' := 68) ⟨by decide +kernel, rfl⟩
  refine z_ite (fun h9 => ?_) (fun h9 => ?_)
  · refine z_tabIn (dflt := 72) (lo := 0) (hi := 4) (offs := #[35, 43, 51, 59, 67]) (len := 35) (off := 67) (tgt := 68) h9 (by decide +kernel) (by decide) (by decide) rfl rfl ?_
    refine z_aload_n (pc' := 69) (k := 0) (i := 0) 0 rfl rfl ⟨by decide +kernel, rfl⟩ ?_
    refine z_getI (pc' := 72) (cef_E41_0 ca D) rfl ⟨by decide +kernel, rfl⟩ ?_
    exact z_iret (pc' := 73) ⟨by decide +kernel, rfl⟩
  refine z_tabOut (dflt := 72) (lo := 0) (hi := 4) (offs := #[35, 43, 51, 59, 67]) (len := 35) (tgt := 73) (by decide +kernel) (by have h2' := lv_neT h2 (a := 0) (by decide); have h4' := lv_neT h4 (a := 1) (by decide); have h6' := lv_neT h6 (a := 2) (by decide); have h8' := lv_neT h8 (a := 3) (by decide); have h9' := lv_neT h9 (a := 4) (by decide); omega) rfl ?_
  refine z_bipush (pc' := 75) (n := (-2)) (v := (-2)) (by decide) ⟨by decide +kernel, rfl⟩ ?_
  exact z_iret (pc' := 76) ⟨by decide +kernel, rfl⟩
