/-! the class's methods meet their models (printed by wip/gen/cls.py) -/
set_option maxRecDepth 20000 in
set_option maxHeartbeats 4000000 in
theorem cet_C_compileDel {l : Launch} {ca : Nat → ClassId} {D : va_G} {a g : Nat → Nat} (n k : Nat) (u : zMu) : zMet l (zCe ca D) ceY_C_compileDel (.code ceY_C_compileDel prog_2_method_12_code 3 none) zrv true (1 * k + 4) a g [.ref (a 2)] u (ce_C_compileDel n k u) := by
  refine zMet.of rfl (Nat.le_of_ble_eq_true rfl) fun κ A hl => ?_
  subst hl
  unfold ce_C_compileDel
  refine z_aload_n (pc' := 1) (k := 0) (i := 0) 0 rfl rfl ⟨by decide +kernel, rfl⟩ ?_
  refine z_getR (pc' := 4) (cef_C12_2 ca D) rfl (y := a 7) rfl ⟨by decide +kernel, rfl⟩ ?_
  refine z_callVf (pc' := 7) 7 (cet_X_advance n u) (ceG_C105 ca D) (ceO_7 ca D) rfl (by omega) rfl rfl (Nat.le_of_ble_eq_true rfl) ⟨by decide +kernel, rfl⟩ (fun _ u2 => ?_)
  refine z_aload_n (pc' := 8) (k := 0) (i := 0) 0 rfl rfl ⟨by decide +kernel, rfl⟩ ?_
  refine z_iconst (pc' := 9) (n := 0) (v := 0) (by decide) ⟨by decide +kernel, rfl⟩ ?_
  refine z_callVf (pc' := 12) 2 (cet_C_compileE n k u2 0) (ceG_C170 ca D) (ceO_2 ca D) rfl (by omega) rfl rfl (Nat.le_of_ble_eq_true rfl) ⟨by decide +kernel, rfl⟩ (fun r3 u4 => ?_)
  refine z_istore_n (pc' := 13) (k := 1) (i := 1) rfl (by decide) rfl ⟨by decide +kernel, rfl⟩ ?_
  refine z_iload_n (pc' := 14) (k := 1) (i := 1) 0 rfl rfl ⟨by decide +kernel, rfl⟩ ?_
  refine z_iconst (pc' := 15) (n := 2) (v := 2) (by decide) ⟨by decide +kernel, rfl⟩ ?_
  refine z_icmp_eq (pc' := 18) (tgt := 23) (off := 8) ⟨by decide +kernel, rfl⟩ rfl (fun h5 => ?_) (fun h5 => ?_)
  · refine z_aload_n (pc' := 24) (k := 0) (i := 0) 1 rfl rfl ⟨by decide +kernel, rfl⟩ ?_
    refine z_getG (pc' := 27) (cef_C52_2 ca D) rfl (fun _ h => ⟨zpr_n0 h, ce_adP0 h⟩) ⟨by decide +kernel, rfl⟩ fun p6 hp6 => ?_
    refine z_callVf (pc' := 30) p6 (cet_P_takeBack n p6 hp6 u4) (ceG_C177 ca D) (ceO_P ca D hp6) (ce_adP0 hp6) (by omega) rfl rfl (Nat.le_of_ble_eq_true rfl) ⟨by decide +kernel, rfl⟩ (fun r7 u8 => ?_)
    refine z_istore_n (pc' := 31) (k := 2) (i := 2) rfl (by decide) rfl ⟨by decide +kernel, rfl⟩ ?_
    refine z_aload_n (pc' := 32) (k := 0) (i := 0) 2 rfl rfl ⟨by decide +kernel, rfl⟩ ?_
    refine z_getG (pc' := 35) (cef_C52_2 ca D) rfl (fun _ h => ⟨zpr_n0 h, ce_adP0 h⟩) ⟨by decide +kernel, rfl⟩ fun p9 hp9 => ?_
    refine z_iload_n (pc' := 36) (k := 2) (i := 2) 0 rfl rfl ⟨by decide +kernel, rfl⟩ ?_
    refine z_iconst (pc' := 37) (n := 2) (v := 2) (by decide) ⟨by decide +kernel, rfl⟩ ?_
    refine z_callVf (pc' := 40) p9 (cet_P_turnSite n p9 hp9 u8 r7 2) (ceG_C181 ca D) (ceO_P ca D hp9) (ce_adP0 hp9) (by omega) rfl rfl (Nat.le_of_ble_eq_true rfl) ⟨by decide +kernel, rfl⟩ (fun _ u11 => ?_)
    refine z_aload_n (pc' := 41) (k := 0) (i := 0) 2 rfl rfl ⟨by decide +kernel, rfl⟩ ?_
    refine z_getG (pc' := 44) (cef_C52_2 ca D) rfl (fun _ h => ⟨zpr_n0 h, ce_adP0 h⟩) ⟨by decide +kernel, rfl⟩ fun p12 hp12 => ?_
    refine z_bipush (pc' := 46) (n := 15) (v := 15) (by decide) ⟨by decide +kernel, rfl⟩ ?_
    refine z_iload_n (pc' := 47) (k := 2) (i := 2) 0 rfl rfl ⟨by decide +kernel, rfl⟩ ?_
    refine z_aload_n (pc' := 48) (k := 0) (i := 0) 2 rfl rfl ⟨by decide +kernel, rfl⟩ ?_
    refine z_getG (pc' := 51) (cef_C52_2 ca D) rfl (fun _ h => ⟨zpr_n0 h, ce_adP0 h⟩) ⟨by decide +kernel, rfl⟩ fun p13 hp13 => ?_
    refine z_callVf (pc' := 54) p13 (cet_P_placeTakenBack n p13 hp13 u11) (ceG_C184 ca D) (ceO_P ca D hp13) (ce_adP0 hp13) (by omega) rfl rfl (Nat.le_of_ble_eq_true rfl) ⟨by decide +kernel, rfl⟩ (fun r14 u15 => ?_)
    refine z_callVf (pc' := 57) p12 (cet_P_emit n p12 hp12 u15 15 r7 r14) (ceG_C56 ca D) (ceO_P ca D hp12) (ce_adP0 hp12) (by omega) rfl rfl (Nat.le_of_ble_eq_true rfl) ⟨by decide +kernel, rfl⟩ (fun r16 u17 => ?_)
    refine z_pop (pc' := 58) rfl ⟨by decide +kernel, rfl⟩ ?_
    refine z_aload_n (pc' := 59) (k := 0) (i := 0) 2 rfl rfl ⟨by decide +kernel, rfl⟩ ?_
    refine z_bipush (pc' := 61) (n := 59) (v := 59) (by decide) ⟨by decide +kernel, rfl⟩ ?_
    refine z_callVf (pc' := 64) 2 (cet_C_expect n u17 59) (ceG_C167 ca D) (ceO_2 ca D) rfl (by omega) rfl rfl (Nat.le_of_ble_eq_true rfl) ⟨by decide +kernel, rfl⟩ (fun _ u19 => ?_)
    exact z_vret (pc' := 65) ⟨by decide +kernel, rfl⟩
  · refine z_aload_n (pc' := 19) (k := 0) (i := 0) 1 rfl rfl ⟨by decide +kernel, rfl⟩ ?_
    refine z_callVf (pc' := 22) 2 (cet_C_refuse n u4) (ceG_C102 ca D) (ceO_2 ca D) rfl (by omega) rfl rfl (Nat.le_of_ble_eq_true rfl) ⟨by decide +kernel, rfl⟩ (fun _ u21 => ?_)
    exact z_vret (pc' := 23) ⟨by decide +kernel, rfl⟩
set_option maxRecDepth 20000 in
set_option maxHeartbeats 4000000 in
theorem ce_C_compilePut_J82_t {κ : zKx} {ca : Nat → ClassId} {D : va_G} {A : Nat → Prop} {c0 : Nat × Nat} {a g0 g : Nat → Nat} (n k : Nat) (u : zMu) (x1 : Int32) (x2 : Int32) (x3 : Int32) : zJ κ (zCe ca D) prog_2_method_13_code 4 ce_RC none zrv true (1 * k + 4) A c0 a g0 g u 82 [(0, .ref (a 2)), (1, .int x1), (2, .int x2), (3, .int x3)] [] (ce_C_compilePut_J82 n k u x1 x2 x3) := by
  unfold ce_C_compilePut_J82
  refine z_aload_n (pc' := 83) (k := 0) (i := 0) 0 rfl rfl ⟨by decide +kernel, rfl⟩ ?_
  refine z_iconst (pc' := 84) (n := 0) (v := 0) (by decide) ⟨by decide +kernel, rfl⟩ ?_
  refine z_callVf (pc' := 87) 2 (cet_C_compileE n k u 0) (ceG_C170 ca D) (ceO_2 ca D) rfl (by omega) rfl rfl (Nat.le_of_ble_eq_true rfl) ⟨by decide +kernel, rfl⟩ (fun r1 u2 => ?_)
  refine z_pop (pc' := 88) rfl ⟨by decide +kernel, rfl⟩ ?_
  refine z_iload_n (pc' := 89) (k := 1) (i := 1) 1 rfl rfl ⟨by decide +kernel, rfl⟩ ?_
  refine z_iconst (pc' := 90) (n := 1) (v := 1) (by decide) ⟨by decide +kernel, rfl⟩ ?_
  refine z_icmp_ne (pc' := 93) (tgt := 107) (off := 17) ⟨by decide +kernel, rfl⟩ rfl (fun h3 => ?_) (fun h3 => ?_)
  · refine z_aload_n (pc' := 94) (k := 0) (i := 0) 0 rfl rfl ⟨by decide +kernel, rfl⟩ ?_
    refine z_getG (pc' := 97) (cef_C52_2 ca D) rfl (fun _ h => ⟨zpr_n0 h, ce_adP0 h⟩) ⟨by decide +kernel, rfl⟩ fun p4 hp4 => ?_
    refine z_iconst (pc' := 98) (n := 4) (v := 4) (by decide) ⟨by decide +kernel, rfl⟩ ?_
    refine z_iload_n (pc' := 99) (k := 2) (i := 2) 2 rfl rfl ⟨by decide +kernel, rfl⟩ ?_
    refine z_iload_n (pc' := 100) (k := 3) (i := 3) 3 rfl rfl ⟨by decide +kernel, rfl⟩ ?_
    refine z_callVf (pc' := 103) p4 (cet_P_emit n p4 hp4 u2 4 x2 x3) (ceG_C56 ca D) (ceO_P ca D hp4) (ce_adP0 hp4) (by omega) rfl rfl (Nat.le_of_ble_eq_true rfl) ⟨by decide +kernel, rfl⟩ (fun r5 u6 => ?_)
    refine z_pop (pc' := 104) rfl ⟨by decide +kernel, rfl⟩ ?_
    refine z_goto (tgt := 129) (off := 25) (by decide +kernel) rfl ?_
    refine z_aload_n (pc' := 130) (k := 0) (i := 0) 0 rfl rfl ⟨by decide +kernel, rfl⟩ ?_
    refine z_bipush (pc' := 132) (n := 59) (v := 59) (by decide) ⟨by decide +kernel, rfl⟩ ?_
    refine z_callVf (pc' := 135) 2 (cet_C_expect n u6 59) (ceG_C167 ca D) (ceO_2 ca D) rfl (by omega) rfl rfl (Nat.le_of_ble_eq_true rfl) ⟨by decide +kernel, rfl⟩ (fun _ u8 => ?_)
    exact z_vret (pc' := 136) ⟨by decide +kernel, rfl⟩
  · refine z_aload_n (pc' := 108) (k := 0) (i := 0) 0 rfl rfl ⟨by decide +kernel, rfl⟩ ?_
    refine z_getG (pc' := 111) (cef_C52_2 ca D) rfl (fun _ h => ⟨zpr_n0 h, ce_adP0 h⟩) ⟨by decide +kernel, rfl⟩ fun p9 hp9 => ?_
    refine z_iload_n (pc' := 112) (k := 1) (i := 1) 1 rfl rfl ⟨by decide +kernel, rfl⟩ ?_
    refine z_iconst (pc' := 113) (n := 2) (v := 2) (by decide) ⟨by decide +kernel, rfl⟩ ?_
    refine z_icmp_ne (pc' := 116) (tgt := 121) (off := 8) ⟨by decide +kernel, rfl⟩ rfl (fun h10 => ?_) (fun h10 => ?_)
    · refine z_bipush (pc' := 118) (n := 14) (v := 14) (by decide) ⟨by decide +kernel, rfl⟩ ?_
      refine z_goto (tgt := 123) (off := 5) (by decide +kernel) rfl ?_
      refine z_iload_n (pc' := 124) (k := 2) (i := 2) 2 rfl rfl ⟨by decide +kernel, rfl⟩ ?_
      refine z_iload_n (pc' := 125) (k := 3) (i := 3) 3 rfl rfl ⟨by decide +kernel, rfl⟩ ?_
      refine z_callVf (pc' := 128) p9 (cet_P_emit n p9 hp9 u2 14 x2 x3) (ceG_C56 ca D) (ceO_P ca D hp9) (ce_adP0 hp9) (by omega) rfl rfl (Nat.le_of_ble_eq_true rfl) ⟨by decide +kernel, rfl⟩ (fun r11 u12 => ?_)
      refine z_pop (pc' := 129) rfl ⟨by decide +kernel, rfl⟩ ?_
      refine z_aload_n (pc' := 130) (k := 0) (i := 0) 0 rfl rfl ⟨by decide +kernel, rfl⟩ ?_
      refine z_bipush (pc' := 132) (n := 59) (v := 59) (by decide) ⟨by decide +kernel, rfl⟩ ?_
      refine z_callVf (pc' := 135) 2 (cet_C_expect n u12 59) (ceG_C167 ca D) (ceO_2 ca D) rfl (by omega) rfl rfl (Nat.le_of_ble_eq_true rfl) ⟨by decide +kernel, rfl⟩ (fun _ u14 => ?_)
      exact z_vret (pc' := 136) ⟨by decide +kernel, rfl⟩
    · refine z_bipush (pc' := 123) (n := 18) (v := 18) (by decide) ⟨by decide +kernel, rfl⟩ ?_
      refine z_iload_n (pc' := 124) (k := 2) (i := 2) 2 rfl rfl ⟨by decide +kernel, rfl⟩ ?_
      refine z_iload_n (pc' := 125) (k := 3) (i := 3) 3 rfl rfl ⟨by decide +kernel, rfl⟩ ?_
      refine z_callVf (pc' := 128) p9 (cet_P_emit n p9 hp9 u2 18 x2 x3) (ceG_C56 ca D) (ceO_P ca D hp9) (ce_adP0 hp9) (by omega) rfl rfl (Nat.le_of_ble_eq_true rfl) ⟨by decide +kernel, rfl⟩ (fun r15 u16 => ?_)
      refine z_pop (pc' := 129) rfl ⟨by decide +kernel, rfl⟩ ?_
      refine z_aload_n (pc' := 130) (k := 0) (i := 0) 0 rfl rfl ⟨by decide +kernel, rfl⟩ ?_
      refine z_bipush (pc' := 132) (n := 59) (v := 59) (by decide) ⟨by decide +kernel, rfl⟩ ?_
      refine z_callVf (pc' := 135) 2 (cet_C_expect n u16 59) (ceG_C167 ca D) (ceO_2 ca D) rfl (by omega) rfl rfl (Nat.le_of_ble_eq_true rfl) ⟨by decide +kernel, rfl⟩ (fun _ u18 => ?_)
      exact z_vret (pc' := 136) ⟨by decide +kernel, rfl⟩
set_option maxRecDepth 20000 in
set_option maxHeartbeats 4000000 in
theorem cet_C_compilePut {l : Launch} {ca : Nat → ClassId} {D : va_G} {a g : Nat → Nat} (n k : Nat) (u : zMu) : zMet l (zCe ca D) ceY_C_compilePut (.code ceY_C_compilePut prog_2_method_13_code 4 none) zrv true (1 * k + 4) a g [.ref (a 2)] u (ce_C_compilePut n k u) := by
  refine zMet.of rfl (Nat.le_of_ble_eq_true rfl) fun κ A hl => ?_
  subst hl
  unfold ce_C_compilePut
  refine z_aload_n (pc' := 1) (k := 0) (i := 0) 0 rfl rfl ⟨by decide +kernel, rfl⟩ ?_
  refine z_iconst (pc' := 2) (n := 0) (v := 0) (by decide) ⟨by decide +kernel, rfl⟩ ?_
  refine z_callVf (pc' := 5) 2 (cet_C_compileE n k u 0) (ceG_C170 ca D) (ceO_2 ca D) rfl (by omega) rfl rfl (Nat.le_of_ble_eq_true rfl) ⟨by decide +kernel, rfl⟩ (fun r1 u2 => ?_)
  refine z_istore_n (pc' := 6) (k := 1) (i := 1) rfl (by decide) rfl ⟨by decide +kernel, rfl⟩ ?_
  refine z_aload_n (pc' := 7) (k := 0) (i := 0) 1 rfl rfl ⟨by decide +kernel, rfl⟩ ?_
  refine z_getR (pc' := 10) (cef_C12_2 ca D) rfl (y := a 7) rfl ⟨by decide +kernel, rfl⟩ ?_
  refine z_getI (pc' := 13) (cef_C43_7 ca D) rfl ⟨by decide +kernel, rfl⟩ ?_
  refine z_bipush (pc' := 15) (n := 61) (v := 61) (by decide) ⟨by decide +kernel, rfl⟩ ?_
  refine z_icmp_eq (pc' := 18) (tgt := 36) (off := 21) ⟨by decide +kernel, rfl⟩ rfl (fun h3 => ?_) (fun h3 => ?_)
  · refine z_iload_n (pc' := 37) (k := 1) (i := 1) 0 rfl rfl ⟨by decide +kernel, rfl⟩ ?_
    refine z_if_ne (pc' := 40) (tgt := 45) (off := 8) ⟨by decide +kernel, rfl⟩ rfl (fun h4 => ?_) (fun h4 => ?_)
    · refine z_aload_n (pc' := 41) (k := 0) (i := 0) 1 rfl rfl ⟨by decide +kernel, rfl⟩ ?_
      refine z_callVf (pc' := 44) 2 (cet_C_refuse n u2) (ceG_C102 ca D) (ceO_2 ca D) rfl (by omega) rfl rfl (Nat.le_of_ble_eq_true rfl) ⟨by decide +kernel, rfl⟩ (fun _ u6 => ?_)
      exact z_vret (pc' := 45) ⟨by decide +kernel, rfl⟩
    · refine z_aload_n (pc' := 46) (k := 0) (i := 0) 1 rfl rfl ⟨by decide +kernel, rfl⟩ ?_
      refine z_getG (pc' := 49) (cef_C52_2 ca D) rfl (fun _ h => ⟨zpr_n0 h, ce_adP0 h⟩) ⟨by decide +kernel, rfl⟩ fun p7 hp7 => ?_
      refine z_callVf (pc' := 52) p7 (cet_P_takeBack n p7 hp7 u2) (ceG_C177 ca D) (ceO_P ca D hp7) (ce_adP0 hp7) (by omega) rfl rfl (Nat.le_of_ble_eq_true rfl) ⟨by decide +kernel, rfl⟩ (fun r8 u9 => ?_)
      refine z_istore_n (pc' := 53) (k := 2) (i := 2) rfl (by decide) rfl ⟨by decide +kernel, rfl⟩ ?_
      refine z_aload_n (pc' := 54) (k := 0) (i := 0) 2 rfl rfl ⟨by decide +kernel, rfl⟩ ?_
      refine z_getG (pc' := 57) (cef_C52_2 ca D) rfl (fun _ h => ⟨zpr_n0 h, ce_adP0 h⟩) ⟨by decide +kernel, rfl⟩ fun p10 hp10 => ?_
      refine z_callVf (pc' := 60) p10 (cet_P_placeTakenBack n p10 hp10 u9) (ceG_C184 ca D) (ceO_P ca D hp10) (ce_adP0 hp10) (by omega) rfl rfl (Nat.le_of_ble_eq_true rfl) ⟨by decide +kernel, rfl⟩ (fun r11 u12 => ?_)
      refine z_istore_n (pc' := 61) (k := 3) (i := 3) rfl (by decide) rfl ⟨by decide +kernel, rfl⟩ ?_
      refine z_aload_n (pc' := 62) (k := 0) (i := 0) 3 rfl rfl ⟨by decide +kernel, rfl⟩ ?_
      refine z_getR (pc' := 65) (cef_C12_2 ca D) rfl (y := a 7) rfl ⟨by decide +kernel, rfl⟩ ?_
      refine z_callVf (pc' := 68) 7 (cet_X_advance n u12) (ceG_C105 ca D) (ceO_7 ca D) rfl (by omega) rfl rfl (Nat.le_of_ble_eq_true rfl) ⟨by decide +kernel, rfl⟩ (fun _ u14 => ?_)
      refine z_iload_n (pc' := 69) (k := 1) (i := 1) 2 rfl rfl ⟨by decide +kernel, rfl⟩ ?_
      refine z_iconst (pc' := 70) (n := 2) (v := 2) (by decide) ⟨by decide +kernel, rfl⟩ ?_
      refine z_icmp_ne (pc' := 73) (tgt := 82) (off := 12) ⟨by decide +kernel, rfl⟩ rfl (fun h15 => ?_) (fun h15 => ?_)
      · refine z_aload_n (pc' := 74) (k := 0) (i := 0) 3 rfl rfl ⟨by decide +kernel, rfl⟩ ?_
        refine z_getG (pc' := 77) (cef_C52_2 ca D) rfl (fun _ h => ⟨zpr_n0 h, ce_adP0 h⟩) ⟨by decide +kernel, rfl⟩ fun p16 hp16 => ?_
        refine z_iload_n (pc' := 78) (k := 2) (i := 2) 1 rfl rfl ⟨by decide +kernel, rfl⟩ ?_
        refine z_iconst (pc' := 79) (n := 1) (v := 1) (by decide) ⟨by decide +kernel, rfl⟩ ?_
        refine z_callVf (pc' := 82) p16 (cet_P_turnSite n p16 hp16 u14 r8 1) (ceG_C181 ca D) (ceO_P ca D hp16) (ce_adP0 hp16) (by omega) rfl rfl (Nat.le_of_ble_eq_true rfl) ⟨by decide +kernel, rfl⟩ (fun _ u18 => ?_)
        refine z_lv [3, 2, 1, 0] (lv' := [(0, .ref (a 2)), (1, .int r1), (2, .int r8), (3, .int r11)]) rfl ?_
        exact ce_C_compilePut_J82_t n k u18 r1 r8 r11
      · refine z_lv [3, 2, 1, 0] (lv' := [(0, .ref (a 2)), (1, .int r1), (2, .int r8), (3, .int r11)]) rfl ?_
        exact ce_C_compilePut_J82_t n k u14 r1 r8 r11
  · refine z_aload_n (pc' := 19) (k := 0) (i := 0) 1 rfl rfl ⟨by decide +kernel, rfl⟩ ?_
    refine z_getG (pc' := 22) (cef_C52_2 ca D) rfl (fun _ h => ⟨zpr_n0 h, ce_adP0 h⟩) ⟨by decide +kernel, rfl⟩ fun p19 hp19 => ?_
    refine z_iconst (pc' := 23) (n := 5) (v := 5) (by decide) ⟨by decide +kernel, rfl⟩ ?_
    refine z_iconst (pc' := 24) (n := 0) (v := 0) (by decide) ⟨by decide +kernel, rfl⟩ ?_
    refine z_iconst (pc' := 25) (n := 0) (v := 0) (by decide) ⟨by decide +kernel, rfl⟩ ?_
    refine z_callVf (pc' := 28) p19 (cet_P_emit n p19 hp19 u2 5 0 0) (ceG_C56 ca D) (ceO_P ca D hp19) (ce_adP0 hp19) (by omega) rfl rfl (Nat.le_of_ble_eq_true rfl) ⟨by decide +kernel, rfl⟩ (fun r20 u21 => ?_)
    refine z_pop (pc' := 29) rfl ⟨by decide +kernel, rfl⟩ ?_
    refine z_aload_n (pc' := 30) (k := 0) (i := 0) 1 rfl rfl ⟨by decide +kernel, rfl⟩ ?_
    refine z_bipush (pc' := 32) (n := 59) (v := 59) (by decide) ⟨by decide +kernel, rfl⟩ ?_
    refine z_callVf (pc' := 35) 2 (cet_C_expect n u21 59) (ceG_C167 ca D) (ceO_2 ca D) rfl (by omega) rfl rfl (Nat.le_of_ble_eq_true rfl) ⟨by decide +kernel, rfl⟩ (fun _ u23 => ?_)
    exact z_vret (pc' := 36) ⟨by decide +kernel, rfl⟩
set_option maxRecDepth 20000 in
set_option maxHeartbeats 4000000 in
theorem ce_C_compileBlock_L8_t {κ : zKx} {ca : Nat → ClassId} {D : va_G} {A : Nat → Prop} {c0 : Nat × Nat} {a g0 g : Nat → Nat} {d : Nat} (n k : Nat) (f_C_compileStep : zMu → Option (Unit × zMu)) (h_C_compileStep : ∀ (u : zMu), zMet (zKl κ) (zCe ca D) ceY_C_compileStep (.code ceY_C_compileStep prog_2_method_7_code 1 none) zrv true d a g [.ref (a 2)] u (f_C_compileStep u)) (hb : (1 * k + 5) ≤ d) : ∀ (m : Nat) (u : zMu) (x1 : Int32), zJ κ (zCe ca D) prog_2_method_6_code 2 ce_RC none zrv true (d + 1) A c0 a g0 g u 8 [(0, .ref (a 2)), (1, .int x1)] [] (ce_C_compileBlock_L8 n k f_C_compileStep m u x1) := by
  intro m
  induction m with
  | zero => intro u x1 r u' h; cases h
  | succ m ih =>
    intro u x1
    unfold ce_C_compileBlock_L8
    refine z_iload_n (pc' := 9) (k := 1) (i := 1) 1 rfl rfl ⟨by decide +kernel, rfl⟩ ?_
    refine z_sipush (pc' := 12) (n := 1500) (v := 1500) (by decide) ⟨by decide +kernel, rfl⟩ ?_
    refine z_icmp_ge (pc' := 15) (tgt := 50) (off := 38) ⟨by decide +kernel, rfl⟩ rfl (fun h1 => ?_) (fun h1 => ?_)
    · refine z_aload_n (pc' := 16) (k := 0) (i := 0) 0 rfl rfl ⟨by decide +kernel, rfl⟩ ?_
      refine z_getR (pc' := 19) (cef_C12_2 ca D) rfl (y := a 7) rfl ⟨by decide +kernel, rfl⟩ ?_
      refine z_getI (pc' := 22) (cef_C43_7 ca D) rfl ⟨by decide +kernel, rfl⟩ ?_
      refine z_bipush (pc' := 24) (n := 125) (v := 125) (by decide) ⟨by decide +kernel, rfl⟩ ?_
      refine z_icmp_eq (pc' := 27) (tgt := 50) (off := 26) ⟨by decide +kernel, rfl⟩ rfl (fun h2 => ?_) (fun h2 => ?_)
      · refine z_aload_n (pc' := 51) (k := 0) (i := 0) 0 rfl rfl ⟨by decide +kernel, rfl⟩ ?_
        refine z_bipush (pc' := 53) (n := 125) (v := 125) (by decide) ⟨by decide +kernel, rfl⟩ ?_
        refine z_callVf (pc' := 56) 2 (cet_C_closes n u 125) (ceG_C146 ca D) (ceO_2 ca D) rfl (by omega) rfl rfl (Nat.le_of_ble_eq_true rfl) ⟨by decide +kernel, rfl⟩ (fun _ u4 => ?_)
        exact z_vret (pc' := 57) ⟨by decide +kernel, rfl⟩
      · refine z_aload_n (pc' := 28) (k := 0) (i := 0) 0 rfl rfl ⟨by decide +kernel, rfl⟩ ?_
        refine z_getR (pc' := 31) (cef_C12_2 ca D) rfl (y := a 7) rfl ⟨by decide +kernel, rfl⟩ ?_
        refine z_getI (pc' := 34) (cef_C43_7 ca D) rfl ⟨by decide +kernel, rfl⟩ ?_
        refine z_sipush (pc' := 37) (n := 256) (v := 256) (by decide) ⟨by decide +kernel, rfl⟩ ?_
        refine z_icmp_eq (pc' := 40) (tgt := 50) (off := 13) ⟨by decide +kernel, rfl⟩ rfl (fun h5 => ?_) (fun h5 => ?_)
        · refine z_aload_n (pc' := 51) (k := 0) (i := 0) 0 rfl rfl ⟨by decide +kernel, rfl⟩ ?_
          refine z_bipush (pc' := 53) (n := 125) (v := 125) (by decide) ⟨by decide +kernel, rfl⟩ ?_
          refine z_callVf (pc' := 56) 2 (cet_C_closes n u 125) (ceG_C146 ca D) (ceO_2 ca D) rfl (by omega) rfl rfl (Nat.le_of_ble_eq_true rfl) ⟨by decide +kernel, rfl⟩ (fun _ u7 => ?_)
          exact z_vret (pc' := 57) ⟨by decide +kernel, rfl⟩
        · refine z_aload_n (pc' := 41) (k := 0) (i := 0) 0 rfl rfl ⟨by decide +kernel, rfl⟩ ?_
          refine z_callVf (pc' := 44) 2 (h_C_compileStep u) (ceG_C74 ca D) (ceO_2 ca D) rfl (by omega) rfl rfl (Nat.le_of_ble_eq_true rfl) ⟨by decide +kernel, rfl⟩ (fun _ u9 => ?_)
          refine z_iincN (pc' := 47) (i := 1) (n := 1) (c := 1) 1 rfl (by decide) (by decide) rfl ⟨by decide +kernel, rfl⟩ fun v10 => ?_
          refine z_goto (tgt := 8) (off := -39) (by decide +kernel) rfl ?_
          refine z_lv [1, 0] (lv' := [(0, .ref (a 2)), (1, .int v10)]) rfl ?_
          exact ih u9 v10
    · refine z_aload_n (pc' := 51) (k := 0) (i := 0) 0 rfl rfl ⟨by decide +kernel, rfl⟩ ?_
      refine z_bipush (pc' := 53) (n := 125) (v := 125) (by decide) ⟨by decide +kernel, rfl⟩ ?_
      refine z_callVf (pc' := 56) 2 (cet_C_closes n u 125) (ceG_C146 ca D) (ceO_2 ca D) rfl (by omega) rfl rfl (Nat.le_of_ble_eq_true rfl) ⟨by decide +kernel, rfl⟩ (fun _ u12 => ?_)
      exact z_vret (pc' := 57) ⟨by decide +kernel, rfl⟩
set_option maxRecDepth 20000 in
set_option maxHeartbeats 4000000 in
theorem cet_C_compileBlock_b {l : Launch} {ca : Nat → ClassId} {D : va_G} {a g : Nat → Nat} {d : Nat} (n k : Nat) (f_C_compileStep : zMu → Option (Unit × zMu)) (h_C_compileStep : ∀ (u : zMu), zMet l (zCe ca D) ceY_C_compileStep (.code ceY_C_compileStep prog_2_method_7_code 1 none) zrv true d a g [.ref (a 2)] u (f_C_compileStep u)) (hb : (1 * k + 5) ≤ d) (u : zMu) : zMet l (zCe ca D) ceY_C_compileBlock (.code ceY_C_compileBlock prog_2_method_6_code 2 none) zrv true (d + 1) a g [.ref (a 2)] u (ce_C_compileBlock_b n k f_C_compileStep u) := by
  refine zMet.of rfl (Nat.le_of_ble_eq_true rfl) fun κ A hl => ?_
  subst hl
  unfold ce_C_compileBlock_b
  refine z_aload_n (pc' := 1) (k := 0) (i := 0) 0 rfl rfl ⟨by decide +kernel, rfl⟩ ?_
  refine z_bipush (pc' := 3) (n := 123) (v := 123) (by decide) ⟨by decide +kernel, rfl⟩ ?_
  refine z_callVf (pc' := 6) 2 (cet_C_opens n u 123) (ceG_C129 ca D) (ceO_2 ca D) rfl (by omega) rfl rfl (Nat.le_of_ble_eq_true rfl) ⟨by decide +kernel, rfl⟩ (fun _ u2 => ?_)
  refine z_iconst (pc' := 7) (n := 0) (v := 0) (by decide) ⟨by decide +kernel, rfl⟩ ?_
  refine z_istore_n (pc' := 8) (k := 1) (i := 1) rfl (by decide) rfl ⟨by decide +kernel, rfl⟩ ?_
  refine z_lv [1, 0] (lv' := [(0, .ref (a 2)), (1, .int 0)]) rfl ?_
  exact ce_C_compileBlock_L8_t n k f_C_compileStep h_C_compileStep hb n u2 0
set_option maxRecDepth 20000 in
set_option maxHeartbeats 4000000 in
theorem cet_C_compileStep_b {l : Launch} {ca : Nat → ClassId} {D : va_G} {a g : Nat → Nat} {d : Nat} (n k : Nat) (f_C_compileIf : zMu → Option (Unit × zMu)) (f_C_compileWhile : zMu → Option (Unit × zMu)) (h_C_compileIf : ∀ (u : zMu), zMet l (zCe ca D) ceY_C_compileIf (.code ceY_C_compileIf prog_2_method_9_code 4 none) zrv true d a g [.ref (a 2)] u (f_C_compileIf u)) (h_C_compileWhile : ∀ (u : zMu), zMet l (zCe ca D) ceY_C_compileWhile (.code ceY_C_compileWhile prog_2_method_10_code 4 none) zrv true d a g [.ref (a 2)] u (f_C_compileWhile u)) (hb : (1 * k + 5) ≤ d) (u : zMu) : zMet l (zCe ca D) ceY_C_compileStep (.code ceY_C_compileStep prog_2_method_7_code 1 none) zrv true (d + 1) a g [.ref (a 2)] u (ce_C_compileStep_b n k f_C_compileIf f_C_compileWhile u) := by
  refine zMet.of rfl (Nat.le_of_ble_eq_true rfl) fun κ A hl => ?_
  subst hl
  unfold ce_C_compileStep_b
  refine z_aload_n (pc' := 1) (k := 0) (i := 0) 0 rfl rfl ⟨by decide +kernel, rfl⟩ ?_
  refine z_getG (pc' := 4) (cef_C52_2 ca D) rfl (fun _ h => ⟨zpr_n0 h, ce_adP0 h⟩) ⟨by decide +kernel, rfl⟩ fun p1 hp1 => ?_
  refine z_iconst (pc' := 5) (n := 0) (v := 0) (by decide) ⟨by decide +kernel, rfl⟩ ?_
  refine z_iconst (pc' := 6) (n := 0) (v := 0) (by decide) ⟨by decide +kernel, rfl⟩ ?_
  refine z_aload_n (pc' := 7) (k := 0) (i := 0) 0 rfl rfl ⟨by decide +kernel, rfl⟩ ?_
  refine z_getR (pc' := 10) (cef_C12_2 ca D) rfl (y := a 7) rfl ⟨by decide +kernel, rfl⟩ ?_
  refine z_getI (pc' := 13) (cef_C116_7 ca D) rfl ⟨by decide +kernel, rfl⟩ ?_
  refine z_callVf (pc' := 16) p1 (cet_P_emit n p1 hp1 u 0 0 (zI u 7 7)) (ceG_C56 ca D) (ceO_P ca D hp1) (ce_adP0 hp1) (by omega) rfl rfl (Nat.le_of_ble_eq_true rfl) ⟨by decide +kernel, rfl⟩ (fun r2 u3 => ?_)
  refine z_pop (pc' := 17) rfl ⟨by decide +kernel, rfl⟩ ?_
  refine z_aload_n (pc' := 18) (k := 0) (i := 0) 0 rfl rfl ⟨by decide +kernel, rfl⟩ ?_
  refine z_getR (pc' := 21) (cef_C12_2 ca D) rfl (y := a 7) rfl ⟨by decide +kernel, rfl⟩ ?_
  refine z_getI (pc' := 24) (cef_C43_7 ca D) rfl ⟨by decide +kernel, rfl⟩ ?_
  refine z_letI fun v4 => ?_
  refine z_ite (fun h7 => ?_) (fun h7 => ?_)
  · refine z_tabIn (dflt := 90) (lo := 301) (hi := 307) (offs := #[44, 51, 90, 58, 65, 74, 83]) (len := 44) (off := 44) (tgt := 68) h7 (by decide +kernel) (by decide) (by decide) rfl rfl ?_
    refine z_aload_n (pc' := 69) (k := 0) (i := 0) 0 rfl rfl ⟨by decide +kernel, rfl⟩ ?_
    refine z_callVf (pc' := 72) 2 (cet_C_compileLet n k u3) (ceG_C149 ca D) (ceO_2 ca D) rfl (by omega) rfl rfl (Nat.le_of_ble_eq_true rfl) ⟨by decide +kernel, rfl⟩ (fun _ u6 => ?_)
    refine z_goto (tgt := 118) (off := 46) (by decide +kernel) rfl ?_
    exact z_vret (pc' := 119) ⟨by decide +kernel, rfl⟩
  refine z_ite (fun h10 => ?_) (fun h10 => ?_)
  · refine z_tabIn (dflt := 90) (lo := 301) (hi := 307) (offs := #[44, 51, 90, 58, 65, 74, 83]) (len := 44) (off := 51) (tgt := 75) h10 (by decide +kernel) (by decide) (by decide) rfl rfl ?_
    refine z_aload_n (pc' := 76) (k := 0) (i := 0) 0 rfl rfl ⟨by decide +kernel, rfl⟩ ?_
    refine z_callVf (pc' := 79) 2 (h_C_compileIf u3) (ceG_C152 ca D) (ceO_2 ca D) rfl (by omega) rfl rfl (Nat.le_of_ble_eq_true rfl) ⟨by decide +kernel, rfl⟩ (fun _ u9 => ?_)
    refine z_goto (tgt := 118) (off := 39) (by decide +kernel) rfl ?_
    exact z_vret (pc' := 119) ⟨by decide +kernel, rfl⟩
  refine z_ite (fun h13 => ?_) (fun h13 => ?_)
  · refine z_tabIn (dflt := 90) (lo := 301) (hi := 307) (offs := #[44, 51, 90, 58, 65, 74, 83]) (len := 44) (off := 58) (tgt := 82) h13 (by decide +kernel) (by decide) (by decide) rfl rfl ?_
    refine z_aload_n (pc' := 83) (k := 0) (i := 0) 0 rfl rfl ⟨by decide +kernel, rfl⟩ ?_
    refine z_callVf (pc' := 86) 2 (h_C_compileWhile u3) (ceG_C155 ca D) (ceO_2 ca D) rfl (by omega) rfl rfl (Nat.le_of_ble_eq_true rfl) ⟨by decide +kernel, rfl⟩ (fun _ u12 => ?_)
    refine z_goto (tgt := 118) (off := 32) (by decide +kernel) rfl ?_
    exact z_vret (pc' := 119) ⟨by decide +kernel, rfl⟩
  refine z_ite (fun h16 => ?_) (fun h16 => ?_)
  · refine z_tabIn (dflt := 90) (lo := 301) (hi := 307) (offs := #[44, 51, 90, 58, 65, 74, 83]) (len := 44) (off := 65) (tgt := 89) h16 (by decide +kernel) (by decide) (by decide) rfl rfl ?_
    refine z_aload_n (pc' := 90) (k := 0) (i := 0) 0 rfl rfl ⟨by decide +kernel, rfl⟩ ?_
    refine z_bipush (pc' := 92) (n := 22) (v := 22) (by decide) ⟨by decide +kernel, rfl⟩ ?_
    refine z_callVf (pc' := 95) 2 (cet_C_compilePlain n k u3 22) (ceG_C158 ca D) (ceO_2 ca D) rfl (by omega) rfl rfl (Nat.le_of_ble_eq_true rfl) ⟨by decide +kernel, rfl⟩ (fun _ u15 => ?_)
    refine z_goto (tgt := 118) (off := 23) (by decide +kernel) rfl ?_
    exact z_vret (pc' := 119) ⟨by decide +kernel, rfl⟩
  refine z_ite (fun h19 => ?_) (fun h19 => ?_)
  · refine z_tabIn (dflt := 90) (lo := 301) (hi := 307) (offs := #[44, 51, 90, 58, 65, 74, 83]) (len := 44) (off := 74) (tgt := 98) h19 (by decide +kernel) (by decide) (by decide) rfl rfl ?_
    refine z_aload_n (pc' := 99) (k := 0) (i := 0) 0 rfl rfl ⟨by decide +kernel, rfl⟩ ?_
    refine z_bipush (pc' := 101) (n := 21) (v := 21) (by decide) ⟨by decide +kernel, rfl⟩ ?_
    refine z_callVf (pc' := 104) 2 (cet_C_compilePlain n k u3 21) (ceG_C158 ca D) (ceO_2 ca D) rfl (by omega) rfl rfl (Nat.le_of_ble_eq_true rfl) ⟨by decide +kernel, rfl⟩ (fun _ u18 => ?_)
    refine z_goto (tgt := 118) (off := 14) (by decide +kernel) rfl ?_
    exact z_vret (pc' := 119) ⟨by decide +kernel, rfl⟩
  refine z_ite (fun h22 => ?_) (fun h22 => ?_)
  · refine z_tabIn (dflt := 90) (lo := 301) (hi := 307) (offs := #[44, 51, 90, 58, 65, 74, 83]) (len := 44) (off := 83) (tgt := 107) h22 (by decide +kernel) (by decide) (by decide) rfl rfl ?_
    refine z_aload_n (pc' := 108) (k := 0) (i := 0) 0 rfl rfl ⟨by decide +kernel, rfl⟩ ?_
    refine z_callVf (pc' := 111) 2 (cet_C_compileDel n k u3) (ceG_C161 ca D) (ceO_2 ca D) rfl (by omega) rfl rfl (Nat.le_of_ble_eq_true rfl) ⟨by decide +kernel, rfl⟩ (fun _ u21 => ?_)
    refine z_goto (tgt := 118) (off := 7) (by decide +kernel) rfl ?_
    exact z_vret (pc' := 119) ⟨by decide +kernel, rfl⟩
  by_cases h25 : v4 = 303
  · refine z_tabIn (dflt := 90) (lo := 301) (hi := 307) (offs := #[44, 51, 90, 58, 65, 74, 83]) (len := 44) (off := 90) (tgt := 114) h25 (by decide +kernel) (by decide) (by decide) rfl rfl ?_
    refine z_aload_n (pc' := 115) (k := 0) (i := 0) 0 rfl rfl ⟨by decide +kernel, rfl⟩ ?_
    refine z_callVf (pc' := 118) 2 (cet_C_compilePut n k u3) (ceG_C164 ca D) (ceO_2 ca D) rfl (by omega) rfl rfl (Nat.le_of_ble_eq_true rfl) ⟨by decide +kernel, rfl⟩ (fun _ u24 => ?_)
    exact z_vret (pc' := 119) ⟨by decide +kernel, rfl⟩
  refine z_tabOut (dflt := 90) (lo := 301) (hi := 307) (offs := #[44, 51, 90, 58, 65, 74, 83]) (len := 44) (tgt := 114) (by decide +kernel) (by have h7' := lv_neT h7 (a := 301) (by decide); have h10' := lv_neT h10 (a := 302) (by decide); have h13' := lv_neT h13 (a := 304) (by decide); have h16' := lv_neT h16 (a := 305) (by decide); have h19' := lv_neT h19 (a := 306) (by decide); have h22' := lv_neT h22 (a := 307) (by decide); have h25' := lv_neT h25 (a := 303) (by decide); omega) rfl ?_
  refine z_aload_n (pc' := 115) (k := 0) (i := 0) 0 rfl rfl ⟨by decide +kernel, rfl⟩ ?_
  refine z_callVf (pc' := 118) 2 (cet_C_compilePut n k u3) (ceG_C164 ca D) (ceO_2 ca D) rfl (by omega) rfl rfl (Nat.le_of_ble_eq_true rfl) ⟨by decide +kernel, rfl⟩ (fun _ u24 => ?_)
  exact z_vret (pc' := 119) ⟨by decide +kernel, rfl⟩
set_option maxRecDepth 20000 in
set_option maxHeartbeats 4000000 in
theorem cet_C_compileIf_b {l : Launch} {ca : Nat → ClassId} {D : va_G} {a g : Nat → Nat} {d : Nat} (n k : Nat) (f_C_compileBlock : zMu → Option (Unit × zMu)) (h_C_compileBlock : ∀ (u : zMu), zMet l (zCe ca D) ceY_C_compileBlock (.code ceY_C_compileBlock prog_2_method_6_code 2 none) zrv true d a g [.ref (a 2)] u (f_C_compileBlock u)) (hb : (1 * k + 5) ≤ d) (u : zMu) : zMet l (zCe ca D) ceY_C_compileIf (.code ceY_C_compileIf prog_2_method_9_code 4 none) zrv true (d + 1) a g [.ref (a 2)] u (ce_C_compileIf_b n k f_C_compileBlock u) := by
  refine zMet.of rfl (Nat.le_of_ble_eq_true rfl) fun κ A hl => ?_
  subst hl
  unfold ce_C_compileIf_b
  refine z_aload_n (pc' := 1) (k := 0) (i := 0) 0 rfl rfl ⟨by decide +kernel, rfl⟩ ?_
  refine z_getR (pc' := 4) (cef_C12_2 ca D) rfl (y := a 7) rfl ⟨by decide +kernel, rfl⟩ ?_
  refine z_getI (pc' := 7) (cef_C116_7 ca D) rfl ⟨by decide +kernel, rfl⟩ ?_
  refine z_letI fun v1 => ?_
  refine z_istore_n (pc' := 8) (k := 1) (i := 1) rfl (by decide) rfl ⟨by decide +kernel, rfl⟩ ?_
  refine z_aload_n (pc' := 9) (k := 0) (i := 0) 1 rfl rfl ⟨by decide +kernel, rfl⟩ ?_
  refine z_getR (pc' := 12) (cef_C12_2 ca D) rfl (y := a 7) rfl ⟨by decide +kernel, rfl⟩ ?_
  refine z_callVf (pc' := 15) 7 (cet_X_advance n u) (ceG_C105 ca D) (ceO_7 ca D) rfl (by omega) rfl rfl (Nat.le_of_ble_eq_true rfl) ⟨by decide +kernel, rfl⟩ (fun _ u3 => ?_)
  refine z_aload_n (pc' := 16) (k := 0) (i := 0) 1 rfl rfl ⟨by decide +kernel, rfl⟩ ?_
  refine z_iconst (pc' := 17) (n := 0) (v := 0) (by decide) ⟨by decide +kernel, rfl⟩ ?_
  refine z_callVf (pc' := 20) 2 (cet_C_compileE n k u3 0) (ceG_C170 ca D) (ceO_2 ca D) rfl (by omega) rfl rfl (Nat.le_of_ble_eq_true rfl) ⟨by decide +kernel, rfl⟩ (fun r4 u5 => ?_)
  refine z_pop (pc' := 21) rfl ⟨by decide +kernel, rfl⟩ ?_
  refine z_aload_n (pc' := 22) (k := 0) (i := 0) 1 rfl rfl ⟨by decide +kernel, rfl⟩ ?_
  refine z_getG (pc' := 25) (cef_C52_2 ca D) rfl (fun _ h => ⟨zpr_n0 h, ce_adP0 h⟩) ⟨by decide +kernel, rfl⟩ fun p6 hp6 => ?_
  refine z_bipush (pc' := 27) (n := 24) (v := 24) (by decide) ⟨by decide +kernel, rfl⟩ ?_
  refine z_iconst (pc' := 28) (n := 0) (v := 0) (by decide) ⟨by decide +kernel, rfl⟩ ?_
  refine z_iload_n (pc' := 29) (k := 1) (i := 1) 0 rfl rfl ⟨by decide +kernel, rfl⟩ ?_
  refine z_callVf (pc' := 32) p6 (cet_P_emit n p6 hp6 u5 24 0 v1) (ceG_C56 ca D) (ceO_P ca D hp6) (ce_adP0 hp6) (by omega) rfl rfl (Nat.le_of_ble_eq_true rfl) ⟨by decide +kernel, rfl⟩ (fun r7 u8 => ?_)
  refine z_istore_n (pc' := 33) (k := 2) (i := 2) rfl (by decide) rfl ⟨by decide +kernel, rfl⟩ ?_
  refine z_aload_n (pc' := 34) (k := 0) (i := 0) 2 rfl rfl ⟨by decide +kernel, rfl⟩ ?_
  refine z_callVf (pc' := 37) 2 (h_C_compileBlock u8) (ceG_C49 ca D) (ceO_2 ca D) rfl (by omega) rfl rfl (Nat.le_of_ble_eq_true rfl) ⟨by decide +kernel, rfl⟩ (fun _ u10 => ?_)
  refine z_aload_n (pc' := 38) (k := 0) (i := 0) 2 rfl rfl ⟨by decide +kernel, rfl⟩ ?_
  refine z_sipush (pc' := 41) (n := 303) (v := 303) (by decide) ⟨by decide +kernel, rfl⟩ ?_
  refine z_callVf (pc' := 44) 2 (cet_C_takes n u10 303) (ceG_C142 ca D) (ceO_2 ca D) rfl (by omega) rfl rfl (Nat.le_of_ble_eq_true rfl) ⟨by decide +kernel, rfl⟩ (fun r11 u12 => ?_)
  refine z_if_eq (pc' := 47) (tgt := 82) (off := 38) ⟨by decide +kernel, rfl⟩ rfl (fun h13 => ?_) (fun h13 => ?_)
  · refine z_aload_n (pc' := 83) (k := 0) (i := 0) 2 rfl rfl ⟨by decide +kernel, rfl⟩ ?_
    refine z_getG (pc' := 86) (cef_C52_2 ca D) rfl (fun _ h => ⟨zpr_n0 h, ce_adP0 h⟩) ⟨by decide +kernel, rfl⟩ fun p14 hp14 => ?_
    refine z_iload_n (pc' := 87) (k := 2) (i := 2) 0 rfl rfl ⟨by decide +kernel, rfl⟩ ?_
    refine z_callVf (pc' := 90) p14 (cet_P_aim n p14 hp14 u12 r7) (ceG_C174 ca D) (ceO_P ca D hp14) (ce_adP0 hp14) (by omega) rfl rfl (Nat.le_of_ble_eq_true rfl) ⟨by decide +kernel, rfl⟩ (fun _ u16 => ?_)
    exact z_vret (pc' := 91) ⟨by decide +kernel, rfl⟩
  · refine z_aload_n (pc' := 48) (k := 0) (i := 0) 2 rfl rfl ⟨by decide +kernel, rfl⟩ ?_
    refine z_getG (pc' := 51) (cef_C52_2 ca D) rfl (fun _ h => ⟨zpr_n0 h, ce_adP0 h⟩) ⟨by decide +kernel, rfl⟩ fun p17 hp17 => ?_
    refine z_bipush (pc' := 53) (n := 23) (v := 23) (by decide) ⟨by decide +kernel, rfl⟩ ?_
    refine z_iconst (pc' := 54) (n := 0) (v := 0) (by decide) ⟨by decide +kernel, rfl⟩ ?_
    refine z_iload_n (pc' := 55) (k := 1) (i := 1) 1 rfl rfl ⟨by decide +kernel, rfl⟩ ?_
    refine z_callVf (pc' := 58) p17 (cet_P_emit n p17 hp17 u12 23 0 v1) (ceG_C56 ca D) (ceO_P ca D hp17) (ce_adP0 hp17) (by omega) rfl rfl (Nat.le_of_ble_eq_true rfl) ⟨by decide +kernel, rfl⟩ (fun r18 u19 => ?_)
    refine z_istore_n (pc' := 59) (k := 3) (i := 3) rfl (by decide) rfl ⟨by decide +kernel, rfl⟩ ?_
    refine z_aload_n (pc' := 60) (k := 0) (i := 0) 3 rfl rfl ⟨by decide +kernel, rfl⟩ ?_
    refine z_getG (pc' := 63) (cef_C52_2 ca D) rfl (fun _ h => ⟨zpr_n0 h, ce_adP0 h⟩) ⟨by decide +kernel, rfl⟩ fun p20 hp20 => ?_
    refine z_iload_n (pc' := 64) (k := 2) (i := 2) 1 rfl rfl ⟨by decide +kernel, rfl⟩ ?_
    refine z_callVf (pc' := 67) p20 (cet_P_aim n p20 hp20 u19 r7) (ceG_C174 ca D) (ceO_P ca D hp20) (ce_adP0 hp20) (by omega) rfl rfl (Nat.le_of_ble_eq_true rfl) ⟨by decide +kernel, rfl⟩ (fun _ u22 => ?_)
    refine z_aload_n (pc' := 68) (k := 0) (i := 0) 3 rfl rfl ⟨by decide +kernel, rfl⟩ ?_
    refine z_callVf (pc' := 71) 2 (h_C_compileBlock u22) (ceG_C49 ca D) (ceO_2 ca D) rfl (by omega) rfl rfl (Nat.le_of_ble_eq_true rfl) ⟨by decide +kernel, rfl⟩ (fun _ u24 => ?_)
    refine z_aload_n (pc' := 72) (k := 0) (i := 0) 3 rfl rfl ⟨by decide +kernel, rfl⟩ ?_
    refine z_getG (pc' := 75) (cef_C52_2 ca D) rfl (fun _ h => ⟨zpr_n0 h, ce_adP0 h⟩) ⟨by decide +kernel, rfl⟩ fun p25 hp25 => ?_
    refine z_iload_n (pc' := 76) (k := 3) (i := 3) 0 rfl rfl ⟨by decide +kernel, rfl⟩ ?_
    refine z_callVf (pc' := 79) p25 (cet_P_aim n p25 hp25 u24 r18) (ceG_C174 ca D) (ceO_P ca D hp25) (ce_adP0 hp25) (by omega) rfl rfl (Nat.le_of_ble_eq_true rfl) ⟨by decide +kernel, rfl⟩ (fun _ u27 => ?_)
    refine z_goto (tgt := 90) (off := 11) (by decide +kernel) rfl ?_
    exact z_vret (pc' := 91) ⟨by decide +kernel, rfl⟩
set_option maxRecDepth 20000 in
set_option maxHeartbeats 4000000 in
theorem cet_C_compileWhile_b {l : Launch} {ca : Nat → ClassId} {D : va_G} {a g : Nat → Nat} {d : Nat} (n k : Nat) (f_C_compileBlock : zMu → Option (Unit × zMu)) (h_C_compileBlock : ∀ (u : zMu), zMet l (zCe ca D) ceY_C_compileBlock (.code ceY_C_compileBlock prog_2_method_6_code 2 none) zrv true d a g [.ref (a 2)] u (f_C_compileBlock u)) (hb : (1 * k + 5) ≤ d) (u : zMu) : zMet l (zCe ca D) ceY_C_compileWhile (.code ceY_C_compileWhile prog_2_method_10_code 4 none) zrv true (d + 1) a g [.ref (a 2)] u (ce_C_compileWhile_b n k f_C_compileBlock u) := by
  refine zMet.of rfl (Nat.le_of_ble_eq_true rfl) fun κ A hl => ?_
  subst hl
  unfold ce_C_compileWhile_b
  refine z_aload_n (pc' := 1) (k := 0) (i := 0) 0 rfl rfl ⟨by decide +kernel, rfl⟩ ?_
  refine z_getR (pc' := 4) (cef_C12_2 ca D) rfl (y := a 7) rfl ⟨by decide +kernel, rfl⟩ ?_
  refine z_getI (pc' := 7) (cef_C116_7 ca D) rfl ⟨by decide +kernel, rfl⟩ ?_
  refine z_letI fun v1 => ?_
  refine z_istore_n (pc' := 8) (k := 1) (i := 1) rfl (by decide) rfl ⟨by decide +kernel, rfl⟩ ?_
  refine z_aload_n (pc' := 9) (k := 0) (i := 0) 1 rfl rfl ⟨by decide +kernel, rfl⟩ ?_
  refine z_getG (pc' := 12) (cef_C52_2 ca D) rfl (fun _ h => ⟨zpr_n0 h, ce_adP0 h⟩) ⟨by decide +kernel, rfl⟩ fun p2 hp2 => ?_
  refine z_getI (pc' := 15) (cef_C68_P ca D hp2) (ce_adP0 hp2) ⟨by decide +kernel, rfl⟩ ?_
  refine z_iconst (pc' := 16) (n := 1) (v := 1) (by decide) ⟨by decide +kernel, rfl⟩ ?_
  refine z_isub (pc' := 17) ⟨by decide +kernel, rfl⟩ ?_
  refine z_letI fun v3 => ?_
  refine z_istore_n (pc' := 18) (k := 2) (i := 2) rfl (by decide) rfl ⟨by decide +kernel, rfl⟩ ?_
  refine z_aload_n (pc' := 19) (k := 0) (i := 0) 2 rfl rfl ⟨by decide +kernel, rfl⟩ ?_
  refine z_getR (pc' := 22) (cef_C12_2 ca D) rfl (y := a 7) rfl ⟨by decide +kernel, rfl⟩ ?_
  refine z_callVf (pc' := 25) 7 (cet_X_advance n u) (ceG_C105 ca D) (ceO_7 ca D) rfl (by omega) rfl rfl (Nat.le_of_ble_eq_true rfl) ⟨by decide +kernel, rfl⟩ (fun _ u5 => ?_)
  refine z_aload_n (pc' := 26) (k := 0) (i := 0) 2 rfl rfl ⟨by decide +kernel, rfl⟩ ?_
  refine z_iconst (pc' := 27) (n := 0) (v := 0) (by decide) ⟨by decide +kernel, rfl⟩ ?_
  refine z_callVf (pc' := 30) 2 (cet_C_compileE n k u5 0) (ceG_C170 ca D) (ceO_2 ca D) rfl (by omega) rfl rfl (Nat.le_of_ble_eq_true rfl) ⟨by decide +kernel, rfl⟩ (fun r6 u7 => ?_)
  refine z_pop (pc' := 31) rfl ⟨by decide +kernel, rfl⟩ ?_
  refine z_aload_n (pc' := 32) (k := 0) (i := 0) 2 rfl rfl ⟨by decide +kernel, rfl⟩ ?_
  refine z_getG (pc' := 35) (cef_C52_2 ca D) rfl (fun _ h => ⟨zpr_n0 h, ce_adP0 h⟩) ⟨by decide +kernel, rfl⟩ fun p8 hp8 => ?_
  refine z_bipush (pc' := 37) (n := 24) (v := 24) (by decide) ⟨by decide +kernel, rfl⟩ ?_
  refine z_iconst (pc' := 38) (n := 0) (v := 0) (by decide) ⟨by decide +kernel, rfl⟩ ?_
  refine z_iload_n (pc' := 39) (k := 1) (i := 1) 1 rfl rfl ⟨by decide +kernel, rfl⟩ ?_
  refine z_callVf (pc' := 42) p8 (cet_P_emit n p8 hp8 u7 24 0 v1) (ceG_C56 ca D) (ceO_P ca D hp8) (ce_adP0 hp8) (by omega) rfl rfl (Nat.le_of_ble_eq_true rfl) ⟨by decide +kernel, rfl⟩ (fun r9 u10 => ?_)
  refine z_istore_n (pc' := 43) (k := 3) (i := 3) rfl (by decide) rfl ⟨by decide +kernel, rfl⟩ ?_
  refine z_aload_n (pc' := 44) (k := 0) (i := 0) 3 rfl rfl ⟨by decide +kernel, rfl⟩ ?_
  refine z_callVf (pc' := 47) 2 (h_C_compileBlock u10) (ceG_C49 ca D) (ceO_2 ca D) rfl (by omega) rfl rfl (Nat.le_of_ble_eq_true rfl) ⟨by decide +kernel, rfl⟩ (fun _ u12 => ?_)
  refine z_aload_n (pc' := 48) (k := 0) (i := 0) 3 rfl rfl ⟨by decide +kernel, rfl⟩ ?_
  refine z_getG (pc' := 51) (cef_C52_2 ca D) rfl (fun _ h => ⟨zpr_n0 h, ce_adP0 h⟩) ⟨by decide +kernel, rfl⟩ fun p13 hp13 => ?_
  refine z_bipush (pc' := 53) (n := 23) (v := 23) (by decide) ⟨by decide +kernel, rfl⟩ ?_
  refine z_iload_n (pc' := 54) (k := 2) (i := 2) 1 rfl rfl ⟨by decide +kernel, rfl⟩ ?_
  refine z_iload_n (pc' := 55) (k := 1) (i := 1) 2 rfl rfl ⟨by decide +kernel, rfl⟩ ?_
  refine z_callVf (pc' := 58) p13 (cet_P_emit n p13 hp13 u12 23 v3 v1) (ceG_C56 ca D) (ceO_P ca D hp13) (ce_adP0 hp13) (by omega) rfl rfl (Nat.le_of_ble_eq_true rfl) ⟨by decide +kernel, rfl⟩ (fun r14 u15 => ?_)
  refine z_pop (pc' := 59) rfl ⟨by decide +kernel, rfl⟩ ?_
  refine z_aload_n (pc' := 60) (k := 0) (i := 0) 3 rfl rfl ⟨by decide +kernel, rfl⟩ ?_
  refine z_getG (pc' := 63) (cef_C52_2 ca D) rfl (fun _ h => ⟨zpr_n0 h, ce_adP0 h⟩) ⟨by decide +kernel, rfl⟩ fun p16 hp16 => ?_
  refine z_iload_n (pc' := 64) (k := 3) (i := 3) 0 rfl rfl ⟨by decide +kernel, rfl⟩ ?_
  refine z_callVf (pc' := 67) p16 (cet_P_aim n p16 hp16 u15 r9) (ceG_C174 ca D) (ceO_P ca D hp16) (ce_adP0 hp16) (by omega) rfl rfl (Nat.le_of_ble_eq_true rfl) ⟨by decide +kernel, rfl⟩ (fun _ u18 => ?_)
  exact z_vret (pc' := 68) ⟨by decide +kernel, rfl⟩
set_option maxRecDepth 20000 in
set_option maxHeartbeats 4000000 in
theorem ce_G_compileBlock_t {l : Launch} {ca : Nat → ClassId} {D : va_G} {a g : Nat → Nat} (n k : Nat) : ∀ j : Nat, (∀ (u : zMu), zMet l (zCe ca D) ceY_C_compileBlock (.code ceY_C_compileBlock prog_2_method_6_code 2 none) zrv true ((1 * k + 5) + j) a g [.ref (a 2)] u ((ce_G_compileBlock n k j).1 u)) ∧ (∀ (u : zMu), zMet l (zCe ca D) ceY_C_compileStep (.code ceY_C_compileStep prog_2_method_7_code 1 none) zrv true ((1 * k + 5) + j) a g [.ref (a 2)] u ((ce_G_compileBlock n k j).2.1 u)) ∧ (∀ (u : zMu), zMet l (zCe ca D) ceY_C_compileIf (.code ceY_C_compileIf prog_2_method_9_code 4 none) zrv true ((1 * k + 5) + j) a g [.ref (a 2)] u ((ce_G_compileBlock n k j).2.2.1 u)) ∧ (∀ (u : zMu), zMet l (zCe ca D) ceY_C_compileWhile (.code ceY_C_compileWhile prog_2_method_10_code 4 none) zrv true ((1 * k + 5) + j) a g [.ref (a 2)] u ((ce_G_compileBlock n k j).2.2.2 u))
  | 0 => ⟨(fun _ _ _ h => by cases h), (fun _ _ _ h => by cases h), (fun _ _ _ h => by cases h), (fun _ _ _ h => by cases h)⟩
  | j + 1 => by
    have ih := ce_G_compileBlock_t (l := l) (ca := ca) (D := D) (a := a) (g := g) n k j
    refine ⟨?_, ?_, ?_, ?_⟩
    · intro u 
      exact cet_C_compileBlock_b n k _ ih.2.1 (by omega) u 
    · intro u 
      exact cet_C_compileStep_b n k _ _ ih.2.2.1 ih.2.2.2 (by omega) u 
    · intro u 
      exact cet_C_compileIf_b n k _ ih.1 (by omega) u 
    · intro u 
      exact cet_C_compileWhile_b n k _ ih.1 (by omega) u 
set_option maxRecDepth 20000 in
set_option maxHeartbeats 4000000 in
theorem cet_C_compileBlock {l : Launch} {ca : Nat → ClassId} {D : va_G} {a g : Nat → Nat} (n k : Nat) (u : zMu) : zMet l (zCe ca D) ceY_C_compileBlock (.code ceY_C_compileBlock prog_2_method_6_code 2 none) zrv true (2 * k + 5) a g [.ref (a 2)] u (ce_C_compileBlock n k u) := by
  have h := (ce_G_compileBlock_t (l := l) (ca := ca) (D := D) (a := a) (g := g) n k k).1 u
  have e : (1 * k + 5) + k = (2 * k + 5) := by omega
  rw [e] at h
  exact h
set_option maxRecDepth 20000 in
set_option maxHeartbeats 4000000 in
theorem cet_C_compileStep {l : Launch} {ca : Nat → ClassId} {D : va_G} {a g : Nat → Nat} (n k : Nat) (u : zMu) : zMet l (zCe ca D) ceY_C_compileStep (.code ceY_C_compileStep prog_2_method_7_code 1 none) zrv true (2 * k + 5) a g [.ref (a 2)] u (ce_C_compileStep n k u) := by
  have h := (ce_G_compileBlock_t (l := l) (ca := ca) (D := D) (a := a) (g := g) n k k).2.1 u
  have e : (1 * k + 5) + k = (2 * k + 5) := by omega
  rw [e] at h
  exact h
set_option maxRecDepth 20000 in
set_option maxHeartbeats 4000000 in
theorem cet_C_compileIf {l : Launch} {ca : Nat → ClassId} {D : va_G} {a g : Nat → Nat} (n k : Nat) (u : zMu) : zMet l (zCe ca D) ceY_C_compileIf (.code ceY_C_compileIf prog_2_method_9_code 4 none) zrv true (2 * k + 5) a g [.ref (a 2)] u (ce_C_compileIf n k u) := by
  have h := (ce_G_compileBlock_t (l := l) (ca := ca) (D := D) (a := a) (g := g) n k k).2.2.1 u
  have e : (1 * k + 5) + k = (2 * k + 5) := by omega
  rw [e] at h
  exact h
set_option maxRecDepth 20000 in
set_option maxHeartbeats 4000000 in
theorem cet_C_compileWhile {l : Launch} {ca : Nat → ClassId} {D : va_G} {a g : Nat → Nat} (n k : Nat) (u : zMu) : zMet l (zCe ca D) ceY_C_compileWhile (.code ceY_C_compileWhile prog_2_method_10_code 4 none) zrv true (2 * k + 5) a g [.ref (a 2)] u (ce_C_compileWhile n k u) := by
  have h := (ce_G_compileBlock_t (l := l) (ca := ca) (D := D) (a := a) (g := g) n k k).2.2.2 u
  have e : (1 * k + 5) + k = (2 * k + 5) := by omega
  rw [e] at h
  exact h
set_option maxRecDepth 20000 in
set_option maxHeartbeats 4000000 in
theorem ce_C_settleCalls_L2_t {κ : zKx} {ca : Nat → ClassId} {D : va_G} {A : Nat → Prop} {c0 : Nat × Nat} {a g0 g : Nat → Nat} (n : Nat) : ∀ (m : Nat) (u : zMu) (x1 : Int32), zJ κ (zCe ca D) prog_2_method_27_code 4 ce_RC none zrv true 1 A c0 a g0 g u 2 [(0, .ref (a 2)), (1, .int x1)] [] (ce_C_settleCalls_L2 n m u x1) := by
  intro m
  induction m with
  | zero => intro u x1 r u' h; cases h
  | succ m ih =>
    intro u x1
    unfold ce_C_settleCalls_L2
    refine z_iload_n (pc' := 3) (k := 1) (i := 1) 1 rfl rfl ⟨by decide +kernel, rfl⟩ ?_
    refine z_aload_n (pc' := 4) (k := 0) (i := 0) 0 rfl rfl ⟨by decide +kernel, rfl⟩ ?_
    refine z_getI (pc' := 7) (cef_C96_2 ca D) rfl ⟨by decide +kernel, rfl⟩ ?_
    refine z_icmp_ge (pc' := 10) (tgt := 101) (off := 94) ⟨by decide +kernel, rfl⟩ rfl (fun h1 => ?_) (fun h1 => ?_)
    · refine z_aload_n (pc' := 11) (k := 0) (i := 0) 0 rfl rfl ⟨by decide +kernel, rfl⟩ ?_
      refine z_getG (pc' := 14) (cef_C52_2 ca D) rfl (fun _ h => ⟨zpr_n0 h, ce_adP0 h⟩) ⟨by decide +kernel, rfl⟩ fun p2 hp2 => ?_
      refine z_aload_n (pc' := 15) (k := 0) (i := 0) 0 rfl rfl ⟨by decide +kernel, rfl⟩ ?_
      refine z_getR (pc' := 18) (cef_C26_2 ca D) rfl (y := a 4) rfl ⟨by decide +kernel, rfl⟩ ?_
      refine z_iload_n (pc' := 19) (k := 1) (i := 1) 1 rfl rfl ⟨by decide +kernel, rfl⟩ ?_
      refine z_lald (pc' := 20) 4 rfl (zlt rfl) rfl rfl ⟨by decide +kernel, rfl⟩ ?_
      refine z_callVf (pc' := 23) p2 (cet_P_fnNamed n p2 hp2 u (zL u 4 (zx x1))) (ceG_C112 ca D) (ceO_P ca D hp2) (ce_adP0 hp2) (by omega) rfl rfl (Nat.le_of_ble_eq_true rfl) ⟨by decide +kernel, rfl⟩ (fun r3 u4 => ?_)
      refine z_istore_n (pc' := 24) (k := 2) (i := 2) rfl (by decide) rfl ⟨by decide +kernel, rfl⟩ ?_
      refine z_aload_n (pc' := 25) (k := 0) (i := 0) 1 rfl rfl ⟨by decide +kernel, rfl⟩ ?_
      refine z_getG (pc' := 28) (cef_C52_2 ca D) rfl (fun _ h => ⟨zpr_n0 h, ce_adP0 h⟩) ⟨by decide +kernel, rfl⟩ fun p5 hp5 => ?_
      refine z_getR (pc' := 31) (cef_C234_P ca D hp5) (ce_adP0 hp5) (y := a (p5 + 3)) (ce_frP3 hp5) ⟨by decide +kernel, rfl⟩ ?_
      refine z_aload_n (pc' := 32) (k := 0) (i := 0) 1 rfl rfl ⟨by decide +kernel, rfl⟩ ?_
      refine z_getR (pc' := 35) (cef_C33_2 ca D) rfl (y := a 6) rfl ⟨by decide +kernel, rfl⟩ ?_
      refine z_iload_n (pc' := 36) (k := 1) (i := 1) 2 rfl rfl ⟨by decide +kernel, rfl⟩ ?_
      refine z_iald (pc' := 37) 6 rfl (zlt rfl) rfl rfl ⟨by decide +kernel, rfl⟩ ?_
      refine z_sald (pc' := 38) (p5 + 3) (ce_ckP3 hp5) (ce_clP3 hp5) (ce_cnP3 hp5) (ce_adP3 hp5) ⟨by decide +kernel, rfl⟩ ?_
      refine z_letI fun v6 => ?_
      refine z_istore_n (pc' := 39) (k := 3) (i := 3) rfl (by decide) rfl ⟨by decide +kernel, rfl⟩ ?_
      refine z_iload_n (pc' := 40) (k := 2) (i := 2) 1 rfl rfl ⟨by decide +kernel, rfl⟩ ?_
      refine z_iconst (pc' := 41) (n := (-1)) (v := (-1)) (by decide) ⟨by decide +kernel, rfl⟩ ?_
      refine z_icmp_ne (pc' := 44) (tgt := 53) (off := 12) ⟨by decide +kernel, rfl⟩ rfl (fun h7 => ?_) (fun h7 => ?_)
      · refine z_aload_n (pc' := 45) (k := 0) (i := 0) 2 rfl rfl ⟨by decide +kernel, rfl⟩ ?_
        refine z_iconst (pc' := 46) (n := 2) (v := 2) (by decide) ⟨by decide +kernel, rfl⟩ ?_
        refine z_iload_n (pc' := 47) (k := 3) (i := 3) 0 rfl rfl ⟨by decide +kernel, rfl⟩ ?_
        refine z_callVf (pc' := 50) 2 (cet_C_note n u4 2 v6) (ceG_C119 ca D) (ceO_2 ca D) rfl (by omega) rfl rfl (Nat.le_of_ble_eq_true rfl) ⟨by decide +kernel, rfl⟩ (fun _ u9 => ?_)
        refine z_goto (tgt := 95) (off := 45) (by decide +kernel) rfl ?_
        refine z_iincN (pc' := 98) (i := 1) (n := 1) (c := 1) 3 rfl (by decide) (by decide) rfl ⟨by decide +kernel, rfl⟩ fun v10 => ?_
        refine z_goto (tgt := 2) (off := -96) (by decide +kernel) rfl ?_
        refine z_lv [3, 0] (lv' := [(0, .ref (a 2)), (1, .int v10)]) rfl ?_
        exact ih u9 v10
      · refine z_aload_n (pc' := 54) (k := 0) (i := 0) 2 rfl rfl ⟨by decide +kernel, rfl⟩ ?_
        refine z_getG (pc' := 57) (cef_C52_2 ca D) rfl (fun _ h => ⟨zpr_n0 h, ce_adP0 h⟩) ⟨by decide +kernel, rfl⟩ fun p11 hp11 => ?_
        refine z_getR (pc' := 60) (cef_C238_P ca D hp11) (ce_adP0 hp11) (y := a (p11 + 10)) (ce_frP10 hp11) ⟨by decide +kernel, rfl⟩ ?_
        refine z_iload_n (pc' := 61) (k := 2) (i := 2) 1 rfl rfl ⟨by decide +kernel, rfl⟩ ?_
        refine z_iald (pc' := 62) (p11 + 10) (ce_ckP10 hp11) (ce_clP10 hp11) (ce_cnP10 hp11) (ce_adP10 hp11) ⟨by decide +kernel, rfl⟩ ?_
        refine z_aload_n (pc' := 63) (k := 0) (i := 0) 2 rfl rfl ⟨by decide +kernel, rfl⟩ ?_
        refine z_getR (pc' := 66) (cef_C29_2 ca D) rfl (y := a 5) rfl ⟨by decide +kernel, rfl⟩ ?_
        refine z_iload_n (pc' := 67) (k := 1) (i := 1) 3 rfl rfl ⟨by decide +kernel, rfl⟩ ?_
        refine z_iald (pc' := 68) 5 rfl (zlt rfl) rfl rfl ⟨by decide +kernel, rfl⟩ ?_
        refine z_icmp_eq (pc' := 71) (tgt := 80) (off := 12) ⟨by decide +kernel, rfl⟩ rfl (fun h12 => ?_) (fun h12 => ?_)
        · refine z_aload_n (pc' := 81) (k := 0) (i := 0) 2 rfl rfl ⟨by decide +kernel, rfl⟩ ?_
          refine z_getG (pc' := 84) (cef_C52_2 ca D) rfl (fun _ h => ⟨zpr_n0 h, ce_adP0 h⟩) ⟨by decide +kernel, rfl⟩ fun p13 hp13 => ?_
          refine z_getR (pc' := 87) (cef_C241_P ca D hp13) (ce_adP0 hp13) (y := a (p13 + 2)) (ce_frP2 hp13) ⟨by decide +kernel, rfl⟩ ?_
          refine z_aload_n (pc' := 88) (k := 0) (i := 0) 2 rfl rfl ⟨by decide +kernel, rfl⟩ ?_
          refine z_getR (pc' := 91) (cef_C33_2 ca D) rfl (y := a 6) rfl ⟨by decide +kernel, rfl⟩ ?_
          refine z_iload_n (pc' := 92) (k := 1) (i := 1) 3 rfl rfl ⟨by decide +kernel, rfl⟩ ?_
          refine z_iald (pc' := 93) 6 rfl (zlt rfl) rfl rfl ⟨by decide +kernel, rfl⟩ ?_
          refine z_iload_n (pc' := 94) (k := 2) (i := 2) 1 rfl rfl ⟨by decide +kernel, rfl⟩ ?_
          refine z_iast (pc' := 95) (p13 + 2) (ce_ckP2 hp13) (ce_clP2 hp13) (ce_cnP2 hp13) (ce_adP2 hp13) ⟨by decide +kernel, rfl⟩ (z_letU fun u14 => ?_)
          refine z_iincN (pc' := 98) (i := 1) (n := 1) (c := 1) 3 rfl (by decide) (by decide) rfl ⟨by decide +kernel, rfl⟩ fun v15 => ?_
          refine z_goto (tgt := 2) (off := -96) (by decide +kernel) rfl ?_
          refine z_lv [3, 0] (lv' := [(0, .ref (a 2)), (1, .int v15)]) rfl ?_
          exact ih u14 v15
        · refine z_aload_n (pc' := 72) (k := 0) (i := 0) 2 rfl rfl ⟨by decide +kernel, rfl⟩ ?_
          refine z_iconst (pc' := 73) (n := 3) (v := 3) (by decide) ⟨by decide +kernel, rfl⟩ ?_
          refine z_iload_n (pc' := 74) (k := 3) (i := 3) 0 rfl rfl ⟨by decide +kernel, rfl⟩ ?_
          refine z_callVf (pc' := 77) 2 (cet_C_note n u4 3 v6) (ceG_C119 ca D) (ceO_2 ca D) rfl (by omega) rfl rfl (Nat.le_of_ble_eq_true rfl) ⟨by decide +kernel, rfl⟩ (fun _ u17 => ?_)
          refine z_goto (tgt := 95) (off := 18) (by decide +kernel) rfl ?_
          refine z_iincN (pc' := 98) (i := 1) (n := 1) (c := 1) 3 rfl (by decide) (by decide) rfl ⟨by decide +kernel, rfl⟩ fun v18 => ?_
          refine z_goto (tgt := 2) (off := -96) (by decide +kernel) rfl ?_
          refine z_lv [3, 0] (lv' := [(0, .ref (a 2)), (1, .int v18)]) rfl ?_
          exact ih u17 v18
    · exact z_vret (pc' := 102) ⟨by decide +kernel, rfl⟩
set_option maxRecDepth 20000 in
set_option maxHeartbeats 4000000 in
theorem cet_C_settleCalls {l : Launch} {ca : Nat → ClassId} {D : va_G} {a g : Nat → Nat} (n : Nat) (u : zMu) : zMet l (zCe ca D) ceY_C_settleCalls (.code ceY_C_settleCalls prog_2_method_27_code 4 none) zrv true 1 a g [.ref (a 2)] u (ce_C_settleCalls n u) := by
  refine zMet.of rfl (Nat.le_of_ble_eq_true rfl) fun κ A hl => ?_
  subst hl
  unfold ce_C_settleCalls
  refine z_iconst (pc' := 1) (n := 0) (v := 0) (by decide) ⟨by decide +kernel, rfl⟩ ?_
  refine z_istore_n (pc' := 2) (k := 1) (i := 1) rfl (by decide) rfl ⟨by decide +kernel, rfl⟩ ?_
  refine z_lv [1, 0] (lv' := [(0, .ref (a 2)), (1, .int 0)]) rfl ?_
  exact ce_C_settleCalls_L2_t n n u 0
set_option maxRecDepth 20000 in
set_option maxHeartbeats 4000000 in
theorem ce_C_compile_J133_t {κ : zKx} {ca : Nat → ClassId} {D : va_G} {A : Nat → Prop} {c0 : Nat × Nat} {a g0 g : Nat → Nat} (n k : Nat) (p3 : Nat) (hp3 : zpr p3 = true) (u : zMu) : zJ κ (zCe ca D) prog_2_method_2_code 5 ce_RC none zrv true (2 * k + 10) A c0 a g0 g u 133 [(0, .ref (a 2))] [] (ce_C_compile_J133 n k p3 u) := by
  unfold ce_C_compile_J133
  refine z_aload_n (pc' := 134) (k := 0) (i := 0) 0 rfl rfl ⟨by decide +kernel, rfl⟩ ?_
  refine z_getG (pc' := 137) (cef_C52_2 ca D) rfl (fun _ h => ⟨zpr_n0 h, ce_adP0 h⟩) ⟨by decide +kernel, rfl⟩ fun p1 hp1 => ?_
  refine z_bipush (pc' := 139) (n := 25) (v := 25) (by decide) ⟨by decide +kernel, rfl⟩ ?_
  refine z_iconst (pc' := 140) (n := 0) (v := 0) (by decide) ⟨by decide +kernel, rfl⟩ ?_
  refine z_iconst (pc' := 141) (n := 0) (v := 0) (by decide) ⟨by decide +kernel, rfl⟩ ?_
  refine z_callVf (pc' := 144) p1 (cet_P_emit n p1 hp1 u 25 0 0) (ceG_C56 ca D) (ceO_P ca D hp1) (ce_adP0 hp1) (by omega) rfl rfl (Nat.le_of_ble_eq_true rfl) ⟨by decide +kernel, rfl⟩ (fun r2 u3 => ?_)
  refine z_pop (pc' := 145) rfl ⟨by decide +kernel, rfl⟩ ?_
  refine z_aload_n (pc' := 146) (k := 0) (i := 0) 0 rfl rfl ⟨by decide +kernel, rfl⟩ ?_
  refine z_getG (pc' := 149) (cef_C52_2 ca D) rfl (fun _ h => ⟨zpr_n0 h, ce_adP0 h⟩) ⟨by decide +kernel, rfl⟩ fun p4 hp4 => ?_
  refine z_aload_n (pc' := 150) (k := 0) (i := 0) 0 rfl rfl ⟨by decide +kernel, rfl⟩ ?_
  refine z_getI (pc' := 153) (cef_C65_2 ca D) rfl ⟨by decide +kernel, rfl⟩ ?_
  refine z_putI (pc' := 156) (cef_C77_P ca D hp4) (ce_adP0 hp4) ⟨by decide +kernel, rfl⟩ (z_letU fun u5 => ?_)
  refine z_aload_n (pc' := 157) (k := 0) (i := 0) 0 rfl rfl ⟨by decide +kernel, rfl⟩ ?_
  refine z_getI (pc' := 160) (cef_C80_2 ca D) rfl ⟨by decide +kernel, rfl⟩ ?_
  refine z_if_ne (pc' := 163) (tgt := 167) (off := 7) ⟨by decide +kernel, rfl⟩ rfl (fun h6 => ?_) (fun h6 => ?_)
  · refine z_aload_n (pc' := 164) (k := 0) (i := 0) 0 rfl rfl ⟨by decide +kernel, rfl⟩ ?_
    refine z_callVf (pc' := 167) 2 (cet_C_settleCalls n u5) (ceG_C84 ca D) (ceO_2 ca D) rfl (by omega) rfl rfl (Nat.le_of_ble_eq_true rfl) ⟨by decide +kernel, rfl⟩ (fun _ u8 => ?_)
    exact z_vret (pc' := 168) ⟨by decide +kernel, rfl⟩
  · exact z_vret (pc' := 168) ⟨by decide +kernel, rfl⟩
set_option maxRecDepth 20000 in
set_option maxHeartbeats 4000000 in
theorem ce_C_compile_L102_t {κ : zKx} {ca : Nat → ClassId} {D : va_G} {A : Nat → Prop} {c0 : Nat × Nat} {a g0 g : Nat → Nat} (n k : Nat) (p3 : Nat) (hp3 : zpr p3 = true) : ∀ (m : Nat) (u : zMu) (x4 : Int32), zJ κ (zCe ca D) prog_2_method_2_code 5 ce_RC none zrv true (2 * k + 10) A c0 a g0 g u 102 [(0, .ref (a 2)), (4, .int x4)] [] (ce_C_compile_L102 n k p3 m u x4) := by
  intro m
  induction m with
  | zero => intro u x4 r u' h; cases h
  | succ m ih =>
    intro u x4
    unfold ce_C_compile_L102
    refine z_iload (pc' := 104) (i := 4) 1 rfl ⟨by decide +kernel, rfl⟩ ?_
    refine z_sipush (pc' := 107) (n := 1500) (v := 1500) (by decide) ⟨by decide +kernel, rfl⟩ ?_
    refine z_icmp_ge (pc' := 110) (tgt := 133) (off := 26) ⟨by decide +kernel, rfl⟩ rfl (fun h1 => ?_) (fun h1 => ?_)
    · refine z_aload_n (pc' := 111) (k := 0) (i := 0) 0 rfl rfl ⟨by decide +kernel, rfl⟩ ?_
      refine z_getR (pc' := 114) (cef_C12_2 ca D) rfl (y := a 7) rfl ⟨by decide +kernel, rfl⟩ ?_
      refine z_getI (pc' := 117) (cef_C43_7 ca D) rfl ⟨by decide +kernel, rfl⟩ ?_
      refine z_sipush (pc' := 120) (n := 256) (v := 256) (by decide) ⟨by decide +kernel, rfl⟩ ?_
      refine z_icmp_eq (pc' := 123) (tgt := 133) (off := 13) ⟨by decide +kernel, rfl⟩ rfl (fun h2 => ?_) (fun h2 => ?_)
      · refine z_lv [0] (lv' := [(0, .ref (a 2))]) rfl ?_
        exact ce_C_compile_J133_t n k p3 hp3 u
      · refine z_aload_n (pc' := 124) (k := 0) (i := 0) 0 rfl rfl ⟨by decide +kernel, rfl⟩ ?_
        refine z_callVf (pc' := 127) 2 (cet_C_compileStep n k u) (ceG_C74 ca D) (ceO_2 ca D) rfl (by omega) rfl rfl (Nat.le_of_ble_eq_true rfl) ⟨by decide +kernel, rfl⟩ (fun _ u4 => ?_)
        refine z_iincN (pc' := 130) (i := 4) (n := 1) (c := 1) 1 rfl (by decide) (by decide) rfl ⟨by decide +kernel, rfl⟩ fun v5 => ?_
        refine z_goto (tgt := 102) (off := -28) (by decide +kernel) rfl ?_
        refine z_lv [1, 0] (lv' := [(0, .ref (a 2)), (4, .int v5)]) rfl ?_
        exact ih u4 v5
    · refine z_lv [0] (lv' := [(0, .ref (a 2))]) rfl ?_
      exact ce_C_compile_J133_t n k p3 hp3 u
set_option maxRecDepth 20000 in
set_option maxHeartbeats 4000000 in
theorem ce_C_compile_J75_t {κ : zKx} {ca : Nat → ClassId} {D : va_G} {A : Nat → Prop} {c0 : Nat × Nat} {a g0 g : Nat → Nat} (n k : Nat) (p3 : Nat) (hp3 : zpr p3 = true) (u : zMu) : zJ κ (zCe ca D) prog_2_method_2_code 5 ce_RC none zrv true (2 * k + 10) A c0 a g0 g u 75 [(0, .ref (a 2))] [] (ce_C_compile_J75 n k p3 u) := by
  unfold ce_C_compile_J75
  refine z_aload_n (pc' := 76) (k := 0) (i := 0) 0 rfl rfl ⟨by decide +kernel, rfl⟩ ?_
  refine z_iconst (pc' := 77) (n := (-1)) (v := (-1)) (by decide) ⟨by decide +kernel, rfl⟩ ?_
  refine z_putI (pc' := 80) (cef_C62_2 ca D) rfl ⟨by decide +kernel, rfl⟩ (z_letU fun u1 => ?_)
  refine z_aload_n (pc' := 81) (k := 0) (i := 0) 0 rfl rfl ⟨by decide +kernel, rfl⟩ ?_
  refine z_iconst (pc' := 82) (n := 0) (v := 0) (by decide) ⟨by decide +kernel, rfl⟩ ?_
  refine z_putI (pc' := 85) (cef_C65_2 ca D) rfl ⟨by decide +kernel, rfl⟩ (z_letU fun u2 => ?_)
  refine z_aload_n (pc' := 86) (k := 0) (i := 0) 0 rfl rfl ⟨by decide +kernel, rfl⟩ ?_
  refine z_getG (pc' := 89) (cef_C52_2 ca D) rfl (fun _ h => ⟨zpr_n0 h, ce_adP0 h⟩) ⟨by decide +kernel, rfl⟩ fun p4 hp4 => ?_
  refine z_aload_n (pc' := 90) (k := 0) (i := 0) 0 rfl rfl ⟨by decide +kernel, rfl⟩ ?_
  refine z_getG (pc' := 93) (cef_C52_2 ca D) rfl (fun _ h => ⟨zpr_n0 h, ce_adP0 h⟩) ⟨by decide +kernel, rfl⟩ fun p5 hp5 => ?_
  refine z_getI (pc' := 96) (cef_C68_P ca D hp5) (ce_adP0 hp5) ⟨by decide +kernel, rfl⟩ ?_
  refine z_putI (pc' := 99) (cef_C71_P ca D hp4) (ce_adP0 hp4) ⟨by decide +kernel, rfl⟩ (z_letU fun u6 => ?_)
  refine z_iconst (pc' := 100) (n := 0) (v := 0) (by decide) ⟨by decide +kernel, rfl⟩ ?_
  refine z_istore (pc' := 102) (i := 4) (by decide) rfl ⟨by decide +kernel, rfl⟩ ?_
  refine z_lv [1, 0] (lv' := [(0, .ref (a 2)), (4, .int 0)]) rfl ?_
  exact ce_C_compile_L102_t n k p3 hp3 n u6 0
set_option maxRecDepth 20000 in
set_option maxHeartbeats 4000000 in
theorem ce_C_compile_L18_t {κ : zKx} {ca : Nat → ClassId} {D : va_G} {A : Nat → Prop} {c0 : Nat × Nat} {a g0 g : Nat → Nat} (n k : Nat) (p3 : Nat) (hp3 : zpr p3 = true) : ∀ (m : Nat) (u : zMu) (x4 : Int32), zJ κ (zCe ca D) prog_2_method_2_code 5 ce_RC none zrv true (2 * k + 10) A c0 a g0 g u 18 [(0, .ref (a 2)), (4, .int x4)] [] (ce_C_compile_L18 n k p3 m u x4) := by
  intro m
  induction m with
  | zero => intro u x4 r u' h; cases h
  | succ m ih =>
    intro u x4
    unfold ce_C_compile_L18
    refine z_iload (pc' := 20) (i := 4) 1 rfl ⟨by decide +kernel, rfl⟩ ?_
    refine z_bipush (pc' := 22) (n := 8) (v := 8) (by decide) ⟨by decide +kernel, rfl⟩ ?_
    refine z_icmp_gt (pc' := 25) (tgt := 75) (off := 53) ⟨by decide +kernel, rfl⟩ rfl (fun h1 => ?_) (fun h1 => ?_)
    · refine z_lv [0] (lv' := [(0, .ref (a 2))]) rfl ?_
      exact ce_C_compile_J75_t n k p3 hp3 u
    · refine z_aload_n (pc' := 26) (k := 0) (i := 0) 0 rfl rfl ⟨by decide +kernel, rfl⟩ ?_
      refine z_getR (pc' := 29) (cef_C12_2 ca D) rfl (y := a 7) rfl ⟨by decide +kernel, rfl⟩ ?_
      refine z_getI (pc' := 32) (cef_C43_7 ca D) rfl ⟨by decide +kernel, rfl⟩ ?_
      refine z_sipush (pc' := 35) (n := 300) (v := 300) (by decide) ⟨by decide +kernel, rfl⟩ ?_
      refine z_icmp_ne (pc' := 38) (tgt := 75) (off := 40) ⟨by decide +kernel, rfl⟩ rfl (fun h2 => ?_) (fun h2 => ?_)
      · refine z_aload_n (pc' := 39) (k := 0) (i := 0) 0 rfl rfl ⟨by decide +kernel, rfl⟩ ?_
        refine z_callVf (pc' := 42) 2 (cet_C_compileHead n u) (ceG_C46 ca D) (ceO_2 ca D) rfl (by omega) rfl rfl (Nat.le_of_ble_eq_true rfl) ⟨by decide +kernel, rfl⟩ (fun _ u4 => ?_)
        refine z_aload_n (pc' := 43) (k := 0) (i := 0) 0 rfl rfl ⟨by decide +kernel, rfl⟩ ?_
        refine z_callVf (pc' := 46) 2 (cet_C_compileBlock n k u4) (ceG_C49 ca D) (ceO_2 ca D) rfl (by omega) rfl rfl (Nat.le_of_ble_eq_true rfl) ⟨by decide +kernel, rfl⟩ (fun _ u6 => ?_)
        refine z_aload_n (pc' := 47) (k := 0) (i := 0) 0 rfl rfl ⟨by decide +kernel, rfl⟩ ?_
        refine z_getG (pc' := 50) (cef_C52_2 ca D) rfl (fun _ h => ⟨zpr_n0 h, ce_adP0 h⟩) ⟨by decide +kernel, rfl⟩ fun p7 hp7 => ?_
        refine z_iconst (pc' := 51) (n := 2) (v := 2) (by decide) ⟨by decide +kernel, rfl⟩ ?_
        refine z_iconst (pc' := 52) (n := 0) (v := 0) (by decide) ⟨by decide +kernel, rfl⟩ ?_
        refine z_iconst (pc' := 53) (n := 0) (v := 0) (by decide) ⟨by decide +kernel, rfl⟩ ?_
        refine z_callVf (pc' := 56) p7 (cet_P_emit n p7 hp7 u6 2 0 0) (ceG_C56 ca D) (ceO_P ca D hp7) (ce_adP0 hp7) (by omega) rfl rfl (Nat.le_of_ble_eq_true rfl) ⟨by decide +kernel, rfl⟩ (fun r8 u9 => ?_)
        refine z_pop (pc' := 57) rfl ⟨by decide +kernel, rfl⟩ ?_
        refine z_aload_n (pc' := 58) (k := 0) (i := 0) 0 rfl rfl ⟨by decide +kernel, rfl⟩ ?_
        refine z_getG (pc' := 61) (cef_C52_2 ca D) rfl (fun _ h => ⟨zpr_n0 h, ce_adP0 h⟩) ⟨by decide +kernel, rfl⟩ fun p10 hp10 => ?_
        refine z_bipush (pc' := 63) (n := 21) (v := 21) (by decide) ⟨by decide +kernel, rfl⟩ ?_
        refine z_iconst (pc' := 64) (n := 0) (v := 0) (by decide) ⟨by decide +kernel, rfl⟩ ?_
        refine z_iconst (pc' := 65) (n := 0) (v := 0) (by decide) ⟨by decide +kernel, rfl⟩ ?_
        refine z_callVf (pc' := 68) p10 (cet_P_emit n p10 hp10 u9 21 0 0) (ceG_C56 ca D) (ceO_P ca D hp10) (ce_adP0 hp10) (by omega) rfl rfl (Nat.le_of_ble_eq_true rfl) ⟨by decide +kernel, rfl⟩ (fun r11 u12 => ?_)
        refine z_pop (pc' := 69) rfl ⟨by decide +kernel, rfl⟩ ?_
        refine z_iincN (pc' := 72) (i := 4) (n := 1) (c := 1) 1 rfl (by decide) (by decide) rfl ⟨by decide +kernel, rfl⟩ fun v13 => ?_
        refine z_goto (tgt := 18) (off := -54) (by decide +kernel) rfl ?_
        refine z_lv [1, 0] (lv' := [(0, .ref (a 2)), (4, .int v13)]) rfl ?_
        exact ih u12 v13
      · refine z_lv [0] (lv' := [(0, .ref (a 2))]) rfl ?_
        exact ce_C_compile_J75_t n k p3 hp3 u
set_option maxRecDepth 20000 in
set_option maxHeartbeats 4000000 in
theorem cet_C_compile {l : Launch} {ca : Nat → ClassId} {D : va_G} {a g : Nat → Nat} (n k : Nat) (p3 : Nat) (hp3 : zpr p3 = true) (u : zMu) (x2 : Int32) : zMet l (zCe ca D) ceY_C_compile (.code ceY_C_compile prog_2_method_2_code 5 none) zrv true (2 * k + 10) a g [.ref (a 2), .ref (a 1), .int x2, .ref (a p3)] u (ce_C_compile n k p3 u x2) := by
  refine zMet.of rfl (Nat.le_of_ble_eq_true rfl) fun κ A hl => ?_
  subst hl
  unfold ce_C_compile
  refine z_aload_n (pc' := 1) (k := 0) (i := 0) 0 rfl rfl ⟨by decide +kernel, rfl⟩ ?_
  refine z_iload_n (pc' := 2) (k := 2) (i := 2) 2 rfl rfl ⟨by decide +kernel, rfl⟩ ?_
  refine z_aload_n (pc' := 3) (k := 3) (i := 3) 3 rfl rfl ⟨by decide +kernel, rfl⟩ ?_
  refine z_callVf (pc' := 6) 2 (cet_C_begin n p3 hp3 u x2) (ceG_C36 ca D) (ceO_2 ca D) rfl (by omega) rfl rfl (Nat.le_of_ble_eq_true rfl) ⟨by decide +kernel, rfl⟩ (fun _ u2 => ?_)
  refine z_aload_n (pc' := 7) (k := 0) (i := 0) 0 rfl rfl ⟨by decide +kernel, rfl⟩ ?_
  refine z_getR (pc' := 10) (cef_C12_2 ca D) rfl (y := a 7) rfl ⟨by decide +kernel, rfl⟩ ?_
  refine z_aload_n (pc' := 11) (k := 1) (i := 1) 1 rfl rfl ⟨by decide +kernel, rfl⟩ ?_
  refine z_iload_n (pc' := 12) (k := 2) (i := 2) 2 rfl rfl ⟨by decide +kernel, rfl⟩ ?_
  refine z_callVf (pc' := 15) 7 (cet_X_begin n u2 x2) (ceG_C40 ca D) (ceO_7 ca D) rfl (by omega) rfl rfl (Nat.le_of_ble_eq_true rfl) ⟨by decide +kernel, rfl⟩ (fun _ u4 => ?_)
  refine z_iconst (pc' := 16) (n := 0) (v := 0) (by decide) ⟨by decide +kernel, rfl⟩ ?_
  refine z_istore (pc' := 18) (i := 4) (by decide) rfl ⟨by decide +kernel, rfl⟩ ?_
  refine z_lv [1, 0] (lv' := [(0, .ref (a 2)), (4, .int 0)]) rfl ?_
  exact ce_C_compile_L18_t n k p3 hp3 n u4 0
set_option maxRecDepth 20000 in
set_option maxHeartbeats 4000000 in
theorem cet_F_clear {l : Launch} {ca : Nat → ClassId} {D : va_G} {a g : Nat → Nat} (n : Nat) (u : zMu) : zMet l (zCe ca D) ceY_F_clear (.code ceY_F_clear prog_3_method_2_code 1 none) zrv true 2 a g [.ref (a 59)] u (ce_F_clear n u) := by
  refine zMet.of rfl (Nat.le_of_ble_eq_true rfl) fun κ A hl => ?_
  subst hl
  unfold ce_F_clear
  refine z_aload_n (pc' := 1) (k := 0) (i := 0) 0 rfl rfl ⟨by decide +kernel, rfl⟩ ?_
  refine z_getR (pc' := 4) (cef_F9_59 ca D) rfl (y := a 60) rfl ⟨by decide +kernel, rfl⟩ ?_
  refine z_iconst (pc' := 5) (n := 0) (v := 0) (by decide) ⟨by decide +kernel, rfl⟩ ?_
  refine z_callXf (pc' := 8) (cet_fill n 60 (ce_fa_60 ca D) u 0) (ceG_F30 ca D) (by omega) rfl rfl (Nat.le_of_ble_eq_true rfl) ⟨by decide +kernel, rfl⟩ (fun _ u1 => ?_)
  refine z_aload_n (pc' := 9) (k := 0) (i := 0) 0 rfl rfl ⟨by decide +kernel, rfl⟩ ?_
  refine z_getR (pc' := 12) (cef_F15_59 ca D) rfl (y := a 61) rfl ⟨by decide +kernel, rfl⟩ ?_
  refine z_iconst (pc' := 13) (n := 0) (v := 0) (by decide) ⟨by decide +kernel, rfl⟩ ?_
  refine z_callXf (pc' := 16) (cet_fill n 61 (ce_fa_61 ca D) u1 0) (ceG_F30 ca D) (by omega) rfl rfl (Nat.le_of_ble_eq_true rfl) ⟨by decide +kernel, rfl⟩ (fun _ u2 => ?_)
  refine z_aload_n (pc' := 17) (k := 0) (i := 0) 0 rfl rfl ⟨by decide +kernel, rfl⟩ ?_
  refine z_getR (pc' := 20) (cef_F18_59 ca D) rfl (y := a 62) rfl ⟨by decide +kernel, rfl⟩ ?_
  refine z_iconst (pc' := 21) (n := 0) (v := 0) (by decide) ⟨by decide +kernel, rfl⟩ ?_
  refine z_callXf (pc' := 24) (cet_fill n 62 (ce_fa_62 ca D) u2 0) (ceG_F30 ca D) (by omega) rfl rfl (Nat.le_of_ble_eq_true rfl) ⟨by decide +kernel, rfl⟩ (fun _ u3 => ?_)
  refine z_aload_n (pc' := 25) (k := 0) (i := 0) 0 rfl rfl ⟨by decide +kernel, rfl⟩ ?_
  refine z_getR (pc' := 28) (cef_F21_59 ca D) rfl (y := a 63) rfl ⟨by decide +kernel, rfl⟩ ?_
  refine z_iconst (pc' := 29) (n := 0) (v := 0) (by decide) ⟨by decide +kernel, rfl⟩ ?_
  refine z_callXf (pc' := 32) (cet_fill n 63 (ce_fa_63 ca D) u3 0) (ceG_F30 ca D) (by omega) rfl rfl (Nat.le_of_ble_eq_true rfl) ⟨by decide +kernel, rfl⟩ (fun _ u4 => ?_)
  refine z_aload_n (pc' := 33) (k := 0) (i := 0) 0 rfl rfl ⟨by decide +kernel, rfl⟩ ?_
  refine z_getR (pc' := 36) (cef_F24_59 ca D) rfl (y := a 64) rfl ⟨by decide +kernel, rfl⟩ ?_
  refine z_iconst (pc' := 37) (n := 0) (v := 0) (by decide) ⟨by decide +kernel, rfl⟩ ?_
  refine z_callXf (pc' := 40) (cet_fill n 64 (ce_fa_64 ca D) u4 0) (ceG_F30 ca D) (by omega) rfl rfl (Nat.le_of_ble_eq_true rfl) ⟨by decide +kernel, rfl⟩ (fun _ u5 => ?_)
  refine z_aload_n (pc' := 41) (k := 0) (i := 0) 0 rfl rfl ⟨by decide +kernel, rfl⟩ ?_
  refine z_getR (pc' := 44) (cef_F27_59 ca D) rfl (y := a 65) rfl ⟨by decide +kernel, rfl⟩ ?_
  refine z_iconst (pc' := 45) (n := (-1)) (v := (-1)) (by decide) ⟨by decide +kernel, rfl⟩ ?_
  refine z_callXf (pc' := 48) (cet_fill n 65 (ce_fa_65 ca D) u5 (-1)) (ceG_F30 ca D) (by omega) rfl rfl (Nat.le_of_ble_eq_true rfl) ⟨by decide +kernel, rfl⟩ (fun _ u6 => ?_)
  refine z_aload_n (pc' := 49) (k := 0) (i := 0) 0 rfl rfl ⟨by decide +kernel, rfl⟩ ?_
  refine z_iconst (pc' := 50) (n := 0) (v := 0) (by decide) ⟨by decide +kernel, rfl⟩ ?_
  refine z_putI (pc' := 53) (cef_F36_59 ca D) rfl ⟨by decide +kernel, rfl⟩ (z_letU fun u7 => ?_)
  refine z_aload_n (pc' := 54) (k := 0) (i := 0) 0 rfl rfl ⟨by decide +kernel, rfl⟩ ?_
  refine z_iconst (pc' := 55) (n := 0) (v := 0) (by decide) ⟨by decide +kernel, rfl⟩ ?_
  refine z_putI (pc' := 58) (cef_F40_59 ca D) rfl ⟨by decide +kernel, rfl⟩ (z_letU fun u8 => ?_)
  exact z_vret (pc' := 59) ⟨by decide +kernel, rfl⟩
set_option maxRecDepth 20000 in
set_option maxHeartbeats 4000000 in
theorem cet_F_isCold {l : Launch} {ca : Nat → ClassId} {D : va_G} {a g : Nat → Nat} (n : Nat) (u : zMu) (x1 : Int32) : zMet l (zCe ca D) ceY_F_isCold (.code ceY_F_isCold prog_3_method_3_code 2 (some .boolean)) zri true 0 a g [.ref (a 59), .int x1] u (ce_F_isCold n u x1) := by
  refine zMet.of rfl (Nat.le_of_ble_eq_true rfl) fun κ A hl => ?_
  subst hl
  unfold ce_F_isCold
  refine z_aload_n (pc' := 1) (k := 0) (i := 0) 0 rfl rfl ⟨by decide +kernel, rfl⟩ ?_
  refine z_getR (pc' := 4) (cef_F24_59 ca D) rfl (y := a 64) rfl ⟨by decide +kernel, rfl⟩ ?_
  refine z_iload_n (pc' := 5) (k := 1) (i := 1) 1 rfl rfl ⟨by decide +kernel, rfl⟩ ?_
  refine z_iald (pc' := 6) 64 rfl (zlt rfl) rfl rfl ⟨by decide +kernel, rfl⟩ ?_
  refine z_iconst (pc' := 7) (n := 3) (v := 3) (by decide) ⟨by decide +kernel, rfl⟩ ?_
  refine z_icmp_lt (pc' := 10) (tgt := 14) (off := 7) ⟨by decide +kernel, rfl⟩ rfl (fun h1 => ?_) (fun h1 => ?_)
  · refine z_iconst (pc' := 15) (n := 0) (v := 0) (by decide) ⟨by decide +kernel, rfl⟩ ?_
    exact z_zret (pc' := 16) (by decide) ⟨by decide +kernel, rfl⟩
  · refine z_iconst (pc' := 11) (n := 1) (v := 1) (by decide) ⟨by decide +kernel, rfl⟩ ?_
    refine z_goto (tgt := 15) (off := 4) (by decide +kernel) rfl ?_
    exact z_zret (pc' := 16) (by decide) ⟨by decide +kernel, rfl⟩
set_option maxRecDepth 20000 in
set_option maxHeartbeats 4000000 in
theorem cet_F_makes {l : Launch} {ca : Nat → ClassId} {D : va_G} {a g : Nat → Nat} (n : Nat) (u : zMu) (x1 : Int32) : zMet l (zCe ca D) ceY_F_makes (.code ceY_F_makes prog_3_method_4_code 2 (some .boolean)) zri true 1 a g [.ref (a 59), .int x1] u (ce_F_makes n u x1) := by
  refine zMet.of rfl (Nat.le_of_ble_eq_true rfl) fun κ A hl => ?_
  subst hl
  unfold ce_F_makes
  refine z_aload_n (pc' := 1) (k := 0) (i := 0) 0 rfl rfl ⟨by decide +kernel, rfl⟩ ?_
  refine z_getR (pc' := 4) (cef_F9_59 ca D) rfl (y := a 60) rfl ⟨by decide +kernel, rfl⟩ ?_
  refine z_iload_n (pc' := 5) (k := 1) (i := 1) 1 rfl rfl ⟨by decide +kernel, rfl⟩ ?_
  refine z_dup2_11 (pc' := 6) rfl rfl ⟨by decide +kernel, rfl⟩ ?_
  refine z_iald (pc' := 7) 60 rfl (zlt rfl) rfl rfl ⟨by decide +kernel, rfl⟩ ?_
  refine z_iconst (pc' := 8) (n := 1) (v := 1) (by decide) ⟨by decide +kernel, rfl⟩ ?_
  refine z_iadd (pc' := 9) ⟨by decide +kernel, rfl⟩ ?_
  refine z_iast (pc' := 10) 60 rfl (zlt rfl) rfl rfl ⟨by decide +kernel, rfl⟩ (z_letU fun u1 => ?_)
  refine z_aload_n (pc' := 11) (k := 0) (i := 0) 0 rfl rfl ⟨by decide +kernel, rfl⟩ ?_
  refine z_getR (pc' := 14) (cef_F15_59 ca D) rfl (y := a 61) rfl ⟨by decide +kernel, rfl⟩ ?_
  refine z_iload_n (pc' := 15) (k := 1) (i := 1) 1 rfl rfl ⟨by decide +kernel, rfl⟩ ?_
  refine z_dup2_11 (pc' := 16) rfl rfl ⟨by decide +kernel, rfl⟩ ?_
  refine z_iald (pc' := 17) 61 rfl (zlt rfl) rfl rfl ⟨by decide +kernel, rfl⟩ ?_
  refine z_iconst (pc' := 18) (n := 1) (v := 1) (by decide) ⟨by decide +kernel, rfl⟩ ?_
  refine z_iadd (pc' := 19) ⟨by decide +kernel, rfl⟩ ?_
  refine z_iast (pc' := 20) 61 rfl (zlt rfl) rfl rfl ⟨by decide +kernel, rfl⟩ (z_letU fun u2 => ?_)
  refine z_aload_n (pc' := 21) (k := 0) (i := 0) 0 rfl rfl ⟨by decide +kernel, rfl⟩ ?_
  refine z_getR (pc' := 24) (cef_F15_59 ca D) rfl (y := a 61) rfl ⟨by decide +kernel, rfl⟩ ?_
  refine z_iload_n (pc' := 25) (k := 1) (i := 1) 1 rfl rfl ⟨by decide +kernel, rfl⟩ ?_
  refine z_iald (pc' := 26) 61 rfl (zlt rfl) rfl rfl ⟨by decide +kernel, rfl⟩ ?_
  refine z_iconst (pc' := 27) (n := 4) (v := 4) (by decide) ⟨by decide +kernel, rfl⟩ ?_
  refine z_icmp_ne (pc' := 30) (tgt := 47) (off := 20) ⟨by decide +kernel, rfl⟩ rfl (fun h3 => ?_) (fun h3 => ?_)
  · refine z_aload_n (pc' := 31) (k := 0) (i := 0) 0 rfl rfl ⟨by decide +kernel, rfl⟩ ?_
    refine z_getR (pc' := 34) (cef_F18_59 ca D) rfl (y := a 62) rfl ⟨by decide +kernel, rfl⟩ ?_
    refine z_iload_n (pc' := 35) (k := 1) (i := 1) 1 rfl rfl ⟨by decide +kernel, rfl⟩ ?_
    refine z_iald (pc' := 36) 62 rfl (zlt rfl) rfl rfl ⟨by decide +kernel, rfl⟩ ?_
    refine z_if_ne (pc' := 39) (tgt := 47) (off := 11) ⟨by decide +kernel, rfl⟩ rfl (fun h4 => ?_) (fun h4 => ?_)
    · refine z_aload_n (pc' := 40) (k := 0) (i := 0) 0 rfl rfl ⟨by decide +kernel, rfl⟩ ?_
      refine z_iload_n (pc' := 41) (k := 1) (i := 1) 1 rfl rfl ⟨by decide +kernel, rfl⟩ ?_
      refine z_callVf (pc' := 44) 59 (cet_F_isCold n u2 x1) (ceG_F43 ca D) (ceO_59 ca D) rfl (by omega) rfl rfl (Nat.le_of_ble_eq_true rfl) ⟨by decide +kernel, rfl⟩ (fun r5 u6 => ?_)
      refine z_if_eq (pc' := 47) (tgt := 49) (off := 5) ⟨by decide +kernel, rfl⟩ rfl (fun h7 => ?_) (fun h7 => ?_)
      · refine z_aload_n (pc' := 50) (k := 0) (i := 0) 0 rfl rfl ⟨by decide +kernel, rfl⟩ ?_
        refine z_getR (pc' := 53) (cef_F18_59 ca D) rfl (y := a 62) rfl ⟨by decide +kernel, rfl⟩ ?_
        refine z_iload_n (pc' := 54) (k := 1) (i := 1) 1 rfl rfl ⟨by decide +kernel, rfl⟩ ?_
        refine z_iconst (pc' := 55) (n := 1) (v := 1) (by decide) ⟨by decide +kernel, rfl⟩ ?_
        refine z_iast (pc' := 56) 62 rfl (zlt rfl) rfl rfl ⟨by decide +kernel, rfl⟩ (z_letU fun u8 => ?_)
        refine z_aload_n (pc' := 57) (k := 0) (i := 0) 0 rfl rfl ⟨by decide +kernel, rfl⟩ ?_
        refine z_getR (pc' := 60) (cef_F21_59 ca D) rfl (y := a 63) rfl ⟨by decide +kernel, rfl⟩ ?_
        refine z_iload_n (pc' := 61) (k := 1) (i := 1) 1 rfl rfl ⟨by decide +kernel, rfl⟩ ?_
        refine z_dup2_11 (pc' := 62) rfl rfl ⟨by decide +kernel, rfl⟩ ?_
        refine z_iald (pc' := 63) 63 rfl (zlt rfl) rfl rfl ⟨by decide +kernel, rfl⟩ ?_
        refine z_iconst (pc' := 64) (n := 1) (v := 1) (by decide) ⟨by decide +kernel, rfl⟩ ?_
        refine z_iadd (pc' := 65) ⟨by decide +kernel, rfl⟩ ?_
        refine z_iast (pc' := 66) 63 rfl (zlt rfl) rfl rfl ⟨by decide +kernel, rfl⟩ (z_letU fun u9 => ?_)
        refine z_aload_n (pc' := 67) (k := 0) (i := 0) 0 rfl rfl ⟨by decide +kernel, rfl⟩ ?_
        refine z_dup (pc' := 68) rfl ⟨by decide +kernel, rfl⟩ ?_
        refine z_getI (pc' := 71) (cef_F36_59 ca D) rfl ⟨by decide +kernel, rfl⟩ ?_
        refine z_iconst (pc' := 72) (n := 1) (v := 1) (by decide) ⟨by decide +kernel, rfl⟩ ?_
        refine z_iadd (pc' := 73) ⟨by decide +kernel, rfl⟩ ?_
        refine z_putI (pc' := 76) (cef_F36_59 ca D) rfl ⟨by decide +kernel, rfl⟩ (z_letU fun u10 => ?_)
        refine z_iconst (pc' := 77) (n := 1) (v := 1) (by decide) ⟨by decide +kernel, rfl⟩ ?_
        exact z_zret (pc' := 78) (by decide) ⟨by decide +kernel, rfl⟩
      · refine z_iconst (pc' := 48) (n := 0) (v := 0) (by decide) ⟨by decide +kernel, rfl⟩ ?_
        exact z_zret (pc' := 49) (by decide) ⟨by decide +kernel, rfl⟩
    · refine z_iconst (pc' := 48) (n := 0) (v := 0) (by decide) ⟨by decide +kernel, rfl⟩ ?_
      exact z_zret (pc' := 49) (by decide) ⟨by decide +kernel, rfl⟩
  · refine z_iconst (pc' := 48) (n := 0) (v := 0) (by decide) ⟨by decide +kernel, rfl⟩ ?_
    exact z_zret (pc' := 49) (by decide) ⟨by decide +kernel, rfl⟩
set_option maxRecDepth 20000 in
set_option maxHeartbeats 4000000 in
theorem cet_F_leave {l : Launch} {ca : Nat → ClassId} {D : va_G} {a g : Nat → Nat} (n : Nat) (u : zMu) (x1 : Int32) (x2 : Int32) : zMet l (zCe ca D) ceY_F_leave (.code ceY_F_leave prog_3_method_5_code 3 none) zrv true 0 a g [.ref (a 59), .int x1, .int x2] u (ce_F_leave n u x1 x2) := by
  refine zMet.of rfl (Nat.le_of_ble_eq_true rfl) fun κ A hl => ?_
  subst hl
  unfold ce_F_leave
  refine z_aload_n (pc' := 1) (k := 0) (i := 0) 0 rfl rfl ⟨by decide +kernel, rfl⟩ ?_
  refine z_getR (pc' := 4) (cef_F18_59 ca D) rfl (y := a 62) rfl ⟨by decide +kernel, rfl⟩ ?_
  refine z_iload_n (pc' := 5) (k := 1) (i := 1) 1 rfl rfl ⟨by decide +kernel, rfl⟩ ?_
  refine z_iconst (pc' := 6) (n := 0) (v := 0) (by decide) ⟨by decide +kernel, rfl⟩ ?_
  refine z_iast (pc' := 7) 62 rfl (zlt rfl) rfl rfl ⟨by decide +kernel, rfl⟩ (z_letU fun u1 => ?_)
  refine z_aload_n (pc' := 8) (k := 0) (i := 0) 0 rfl rfl ⟨by decide +kernel, rfl⟩ ?_
  refine z_getR (pc' := 11) (cef_F15_59 ca D) rfl (y := a 61) rfl ⟨by decide +kernel, rfl⟩ ?_
  refine z_iload_n (pc' := 12) (k := 1) (i := 1) 1 rfl rfl ⟨by decide +kernel, rfl⟩ ?_
  refine z_iconst (pc' := 13) (n := 0) (v := 0) (by decide) ⟨by decide +kernel, rfl⟩ ?_
  refine z_iast (pc' := 14) 61 rfl (zlt rfl) rfl rfl ⟨by decide +kernel, rfl⟩ (z_letU fun u2 => ?_)
  refine z_aload_n (pc' := 15) (k := 0) (i := 0) 0 rfl rfl ⟨by decide +kernel, rfl⟩ ?_
  refine z_getR (pc' := 18) (cef_F24_59 ca D) rfl (y := a 64) rfl ⟨by decide +kernel, rfl⟩ ?_
  refine z_iload_n (pc' := 19) (k := 1) (i := 1) 1 rfl rfl ⟨by decide +kernel, rfl⟩ ?_
  refine z_dup2_11 (pc' := 20) rfl rfl ⟨by decide +kernel, rfl⟩ ?_
  refine z_iald (pc' := 21) 64 rfl (zlt rfl) rfl rfl ⟨by decide +kernel, rfl⟩ ?_
  refine z_iconst (pc' := 22) (n := 1) (v := 1) (by decide) ⟨by decide +kernel, rfl⟩ ?_
  refine z_iadd (pc' := 23) ⟨by decide +kernel, rfl⟩ ?_
  refine z_iast (pc' := 24) 64 rfl (zlt rfl) rfl rfl ⟨by decide +kernel, rfl⟩ (z_letU fun u3 => ?_)
  refine z_aload_n (pc' := 25) (k := 0) (i := 0) 0 rfl rfl ⟨by decide +kernel, rfl⟩ ?_
  refine z_getR (pc' := 28) (cef_F27_59 ca D) rfl (y := a 65) rfl ⟨by decide +kernel, rfl⟩ ?_
  refine z_iload_n (pc' := 29) (k := 1) (i := 1) 1 rfl rfl ⟨by decide +kernel, rfl⟩ ?_
  refine z_iload_n (pc' := 30) (k := 2) (i := 2) 2 rfl rfl ⟨by decide +kernel, rfl⟩ ?_
  refine z_iast (pc' := 31) 65 rfl (zlt rfl) rfl rfl ⟨by decide +kernel, rfl⟩ (z_letU fun u4 => ?_)
  refine z_aload_n (pc' := 32) (k := 0) (i := 0) 0 rfl rfl ⟨by decide +kernel, rfl⟩ ?_
  refine z_dup (pc' := 33) rfl ⟨by decide +kernel, rfl⟩ ?_
  refine z_getI (pc' := 36) (cef_F40_59 ca D) rfl ⟨by decide +kernel, rfl⟩ ?_
  refine z_iconst (pc' := 37) (n := 1) (v := 1) (by decide) ⟨by decide +kernel, rfl⟩ ?_
  refine z_iadd (pc' := 38) ⟨by decide +kernel, rfl⟩ ?_
  refine z_putI (pc' := 41) (cef_F40_59 ca D) rfl ⟨by decide +kernel, rfl⟩ (z_letU fun u5 => ?_)
  exact z_vret (pc' := 42) ⟨by decide +kernel, rfl⟩
set_option maxRecDepth 20000 in
set_option maxHeartbeats 4000000 in
theorem cet_S_clear {l : Launch} {ca : Nat → ClassId} {D : va_G} {a g : Nat → Nat} (n : Nat) (u : zMu) : zMet l (zCe ca D) ceY_S_clear (.code ceY_S_clear prog_9_method_2_code 1 none) zrv true 2 a g [.ref (a 43)] u (ce_S_clear n u) := by
  refine zMet.of rfl (Nat.le_of_ble_eq_true rfl) fun κ A hl => ?_
  subst hl
  unfold ce_S_clear
  refine z_aload_n (pc' := 1) (k := 0) (i := 0) 0 rfl rfl ⟨by decide +kernel, rfl⟩ ?_
  refine z_getR (pc' := 4) (cef_S9_43 ca D) rfl (y := a 44) rfl ⟨by decide +kernel, rfl⟩ ?_
  refine z_iconst (pc' := 5) (n := (-1)) (v := (-1)) (by decide) ⟨by decide +kernel, rfl⟩ ?_
  refine z_callXf (pc' := 8) (cet_fill n 44 (ce_fa_44 ca D) u (-1)) (ceG_S37 ca D) (by omega) rfl rfl (Nat.le_of_ble_eq_true rfl) ⟨by decide +kernel, rfl⟩ (fun _ u1 => ?_)
  refine z_aload_n (pc' := 9) (k := 0) (i := 0) 0 rfl rfl ⟨by decide +kernel, rfl⟩ ?_
  refine z_iconst (pc' := 10) (n := 0) (v := 0) (by decide) ⟨by decide +kernel, rfl⟩ ?_
  refine z_putI (pc' := 13) (cef_S43_43 ca D) rfl ⟨by decide +kernel, rfl⟩ (z_letU fun u2 => ?_)
  exact z_vret (pc' := 14) ⟨by decide +kernel, rfl⟩
set_option maxRecDepth 20000 in
set_option maxHeartbeats 4000000 in
theorem cet_H_clear {l : Launch} {ca : Nat → ClassId} {D : va_G} {a g : Nat → Nat} (n : Nat) (u : zMu) : zMet l (zCe ca D) ceY_H_clear (.code ceY_H_clear prog_4_method_2_code 1 none) zrv true 3 a g [.ref (a 36)] u (ce_H_clear n u) := by
  refine zMet.of rfl (Nat.le_of_ble_eq_true rfl) fun κ A hl => ?_
  subst hl
  unfold ce_H_clear
  refine z_aload_n (pc' := 1) (k := 0) (i := 0) 0 rfl rfl ⟨by decide +kernel, rfl⟩ ?_
  refine z_getR (pc' := 4) (cef_H12_36 ca D) rfl (y := a 43) rfl ⟨by decide +kernel, rfl⟩ ?_
  refine z_callVf (pc' := 7) 43 (cet_S_clear n u) (ceG_H53 ca D) (ceO_43 ca D) rfl (by omega) rfl rfl (Nat.le_of_ble_eq_true rfl) ⟨by decide +kernel, rfl⟩ (fun _ u2 => ?_)
  refine z_aload_n (pc' := 8) (k := 0) (i := 0) 0 rfl rfl ⟨by decide +kernel, rfl⟩ ?_
  refine z_iconst (pc' := 9) (n := 0) (v := 0) (by decide) ⟨by decide +kernel, rfl⟩ ?_
  refine z_putI (pc' := 12) (cef_H56_36 ca D) rfl ⟨by decide +kernel, rfl⟩ (z_letU fun u3 => ?_)
  refine z_aload_n (pc' := 13) (k := 0) (i := 0) 0 rfl rfl ⟨by decide +kernel, rfl⟩ ?_
  refine z_iconst (pc' := 14) (n := 0) (v := 0) (by decide) ⟨by decide +kernel, rfl⟩ ?_
  refine z_putI (pc' := 17) (cef_H60_36 ca D) rfl ⟨by decide +kernel, rfl⟩ (z_letU fun u4 => ?_)
  refine z_aload_n (pc' := 18) (k := 0) (i := 0) 0 rfl rfl ⟨by decide +kernel, rfl⟩ ?_
  refine z_iconst (pc' := 19) (n := 0) (v := 0) (by decide) ⟨by decide +kernel, rfl⟩ ?_
  refine z_putI (pc' := 22) (cef_H63_36 ca D) rfl ⟨by decide +kernel, rfl⟩ (z_letU fun u5 => ?_)
  refine z_aload_n (pc' := 23) (k := 0) (i := 0) 0 rfl rfl ⟨by decide +kernel, rfl⟩ ?_
  refine z_iconst (pc' := 24) (n := (-1)) (v := (-1)) (by decide) ⟨by decide +kernel, rfl⟩ ?_
  refine z_putI (pc' := 27) (cef_H66_36 ca D) rfl ⟨by decide +kernel, rfl⟩ (z_letU fun u6 => ?_)
  exact z_vret (pc' := 28) ⟨by decide +kernel, rfl⟩
set_option maxRecDepth 20000 in
set_option maxHeartbeats 4000000 in
theorem cet_H_isObject {l : Launch} {ca : Nat → ClassId} {D : va_G} {a g : Nat → Nat} (n : Nat) (u : zMu) (x1 : Int32) : zMet l (zCe ca D) ceY_H_isObject (.code ceY_H_isObject prog_4_method_3_code 2 (some .boolean)) zri true 0 a g [.ref (a 36), .int x1] u (ce_H_isObject n u x1) := by
  refine zMet.of rfl (Nat.le_of_ble_eq_true rfl) fun κ A hl => ?_
  subst hl
  unfold ce_H_isObject
  refine z_iload_n (pc' := 1) (k := 1) (i := 1) 1 rfl rfl ⟨by decide +kernel, rfl⟩ ?_
  refine z_if_lt (pc' := 4) (tgt := 16) (off := 15) ⟨by decide +kernel, rfl⟩ rfl (fun h1 => ?_) (fun h1 => ?_)
  · refine z_iconst (pc' := 17) (n := 0) (v := 0) (by decide) ⟨by decide +kernel, rfl⟩ ?_
    exact z_zret (pc' := 18) (by decide) ⟨by decide +kernel, rfl⟩
  · refine z_iload_n (pc' := 5) (k := 1) (i := 1) 1 rfl rfl ⟨by decide +kernel, rfl⟩ ?_
    refine z_aload_n (pc' := 6) (k := 0) (i := 0) 0 rfl rfl ⟨by decide +kernel, rfl⟩ ?_
    refine z_getI (pc' := 9) (cef_H56_36 ca D) rfl ⟨by decide +kernel, rfl⟩ ?_
    refine z_icmp_ge (pc' := 12) (tgt := 16) (off := 7) ⟨by decide +kernel, rfl⟩ rfl (fun h2 => ?_) (fun h2 => ?_)
    · refine z_iconst (pc' := 13) (n := 1) (v := 1) (by decide) ⟨by decide +kernel, rfl⟩ ?_
      refine z_goto (tgt := 17) (off := 4) (by decide +kernel) rfl ?_
      exact z_zret (pc' := 18) (by decide) ⟨by decide +kernel, rfl⟩
    · refine z_iconst (pc' := 17) (n := 0) (v := 0) (by decide) ⟨by decide +kernel, rfl⟩ ?_
      exact z_zret (pc' := 18) (by decide) ⟨by decide +kernel, rfl⟩
set_option maxRecDepth 20000 in
set_option maxHeartbeats 4000000 in
theorem cet_S_grow {l : Launch} {ca : Nat → ClassId} {D : va_G} {a g : Nat → Nat} (n : Nat) (u : zMu) : zMet l (zCe ca D) ceY_S_grow (.code ceY_S_grow prog_9_method_9_code 2 none) zrv false 2 a g [.ref (a 43)] u (ce_S_grow n u) := by
  refine zMet.of rfl (Nat.le_of_ble_eq_true rfl) fun κ A hl => ?_
  subst hl
  unfold ce_S_grow
  refine z_aload_n (pc' := 1) (k := 0) (i := 0) 0 rfl rfl ⟨by decide +kernel, rfl⟩ ?_
  refine z_getI (pc' := 4) (cef_S43_43 ca D) rfl ⟨by decide +kernel, rfl⟩ ?_
  refine z_iconst (pc' := 5) (n := 1) (v := 1) (by decide) ⟨by decide +kernel, rfl⟩ ?_
  refine z_iadd (pc' := 6) ⟨by decide +kernel, rfl⟩ ?_
  refine z_sipush (pc' := 9) (n := 1800) (v := 1800) (by decide) ⟨by decide +kernel, rfl⟩ ?_
  refine z_iconst (pc' := 10) (n := 2) (v := 2) (by decide) ⟨by decide +kernel, rfl⟩ ?_
  refine z_aload_n (pc' := 11) (k := 0) (i := 0) 0 rfl rfl ⟨by decide +kernel, rfl⟩ ?_
  refine z_getR (pc' := 14) (cef_S15_43 ca D) rfl (y := g 81) rfl ⟨by decide +kernel, rfl⟩ ?_
  refine z_alen (pc' := 15) 81 (t := 1) (p := 0) rfl rfl (by decide) (zlt rfl) rfl rfl rfl ⟨by decide +kernel, rfl⟩ ?_
  refine z_imul (pc' := 16) ⟨by decide +kernel, rfl⟩ ?_
  refine z_mmin (pc' := 19) (ce_w0 6 rfl) (ce_w0 7 rfl) (ce_w0 4 rfl) (ce_w0 8 rfl) (by omega) (Nat.le_of_ble_eq_true rfl) ⟨by decide +kernel, rfl⟩ ?_
  refine z_letI fun v1 => ?_
  refine z_mmax (pc' := 22) (ce_w0 9 rfl) (ce_w0 3 rfl) (ce_w0 4 rfl) (ce_w0 5 rfl) (by omega) (Nat.le_of_ble_eq_true rfl) ⟨by decide +kernel, rfl⟩ ?_
  refine z_letI fun v2 => ?_
  refine z_istore_n (pc' := 23) (k := 1) (i := 1) rfl (by decide) rfl ⟨by decide +kernel, rfl⟩ ?_
  refine z_aload_n (pc' := 24) (k := 0) (i := 0) 1 rfl rfl ⟨by decide +kernel, rfl⟩ ?_
  refine z_aload_n (pc' := 25) (k := 0) (i := 0) 1 rfl rfl ⟨by decide +kernel, rfl⟩ ?_
  refine z_getR (pc' := 28) (cef_S15_43 ca D) rfl (y := g 81) rfl ⟨by decide +kernel, rfl⟩ ?_
  refine z_iload_n (pc' := 29) (k := 1) (i := 1) 0 rfl rfl ⟨by decide +kernel, rfl⟩ ?_
  refine z_growI (pc' := 35) (c := 81) (cef_S15_43 ca D) rfl ⟨rfl, rfl, zlt rfl, zlt2 rfl⟩ rfl rfl (ceG_S67 ca D) (by omega) (Nat.le_of_ble_eq_true rfl) (by decide +kernel) (by decide +kernel) rfl fun u3 g4 => ?_
  refine z_aload_n (pc' := 36) (k := 0) (i := 0) 1 rfl rfl ⟨by decide +kernel, rfl⟩ ?_
  refine z_aload_n (pc' := 37) (k := 0) (i := 0) 1 rfl rfl ⟨by decide +kernel, rfl⟩ ?_
  refine z_getR (pc' := 40) (cef_S18_43 ca D) rfl (y := g4 82) rfl ⟨by decide +kernel, rfl⟩ ?_
  refine z_iload_n (pc' := 41) (k := 1) (i := 1) 0 rfl rfl ⟨by decide +kernel, rfl⟩ ?_
  refine z_growI (pc' := 47) (c := 82) (cef_S18_43 ca D) rfl ⟨rfl, rfl, zlt rfl, zlt2 rfl⟩ rfl rfl (ceG_S67 ca D) (by omega) (Nat.le_of_ble_eq_true rfl) (by decide +kernel) (by decide +kernel) rfl fun u5 g6 => ?_
  refine z_aload_n (pc' := 48) (k := 0) (i := 0) 1 rfl rfl ⟨by decide +kernel, rfl⟩ ?_
  refine z_aload_n (pc' := 49) (k := 0) (i := 0) 1 rfl rfl ⟨by decide +kernel, rfl⟩ ?_
  refine z_getR (pc' := 52) (cef_S21_43 ca D) rfl (y := g6 83) rfl ⟨by decide +kernel, rfl⟩ ?_
  refine z_iload_n (pc' := 53) (k := 1) (i := 1) 0 rfl rfl ⟨by decide +kernel, rfl⟩ ?_
  refine z_growI (pc' := 59) (c := 83) (cef_S21_43 ca D) rfl ⟨rfl, rfl, zlt rfl, zlt2 rfl⟩ rfl rfl (ceG_S67 ca D) (by omega) (Nat.le_of_ble_eq_true rfl) (by decide +kernel) (by decide +kernel) rfl fun u7 g8 => ?_
  refine z_aload_n (pc' := 60) (k := 0) (i := 0) 1 rfl rfl ⟨by decide +kernel, rfl⟩ ?_
  refine z_aload_n (pc' := 61) (k := 0) (i := 0) 1 rfl rfl ⟨by decide +kernel, rfl⟩ ?_
  refine z_getR (pc' := 64) (cef_S24_43 ca D) rfl (y := g8 84) rfl ⟨by decide +kernel, rfl⟩ ?_
  refine z_iload_n (pc' := 65) (k := 1) (i := 1) 0 rfl rfl ⟨by decide +kernel, rfl⟩ ?_
  refine z_growI (pc' := 71) (c := 84) (cef_S24_43 ca D) rfl ⟨rfl, rfl, zlt rfl, zlt2 rfl⟩ rfl rfl (ceG_S67 ca D) (by omega) (Nat.le_of_ble_eq_true rfl) (by decide +kernel) (by decide +kernel) rfl fun u9 g10 => ?_
  refine z_aload_n (pc' := 72) (k := 0) (i := 0) 1 rfl rfl ⟨by decide +kernel, rfl⟩ ?_
  refine z_aload_n (pc' := 73) (k := 0) (i := 0) 1 rfl rfl ⟨by decide +kernel, rfl⟩ ?_
  refine z_getR (pc' := 76) (cef_S27_43 ca D) rfl (y := g10 85) rfl ⟨by decide +kernel, rfl⟩ ?_
  refine z_iload_n (pc' := 77) (k := 1) (i := 1) 0 rfl rfl ⟨by decide +kernel, rfl⟩ ?_
  refine z_growL (pc' := 83) (c := 85) (cef_S27_43 ca D) rfl ⟨rfl, rfl, zlt rfl, zlt2 rfl⟩ rfl rfl (ceG_S71 ca D) (by omega) (Nat.le_of_ble_eq_true rfl) (by decide +kernel) (by decide +kernel) rfl fun u11 g12 => ?_
  refine z_aload_n (pc' := 84) (k := 0) (i := 0) 1 rfl rfl ⟨by decide +kernel, rfl⟩ ?_
  refine z_aload_n (pc' := 85) (k := 0) (i := 0) 1 rfl rfl ⟨by decide +kernel, rfl⟩ ?_
  refine z_getR (pc' := 88) (cef_S31_43 ca D) rfl (y := g12 86) rfl ⟨by decide +kernel, rfl⟩ ?_
  refine z_iload_n (pc' := 89) (k := 1) (i := 1) 0 rfl rfl ⟨by decide +kernel, rfl⟩ ?_
  refine z_growI (pc' := 95) (c := 86) (cef_S31_43 ca D) rfl ⟨rfl, rfl, zlt rfl, zlt2 rfl⟩ rfl rfl (ceG_S67 ca D) (by omega) (Nat.le_of_ble_eq_true rfl) (by decide +kernel) (by decide +kernel) rfl fun u13 g14 => ?_
  refine z_aload_n (pc' := 96) (k := 0) (i := 0) 1 rfl rfl ⟨by decide +kernel, rfl⟩ ?_
  refine z_aload_n (pc' := 97) (k := 0) (i := 0) 1 rfl rfl ⟨by decide +kernel, rfl⟩ ?_
  refine z_getR (pc' := 100) (cef_S34_43 ca D) rfl (y := g14 87) rfl ⟨by decide +kernel, rfl⟩ ?_
  refine z_iload_n (pc' := 101) (k := 1) (i := 1) 0 rfl rfl ⟨by decide +kernel, rfl⟩ ?_
  refine z_growI (pc' := 107) (c := 87) (cef_S34_43 ca D) rfl ⟨rfl, rfl, zlt rfl, zlt2 rfl⟩ rfl rfl (ceG_S67 ca D) (by omega) (Nat.le_of_ble_eq_true rfl) (by decide +kernel) (by decide +kernel) rfl fun u15 g16 => ?_
  exact z_vret (pc' := 108) ⟨by decide +kernel, rfl⟩
set_option maxRecDepth 20000 in
set_option maxHeartbeats 4000000 in
theorem ce_S_add_J51_t {κ : zKx} {ca : Nat → ClassId} {D : va_G} {A : Nat → Prop} {c0 : Nat × Nat} {a g0 : Nat → Nat} (n : Nat) (g : Nat → Nat) (u : zMu) (x2 : Int32) (x3 : Int64) (s1 : Int32) (s2 : Int32) : zJ κ (zCe ca D) prog_9_method_8_code 5 ce_RS (some .int) zri false 3 A c0 a g0 g u 51 [(0, .ref (a 43)), (2, .int x2), (3, .long x3)] [.int s2, .int s1, .ref (g 82)] (ce_S_add_J51 n u x2 x3 s1 s2) := by
  unfold ce_S_add_J51
  refine z_iast (pc' := 52) 82 rfl (zlt rfl) rfl rfl ⟨by decide +kernel, rfl⟩ (z_letU fun u1 => ?_)
  refine z_aload_n (pc' := 53) (k := 0) (i := 0) 0 rfl rfl ⟨by decide +kernel, rfl⟩ ?_
  refine z_getR (pc' := 56) (cef_S21_43 ca D) rfl (y := g 83) rfl ⟨by decide +kernel, rfl⟩ ?_
  refine z_aload_n (pc' := 57) (k := 0) (i := 0) 0 rfl rfl ⟨by decide +kernel, rfl⟩ ?_
  refine z_getI (pc' := 60) (cef_S43_43 ca D) rfl ⟨by decide +kernel, rfl⟩ ?_
  refine z_iload_n (pc' := 61) (k := 2) (i := 2) 1 rfl rfl ⟨by decide +kernel, rfl⟩ ?_
  refine z_iast (pc' := 62) 83 rfl (zlt rfl) rfl rfl ⟨by decide +kernel, rfl⟩ (z_letU fun u2 => ?_)
  refine z_aload_n (pc' := 63) (k := 0) (i := 0) 0 rfl rfl ⟨by decide +kernel, rfl⟩ ?_
  refine z_getR (pc' := 66) (cef_S24_43 ca D) rfl (y := g 84) rfl ⟨by decide +kernel, rfl⟩ ?_
  refine z_aload_n (pc' := 67) (k := 0) (i := 0) 0 rfl rfl ⟨by decide +kernel, rfl⟩ ?_
  refine z_getI (pc' := 70) (cef_S43_43 ca D) rfl ⟨by decide +kernel, rfl⟩ ?_
  refine z_iconst (pc' := 71) (n := 0) (v := 0) (by decide) ⟨by decide +kernel, rfl⟩ ?_
  refine z_iast (pc' := 72) 84 rfl (zlt rfl) rfl rfl ⟨by decide +kernel, rfl⟩ (z_letU fun u3 => ?_)
  refine z_aload_n (pc' := 73) (k := 0) (i := 0) 0 rfl rfl ⟨by decide +kernel, rfl⟩ ?_
  refine z_getR (pc' := 76) (cef_S27_43 ca D) rfl (y := g 85) rfl ⟨by decide +kernel, rfl⟩ ?_
  refine z_aload_n (pc' := 77) (k := 0) (i := 0) 0 rfl rfl ⟨by decide +kernel, rfl⟩ ?_
  refine z_getI (pc' := 80) (cef_S43_43 ca D) rfl ⟨by decide +kernel, rfl⟩ ?_
  refine z_lload_n (pc' := 81) (k := 3) (i := 3) 2 rfl rfl ⟨by decide +kernel, rfl⟩ ?_
  refine z_last (pc' := 82) 85 rfl (zlt rfl) rfl rfl ⟨by decide +kernel, rfl⟩ (z_letU fun u4 => ?_)
  refine z_aload_n (pc' := 83) (k := 0) (i := 0) 0 rfl rfl ⟨by decide +kernel, rfl⟩ ?_
  refine z_getR (pc' := 86) (cef_S31_43 ca D) rfl (y := g 86) rfl ⟨by decide +kernel, rfl⟩ ?_
  refine z_aload_n (pc' := 87) (k := 0) (i := 0) 0 rfl rfl ⟨by decide +kernel, rfl⟩ ?_
  refine z_getI (pc' := 90) (cef_S43_43 ca D) rfl ⟨by decide +kernel, rfl⟩ ?_
  refine z_iconst (pc' := 91) (n := (-1)) (v := (-1)) (by decide) ⟨by decide +kernel, rfl⟩ ?_
  refine z_iast (pc' := 92) 86 rfl (zlt rfl) rfl rfl ⟨by decide +kernel, rfl⟩ (z_letU fun u5 => ?_)
  refine z_aload_n (pc' := 93) (k := 0) (i := 0) 0 rfl rfl ⟨by decide +kernel, rfl⟩ ?_
  refine z_getR (pc' := 96) (cef_S34_43 ca D) rfl (y := g 87) rfl ⟨by decide +kernel, rfl⟩ ?_
  refine z_aload_n (pc' := 97) (k := 0) (i := 0) 0 rfl rfl ⟨by decide +kernel, rfl⟩ ?_
  refine z_getI (pc' := 100) (cef_S43_43 ca D) rfl ⟨by decide +kernel, rfl⟩ ?_
  refine z_iconst (pc' := 101) (n := (-1)) (v := (-1)) (by decide) ⟨by decide +kernel, rfl⟩ ?_
  refine z_iast (pc' := 102) 87 rfl (zlt rfl) rfl rfl ⟨by decide +kernel, rfl⟩ (z_letU fun u6 => ?_)
  refine z_aload_n (pc' := 103) (k := 0) (i := 0) 0 rfl rfl ⟨by decide +kernel, rfl⟩ ?_
  refine z_dup (pc' := 104) rfl ⟨by decide +kernel, rfl⟩ ?_
  refine z_getI (pc' := 107) (cef_S43_43 ca D) rfl ⟨by decide +kernel, rfl⟩ ?_
  refine z_letI fun v7 => ?_
  refine z_dup_x1 (pc' := 108) rfl rfl ⟨by decide +kernel, rfl⟩ ?_
  refine z_iconst (pc' := 109) (n := 1) (v := 1) (by decide) ⟨by decide +kernel, rfl⟩ ?_
  refine z_iadd (pc' := 110) ⟨by decide +kernel, rfl⟩ ?_
  refine z_putI (pc' := 113) (cef_S43_43 ca D) rfl ⟨by decide +kernel, rfl⟩ (z_letU fun u8 => ?_)
  exact z_iret (pc' := 114) ⟨by decide +kernel, rfl⟩
set_option maxRecDepth 20000 in
set_option maxHeartbeats 4000000 in
theorem ce_S_add_J16_t {κ : zKx} {ca : Nat → ClassId} {D : va_G} {A : Nat → Prop} {c0 : Nat × Nat} {a g0 : Nat → Nat} (n : Nat) (g : Nat → Nat) (u : zMu) (x1 : Int32) (x2 : Int32) (x3 : Int64) : zJ κ (zCe ca D) prog_9_method_8_code 5 ce_RS (some .int) zri false 3 A c0 a g0 g u 16 [(0, .ref (a 43)), (1, .int x1), (2, .int x2), (3, .long x3)] [] (ce_S_add_J16 n u x1 x2 x3) := by
  unfold ce_S_add_J16
  refine z_aload_n (pc' := 17) (k := 0) (i := 0) 0 rfl rfl ⟨by decide +kernel, rfl⟩ ?_
  refine z_getR (pc' := 20) (cef_S15_43 ca D) rfl (y := g 81) rfl ⟨by decide +kernel, rfl⟩ ?_
  refine z_aload_n (pc' := 21) (k := 0) (i := 0) 0 rfl rfl ⟨by decide +kernel, rfl⟩ ?_
  refine z_getI (pc' := 24) (cef_S43_43 ca D) rfl ⟨by decide +kernel, rfl⟩ ?_
  refine z_iload_n (pc' := 25) (k := 1) (i := 1) 1 rfl rfl ⟨by decide +kernel, rfl⟩ ?_
  refine z_iast (pc' := 26) 81 rfl (zlt rfl) rfl rfl ⟨by decide +kernel, rfl⟩ (z_letU fun u1 => ?_)
  refine z_aload_n (pc' := 27) (k := 0) (i := 0) 0 rfl rfl ⟨by decide +kernel, rfl⟩ ?_
  refine z_getR (pc' := 30) (cef_S18_43 ca D) rfl (y := g 82) rfl ⟨by decide +kernel, rfl⟩ ?_
  refine z_aload_n (pc' := 31) (k := 0) (i := 0) 0 rfl rfl ⟨by decide +kernel, rfl⟩ ?_
  refine z_getI (pc' := 34) (cef_S43_43 ca D) rfl ⟨by decide +kernel, rfl⟩ ?_
  refine z_iload_n (pc' := 35) (k := 2) (i := 2) 2 rfl rfl ⟨by decide +kernel, rfl⟩ ?_
  refine z_iconst (pc' := 36) (n := (-1)) (v := (-1)) (by decide) ⟨by decide +kernel, rfl⟩ ?_
  refine z_icmp_ne (pc' := 39) (tgt := 43) (off := 7) ⟨by decide +kernel, rfl⟩ rfl (fun h2 => ?_) (fun h2 => ?_)
  · refine z_iconst (pc' := 40) (n := 0) (v := 0) (by decide) ⟨by decide +kernel, rfl⟩ ?_
    refine z_goto (tgt := 51) (off := 11) (by decide +kernel) rfl ?_
    refine z_lv [0, 2, 3] (lv' := [(0, .ref (a 43)), (2, .int x2), (3, .long x3)]) rfl ?_
    exact ce_S_add_J51_t n g u1 x2 x3 (zI u1 43 8) 0
  · refine z_aload_n (pc' := 44) (k := 0) (i := 0) 0 rfl rfl ⟨by decide +kernel, rfl⟩ ?_
    refine z_getR (pc' := 47) (cef_S18_43 ca D) rfl (y := g 82) rfl ⟨by decide +kernel, rfl⟩ ?_
    refine z_iload_n (pc' := 48) (k := 2) (i := 2) 2 rfl rfl ⟨by decide +kernel, rfl⟩ ?_
    refine z_iald (pc' := 49) 82 rfl (zlt rfl) rfl rfl ⟨by decide +kernel, rfl⟩ ?_
    refine z_iconst (pc' := 50) (n := 1) (v := 1) (by decide) ⟨by decide +kernel, rfl⟩ ?_
    refine z_iadd (pc' := 51) ⟨by decide +kernel, rfl⟩ ?_
    refine z_lv [0, 2, 3] (lv' := [(0, .ref (a 43)), (2, .int x2), (3, .long x3)]) rfl ?_
    exact ce_S_add_J51_t n g u1 x2 x3 (zI u1 43 8) ((zI u1 82 (zx x2)) + 1)
set_option maxRecDepth 20000 in
set_option maxHeartbeats 4000000 in
theorem cet_S_add {l : Launch} {ca : Nat → ClassId} {D : va_G} {a g : Nat → Nat} (n : Nat) (u : zMu) (x1 : Int32) (x2 : Int32) (x3 : Int64) : zMet l (zCe ca D) ceY_S_add (.code ceY_S_add prog_9_method_8_code 5 (some .int)) zri false 3 a g [.ref (a 43), .int x1, .int x2, .long x3] u (ce_S_add n u x1 x2 x3) := by
  refine zMet.of rfl (Nat.le_of_ble_eq_true rfl) fun κ A hl => ?_
  subst hl
  unfold ce_S_add
  refine z_aload_n (pc' := 1) (k := 0) (i := 0) 0 rfl rfl ⟨by decide +kernel, rfl⟩ ?_
  refine z_getI (pc' := 4) (cef_S43_43 ca D) rfl ⟨by decide +kernel, rfl⟩ ?_
  refine z_aload_n (pc' := 5) (k := 0) (i := 0) 0 rfl rfl ⟨by decide +kernel, rfl⟩ ?_
  refine z_getR (pc' := 8) (cef_S15_43 ca D) rfl (y := g 81) rfl ⟨by decide +kernel, rfl⟩ ?_
  refine z_alen (pc' := 9) 81 (t := 1) (p := 0) rfl rfl (by decide) (zlt rfl) rfl rfl rfl ⟨by decide +kernel, rfl⟩ ?_
  refine z_icmp_lt (pc' := 12) (tgt := 16) (off := 7) ⟨by decide +kernel, rfl⟩ rfl (fun h1 => ?_) (fun h1 => ?_)
  · exact ce_S_add_J16_t n g u x1 x2 x3
  · refine z_aload_n (pc' := 13) (k := 0) (i := 0) 0 rfl rfl ⟨by decide +kernel, rfl⟩ ?_
    refine z_callV (pc' := 16) 43 (cet_S_grow n u) (ceG_S55 ca D) (ceO_43 ca D) rfl (fun h => by cases h) (by omega) rfl rfl (Nat.le_of_ble_eq_true rfl) ⟨by decide +kernel, rfl⟩ (fun _ u4 g2 _ => ?_)
    exact ce_S_add_J16_t n g2 u4 x1 x2 x3
