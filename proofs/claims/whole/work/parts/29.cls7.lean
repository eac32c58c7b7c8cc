/-! the class's methods meet their models (printed by wip/gen/cls.py) -/
set_option maxRecDepth 20000 in
set_option maxHeartbeats 4000000 in
theorem ce_M_enter_L130_t {κ : zKx} {ca : Nat → ClassId} {D : va_G} {A : Nat → Prop} {c0 : Nat × Nat} {a g0 : Nat → Nat} (n : Nat) : ∀ (m : Nat) (g : Nat → Nat) (u : zMu) (x1 : Int32) (x3 : Int32), zJ κ (zCe ca D) prog_6_method_29_code 4 ce_RM none zrv false 5 A c0 a g0 g u 130 [(0, .ref (a 34)), (1, .int x1), (3, .int x3)] [] (ce_M_enter_L130 n m u x1 x3) := by
  intro m
  induction m with
  | zero => intro g u x1 x3 r u' h; cases h
  | succ m ih =>
    intro g u x1 x3
    unfold ce_M_enter_L130
    refine z_iload_n (pc' := 131) (k := 3) (i := 3) 2 rfl rfl ⟨by decide +kernel, rfl⟩ ?_
    refine z_aload_n (pc' := 132) (k := 0) (i := 0) 0 rfl rfl ⟨by decide +kernel, rfl⟩ ?_
    refine z_getG (pc' := 135) (cef_M58_34 ca D) rfl (fun _ h => ⟨zpr_n0 h, ce_adP0 h⟩) ⟨by decide +kernel, rfl⟩ fun p1 hp1 => ?_
    refine z_getR (pc' := 138) (cef_M341_P ca D hp1) (ce_adP0 hp1) (y := a (p1 + 10)) (ce_frP10 hp1) ⟨by decide +kernel, rfl⟩ ?_
    refine z_iload_n (pc' := 139) (k := 1) (i := 1) 1 rfl rfl ⟨by decide +kernel, rfl⟩ ?_
    refine z_iald (pc' := 140) (p1 + 10) (ce_ckP10 hp1) (ce_clP10 hp1) (ce_cnP10 hp1) (ce_adP10 hp1) ⟨by decide +kernel, rfl⟩ ?_
    refine z_icmp_ge (pc' := 143) (tgt := 191) (off := 51) ⟨by decide +kernel, rfl⟩ rfl (fun h2 => ?_) (fun h2 => ?_)
    · refine z_aload_n (pc' := 144) (k := 0) (i := 0) 0 rfl rfl ⟨by decide +kernel, rfl⟩ ?_
      refine z_getR (pc' := 147) (cef_M51_34 ca D) rfl (y := a 78) rfl ⟨by decide +kernel, rfl⟩ ?_
      refine z_aload_n (pc' := 148) (k := 0) (i := 0) 0 rfl rfl ⟨by decide +kernel, rfl⟩ ?_
      refine z_getI (pc' := 151) (cef_M75_34 ca D) rfl ⟨by decide +kernel, rfl⟩ ?_
      refine z_bipush (pc' := 153) (n := 12) (v := 12) (by decide) ⟨by decide +kernel, rfl⟩ ?_
      refine z_imul (pc' := 154) ⟨by decide +kernel, rfl⟩ ?_
      refine z_iload_n (pc' := 155) (k := 3) (i := 3) 2 rfl rfl ⟨by decide +kernel, rfl⟩ ?_
      refine z_iadd (pc' := 156) ⟨by decide +kernel, rfl⟩ ?_
      refine z_aload_n (pc' := 157) (k := 0) (i := 0) 0 rfl rfl ⟨by decide +kernel, rfl⟩ ?_
      refine z_getR (pc' := 160) (cef_M48_34 ca D) rfl (y := a 75) rfl ⟨by decide +kernel, rfl⟩ ?_
      refine z_aload_n (pc' := 161) (k := 0) (i := 0) 0 rfl rfl ⟨by decide +kernel, rfl⟩ ?_
      refine z_getI (pc' := 164) (cef_M72_34 ca D) rfl ⟨by decide +kernel, rfl⟩ ?_
      refine z_iload_n (pc' := 165) (k := 3) (i := 3) 2 rfl rfl ⟨by decide +kernel, rfl⟩ ?_
      refine z_iadd (pc' := 166) ⟨by decide +kernel, rfl⟩ ?_
      refine z_callVf (pc' := 169) 75 (cet_V_sortAt n 75 rfl u ((zI u 34 8) + x3)) (ceG_M205 ca D) (ceO_75 ca D) rfl (by omega) rfl rfl (Nat.le_of_ble_eq_true rfl) ⟨by decide +kernel, rfl⟩ (fun r3 u4 => ?_)
      refine z_aload_n (pc' := 170) (k := 0) (i := 0) 0 rfl rfl ⟨by decide +kernel, rfl⟩ ?_
      refine z_getR (pc' := 173) (cef_M48_34 ca D) rfl (y := a 75) rfl ⟨by decide +kernel, rfl⟩ ?_
      refine z_aload_n (pc' := 174) (k := 0) (i := 0) 0 rfl rfl ⟨by decide +kernel, rfl⟩ ?_
      refine z_getI (pc' := 177) (cef_M72_34 ca D) rfl ⟨by decide +kernel, rfl⟩ ?_
      refine z_iload_n (pc' := 178) (k := 3) (i := 3) 2 rfl rfl ⟨by decide +kernel, rfl⟩ ?_
      refine z_iadd (pc' := 179) ⟨by decide +kernel, rfl⟩ ?_
      refine z_callVf (pc' := 182) 75 (cet_V_numberAt n 75 rfl u4 ((zI u4 34 8) + x3)) (ceG_M209 ca D) (ceO_75 ca D) rfl (by omega) rfl rfl (Nat.le_of_ble_eq_true rfl) ⟨by decide +kernel, rfl⟩ (fun r5 u6 => ?_)
      refine z_callV (pc' := 185) 78 (cet_V_set n 78 rfl u6 (((zI u 34 11) * 12) + x3) r3 r5) (ceG_M193 ca D) (ceO_78 ca D) rfl (fun h => by cases h) (by omega) rfl rfl (Nat.le_of_ble_eq_true rfl) ⟨by decide +kernel, rfl⟩ (fun _ u9 g7 _ => ?_)
      refine z_iincN (pc' := 188) (i := 3) (n := 1) (c := 1) 2 rfl (by decide) (by decide) rfl ⟨by decide +kernel, rfl⟩ fun v10 => ?_
      refine z_goto (tgt := 130) (off := -58) (by decide +kernel) rfl ?_
      refine z_lv [1, 2, 0] (lv' := [(0, .ref (a 34)), (1, .int x1), (3, .int v10)]) rfl ?_
      exact ih g7 u9 x1 v10
    · refine z_aload_n (pc' := 192) (k := 0) (i := 0) 0 rfl rfl ⟨by decide +kernel, rfl⟩ ?_
      refine z_aload_n (pc' := 193) (k := 0) (i := 0) 0 rfl rfl ⟨by decide +kernel, rfl⟩ ?_
      refine z_getG (pc' := 196) (cef_M58_34 ca D) rfl (fun _ h => ⟨zpr_n0 h, ce_adP0 h⟩) ⟨by decide +kernel, rfl⟩ fun p11 hp11 => ?_
      refine z_getR (pc' := 199) (cef_M344_P ca D hp11) (ce_adP0 hp11) (y := a (p11 + 9)) (ce_frP9 hp11) ⟨by decide +kernel, rfl⟩ ?_
      refine z_iload_n (pc' := 200) (k := 1) (i := 1) 1 rfl rfl ⟨by decide +kernel, rfl⟩ ?_
      refine z_iald (pc' := 201) (p11 + 9) (ce_ckP9 hp11) (ce_clP9 hp11) (ce_cnP9 hp11) (ce_adP9 hp11) ⟨by decide +kernel, rfl⟩ ?_
      refine z_putI (pc' := 204) (cef_M101_34 ca D) rfl ⟨by decide +kernel, rfl⟩ (z_letU fun u12 => ?_)
      exact z_vret (pc' := 205) ⟨by decide +kernel, rfl⟩
set_option maxRecDepth 20000 in
set_option maxHeartbeats 4000000 in
theorem ce_M_enter_J68_t {κ : zKx} {ca : Nat → ClassId} {D : va_G} {A : Nat → Prop} {c0 : Nat × Nat} {a g0 : Nat → Nat} (n : Nat) (g : Nat → Nat) (u : zMu) (x1 : Int32) : zJ κ (zCe ca D) prog_6_method_29_code 4 ce_RM none zrv false 5 A c0 a g0 g u 68 [(0, .ref (a 34)), (1, .int x1)] [] (ce_M_enter_J68 n u x1) := by
  unfold ce_M_enter_J68
  refine z_aload_n (pc' := 69) (k := 0) (i := 0) 0 rfl rfl ⟨by decide +kernel, rfl⟩ ?_
  refine z_getR (pc' := 72) (cef_M54_34 ca D) rfl (y := a 35) rfl ⟨by decide +kernel, rfl⟩ ?_
  refine z_aload_n (pc' := 73) (k := 0) (i := 0) 0 rfl rfl ⟨by decide +kernel, rfl⟩ ?_
  refine z_getI (pc' := 76) (cef_M75_34 ca D) rfl ⟨by decide +kernel, rfl⟩ ?_
  refine z_aload_n (pc' := 77) (k := 0) (i := 0) 0 rfl rfl ⟨by decide +kernel, rfl⟩ ?_
  refine z_getI (pc' := 80) (cef_M101_34 ca D) rfl ⟨by decide +kernel, rfl⟩ ?_
  refine z_iast (pc' := 81) 35 rfl (zlt rfl) rfl rfl ⟨by decide +kernel, rfl⟩ (z_letU fun u1 => ?_)
  refine z_aload_n (pc' := 82) (k := 0) (i := 0) 0 rfl rfl ⟨by decide +kernel, rfl⟩ ?_
  refine z_dup (pc' := 83) rfl ⟨by decide +kernel, rfl⟩ ?_
  refine z_getI (pc' := 86) (cef_M75_34 ca D) rfl ⟨by decide +kernel, rfl⟩ ?_
  refine z_iconst (pc' := 87) (n := 1) (v := 1) (by decide) ⟨by decide +kernel, rfl⟩ ?_
  refine z_iadd (pc' := 88) ⟨by decide +kernel, rfl⟩ ?_
  refine z_putI (pc' := 91) (cef_M75_34 ca D) rfl ⟨by decide +kernel, rfl⟩ (z_letU fun u2 => ?_)
  refine z_aload_n (pc' := 92) (k := 0) (i := 0) 0 rfl rfl ⟨by decide +kernel, rfl⟩ ?_
  refine z_aload_n (pc' := 93) (k := 0) (i := 0) 0 rfl rfl ⟨by decide +kernel, rfl⟩ ?_
  refine z_getI (pc' := 96) (cef_M78_34 ca D) rfl ⟨by decide +kernel, rfl⟩ ?_
  refine z_aload_n (pc' := 97) (k := 0) (i := 0) 0 rfl rfl ⟨by decide +kernel, rfl⟩ ?_
  refine z_getI (pc' := 100) (cef_M75_34 ca D) rfl ⟨by decide +kernel, rfl⟩ ?_
  refine z_mmax (pc' := 103) (ce_w0 14 rfl) (ce_w0 3 rfl) (ce_w0 4 rfl) (ce_w0 5 rfl) (by omega) (Nat.le_of_ble_eq_true rfl) ⟨by decide +kernel, rfl⟩ ?_
  refine z_letI fun v3 => ?_
  refine z_putI (pc' := 106) (cef_M78_34 ca D) rfl ⟨by decide +kernel, rfl⟩ (z_letU fun u4 => ?_)
  refine z_aload_n (pc' := 107) (k := 0) (i := 0) 0 rfl rfl ⟨by decide +kernel, rfl⟩ ?_
  refine z_callV (pc' := 110) 34 (cet_M_clearVariables n u4) (ceG_M107 ca D) (ceO_34 ca D) rfl (fun h => by cases h) (by omega) rfl rfl (Nat.le_of_ble_eq_true rfl) ⟨by decide +kernel, rfl⟩ (fun _ u7 g5 _ => ?_)
  refine z_aload_n (pc' := 111) (k := 0) (i := 0) 0 rfl rfl ⟨by decide +kernel, rfl⟩ ?_
  refine z_dup (pc' := 112) rfl ⟨by decide +kernel, rfl⟩ ?_
  refine z_getI (pc' := 115) (cef_M72_34 ca D) rfl ⟨by decide +kernel, rfl⟩ ?_
  refine z_aload_n (pc' := 116) (k := 0) (i := 0) 0 rfl rfl ⟨by decide +kernel, rfl⟩ ?_
  refine z_getG (pc' := 119) (cef_M58_34 ca D) rfl (fun _ h => ⟨zpr_n0 h, ce_adP0 h⟩) ⟨by decide +kernel, rfl⟩ fun p8 hp8 => ?_
  refine z_getR (pc' := 122) (cef_M341_P ca D hp8) (ce_adP0 hp8) (y := a (p8 + 10)) (ce_frP10 hp8) ⟨by decide +kernel, rfl⟩ ?_
  refine z_iload_n (pc' := 123) (k := 1) (i := 1) 1 rfl rfl ⟨by decide +kernel, rfl⟩ ?_
  refine z_iald (pc' := 124) (p8 + 10) (ce_ckP10 hp8) (ce_clP10 hp8) (ce_cnP10 hp8) (ce_adP10 hp8) ⟨by decide +kernel, rfl⟩ ?_
  refine z_isub (pc' := 125) ⟨by decide +kernel, rfl⟩ ?_
  refine z_putI (pc' := 128) (cef_M72_34 ca D) rfl ⟨by decide +kernel, rfl⟩ (z_letU fun u9 => ?_)
  refine z_iconst (pc' := 129) (n := 0) (v := 0) (by decide) ⟨by decide +kernel, rfl⟩ ?_
  refine z_istore_n (pc' := 130) (k := 3) (i := 3) rfl (by decide) rfl ⟨by decide +kernel, rfl⟩ ?_
  refine z_lv [1, 2, 0] (lv' := [(0, .ref (a 34)), (1, .int x1), (3, .int 0)]) rfl ?_
  exact ce_M_enter_L130_t n n g5 u9 x1 0
set_option maxRecDepth 20000 in
set_option maxHeartbeats 4000000 in
theorem cet_M_enter {l : Launch} {ca : Nat → ClassId} {D : va_G} {a g : Nat → Nat} (n : Nat) (u : zMu) (x1 : Int32) (x2 : Int32) : zMet l (zCe ca D) ceY_M_enter (.code ceY_M_enter prog_6_method_29_code 4 none) zrv false 5 a g [.ref (a 34), .int x1, .int x2] u (ce_M_enter n u x1 x2) := by
  refine zMet.of rfl (Nat.le_of_ble_eq_true rfl) fun κ A hl => ?_
  subst hl
  unfold ce_M_enter
  refine z_aload_n (pc' := 1) (k := 0) (i := 0) 0 rfl rfl ⟨by decide +kernel, rfl⟩ ?_
  refine z_getG (pc' := 4) (cef_M58_34 ca D) rfl (fun _ h => ⟨zpr_n0 h, ce_adP0 h⟩) ⟨by decide +kernel, rfl⟩ fun p1 hp1 => ?_
  refine z_iload_n (pc' := 5) (k := 1) (i := 1) 1 rfl rfl ⟨by decide +kernel, rfl⟩ ?_
  refine z_callVf (pc' := 8) p1 (cet_P_isFn n p1 hp1 u x1) (ceG_M301 ca D) (ceO_P ca D hp1) (ce_adP0 hp1) (by omega) rfl rfl (Nat.le_of_ble_eq_true rfl) ⟨by decide +kernel, rfl⟩ (fun r2 u3 => ?_)
  refine z_if_eq (pc' := 11) (tgt := 18) (off := 10) ⟨by decide +kernel, rfl⟩ rfl (fun h4 => ?_) (fun h4 => ?_)
  · exact z_vret (pc' := 19) ⟨by decide +kernel, rfl⟩
  · refine z_aload_n (pc' := 12) (k := 0) (i := 0) 0 rfl rfl ⟨by decide +kernel, rfl⟩ ?_
    refine z_callVf (pc' := 15) 34 (cet_M_takeStep n u3) (ceG_M129 ca D) (ceO_34 ca D) rfl (by omega) rfl rfl (Nat.le_of_ble_eq_true rfl) ⟨by decide +kernel, rfl⟩ (fun r5 u6 => ?_)
    refine z_if_ne (pc' := 18) (tgt := 19) (off := 4) ⟨by decide +kernel, rfl⟩ rfl (fun h7 => ?_) (fun h7 => ?_)
    · exact z_vret (pc' := 19) ⟨by decide +kernel, rfl⟩
    · refine z_aload_n (pc' := 20) (k := 0) (i := 0) 0 rfl rfl ⟨by decide +kernel, rfl⟩ ?_
      refine z_getI (pc' := 23) (cef_M75_34 ca D) rfl ⟨by decide +kernel, rfl⟩ ?_
      refine z_bipush (pc' := 25) (n := 12) (v := 12) (by decide) ⟨by decide +kernel, rfl⟩ ?_
      refine z_icmp_lt (pc' := 28) (tgt := 35) (off := 10) ⟨by decide +kernel, rfl⟩ rfl (fun h8 => ?_) (fun h8 => ?_)
      · refine z_aload_n (pc' := 36) (k := 0) (i := 0) 0 rfl rfl ⟨by decide +kernel, rfl⟩ ?_
        refine z_dup (pc' := 37) rfl ⟨by decide +kernel, rfl⟩ ?_
        refine z_getI (pc' := 40) (cef_M84_34 ca D) rfl ⟨by decide +kernel, rfl⟩ ?_
        refine z_iconst (pc' := 41) (n := 1) (v := 1) (by decide) ⟨by decide +kernel, rfl⟩ ?_
        refine z_iadd (pc' := 42) ⟨by decide +kernel, rfl⟩ ?_
        refine z_putI (pc' := 45) (cef_M84_34 ca D) rfl ⟨by decide +kernel, rfl⟩ (z_letU fun u9 => ?_)
        refine z_aload_n (pc' := 46) (k := 0) (i := 0) 0 rfl rfl ⟨by decide +kernel, rfl⟩ ?_
        refine z_getR (pc' := 49) (cef_M35_34 ca D) rfl (y := a 59) rfl ⟨by decide +kernel, rfl⟩ ?_
        refine z_iload_n (pc' := 50) (k := 1) (i := 1) 1 rfl rfl ⟨by decide +kernel, rfl⟩ ?_
        refine z_callVf (pc' := 53) 59 (cet_F_makes n u9 x1) (ceG_M335 ca D) (ceO_59 ca D) rfl (by omega) rfl rfl (Nat.le_of_ble_eq_true rfl) ⟨by decide +kernel, rfl⟩ (fun r10 u11 => ?_)
        refine z_if_eq (pc' := 56) (tgt := 68) (off := 15) ⟨by decide +kernel, rfl⟩ rfl (fun h12 => ?_) (fun h12 => ?_)
        · refine z_lv [0, 1] (lv' := [(0, .ref (a 34)), (1, .int x1)]) rfl ?_
          exact ce_M_enter_J68_t n g u11 x1
        · refine z_aload_n (pc' := 57) (k := 0) (i := 0) 0 rfl rfl ⟨by decide +kernel, rfl⟩ ?_
          refine z_getR (pc' := 60) (cef_M28_34 ca D) rfl (y := a 49) rfl ⟨by decide +kernel, rfl⟩ ?_
          refine z_aload_n (pc' := 61) (k := 0) (i := 0) 0 rfl rfl ⟨by decide +kernel, rfl⟩ ?_
          refine z_getG (pc' := 64) (cef_M58_34 ca D) rfl (fun _ h => ⟨zpr_n0 h, ce_adP0 h⟩) ⟨by decide +kernel, rfl⟩ fun p13 hp13 => ?_
          refine z_iload_n (pc' := 65) (k := 1) (i := 1) 1 rfl rfl ⟨by decide +kernel, rfl⟩ ?_
          refine z_callVf (pc' := 68) 49 (cet_T_takeGuesses n p13 hp13 u11 x1) (ceG_M338 ca D) (ceO_49 ca D) rfl (by omega) rfl rfl (Nat.le_of_ble_eq_true rfl) ⟨by decide +kernel, rfl⟩ (fun _ u15 => ?_)
          refine z_lv [0, 1] (lv' := [(0, .ref (a 34)), (1, .int x1)]) rfl ?_
          exact ce_M_enter_J68_t n g u15 x1
      · refine z_aload_n (pc' := 29) (k := 0) (i := 0) 0 rfl rfl ⟨by decide +kernel, rfl⟩ ?_
        refine z_iconst (pc' := 30) (n := 5) (v := 5) (by decide) ⟨by decide +kernel, rfl⟩ ?_
        refine z_iload_n (pc' := 31) (k := 2) (i := 2) 2 rfl rfl ⟨by decide +kernel, rfl⟩ ?_
        refine z_callVf (pc' := 34) 34 (cet_M_fail n u6 5 x2) (ceG_M221 ca D) (ceO_34 ca D) rfl (by omega) rfl rfl (Nat.le_of_ble_eq_true rfl) ⟨by decide +kernel, rfl⟩ (fun _ u17 => ?_)
        exact z_vret (pc' := 35) ⟨by decide +kernel, rfl⟩
set_option maxRecDepth 20000 in
set_option maxHeartbeats 4000000 in
theorem cet_M_leave {l : Launch} {ca : Nat → ClassId} {D : va_G} {a g : Nat → Nat} (n : Nat) (u : zMu) : zMet l (zCe ca D) ceY_M_leave (.code ceY_M_leave prog_6_method_30_code 1 none) zrv true 0 a g [.ref (a 34)] u (ce_M_leave n u) := by
  refine zMet.of rfl (Nat.le_of_ble_eq_true rfl) fun κ A hl => ?_
  subst hl
  unfold ce_M_leave
  refine z_aload_n (pc' := 1) (k := 0) (i := 0) 0 rfl rfl ⟨by decide +kernel, rfl⟩ ?_
  refine z_getI (pc' := 4) (cef_M75_34 ca D) rfl ⟨by decide +kernel, rfl⟩ ?_
  refine z_if_ne (pc' := 7) (tgt := 13) (off := 9) ⟨by decide +kernel, rfl⟩ rfl (fun h1 => ?_) (fun h1 => ?_)
  · refine z_aload_n (pc' := 8) (k := 0) (i := 0) 0 rfl rfl ⟨by decide +kernel, rfl⟩ ?_
    refine z_iconst (pc' := 9) (n := 0) (v := 0) (by decide) ⟨by decide +kernel, rfl⟩ ?_
    refine z_putI (pc' := 12) (cef_M104_34 ca D) rfl ⟨by decide +kernel, rfl⟩ (z_letU fun u2 => ?_)
    exact z_vret (pc' := 13) ⟨by decide +kernel, rfl⟩
  · refine z_aload_n (pc' := 14) (k := 0) (i := 0) 0 rfl rfl ⟨by decide +kernel, rfl⟩ ?_
    refine z_dup (pc' := 15) rfl ⟨by decide +kernel, rfl⟩ ?_
    refine z_getI (pc' := 18) (cef_M75_34 ca D) rfl ⟨by decide +kernel, rfl⟩ ?_
    refine z_iconst (pc' := 19) (n := 1) (v := 1) (by decide) ⟨by decide +kernel, rfl⟩ ?_
    refine z_isub (pc' := 20) ⟨by decide +kernel, rfl⟩ ?_
    refine z_putI (pc' := 23) (cef_M75_34 ca D) rfl ⟨by decide +kernel, rfl⟩ (z_letU fun u3 => ?_)
    refine z_aload_n (pc' := 24) (k := 0) (i := 0) 0 rfl rfl ⟨by decide +kernel, rfl⟩ ?_
    refine z_aload_n (pc' := 25) (k := 0) (i := 0) 0 rfl rfl ⟨by decide +kernel, rfl⟩ ?_
    refine z_getR (pc' := 28) (cef_M54_34 ca D) rfl (y := a 35) rfl ⟨by decide +kernel, rfl⟩ ?_
    refine z_aload_n (pc' := 29) (k := 0) (i := 0) 0 rfl rfl ⟨by decide +kernel, rfl⟩ ?_
    refine z_getI (pc' := 32) (cef_M75_34 ca D) rfl ⟨by decide +kernel, rfl⟩ ?_
    refine z_iald (pc' := 33) 35 rfl (zlt rfl) rfl rfl ⟨by decide +kernel, rfl⟩ ?_
    refine z_putI (pc' := 36) (cef_M101_34 ca D) rfl ⟨by decide +kernel, rfl⟩ (z_letU fun u4 => ?_)
    exact z_vret (pc' := 37) ⟨by decide +kernel, rfl⟩
set_option maxRecDepth 20000 in
set_option maxHeartbeats 4000000 in
theorem cet_M_print {l : Launch} {ca : Nat → ClassId} {D : va_G} {a g : Nat → Nat} (n : Nat) (u : zMu) : zMet l (zCe ca D) ceY_M_print (.code ceY_M_print prog_6_method_31_code 1 none) zrv false 4 a g [.ref (a 34)] u (ce_M_print n u) := by
  refine zMet.of rfl (Nat.le_of_ble_eq_true rfl) fun κ A hl => ?_
  subst hl
  unfold ce_M_print
  refine z_aload_n (pc' := 1) (k := 0) (i := 0) 0 rfl rfl ⟨by decide +kernel, rfl⟩ ?_
  refine z_dup (pc' := 2) rfl ⟨by decide +kernel, rfl⟩ ?_
  refine z_getI (pc' := 5) (cef_M72_34 ca D) rfl ⟨by decide +kernel, rfl⟩ ?_
  refine z_iconst (pc' := 6) (n := 1) (v := 1) (by decide) ⟨by decide +kernel, rfl⟩ ?_
  refine z_isub (pc' := 7) ⟨by decide +kernel, rfl⟩ ?_
  refine z_putI (pc' := 10) (cef_M72_34 ca D) rfl ⟨by decide +kernel, rfl⟩ (z_letU fun u1 => ?_)
  refine z_aload_n (pc' := 11) (k := 0) (i := 0) 0 rfl rfl ⟨by decide +kernel, rfl⟩ ?_
  refine z_getR (pc' := 14) (cef_M44_34 ca D) rfl (y := a 72) rfl ⟨by decide +kernel, rfl⟩ ?_
  refine z_aload_n (pc' := 15) (k := 0) (i := 0) 0 rfl rfl ⟨by decide +kernel, rfl⟩ ?_
  refine z_getI (pc' := 18) (cef_M68_34 ca D) rfl ⟨by decide +kernel, rfl⟩ ?_
  refine z_aload_n (pc' := 19) (k := 0) (i := 0) 0 rfl rfl ⟨by decide +kernel, rfl⟩ ?_
  refine z_getR (pc' := 22) (cef_M48_34 ca D) rfl (y := a 75) rfl ⟨by decide +kernel, rfl⟩ ?_
  refine z_aload_n (pc' := 23) (k := 0) (i := 0) 0 rfl rfl ⟨by decide +kernel, rfl⟩ ?_
  refine z_getI (pc' := 26) (cef_M72_34 ca D) rfl ⟨by decide +kernel, rfl⟩ ?_
  refine z_callVf (pc' := 29) 75 (cet_V_sortAt n 75 rfl u1 (zI u1 34 8)) (ceG_M205 ca D) (ceO_75 ca D) rfl (by omega) rfl rfl (Nat.le_of_ble_eq_true rfl) ⟨by decide +kernel, rfl⟩ (fun r2 u3 => ?_)
  refine z_aload_n (pc' := 30) (k := 0) (i := 0) 0 rfl rfl ⟨by decide +kernel, rfl⟩ ?_
  refine z_getR (pc' := 33) (cef_M48_34 ca D) rfl (y := a 75) rfl ⟨by decide +kernel, rfl⟩ ?_
  refine z_aload_n (pc' := 34) (k := 0) (i := 0) 0 rfl rfl ⟨by decide +kernel, rfl⟩ ?_
  refine z_getI (pc' := 37) (cef_M72_34 ca D) rfl ⟨by decide +kernel, rfl⟩ ?_
  refine z_callVf (pc' := 40) 75 (cet_V_numberAt n 75 rfl u3 (zI u3 34 8)) (ceG_M209 ca D) (ceO_75 ca D) rfl (by omega) rfl rfl (Nat.le_of_ble_eq_true rfl) ⟨by decide +kernel, rfl⟩ (fun r4 u5 => ?_)
  refine z_callV (pc' := 43) 72 (cet_V_set n 72 rfl u5 (zI u1 34 5) r2 r4) (ceG_M193 ca D) (ceO_72 ca D) rfl (fun h => by cases h) (by omega) rfl rfl (Nat.le_of_ble_eq_true rfl) ⟨by decide +kernel, rfl⟩ (fun _ u8 g6 _ => ?_)
  refine z_aload_n (pc' := 44) (k := 0) (i := 0) 0 rfl rfl ⟨by decide +kernel, rfl⟩ ?_
  refine z_dup (pc' := 45) rfl ⟨by decide +kernel, rfl⟩ ?_
  refine z_getI (pc' := 48) (cef_M68_34 ca D) rfl ⟨by decide +kernel, rfl⟩ ?_
  refine z_iconst (pc' := 49) (n := 1) (v := 1) (by decide) ⟨by decide +kernel, rfl⟩ ?_
  refine z_iadd (pc' := 50) ⟨by decide +kernel, rfl⟩ ?_
  refine z_putI (pc' := 53) (cef_M68_34 ca D) rfl ⟨by decide +kernel, rfl⟩ (z_letU fun u9 => ?_)
  exact z_vret (pc' := 54) ⟨by decide +kernel, rfl⟩
set_option maxRecDepth 20000 in
set_option maxHeartbeats 4000000 in
theorem cet_M_branch {l : Launch} {ca : Nat → ClassId} {D : va_G} {a g : Nat → Nat} (n : Nat) (u : zMu) (x1 : Int32) (x2 : Int32) : zMet l (zCe ca D) ceY_M_branch (.code ceY_M_branch prog_6_method_32_code 3 none) zrv true 2 a g [.ref (a 34), .int x1, .int x2] u (ce_M_branch n u x1 x2) := by
  refine zMet.of rfl (Nat.le_of_ble_eq_true rfl) fun κ A hl => ?_
  subst hl
  unfold ce_M_branch
  refine z_aload_n (pc' := 1) (k := 0) (i := 0) 0 rfl rfl ⟨by decide +kernel, rfl⟩ ?_
  refine z_dup (pc' := 2) rfl ⟨by decide +kernel, rfl⟩ ?_
  refine z_getI (pc' := 5) (cef_M72_34 ca D) rfl ⟨by decide +kernel, rfl⟩ ?_
  refine z_iconst (pc' := 6) (n := 1) (v := 1) (by decide) ⟨by decide +kernel, rfl⟩ ?_
  refine z_isub (pc' := 7) ⟨by decide +kernel, rfl⟩ ?_
  refine z_putI (pc' := 10) (cef_M72_34 ca D) rfl ⟨by decide +kernel, rfl⟩ (z_letU fun u1 => ?_)
  refine z_aload_n (pc' := 11) (k := 0) (i := 0) 0 rfl rfl ⟨by decide +kernel, rfl⟩ ?_
  refine z_getR (pc' := 14) (cef_M48_34 ca D) rfl (y := a 75) rfl ⟨by decide +kernel, rfl⟩ ?_
  refine z_aload_n (pc' := 15) (k := 0) (i := 0) 0 rfl rfl ⟨by decide +kernel, rfl⟩ ?_
  refine z_getI (pc' := 18) (cef_M72_34 ca D) rfl ⟨by decide +kernel, rfl⟩ ?_
  refine z_callVf (pc' := 21) 75 (cet_V_isNumberAt n 75 rfl u1 (zI u1 34 8)) (ceG_M213 ca D) (ceO_75 ca D) rfl (by omega) rfl rfl (Nat.le_of_ble_eq_true rfl) ⟨by decide +kernel, rfl⟩ (fun r2 u3 => ?_)
  refine z_if_ne (pc' := 24) (tgt := 33) (off := 12) ⟨by decide +kernel, rfl⟩ rfl (fun h4 => ?_) (fun h4 => ?_)
  · refine z_aload_n (pc' := 25) (k := 0) (i := 0) 0 rfl rfl ⟨by decide +kernel, rfl⟩ ?_
    refine z_iconst (pc' := 26) (n := 1) (v := 1) (by decide) ⟨by decide +kernel, rfl⟩ ?_
    refine z_iload_n (pc' := 27) (k := 2) (i := 2) 2 rfl rfl ⟨by decide +kernel, rfl⟩ ?_
    refine z_callVf (pc' := 30) 34 (cet_M_fail n u3 1 x2) (ceG_M221 ca D) (ceO_34 ca D) rfl (by omega) rfl rfl (Nat.le_of_ble_eq_true rfl) ⟨by decide +kernel, rfl⟩ (fun _ u6 => ?_)
    refine z_goto (tgt := 54) (off := 24) (by decide +kernel) rfl ?_
    exact z_vret (pc' := 55) ⟨by decide +kernel, rfl⟩
  · refine z_aload_n (pc' := 34) (k := 0) (i := 0) 0 rfl rfl ⟨by decide +kernel, rfl⟩ ?_
    refine z_getR (pc' := 37) (cef_M48_34 ca D) rfl (y := a 75) rfl ⟨by decide +kernel, rfl⟩ ?_
    refine z_aload_n (pc' := 38) (k := 0) (i := 0) 0 rfl rfl ⟨by decide +kernel, rfl⟩ ?_
    refine z_getI (pc' := 41) (cef_M72_34 ca D) rfl ⟨by decide +kernel, rfl⟩ ?_
    refine z_callVf (pc' := 44) 75 (cet_V_numberAt n 75 rfl u3 (zI u3 34 8)) (ceG_M209 ca D) (ceO_75 ca D) rfl (by omega) rfl rfl (Nat.le_of_ble_eq_true rfl) ⟨by decide +kernel, rfl⟩ (fun r7 u8 => ?_)
    refine z_lconst (pc' := 45) (n := 0) (v := 0) (by decide) ⟨by decide +kernel, rfl⟩ ?_
    refine z_lcmp (pc' := 46) ⟨by decide +kernel, rfl⟩ ?_
    refine z_if_ne (pc' := 49) (tgt := 54) (off := 8) ⟨by decide +kernel, rfl⟩ rfl (fun h9 => ?_) (fun h9 => ?_)
    · refine z_aload_n (pc' := 50) (k := 0) (i := 0) 0 rfl rfl ⟨by decide +kernel, rfl⟩ ?_
      refine z_iload_n (pc' := 51) (k := 1) (i := 1) 1 rfl rfl ⟨by decide +kernel, rfl⟩ ?_
      refine z_putI (pc' := 54) (cef_M101_34 ca D) rfl ⟨by decide +kernel, rfl⟩ (z_letU fun u10 => ?_)
      exact z_vret (pc' := 55) ⟨by decide +kernel, rfl⟩
    · exact z_vret (pc' := 55) ⟨by decide +kernel, rfl⟩
set_option maxRecDepth 20000 in
set_option maxHeartbeats 4000000 in
theorem cet_M_perform {l : Launch} {ca : Nat → ClassId} {D : va_G} {a g : Nat → Nat} (n : Nat) (u : zMu) : zMet l (zCe ca D) ceY_M_perform (.code ceY_M_perform prog_6_method_4_code 4 none) zrv false 7 a g [.ref (a 34)] u (ce_M_perform n u) := by
  refine zMet.of rfl (Nat.le_of_ble_eq_true rfl) fun κ A hl => ?_
  subst hl
  unfold ce_M_perform
  refine z_aload_n (pc' := 1) (k := 0) (i := 0) 0 rfl rfl ⟨by decide +kernel, rfl⟩ ?_
  refine z_getI (pc' := 4) (cef_M101_34 ca D) rfl ⟨by decide +kernel, rfl⟩ ?_
  refine z_if_lt (pc' := 7) (tgt := 21) (off := 17) ⟨by decide +kernel, rfl⟩ rfl (fun h1 => ?_) (fun h1 => ?_)
  · refine z_aload_n (pc' := 22) (k := 0) (i := 0) 0 rfl rfl ⟨by decide +kernel, rfl⟩ ?_
    refine z_iconst (pc' := 23) (n := 0) (v := 0) (by decide) ⟨by decide +kernel, rfl⟩ ?_
    refine z_putI (pc' := 26) (cef_M104_34 ca D) rfl ⟨by decide +kernel, rfl⟩ (z_letU fun u2 => ?_)
    exact z_vret (pc' := 27) ⟨by decide +kernel, rfl⟩
  · refine z_aload_n (pc' := 8) (k := 0) (i := 0) 0 rfl rfl ⟨by decide +kernel, rfl⟩ ?_
    refine z_getI (pc' := 11) (cef_M101_34 ca D) rfl ⟨by decide +kernel, rfl⟩ ?_
    refine z_aload_n (pc' := 12) (k := 0) (i := 0) 0 rfl rfl ⟨by decide +kernel, rfl⟩ ?_
    refine z_getG (pc' := 15) (cef_M58_34 ca D) rfl (fun _ h => ⟨zpr_n0 h, ce_adP0 h⟩) ⟨by decide +kernel, rfl⟩ fun p3 hp3 => ?_
    refine z_getI (pc' := 18) (cef_M115_P ca D hp3) (ce_adP0 hp3) ⟨by decide +kernel, rfl⟩ ?_
    refine z_icmp_lt (pc' := 21) (tgt := 27) (off := 9) ⟨by decide +kernel, rfl⟩ rfl (fun h4 => ?_) (fun h4 => ?_)
    · refine z_aload_n (pc' := 28) (k := 0) (i := 0) 0 rfl rfl ⟨by decide +kernel, rfl⟩ ?_
      refine z_getG (pc' := 31) (cef_M58_34 ca D) rfl (fun _ h => ⟨zpr_n0 h, ce_adP0 h⟩) ⟨by decide +kernel, rfl⟩ fun p5 hp5 => ?_
      refine z_getR (pc' := 34) (cef_M118_P ca D hp5) (ce_adP0 hp5) (y := a (p5 + 1)) (ce_frP1 hp5) ⟨by decide +kernel, rfl⟩ ?_
      refine z_aload_n (pc' := 35) (k := 0) (i := 0) 0 rfl rfl ⟨by decide +kernel, rfl⟩ ?_
      refine z_getI (pc' := 38) (cef_M101_34 ca D) rfl ⟨by decide +kernel, rfl⟩ ?_
      refine z_bald (pc' := 39) (p5 + 1) (ce_ckP1 hp5) (ce_clP1 hp5) (ce_cnP1 hp5) (ce_adP1 hp5) ⟨by decide +kernel, rfl⟩ ?_
      refine z_letI fun v6 => ?_
      refine z_istore_n (pc' := 40) (k := 1) (i := 1) rfl (by decide) rfl ⟨by decide +kernel, rfl⟩ ?_
      refine z_aload_n (pc' := 41) (k := 0) (i := 0) 1 rfl rfl ⟨by decide +kernel, rfl⟩ ?_
      refine z_getG (pc' := 44) (cef_M58_34 ca D) rfl (fun _ h => ⟨zpr_n0 h, ce_adP0 h⟩) ⟨by decide +kernel, rfl⟩ fun p7 hp7 => ?_
      refine z_getR (pc' := 47) (cef_M122_P ca D hp7) (ce_adP0 hp7) (y := a (p7 + 2)) (ce_frP2 hp7) ⟨by decide +kernel, rfl⟩ ?_
      refine z_aload_n (pc' := 48) (k := 0) (i := 0) 1 rfl rfl ⟨by decide +kernel, rfl⟩ ?_
      refine z_getI (pc' := 51) (cef_M101_34 ca D) rfl ⟨by decide +kernel, rfl⟩ ?_
      refine z_iald (pc' := 52) (p7 + 2) (ce_ckP2 hp7) (ce_clP2 hp7) (ce_cnP2 hp7) (ce_adP2 hp7) ⟨by decide +kernel, rfl⟩ ?_
      refine z_letI fun v8 => ?_
      refine z_istore_n (pc' := 53) (k := 2) (i := 2) rfl (by decide) rfl ⟨by decide +kernel, rfl⟩ ?_
      refine z_aload_n (pc' := 54) (k := 0) (i := 0) 2 rfl rfl ⟨by decide +kernel, rfl⟩ ?_
      refine z_getG (pc' := 57) (cef_M58_34 ca D) rfl (fun _ h => ⟨zpr_n0 h, ce_adP0 h⟩) ⟨by decide +kernel, rfl⟩ fun p9 hp9 => ?_
      refine z_getR (pc' := 60) (cef_M125_P ca D hp9) (ce_adP0 hp9) (y := a (p9 + 3)) (ce_frP3 hp9) ⟨by decide +kernel, rfl⟩ ?_
      refine z_aload_n (pc' := 61) (k := 0) (i := 0) 2 rfl rfl ⟨by decide +kernel, rfl⟩ ?_
      refine z_getI (pc' := 64) (cef_M101_34 ca D) rfl ⟨by decide +kernel, rfl⟩ ?_
      refine z_sald (pc' := 65) (p9 + 3) (ce_ckP3 hp9) (ce_clP3 hp9) (ce_cnP3 hp9) (ce_adP3 hp9) ⟨by decide +kernel, rfl⟩ ?_
      refine z_letI fun v10 => ?_
      refine z_istore_n (pc' := 66) (k := 3) (i := 3) rfl (by decide) rfl ⟨by decide +kernel, rfl⟩ ?_
      refine z_aload_n (pc' := 67) (k := 0) (i := 0) 3 rfl rfl ⟨by decide +kernel, rfl⟩ ?_
      refine z_dup (pc' := 68) rfl ⟨by decide +kernel, rfl⟩ ?_
      refine z_getI (pc' := 71) (cef_M101_34 ca D) rfl ⟨by decide +kernel, rfl⟩ ?_
      refine z_iconst (pc' := 72) (n := 1) (v := 1) (by decide) ⟨by decide +kernel, rfl⟩ ?_
      refine z_iadd (pc' := 73) ⟨by decide +kernel, rfl⟩ ?_
      refine z_putI (pc' := 76) (cef_M101_34 ca D) rfl ⟨by decide +kernel, rfl⟩ (z_letU fun u11 => ?_)
      refine z_iload_n (pc' := 77) (k := 1) (i := 1) 2 rfl rfl ⟨by decide +kernel, rfl⟩ ?_
      refine z_ite (fun h14 => ?_) (fun h14 => ?_)
      · refine z_tabIn (dflt := 327) (lo := 0) (hi := 24) (offs := #[115, 123, 133, 142, 158, 174, 187, 195, 195, 195, 205, 213, 220, 228, 237, 246, 255, 263, 271, 279, 287, 296, 303, 310, 318]) (len := 115) (off := 115) (tgt := 192) h14 (by decide +kernel) (by decide) (by decide) rfl rfl ?_
        refine z_aload_n (pc' := 193) (k := 0) (i := 0) 3 rfl rfl ⟨by decide +kernel, rfl⟩ ?_
        refine z_callVf (pc' := 196) 34 (cet_M_takeStep n u11) (ceG_M129 ca D) (ceO_34 ca D) rfl (by omega) rfl rfl (Nat.le_of_ble_eq_true rfl) ⟨by decide +kernel, rfl⟩ (fun r12 u13 => ?_)
        refine z_pop (pc' := 197) rfl ⟨by decide +kernel, rfl⟩ ?_
        refine z_goto (tgt := 409) (off := 212) (by decide +kernel) rfl ?_
        exact z_vret (pc' := 410) ⟨by decide +kernel, rfl⟩
      refine z_ite (fun h18 => ?_) (fun h18 => ?_)
      · refine z_tabIn (dflt := 327) (lo := 0) (hi := 24) (offs := #[115, 123, 133, 142, 158, 174, 187, 195, 195, 195, 205, 213, 220, 228, 237, 246, 255, 263, 271, 279, 287, 296, 303, 310, 318]) (len := 115) (off := 123) (tgt := 200) h18 (by decide +kernel) (by decide) (by decide) rfl rfl ?_
        refine z_aload_n (pc' := 201) (k := 0) (i := 0) 3 rfl rfl ⟨by decide +kernel, rfl⟩ ?_
        refine z_iconst (pc' := 202) (n := 1) (v := 1) (by decide) ⟨by decide +kernel, rfl⟩ ?_
        refine z_iload_n (pc' := 203) (k := 2) (i := 2) 1 rfl rfl ⟨by decide +kernel, rfl⟩ ?_
        refine z_i2l (pc' := 204) ⟨by decide +kernel, rfl⟩ ?_
        refine z_callV (pc' := 207) 34 (cet_M_push n u11 1 (v8.toInt64)) (ceG_M133 ca D) (ceO_34 ca D) rfl (fun h => by cases h) (by omega) rfl rfl (Nat.le_of_ble_eq_true rfl) ⟨by decide +kernel, rfl⟩ (fun _ u17 g15 _ => ?_)
        refine z_goto (tgt := 409) (off := 202) (by decide +kernel) rfl ?_
        exact z_vret (pc' := 410) ⟨by decide +kernel, rfl⟩
      refine z_ite (fun h22 => ?_) (fun h22 => ?_)
      · refine z_tabIn (dflt := 327) (lo := 0) (hi := 24) (offs := #[115, 123, 133, 142, 158, 174, 187, 195, 195, 195, 205, 213, 220, 228, 237, 246, 255, 263, 271, 279, 287, 296, 303, 310, 318]) (len := 115) (off := 133) (tgt := 210) h22 (by decide +kernel) (by decide) (by decide) rfl rfl ?_
        refine z_aload_n (pc' := 211) (k := 0) (i := 0) 3 rfl rfl ⟨by decide +kernel, rfl⟩ ?_
        refine z_iconst (pc' := 212) (n := 0) (v := 0) (by decide) ⟨by decide +kernel, rfl⟩ ?_
        refine z_lconst (pc' := 213) (n := 0) (v := 0) (by decide) ⟨by decide +kernel, rfl⟩ ?_
        refine z_callV (pc' := 216) 34 (cet_M_push n u11 0 0) (ceG_M133 ca D) (ceO_34 ca D) rfl (fun h => by cases h) (by omega) rfl rfl (Nat.le_of_ble_eq_true rfl) ⟨by decide +kernel, rfl⟩ (fun _ u21 g19 _ => ?_)
        refine z_goto (tgt := 409) (off := 193) (by decide +kernel) rfl ?_
        exact z_vret (pc' := 410) ⟨by decide +kernel, rfl⟩
      refine z_ite (fun h26 => ?_) (fun h26 => ?_)
      · refine z_tabIn (dflt := 327) (lo := 0) (hi := 24) (offs := #[115, 123, 133, 142, 158, 174, 187, 195, 195, 195, 205, 213, 220, 228, 237, 246, 255, 263, 271, 279, 287, 296, 303, 310, 318]) (len := 115) (off := 142) (tgt := 219) h26 (by decide +kernel) (by decide) (by decide) rfl rfl ?_
        refine z_aload_n (pc' := 220) (k := 0) (i := 0) 3 rfl rfl ⟨by decide +kernel, rfl⟩ ?_
        refine z_aload_n (pc' := 221) (k := 0) (i := 0) 3 rfl rfl ⟨by decide +kernel, rfl⟩ ?_
        refine z_getI (pc' := 224) (cef_M75_34 ca D) rfl ⟨by decide +kernel, rfl⟩ ?_
        refine z_bipush (pc' := 226) (n := 12) (v := 12) (by decide) ⟨by decide +kernel, rfl⟩ ?_
        refine z_imul (pc' := 227) ⟨by decide +kernel, rfl⟩ ?_
        refine z_iload_n (pc' := 228) (k := 2) (i := 2) 1 rfl rfl ⟨by decide +kernel, rfl⟩ ?_
        refine z_iadd (pc' := 229) ⟨by decide +kernel, rfl⟩ ?_
        refine z_callV (pc' := 232) 34 (cet_M_fetch n u11 (((zI u11 34 11) * 12) + v8)) (ceG_M137 ca D) (ceO_34 ca D) rfl (fun h => by cases h) (by omega) rfl rfl (Nat.le_of_ble_eq_true rfl) ⟨by decide +kernel, rfl⟩ (fun _ u25 g23 _ => ?_)
        refine z_goto (tgt := 409) (off := 177) (by decide +kernel) rfl ?_
        exact z_vret (pc' := 410) ⟨by decide +kernel, rfl⟩
      refine z_ite (fun h30 => ?_) (fun h30 => ?_)
      · refine z_tabIn (dflt := 327) (lo := 0) (hi := 24) (offs := #[115, 123, 133, 142, 158, 174, 187, 195, 195, 195, 205, 213, 220, 228, 237, 246, 255, 263, 271, 279, 287, 296, 303, 310, 318]) (len := 115) (off := 158) (tgt := 235) h30 (by decide +kernel) (by decide) (by decide) rfl rfl ?_
        refine z_aload_n (pc' := 236) (k := 0) (i := 0) 3 rfl rfl ⟨by decide +kernel, rfl⟩ ?_
        refine z_aload_n (pc' := 237) (k := 0) (i := 0) 3 rfl rfl ⟨by decide +kernel, rfl⟩ ?_
        refine z_getI (pc' := 240) (cef_M75_34 ca D) rfl ⟨by decide +kernel, rfl⟩ ?_
        refine z_bipush (pc' := 242) (n := 12) (v := 12) (by decide) ⟨by decide +kernel, rfl⟩ ?_
        refine z_imul (pc' := 243) ⟨by decide +kernel, rfl⟩ ?_
        refine z_iload_n (pc' := 244) (k := 2) (i := 2) 1 rfl rfl ⟨by decide +kernel, rfl⟩ ?_
        refine z_iadd (pc' := 245) ⟨by decide +kernel, rfl⟩ ?_
        refine z_callV (pc' := 248) 34 (cet_M_store n u11 (((zI u11 34 11) * 12) + v8)) (ceG_M141 ca D) (ceO_34 ca D) rfl (fun h => by cases h) (by omega) rfl rfl (Nat.le_of_ble_eq_true rfl) ⟨by decide +kernel, rfl⟩ (fun _ u29 g27 _ => ?_)
        refine z_goto (tgt := 409) (off := 161) (by decide +kernel) rfl ?_
        exact z_vret (pc' := 410) ⟨by decide +kernel, rfl⟩
      refine z_ite (fun h32 => ?_) (fun h32 => ?_)
      · refine z_tabIn (dflt := 327) (lo := 0) (hi := 24) (offs := #[115, 123, 133, 142, 158, 174, 187, 195, 195, 195, 205, 213, 220, 228, 237, 246, 255, 263, 271, 279, 287, 296, 303, 310, 318]) (len := 115) (off := 174) (tgt := 251) h32 (by decide +kernel) (by decide) (by decide) rfl rfl ?_
        refine z_aload_n (pc' := 252) (k := 0) (i := 0) 3 rfl rfl ⟨by decide +kernel, rfl⟩ ?_
        refine z_dup (pc' := 253) rfl ⟨by decide +kernel, rfl⟩ ?_
        refine z_getI (pc' := 256) (cef_M72_34 ca D) rfl ⟨by decide +kernel, rfl⟩ ?_
        refine z_iconst (pc' := 257) (n := 1) (v := 1) (by decide) ⟨by decide +kernel, rfl⟩ ?_
        refine z_isub (pc' := 258) ⟨by decide +kernel, rfl⟩ ?_
        refine z_putI (pc' := 261) (cef_M72_34 ca D) rfl ⟨by decide +kernel, rfl⟩ (z_letU fun u31 => ?_)
        refine z_goto (tgt := 409) (off := 148) (by decide +kernel) rfl ?_
        exact z_vret (pc' := 410) ⟨by decide +kernel, rfl⟩
      refine z_ite (fun h36 => ?_) (fun h36 => ?_)
      · refine z_tabIn (dflt := 327) (lo := 0) (hi := 24) (offs := #[115, 123, 133, 142, 158, 174, 187, 195, 195, 195, 205, 213, 220, 228, 237, 246, 255, 263, 271, 279, 287, 296, 303, 310, 318]) (len := 115) (off := 187) (tgt := 264) h36 (by decide +kernel) (by decide) (by decide) rfl rfl ?_
        refine z_aload_n (pc' := 265) (k := 0) (i := 0) 3 rfl rfl ⟨by decide +kernel, rfl⟩ ?_
        refine z_iload_n (pc' := 266) (k := 3) (i := 3) 0 rfl rfl ⟨by decide +kernel, rfl⟩ ?_
        refine z_callV (pc' := 269) 34 (cet_M_negate n u11 v10) (ceG_M144 ca D) (ceO_34 ca D) rfl (fun h => by cases h) (by omega) rfl rfl (Nat.le_of_ble_eq_true rfl) ⟨by decide +kernel, rfl⟩ (fun _ u35 g33 _ => ?_)
        refine z_goto (tgt := 409) (off := 140) (by decide +kernel) rfl ?_
        exact z_vret (pc' := 410) ⟨by decide +kernel, rfl⟩
      refine z_ite (fun h40 => ?_) (fun h40 => ?_)
      · refine z_tabIn (dflt := 327) (lo := 0) (hi := 24) (offs := #[115, 123, 133, 142, 158, 174, 187, 195, 195, 195, 205, 213, 220, 228, 237, 246, 255, 263, 271, 279, 287, 296, 303, 310, 318]) (len := 115) (off := 195) (tgt := 272) h40 (by decide +kernel) (by decide) (by decide) rfl rfl ?_
        refine z_aload_n (pc' := 273) (k := 0) (i := 0) 3 rfl rfl ⟨by decide +kernel, rfl⟩ ?_
        refine z_iload_n (pc' := 274) (k := 1) (i := 1) 2 rfl rfl ⟨by decide +kernel, rfl⟩ ?_
        refine z_iload_n (pc' := 275) (k := 2) (i := 2) 1 rfl rfl ⟨by decide +kernel, rfl⟩ ?_
        refine z_iload_n (pc' := 276) (k := 3) (i := 3) 0 rfl rfl ⟨by decide +kernel, rfl⟩ ?_
        refine z_callV (pc' := 279) 34 (cet_M_calculate n u11 v6 v8 v10) (ceG_M147 ca D) (ceO_34 ca D) rfl (fun h => by cases h) (by omega) rfl rfl (Nat.le_of_ble_eq_true rfl) ⟨by decide +kernel, rfl⟩ (fun _ u39 g37 _ => ?_)
        refine z_goto (tgt := 409) (off := 130) (by decide +kernel) rfl ?_
        exact z_vret (pc' := 410) ⟨by decide +kernel, rfl⟩
      refine z_ite (fun h44 => ?_) (fun h44 => ?_)
      · refine z_tabIn (dflt := 327) (lo := 0) (hi := 24) (offs := #[115, 123, 133, 142, 158, 174, 187, 195, 195, 195, 205, 213, 220, 228, 237, 246, 255, 263, 271, 279, 287, 296, 303, 310, 318]) (len := 115) (off := 195) (tgt := 272) h44 (by decide +kernel) (by decide) (by decide) rfl rfl ?_
        refine z_aload_n (pc' := 273) (k := 0) (i := 0) 3 rfl rfl ⟨by decide +kernel, rfl⟩ ?_
        refine z_iload_n (pc' := 274) (k := 1) (i := 1) 2 rfl rfl ⟨by decide +kernel, rfl⟩ ?_
        refine z_iload_n (pc' := 275) (k := 2) (i := 2) 1 rfl rfl ⟨by decide +kernel, rfl⟩ ?_
        refine z_iload_n (pc' := 276) (k := 3) (i := 3) 0 rfl rfl ⟨by decide +kernel, rfl⟩ ?_
        refine z_callV (pc' := 279) 34 (cet_M_calculate n u11 v6 v8 v10) (ceG_M147 ca D) (ceO_34 ca D) rfl (fun h => by cases h) (by omega) rfl rfl (Nat.le_of_ble_eq_true rfl) ⟨by decide +kernel, rfl⟩ (fun _ u43 g41 _ => ?_)
        refine z_goto (tgt := 409) (off := 130) (by decide +kernel) rfl ?_
        exact z_vret (pc' := 410) ⟨by decide +kernel, rfl⟩
      refine z_ite (fun h48 => ?_) (fun h48 => ?_)
      · refine z_tabIn (dflt := 327) (lo := 0) (hi := 24) (offs := #[115, 123, 133, 142, 158, 174, 187, 195, 195, 195, 205, 213, 220, 228, 237, 246, 255, 263, 271, 279, 287, 296, 303, 310, 318]) (len := 115) (off := 195) (tgt := 272) h48 (by decide +kernel) (by decide) (by decide) rfl rfl ?_
        refine z_aload_n (pc' := 273) (k := 0) (i := 0) 3 rfl rfl ⟨by decide +kernel, rfl⟩ ?_
        refine z_iload_n (pc' := 274) (k := 1) (i := 1) 2 rfl rfl ⟨by decide +kernel, rfl⟩ ?_
        refine z_iload_n (pc' := 275) (k := 2) (i := 2) 1 rfl rfl ⟨by decide +kernel, rfl⟩ ?_
        refine z_iload_n (pc' := 276) (k := 3) (i := 3) 0 rfl rfl ⟨by decide +kernel, rfl⟩ ?_
        refine z_callV (pc' := 279) 34 (cet_M_calculate n u11 v6 v8 v10) (ceG_M147 ca D) (ceO_34 ca D) rfl (fun h => by cases h) (by omega) rfl rfl (Nat.le_of_ble_eq_true rfl) ⟨by decide +kernel, rfl⟩ (fun _ u47 g45 _ => ?_)
        refine z_goto (tgt := 409) (off := 130) (by decide +kernel) rfl ?_
        exact z_vret (pc' := 410) ⟨by decide +kernel, rfl⟩
      refine z_ite (fun h52 => ?_) (fun h52 => ?_)
      · refine z_tabIn (dflt := 327) (lo := 0) (hi := 24) (offs := #[115, 123, 133, 142, 158, 174, 187, 195, 195, 195, 205, 213, 220, 228, 237, 246, 255, 263, 271, 279, 287, 296, 303, 310, 318]) (len := 115) (off := 205) (tgt := 282) h52 (by decide +kernel) (by decide) (by decide) rfl rfl ?_
        refine z_aload_n (pc' := 283) (k := 0) (i := 0) 3 rfl rfl ⟨by decide +kernel, rfl⟩ ?_
        refine z_iload_n (pc' := 284) (k := 3) (i := 3) 0 rfl rfl ⟨by decide +kernel, rfl⟩ ?_
        refine z_callV (pc' := 287) 34 (cet_M_compare n u11 v10) (ceG_M151 ca D) (ceO_34 ca D) rfl (fun h => by cases h) (by omega) rfl rfl (Nat.le_of_ble_eq_true rfl) ⟨by decide +kernel, rfl⟩ (fun _ u51 g49 _ => ?_)
        refine z_goto (tgt := 409) (off := 122) (by decide +kernel) rfl ?_
        exact z_vret (pc' := 410) ⟨by decide +kernel, rfl⟩
      refine z_ite (fun h56 => ?_) (fun h56 => ?_)
      · refine z_tabIn (dflt := 327) (lo := 0) (hi := 24) (offs := #[115, 123, 133, 142, 158, 174, 187, 195, 195, 195, 205, 213, 220, 228, 237, 246, 255, 263, 271, 279, 287, 296, 303, 310, 318]) (len := 115) (off := 213) (tgt := 290) h56 (by decide +kernel) (by decide) (by decide) rfl rfl ?_
        refine z_aload_n (pc' := 291) (k := 0) (i := 0) 3 rfl rfl ⟨by decide +kernel, rfl⟩ ?_
        refine z_callV (pc' := 294) 34 (cet_M_equate n u11) (ceG_M154 ca D) (ceO_34 ca D) rfl (fun h => by cases h) (by omega) rfl rfl (Nat.le_of_ble_eq_true rfl) ⟨by decide +kernel, rfl⟩ (fun _ u55 g53 _ => ?_)
        refine z_goto (tgt := 409) (off := 115) (by decide +kernel) rfl ?_
        exact z_vret (pc' := 410) ⟨by decide +kernel, rfl⟩
      refine z_ite (fun h60 => ?_) (fun h60 => ?_)
      · refine z_tabIn (dflt := 327) (lo := 0) (hi := 24) (offs := #[115, 123, 133, 142, 158, 174, 187, 195, 195, 195, 205, 213, 220, 228, 237, 246, 255, 263, 271, 279, 287, 296, 303, 310, 318]) (len := 115) (off := 220) (tgt := 297) h60 (by decide +kernel) (by decide) (by decide) rfl rfl ?_
        refine z_aload_n (pc' := 298) (k := 0) (i := 0) 3 rfl rfl ⟨by decide +kernel, rfl⟩ ?_
        refine z_iload_n (pc' := 299) (k := 3) (i := 3) 0 rfl rfl ⟨by decide +kernel, rfl⟩ ?_
        refine z_callV (pc' := 302) 34 (cet_M_makeObject n u11 v10) (ceG_M157 ca D) (ceO_34 ca D) rfl (fun h => by cases h) (by omega) rfl rfl (Nat.le_of_ble_eq_true rfl) ⟨by decide +kernel, rfl⟩ (fun _ u59 g57 _ => ?_)
        refine z_goto (tgt := 409) (off := 107) (by decide +kernel) rfl ?_
        exact z_vret (pc' := 410) ⟨by decide +kernel, rfl⟩
      refine z_ite (fun h64 => ?_) (fun h64 => ?_)
      · refine z_tabIn (dflt := 327) (lo := 0) (hi := 24) (offs := #[115, 123, 133, 142, 158, 174, 187, 195, 195, 195, 205, 213, 220, 228, 237, 246, 255, 263, 271, 279, 287, 296, 303, 310, 318]) (len := 115) (off := 228) (tgt := 305) h64 (by decide +kernel) (by decide) (by decide) rfl rfl ?_
        refine z_aload_n (pc' := 306) (k := 0) (i := 0) 3 rfl rfl ⟨by decide +kernel, rfl⟩ ?_
        refine z_iload_n (pc' := 307) (k := 2) (i := 2) 1 rfl rfl ⟨by decide +kernel, rfl⟩ ?_
        refine z_iload_n (pc' := 308) (k := 3) (i := 3) 0 rfl rfl ⟨by decide +kernel, rfl⟩ ?_
        refine z_callV (pc' := 311) 34 (cet_M_getMember n u11 v8 v10) (ceG_M160 ca D) (ceO_34 ca D) rfl (fun h => by cases h) (by omega) rfl rfl (Nat.le_of_ble_eq_true rfl) ⟨by decide +kernel, rfl⟩ (fun _ u63 g61 _ => ?_)
        refine z_goto (tgt := 409) (off := 98) (by decide +kernel) rfl ?_
        exact z_vret (pc' := 410) ⟨by decide +kernel, rfl⟩
      refine z_ite (fun h68 => ?_) (fun h68 => ?_)
      · refine z_tabIn (dflt := 327) (lo := 0) (hi := 24) (offs := #[115, 123, 133, 142, 158, 174, 187, 195, 195, 195, 205, 213, 220, 228, 237, 246, 255, 263, 271, 279, 287, 296, 303, 310, 318]) (len := 115) (off := 237) (tgt := 314) h68 (by decide +kernel) (by decide) (by decide) rfl rfl ?_
        refine z_aload_n (pc' := 315) (k := 0) (i := 0) 3 rfl rfl ⟨by decide +kernel, rfl⟩ ?_
        refine z_iload_n (pc' := 316) (k := 2) (i := 2) 1 rfl rfl ⟨by decide +kernel, rfl⟩ ?_
        refine z_iload_n (pc' := 317) (k := 3) (i := 3) 0 rfl rfl ⟨by decide +kernel, rfl⟩ ?_
        refine z_callV (pc' := 320) 34 (cet_M_putMember n u11 v8 v10) (ceG_M163 ca D) (ceO_34 ca D) rfl (fun h => by cases h) (by omega) rfl rfl (Nat.le_of_ble_eq_true rfl) ⟨by decide +kernel, rfl⟩ (fun _ u67 g65 _ => ?_)
        refine z_goto (tgt := 409) (off := 89) (by decide +kernel) rfl ?_
        exact z_vret (pc' := 410) ⟨by decide +kernel, rfl⟩
      refine z_ite (fun h71 => ?_) (fun h71 => ?_)
      · refine z_tabIn (dflt := 327) (lo := 0) (hi := 24) (offs := #[115, 123, 133, 142, 158, 174, 187, 195, 195, 195, 205, 213, 220, 228, 237, 246, 255, 263, 271, 279, 287, 296, 303, 310, 318]) (len := 115) (off := 246) (tgt := 323) h71 (by decide +kernel) (by decide) (by decide) rfl rfl ?_
        refine z_aload_n (pc' := 324) (k := 0) (i := 0) 3 rfl rfl ⟨by decide +kernel, rfl⟩ ?_
        refine z_iload_n (pc' := 325) (k := 2) (i := 2) 1 rfl rfl ⟨by decide +kernel, rfl⟩ ?_
        refine z_iload_n (pc' := 326) (k := 3) (i := 3) 0 rfl rfl ⟨by decide +kernel, rfl⟩ ?_
        refine z_callVf (pc' := 329) 34 (cet_M_strikeMember n u11 v8 v10) (ceG_M166 ca D) (ceO_34 ca D) rfl (by omega) rfl rfl (Nat.le_of_ble_eq_true rfl) ⟨by decide +kernel, rfl⟩ (fun _ u70 => ?_)
        refine z_goto (tgt := 409) (off := 80) (by decide +kernel) rfl ?_
        exact z_vret (pc' := 410) ⟨by decide +kernel, rfl⟩
      refine z_ite (fun h75 => ?_) (fun h75 => ?_)
      · refine z_tabIn (dflt := 327) (lo := 0) (hi := 24) (offs := #[115, 123, 133, 142, 158, 174, 187, 195, 195, 195, 205, 213, 220, 228, 237, 246, 255, 263, 271, 279, 287, 296, 303, 310, 318]) (len := 115) (off := 255) (tgt := 332) h75 (by decide +kernel) (by decide) (by decide) rfl rfl ?_
        refine z_aload_n (pc' := 333) (k := 0) (i := 0) 3 rfl rfl ⟨by decide +kernel, rfl⟩ ?_
        refine z_iload_n (pc' := 334) (k := 3) (i := 3) 0 rfl rfl ⟨by decide +kernel, rfl⟩ ?_
        refine z_callV (pc' := 337) 34 (cet_M_makeRow n u11 v10) (ceG_M169 ca D) (ceO_34 ca D) rfl (fun h => by cases h) (by omega) rfl rfl (Nat.le_of_ble_eq_true rfl) ⟨by decide +kernel, rfl⟩ (fun _ u74 g72 _ => ?_)
        refine z_goto (tgt := 409) (off := 72) (by decide +kernel) rfl ?_
        exact z_vret (pc' := 410) ⟨by decide +kernel, rfl⟩
      refine z_ite (fun h79 => ?_) (fun h79 => ?_)
      · refine z_tabIn (dflt := 327) (lo := 0) (hi := 24) (offs := #[115, 123, 133, 142, 158, 174, 187, 195, 195, 195, 205, 213, 220, 228, 237, 246, 255, 263, 271, 279, 287, 296, 303, 310, 318]) (len := 115) (off := 263) (tgt := 340) h79 (by decide +kernel) (by decide) (by decide) rfl rfl ?_
        refine z_aload_n (pc' := 341) (k := 0) (i := 0) 3 rfl rfl ⟨by decide +kernel, rfl⟩ ?_
        refine z_iload_n (pc' := 342) (k := 3) (i := 3) 0 rfl rfl ⟨by decide +kernel, rfl⟩ ?_
        refine z_callV (pc' := 345) 34 (cet_M_getItem n u11 v10) (ceG_M172 ca D) (ceO_34 ca D) rfl (fun h => by cases h) (by omega) rfl rfl (Nat.le_of_ble_eq_true rfl) ⟨by decide +kernel, rfl⟩ (fun _ u78 g76 _ => ?_)
        refine z_goto (tgt := 409) (off := 64) (by decide +kernel) rfl ?_
        exact z_vret (pc' := 410) ⟨by decide +kernel, rfl⟩
      refine z_ite (fun h83 => ?_) (fun h83 => ?_)
      · refine z_tabIn (dflt := 327) (lo := 0) (hi := 24) (offs := #[115, 123, 133, 142, 158, 174, 187, 195, 195, 195, 205, 213, 220, 228, 237, 246, 255, 263, 271, 279, 287, 296, 303, 310, 318]) (len := 115) (off := 271) (tgt := 348) h83 (by decide +kernel) (by decide) (by decide) rfl rfl ?_
        refine z_aload_n (pc' := 349) (k := 0) (i := 0) 3 rfl rfl ⟨by decide +kernel, rfl⟩ ?_
        refine z_iload_n (pc' := 350) (k := 3) (i := 3) 0 rfl rfl ⟨by decide +kernel, rfl⟩ ?_
        refine z_callV (pc' := 353) 34 (cet_M_putItem n u11 v10) (ceG_M175 ca D) (ceO_34 ca D) rfl (fun h => by cases h) (by omega) rfl rfl (Nat.le_of_ble_eq_true rfl) ⟨by decide +kernel, rfl⟩ (fun _ u82 g80 _ => ?_)
        refine z_goto (tgt := 409) (off := 56) (by decide +kernel) rfl ?_
        exact z_vret (pc' := 410) ⟨by decide +kernel, rfl⟩
      refine z_ite (fun h87 => ?_) (fun h87 => ?_)
      · refine z_tabIn (dflt := 327) (lo := 0) (hi := 24) (offs := #[115, 123, 133, 142, 158, 174, 187, 195, 195, 195, 205, 213, 220, 228, 237, 246, 255, 263, 271, 279, 287, 296, 303, 310, 318]) (len := 115) (off := 279) (tgt := 356) h87 (by decide +kernel) (by decide) (by decide) rfl rfl ?_
        refine z_aload_n (pc' := 357) (k := 0) (i := 0) 3 rfl rfl ⟨by decide +kernel, rfl⟩ ?_
        refine z_iload_n (pc' := 358) (k := 3) (i := 3) 0 rfl rfl ⟨by decide +kernel, rfl⟩ ?_
        refine z_callV (pc' := 361) 34 (cet_M_measure n u11 v10) (ceG_M178 ca D) (ceO_34 ca D) rfl (fun h => by cases h) (by omega) rfl rfl (Nat.le_of_ble_eq_true rfl) ⟨by decide +kernel, rfl⟩ (fun _ u86 g84 _ => ?_)
        refine z_goto (tgt := 409) (off := 48) (by decide +kernel) rfl ?_
        exact z_vret (pc' := 410) ⟨by decide +kernel, rfl⟩
      refine z_ite (fun h91 => ?_) (fun h91 => ?_)
      · refine z_tabIn (dflt := 327) (lo := 0) (hi := 24) (offs := #[115, 123, 133, 142, 158, 174, 187, 195, 195, 195, 205, 213, 220, 228, 237, 246, 255, 263, 271, 279, 287, 296, 303, 310, 318]) (len := 115) (off := 287) (tgt := 364) h91 (by decide +kernel) (by decide) (by decide) rfl rfl ?_
        refine z_aload_n (pc' := 365) (k := 0) (i := 0) 3 rfl rfl ⟨by decide +kernel, rfl⟩ ?_
        refine z_iload_n (pc' := 366) (k := 2) (i := 2) 1 rfl rfl ⟨by decide +kernel, rfl⟩ ?_
        refine z_iload_n (pc' := 367) (k := 3) (i := 3) 0 rfl rfl ⟨by decide +kernel, rfl⟩ ?_
        refine z_callV (pc' := 370) 34 (cet_M_enter n u11 v8 v10) (ceG_M181 ca D) (ceO_34 ca D) rfl (fun h => by cases h) (by omega) rfl rfl (Nat.le_of_ble_eq_true rfl) ⟨by decide +kernel, rfl⟩ (fun _ u90 g88 _ => ?_)
        refine z_goto (tgt := 409) (off := 39) (by decide +kernel) rfl ?_
        exact z_vret (pc' := 410) ⟨by decide +kernel, rfl⟩
      refine z_ite (fun h94 => ?_) (fun h94 => ?_)
      · refine z_tabIn (dflt := 327) (lo := 0) (hi := 24) (offs := #[115, 123, 133, 142, 158, 174, 187, 195, 195, 195, 205, 213, 220, 228, 237, 246, 255, 263, 271, 279, 287, 296, 303, 310, 318]) (len := 115) (off := 296) (tgt := 373) h94 (by decide +kernel) (by decide) (by decide) rfl rfl ?_
        refine z_aload_n (pc' := 374) (k := 0) (i := 0) 3 rfl rfl ⟨by decide +kernel, rfl⟩ ?_
        refine z_callVf (pc' := 377) 34 (cet_M_leave n u11) (ceG_M184 ca D) (ceO_34 ca D) rfl (by omega) rfl rfl (Nat.le_of_ble_eq_true rfl) ⟨by decide +kernel, rfl⟩ (fun _ u93 => ?_)
        refine z_goto (tgt := 409) (off := 32) (by decide +kernel) rfl ?_
        exact z_vret (pc' := 410) ⟨by decide +kernel, rfl⟩
      refine z_ite (fun h98 => ?_) (fun h98 => ?_)
      · refine z_tabIn (dflt := 327) (lo := 0) (hi := 24) (offs := #[115, 123, 133, 142, 158, 174, 187, 195, 195, 195, 205, 213, 220, 228, 237, 246, 255, 263, 271, 279, 287, 296, 303, 310, 318]) (len := 115) (off := 303) (tgt := 380) h98 (by decide +kernel) (by decide) (by decide) rfl rfl ?_
        refine z_aload_n (pc' := 381) (k := 0) (i := 0) 3 rfl rfl ⟨by decide +kernel, rfl⟩ ?_
        refine z_callV (pc' := 384) 34 (cet_M_print n u11) (ceG_M187 ca D) (ceO_34 ca D) rfl (fun h => by cases h) (by omega) rfl rfl (Nat.le_of_ble_eq_true rfl) ⟨by decide +kernel, rfl⟩ (fun _ u97 g95 _ => ?_)
        refine z_goto (tgt := 409) (off := 25) (by decide +kernel) rfl ?_
        exact z_vret (pc' := 410) ⟨by decide +kernel, rfl⟩
      refine z_ite (fun h100 => ?_) (fun h100 => ?_)
      · refine z_tabIn (dflt := 327) (lo := 0) (hi := 24) (offs := #[115, 123, 133, 142, 158, 174, 187, 195, 195, 195, 205, 213, 220, 228, 237, 246, 255, 263, 271, 279, 287, 296, 303, 310, 318]) (len := 115) (off := 310) (tgt := 387) h100 (by decide +kernel) (by decide) (by decide) rfl rfl ?_
        refine z_aload_n (pc' := 388) (k := 0) (i := 0) 3 rfl rfl ⟨by decide +kernel, rfl⟩ ?_
        refine z_iload_n (pc' := 389) (k := 2) (i := 2) 1 rfl rfl ⟨by decide +kernel, rfl⟩ ?_
        refine z_putI (pc' := 392) (cef_M101_34 ca D) rfl ⟨by decide +kernel, rfl⟩ (z_letU fun u99 => ?_)
        refine z_goto (tgt := 409) (off := 17) (by decide +kernel) rfl ?_
        exact z_vret (pc' := 410) ⟨by decide +kernel, rfl⟩
      refine z_ite (fun h103 => ?_) (fun h103 => ?_)
      · refine z_tabIn (dflt := 327) (lo := 0) (hi := 24) (offs := #[115, 123, 133, 142, 158, 174, 187, 195, 195, 195, 205, 213, 220, 228, 237, 246, 255, 263, 271, 279, 287, 296, 303, 310, 318]) (len := 115) (off := 318) (tgt := 395) h103 (by decide +kernel) (by decide) (by decide) rfl rfl ?_
        refine z_aload_n (pc' := 396) (k := 0) (i := 0) 3 rfl rfl ⟨by decide +kernel, rfl⟩ ?_
        refine z_iload_n (pc' := 397) (k := 2) (i := 2) 1 rfl rfl ⟨by decide +kernel, rfl⟩ ?_
        refine z_iload_n (pc' := 398) (k := 3) (i := 3) 0 rfl rfl ⟨by decide +kernel, rfl⟩ ?_
        refine z_callVf (pc' := 401) 34 (cet_M_branch n u11 v8 v10) (ceG_M190 ca D) (ceO_34 ca D) rfl (by omega) rfl rfl (Nat.le_of_ble_eq_true rfl) ⟨by decide +kernel, rfl⟩ (fun _ u102 => ?_)
        refine z_goto (tgt := 409) (off := 8) (by decide +kernel) rfl ?_
        exact z_vret (pc' := 410) ⟨by decide +kernel, rfl⟩
      refine z_tabOut (dflt := 327) (lo := 0) (hi := 24) (offs := #[115, 123, 133, 142, 158, 174, 187, 195, 195, 195, 205, 213, 220, 228, 237, 246, 255, 263, 271, 279, 287, 296, 303, 310, 318]) (len := 115) (tgt := 404) (by decide +kernel) (by have h14' := lv_neT h14 (a := 0) (by decide); have h18' := lv_neT h18 (a := 1) (by decide); have h22' := lv_neT h22 (a := 2) (by decide); have h26' := lv_neT h26 (a := 3) (by decide); have h30' := lv_neT h30 (a := 4) (by decide); have h32' := lv_neT h32 (a := 5) (by decide); have h36' := lv_neT h36 (a := 6) (by decide); have h40' := lv_neT h40 (a := 7) (by decide); have h44' := lv_neT h44 (a := 8) (by decide); have h48' := lv_neT h48 (a := 9) (by decide); have h52' := lv_neT h52 (a := 10) (by decide); have h56' := lv_neT h56 (a := 11) (by decide); have h60' := lv_neT h60 (a := 12) (by decide); have h64' := lv_neT h64 (a := 13) (by decide); have h68' := lv_neT h68 (a := 14) (by decide); have h71' := lv_neT h71 (a := 15) (by decide); have h75' := lv_neT h75 (a := 16) (by decide); have h79' := lv_neT h79 (a := 17) (by decide); have h83' := lv_neT h83 (a := 18) (by decide); have h87' := lv_neT h87 (a := 19) (by decide); have h91' := lv_neT h91 (a := 20) (by decide); have h94' := lv_neT h94 (a := 21) (by decide); have h98' := lv_neT h98 (a := 22) (by decide); have h100' := lv_neT h100 (a := 23) (by decide); have h103' := lv_neT h103 (a := 24) (by decide); omega) rfl ?_
      refine z_aload_n (pc' := 405) (k := 0) (i := 0) 3 rfl rfl ⟨by decide +kernel, rfl⟩ ?_
      refine z_iconst (pc' := 406) (n := 0) (v := 0) (by decide) ⟨by decide +kernel, rfl⟩ ?_
      refine z_putI (pc' := 409) (cef_M104_34 ca D) rfl ⟨by decide +kernel, rfl⟩ (z_letU fun u104 => ?_)
      exact z_vret (pc' := 410) ⟨by decide +kernel, rfl⟩
    · refine z_aload_n (pc' := 22) (k := 0) (i := 0) 0 rfl rfl ⟨by decide +kernel, rfl⟩ ?_
      refine z_iconst (pc' := 23) (n := 0) (v := 0) (by decide) ⟨by decide +kernel, rfl⟩ ?_
      refine z_putI (pc' := 26) (cef_M104_34 ca D) rfl ⟨by decide +kernel, rfl⟩ (z_letU fun u105 => ?_)
      exact z_vret (pc' := 27) ⟨by decide +kernel, rfl⟩
set_option maxRecDepth 20000 in
set_option maxHeartbeats 4000000 in
theorem ce_M_execute_L40_t {κ : zKx} {ca : Nat → ClassId} {D : va_G} {A : Nat → Prop} {c0 : Nat × Nat} {a g0 : Nat → Nat} (n : Nat) : ∀ (m : Nat) (g : Nat → Nat) (u : zMu) (x2 : Int64) (x4 : Int64), zJ κ (zCe ca D) prog_6_method_3_code 6 ce_RM (some .int) zri false 8 A c0 a g0 g u 40 [(0, .ref (a 34)), (2, .long x2), (4, .long x4)] [] (ce_M_execute_L40 n m u x2 x4) := by
  intro m
  induction m with
  | zero => intro g u x2 x4 r u' h; cases h
  | succ m ih =>
    intro g u x2 x4
    unfold ce_M_execute_L40
    refine z_lload (pc' := 42) (i := 4) 2 rfl ⟨by decide +kernel, rfl⟩ ?_
    refine z_lload_n (pc' := 43) (k := 2) (i := 2) 1 rfl rfl ⟨by decide +kernel, rfl⟩ ?_
    refine z_lcmp (pc' := 44) ⟨by decide +kernel, rfl⟩ ?_
    refine z_if_ge (pc' := 47) (tgt := 68) (off := 24) ⟨by decide +kernel, rfl⟩ rfl (fun h1 => ?_) (fun h1 => ?_)
    · refine z_aload_n (pc' := 48) (k := 0) (i := 0) 0 rfl rfl ⟨by decide +kernel, rfl⟩ ?_
      refine z_getI (pc' := 51) (cef_M104_34 ca D) rfl ⟨by decide +kernel, rfl⟩ ?_
      refine z_iconst (pc' := 52) (n := (-1)) (v := (-1)) (by decide) ⟨by decide +kernel, rfl⟩ ?_
      refine z_icmp_ne (pc' := 55) (tgt := 68) (off := 16) ⟨by decide +kernel, rfl⟩ rfl (fun h2 => ?_) (fun h2 => ?_)
      · refine z_aload_n (pc' := 56) (k := 0) (i := 0) 0 rfl rfl ⟨by decide +kernel, rfl⟩ ?_
        refine z_callV (pc' := 59) 34 (cet_M_perform n u) (ceG_M112 ca D) (ceO_34 ca D) rfl (fun h => by cases h) (by omega) rfl rfl (Nat.le_of_ble_eq_true rfl) ⟨by decide +kernel, rfl⟩ (fun _ u5 g3 _ => ?_)
        refine z_lload (pc' := 61) (i := 4) 2 rfl ⟨by decide +kernel, rfl⟩ ?_
        refine z_lconst (pc' := 62) (n := 1) (v := 1) (by decide) ⟨by decide +kernel, rfl⟩ ?_
        refine z_ladd (pc' := 63) ⟨by decide +kernel, rfl⟩ ?_
        refine z_letL fun v6 => ?_
        refine z_lstore (pc' := 65) (i := 4) (by decide) rfl ⟨by decide +kernel, rfl⟩ ?_
        refine z_goto (tgt := 40) (off := -25) (by decide +kernel) rfl ?_
        refine z_lv [1, 2, 0] (lv' := [(0, .ref (a 34)), (2, .long x2), (4, .long v6)]) rfl ?_
        exact ih g3 u5 x2 v6
      · refine z_aload_n (pc' := 69) (k := 0) (i := 0) 0 rfl rfl ⟨by decide +kernel, rfl⟩ ?_
        refine z_getI (pc' := 72) (cef_M104_34 ca D) rfl ⟨by decide +kernel, rfl⟩ ?_
        exact z_iret (pc' := 73) ⟨by decide +kernel, rfl⟩
    · refine z_aload_n (pc' := 69) (k := 0) (i := 0) 0 rfl rfl ⟨by decide +kernel, rfl⟩ ?_
      refine z_getI (pc' := 72) (cef_M104_34 ca D) rfl ⟨by decide +kernel, rfl⟩ ?_
      exact z_iret (pc' := 73) ⟨by decide +kernel, rfl⟩
set_option maxRecDepth 20000 in
set_option maxHeartbeats 4000000 in
theorem cet_M_execute {l : Launch} {ca : Nat → ClassId} {D : va_G} {a g : Nat → Nat} (n : Nat) (u : zMu) (x1 : Int32) : zMet l (zCe ca D) ceY_M_execute (.code ceY_M_execute prog_6_method_3_code 6 (some .int)) zri false 8 a g [.ref (a 34), .int x1] u (ce_M_execute n u x1) := by
  refine zMet.of rfl (Nat.le_of_ble_eq_true rfl) fun κ A hl => ?_
  subst hl
  unfold ce_M_execute
  refine z_aload_n (pc' := 1) (k := 0) (i := 0) 0 rfl rfl ⟨by decide +kernel, rfl⟩ ?_
  refine z_iload_n (pc' := 2) (k := 1) (i := 1) 1 rfl rfl ⟨by decide +kernel, rfl⟩ ?_
  refine z_putI (pc' := 5) (cef_M93_34 ca D) rfl ⟨by decide +kernel, rfl⟩ (z_letU fun u1 => ?_)
  refine z_aload_n (pc' := 6) (k := 0) (i := 0) 0 rfl rfl ⟨by decide +kernel, rfl⟩ ?_
  refine z_aload_n (pc' := 7) (k := 0) (i := 0) 0 rfl rfl ⟨by decide +kernel, rfl⟩ ?_
  refine z_getG (pc' := 10) (cef_M58_34 ca D) rfl (fun _ h => ⟨zpr_n0 h, ce_adP0 h⟩) ⟨by decide +kernel, rfl⟩ fun p2 hp2 => ?_
  refine z_getI (pc' := 13) (cef_M96_P ca D hp2) (ce_adP0 hp2) ⟨by decide +kernel, rfl⟩ ?_
  refine z_putI (pc' := 16) (cef_M101_34 ca D) rfl ⟨by decide +kernel, rfl⟩ (z_letU fun u3 => ?_)
  refine z_aload_n (pc' := 17) (k := 0) (i := 0) 0 rfl rfl ⟨by decide +kernel, rfl⟩ ?_
  refine z_iconst (pc' := 18) (n := (-1)) (v := (-1)) (by decide) ⟨by decide +kernel, rfl⟩ ?_
  refine z_putI (pc' := 21) (cef_M104_34 ca D) rfl ⟨by decide +kernel, rfl⟩ (z_letU fun u4 => ?_)
  refine z_aload_n (pc' := 22) (k := 0) (i := 0) 0 rfl rfl ⟨by decide +kernel, rfl⟩ ?_
  refine z_callV (pc' := 25) 34 (cet_M_clearVariables n u4) (ceG_M107 ca D) (ceO_34 ca D) rfl (fun h => by cases h) (by omega) rfl rfl (Nat.le_of_ble_eq_true rfl) ⟨by decide +kernel, rfl⟩ (fun _ u7 g5 _ => ?_)
  refine z_aload_n (pc' := 26) (k := 0) (i := 0) 0 rfl rfl ⟨by decide +kernel, rfl⟩ ?_
  refine z_getI (pc' := 29) (cef_M93_34 ca D) rfl ⟨by decide +kernel, rfl⟩ ?_
  refine z_i2l (pc' := 30) ⟨by decide +kernel, rfl⟩ ?_
  refine z_lconst (pc' := 31) (n := 1) (v := 1) (by decide) ⟨by decide +kernel, rfl⟩ ?_
  refine z_ladd (pc' := 32) ⟨by decide +kernel, rfl⟩ ?_
  refine z_ldc2 (pc' := 35) (v := 2400) (ce_w0 18 rfl) ⟨by decide +kernel, rfl⟩ ?_
  refine z_lmul (pc' := 36) ⟨by decide +kernel, rfl⟩ ?_
  refine z_letL fun v8 => ?_
  refine z_lstore_n (pc' := 37) (k := 2) (i := 2) rfl (by decide) rfl ⟨by decide +kernel, rfl⟩ ?_
  refine z_lconst (pc' := 38) (n := 0) (v := 0) (by decide) ⟨by decide +kernel, rfl⟩ ?_
  refine z_lstore (pc' := 40) (i := 4) (by decide) rfl ⟨by decide +kernel, rfl⟩ ?_
  refine z_lv [2, 1, 0] (lv' := [(0, .ref (a 34)), (2, .long v8), (4, .long 0)]) rfl ?_
  exact ce_M_execute_L40_t n n g5 u7 v8 0
set_option maxRecDepth 20000 in
set_option maxHeartbeats 4000000 in
theorem cet_M_keptOnPaper {l : Launch} {ca : Nat → ClassId} {D : va_G} {a g : Nat → Nat} (n : Nat) (u : zMu) : zMet l (zCe ca D) ceY_M_keptOnPaper (.code ceY_M_keptOnPaper prog_6_method_33_code 1 (some .int)) zri true 1 a g [.ref (a 34)] u (ce_M_keptOnPaper n u) := by
  refine zMet.of rfl (Nat.le_of_ble_eq_true rfl) fun κ A hl => ?_
  subst hl
  unfold ce_M_keptOnPaper
  refine z_aload_n (pc' := 1) (k := 0) (i := 0) 0 rfl rfl ⟨by decide +kernel, rfl⟩ ?_
  refine z_getI (pc' := 4) (cef_M68_34 ca D) rfl ⟨by decide +kernel, rfl⟩ ?_
  refine z_sipush (pc' := 7) (n := 200) (v := 200) (by decide) ⟨by decide +kernel, rfl⟩ ?_
  refine z_mmin (pc' := 10) (ce_w0 19 rfl) (ce_w0 7 rfl) (ce_w0 4 rfl) (ce_w0 8 rfl) (by omega) (Nat.le_of_ble_eq_true rfl) ⟨by decide +kernel, rfl⟩ ?_
  refine z_letI fun v1 => ?_
  exact z_iret (pc' := 11) ⟨by decide +kernel, rfl⟩
set_option maxRecDepth 20000 in
set_option maxHeartbeats 4000000 in
theorem cet_M_tellOfRun {l : Launch} {ca : Nat → ClassId} {D : va_G} {a g : Nat → Nat} (n : Nat) (u : zMu) (x1 : Int32) : zMet l (zCe ca D) ceY_M_tellOfRun (.code ceY_M_tellOfRun prog_6_method_34_code 2 (some .int)) zri true 0 a g [.ref (a 34), .int x1] u (ce_M_tellOfRun n u x1) := by
  refine zMet.of rfl (Nat.le_of_ble_eq_true rfl) fun κ A hl => ?_
  subst hl
  unfold ce_M_tellOfRun
  refine z_iload_n (pc' := 1) (k := 1) (i := 1) 1 rfl rfl ⟨by decide +kernel, rfl⟩ ?_
  refine z_ite (fun h1 => ?_) (fun h1 => ?_)
  · refine z_tabIn (dflt := 90) (lo := 0) (hi := 6) (offs := #[43, 48, 53, 58, 63, 71, 82]) (len := 43) (off := 43) (tgt := 44) h1 (by decide +kernel) (by decide) (by decide) rfl rfl ?_
    refine z_aload_n (pc' := 45) (k := 0) (i := 0) 0 rfl rfl ⟨by decide +kernel, rfl⟩ ?_
    refine z_getI (pc' := 48) (cef_M87_34 ca D) rfl ⟨by decide +kernel, rfl⟩ ?_
    exact z_iret (pc' := 49) ⟨by decide +kernel, rfl⟩
  refine z_ite (fun h2 => ?_) (fun h2 => ?_)
  · refine z_tabIn (dflt := 90) (lo := 0) (hi := 6) (offs := #[43, 48, 53, 58, 63, 71, 82]) (len := 43) (off := 48) (tgt := 49) h2 (by decide +kernel) (by decide) (by decide) rfl rfl ?_
    refine z_aload_n (pc' := 50) (k := 0) (i := 0) 0 rfl rfl ⟨by decide +kernel, rfl⟩ ?_
    refine z_getI (pc' := 53) (cef_M90_34 ca D) rfl ⟨by decide +kernel, rfl⟩ ?_
    exact z_iret (pc' := 54) ⟨by decide +kernel, rfl⟩
  refine z_ite (fun h3 => ?_) (fun h3 => ?_)
  · refine z_tabIn (dflt := 90) (lo := 0) (hi := 6) (offs := #[43, 48, 53, 58, 63, 71, 82]) (len := 43) (off := 53) (tgt := 54) h3 (by decide +kernel) (by decide) (by decide) rfl rfl ?_
    refine z_aload_n (pc' := 55) (k := 0) (i := 0) 0 rfl rfl ⟨by decide +kernel, rfl⟩ ?_
    refine z_getI (pc' := 58) (cef_M81_34 ca D) rfl ⟨by decide +kernel, rfl⟩ ?_
    exact z_iret (pc' := 59) ⟨by decide +kernel, rfl⟩
  refine z_ite (fun h4 => ?_) (fun h4 => ?_)
  · refine z_tabIn (dflt := 90) (lo := 0) (hi := 6) (offs := #[43, 48, 53, 58, 63, 71, 82]) (len := 43) (off := 58) (tgt := 59) h4 (by decide +kernel) (by decide) (by decide) rfl rfl ?_
    refine z_aload_n (pc' := 60) (k := 0) (i := 0) 0 rfl rfl ⟨by decide +kernel, rfl⟩ ?_
    refine z_getI (pc' := 63) (cef_M84_34 ca D) rfl ⟨by decide +kernel, rfl⟩ ?_
    exact z_iret (pc' := 64) ⟨by decide +kernel, rfl⟩
  refine z_ite (fun h5 => ?_) (fun h5 => ?_)
  · refine z_tabIn (dflt := 90) (lo := 0) (hi := 6) (offs := #[43, 48, 53, 58, 63, 71, 82]) (len := 43) (off := 63) (tgt := 64) h5 (by decide +kernel) (by decide) (by decide) rfl rfl ?_
    refine z_aload_n (pc' := 65) (k := 0) (i := 0) 0 rfl rfl ⟨by decide +kernel, rfl⟩ ?_
    refine z_getR (pc' := 68) (cef_M12_34 ca D) rfl (y := a 36) rfl ⟨by decide +kernel, rfl⟩ ?_
    refine z_getI (pc' := 71) (cef_M350_36 ca D) rfl ⟨by decide +kernel, rfl⟩ ?_
    exact z_iret (pc' := 72) ⟨by decide +kernel, rfl⟩
  refine z_ite (fun h6 => ?_) (fun h6 => ?_)
  · refine z_tabIn (dflt := 90) (lo := 0) (hi := 6) (offs := #[43, 48, 53, 58, 63, 71, 82]) (len := 43) (off := 71) (tgt := 72) h6 (by decide +kernel) (by decide) (by decide) rfl rfl ?_
    refine z_aload_n (pc' := 73) (k := 0) (i := 0) 0 rfl rfl ⟨by decide +kernel, rfl⟩ ?_
    refine z_getR (pc' := 76) (cef_M12_34 ca D) rfl (y := a 36) rfl ⟨by decide +kernel, rfl⟩ ?_
    refine z_getR (pc' := 79) (cef_M353_36 ca D) rfl (y := a 43) rfl ⟨by decide +kernel, rfl⟩ ?_
    refine z_getI (pc' := 82) (cef_M357_43 ca D) rfl ⟨by decide +kernel, rfl⟩ ?_
    exact z_iret (pc' := 83) ⟨by decide +kernel, rfl⟩
  refine z_ite (fun h7 => ?_) (fun h7 => ?_)
  · refine z_tabIn (dflt := 90) (lo := 0) (hi := 6) (offs := #[43, 48, 53, 58, 63, 71, 82]) (len := 43) (off := 82) (tgt := 83) h7 (by decide +kernel) (by decide) (by decide) rfl rfl ?_
    refine z_aload_n (pc' := 84) (k := 0) (i := 0) 0 rfl rfl ⟨by decide +kernel, rfl⟩ ?_
    refine z_getR (pc' := 87) (cef_M21_34 ca D) rfl (y := a 45) rfl ⟨by decide +kernel, rfl⟩ ?_
    refine z_getI (pc' := 90) (cef_M360_45 ca D) rfl ⟨by decide +kernel, rfl⟩ ?_
    exact z_iret (pc' := 91) ⟨by decide +kernel, rfl⟩
  refine z_tabOut (dflt := 90) (lo := 0) (hi := 6) (offs := #[43, 48, 53, 58, 63, 71, 82]) (len := 43) (tgt := 91) (by decide +kernel) (by have h1' := lv_neT h1 (a := 0) (by decide); have h2' := lv_neT h2 (a := 1) (by decide); have h3' := lv_neT h3 (a := 2) (by decide); have h4' := lv_neT h4 (a := 3) (by decide); have h5' := lv_neT h5 (a := 4) (by decide); have h6' := lv_neT h6 (a := 5) (by decide); have h7' := lv_neT h7 (a := 6) (by decide); omega) rfl ?_
  refine z_aload_n (pc' := 92) (k := 0) (i := 0) 0 rfl rfl ⟨by decide +kernel, rfl⟩ ?_
  refine z_getI (pc' := 95) (cef_M68_34 ca D) rfl ⟨by decide +kernel, rfl⟩ ?_
  exact z_iret (pc' := 96) ⟨by decide +kernel, rfl⟩
set_option maxRecDepth 20000 in
set_option maxHeartbeats 4000000 in
theorem cet_M_tellOfCaches {l : Launch} {ca : Nat → ClassId} {D : va_G} {a g : Nat → Nat} (n : Nat) (u : zMu) (x1 : Int32) : zMet l (zCe ca D) ceY_M_tellOfCaches (.code ceY_M_tellOfCaches prog_6_method_35_code 2 (some .int)) zri true 0 a g [.ref (a 34), .int x1] u (ce_M_tellOfCaches n u x1) := by
  refine zMet.of rfl (Nat.le_of_ble_eq_true rfl) fun κ A hl => ?_
  subst hl
  unfold ce_M_tellOfCaches
  refine z_iload_n (pc' := 1) (k := 1) (i := 1) 1 rfl rfl ⟨by decide +kernel, rfl⟩ ?_
  refine z_ite (fun h1 => ?_) (fun h1 => ?_)
  · refine z_tabIn (dflt := 99) (lo := 8) (hi := 14) (offs := #[43, 51, 59, 67, 75, 83, 91]) (len := 43) (off := 43) (tgt := 44) h1 (by decide +kernel) (by decide) (by decide) rfl rfl ?_
    refine z_aload_n (pc' := 45) (k := 0) (i := 0) 0 rfl rfl ⟨by decide +kernel, rfl⟩ ?_
    refine z_getR (pc' := 48) (cef_M12_34 ca D) rfl (y := a 36) rfl ⟨by decide +kernel, rfl⟩ ?_
    refine z_getI (pc' := 51) (cef_M361_36 ca D) rfl ⟨by decide +kernel, rfl⟩ ?_
    exact z_iret (pc' := 52) ⟨by decide +kernel, rfl⟩
  refine z_ite (fun h2 => ?_) (fun h2 => ?_)
  · refine z_tabIn (dflt := 99) (lo := 8) (hi := 14) (offs := #[43, 51, 59, 67, 75, 83, 91]) (len := 43) (off := 51) (tgt := 52) h2 (by decide +kernel) (by decide) (by decide) rfl rfl ?_
    refine z_aload_n (pc' := 53) (k := 0) (i := 0) 0 rfl rfl ⟨by decide +kernel, rfl⟩ ?_
    refine z_getR (pc' := 56) (cef_M28_34 ca D) rfl (y := a 49) rfl ⟨by decide +kernel, rfl⟩ ?_
    refine z_getI (pc' := 59) (cef_M364_49 ca D) rfl ⟨by decide +kernel, rfl⟩ ?_
    exact z_iret (pc' := 60) ⟨by decide +kernel, rfl⟩
  refine z_ite (fun h3 => ?_) (fun h3 => ?_)
  · refine z_tabIn (dflt := 99) (lo := 8) (hi := 14) (offs := #[43, 51, 59, 67, 75, 83, 91]) (len := 43) (off := 59) (tgt := 60) h3 (by decide +kernel) (by decide) (by decide) rfl rfl ?_
    refine z_aload_n (pc' := 61) (k := 0) (i := 0) 0 rfl rfl ⟨by decide +kernel, rfl⟩ ?_
    refine z_getR (pc' := 64) (cef_M28_34 ca D) rfl (y := a 49) rfl ⟨by decide +kernel, rfl⟩ ?_
    refine z_getI (pc' := 67) (cef_M367_49 ca D) rfl ⟨by decide +kernel, rfl⟩ ?_
    exact z_iret (pc' := 68) ⟨by decide +kernel, rfl⟩
  refine z_ite (fun h4 => ?_) (fun h4 => ?_)
  · refine z_tabIn (dflt := 99) (lo := 8) (hi := 14) (offs := #[43, 51, 59, 67, 75, 83, 91]) (len := 43) (off := 67) (tgt := 68) h4 (by decide +kernel) (by decide) (by decide) rfl rfl ?_
    refine z_aload_n (pc' := 69) (k := 0) (i := 0) 0 rfl rfl ⟨by decide +kernel, rfl⟩ ?_
    refine z_getR (pc' := 72) (cef_M28_34 ca D) rfl (y := a 49) rfl ⟨by decide +kernel, rfl⟩ ?_
    refine z_getI (pc' := 75) (cef_M370_49 ca D) rfl ⟨by decide +kernel, rfl⟩ ?_
    exact z_iret (pc' := 76) ⟨by decide +kernel, rfl⟩
  refine z_ite (fun h5 => ?_) (fun h5 => ?_)
  · refine z_tabIn (dflt := 99) (lo := 8) (hi := 14) (offs := #[43, 51, 59, 67, 75, 83, 91]) (len := 43) (off := 75) (tgt := 76) h5 (by decide +kernel) (by decide) (by decide) rfl rfl ?_
    refine z_aload_n (pc' := 77) (k := 0) (i := 0) 0 rfl rfl ⟨by decide +kernel, rfl⟩ ?_
    refine z_getR (pc' := 80) (cef_M35_34 ca D) rfl (y := a 59) rfl ⟨by decide +kernel, rfl⟩ ?_
    refine z_getI (pc' := 83) (cef_M373_59 ca D) rfl ⟨by decide +kernel, rfl⟩ ?_
    exact z_iret (pc' := 84) ⟨by decide +kernel, rfl⟩
  refine z_ite (fun h6 => ?_) (fun h6 => ?_)
  · refine z_tabIn (dflt := 99) (lo := 8) (hi := 14) (offs := #[43, 51, 59, 67, 75, 83, 91]) (len := 43) (off := 83) (tgt := 84) h6 (by decide +kernel) (by decide) (by decide) rfl rfl ?_
    refine z_aload_n (pc' := 85) (k := 0) (i := 0) 0 rfl rfl ⟨by decide +kernel, rfl⟩ ?_
    refine z_getR (pc' := 88) (cef_M35_34 ca D) rfl (y := a 59) rfl ⟨by decide +kernel, rfl⟩ ?_
    refine z_getI (pc' := 91) (cef_M376_59 ca D) rfl ⟨by decide +kernel, rfl⟩ ?_
    exact z_iret (pc' := 92) ⟨by decide +kernel, rfl⟩
  refine z_ite (fun h7 => ?_) (fun h7 => ?_)
  · refine z_tabIn (dflt := 99) (lo := 8) (hi := 14) (offs := #[43, 51, 59, 67, 75, 83, 91]) (len := 43) (off := 91) (tgt := 92) h7 (by decide +kernel) (by decide) (by decide) rfl rfl ?_
    refine z_aload_n (pc' := 93) (k := 0) (i := 0) 0 rfl rfl ⟨by decide +kernel, rfl⟩ ?_
    refine z_getR (pc' := 96) (cef_M21_34 ca D) rfl (y := a 45) rfl ⟨by decide +kernel, rfl⟩ ?_
    refine z_getI (pc' := 99) (cef_M379_45 ca D) rfl ⟨by decide +kernel, rfl⟩ ?_
    exact z_iret (pc' := 100) ⟨by decide +kernel, rfl⟩
  refine z_tabOut (dflt := 99) (lo := 8) (hi := 14) (offs := #[43, 51, 59, 67, 75, 83, 91]) (len := 43) (tgt := 100) (by decide +kernel) (by have h1' := lv_neT h1 (a := 8) (by decide); have h2' := lv_neT h2 (a := 9) (by decide); have h3' := lv_neT h3 (a := 10) (by decide); have h4' := lv_neT h4 (a := 11) (by decide); have h5' := lv_neT h5 (a := 12) (by decide); have h6' := lv_neT h6 (a := 13) (by decide); have h7' := lv_neT h7 (a := 14) (by decide); omega) rfl ?_
  refine z_aload_n (pc' := 101) (k := 0) (i := 0) 0 rfl rfl ⟨by decide +kernel, rfl⟩ ?_
  refine z_getI (pc' := 104) (cef_M78_34 ca D) rfl ⟨by decide +kernel, rfl⟩ ?_
  exact z_iret (pc' := 105) ⟨by decide +kernel, rfl⟩
set_option maxRecDepth 20000 in
set_option maxHeartbeats 4000000 in
theorem cet_T_entryAt {l : Launch} {ca : Nat → ClassId} {D : va_G} {a g : Nat → Nat} (n : Nat) (u : zMu) (x1 : Int32) (x2 : Int32) : zMet l (zCe ca D) ceY_T_entryAt (.code ceY_T_entryAt prog_10_method_9_code 3 (some .int)) zri true 0 a g [.ref (a 49), .int x1, .int x2] u (ce_T_entryAt n u x1 x2) := by
  refine zMet.of rfl (Nat.le_of_ble_eq_true rfl) fun κ A hl => ?_
  subst hl
  unfold ce_T_entryAt
  refine z_iload_n (pc' := 1) (k := 2) (i := 2) 2 rfl rfl ⟨by decide +kernel, rfl⟩ ?_
  refine z_if_lt (pc' := 4) (tgt := 14) (off := 13) ⟨by decide +kernel, rfl⟩ rfl (fun h1 => ?_) (fun h1 => ?_)
  · refine z_iconst (pc' := 15) (n := (-1)) (v := (-1)) (by decide) ⟨by decide +kernel, rfl⟩ ?_
    refine z_goto (tgt := 28) (off := 13) (by decide +kernel) rfl ?_
    exact z_iret (pc' := 29) ⟨by decide +kernel, rfl⟩
  · refine z_iload_n (pc' := 5) (k := 2) (i := 2) 2 rfl rfl ⟨by decide +kernel, rfl⟩ ?_
    refine z_aload_n (pc' := 6) (k := 0) (i := 0) 0 rfl rfl ⟨by decide +kernel, rfl⟩ ?_
    refine z_getR (pc' := 9) (cef_T18_49 ca D) rfl (y := a 52) rfl ⟨by decide +kernel, rfl⟩ ?_
    refine z_iload_n (pc' := 10) (k := 1) (i := 1) 1 rfl rfl ⟨by decide +kernel, rfl⟩ ?_
    refine z_iald (pc' := 11) 52 rfl (zlt rfl) rfl rfl ⟨by decide +kernel, rfl⟩ ?_
    refine z_icmp_lt (pc' := 14) (tgt := 18) (off := 7) ⟨by decide +kernel, rfl⟩ rfl (fun h2 => ?_) (fun h2 => ?_)
    · refine z_aload_n (pc' := 19) (k := 0) (i := 0) 0 rfl rfl ⟨by decide +kernel, rfl⟩ ?_
      refine z_getR (pc' := 22) (cef_T27_49 ca D) rfl (y := a 55) rfl ⟨by decide +kernel, rfl⟩ ?_
      refine z_iload_n (pc' := 23) (k := 1) (i := 1) 1 rfl rfl ⟨by decide +kernel, rfl⟩ ?_
      refine z_iconst (pc' := 24) (n := 4) (v := 4) (by decide) ⟨by decide +kernel, rfl⟩ ?_
      refine z_imul (pc' := 25) ⟨by decide +kernel, rfl⟩ ?_
      refine z_iload_n (pc' := 26) (k := 2) (i := 2) 2 rfl rfl ⟨by decide +kernel, rfl⟩ ?_
      refine z_iadd (pc' := 27) ⟨by decide +kernel, rfl⟩ ?_
      refine z_iald (pc' := 28) 55 rfl (zlt rfl) rfl rfl ⟨by decide +kernel, rfl⟩ ?_
      exact z_iret (pc' := 29) ⟨by decide +kernel, rfl⟩
    · refine z_iconst (pc' := 15) (n := (-1)) (v := (-1)) (by decide) ⟨by decide +kernel, rfl⟩ ?_
      refine z_goto (tgt := 28) (off := 13) (by decide +kernel) rfl ?_
      exact z_iret (pc' := 29) ⟨by decide +kernel, rfl⟩
set_option maxRecDepth 20000 in
set_option maxHeartbeats 4000000 in
theorem cet_V_worthAt {l : Launch} {ca : Nat → ClassId} {D : va_G} {a g : Nat → Nat} (n : Nat) (v : Nat) (hv : zvl v = true) (u : zMu) (x1 : Int32) : zMet l (zCe ca D) ceY_V_worthAt (.code ceY_V_worthAt prog_11_method_7_code 2 (some .long)) zrl true 2 a g [.ref (a v), .int x1] u (ce_V_worthAt n v u x1) := by
  refine zMet.of rfl (Nat.le_of_ble_eq_true rfl) fun κ A hl => ?_
  subst hl
  unfold ce_V_worthAt
  refine z_aload_n (pc' := 1) (k := 0) (i := 0) 0 rfl rfl ⟨by decide +kernel, rfl⟩ ?_
  refine z_iload_n (pc' := 2) (k := 1) (i := 1) 1 rfl rfl ⟨by decide +kernel, rfl⟩ ?_
  refine z_callVf (pc' := 5) v (cet_V_isNumberAt n v hv u x1) (ceG_V49 ca D) (ceO_V ca D hv) (ce_adV0 hv) (by omega) rfl rfl (Nat.le_of_ble_eq_true rfl) ⟨by decide +kernel, rfl⟩ (fun r1 u2 => ?_)
  refine z_if_eq (pc' := 8) (tgt := 16) (off := 11) ⟨by decide +kernel, rfl⟩ rfl (fun h3 => ?_) (fun h3 => ?_)
  · refine z_lconst (pc' := 17) (n := 0) (v := 0) (by decide) ⟨by decide +kernel, rfl⟩ ?_
    exact z_lret (pc' := 18) ⟨by decide +kernel, rfl⟩
  · refine z_aload_n (pc' := 9) (k := 0) (i := 0) 0 rfl rfl ⟨by decide +kernel, rfl⟩ ?_
    refine z_iload_n (pc' := 10) (k := 1) (i := 1) 1 rfl rfl ⟨by decide +kernel, rfl⟩ ?_
    refine z_callVf (pc' := 13) v (cet_V_numberAt n v hv u2 x1) (ceG_V53 ca D) (ceO_V ca D hv) (ce_adV0 hv) (by omega) rfl rfl (Nat.le_of_ble_eq_true rfl) ⟨by decide +kernel, rfl⟩ (fun r4 u5 => ?_)
    refine z_goto (tgt := 17) (off := 4) (by decide +kernel) rfl ?_
    exact z_lret (pc' := 18) ⟨by decide +kernel, rfl⟩
set_option maxRecDepth 20000 in
set_option maxHeartbeats 4000000 in
theorem cet_V_referenceAt {l : Launch} {ca : Nat → ClassId} {D : va_G} {a g : Nat → Nat} (n : Nat) (v : Nat) (hv : zvl v = true) (u : zMu) (x1 : Int32) : zMet l (zCe ca D) ceY_V_referenceAt (.code ceY_V_referenceAt prog_11_method_8_code 2 (some .int)) zri true 2 a g [.ref (a v), .int x1] u (ce_V_referenceAt n v u x1) := by
  refine zMet.of rfl (Nat.le_of_ble_eq_true rfl) fun κ A hl => ?_
  subst hl
  unfold ce_V_referenceAt
  refine z_aload_n (pc' := 1) (k := 0) (i := 0) 0 rfl rfl ⟨by decide +kernel, rfl⟩ ?_
  refine z_iload_n (pc' := 2) (k := 1) (i := 1) 1 rfl rfl ⟨by decide +kernel, rfl⟩ ?_
  refine z_callVf (pc' := 5) v (cet_V_isNumberAt n v hv u x1) (ceG_V49 ca D) (ceO_V ca D hv) (ce_adV0 hv) (by omega) rfl rfl (Nat.le_of_ble_eq_true rfl) ⟨by decide +kernel, rfl⟩ (fun r1 u2 => ?_)
  refine z_if_eq (pc' := 8) (tgt := 12) (off := 7) ⟨by decide +kernel, rfl⟩ rfl (fun h3 => ?_) (fun h3 => ?_)
  · refine z_aload_n (pc' := 13) (k := 0) (i := 0) 0 rfl rfl ⟨by decide +kernel, rfl⟩ ?_
    refine z_iload_n (pc' := 14) (k := 1) (i := 1) 1 rfl rfl ⟨by decide +kernel, rfl⟩ ?_
    refine z_callVf (pc' := 17) v (cet_V_numberAt n v hv u2 x1) (ceG_V53 ca D) (ceO_V ca D hv) (ce_adV0 hv) (by omega) rfl rfl (Nat.le_of_ble_eq_true rfl) ⟨by decide +kernel, rfl⟩ (fun r4 u5 => ?_)
    refine z_l2i (pc' := 18) ⟨by decide +kernel, rfl⟩ ?_
    exact z_iret (pc' := 19) ⟨by decide +kernel, rfl⟩
  · refine z_iconst (pc' := 9) (n := 0) (v := 0) (by decide) ⟨by decide +kernel, rfl⟩ ?_
    refine z_goto (tgt := 18) (off := 9) (by decide +kernel) rfl ?_
    exact z_iret (pc' := 19) ⟨by decide +kernel, rfl⟩
set_option maxRecDepth 20000 in
set_option maxHeartbeats 4000000 in
theorem ce_E_feed_L32_t {κ : zKx} {ca : Nat → ClassId} {D : va_G} {A : Nat → Prop} {c0 : Nat × Nat} {a g0 g : Nat → Nat} (n : Nat) : ∀ (m : Nat) (u : zMu) (x1 : Int32) (x2 : Int64) (x4 : Int32), zJ κ (zCe ca D) prog_1_method_2_code 5 ce_RE (some .int) zri true 0 A c0 a g0 g u 32 [(0, .ref (a 0)), (1, .int x1), (2, .long x2), (4, .int x4)] [] (ce_E_feed_L32 n m u x1 x2 x4) := by
  intro m
  induction m with
  | zero => intro u x1 x2 x4 r u' h; cases h
  | succ m ih =>
    intro u x1 x2 x4
    unfold ce_E_feed_L32
    refine z_iload (pc' := 34) (i := 4) 3 rfl ⟨by decide +kernel, rfl⟩ ?_
    refine z_iload_n (pc' := 35) (k := 1) (i := 1) 1 rfl rfl ⟨by decide +kernel, rfl⟩ ?_
    refine z_icmp_ge (pc' := 38) (tgt := 65) (off := 30) ⟨by decide +kernel, rfl⟩ rfl (fun h1 => ?_) (fun h1 => ?_)
    · refine z_aload_n (pc' := 39) (k := 0) (i := 0) 0 rfl rfl ⟨by decide +kernel, rfl⟩ ?_
      refine z_getR (pc' := 42) (cef_E9_0 ca D) rfl (y := a 1) rfl ⟨by decide +kernel, rfl⟩ ?_
      refine z_aload_n (pc' := 43) (k := 0) (i := 0) 0 rfl rfl ⟨by decide +kernel, rfl⟩ ?_
      refine z_getI (pc' := 46) (cef_E41_0 ca D) rfl ⟨by decide +kernel, rfl⟩ ?_
      refine z_iload (pc' := 48) (i := 4) 3 rfl ⟨by decide +kernel, rfl⟩ ?_
      refine z_iadd (pc' := 49) ⟨by decide +kernel, rfl⟩ ?_
      refine z_lload_n (pc' := 50) (k := 2) (i := 2) 2 rfl rfl ⟨by decide +kernel, rfl⟩ ?_
      refine z_bipush (pc' := 52) (n := 8) (v := 8) (by decide) ⟨by decide +kernel, rfl⟩ ?_
      refine z_iload (pc' := 54) (i := 4) 3 rfl ⟨by decide +kernel, rfl⟩ ?_
      refine z_imul (pc' := 55) ⟨by decide +kernel, rfl⟩ ?_
      refine z_lushr (pc' := 56) ⟨by decide +kernel, rfl⟩ ?_
      refine z_l2i (pc' := 57) ⟨by decide +kernel, rfl⟩ ?_
      refine z_i2b (pc' := 58) ⟨by decide +kernel, rfl⟩ ?_
      refine z_bast (pc' := 59) 1 rfl (zlt rfl) rfl rfl ⟨by decide +kernel, rfl⟩ (z_letU fun u2 => ?_)
      refine z_iincN (pc' := 62) (i := 4) (n := 1) (c := 1) 3 rfl (by decide) (by decide) rfl ⟨by decide +kernel, rfl⟩ fun v3 => ?_
      refine z_goto (tgt := 32) (off := -30) (by decide +kernel) rfl ?_
      refine z_lv [1, 2, 3, 0] (lv' := [(0, .ref (a 0)), (1, .int x1), (2, .long x2), (4, .int v3)]) rfl ?_
      exact ih u2 x1 x2 v3
    · refine z_aload_n (pc' := 66) (k := 0) (i := 0) 0 rfl rfl ⟨by decide +kernel, rfl⟩ ?_
      refine z_dup (pc' := 67) rfl ⟨by decide +kernel, rfl⟩ ?_
      refine z_getI (pc' := 70) (cef_E41_0 ca D) rfl ⟨by decide +kernel, rfl⟩ ?_
      refine z_iload_n (pc' := 71) (k := 1) (i := 1) 1 rfl rfl ⟨by decide +kernel, rfl⟩ ?_
      refine z_iadd (pc' := 72) ⟨by decide +kernel, rfl⟩ ?_
      refine z_putI (pc' := 75) (cef_E41_0 ca D) rfl ⟨by decide +kernel, rfl⟩ (z_letU fun u4 => ?_)
      refine z_aload_n (pc' := 76) (k := 0) (i := 0) 0 rfl rfl ⟨by decide +kernel, rfl⟩ ?_
      refine z_getI (pc' := 79) (cef_E41_0 ca D) rfl ⟨by decide +kernel, rfl⟩ ?_
      exact z_iret (pc' := 80) ⟨by decide +kernel, rfl⟩
set_option maxRecDepth 20000 in
set_option maxHeartbeats 4000000 in
theorem cet_E_feed {l : Launch} {ca : Nat → ClassId} {D : va_G} {a g : Nat → Nat} (n : Nat) (u : zMu) (x1 : Int32) (x2 : Int64) : zMet l (zCe ca D) ceY_E_feed (.code ceY_E_feed prog_1_method_2_code 5 (some .int)) zri true 0 a g [.ref (a 0), .int x1, .long x2] u (ce_E_feed n u x1 x2) := by
  refine zMet.of rfl (Nat.le_of_ble_eq_true rfl) fun κ A hl => ?_
  subst hl
  unfold ce_E_feed
  refine z_iload_n (pc' := 1) (k := 1) (i := 1) 1 rfl rfl ⟨by decide +kernel, rfl⟩ ?_
  refine z_iconst (pc' := 2) (n := 1) (v := 1) (by decide) ⟨by decide +kernel, rfl⟩ ?_
  refine z_icmp_lt (pc' := 5) (tgt := 11) (off := 9) ⟨by decide +kernel, rfl⟩ rfl (fun h1 => ?_) (fun h1 => ?_)
  · refine z_bipush (pc' := 13) (n := (-2)) (v := (-2)) (by decide) ⟨by decide +kernel, rfl⟩ ?_
    exact z_iret (pc' := 14) ⟨by decide +kernel, rfl⟩
  · refine z_iload_n (pc' := 6) (k := 1) (i := 1) 1 rfl rfl ⟨by decide +kernel, rfl⟩ ?_
    refine z_bipush (pc' := 8) (n := 8) (v := 8) (by decide) ⟨by decide +kernel, rfl⟩ ?_
    refine z_icmp_le (pc' := 11) (tgt := 14) (off := 6) ⟨by decide +kernel, rfl⟩ rfl (fun h2 => ?_) (fun h2 => ?_)
    · refine z_bipush (pc' := 13) (n := (-2)) (v := (-2)) (by decide) ⟨by decide +kernel, rfl⟩ ?_
      exact z_iret (pc' := 14) ⟨by decide +kernel, rfl⟩
    · refine z_aload_n (pc' := 15) (k := 0) (i := 0) 0 rfl rfl ⟨by decide +kernel, rfl⟩ ?_
      refine z_getI (pc' := 18) (cef_E41_0 ca D) rfl ⟨by decide +kernel, rfl⟩ ?_
      refine z_iload_n (pc' := 19) (k := 1) (i := 1) 1 rfl rfl ⟨by decide +kernel, rfl⟩ ?_
      refine z_iadd (pc' := 20) ⟨by decide +kernel, rfl⟩ ?_
      refine z_sipush (pc' := 23) (n := 1500) (v := 1500) (by decide) ⟨by decide +kernel, rfl⟩ ?_
      refine z_icmp_le (pc' := 26) (tgt := 29) (off := 6) ⟨by decide +kernel, rfl⟩ rfl (fun h3 => ?_) (fun h3 => ?_)
      · refine z_bipush (pc' := 28) (n := (-4)) (v := (-4)) (by decide) ⟨by decide +kernel, rfl⟩ ?_
        exact z_iret (pc' := 29) ⟨by decide +kernel, rfl⟩
      · refine z_iconst (pc' := 30) (n := 0) (v := 0) (by decide) ⟨by decide +kernel, rfl⟩ ?_
        refine z_istore (pc' := 32) (i := 4) (by decide) rfl ⟨by decide +kernel, rfl⟩ ?_
        refine z_lv [1, 2, 3, 0] (lv' := [(0, .ref (a 0)), (1, .int x1), (2, .long x2), (4, .int 0)]) rfl ?_
        exact ce_E_feed_L32_t n n u x1 x2 0
set_option maxRecDepth 20000 in
set_option maxHeartbeats 4000000 in
theorem cet_E_read {l : Launch} {ca : Nat → ClassId} {D : va_G} {a g : Nat → Nat} (n k : Nat) (u : zMu) : zMet l (zCe ca D) ceY_E_read (.code ceY_E_read prog_1_method_3_code 2 (some .int)) zri true (2 * k + 11) a g [.ref (a 0)] u (ce_E_read n k u) := by
  refine zMet.of rfl (Nat.le_of_ble_eq_true rfl) fun κ A hl => ?_
  subst hl
  unfold ce_E_read
  refine z_aload_n (pc' := 1) (k := 0) (i := 0) 0 rfl rfl ⟨by decide +kernel, rfl⟩ ?_
  refine z_getR (pc' := 4) (cef_E16_0 ca D) rfl (y := a 2) rfl ⟨by decide +kernel, rfl⟩ ?_
  refine z_aload_n (pc' := 5) (k := 0) (i := 0) 0 rfl rfl ⟨by decide +kernel, rfl⟩ ?_
  refine z_getR (pc' := 8) (cef_E9_0 ca D) rfl (y := a 1) rfl ⟨by decide +kernel, rfl⟩ ?_
  refine z_aload_n (pc' := 9) (k := 0) (i := 0) 0 rfl rfl ⟨by decide +kernel, rfl⟩ ?_
  refine z_getI (pc' := 12) (cef_E41_0 ca D) rfl ⟨by decide +kernel, rfl⟩ ?_
  refine z_aload_n (pc' := 13) (k := 0) (i := 0) 0 rfl rfl ⟨by decide +kernel, rfl⟩ ?_
  refine z_getG (pc' := 16) (cef_E34_0 ca D) rfl (fun _ h => ⟨zpr_n0 h, ce_adP0 h⟩) ⟨by decide +kernel, rfl⟩ fun p1 hp1 => ?_
  refine z_callVf (pc' := 19) 2 (cet_C_compile n k p1 hp1 u (zI u 0 1)) (ceG_E45 ca D) (ceO_2 ca D) rfl (by omega) rfl rfl (Nat.le_of_ble_eq_true rfl) ⟨by decide +kernel, rfl⟩ (fun _ u3 => ?_)
  refine z_aload_n (pc' := 20) (k := 0) (i := 0) 0 rfl rfl ⟨by decide +kernel, rfl⟩ ?_
  refine z_iconst (pc' := 21) (n := 0) (v := 0) (by decide) ⟨by decide +kernel, rfl⟩ ?_
  refine z_putI (pc' := 24) (cef_E41_0 ca D) rfl ⟨by decide +kernel, rfl⟩ (z_letU fun u4 => ?_)
  refine z_aload_n (pc' := 25) (k := 0) (i := 0) 0 rfl rfl ⟨by decide +kernel, rfl⟩ ?_
  refine z_getR (pc' := 28) (cef_E16_0 ca D) rfl (y := a 2) rfl ⟨by decide +kernel, rfl⟩ ?_
  refine z_getI (pc' := 31) (cef_E49_2 ca D) rfl ⟨by decide +kernel, rfl⟩ ?_
  refine z_if_eq (pc' := 34) (tgt := 45) (off := 14) ⟨by decide +kernel, rfl⟩ rfl (fun h5 => ?_) (fun h5 => ?_)
  · refine z_aload_n (pc' := 46) (k := 0) (i := 0) 0 rfl rfl ⟨by decide +kernel, rfl⟩ ?_
    refine z_getG (pc' := 49) (cef_E30_0 ca D) rfl (fun _ h => ⟨zpr_n0 h, ce_adP0 h⟩) ⟨by decide +kernel, rfl⟩ fun p6 hp6 => ?_
    refine z_astore_n (pc' := 50) (k := 1) (i := 1) rfl (by decide) rfl ⟨by decide +kernel, rfl⟩ ?_
    refine z_aload_n (pc' := 51) (k := 0) (i := 0) 1 rfl rfl ⟨by decide +kernel, rfl⟩ ?_
    refine z_aload_n (pc' := 52) (k := 0) (i := 0) 1 rfl rfl ⟨by decide +kernel, rfl⟩ ?_
    refine z_getG (pc' := 55) (cef_E34_0 ca D) rfl (fun _ h => ⟨zpr_n0 h, ce_adP0 h⟩) ⟨by decide +kernel, rfl⟩ fun p7 hp7 => ?_
    refine z_putM (pc' := 58) (v := p7) (cef_E30_0 ca D) rfl (zpr_n0 hp7) (ce_adP0 hp7) ⟨by decide +kernel, rfl⟩ (z_letU fun u8 => ?_)
    refine z_aload_n (pc' := 59) (k := 0) (i := 0) 1 rfl rfl ⟨by decide +kernel, rfl⟩ ?_
    refine z_aload_n (pc' := 60) (k := 1) (i := 1) 0 rfl rfl ⟨by decide +kernel, rfl⟩ ?_
    refine z_putM (pc' := 63) (v := p6) (cef_E34_0 ca D) rfl (zpr_n0 hp6) (ce_adP0 hp6) ⟨by decide +kernel, rfl⟩ (z_letU fun u9 => ?_)
    refine z_aload_n (pc' := 64) (k := 0) (i := 0) 1 rfl rfl ⟨by decide +kernel, rfl⟩ ?_
    refine z_iconst (pc' := 65) (n := 1) (v := 1) (by decide) ⟨by decide +kernel, rfl⟩ ?_
    refine z_putZ (pc' := 68) (cef_E52_0 ca D) rfl (by decide) ⟨by decide +kernel, rfl⟩ (z_letU fun u10 => ?_)
    refine z_aload_n (pc' := 69) (k := 0) (i := 0) 1 rfl rfl ⟨by decide +kernel, rfl⟩ ?_
    refine z_getR (pc' := 72) (cef_E23_0 ca D) rfl (y := a 34) rfl ⟨by decide +kernel, rfl⟩ ?_
    refine z_aload_n (pc' := 73) (k := 0) (i := 0) 1 rfl rfl ⟨by decide +kernel, rfl⟩ ?_
    refine z_getG (pc' := 76) (cef_E30_0 ca D) rfl (fun _ h => ⟨zpr_n0 h, ce_adP0 h⟩) ⟨by decide +kernel, rfl⟩ fun p11 hp11 => ?_
    refine z_callVf (pc' := 79) 34 (cet_M_load n p11 hp11 u10) (ceG_E37 ca D) (ceO_34 ca D) rfl (by omega) rfl rfl (Nat.le_of_ble_eq_true rfl) ⟨by decide +kernel, rfl⟩ (fun _ u13 => ?_)
    refine z_aload_n (pc' := 80) (k := 0) (i := 0) 1 rfl rfl ⟨by decide +kernel, rfl⟩ ?_
    refine z_getG (pc' := 83) (cef_E30_0 ca D) rfl (fun _ h => ⟨zpr_n0 h, ce_adP0 h⟩) ⟨by decide +kernel, rfl⟩ fun p14 hp14 => ?_
    refine z_getI (pc' := 86) (cef_E56_P ca D hp14) (ce_adP0 hp14) ⟨by decide +kernel, rfl⟩ ?_
    exact z_iret (pc' := 87) ⟨by decide +kernel, rfl⟩
  · refine z_bipush (pc' := 36) (n := (-10)) (v := (-10)) (by decide) ⟨by decide +kernel, rfl⟩ ?_
    refine z_aload_n (pc' := 37) (k := 0) (i := 0) 0 rfl rfl ⟨by decide +kernel, rfl⟩ ?_
    refine z_getR (pc' := 40) (cef_E16_0 ca D) rfl (y := a 2) rfl ⟨by decide +kernel, rfl⟩ ?_
    refine z_getI (pc' := 43) (cef_E49_2 ca D) rfl ⟨by decide +kernel, rfl⟩ ?_
    refine z_isub (pc' := 44) ⟨by decide +kernel, rfl⟩ ?_
    exact z_iret (pc' := 45) ⟨by decide +kernel, rfl⟩
set_option maxRecDepth 20000 in
set_option maxHeartbeats 4000000 in
theorem cet_E_fault {l : Launch} {ca : Nat → ClassId} {D : va_G} {a g : Nat → Nat} (n : Nat) (u : zMu) (x1 : Int32) : zMet l (zCe ca D) ceY_E_fault (.code ceY_E_fault prog_1_method_4_code 2 (some .int)) zri true 0 a g [.ref (a 0), .int x1] u (ce_E_fault n u x1) := by
  refine zMet.of rfl (Nat.le_of_ble_eq_true rfl) fun κ A hl => ?_
  subst hl
  unfold ce_E_fault
  refine z_iload_n (pc' := 1) (k := 1) (i := 1) 1 rfl rfl ⟨by decide +kernel, rfl⟩ ?_
  refine z_if_ne (pc' := 4) (tgt := 12) (off := 11) ⟨by decide +kernel, rfl⟩ rfl (fun h1 => ?_) (fun h1 => ?_)
  · refine z_aload_n (pc' := 5) (k := 0) (i := 0) 0 rfl rfl ⟨by decide +kernel, rfl⟩ ?_
    refine z_getR (pc' := 8) (cef_E16_0 ca D) rfl (y := a 2) rfl ⟨by decide +kernel, rfl⟩ ?_
    refine z_getI (pc' := 11) (cef_E49_2 ca D) rfl ⟨by decide +kernel, rfl⟩ ?_
    exact z_iret (pc' := 12) ⟨by decide +kernel, rfl⟩
  · refine z_iload_n (pc' := 13) (k := 1) (i := 1) 1 rfl rfl ⟨by decide +kernel, rfl⟩ ?_
    refine z_iconst (pc' := 14) (n := 1) (v := 1) (by decide) ⟨by decide +kernel, rfl⟩ ?_
    refine z_icmp_ne (pc' := 17) (tgt := 27) (off := 13) ⟨by decide +kernel, rfl⟩ rfl (fun h2 => ?_) (fun h2 => ?_)
    · refine z_aload_n (pc' := 18) (k := 0) (i := 0) 0 rfl rfl ⟨by decide +kernel, rfl⟩ ?_
      refine z_getR (pc' := 21) (cef_E16_0 ca D) rfl (y := a 2) rfl ⟨by decide +kernel, rfl⟩ ?_
      refine z_getI (pc' := 24) (cef_E59_2 ca D) rfl ⟨by decide +kernel, rfl⟩ ?_
      refine z_goto (tgt := 29) (off := 5) (by decide +kernel) rfl ?_
      exact z_iret (pc' := 30) ⟨by decide +kernel, rfl⟩
    · refine z_bipush (pc' := 29) (n := (-2)) (v := (-2)) (by decide) ⟨by decide +kernel, rfl⟩ ?_
      exact z_iret (pc' := 30) ⟨by decide +kernel, rfl⟩
set_option maxRecDepth 20000 in
set_option maxHeartbeats 4000000 in
theorem cet_E_run {l : Launch} {ca : Nat → ClassId} {D : va_G} {a g : Nat → Nat} (n : Nat) (u : zMu) (x1 : Int32) : zMet l (zCe ca D) ceY_E_run (.code ceY_E_run prog_1_method_5_code 2 (some .int)) zri false 9 a g [.ref (a 0), .int x1] u (ce_E_run n u x1) := by
  refine zMet.of rfl (Nat.le_of_ble_eq_true rfl) fun κ A hl => ?_
  subst hl
  unfold ce_E_run
  refine z_iload_n (pc' := 1) (k := 1) (i := 1) 1 rfl rfl ⟨by decide +kernel, rfl⟩ ?_
  refine z_iconst (pc' := 2) (n := 1) (v := 1) (by decide) ⟨by decide +kernel, rfl⟩ ?_
  refine z_icmp_lt (pc' := 5) (tgt := 12) (off := 10) ⟨by decide +kernel, rfl⟩ rfl (fun h1 => ?_) (fun h1 => ?_)
  · refine z_bipush (pc' := 14) (n := (-2)) (v := (-2)) (by decide) ⟨by decide +kernel, rfl⟩ ?_
    exact z_iret (pc' := 15) ⟨by decide +kernel, rfl⟩
  · refine z_iload_n (pc' := 6) (k := 1) (i := 1) 1 rfl rfl ⟨by decide +kernel, rfl⟩ ?_
    refine z_sipush (pc' := 9) (n := 20000) (v := 20000) (by decide) ⟨by decide +kernel, rfl⟩ ?_
    refine z_icmp_le (pc' := 12) (tgt := 15) (off := 6) ⟨by decide +kernel, rfl⟩ rfl (fun h2 => ?_) (fun h2 => ?_)
    · refine z_bipush (pc' := 14) (n := (-2)) (v := (-2)) (by decide) ⟨by decide +kernel, rfl⟩ ?_
      exact z_iret (pc' := 15) ⟨by decide +kernel, rfl⟩
    · refine z_aload_n (pc' := 16) (k := 0) (i := 0) 0 rfl rfl ⟨by decide +kernel, rfl⟩ ?_
      refine z_getI (pc' := 19) (cef_E52_0 ca D) rfl ⟨by decide +kernel, rfl⟩ ?_
      refine z_if_ne (pc' := 22) (tgt := 25) (off := 6) ⟨by decide +kernel, rfl⟩ rfl (fun h3 => ?_) (fun h3 => ?_)
      · refine z_bipush (pc' := 24) (n := (-3)) (v := (-3)) (by decide) ⟨by decide +kernel, rfl⟩ ?_
        exact z_iret (pc' := 25) ⟨by decide +kernel, rfl⟩
      · refine z_aload_n (pc' := 26) (k := 0) (i := 0) 0 rfl rfl ⟨by decide +kernel, rfl⟩ ?_
        refine z_getR (pc' := 29) (cef_E23_0 ca D) rfl (y := a 34) rfl ⟨by decide +kernel, rfl⟩ ?_
        refine z_aload_n (pc' := 30) (k := 0) (i := 0) 0 rfl rfl ⟨by decide +kernel, rfl⟩ ?_
        refine z_getG (pc' := 33) (cef_E30_0 ca D) rfl (fun _ h => ⟨zpr_n0 h, ce_adP0 h⟩) ⟨by decide +kernel, rfl⟩ fun p4 hp4 => ?_
        refine z_callVf (pc' := 36) 34 (cet_M_load n p4 hp4 u) (ceG_E37 ca D) (ceO_34 ca D) rfl (by omega) rfl rfl (Nat.le_of_ble_eq_true rfl) ⟨by decide +kernel, rfl⟩ (fun _ u6 => ?_)
        refine z_aload_n (pc' := 37) (k := 0) (i := 0) 0 rfl rfl ⟨by decide +kernel, rfl⟩ ?_
        refine z_getR (pc' := 40) (cef_E23_0 ca D) rfl (y := a 34) rfl ⟨by decide +kernel, rfl⟩ ?_
        refine z_iload_n (pc' := 41) (k := 1) (i := 1) 1 rfl rfl ⟨by decide +kernel, rfl⟩ ?_
        refine z_callV (pc' := 44) 34 (cet_M_execute n u6 x1) (ceG_E62 ca D) (ceO_34 ca D) rfl (fun h => by cases h) (by omega) rfl rfl (Nat.le_of_ble_eq_true rfl) ⟨by decide +kernel, rfl⟩ (fun r8 u9 g7 _ => ?_)
        exact z_iret (pc' := 45) ⟨by decide +kernel, rfl⟩
set_option maxRecDepth 20000 in
set_option maxHeartbeats 4000000 in
theorem cet_E_told {l : Launch} {ca : Nat → ClassId} {D : va_G} {a g : Nat → Nat} (n : Nat) (u : zMu) (x1 : Int32) : zMet l (zCe ca D) ceY_E_told (.code ceY_E_told prog_1_method_6_code 2 (some .int)) zri true 1 a g [.ref (a 0), .int x1] u (ce_E_told n u x1) := by
  refine zMet.of rfl (Nat.le_of_ble_eq_true rfl) fun κ A hl => ?_
  subst hl
  unfold ce_E_told
  refine z_iload_n (pc' := 1) (k := 1) (i := 1) 1 rfl rfl ⟨by decide +kernel, rfl⟩ ?_
  refine z_if_lt (pc' := 4) (tgt := 10) (off := 9) ⟨by decide +kernel, rfl⟩ rfl (fun h1 => ?_) (fun h1 => ?_)
  · refine z_bipush (pc' := 12) (n := (-2)) (v := (-2)) (by decide) ⟨by decide +kernel, rfl⟩ ?_
    exact z_iret (pc' := 13) ⟨by decide +kernel, rfl⟩
  · refine z_iload_n (pc' := 5) (k := 1) (i := 1) 1 rfl rfl ⟨by decide +kernel, rfl⟩ ?_
    refine z_bipush (pc' := 7) (n := 15) (v := 15) (by decide) ⟨by decide +kernel, rfl⟩ ?_
    refine z_icmp_le (pc' := 10) (tgt := 13) (off := 6) ⟨by decide +kernel, rfl⟩ rfl (fun h2 => ?_) (fun h2 => ?_)
    · refine z_bipush (pc' := 12) (n := (-2)) (v := (-2)) (by decide) ⟨by decide +kernel, rfl⟩ ?_
      exact z_iret (pc' := 13) ⟨by decide +kernel, rfl⟩
    · refine z_iload_n (pc' := 14) (k := 1) (i := 1) 1 rfl rfl ⟨by decide +kernel, rfl⟩ ?_
      refine z_bipush (pc' := 16) (n := 8) (v := 8) (by decide) ⟨by decide +kernel, rfl⟩ ?_
      refine z_icmp_ge (pc' := 19) (tgt := 30) (off := 14) ⟨by decide +kernel, rfl⟩ rfl (fun h3 => ?_) (fun h3 => ?_)
      · refine z_aload_n (pc' := 20) (k := 0) (i := 0) 0 rfl rfl ⟨by decide +kernel, rfl⟩ ?_
        refine z_getR (pc' := 23) (cef_E23_0 ca D) rfl (y := a 34) rfl ⟨by decide +kernel, rfl⟩ ?_
        refine z_iload_n (pc' := 24) (k := 1) (i := 1) 1 rfl rfl ⟨by decide +kernel, rfl⟩ ?_
        refine z_callVf (pc' := 27) 34 (cet_M_tellOfRun n u x1) (ceG_E66 ca D) (ceO_34 ca D) rfl (by omega) rfl rfl (Nat.le_of_ble_eq_true rfl) ⟨by decide +kernel, rfl⟩ (fun r4 u5 => ?_)
        refine z_goto (tgt := 38) (off := 11) (by decide +kernel) rfl ?_
        exact z_iret (pc' := 39) ⟨by decide +kernel, rfl⟩
      · refine z_aload_n (pc' := 31) (k := 0) (i := 0) 0 rfl rfl ⟨by decide +kernel, rfl⟩ ?_
        refine z_getR (pc' := 34) (cef_E23_0 ca D) rfl (y := a 34) rfl ⟨by decide +kernel, rfl⟩ ?_
        refine z_iload_n (pc' := 35) (k := 1) (i := 1) 1 rfl rfl ⟨by decide +kernel, rfl⟩ ?_
        refine z_callVf (pc' := 38) 34 (cet_M_tellOfCaches n u x1) (ceG_E69 ca D) (ceO_34 ca D) rfl (by omega) rfl rfl (Nat.le_of_ble_eq_true rfl) ⟨by decide +kernel, rfl⟩ (fun r6 u7 => ?_)
        exact z_iret (pc' := 39) ⟨by decide +kernel, rfl⟩
set_option maxRecDepth 20000 in
set_option maxHeartbeats 4000000 in
theorem cet_E_paper {l : Launch} {ca : Nat → ClassId} {D : va_G} {a g : Nat → Nat} (n : Nat) (u : zMu) (x1 : Int32) (x2 : Int32) : zMet l (zCe ca D) ceY_E_paper (.code ceY_E_paper prog_1_method_7_code 3 (some .int)) zri true 3 a g [.ref (a 0), .int x1, .int x2] u (ce_E_paper n u x1 x2) := by
  refine zMet.of rfl (Nat.le_of_ble_eq_true rfl) fun κ A hl => ?_
  subst hl
  unfold ce_E_paper
  refine z_iload_n (pc' := 1) (k := 2) (i := 2) 2 rfl rfl ⟨by decide +kernel, rfl⟩ ?_
  refine z_if_lt (pc' := 4) (tgt := 9) (off := 8) ⟨by decide +kernel, rfl⟩ rfl (fun h1 => ?_) (fun h1 => ?_)
  · refine z_bipush (pc' := 11) (n := (-2)) (v := (-2)) (by decide) ⟨by decide +kernel, rfl⟩ ?_
    exact z_iret (pc' := 12) ⟨by decide +kernel, rfl⟩
  · refine z_iload_n (pc' := 5) (k := 2) (i := 2) 2 rfl rfl ⟨by decide +kernel, rfl⟩ ?_
    refine z_iconst (pc' := 6) (n := 1) (v := 1) (by decide) ⟨by decide +kernel, rfl⟩ ?_
    refine z_icmp_le (pc' := 9) (tgt := 12) (off := 6) ⟨by decide +kernel, rfl⟩ rfl (fun h2 => ?_) (fun h2 => ?_)
    · refine z_bipush (pc' := 11) (n := (-2)) (v := (-2)) (by decide) ⟨by decide +kernel, rfl⟩ ?_
      exact z_iret (pc' := 12) ⟨by decide +kernel, rfl⟩
    · refine z_iload_n (pc' := 13) (k := 1) (i := 1) 1 rfl rfl ⟨by decide +kernel, rfl⟩ ?_
      refine z_if_lt (pc' := 16) (tgt := 27) (off := 14) ⟨by decide +kernel, rfl⟩ rfl (fun h3 => ?_) (fun h3 => ?_)
      · refine z_iconst (pc' := 28) (n := (-1)) (v := (-1)) (by decide) ⟨by decide +kernel, rfl⟩ ?_
        exact z_iret (pc' := 29) ⟨by decide +kernel, rfl⟩
      · refine z_iload_n (pc' := 17) (k := 1) (i := 1) 1 rfl rfl ⟨by decide +kernel, rfl⟩ ?_
        refine z_aload_n (pc' := 18) (k := 0) (i := 0) 0 rfl rfl ⟨by decide +kernel, rfl⟩ ?_
        refine z_getR (pc' := 21) (cef_E23_0 ca D) rfl (y := a 34) rfl ⟨by decide +kernel, rfl⟩ ?_
        refine z_callVf (pc' := 24) 34 (cet_M_keptOnPaper n u) (ceG_E72 ca D) (ceO_34 ca D) rfl (by omega) rfl rfl (Nat.le_of_ble_eq_true rfl) ⟨by decide +kernel, rfl⟩ (fun r4 u5 => ?_)
        refine z_icmp_lt (pc' := 27) (tgt := 29) (off := 5) ⟨by decide +kernel, rfl⟩ rfl (fun h6 => ?_) (fun h6 => ?_)
        · refine z_iload_n (pc' := 30) (k := 2) (i := 2) 2 rfl rfl ⟨by decide +kernel, rfl⟩ ?_
          refine z_if_ne (pc' := 33) (tgt := 47) (off := 17) ⟨by decide +kernel, rfl⟩ rfl (fun h7 => ?_) (fun h7 => ?_)
          · refine z_aload_n (pc' := 34) (k := 0) (i := 0) 0 rfl rfl ⟨by decide +kernel, rfl⟩ ?_
            refine z_getR (pc' := 37) (cef_E23_0 ca D) rfl (y := a 34) rfl ⟨by decide +kernel, rfl⟩ ?_
            refine z_getR (pc' := 40) (cef_E76_34 ca D) rfl (y := a 72) rfl ⟨by decide +kernel, rfl⟩ ?_
            refine z_iload_n (pc' := 41) (k := 1) (i := 1) 1 rfl rfl ⟨by decide +kernel, rfl⟩ ?_
            refine z_callVf (pc' := 44) 72 (cet_V_sortAt n 72 rfl u5 x1) (ceG_E80 ca D) (ceO_72 ca D) rfl (by omega) rfl rfl (Nat.le_of_ble_eq_true rfl) ⟨by decide +kernel, rfl⟩ (fun r8 u9 => ?_)
            refine z_goto (tgt := 58) (off := 14) (by decide +kernel) rfl ?_
            exact z_iret (pc' := 59) ⟨by decide +kernel, rfl⟩
          · refine z_aload_n (pc' := 48) (k := 0) (i := 0) 0 rfl rfl ⟨by decide +kernel, rfl⟩ ?_
            refine z_getR (pc' := 51) (cef_E23_0 ca D) rfl (y := a 34) rfl ⟨by decide +kernel, rfl⟩ ?_
            refine z_getR (pc' := 54) (cef_E76_34 ca D) rfl (y := a 72) rfl ⟨by decide +kernel, rfl⟩ ?_
            refine z_iload_n (pc' := 55) (k := 1) (i := 1) 1 rfl rfl ⟨by decide +kernel, rfl⟩ ?_
            refine z_callVf (pc' := 58) 72 (cet_V_referenceAt n 72 rfl u5 x1) (ceG_E85 ca D) (ceO_72 ca D) rfl (by omega) rfl rfl (Nat.le_of_ble_eq_true rfl) ⟨by decide +kernel, rfl⟩ (fun r10 u11 => ?_)
            exact z_iret (pc' := 59) ⟨by decide +kernel, rfl⟩
        · refine z_iconst (pc' := 28) (n := (-1)) (v := (-1)) (by decide) ⟨by decide +kernel, rfl⟩ ?_
          exact z_iret (pc' := 29) ⟨by decide +kernel, rfl⟩
set_option maxRecDepth 20000 in
set_option maxHeartbeats 4000000 in
theorem cet_E_printed {l : Launch} {ca : Nat → ClassId} {D : va_G} {a g : Nat → Nat} (n : Nat) (u : zMu) (x1 : Int32) : zMet l (zCe ca D) ceY_E_printed (.code ceY_E_printed prog_1_method_8_code 2 (some .long)) zrl true 3 a g [.ref (a 0), .int x1] u (ce_E_printed n u x1) := by
  refine zMet.of rfl (Nat.le_of_ble_eq_true rfl) fun κ A hl => ?_
  subst hl
  unfold ce_E_printed
  refine z_iload_n (pc' := 1) (k := 1) (i := 1) 1 rfl rfl ⟨by decide +kernel, rfl⟩ ?_
  refine z_if_lt (pc' := 4) (tgt := 15) (off := 14) ⟨by decide +kernel, rfl⟩ rfl (fun h1 => ?_) (fun h1 => ?_)
  · refine z_lconst (pc' := 16) (n := 0) (v := 0) (by decide) ⟨by decide +kernel, rfl⟩ ?_
    exact z_lret (pc' := 17) ⟨by decide +kernel, rfl⟩
  · refine z_iload_n (pc' := 5) (k := 1) (i := 1) 1 rfl rfl ⟨by decide +kernel, rfl⟩ ?_
    refine z_aload_n (pc' := 6) (k := 0) (i := 0) 0 rfl rfl ⟨by decide +kernel, rfl⟩ ?_
    refine z_getR (pc' := 9) (cef_E23_0 ca D) rfl (y := a 34) rfl ⟨by decide +kernel, rfl⟩ ?_
    refine z_callVf (pc' := 12) 34 (cet_M_keptOnPaper n u) (ceG_E72 ca D) (ceO_34 ca D) rfl (by omega) rfl rfl (Nat.le_of_ble_eq_true rfl) ⟨by decide +kernel, rfl⟩ (fun r2 u3 => ?_)
    refine z_icmp_lt (pc' := 15) (tgt := 17) (off := 5) ⟨by decide +kernel, rfl⟩ rfl (fun h4 => ?_) (fun h4 => ?_)
    · refine z_aload_n (pc' := 18) (k := 0) (i := 0) 0 rfl rfl ⟨by decide +kernel, rfl⟩ ?_
      refine z_getR (pc' := 21) (cef_E23_0 ca D) rfl (y := a 34) rfl ⟨by decide +kernel, rfl⟩ ?_
      refine z_getR (pc' := 24) (cef_E76_34 ca D) rfl (y := a 72) rfl ⟨by decide +kernel, rfl⟩ ?_
      refine z_iload_n (pc' := 25) (k := 1) (i := 1) 1 rfl rfl ⟨by decide +kernel, rfl⟩ ?_
      refine z_callVf (pc' := 28) 72 (cet_V_worthAt n 72 rfl u3 x1) (ceG_E88 ca D) (ceO_72 ca D) rfl (by omega) rfl rfl (Nat.le_of_ble_eq_true rfl) ⟨by decide +kernel, rfl⟩ (fun r5 u6 => ?_)
      exact z_lret (pc' := 29) ⟨by decide +kernel, rfl⟩
    · refine z_lconst (pc' := 16) (n := 0) (v := 0) (by decide) ⟨by decide +kernel, rfl⟩ ?_
      exact z_lret (pc' := 17) ⟨by decide +kernel, rfl⟩
set_option maxRecDepth 20000 in
set_option maxHeartbeats 4000000 in
theorem cet_E_object {l : Launch} {ca : Nat → ClassId} {D : va_G} {a g : Nat → Nat} (n : Nat) (u : zMu) (x1 : Int32) (x2 : Int32) : zMet l (zCe ca D) ceY_E_object (.code ceY_E_object prog_1_method_9_code 4 (some .int)) zri true 1 a g [.ref (a 0), .int x1, .int x2] u (ce_E_object n u x1 x2) := by
  refine zMet.of rfl (Nat.le_of_ble_eq_true rfl) fun κ A hl => ?_
  subst hl
  unfold ce_E_object
  refine z_aload_n (pc' := 1) (k := 0) (i := 0) 0 rfl rfl ⟨by decide +kernel, rfl⟩ ?_
  refine z_getR (pc' := 4) (cef_E23_0 ca D) rfl (y := a 34) rfl ⟨by decide +kernel, rfl⟩ ?_
  refine z_getR (pc' := 7) (cef_E92_34 ca D) rfl (y := a 36) rfl ⟨by decide +kernel, rfl⟩ ?_
  refine z_astore_n (pc' := 8) (k := 3) (i := 3) rfl (by decide) rfl ⟨by decide +kernel, rfl⟩ ?_
  refine z_aload_n (pc' := 9) (k := 3) (i := 3) 0 rfl rfl ⟨by decide +kernel, rfl⟩ ?_
  refine z_iload_n (pc' := 10) (k := 1) (i := 1) 2 rfl rfl ⟨by decide +kernel, rfl⟩ ?_
  refine z_callVf (pc' := 13) 36 (cet_H_isObject n u x1) (ceG_E96 ca D) (ceO_36 ca D) rfl (by omega) rfl rfl (Nat.le_of_ble_eq_true rfl) ⟨by decide +kernel, rfl⟩ (fun r1 u2 => ?_)
  refine z_if_ne (pc' := 16) (tgt := 19) (off := 6) ⟨by decide +kernel, rfl⟩ rfl (fun h3 => ?_) (fun h3 => ?_)
  · refine z_bipush (pc' := 18) (n := (-2)) (v := (-2)) (by decide) ⟨by decide +kernel, rfl⟩ ?_
    exact z_iret (pc' := 19) ⟨by decide +kernel, rfl⟩
  · refine z_iload_n (pc' := 20) (k := 2) (i := 2) 3 rfl rfl ⟨by decide +kernel, rfl⟩ ?_
    refine z_ite (fun h4 => ?_) (fun h4 => ?_)
    · refine z_tabIn (dflt := 49) (lo := 0) (hi := 2) (offs := #[28, 35, 42]) (len := 28) (off := 28) (tgt := 48) h4 (by decide +kernel) (by decide) (by decide) rfl rfl ?_
      refine z_aload_n (pc' := 49) (k := 3) (i := 3) 0 rfl rfl ⟨by decide +kernel, rfl⟩ ?_
      refine z_getR (pc' := 52) (cef_E102_36 ca D) rfl (y := a 37) rfl ⟨by decide +kernel, rfl⟩ ?_
      refine z_iload_n (pc' := 53) (k := 1) (i := 1) 2 rfl rfl ⟨by decide +kernel, rfl⟩ ?_
      refine z_iald (pc' := 54) 37 rfl (zlt rfl) rfl rfl ⟨by decide +kernel, rfl⟩ ?_
      exact z_iret (pc' := 55) ⟨by decide +kernel, rfl⟩
    refine z_ite (fun h5 => ?_) (fun h5 => ?_)
    · refine z_tabIn (dflt := 49) (lo := 0) (hi := 2) (offs := #[28, 35, 42]) (len := 28) (off := 35) (tgt := 55) h5 (by decide +kernel) (by decide) (by decide) rfl rfl ?_
      refine z_aload_n (pc' := 56) (k := 3) (i := 3) 0 rfl rfl ⟨by decide +kernel, rfl⟩ ?_
      refine z_getR (pc' := 59) (cef_E106_36 ca D) rfl (y := a 38) rfl ⟨by decide +kernel, rfl⟩ ?_
      refine z_iload_n (pc' := 60) (k := 1) (i := 1) 2 rfl rfl ⟨by decide +kernel, rfl⟩ ?_
      refine z_iald (pc' := 61) 38 rfl (zlt rfl) rfl rfl ⟨by decide +kernel, rfl⟩ ?_
      exact z_iret (pc' := 62) ⟨by decide +kernel, rfl⟩
    refine z_ite (fun h6 => ?_) (fun h6 => ?_)
    · refine z_tabIn (dflt := 49) (lo := 0) (hi := 2) (offs := #[28, 35, 42]) (len := 28) (off := 42) (tgt := 62) h6 (by decide +kernel) (by decide) (by decide) rfl rfl ?_
      refine z_aload_n (pc' := 63) (k := 3) (i := 3) 0 rfl rfl ⟨by decide +kernel, rfl⟩ ?_
      refine z_getR (pc' := 66) (cef_E109_36 ca D) rfl (y := a 39) rfl ⟨by decide +kernel, rfl⟩ ?_
      refine z_iload_n (pc' := 67) (k := 1) (i := 1) 2 rfl rfl ⟨by decide +kernel, rfl⟩ ?_
      refine z_iald (pc' := 68) 39 rfl (zlt rfl) rfl rfl ⟨by decide +kernel, rfl⟩ ?_
      exact z_iret (pc' := 69) ⟨by decide +kernel, rfl⟩
    refine z_tabOut (dflt := 49) (lo := 0) (hi := 2) (offs := #[28, 35, 42]) (len := 28) (tgt := 69) (by decide +kernel) (by have h4' := lv_neT h4 (a := 0) (by decide); have h5' := lv_neT h5 (a := 1) (by decide); have h6' := lv_neT h6 (a := 2) (by decide); omega) rfl ?_
    refine z_bipush (pc' := 71) (n := (-2)) (v := (-2)) (by decide) ⟨by decide +kernel, rfl⟩ ?_
    exact z_iret (pc' := 72) ⟨by decide +kernel, rfl⟩
