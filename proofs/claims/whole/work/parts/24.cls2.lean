/-! the class's methods meet their models (printed by wip/gen/cls.py) -/
set_option maxRecDepth 20000 in
set_option maxHeartbeats 4000000 in
theorem cet_P_emit {l : Launch} {ca : Nat → ClassId} {D : va_G} {a g : Nat → Nat} (n : Nat) (p : Nat) (hp : zpr p = true) (u : zMu) (x1 : Int32) (x2 : Int32) (x3 : Int32) : zMet l (zCe ca D) ceY_P_emit (.code ceY_P_emit prog_7_method_3_code 4 (some .int)) zri true 0 a g [.ref (a p), .int x1, .int x2, .int x3] u (ce_P_emit n p u x1 x2 x3) := by
  refine zMet.of rfl (Nat.le_of_ble_eq_true rfl) fun κ A hl => ?_
  subst hl
  unfold ce_P_emit
  refine z_aload_n (pc' := 1) (k := 0) (i := 0) 0 rfl rfl ⟨by decide +kernel, rfl⟩ ?_
  refine z_getI (pc' := 4) (cef_P45_P ca D hp) (ce_adP0 hp) ⟨by decide +kernel, rfl⟩ ?_
  refine z_sipush (pc' := 7) (n := 2400) (v := 2400) (by decide) ⟨by decide +kernel, rfl⟩ ?_
  refine z_icmp_lt (pc' := 10) (tgt := 14) (off := 7) ⟨by decide +kernel, rfl⟩ rfl (fun h1 => ?_) (fun h1 => ?_)
  · refine z_aload_n (pc' := 15) (k := 0) (i := 0) 0 rfl rfl ⟨by decide +kernel, rfl⟩ ?_
    refine z_getR (pc' := 18) (cef_P11_P ca D hp) (ce_adP0 hp) (y := a (p + 1)) (ce_frP1 hp) ⟨by decide +kernel, rfl⟩ ?_
    refine z_aload_n (pc' := 19) (k := 0) (i := 0) 0 rfl rfl ⟨by decide +kernel, rfl⟩ ?_
    refine z_getI (pc' := 22) (cef_P45_P ca D hp) (ce_adP0 hp) ⟨by decide +kernel, rfl⟩ ?_
    refine z_iload_n (pc' := 23) (k := 1) (i := 1) 1 rfl rfl ⟨by decide +kernel, rfl⟩ ?_
    refine z_i2b (pc' := 24) ⟨by decide +kernel, rfl⟩ ?_
    refine z_bast (pc' := 25) (p + 1) (ce_ckP1 hp) (ce_clP1 hp) (ce_cnP1 hp) (ce_adP1 hp) ⟨by decide +kernel, rfl⟩ (z_letU fun u2 => ?_)
    refine z_aload_n (pc' := 26) (k := 0) (i := 0) 0 rfl rfl ⟨by decide +kernel, rfl⟩ ?_
    refine z_getR (pc' := 29) (cef_P15_P ca D hp) (ce_adP0 hp) (y := a (p + 2)) (ce_frP2 hp) ⟨by decide +kernel, rfl⟩ ?_
    refine z_aload_n (pc' := 30) (k := 0) (i := 0) 0 rfl rfl ⟨by decide +kernel, rfl⟩ ?_
    refine z_getI (pc' := 33) (cef_P45_P ca D hp) (ce_adP0 hp) ⟨by decide +kernel, rfl⟩ ?_
    refine z_iload_n (pc' := 34) (k := 2) (i := 2) 2 rfl rfl ⟨by decide +kernel, rfl⟩ ?_
    refine z_iast (pc' := 35) (p + 2) (ce_ckP2 hp) (ce_clP2 hp) (ce_cnP2 hp) (ce_adP2 hp) ⟨by decide +kernel, rfl⟩ (z_letU fun u3 => ?_)
    refine z_aload_n (pc' := 36) (k := 0) (i := 0) 0 rfl rfl ⟨by decide +kernel, rfl⟩ ?_
    refine z_getR (pc' := 39) (cef_P19_P ca D hp) (ce_adP0 hp) (y := a (p + 3)) (ce_frP3 hp) ⟨by decide +kernel, rfl⟩ ?_
    refine z_aload_n (pc' := 40) (k := 0) (i := 0) 0 rfl rfl ⟨by decide +kernel, rfl⟩ ?_
    refine z_getI (pc' := 43) (cef_P45_P ca D hp) (ce_adP0 hp) ⟨by decide +kernel, rfl⟩ ?_
    refine z_iload_n (pc' := 44) (k := 3) (i := 3) 3 rfl rfl ⟨by decide +kernel, rfl⟩ ?_
    refine z_i2s (pc' := 45) ⟨by decide +kernel, rfl⟩ ?_
    refine z_sast (pc' := 46) (p + 3) (ce_ckP3 hp) (ce_clP3 hp) (ce_cnP3 hp) (ce_adP3 hp) ⟨by decide +kernel, rfl⟩ (z_letU fun u4 => ?_)
    refine z_aload_n (pc' := 47) (k := 0) (i := 0) 0 rfl rfl ⟨by decide +kernel, rfl⟩ ?_
    refine z_dup (pc' := 48) rfl ⟨by decide +kernel, rfl⟩ ?_
    refine z_getI (pc' := 51) (cef_P45_P ca D hp) (ce_adP0 hp) ⟨by decide +kernel, rfl⟩ ?_
    refine z_letI fun v5 => ?_
    refine z_dup_x1 (pc' := 52) rfl rfl ⟨by decide +kernel, rfl⟩ ?_
    refine z_iconst (pc' := 53) (n := 1) (v := 1) (by decide) ⟨by decide +kernel, rfl⟩ ?_
    refine z_iadd (pc' := 54) ⟨by decide +kernel, rfl⟩ ?_
    refine z_putI (pc' := 57) (cef_P45_P ca D hp) (ce_adP0 hp) ⟨by decide +kernel, rfl⟩ (z_letU fun u6 => ?_)
    exact z_iret (pc' := 58) ⟨by decide +kernel, rfl⟩
  · refine z_sipush (pc' := 13) (n := 2399) (v := 2399) (by decide) ⟨by decide +kernel, rfl⟩ ?_
    exact z_iret (pc' := 14) ⟨by decide +kernel, rfl⟩
set_option maxRecDepth 20000 in
set_option maxHeartbeats 4000000 in
theorem cet_C_expect {l : Launch} {ca : Nat → ClassId} {D : va_G} {a g : Nat → Nat} (n : Nat) (u : zMu) (x1 : Int32) : zMet l (zCe ca D) ceY_C_expect (.code ceY_C_expect prog_2_method_32_code 2 none) zrv true 1 a g [.ref (a 2), .int x1] u (ce_C_expect n u x1) := by
  refine zMet.of rfl (Nat.le_of_ble_eq_true rfl) fun κ A hl => ?_
  subst hl
  unfold ce_C_expect
  refine z_aload_n (pc' := 1) (k := 0) (i := 0) 0 rfl rfl ⟨by decide +kernel, rfl⟩ ?_
  refine z_getR (pc' := 4) (cef_C12_2 ca D) rfl (y := a 7) rfl ⟨by decide +kernel, rfl⟩ ?_
  refine z_getI (pc' := 7) (cef_C43_7 ca D) rfl ⟨by decide +kernel, rfl⟩ ?_
  refine z_iload_n (pc' := 8) (k := 1) (i := 1) 1 rfl rfl ⟨by decide +kernel, rfl⟩ ?_
  refine z_icmp_ne (pc' := 11) (tgt := 21) (off := 13) ⟨by decide +kernel, rfl⟩ rfl (fun h1 => ?_) (fun h1 => ?_)
  · refine z_aload_n (pc' := 12) (k := 0) (i := 0) 0 rfl rfl ⟨by decide +kernel, rfl⟩ ?_
    refine z_getR (pc' := 15) (cef_C12_2 ca D) rfl (y := a 7) rfl ⟨by decide +kernel, rfl⟩ ?_
    refine z_callVf (pc' := 18) 7 (cet_X_advance n u) (ceG_C105 ca D) (ceO_7 ca D) rfl (by omega) rfl rfl (Nat.le_of_ble_eq_true rfl) ⟨by decide +kernel, rfl⟩ (fun _ u3 => ?_)
    refine z_goto (tgt := 25) (off := 7) (by decide +kernel) rfl ?_
    exact z_vret (pc' := 26) ⟨by decide +kernel, rfl⟩
  · refine z_aload_n (pc' := 22) (k := 0) (i := 0) 0 rfl rfl ⟨by decide +kernel, rfl⟩ ?_
    refine z_callVf (pc' := 25) 2 (cet_C_refuse n u) (ceG_C102 ca D) (ceO_2 ca D) rfl (by omega) rfl rfl (Nat.le_of_ble_eq_true rfl) ⟨by decide +kernel, rfl⟩ (fun _ u5 => ?_)
    exact z_vret (pc' := 26) ⟨by decide +kernel, rfl⟩
set_option maxRecDepth 20000 in
set_option maxHeartbeats 4000000 in
theorem cet_C_keepCall {l : Launch} {ca : Nat → ClassId} {D : va_G} {a g : Nat → Nat} (n : Nat) (u : zMu) (x1 : Int64) (x3 : Int32) (x4 : Int32) : zMet l (zCe ca D) ceY_C_keepCall (.code ceY_C_keepCall prog_2_method_26_code 5 none) zrv true 0 a g [.ref (a 2), .long x1, .int x3, .int x4] u (ce_C_keepCall n u x1 x3 x4) := by
  refine zMet.of rfl (Nat.le_of_ble_eq_true rfl) fun κ A hl => ?_
  subst hl
  unfold ce_C_keepCall
  refine z_aload_n (pc' := 1) (k := 0) (i := 0) 0 rfl rfl ⟨by decide +kernel, rfl⟩ ?_
  refine z_getI (pc' := 4) (cef_C96_2 ca D) rfl ⟨by decide +kernel, rfl⟩ ?_
  refine z_sipush (pc' := 7) (n := 500) (v := 500) (by decide) ⟨by decide +kernel, rfl⟩ ?_
  refine z_icmp_lt (pc' := 10) (tgt := 11) (off := 4) ⟨by decide +kernel, rfl⟩ rfl (fun h1 => ?_) (fun h1 => ?_)
  · refine z_aload_n (pc' := 12) (k := 0) (i := 0) 0 rfl rfl ⟨by decide +kernel, rfl⟩ ?_
    refine z_getR (pc' := 15) (cef_C26_2 ca D) rfl (y := a 4) rfl ⟨by decide +kernel, rfl⟩ ?_
    refine z_aload_n (pc' := 16) (k := 0) (i := 0) 0 rfl rfl ⟨by decide +kernel, rfl⟩ ?_
    refine z_getI (pc' := 19) (cef_C96_2 ca D) rfl ⟨by decide +kernel, rfl⟩ ?_
    refine z_lload_n (pc' := 20) (k := 1) (i := 1) 1 rfl rfl ⟨by decide +kernel, rfl⟩ ?_
    refine z_last (pc' := 21) 4 rfl (zlt rfl) rfl rfl ⟨by decide +kernel, rfl⟩ (z_letU fun u2 => ?_)
    refine z_aload_n (pc' := 22) (k := 0) (i := 0) 0 rfl rfl ⟨by decide +kernel, rfl⟩ ?_
    refine z_getR (pc' := 25) (cef_C29_2 ca D) rfl (y := a 5) rfl ⟨by decide +kernel, rfl⟩ ?_
    refine z_aload_n (pc' := 26) (k := 0) (i := 0) 0 rfl rfl ⟨by decide +kernel, rfl⟩ ?_
    refine z_getI (pc' := 29) (cef_C96_2 ca D) rfl ⟨by decide +kernel, rfl⟩ ?_
    refine z_iload_n (pc' := 30) (k := 3) (i := 3) 2 rfl rfl ⟨by decide +kernel, rfl⟩ ?_
    refine z_iast (pc' := 31) 5 rfl (zlt rfl) rfl rfl ⟨by decide +kernel, rfl⟩ (z_letU fun u3 => ?_)
    refine z_aload_n (pc' := 32) (k := 0) (i := 0) 0 rfl rfl ⟨by decide +kernel, rfl⟩ ?_
    refine z_getR (pc' := 35) (cef_C33_2 ca D) rfl (y := a 6) rfl ⟨by decide +kernel, rfl⟩ ?_
    refine z_aload_n (pc' := 36) (k := 0) (i := 0) 0 rfl rfl ⟨by decide +kernel, rfl⟩ ?_
    refine z_getI (pc' := 39) (cef_C96_2 ca D) rfl ⟨by decide +kernel, rfl⟩ ?_
    refine z_iload (pc' := 41) (i := 4) 3 rfl ⟨by decide +kernel, rfl⟩ ?_
    refine z_iast (pc' := 42) 6 rfl (zlt rfl) rfl rfl ⟨by decide +kernel, rfl⟩ (z_letU fun u4 => ?_)
    refine z_aload_n (pc' := 43) (k := 0) (i := 0) 0 rfl rfl ⟨by decide +kernel, rfl⟩ ?_
    refine z_dup (pc' := 44) rfl ⟨by decide +kernel, rfl⟩ ?_
    refine z_getI (pc' := 47) (cef_C96_2 ca D) rfl ⟨by decide +kernel, rfl⟩ ?_
    refine z_iconst (pc' := 48) (n := 1) (v := 1) (by decide) ⟨by decide +kernel, rfl⟩ ?_
    refine z_iadd (pc' := 49) ⟨by decide +kernel, rfl⟩ ?_
    refine z_putI (pc' := 52) (cef_C96_2 ca D) rfl ⟨by decide +kernel, rfl⟩ (z_letU fun u5 => ?_)
    exact z_vret (pc' := 53) ⟨by decide +kernel, rfl⟩
  · exact z_vret (pc' := 11) ⟨by decide +kernel, rfl⟩
set_option maxRecDepth 20000 in
set_option maxHeartbeats 4000000 in
theorem cet_P_addSite {l : Launch} {ca : Nat → ClassId} {D : va_G} {a g : Nat → Nat} (n : Nat) (p : Nat) (hp : zpr p = true) (u : zMu) (x1 : Int32) (x2 : Int32) (x3 : Int32) (x4 : Int64) : zMet l (zCe ca D) ceY_P_addSite (.code ceY_P_addSite prog_7_method_11_code 6 (some .int)) zri true 0 a g [.ref (a p), .int x1, .int x2, .int x3, .long x4] u (ce_P_addSite n p u x1 x2 x3 x4) := by
  refine zMet.of rfl (Nat.le_of_ble_eq_true rfl) fun κ A hl => ?_
  subst hl
  unfold ce_P_addSite
  refine z_aload_n (pc' := 1) (k := 0) (i := 0) 0 rfl rfl ⟨by decide +kernel, rfl⟩ ?_
  refine z_getI (pc' := 4) (cef_P49_P ca D hp) (ce_adP0 hp) ⟨by decide +kernel, rfl⟩ ?_
  refine z_bipush (pc' := 6) (n := 80) (v := 80) (by decide) ⟨by decide +kernel, rfl⟩ ?_
  refine z_icmp_lt (pc' := 9) (tgt := 11) (off := 5) ⟨by decide +kernel, rfl⟩ rfl (fun h1 => ?_) (fun h1 => ?_)
  · refine z_aload_n (pc' := 12) (k := 0) (i := 0) 0 rfl rfl ⟨by decide +kernel, rfl⟩ ?_
    refine z_getR (pc' := 15) (cef_P23_P ca D hp) (ce_adP0 hp) (y := a (p + 4)) (ce_frP4 hp) ⟨by decide +kernel, rfl⟩ ?_
    refine z_aload_n (pc' := 16) (k := 0) (i := 0) 0 rfl rfl ⟨by decide +kernel, rfl⟩ ?_
    refine z_getI (pc' := 19) (cef_P49_P ca D hp) (ce_adP0 hp) ⟨by decide +kernel, rfl⟩ ?_
    refine z_iload_n (pc' := 20) (k := 1) (i := 1) 1 rfl rfl ⟨by decide +kernel, rfl⟩ ?_
    refine z_iast (pc' := 21) (p + 4) (ce_ckP4 hp) (ce_clP4 hp) (ce_cnP4 hp) (ce_adP4 hp) ⟨by decide +kernel, rfl⟩ (z_letU fun u2 => ?_)
    refine z_aload_n (pc' := 22) (k := 0) (i := 0) 0 rfl rfl ⟨by decide +kernel, rfl⟩ ?_
    refine z_getR (pc' := 25) (cef_P26_P ca D hp) (ce_adP0 hp) (y := a (p + 5)) (ce_frP5 hp) ⟨by decide +kernel, rfl⟩ ?_
    refine z_aload_n (pc' := 26) (k := 0) (i := 0) 0 rfl rfl ⟨by decide +kernel, rfl⟩ ?_
    refine z_getI (pc' := 29) (cef_P49_P ca D hp) (ce_adP0 hp) ⟨by decide +kernel, rfl⟩ ?_
    refine z_iload_n (pc' := 30) (k := 2) (i := 2) 2 rfl rfl ⟨by decide +kernel, rfl⟩ ?_
    refine z_iast (pc' := 31) (p + 5) (ce_ckP5 hp) (ce_clP5 hp) (ce_cnP5 hp) (ce_adP5 hp) ⟨by decide +kernel, rfl⟩ (z_letU fun u3 => ?_)
    refine z_aload_n (pc' := 32) (k := 0) (i := 0) 0 rfl rfl ⟨by decide +kernel, rfl⟩ ?_
    refine z_getR (pc' := 35) (cef_P29_P ca D hp) (ce_adP0 hp) (y := a (p + 6)) (ce_frP6 hp) ⟨by decide +kernel, rfl⟩ ?_
    refine z_aload_n (pc' := 36) (k := 0) (i := 0) 0 rfl rfl ⟨by decide +kernel, rfl⟩ ?_
    refine z_getI (pc' := 39) (cef_P49_P ca D hp) (ce_adP0 hp) ⟨by decide +kernel, rfl⟩ ?_
    refine z_iload_n (pc' := 40) (k := 3) (i := 3) 3 rfl rfl ⟨by decide +kernel, rfl⟩ ?_
    refine z_iast (pc' := 41) (p + 6) (ce_ckP6 hp) (ce_clP6 hp) (ce_cnP6 hp) (ce_adP6 hp) ⟨by decide +kernel, rfl⟩ (z_letU fun u4 => ?_)
    refine z_aload_n (pc' := 42) (k := 0) (i := 0) 0 rfl rfl ⟨by decide +kernel, rfl⟩ ?_
    refine z_getR (pc' := 45) (cef_P32_P ca D hp) (ce_adP0 hp) (y := a (p + 7)) (ce_frP7 hp) ⟨by decide +kernel, rfl⟩ ?_
    refine z_aload_n (pc' := 46) (k := 0) (i := 0) 0 rfl rfl ⟨by decide +kernel, rfl⟩ ?_
    refine z_getI (pc' := 49) (cef_P49_P ca D hp) (ce_adP0 hp) ⟨by decide +kernel, rfl⟩ ?_
    refine z_lload (pc' := 51) (i := 4) 4 rfl ⟨by decide +kernel, rfl⟩ ?_
    refine z_last (pc' := 52) (p + 7) (ce_ckP7 hp) (ce_clP7 hp) (ce_cnP7 hp) (ce_adP7 hp) ⟨by decide +kernel, rfl⟩ (z_letU fun u5 => ?_)
    refine z_aload_n (pc' := 53) (k := 0) (i := 0) 0 rfl rfl ⟨by decide +kernel, rfl⟩ ?_
    refine z_dup (pc' := 54) rfl ⟨by decide +kernel, rfl⟩ ?_
    refine z_getI (pc' := 57) (cef_P49_P ca D hp) (ce_adP0 hp) ⟨by decide +kernel, rfl⟩ ?_
    refine z_letI fun v6 => ?_
    refine z_dup_x1 (pc' := 58) rfl rfl ⟨by decide +kernel, rfl⟩ ?_
    refine z_iconst (pc' := 59) (n := 1) (v := 1) (by decide) ⟨by decide +kernel, rfl⟩ ?_
    refine z_iadd (pc' := 60) ⟨by decide +kernel, rfl⟩ ?_
    refine z_putI (pc' := 63) (cef_P49_P ca D hp) (ce_adP0 hp) ⟨by decide +kernel, rfl⟩ (z_letU fun u7 => ?_)
    exact z_iret (pc' := 64) ⟨by decide +kernel, rfl⟩
  · refine z_iconst (pc' := 10) (n := (-1)) (v := (-1)) (by decide) ⟨by decide +kernel, rfl⟩ ?_
    exact z_iret (pc' := 11) ⟨by decide +kernel, rfl⟩
set_option maxRecDepth 20000 in
set_option maxHeartbeats 4000000 in
theorem cet_C_addSite {l : Launch} {ca : Nat → ClassId} {D : va_G} {a g : Nat → Nat} (n : Nat) (u : zMu) (x1 : Int32) (x2 : Int32) (x3 : Int64) : zMet l (zCe ca D) ceY_C_addSite (.code ceY_C_addSite prog_2_method_30_code 6 (some .int)) zri true 1 a g [.ref (a 2), .int x1, .int x2, .long x3] u (ce_C_addSite n u x1 x2 x3) := by
  refine zMet.of rfl (Nat.le_of_ble_eq_true rfl) fun κ A hl => ?_
  subst hl
  unfold ce_C_addSite
  refine z_aload_n (pc' := 1) (k := 0) (i := 0) 0 rfl rfl ⟨by decide +kernel, rfl⟩ ?_
  refine z_getG (pc' := 4) (cef_C52_2 ca D) rfl (fun _ h => ⟨zpr_n0 h, ce_adP0 h⟩) ⟨by decide +kernel, rfl⟩ fun p1 hp1 => ?_
  refine z_iload_n (pc' := 5) (k := 1) (i := 1) 1 rfl rfl ⟨by decide +kernel, rfl⟩ ?_
  refine z_iload_n (pc' := 6) (k := 2) (i := 2) 2 rfl rfl ⟨by decide +kernel, rfl⟩ ?_
  refine z_aload_n (pc' := 7) (k := 0) (i := 0) 0 rfl rfl ⟨by decide +kernel, rfl⟩ ?_
  refine z_getI (pc' := 10) (cef_C62_2 ca D) rfl ⟨by decide +kernel, rfl⟩ ?_
  refine z_lload_n (pc' := 11) (k := 3) (i := 3) 3 rfl rfl ⟨by decide +kernel, rfl⟩ ?_
  refine z_callVf (pc' := 14) p1 (cet_P_addSite n p1 hp1 u x1 x2 (zI u 2 6) x3) (ceG_C244 ca D) (ceO_P ca D hp1) (ce_adP0 hp1) (by omega) rfl rfl (Nat.le_of_ble_eq_true rfl) ⟨by decide +kernel, rfl⟩ (fun r2 u3 => ?_)
  refine z_istore (pc' := 16) (i := 5) (by decide) rfl ⟨by decide +kernel, rfl⟩ ?_
  refine z_iload (pc' := 18) (i := 5) 0 rfl ⟨by decide +kernel, rfl⟩ ?_
  refine z_iconst (pc' := 19) (n := (-1)) (v := (-1)) (by decide) ⟨by decide +kernel, rfl⟩ ?_
  refine z_icmp_ne (pc' := 22) (tgt := 28) (off := 9) ⟨by decide +kernel, rfl⟩ rfl (fun h4 => ?_) (fun h4 => ?_)
  · refine z_aload_n (pc' := 23) (k := 0) (i := 0) 1 rfl rfl ⟨by decide +kernel, rfl⟩ ?_
    refine z_iconst (pc' := 24) (n := 3) (v := 3) (by decide) ⟨by decide +kernel, rfl⟩ ?_
    refine z_iload_n (pc' := 25) (k := 2) (i := 2) 3 rfl rfl ⟨by decide +kernel, rfl⟩ ?_
    refine z_callVf (pc' := 28) 2 (cet_C_note n u3 3 x2) (ceG_C119 ca D) (ceO_2 ca D) rfl (by omega) rfl rfl (Nat.le_of_ble_eq_true rfl) ⟨by decide +kernel, rfl⟩ (fun _ u6 => ?_)
    refine z_iconst (pc' := 29) (n := 0) (v := 0) (by decide) ⟨by decide +kernel, rfl⟩ ?_
    refine z_iload (pc' := 31) (i := 5) 0 rfl ⟨by decide +kernel, rfl⟩ ?_
    refine z_mmax (pc' := 34) (ce_w0 2 rfl) (ce_w0 3 rfl) (ce_w0 4 rfl) (ce_w0 5 rfl) (by omega) (Nat.le_of_ble_eq_true rfl) ⟨by decide +kernel, rfl⟩ ?_
    refine z_letI fun v7 => ?_
    exact z_iret (pc' := 35) ⟨by decide +kernel, rfl⟩
  · refine z_iconst (pc' := 29) (n := 0) (v := 0) (by decide) ⟨by decide +kernel, rfl⟩ ?_
    refine z_iload (pc' := 31) (i := 5) 0 rfl ⟨by decide +kernel, rfl⟩ ?_
    refine z_mmax (pc' := 34) (ce_w0 2 rfl) (ce_w0 3 rfl) (ce_w0 4 rfl) (ce_w0 5 rfl) (by omega) (Nat.le_of_ble_eq_true rfl) ⟨by decide +kernel, rfl⟩ ?_
    refine z_letI fun v8 => ?_
    exact z_iret (pc' := 35) ⟨by decide +kernel, rfl⟩
set_option maxRecDepth 20000 in
set_option maxHeartbeats 4000000 in
theorem cet_C_compileMember {l : Launch} {ca : Nat → ClassId} {D : va_G} {a g : Nat → Nat} (n : Nat) (u : zMu) : zMet l (zCe ca D) ceY_C_compileMember (.code ceY_C_compileMember prog_2_method_19_code 2 (some .int)) zri true 2 a g [.ref (a 2)] u (ce_C_compileMember n u) := by
  refine zMet.of rfl (Nat.le_of_ble_eq_true rfl) fun κ A hl => ?_
  subst hl
  unfold ce_C_compileMember
  refine z_aload_n (pc' := 1) (k := 0) (i := 0) 0 rfl rfl ⟨by decide +kernel, rfl⟩ ?_
  refine z_getR (pc' := 4) (cef_C12_2 ca D) rfl (y := a 7) rfl ⟨by decide +kernel, rfl⟩ ?_
  refine z_getI (pc' := 7) (cef_C116_7 ca D) rfl ⟨by decide +kernel, rfl⟩ ?_
  refine z_letI fun v1 => ?_
  refine z_istore_n (pc' := 8) (k := 1) (i := 1) rfl (by decide) rfl ⟨by decide +kernel, rfl⟩ ?_
  refine z_aload_n (pc' := 9) (k := 0) (i := 0) 1 rfl rfl ⟨by decide +kernel, rfl⟩ ?_
  refine z_getR (pc' := 12) (cef_C12_2 ca D) rfl (y := a 7) rfl ⟨by decide +kernel, rfl⟩ ?_
  refine z_callVf (pc' := 15) 7 (cet_X_advance n u) (ceG_C105 ca D) (ceO_7 ca D) rfl (by omega) rfl rfl (Nat.le_of_ble_eq_true rfl) ⟨by decide +kernel, rfl⟩ (fun _ u3 => ?_)
  refine z_aload_n (pc' := 16) (k := 0) (i := 0) 1 rfl rfl ⟨by decide +kernel, rfl⟩ ?_
  refine z_getG (pc' := 19) (cef_C52_2 ca D) rfl (fun _ h => ⟨zpr_n0 h, ce_adP0 h⟩) ⟨by decide +kernel, rfl⟩ fun p4 hp4 => ?_
  refine z_bipush (pc' := 21) (n := 13) (v := 13) (by decide) ⟨by decide +kernel, rfl⟩ ?_
  refine z_aload_n (pc' := 22) (k := 0) (i := 0) 1 rfl rfl ⟨by decide +kernel, rfl⟩ ?_
  refine z_iconst (pc' := 23) (n := 0) (v := 0) (by decide) ⟨by decide +kernel, rfl⟩ ?_
  refine z_iload_n (pc' := 24) (k := 1) (i := 1) 0 rfl rfl ⟨by decide +kernel, rfl⟩ ?_
  refine z_aload_n (pc' := 25) (k := 0) (i := 0) 1 rfl rfl ⟨by decide +kernel, rfl⟩ ?_
  refine z_getR (pc' := 28) (cef_C12_2 ca D) rfl (y := a 7) rfl ⟨by decide +kernel, rfl⟩ ?_
  refine z_getL (pc' := 31) (cef_C108_7 ca D) rfl ⟨by decide +kernel, rfl⟩ ?_
  refine z_callVf (pc' := 34) 2 (cet_C_addSite n u3 0 v1 (zL u3 7 8)) (ceG_C196 ca D) (ceO_2 ca D) rfl (by omega) rfl rfl (Nat.le_of_ble_eq_true rfl) ⟨by decide +kernel, rfl⟩ (fun r5 u6 => ?_)
  refine z_iload_n (pc' := 35) (k := 1) (i := 1) 0 rfl rfl ⟨by decide +kernel, rfl⟩ ?_
  refine z_callVf (pc' := 38) p4 (cet_P_emit n p4 hp4 u6 13 r5 v1) (ceG_C56 ca D) (ceO_P ca D hp4) (ce_adP0 hp4) (by omega) rfl rfl (Nat.le_of_ble_eq_true rfl) ⟨by decide +kernel, rfl⟩ (fun r7 u8 => ?_)
  refine z_pop (pc' := 39) rfl ⟨by decide +kernel, rfl⟩ ?_
  refine z_aload_n (pc' := 40) (k := 0) (i := 0) 1 rfl rfl ⟨by decide +kernel, rfl⟩ ?_
  refine z_sipush (pc' := 43) (n := 259) (v := 259) (by decide) ⟨by decide +kernel, rfl⟩ ?_
  refine z_callVf (pc' := 46) 2 (cet_C_expect n u8 259) (ceG_C167 ca D) (ceO_2 ca D) rfl (by omega) rfl rfl (Nat.le_of_ble_eq_true rfl) ⟨by decide +kernel, rfl⟩ (fun _ u10 => ?_)
  refine z_iconst (pc' := 47) (n := 2) (v := 2) (by decide) ⟨by decide +kernel, rfl⟩ ?_
  exact z_iret (pc' := 48) ⟨by decide +kernel, rfl⟩
set_option maxRecDepth 20000 in
set_option maxHeartbeats 4000000 in
theorem cet_C_bindsAt {l : Launch} {ca : Nat → ClassId} {D : va_G} {a g : Nat → Nat} (n : Nat) (u : zMu) (x1 : Int32) : zMet l (zCe ca D) ceY_C_bindsAt (.code ceY_C_bindsAt prog_2_method_15_code 3 (some .boolean)) zri true 0 a g [.ref (a 2), .int x1] u (ce_C_bindsAt n u x1) := by
  refine zMet.of rfl (Nat.le_of_ble_eq_true rfl) fun κ A hl => ?_
  subst hl
  unfold ce_C_bindsAt
  refine z_aload_n (pc' := 1) (k := 0) (i := 0) 0 rfl rfl ⟨by decide +kernel, rfl⟩ ?_
  refine z_getR (pc' := 4) (cef_C12_2 ca D) rfl (y := a 7) rfl ⟨by decide +kernel, rfl⟩ ?_
  refine z_getI (pc' := 7) (cef_C43_7 ca D) rfl ⟨by decide +kernel, rfl⟩ ?_
  refine z_letI fun v1 => ?_
  refine z_istore_n (pc' := 8) (k := 2) (i := 2) rfl (by decide) rfl ⟨by decide +kernel, rfl⟩ ?_
  refine z_iload_n (pc' := 9) (k := 1) (i := 1) 2 rfl rfl ⟨by decide +kernel, rfl⟩ ?_
  refine z_if_ne (pc' := 12) (tgt := 31) (off := 22) ⟨by decide +kernel, rfl⟩ rfl (fun h2 => ?_) (fun h2 => ?_)
  · refine z_iload_n (pc' := 13) (k := 2) (i := 2) 0 rfl rfl ⟨by decide +kernel, rfl⟩ ?_
    refine z_bipush (pc' := 15) (n := 60) (v := 60) (by decide) ⟨by decide +kernel, rfl⟩ ?_
    refine z_icmp_eq (pc' := 18) (tgt := 25) (off := 10) ⟨by decide +kernel, rfl⟩ rfl (fun h3 => ?_) (fun h3 => ?_)
    · refine z_iconst (pc' := 26) (n := 1) (v := 1) (by decide) ⟨by decide +kernel, rfl⟩ ?_
      refine z_goto (tgt := 30) (off := 4) (by decide +kernel) rfl ?_
      exact z_zret (pc' := 31) (by decide) ⟨by decide +kernel, rfl⟩
    · refine z_iload_n (pc' := 19) (k := 2) (i := 2) 0 rfl rfl ⟨by decide +kernel, rfl⟩ ?_
      refine z_sipush (pc' := 22) (n := 260) (v := 260) (by decide) ⟨by decide +kernel, rfl⟩ ?_
      refine z_icmp_ne (pc' := 25) (tgt := 29) (off := 7) ⟨by decide +kernel, rfl⟩ rfl (fun h4 => ?_) (fun h4 => ?_)
      · refine z_iconst (pc' := 26) (n := 1) (v := 1) (by decide) ⟨by decide +kernel, rfl⟩ ?_
        refine z_goto (tgt := 30) (off := 4) (by decide +kernel) rfl ?_
        exact z_zret (pc' := 31) (by decide) ⟨by decide +kernel, rfl⟩
      · refine z_iconst (pc' := 30) (n := 0) (v := 0) (by decide) ⟨by decide +kernel, rfl⟩ ?_
        exact z_zret (pc' := 31) (by decide) ⟨by decide +kernel, rfl⟩
  · refine z_iload_n (pc' := 32) (k := 1) (i := 1) 2 rfl rfl ⟨by decide +kernel, rfl⟩ ?_
    refine z_iconst (pc' := 33) (n := 1) (v := 1) (by decide) ⟨by decide +kernel, rfl⟩ ?_
    refine z_icmp_ne (pc' := 36) (tgt := 54) (off := 21) ⟨by decide +kernel, rfl⟩ rfl (fun h5 => ?_) (fun h5 => ?_)
    · refine z_iload_n (pc' := 37) (k := 2) (i := 2) 0 rfl rfl ⟨by decide +kernel, rfl⟩ ?_
      refine z_bipush (pc' := 39) (n := 43) (v := 43) (by decide) ⟨by decide +kernel, rfl⟩ ?_
      refine z_icmp_eq (pc' := 42) (tgt := 48) (off := 9) ⟨by decide +kernel, rfl⟩ rfl (fun h6 => ?_) (fun h6 => ?_)
      · refine z_iconst (pc' := 49) (n := 1) (v := 1) (by decide) ⟨by decide +kernel, rfl⟩ ?_
        refine z_goto (tgt := 53) (off := 4) (by decide +kernel) rfl ?_
        exact z_zret (pc' := 54) (by decide) ⟨by decide +kernel, rfl⟩
      · refine z_iload_n (pc' := 43) (k := 2) (i := 2) 0 rfl rfl ⟨by decide +kernel, rfl⟩ ?_
        refine z_bipush (pc' := 45) (n := 45) (v := 45) (by decide) ⟨by decide +kernel, rfl⟩ ?_
        refine z_icmp_ne (pc' := 48) (tgt := 52) (off := 7) ⟨by decide +kernel, rfl⟩ rfl (fun h7 => ?_) (fun h7 => ?_)
        · refine z_iconst (pc' := 49) (n := 1) (v := 1) (by decide) ⟨by decide +kernel, rfl⟩ ?_
          refine z_goto (tgt := 53) (off := 4) (by decide +kernel) rfl ?_
          exact z_zret (pc' := 54) (by decide) ⟨by decide +kernel, rfl⟩
        · refine z_iconst (pc' := 53) (n := 0) (v := 0) (by decide) ⟨by decide +kernel, rfl⟩ ?_
          exact z_zret (pc' := 54) (by decide) ⟨by decide +kernel, rfl⟩
    · refine z_iload_n (pc' := 55) (k := 2) (i := 2) 0 rfl rfl ⟨by decide +kernel, rfl⟩ ?_
      refine z_bipush (pc' := 57) (n := 42) (v := 42) (by decide) ⟨by decide +kernel, rfl⟩ ?_
      refine z_icmp_ne (pc' := 60) (tgt := 64) (off := 7) ⟨by decide +kernel, rfl⟩ rfl (fun h8 => ?_) (fun h8 => ?_)
      · refine z_iconst (pc' := 61) (n := 1) (v := 1) (by decide) ⟨by decide +kernel, rfl⟩ ?_
        refine z_goto (tgt := 65) (off := 4) (by decide +kernel) rfl ?_
        exact z_zret (pc' := 66) (by decide) ⟨by decide +kernel, rfl⟩
      · refine z_iconst (pc' := 65) (n := 0) (v := 0) (by decide) ⟨by decide +kernel, rfl⟩ ?_
        exact z_zret (pc' := 66) (by decide) ⟨by decide +kernel, rfl⟩
set_option maxRecDepth 20000 in
set_option maxHeartbeats 4000000 in
theorem cet_C_opOf {l : Launch} {ca : Nat → ClassId} {D : va_G} {a g : Nat → Nat} (n : Nat) (u : zMu) (x0 : Int32) : zMet l (zCe ca D) ceY_C_opOf (.code ceY_C_opOf prog_2_method_17_code 1 (some .int)) zri true 0 a g [.int x0] u (ce_C_opOf n u x0) := by
  refine zMet.of rfl (Nat.le_of_ble_eq_true rfl) fun κ A hl => ?_
  subst hl
  unfold ce_C_opOf
  refine z_iload_n (pc' := 1) (k := 0) (i := 0) 0 rfl rfl ⟨by decide +kernel, rfl⟩ ?_
  refine z_ite (fun h1 => ?_) (fun h1 => ?_)
  · refine z_look (dflt := 55) (ps := #[(42, 49), (43, 43), (45, 46), (60, 52)]) (len := 43) (off := 49) (tgt := 50) (by decide +kernel) (by decide) (by rw [h1]; rfl) rfl ?_
    refine z_bipush (pc' := 52) (n := 9) (v := 9) (by decide) ⟨by decide +kernel, rfl⟩ ?_
    exact z_iret (pc' := 53) ⟨by decide +kernel, rfl⟩
  refine z_ite (fun h2 => ?_) (fun h2 => ?_)
  · refine z_look (dflt := 55) (ps := #[(42, 49), (43, 43), (45, 46), (60, 52)]) (len := 43) (off := 43) (tgt := 44) (by decide +kernel) (by decide) (by rw [h2]; rfl) rfl ?_
    refine z_bipush (pc' := 46) (n := 7) (v := 7) (by decide) ⟨by decide +kernel, rfl⟩ ?_
    exact z_iret (pc' := 47) ⟨by decide +kernel, rfl⟩
  refine z_ite (fun h3 => ?_) (fun h3 => ?_)
  · refine z_look (dflt := 55) (ps := #[(42, 49), (43, 43), (45, 46), (60, 52)]) (len := 43) (off := 46) (tgt := 47) (by decide +kernel) (by decide) (by rw [h3]; rfl) rfl ?_
    refine z_bipush (pc' := 49) (n := 8) (v := 8) (by decide) ⟨by decide +kernel, rfl⟩ ?_
    exact z_iret (pc' := 50) ⟨by decide +kernel, rfl⟩
  refine z_ite (fun h4 => ?_) (fun h4 => ?_)
  · refine z_look (dflt := 55) (ps := #[(42, 49), (43, 43), (45, 46), (60, 52)]) (len := 43) (off := 52) (tgt := 53) (by decide +kernel) (by decide) (by rw [h4]; rfl) rfl ?_
    refine z_bipush (pc' := 55) (n := 10) (v := 10) (by decide) ⟨by decide +kernel, rfl⟩ ?_
    exact z_iret (pc' := 56) ⟨by decide +kernel, rfl⟩
  refine z_look (dflt := 55) (ps := #[(42, 49), (43, 43), (45, 46), (60, 52)]) (len := 43) (off := 55) (tgt := 56) (by decide +kernel) (by decide) (by show Op.lookupswitch.offset [(42, 49), (43, 43), (45, 46), (60, 52)] 55 _ = _; rw [lv_osw h1 (a := 42) (by decide), lv_osw h2 (a := 43) (by decide), lv_osw h3 (a := 45) (by decide), lv_osw h4 (a := 60) (by decide)]; rfl) rfl ?_
  refine z_bipush (pc' := 58) (n := 11) (v := 11) (by decide) ⟨by decide +kernel, rfl⟩ ?_
  exact z_iret (pc' := 59) ⟨by decide +kernel, rfl⟩
set_option maxRecDepth 20000 in
set_option maxHeartbeats 4000000 in
theorem ce_C_compileE_L20_t {κ : zKx} {ca : Nat → ClassId} {D : va_G} {A : Nat → Prop} {c0 : Nat × Nat} {a g0 g : Nat → Nat} {d : Nat} (n : Nat) (f_C_compileE : zMu → Int32 → Option (Int32 × zMu)) (f_C_compileRest : zMu → Int32 → Option (Unit × zMu)) (f_C_compilePost : zMu → Option (Int32 × zMu)) (h_C_compileE : ∀ (u : zMu) (x1 : Int32), zMet (zKl κ) (zCe ca D) ceY_C_compileE (.code ceY_C_compileE prog_2_method_14_code 4 (some .int)) zri true d a g [.ref (a 2), .int x1] u (f_C_compileE u x1)) (h_C_compileRest : ∀ (u : zMu) (x1 : Int32), zMet (zKl κ) (zCe ca D) ceY_C_compileRest (.code ceY_C_compileRest prog_2_method_16_code 5 none) zrv true d a g [.ref (a 2), .int x1] u (f_C_compileRest u x1)) (h_C_compilePost : ∀ (u : zMu), zMet (zKl κ) (zCe ca D) ceY_C_compilePost (.code ceY_C_compilePost prog_2_method_18_code 3 (some .int)) zri true d a g [.ref (a 2)] u (f_C_compilePost u)) (hb : 3 ≤ d) : ∀ (m : Nat) (u : zMu) (x1 : Int32) (x2 : Int32) (x3 : Int32), zJ κ (zCe ca D) prog_2_method_14_code 4 ce_RC (some .int) zri true (d + 1) A c0 a g0 g u 20 [(0, .ref (a 2)), (1, .int x1), (2, .int x2), (3, .int x3)] [] (ce_C_compileE_L20 n f_C_compileE f_C_compileRest f_C_compilePost m u x1 x2 x3) := by
  intro m
  induction m with
  | zero => intro u x1 x2 x3 r u' h; cases h
  | succ m ih =>
    intro u x1 x2 x3
    unfold ce_C_compileE_L20
    refine z_iload_n (pc' := 21) (k := 3) (i := 3) 3 rfl rfl ⟨by decide +kernel, rfl⟩ ?_
    refine z_sipush (pc' := 24) (n := 1500) (v := 1500) (by decide) ⟨by decide +kernel, rfl⟩ ?_
    refine z_icmp_ge (pc' := 27) (tgt := 55) (off := 31) ⟨by decide +kernel, rfl⟩ rfl (fun h1 => ?_) (fun h1 => ?_)
    · refine z_aload_n (pc' := 28) (k := 0) (i := 0) 0 rfl rfl ⟨by decide +kernel, rfl⟩ ?_
      refine z_iload_n (pc' := 29) (k := 1) (i := 1) 1 rfl rfl ⟨by decide +kernel, rfl⟩ ?_
      refine z_callVf (pc' := 32) 2 (cet_C_bindsAt n u x1) (ceG_C190 ca D) (ceO_2 ca D) rfl (by omega) rfl rfl (Nat.le_of_ble_eq_true rfl) ⟨by decide +kernel, rfl⟩ (fun r2 u3 => ?_)
      refine z_if_eq (pc' := 35) (tgt := 55) (off := 23) ⟨by decide +kernel, rfl⟩ rfl (fun h4 => ?_) (fun h4 => ?_)
      · refine z_iload_n (pc' := 56) (k := 2) (i := 2) 2 rfl rfl ⟨by decide +kernel, rfl⟩ ?_
        exact z_iret (pc' := 57) ⟨by decide +kernel, rfl⟩
      · refine z_aload_n (pc' := 36) (k := 0) (i := 0) 0 rfl rfl ⟨by decide +kernel, rfl⟩ ?_
        refine z_iload_n (pc' := 37) (k := 1) (i := 1) 1 rfl rfl ⟨by decide +kernel, rfl⟩ ?_
        refine z_callVf (pc' := 40) 2 (h_C_compileRest u3 x1) (ceG_C193 ca D) (ceO_2 ca D) rfl (by omega) rfl rfl (Nat.le_of_ble_eq_true rfl) ⟨by decide +kernel, rfl⟩ (fun _ u6 => ?_)
        refine z_iconst (pc' := 41) (n := 0) (v := 0) (by decide) ⟨by decide +kernel, rfl⟩ ?_
        refine z_istore_n (pc' := 42) (k := 2) (i := 2) rfl (by decide) rfl ⟨by decide +kernel, rfl⟩ ?_
        refine z_iload_n (pc' := 43) (k := 1) (i := 1) 2 rfl rfl ⟨by decide +kernel, rfl⟩ ?_
        refine z_if_ne (pc' := 46) (tgt := 49) (off := 6) ⟨by decide +kernel, rfl⟩ rfl (fun h7 => ?_) (fun h7 => ?_)
        · refine z_goto (tgt := 55) (off := 9) (by decide +kernel) rfl ?_
          refine z_iload_n (pc' := 56) (k := 2) (i := 2) 0 rfl rfl ⟨by decide +kernel, rfl⟩ ?_
          exact z_iret (pc' := 57) ⟨by decide +kernel, rfl⟩
        · refine z_iincN (pc' := 52) (i := 3) (n := 1) (c := 1) 3 rfl (by decide) (by decide) rfl ⟨by decide +kernel, rfl⟩ fun v8 => ?_
          refine z_goto (tgt := 20) (off := -32) (by decide +kernel) rfl ?_
          refine z_lv [2, 3, 1, 0] (lv' := [(0, .ref (a 2)), (1, .int x1), (2, .int 0), (3, .int v8)]) rfl ?_
          exact ih u6 x1 0 v8
    · refine z_iload_n (pc' := 56) (k := 2) (i := 2) 2 rfl rfl ⟨by decide +kernel, rfl⟩ ?_
      exact z_iret (pc' := 57) ⟨by decide +kernel, rfl⟩
set_option maxRecDepth 20000 in
set_option maxHeartbeats 4000000 in
theorem cet_C_compileE_b {l : Launch} {ca : Nat → ClassId} {D : va_G} {a g : Nat → Nat} {d : Nat} (n : Nat) (f_C_compileE : zMu → Int32 → Option (Int32 × zMu)) (f_C_compileRest : zMu → Int32 → Option (Unit × zMu)) (f_C_compilePost : zMu → Option (Int32 × zMu)) (h_C_compileE : ∀ (u : zMu) (x1 : Int32), zMet l (zCe ca D) ceY_C_compileE (.code ceY_C_compileE prog_2_method_14_code 4 (some .int)) zri true d a g [.ref (a 2), .int x1] u (f_C_compileE u x1)) (h_C_compileRest : ∀ (u : zMu) (x1 : Int32), zMet l (zCe ca D) ceY_C_compileRest (.code ceY_C_compileRest prog_2_method_16_code 5 none) zrv true d a g [.ref (a 2), .int x1] u (f_C_compileRest u x1)) (h_C_compilePost : ∀ (u : zMu), zMet l (zCe ca D) ceY_C_compilePost (.code ceY_C_compilePost prog_2_method_18_code 3 (some .int)) zri true d a g [.ref (a 2)] u (f_C_compilePost u)) (hb : 3 ≤ d) (u : zMu) (x1 : Int32) : zMet l (zCe ca D) ceY_C_compileE (.code ceY_C_compileE prog_2_method_14_code 4 (some .int)) zri true (d + 1) a g [.ref (a 2), .int x1] u (ce_C_compileE_b n f_C_compileE f_C_compileRest f_C_compilePost u x1) := by
  refine zMet.of rfl (Nat.le_of_ble_eq_true rfl) fun κ A hl => ?_
  subst hl
  unfold ce_C_compileE_b
  refine z_iload_n (pc' := 1) (k := 1) (i := 1) 1 rfl rfl ⟨by decide +kernel, rfl⟩ ?_
  refine z_iconst (pc' := 2) (n := 3) (v := 3) (by decide) ⟨by decide +kernel, rfl⟩ ?_
  refine z_icmp_lt (pc' := 5) (tgt := 10) (off := 8) ⟨by decide +kernel, rfl⟩ rfl (fun h1 => ?_) (fun h1 => ?_)
  · refine z_aload_n (pc' := 11) (k := 0) (i := 0) 0 rfl rfl ⟨by decide +kernel, rfl⟩ ?_
    refine z_iload_n (pc' := 12) (k := 1) (i := 1) 1 rfl rfl ⟨by decide +kernel, rfl⟩ ?_
    refine z_iconst (pc' := 13) (n := 1) (v := 1) (by decide) ⟨by decide +kernel, rfl⟩ ?_
    refine z_iadd (pc' := 14) ⟨by decide +kernel, rfl⟩ ?_
    refine z_callVf (pc' := 17) 2 (h_C_compileE u (x1 + 1)) (ceG_C170 ca D) (ceO_2 ca D) rfl (by omega) rfl rfl (Nat.le_of_ble_eq_true rfl) ⟨by decide +kernel, rfl⟩ (fun r2 u3 => ?_)
    refine z_istore_n (pc' := 18) (k := 2) (i := 2) rfl (by decide) rfl ⟨by decide +kernel, rfl⟩ ?_
    refine z_iconst (pc' := 19) (n := 0) (v := 0) (by decide) ⟨by decide +kernel, rfl⟩ ?_
    refine z_istore_n (pc' := 20) (k := 3) (i := 3) rfl (by decide) rfl ⟨by decide +kernel, rfl⟩ ?_
    refine z_lv [2, 3, 1, 0] (lv' := [(0, .ref (a 2)), (1, .int x1), (2, .int r2), (3, .int 0)]) rfl ?_
    exact ce_C_compileE_L20_t n f_C_compileE f_C_compileRest f_C_compilePost h_C_compileE h_C_compileRest h_C_compilePost hb n u3 x1 r2 0
  · refine z_aload_n (pc' := 6) (k := 0) (i := 0) 0 rfl rfl ⟨by decide +kernel, rfl⟩ ?_
    refine z_callVf (pc' := 9) 2 (h_C_compilePost u) (ceG_C187 ca D) (ceO_2 ca D) rfl (by omega) rfl rfl (Nat.le_of_ble_eq_true rfl) ⟨by decide +kernel, rfl⟩ (fun r4 u5 => ?_)
    exact z_iret (pc' := 10) ⟨by decide +kernel, rfl⟩
set_option maxRecDepth 20000 in
set_option maxHeartbeats 4000000 in
theorem ce_C_compileRest_J31_t {κ : zKx} {ca : Nat → ClassId} {D : va_G} {A : Nat → Prop} {c0 : Nat × Nat} {a g0 g : Nat → Nat} {d : Nat} (n : Nat) (f_C_compileE : zMu → Int32 → Option (Int32 × zMu)) (h_C_compileE : ∀ (u : zMu) (x1 : Int32), zMet (zKl κ) (zCe ca D) ceY_C_compileE (.code ceY_C_compileE prog_2_method_14_code 4 (some .int)) zri true d a g [.ref (a 2), .int x1] u (f_C_compileE u x1)) (hb : 3 ≤ d) (u : zMu) (x1 : Int32) (x2 : Int32) (x3 : Int32) (s0 : Int32) : zJ κ (zCe ca D) prog_2_method_16_code 5 ce_RC none zrv true (d + 1) A c0 a g0 g u 31 [(0, .ref (a 2)), (1, .int x1), (2, .int x2), (3, .int x3)] [.int s0] (ce_C_compileRest_J31 n f_C_compileE u x1 x2 x3 s0) := by
  unfold ce_C_compileRest_J31
  refine z_istore (pc' := 33) (i := 4) (by decide) rfl ⟨by decide +kernel, rfl⟩ ?_
  refine z_aload_n (pc' := 34) (k := 0) (i := 0) 1 rfl rfl ⟨by decide +kernel, rfl⟩ ?_
  refine z_getR (pc' := 37) (cef_C12_2 ca D) rfl (y := a 7) rfl ⟨by decide +kernel, rfl⟩ ?_
  refine z_callVf (pc' := 40) 7 (cet_X_advance n u) (ceG_C105 ca D) (ceO_7 ca D) rfl (by omega) rfl rfl (Nat.le_of_ble_eq_true rfl) ⟨by decide +kernel, rfl⟩ (fun _ u2 => ?_)
  refine z_aload_n (pc' := 41) (k := 0) (i := 0) 1 rfl rfl ⟨by decide +kernel, rfl⟩ ?_
  refine z_iload_n (pc' := 42) (k := 1) (i := 1) 2 rfl rfl ⟨by decide +kernel, rfl⟩ ?_
  refine z_iconst (pc' := 43) (n := 1) (v := 1) (by decide) ⟨by decide +kernel, rfl⟩ ?_
  refine z_iadd (pc' := 44) ⟨by decide +kernel, rfl⟩ ?_
  refine z_callVf (pc' := 47) 2 (h_C_compileE u2 (x1 + 1)) (ceG_C170 ca D) (ceO_2 ca D) rfl (by omega) rfl rfl (Nat.le_of_ble_eq_true rfl) ⟨by decide +kernel, rfl⟩ (fun r3 u4 => ?_)
  refine z_pop (pc' := 48) rfl ⟨by decide +kernel, rfl⟩ ?_
  refine z_aload_n (pc' := 49) (k := 0) (i := 0) 1 rfl rfl ⟨by decide +kernel, rfl⟩ ?_
  refine z_getG (pc' := 52) (cef_C52_2 ca D) rfl (fun _ h => ⟨zpr_n0 h, ce_adP0 h⟩) ⟨by decide +kernel, rfl⟩ fun p5 hp5 => ?_
  refine z_iload_n (pc' := 53) (k := 2) (i := 2) 3 rfl rfl ⟨by decide +kernel, rfl⟩ ?_
  refine z_callSf (pc' := 56) (cet_C_opOf n u4 x2) (ceG_C200 ca D) (by omega) rfl rfl (Nat.le_of_ble_eq_true rfl) ⟨by decide +kernel, rfl⟩ (fun r6 u7 => ?_)
  refine z_iload (pc' := 58) (i := 4) 0 rfl ⟨by decide +kernel, rfl⟩ ?_
  refine z_iload_n (pc' := 59) (k := 3) (i := 3) 4 rfl rfl ⟨by decide +kernel, rfl⟩ ?_
  refine z_callVf (pc' := 62) p5 (cet_P_emit n p5 hp5 u7 r6 s0 x3) (ceG_C56 ca D) (ceO_P ca D hp5) (ce_adP0 hp5) (by omega) rfl rfl (Nat.le_of_ble_eq_true rfl) ⟨by decide +kernel, rfl⟩ (fun r8 u9 => ?_)
  refine z_pop (pc' := 63) rfl ⟨by decide +kernel, rfl⟩ ?_
  exact z_vret (pc' := 64) ⟨by decide +kernel, rfl⟩
set_option maxRecDepth 20000 in
set_option maxHeartbeats 4000000 in
theorem cet_C_compileRest_b {l : Launch} {ca : Nat → ClassId} {D : va_G} {a g : Nat → Nat} {d : Nat} (n : Nat) (f_C_compileE : zMu → Int32 → Option (Int32 × zMu)) (h_C_compileE : ∀ (u : zMu) (x1 : Int32), zMet l (zCe ca D) ceY_C_compileE (.code ceY_C_compileE prog_2_method_14_code 4 (some .int)) zri true d a g [.ref (a 2), .int x1] u (f_C_compileE u x1)) (hb : 3 ≤ d) (u : zMu) (x1 : Int32) : zMet l (zCe ca D) ceY_C_compileRest (.code ceY_C_compileRest prog_2_method_16_code 5 none) zrv true (d + 1) a g [.ref (a 2), .int x1] u (ce_C_compileRest_b n f_C_compileE u x1) := by
  refine zMet.of rfl (Nat.le_of_ble_eq_true rfl) fun κ A hl => ?_
  subst hl
  unfold ce_C_compileRest_b
  refine z_aload_n (pc' := 1) (k := 0) (i := 0) 0 rfl rfl ⟨by decide +kernel, rfl⟩ ?_
  refine z_getR (pc' := 4) (cef_C12_2 ca D) rfl (y := a 7) rfl ⟨by decide +kernel, rfl⟩ ?_
  refine z_getI (pc' := 7) (cef_C43_7 ca D) rfl ⟨by decide +kernel, rfl⟩ ?_
  refine z_letI fun v1 => ?_
  refine z_istore_n (pc' := 8) (k := 2) (i := 2) rfl (by decide) rfl ⟨by decide +kernel, rfl⟩ ?_
  refine z_aload_n (pc' := 9) (k := 0) (i := 0) 1 rfl rfl ⟨by decide +kernel, rfl⟩ ?_
  refine z_getR (pc' := 12) (cef_C12_2 ca D) rfl (y := a 7) rfl ⟨by decide +kernel, rfl⟩ ?_
  refine z_getI (pc' := 15) (cef_C116_7 ca D) rfl ⟨by decide +kernel, rfl⟩ ?_
  refine z_letI fun v2 => ?_
  refine z_istore_n (pc' := 16) (k := 3) (i := 3) rfl (by decide) rfl ⟨by decide +kernel, rfl⟩ ?_
  refine z_iload_n (pc' := 17) (k := 1) (i := 1) 3 rfl rfl ⟨by decide +kernel, rfl⟩ ?_
  refine z_if_ne (pc' := 20) (tgt := 24) (off := 7) ⟨by decide +kernel, rfl⟩ rfl (fun h3 => ?_) (fun h3 => ?_)
  · refine z_iconst (pc' := 21) (n := 0) (v := 0) (by decide) ⟨by decide +kernel, rfl⟩ ?_
    refine z_goto (tgt := 31) (off := 10) (by decide +kernel) rfl ?_
    refine z_lv [2, 3, 1, 0] (lv' := [(0, .ref (a 2)), (1, .int x1), (2, .int v1), (3, .int v2)]) rfl ?_
    exact ce_C_compileRest_J31_t n f_C_compileE h_C_compileE hb u x1 v1 v2 0
  · refine z_aload_n (pc' := 25) (k := 0) (i := 0) 2 rfl rfl ⟨by decide +kernel, rfl⟩ ?_
    refine z_iconst (pc' := 26) (n := 3) (v := 3) (by decide) ⟨by decide +kernel, rfl⟩ ?_
    refine z_iload_n (pc' := 27) (k := 3) (i := 3) 0 rfl rfl ⟨by decide +kernel, rfl⟩ ?_
    refine z_lconst (pc' := 28) (n := 0) (v := 0) (by decide) ⟨by decide +kernel, rfl⟩ ?_
    refine z_callVf (pc' := 31) 2 (cet_C_addSite n u 3 v2 0) (ceG_C196 ca D) (ceO_2 ca D) rfl (by omega) rfl rfl (Nat.le_of_ble_eq_true rfl) ⟨by decide +kernel, rfl⟩ (fun r4 u5 => ?_)
    refine z_lv [2, 3, 1, 0] (lv' := [(0, .ref (a 2)), (1, .int x1), (2, .int v1), (3, .int v2)]) rfl ?_
    exact ce_C_compileRest_J31_t n f_C_compileE h_C_compileE hb u5 x1 v1 v2 r4
set_option maxRecDepth 20000 in
set_option maxHeartbeats 4000000 in
theorem ce_C_compilePost_J38_t {κ : zKx} {ca : Nat → ClassId} {D : va_G} {A : Nat → Prop} {c0 : Nat × Nat} {a g0 g : Nat → Nat} {d : Nat} (n : Nat) (f_C_compileItem : zMu → Option (Int32 × zMu)) (f_C_compileOne : zMu → Option (Int32 × zMu)) (h_C_compileItem : ∀ (u : zMu), zMet (zKl κ) (zCe ca D) ceY_C_compileItem (.code ceY_C_compileItem prog_2_method_20_code 2 (some .int)) zri true d a g [.ref (a 2)] u (f_C_compileItem u)) (h_C_compileOne : ∀ (u : zMu), zMet (zKl κ) (zCe ca D) ceY_C_compileOne (.code ceY_C_compileOne prog_2_method_21_code 1 (some .int)) zri true d a g [.ref (a 2)] u (f_C_compileOne u)) (hb : 3 ≤ d) (k7 : zMu → Int32 → Int32 → Option (Int32 × zMu)) (hk7 : ∀ (u : zMu) (x1 : Int32) (x2 : Int32), zJ κ (zCe ca D) prog_2_method_18_code 3 ce_RC (some .int) zri true (d + 1) A c0 a g0 g u 7 [(0, .ref (a 2)), (1, .int x1), (2, .int x2)] [] (k7 u x1 x2)) (u : zMu) (x2 : Int32) : zJ κ (zCe ca D) prog_2_method_18_code 3 ce_RC (some .int) zri true (d + 1) A c0 a g0 g u 38 [(0, .ref (a 2)), (2, .int x2)] [] (ce_C_compilePost_J38 n f_C_compileItem f_C_compileOne k7 u x2) := by
  unfold ce_C_compilePost_J38
  refine z_aload_n (pc' := 39) (k := 0) (i := 0) 0 rfl rfl ⟨by decide +kernel, rfl⟩ ?_
  refine z_getR (pc' := 42) (cef_C12_2 ca D) rfl (y := a 7) rfl ⟨by decide +kernel, rfl⟩ ?_
  refine z_getI (pc' := 45) (cef_C43_7 ca D) rfl ⟨by decide +kernel, rfl⟩ ?_
  refine z_bipush (pc' := 47) (n := 46) (v := 46) (by decide) ⟨by decide +kernel, rfl⟩ ?_
  refine z_icmp_ne (pc' := 50) (tgt := 57) (off := 10) ⟨by decide +kernel, rfl⟩ rfl (fun h1 => ?_) (fun h1 => ?_)
  · refine z_aload_n (pc' := 51) (k := 0) (i := 0) 0 rfl rfl ⟨by decide +kernel, rfl⟩ ?_
    refine z_callVf (pc' := 54) 2 (cet_C_compileMember n u) (ceG_C206 ca D) (ceO_2 ca D) rfl (by omega) rfl rfl (Nat.le_of_ble_eq_true rfl) ⟨by decide +kernel, rfl⟩ (fun r2 u3 => ?_)
    refine z_goto (tgt := 61) (off := 7) (by decide +kernel) rfl ?_
    refine z_istore_n (pc' := 62) (k := 1) (i := 1) rfl (by decide) rfl ⟨by decide +kernel, rfl⟩ ?_
    refine z_iincN (pc' := 65) (i := 2) (n := 1) (c := 1) 2 rfl (by decide) (by decide) rfl ⟨by decide +kernel, rfl⟩ fun v4 => ?_
    refine z_goto (tgt := 7) (off := -58) (by decide +kernel) rfl ?_
    refine z_lv [2, 1, 0] (lv' := [(0, .ref (a 2)), (1, .int r2), (2, .int v4)]) rfl ?_
    exact hk7 u3 r2 v4
  · refine z_aload_n (pc' := 58) (k := 0) (i := 0) 0 rfl rfl ⟨by decide +kernel, rfl⟩ ?_
    refine z_callVf (pc' := 61) 2 (h_C_compileItem u) (ceG_C209 ca D) (ceO_2 ca D) rfl (by omega) rfl rfl (Nat.le_of_ble_eq_true rfl) ⟨by decide +kernel, rfl⟩ (fun r5 u6 => ?_)
    refine z_istore_n (pc' := 62) (k := 1) (i := 1) rfl (by decide) rfl ⟨by decide +kernel, rfl⟩ ?_
    refine z_iincN (pc' := 65) (i := 2) (n := 1) (c := 1) 2 rfl (by decide) (by decide) rfl ⟨by decide +kernel, rfl⟩ fun v7 => ?_
    refine z_goto (tgt := 7) (off := -58) (by decide +kernel) rfl ?_
    refine z_lv [2, 1, 0] (lv' := [(0, .ref (a 2)), (1, .int r5), (2, .int v7)]) rfl ?_
    exact hk7 u6 r5 v7
set_option maxRecDepth 20000 in
set_option maxHeartbeats 4000000 in
theorem ce_C_compilePost_L7_t {κ : zKx} {ca : Nat → ClassId} {D : va_G} {A : Nat → Prop} {c0 : Nat × Nat} {a g0 g : Nat → Nat} {d : Nat} (n : Nat) (f_C_compileItem : zMu → Option (Int32 × zMu)) (f_C_compileOne : zMu → Option (Int32 × zMu)) (h_C_compileItem : ∀ (u : zMu), zMet (zKl κ) (zCe ca D) ceY_C_compileItem (.code ceY_C_compileItem prog_2_method_20_code 2 (some .int)) zri true d a g [.ref (a 2)] u (f_C_compileItem u)) (h_C_compileOne : ∀ (u : zMu), zMet (zKl κ) (zCe ca D) ceY_C_compileOne (.code ceY_C_compileOne prog_2_method_21_code 1 (some .int)) zri true d a g [.ref (a 2)] u (f_C_compileOne u)) (hb : 3 ≤ d) : ∀ (m : Nat) (u : zMu) (x1 : Int32) (x2 : Int32), zJ κ (zCe ca D) prog_2_method_18_code 3 ce_RC (some .int) zri true (d + 1) A c0 a g0 g u 7 [(0, .ref (a 2)), (1, .int x1), (2, .int x2)] [] (ce_C_compilePost_L7 n f_C_compileItem f_C_compileOne m u x1 x2) := by
  intro m
  induction m with
  | zero => intro u x1 x2 r u' h; cases h
  | succ m ih =>
    intro u x1 x2
    unfold ce_C_compilePost_L7
    refine z_iload_n (pc' := 8) (k := 2) (i := 2) 2 rfl rfl ⟨by decide +kernel, rfl⟩ ?_
    refine z_sipush (pc' := 11) (n := 1500) (v := 1500) (by decide) ⟨by decide +kernel, rfl⟩ ?_
    refine z_icmp_ge (pc' := 14) (tgt := 68) (off := 57) ⟨by decide +kernel, rfl⟩ rfl (fun h1 => ?_) (fun h1 => ?_)
    · refine z_aload_n (pc' := 15) (k := 0) (i := 0) 0 rfl rfl ⟨by decide +kernel, rfl⟩ ?_
      refine z_getR (pc' := 18) (cef_C12_2 ca D) rfl (y := a 7) rfl ⟨by decide +kernel, rfl⟩ ?_
      refine z_getI (pc' := 21) (cef_C43_7 ca D) rfl ⟨by decide +kernel, rfl⟩ ?_
      refine z_bipush (pc' := 23) (n := 46) (v := 46) (by decide) ⟨by decide +kernel, rfl⟩ ?_
      refine z_icmp_eq (pc' := 26) (tgt := 38) (off := 15) ⟨by decide +kernel, rfl⟩ rfl (fun h2 => ?_) (fun h2 => ?_)
      · refine z_lv [0, 2] (lv' := [(0, .ref (a 2)), (2, .int x2)]) rfl ?_
        exact ce_C_compilePost_J38_t n f_C_compileItem f_C_compileOne h_C_compileItem h_C_compileOne hb (ce_C_compilePost_L7 n f_C_compileItem f_C_compileOne m) (ih) u x2
      · refine z_aload_n (pc' := 27) (k := 0) (i := 0) 0 rfl rfl ⟨by decide +kernel, rfl⟩ ?_
        refine z_getR (pc' := 30) (cef_C12_2 ca D) rfl (y := a 7) rfl ⟨by decide +kernel, rfl⟩ ?_
        refine z_getI (pc' := 33) (cef_C43_7 ca D) rfl ⟨by decide +kernel, rfl⟩ ?_
        refine z_bipush (pc' := 35) (n := 91) (v := 91) (by decide) ⟨by decide +kernel, rfl⟩ ?_
        refine z_icmp_ne (pc' := 38) (tgt := 68) (off := 33) ⟨by decide +kernel, rfl⟩ rfl (fun h3 => ?_) (fun h3 => ?_)
        · refine z_lv [0, 2] (lv' := [(0, .ref (a 2)), (2, .int x2)]) rfl ?_
          exact ce_C_compilePost_J38_t n f_C_compileItem f_C_compileOne h_C_compileItem h_C_compileOne hb (ce_C_compilePost_L7 n f_C_compileItem f_C_compileOne m) (ih) u x2
        · refine z_iload_n (pc' := 69) (k := 1) (i := 1) 1 rfl rfl ⟨by decide +kernel, rfl⟩ ?_
          exact z_iret (pc' := 70) ⟨by decide +kernel, rfl⟩
    · refine z_iload_n (pc' := 69) (k := 1) (i := 1) 1 rfl rfl ⟨by decide +kernel, rfl⟩ ?_
      exact z_iret (pc' := 70) ⟨by decide +kernel, rfl⟩
set_option maxRecDepth 20000 in
set_option maxHeartbeats 4000000 in
theorem cet_C_compilePost_b {l : Launch} {ca : Nat → ClassId} {D : va_G} {a g : Nat → Nat} {d : Nat} (n : Nat) (f_C_compileItem : zMu → Option (Int32 × zMu)) (f_C_compileOne : zMu → Option (Int32 × zMu)) (h_C_compileItem : ∀ (u : zMu), zMet l (zCe ca D) ceY_C_compileItem (.code ceY_C_compileItem prog_2_method_20_code 2 (some .int)) zri true d a g [.ref (a 2)] u (f_C_compileItem u)) (h_C_compileOne : ∀ (u : zMu), zMet l (zCe ca D) ceY_C_compileOne (.code ceY_C_compileOne prog_2_method_21_code 1 (some .int)) zri true d a g [.ref (a 2)] u (f_C_compileOne u)) (hb : 3 ≤ d) (u : zMu) : zMet l (zCe ca D) ceY_C_compilePost (.code ceY_C_compilePost prog_2_method_18_code 3 (some .int)) zri true (d + 1) a g [.ref (a 2)] u (ce_C_compilePost_b n f_C_compileItem f_C_compileOne u) := by
  refine zMet.of rfl (Nat.le_of_ble_eq_true rfl) fun κ A hl => ?_
  subst hl
  unfold ce_C_compilePost_b
  refine z_aload_n (pc' := 1) (k := 0) (i := 0) 0 rfl rfl ⟨by decide +kernel, rfl⟩ ?_
  refine z_callVf (pc' := 4) 2 (h_C_compileOne u) (ceG_C203 ca D) (ceO_2 ca D) rfl (by omega) rfl rfl (Nat.le_of_ble_eq_true rfl) ⟨by decide +kernel, rfl⟩ (fun r1 u2 => ?_)
  refine z_istore_n (pc' := 5) (k := 1) (i := 1) rfl (by decide) rfl ⟨by decide +kernel, rfl⟩ ?_
  refine z_iconst (pc' := 6) (n := 0) (v := 0) (by decide) ⟨by decide +kernel, rfl⟩ ?_
  refine z_istore_n (pc' := 7) (k := 2) (i := 2) rfl (by decide) rfl ⟨by decide +kernel, rfl⟩ ?_
  refine z_lv [2, 1, 0] (lv' := [(0, .ref (a 2)), (1, .int r1), (2, .int 0)]) rfl ?_
  exact ce_C_compilePost_L7_t n f_C_compileItem f_C_compileOne h_C_compileItem h_C_compileOne hb n u2 r1 0
set_option maxRecDepth 20000 in
set_option maxHeartbeats 4000000 in
theorem cet_C_compileItem_b {l : Launch} {ca : Nat → ClassId} {D : va_G} {a g : Nat → Nat} {d : Nat} (n : Nat) (f_C_compileE : zMu → Int32 → Option (Int32 × zMu)) (h_C_compileE : ∀ (u : zMu) (x1 : Int32), zMet l (zCe ca D) ceY_C_compileE (.code ceY_C_compileE prog_2_method_14_code 4 (some .int)) zri true d a g [.ref (a 2), .int x1] u (f_C_compileE u x1)) (hb : 3 ≤ d) (u : zMu) : zMet l (zCe ca D) ceY_C_compileItem (.code ceY_C_compileItem prog_2_method_20_code 2 (some .int)) zri true (d + 1) a g [.ref (a 2)] u (ce_C_compileItem_b n f_C_compileE u) := by
  refine zMet.of rfl (Nat.le_of_ble_eq_true rfl) fun κ A hl => ?_
  subst hl
  unfold ce_C_compileItem_b
  refine z_aload_n (pc' := 1) (k := 0) (i := 0) 0 rfl rfl ⟨by decide +kernel, rfl⟩ ?_
  refine z_getR (pc' := 4) (cef_C12_2 ca D) rfl (y := a 7) rfl ⟨by decide +kernel, rfl⟩ ?_
  refine z_getI (pc' := 7) (cef_C116_7 ca D) rfl ⟨by decide +kernel, rfl⟩ ?_
  refine z_letI fun v1 => ?_
  refine z_istore_n (pc' := 8) (k := 1) (i := 1) rfl (by decide) rfl ⟨by decide +kernel, rfl⟩ ?_
  refine z_aload_n (pc' := 9) (k := 0) (i := 0) 1 rfl rfl ⟨by decide +kernel, rfl⟩ ?_
  refine z_bipush (pc' := 11) (n := 91) (v := 91) (by decide) ⟨by decide +kernel, rfl⟩ ?_
  refine z_callVf (pc' := 14) 2 (cet_C_opens n u 91) (ceG_C129 ca D) (ceO_2 ca D) rfl (by omega) rfl rfl (Nat.le_of_ble_eq_true rfl) ⟨by decide +kernel, rfl⟩ (fun _ u3 => ?_)
  refine z_aload_n (pc' := 15) (k := 0) (i := 0) 1 rfl rfl ⟨by decide +kernel, rfl⟩ ?_
  refine z_iconst (pc' := 16) (n := 0) (v := 0) (by decide) ⟨by decide +kernel, rfl⟩ ?_
  refine z_callVf (pc' := 19) 2 (h_C_compileE u3 0) (ceG_C170 ca D) (ceO_2 ca D) rfl (by omega) rfl rfl (Nat.le_of_ble_eq_true rfl) ⟨by decide +kernel, rfl⟩ (fun r4 u5 => ?_)
  refine z_pop (pc' := 20) rfl ⟨by decide +kernel, rfl⟩ ?_
  refine z_aload_n (pc' := 21) (k := 0) (i := 0) 1 rfl rfl ⟨by decide +kernel, rfl⟩ ?_
  refine z_bipush (pc' := 23) (n := 93) (v := 93) (by decide) ⟨by decide +kernel, rfl⟩ ?_
  refine z_callVf (pc' := 26) 2 (cet_C_closes n u5 93) (ceG_C146 ca D) (ceO_2 ca D) rfl (by omega) rfl rfl (Nat.le_of_ble_eq_true rfl) ⟨by decide +kernel, rfl⟩ (fun _ u7 => ?_)
  refine z_aload_n (pc' := 27) (k := 0) (i := 0) 1 rfl rfl ⟨by decide +kernel, rfl⟩ ?_
  refine z_getG (pc' := 30) (cef_C52_2 ca D) rfl (fun _ h => ⟨zpr_n0 h, ce_adP0 h⟩) ⟨by decide +kernel, rfl⟩ fun p8 hp8 => ?_
  refine z_bipush (pc' := 32) (n := 17) (v := 17) (by decide) ⟨by decide +kernel, rfl⟩ ?_
  refine z_iconst (pc' := 33) (n := 0) (v := 0) (by decide) ⟨by decide +kernel, rfl⟩ ?_
  refine z_iload_n (pc' := 34) (k := 1) (i := 1) 0 rfl rfl ⟨by decide +kernel, rfl⟩ ?_
  refine z_callVf (pc' := 37) p8 (cet_P_emit n p8 hp8 u7 17 0 v1) (ceG_C56 ca D) (ceO_P ca D hp8) (ce_adP0 hp8) (by omega) rfl rfl (Nat.le_of_ble_eq_true rfl) ⟨by decide +kernel, rfl⟩ (fun r9 u10 => ?_)
  refine z_pop (pc' := 38) rfl ⟨by decide +kernel, rfl⟩ ?_
  refine z_iconst (pc' := 39) (n := 3) (v := 3) (by decide) ⟨by decide +kernel, rfl⟩ ?_
  exact z_iret (pc' := 40) ⟨by decide +kernel, rfl⟩
set_option maxRecDepth 20000 in
set_option maxHeartbeats 4000000 in
theorem cet_C_compileOne_b {l : Launch} {ca : Nat → ClassId} {D : va_G} {a g : Nat → Nat} {d : Nat} (n : Nat) (f_C_compileE : zMu → Int32 → Option (Int32 × zMu)) (f_C_compileNegated : zMu → Option (Unit × zMu)) (f_C_compileMade : zMu → Int32 → Option (Unit × zMu)) (f_C_compileNamed : zMu → Option (Int32 × zMu)) (h_C_compileE : ∀ (u : zMu) (x1 : Int32), zMet l (zCe ca D) ceY_C_compileE (.code ceY_C_compileE prog_2_method_14_code 4 (some .int)) zri true d a g [.ref (a 2), .int x1] u (f_C_compileE u x1)) (h_C_compileNegated : ∀ (u : zMu), zMet l (zCe ca D) ceY_C_compileNegated (.code ceY_C_compileNegated prog_2_method_22_code 2 none) zrv true d a g [.ref (a 2)] u (f_C_compileNegated u)) (h_C_compileMade : ∀ (u : zMu) (x1 : Int32), zMet l (zCe ca D) ceY_C_compileMade (.code ceY_C_compileMade prog_2_method_23_code 3 none) zrv true d a g [.ref (a 2), .int x1] u (f_C_compileMade u x1)) (h_C_compileNamed : ∀ (u : zMu), zMet l (zCe ca D) ceY_C_compileNamed (.code ceY_C_compileNamed prog_2_method_24_code 5 (some .int)) zri true d a g [.ref (a 2)] u (f_C_compileNamed u)) (hb : 3 ≤ d) (u : zMu) : zMet l (zCe ca D) ceY_C_compileOne (.code ceY_C_compileOne prog_2_method_21_code 1 (some .int)) zri true (d + 1) a g [.ref (a 2)] u (ce_C_compileOne_b n f_C_compileE f_C_compileNegated f_C_compileMade f_C_compileNamed u) := by
  refine zMet.of rfl (Nat.le_of_ble_eq_true rfl) fun κ A hl => ?_
  subst hl
  unfold ce_C_compileOne_b
  refine z_aload_n (pc' := 1) (k := 0) (i := 0) 0 rfl rfl ⟨by decide +kernel, rfl⟩ ?_
  refine z_getR (pc' := 4) (cef_C12_2 ca D) rfl (y := a 7) rfl ⟨by decide +kernel, rfl⟩ ?_
  refine z_getI (pc' := 7) (cef_C43_7 ca D) rfl ⟨by decide +kernel, rfl⟩ ?_
  refine z_letI fun v1 => ?_
  refine z_ite (fun h8 => ?_) (fun h8 => ?_)
  · refine z_look (dflt := 194) (ps := #[(40, 173), (45, 166), (258, 73), (259, 134), (308, 139), (309, 148), (310, 157), (311, 107)]) (len := 73) (off := 173) (tgt := 180) (by decide +kernel) (by decide) (by rw [h8]; rfl) rfl ?_
    refine z_aload_n (pc' := 181) (k := 0) (i := 0) 0 rfl rfl ⟨by decide +kernel, rfl⟩ ?_
    refine z_bipush (pc' := 183) (n := 40) (v := 40) (by decide) ⟨by decide +kernel, rfl⟩ ?_
    refine z_callVf (pc' := 186) 2 (cet_C_opens n u 40) (ceG_C129 ca D) (ceO_2 ca D) rfl (by omega) rfl rfl (Nat.le_of_ble_eq_true rfl) ⟨by decide +kernel, rfl⟩ (fun _ u3 => ?_)
    refine z_aload_n (pc' := 187) (k := 0) (i := 0) 0 rfl rfl ⟨by decide +kernel, rfl⟩ ?_
    refine z_iconst (pc' := 188) (n := 0) (v := 0) (by decide) ⟨by decide +kernel, rfl⟩ ?_
    refine z_callVf (pc' := 191) 2 (h_C_compileE u3 0) (ceG_C170 ca D) (ceO_2 ca D) rfl (by omega) rfl rfl (Nat.le_of_ble_eq_true rfl) ⟨by decide +kernel, rfl⟩ (fun r4 u5 => ?_)
    refine z_pop (pc' := 192) rfl ⟨by decide +kernel, rfl⟩ ?_
    refine z_aload_n (pc' := 193) (k := 0) (i := 0) 0 rfl rfl ⟨by decide +kernel, rfl⟩ ?_
    refine z_bipush (pc' := 195) (n := 41) (v := 41) (by decide) ⟨by decide +kernel, rfl⟩ ?_
    refine z_callVf (pc' := 198) 2 (cet_C_closes n u5 41) (ceG_C146 ca D) (ceO_2 ca D) rfl (by omega) rfl rfl (Nat.le_of_ble_eq_true rfl) ⟨by decide +kernel, rfl⟩ (fun _ u7 => ?_)
    refine z_goto (tgt := 205) (off := 7) (by decide +kernel) rfl ?_
    refine z_iconst (pc' := 206) (n := 0) (v := 0) (by decide) ⟨by decide +kernel, rfl⟩ ?_
    exact z_iret (pc' := 207) ⟨by decide +kernel, rfl⟩
  refine z_ite (fun h11 => ?_) (fun h11 => ?_)
  · refine z_look (dflt := 194) (ps := #[(40, 173), (45, 166), (258, 73), (259, 134), (308, 139), (309, 148), (310, 157), (311, 107)]) (len := 73) (off := 166) (tgt := 173) (by decide +kernel) (by decide) (by rw [h11]; rfl) rfl ?_
    refine z_aload_n (pc' := 174) (k := 0) (i := 0) 0 rfl rfl ⟨by decide +kernel, rfl⟩ ?_
    refine z_callVf (pc' := 177) 2 (h_C_compileNegated u) (ceG_C218 ca D) (ceO_2 ca D) rfl (by omega) rfl rfl (Nat.le_of_ble_eq_true rfl) ⟨by decide +kernel, rfl⟩ (fun _ u10 => ?_)
    refine z_goto (tgt := 205) (off := 28) (by decide +kernel) rfl ?_
    refine z_iconst (pc' := 206) (n := 0) (v := 0) (by decide) ⟨by decide +kernel, rfl⟩ ?_
    exact z_iret (pc' := 207) ⟨by decide +kernel, rfl⟩
  refine z_ite (fun h17 => ?_) (fun h17 => ?_)
  · refine z_look (dflt := 194) (ps := #[(40, 173), (45, 166), (258, 73), (259, 134), (308, 139), (309, 148), (310, 157), (311, 107)]) (len := 73) (off := 73) (tgt := 80) (by decide +kernel) (by decide) (by rw [h17]; rfl) rfl ?_
    refine z_aload_n (pc' := 81) (k := 0) (i := 0) 0 rfl rfl ⟨by decide +kernel, rfl⟩ ?_
    refine z_getG (pc' := 84) (cef_C52_2 ca D) rfl (fun _ h => ⟨zpr_n0 h, ce_adP0 h⟩) ⟨by decide +kernel, rfl⟩ fun p12 hp12 => ?_
    refine z_iconst (pc' := 85) (n := 1) (v := 1) (by decide) ⟨by decide +kernel, rfl⟩ ?_
    refine z_aload_n (pc' := 86) (k := 0) (i := 0) 0 rfl rfl ⟨by decide +kernel, rfl⟩ ?_
    refine z_getR (pc' := 89) (cef_C12_2 ca D) rfl (y := a 7) rfl ⟨by decide +kernel, rfl⟩ ?_
    refine z_getL (pc' := 92) (cef_C108_7 ca D) rfl ⟨by decide +kernel, rfl⟩ ?_
    refine z_l2i (pc' := 93) ⟨by decide +kernel, rfl⟩ ?_
    refine z_aload_n (pc' := 94) (k := 0) (i := 0) 0 rfl rfl ⟨by decide +kernel, rfl⟩ ?_
    refine z_getR (pc' := 97) (cef_C12_2 ca D) rfl (y := a 7) rfl ⟨by decide +kernel, rfl⟩ ?_
    refine z_getI (pc' := 100) (cef_C116_7 ca D) rfl ⟨by decide +kernel, rfl⟩ ?_
    refine z_callVf (pc' := 103) p12 (cet_P_emit n p12 hp12 u 1 ((zL u 7 8).toInt32) (zI u 7 7)) (ceG_C56 ca D) (ceO_P ca D hp12) (ce_adP0 hp12) (by omega) rfl rfl (Nat.le_of_ble_eq_true rfl) ⟨by decide +kernel, rfl⟩ (fun r13 u14 => ?_)
    refine z_pop (pc' := 104) rfl ⟨by decide +kernel, rfl⟩ ?_
    refine z_aload_n (pc' := 105) (k := 0) (i := 0) 0 rfl rfl ⟨by decide +kernel, rfl⟩ ?_
    refine z_getR (pc' := 108) (cef_C12_2 ca D) rfl (y := a 7) rfl ⟨by decide +kernel, rfl⟩ ?_
    refine z_callVf (pc' := 111) 7 (cet_X_advance n u14) (ceG_C105 ca D) (ceO_7 ca D) rfl (by omega) rfl rfl (Nat.le_of_ble_eq_true rfl) ⟨by decide +kernel, rfl⟩ (fun _ u16 => ?_)
    refine z_goto (tgt := 205) (off := 94) (by decide +kernel) rfl ?_
    refine z_iconst (pc' := 206) (n := 0) (v := 0) (by decide) ⟨by decide +kernel, rfl⟩ ?_
    exact z_iret (pc' := 207) ⟨by decide +kernel, rfl⟩
  refine z_ite (fun h20 => ?_) (fun h20 => ?_)
  · refine z_look (dflt := 194) (ps := #[(40, 173), (45, 166), (258, 73), (259, 134), (308, 139), (309, 148), (310, 157), (311, 107)]) (len := 73) (off := 134) (tgt := 141) (by decide +kernel) (by decide) (by rw [h20]; rfl) rfl ?_
    refine z_aload_n (pc' := 142) (k := 0) (i := 0) 0 rfl rfl ⟨by decide +kernel, rfl⟩ ?_
    refine z_callVf (pc' := 145) 2 (h_C_compileNamed u) (ceG_C212 ca D) (ceO_2 ca D) rfl (by omega) rfl rfl (Nat.le_of_ble_eq_true rfl) ⟨by decide +kernel, rfl⟩ (fun r18 u19 => ?_)
    exact z_iret (pc' := 146) ⟨by decide +kernel, rfl⟩
  refine z_ite (fun h23 => ?_) (fun h23 => ?_)
  · refine z_look (dflt := 194) (ps := #[(40, 173), (45, 166), (258, 73), (259, 134), (308, 139), (309, 148), (310, 157), (311, 107)]) (len := 73) (off := 139) (tgt := 146) (by decide +kernel) (by decide) (by rw [h23]; rfl) rfl ?_
    refine z_aload_n (pc' := 147) (k := 0) (i := 0) 0 rfl rfl ⟨by decide +kernel, rfl⟩ ?_
    refine z_bipush (pc' := 149) (n := 12) (v := 12) (by decide) ⟨by decide +kernel, rfl⟩ ?_
    refine z_callVf (pc' := 152) 2 (h_C_compileMade u 12) (ceG_C215 ca D) (ceO_2 ca D) rfl (by omega) rfl rfl (Nat.le_of_ble_eq_true rfl) ⟨by decide +kernel, rfl⟩ (fun _ u22 => ?_)
    refine z_goto (tgt := 205) (off := 53) (by decide +kernel) rfl ?_
    refine z_iconst (pc' := 206) (n := 0) (v := 0) (by decide) ⟨by decide +kernel, rfl⟩ ?_
    exact z_iret (pc' := 207) ⟨by decide +kernel, rfl⟩
  refine z_ite (fun h26 => ?_) (fun h26 => ?_)
  · refine z_look (dflt := 194) (ps := #[(40, 173), (45, 166), (258, 73), (259, 134), (308, 139), (309, 148), (310, 157), (311, 107)]) (len := 73) (off := 148) (tgt := 155) (by decide +kernel) (by decide) (by rw [h26]; rfl) rfl ?_
    refine z_aload_n (pc' := 156) (k := 0) (i := 0) 0 rfl rfl ⟨by decide +kernel, rfl⟩ ?_
    refine z_bipush (pc' := 158) (n := 16) (v := 16) (by decide) ⟨by decide +kernel, rfl⟩ ?_
    refine z_callVf (pc' := 161) 2 (h_C_compileMade u 16) (ceG_C215 ca D) (ceO_2 ca D) rfl (by omega) rfl rfl (Nat.le_of_ble_eq_true rfl) ⟨by decide +kernel, rfl⟩ (fun _ u25 => ?_)
    refine z_goto (tgt := 205) (off := 44) (by decide +kernel) rfl ?_
    refine z_iconst (pc' := 206) (n := 0) (v := 0) (by decide) ⟨by decide +kernel, rfl⟩ ?_
    exact z_iret (pc' := 207) ⟨by decide +kernel, rfl⟩
  refine z_ite (fun h29 => ?_) (fun h29 => ?_)
  · refine z_look (dflt := 194) (ps := #[(40, 173), (45, 166), (258, 73), (259, 134), (308, 139), (309, 148), (310, 157), (311, 107)]) (len := 73) (off := 157) (tgt := 164) (by decide +kernel) (by decide) (by rw [h29]; rfl) rfl ?_
    refine z_aload_n (pc' := 165) (k := 0) (i := 0) 0 rfl rfl ⟨by decide +kernel, rfl⟩ ?_
    refine z_bipush (pc' := 167) (n := 19) (v := 19) (by decide) ⟨by decide +kernel, rfl⟩ ?_
    refine z_callVf (pc' := 170) 2 (h_C_compileMade u 19) (ceG_C215 ca D) (ceO_2 ca D) rfl (by omega) rfl rfl (Nat.le_of_ble_eq_true rfl) ⟨by decide +kernel, rfl⟩ (fun _ u28 => ?_)
    refine z_goto (tgt := 205) (off := 35) (by decide +kernel) rfl ?_
    refine z_iconst (pc' := 206) (n := 0) (v := 0) (by decide) ⟨by decide +kernel, rfl⟩ ?_
    exact z_iret (pc' := 207) ⟨by decide +kernel, rfl⟩
  refine z_ite (fun h35 => ?_) (fun h35 => ?_)
  · refine z_look (dflt := 194) (ps := #[(40, 173), (45, 166), (258, 73), (259, 134), (308, 139), (309, 148), (310, 157), (311, 107)]) (len := 73) (off := 107) (tgt := 114) (by decide +kernel) (by decide) (by rw [h35]; rfl) rfl ?_
    refine z_aload_n (pc' := 115) (k := 0) (i := 0) 0 rfl rfl ⟨by decide +kernel, rfl⟩ ?_
    refine z_getG (pc' := 118) (cef_C52_2 ca D) rfl (fun _ h => ⟨zpr_n0 h, ce_adP0 h⟩) ⟨by decide +kernel, rfl⟩ fun p30 hp30 => ?_
    refine z_iconst (pc' := 119) (n := 2) (v := 2) (by decide) ⟨by decide +kernel, rfl⟩ ?_
    refine z_iconst (pc' := 120) (n := 0) (v := 0) (by decide) ⟨by decide +kernel, rfl⟩ ?_
    refine z_aload_n (pc' := 121) (k := 0) (i := 0) 0 rfl rfl ⟨by decide +kernel, rfl⟩ ?_
    refine z_getR (pc' := 124) (cef_C12_2 ca D) rfl (y := a 7) rfl ⟨by decide +kernel, rfl⟩ ?_
    refine z_getI (pc' := 127) (cef_C116_7 ca D) rfl ⟨by decide +kernel, rfl⟩ ?_
    refine z_callVf (pc' := 130) p30 (cet_P_emit n p30 hp30 u 2 0 (zI u 7 7)) (ceG_C56 ca D) (ceO_P ca D hp30) (ce_adP0 hp30) (by omega) rfl rfl (Nat.le_of_ble_eq_true rfl) ⟨by decide +kernel, rfl⟩ (fun r31 u32 => ?_)
    refine z_pop (pc' := 131) rfl ⟨by decide +kernel, rfl⟩ ?_
    refine z_aload_n (pc' := 132) (k := 0) (i := 0) 0 rfl rfl ⟨by decide +kernel, rfl⟩ ?_
    refine z_getR (pc' := 135) (cef_C12_2 ca D) rfl (y := a 7) rfl ⟨by decide +kernel, rfl⟩ ?_
    refine z_callVf (pc' := 138) 7 (cet_X_advance n u32) (ceG_C105 ca D) (ceO_7 ca D) rfl (by omega) rfl rfl (Nat.le_of_ble_eq_true rfl) ⟨by decide +kernel, rfl⟩ (fun _ u34 => ?_)
    refine z_goto (tgt := 205) (off := 67) (by decide +kernel) rfl ?_
    refine z_iconst (pc' := 206) (n := 0) (v := 0) (by decide) ⟨by decide +kernel, rfl⟩ ?_
    exact z_iret (pc' := 207) ⟨by decide +kernel, rfl⟩
  refine z_look (dflt := 194) (ps := #[(40, 173), (45, 166), (258, 73), (259, 134), (308, 139), (309, 148), (310, 157), (311, 107)]) (len := 73) (off := 194) (tgt := 201) (by decide +kernel) (by decide) (by show Op.lookupswitch.offset [(40, 173), (45, 166), (258, 73), (259, 134), (308, 139), (309, 148), (310, 157), (311, 107)] 194 _ = _; rw [lv_osw h8 (a := 40) (by decide), lv_osw h11 (a := 45) (by decide), lv_osw h17 (a := 258) (by decide), lv_osw h20 (a := 259) (by decide), lv_osw h23 (a := 308) (by decide), lv_osw h26 (a := 309) (by decide), lv_osw h29 (a := 310) (by decide), lv_osw h35 (a := 311) (by decide)]; rfl) rfl ?_
  refine z_aload_n (pc' := 202) (k := 0) (i := 0) 0 rfl rfl ⟨by decide +kernel, rfl⟩ ?_
  refine z_callVf (pc' := 205) 2 (cet_C_refuse n u) (ceG_C102 ca D) (ceO_2 ca D) rfl (by omega) rfl rfl (Nat.le_of_ble_eq_true rfl) ⟨by decide +kernel, rfl⟩ (fun _ u37 => ?_)
  refine z_iconst (pc' := 206) (n := 0) (v := 0) (by decide) ⟨by decide +kernel, rfl⟩ ?_
  exact z_iret (pc' := 207) ⟨by decide +kernel, rfl⟩
set_option maxRecDepth 20000 in
set_option maxHeartbeats 4000000 in
theorem cet_C_compileNegated_b {l : Launch} {ca : Nat → ClassId} {D : va_G} {a g : Nat → Nat} {d : Nat} (n : Nat) (f_C_compileOne : zMu → Option (Int32 × zMu)) (h_C_compileOne : ∀ (u : zMu), zMet l (zCe ca D) ceY_C_compileOne (.code ceY_C_compileOne prog_2_method_21_code 1 (some .int)) zri true d a g [.ref (a 2)] u (f_C_compileOne u)) (hb : 3 ≤ d) (u : zMu) : zMet l (zCe ca D) ceY_C_compileNegated (.code ceY_C_compileNegated prog_2_method_22_code 2 none) zrv true (d + 1) a g [.ref (a 2)] u (ce_C_compileNegated_b n f_C_compileOne u) := by
  refine zMet.of rfl (Nat.le_of_ble_eq_true rfl) fun κ A hl => ?_
  subst hl
  unfold ce_C_compileNegated_b
  refine z_aload_n (pc' := 1) (k := 0) (i := 0) 0 rfl rfl ⟨by decide +kernel, rfl⟩ ?_
  refine z_getR (pc' := 4) (cef_C12_2 ca D) rfl (y := a 7) rfl ⟨by decide +kernel, rfl⟩ ?_
  refine z_getI (pc' := 7) (cef_C116_7 ca D) rfl ⟨by decide +kernel, rfl⟩ ?_
  refine z_letI fun v1 => ?_
  refine z_istore_n (pc' := 8) (k := 1) (i := 1) rfl (by decide) rfl ⟨by decide +kernel, rfl⟩ ?_
  refine z_aload_n (pc' := 9) (k := 0) (i := 0) 1 rfl rfl ⟨by decide +kernel, rfl⟩ ?_
  refine z_bipush (pc' := 11) (n := 45) (v := 45) (by decide) ⟨by decide +kernel, rfl⟩ ?_
  refine z_callVf (pc' := 14) 2 (cet_C_opens n u 45) (ceG_C129 ca D) (ceO_2 ca D) rfl (by omega) rfl rfl (Nat.le_of_ble_eq_true rfl) ⟨by decide +kernel, rfl⟩ (fun _ u3 => ?_)
  refine z_aload_n (pc' := 15) (k := 0) (i := 0) 1 rfl rfl ⟨by decide +kernel, rfl⟩ ?_
  refine z_callVf (pc' := 18) 2 (h_C_compileOne u3) (ceG_C203 ca D) (ceO_2 ca D) rfl (by omega) rfl rfl (Nat.le_of_ble_eq_true rfl) ⟨by decide +kernel, rfl⟩ (fun r4 u5 => ?_)
  refine z_pop (pc' := 19) rfl ⟨by decide +kernel, rfl⟩ ?_
  refine z_aload_n (pc' := 20) (k := 0) (i := 0) 1 rfl rfl ⟨by decide +kernel, rfl⟩ ?_
  refine z_dup (pc' := 21) rfl ⟨by decide +kernel, rfl⟩ ?_
  refine z_getI (pc' := 24) (cef_C93_2 ca D) rfl ⟨by decide +kernel, rfl⟩ ?_
  refine z_iconst (pc' := 25) (n := 1) (v := 1) (by decide) ⟨by decide +kernel, rfl⟩ ?_
  refine z_isub (pc' := 26) ⟨by decide +kernel, rfl⟩ ?_
  refine z_putI (pc' := 29) (cef_C93_2 ca D) rfl ⟨by decide +kernel, rfl⟩ (z_letU fun u6 => ?_)
  refine z_aload_n (pc' := 30) (k := 0) (i := 0) 1 rfl rfl ⟨by decide +kernel, rfl⟩ ?_
  refine z_getG (pc' := 33) (cef_C52_2 ca D) rfl (fun _ h => ⟨zpr_n0 h, ce_adP0 h⟩) ⟨by decide +kernel, rfl⟩ fun p7 hp7 => ?_
  refine z_bipush (pc' := 35) (n := 6) (v := 6) (by decide) ⟨by decide +kernel, rfl⟩ ?_
  refine z_iconst (pc' := 36) (n := 0) (v := 0) (by decide) ⟨by decide +kernel, rfl⟩ ?_
  refine z_iload_n (pc' := 37) (k := 1) (i := 1) 0 rfl rfl ⟨by decide +kernel, rfl⟩ ?_
  refine z_callVf (pc' := 40) p7 (cet_P_emit n p7 hp7 u6 6 0 v1) (ceG_C56 ca D) (ceO_P ca D hp7) (ce_adP0 hp7) (by omega) rfl rfl (Nat.le_of_ble_eq_true rfl) ⟨by decide +kernel, rfl⟩ (fun r8 u9 => ?_)
  refine z_pop (pc' := 41) rfl ⟨by decide +kernel, rfl⟩ ?_
  exact z_vret (pc' := 42) ⟨by decide +kernel, rfl⟩
set_option maxRecDepth 20000 in
set_option maxHeartbeats 4000000 in
theorem ce_C_compileMade_J59_t {κ : zKx} {ca : Nat → ClassId} {D : va_G} {A : Nat → Prop} {c0 : Nat × Nat} {a g0 g : Nat → Nat} {d : Nat} (n : Nat) (f_C_compileE : zMu → Int32 → Option (Int32 × zMu)) (h_C_compileE : ∀ (u : zMu) (x1 : Int32), zMet (zKl κ) (zCe ca D) ceY_C_compileE (.code ceY_C_compileE prog_2_method_14_code 4 (some .int)) zri true d a g [.ref (a 2), .int x1] u (f_C_compileE u x1)) (hb : 3 ≤ d) (u : zMu) (x1 : Int32) (x2 : Int32) : zJ κ (zCe ca D) prog_2_method_23_code 3 ce_RC none zrv true (d + 1) A c0 a g0 g u 59 [(0, .ref (a 2)), (1, .int x1), (2, .int x2)] [] (ce_C_compileMade_J59 n f_C_compileE u x1 x2) := by
  unfold ce_C_compileMade_J59
  refine z_aload_n (pc' := 60) (k := 0) (i := 0) 0 rfl rfl ⟨by decide +kernel, rfl⟩ ?_
  refine z_bipush (pc' := 62) (n := 41) (v := 41) (by decide) ⟨by decide +kernel, rfl⟩ ?_
  refine z_callVf (pc' := 65) 2 (cet_C_closes n u 41) (ceG_C146 ca D) (ceO_2 ca D) rfl (by omega) rfl rfl (Nat.le_of_ble_eq_true rfl) ⟨by decide +kernel, rfl⟩ (fun _ u2 => ?_)
  refine z_aload_n (pc' := 66) (k := 0) (i := 0) 0 rfl rfl ⟨by decide +kernel, rfl⟩ ?_
  refine z_getG (pc' := 69) (cef_C52_2 ca D) rfl (fun _ h => ⟨zpr_n0 h, ce_adP0 h⟩) ⟨by decide +kernel, rfl⟩ fun p3 hp3 => ?_
  refine z_iload_n (pc' := 70) (k := 1) (i := 1) 1 rfl rfl ⟨by decide +kernel, rfl⟩ ?_
  refine z_iconst (pc' := 71) (n := 0) (v := 0) (by decide) ⟨by decide +kernel, rfl⟩ ?_
  refine z_iload_n (pc' := 72) (k := 2) (i := 2) 2 rfl rfl ⟨by decide +kernel, rfl⟩ ?_
  refine z_callVf (pc' := 75) p3 (cet_P_emit n p3 hp3 u2 x1 0 x2) (ceG_C56 ca D) (ceO_P ca D hp3) (ce_adP0 hp3) (by omega) rfl rfl (Nat.le_of_ble_eq_true rfl) ⟨by decide +kernel, rfl⟩ (fun r4 u5 => ?_)
  refine z_pop (pc' := 76) rfl ⟨by decide +kernel, rfl⟩ ?_
  exact z_vret (pc' := 77) ⟨by decide +kernel, rfl⟩
set_option maxRecDepth 20000 in
set_option maxHeartbeats 4000000 in
theorem ce_C_compileMade_J53_t {κ : zKx} {ca : Nat → ClassId} {D : va_G} {A : Nat → Prop} {c0 : Nat × Nat} {a g0 g : Nat → Nat} {d : Nat} (n : Nat) (f_C_compileE : zMu → Int32 → Option (Int32 × zMu)) (h_C_compileE : ∀ (u : zMu) (x1 : Int32), zMet (zKl κ) (zCe ca D) ceY_C_compileE (.code ceY_C_compileE prog_2_method_14_code 4 (some .int)) zri true d a g [.ref (a 2), .int x1] u (f_C_compileE u x1)) (hb : 3 ≤ d) (u : zMu) (x1 : Int32) (x2 : Int32) : zJ κ (zCe ca D) prog_2_method_23_code 3 ce_RC none zrv true (d + 1) A c0 a g0 g u 53 [(0, .ref (a 2)), (1, .int x1), (2, .int x2)] [] (ce_C_compileMade_J53 n f_C_compileE u x1 x2) := by
  unfold ce_C_compileMade_J53
  refine z_aload_n (pc' := 54) (k := 0) (i := 0) 0 rfl rfl ⟨by decide +kernel, rfl⟩ ?_
  refine z_iconst (pc' := 55) (n := 0) (v := 0) (by decide) ⟨by decide +kernel, rfl⟩ ?_
  refine z_callVf (pc' := 58) 2 (h_C_compileE u 0) (ceG_C170 ca D) (ceO_2 ca D) rfl (by omega) rfl rfl (Nat.le_of_ble_eq_true rfl) ⟨by decide +kernel, rfl⟩ (fun r1 u2 => ?_)
  refine z_pop (pc' := 59) rfl ⟨by decide +kernel, rfl⟩ ?_
  exact ce_C_compileMade_J59_t n f_C_compileE h_C_compileE hb u2 x1 x2
set_option maxRecDepth 20000 in
set_option maxHeartbeats 4000000 in
theorem cet_C_compileMade_b {l : Launch} {ca : Nat → ClassId} {D : va_G} {a g : Nat → Nat} {d : Nat} (n : Nat) (f_C_compileE : zMu → Int32 → Option (Int32 × zMu)) (h_C_compileE : ∀ (u : zMu) (x1 : Int32), zMet l (zCe ca D) ceY_C_compileE (.code ceY_C_compileE prog_2_method_14_code 4 (some .int)) zri true d a g [.ref (a 2), .int x1] u (f_C_compileE u x1)) (hb : 3 ≤ d) (u : zMu) (x1 : Int32) : zMet l (zCe ca D) ceY_C_compileMade (.code ceY_C_compileMade prog_2_method_23_code 3 none) zrv true (d + 1) a g [.ref (a 2), .int x1] u (ce_C_compileMade_b n f_C_compileE u x1) := by
  refine zMet.of rfl (Nat.le_of_ble_eq_true rfl) fun κ A hl => ?_
  subst hl
  unfold ce_C_compileMade_b
  refine z_aload_n (pc' := 1) (k := 0) (i := 0) 0 rfl rfl ⟨by decide +kernel, rfl⟩ ?_
  refine z_getR (pc' := 4) (cef_C12_2 ca D) rfl (y := a 7) rfl ⟨by decide +kernel, rfl⟩ ?_
  refine z_getI (pc' := 7) (cef_C116_7 ca D) rfl ⟨by decide +kernel, rfl⟩ ?_
  refine z_letI fun v1 => ?_
  refine z_istore_n (pc' := 8) (k := 2) (i := 2) rfl (by decide) rfl ⟨by decide +kernel, rfl⟩ ?_
  refine z_aload_n (pc' := 9) (k := 0) (i := 0) 1 rfl rfl ⟨by decide +kernel, rfl⟩ ?_
  refine z_getR (pc' := 12) (cef_C12_2 ca D) rfl (y := a 7) rfl ⟨by decide +kernel, rfl⟩ ?_
  refine z_callVf (pc' := 15) 7 (cet_X_advance n u) (ceG_C105 ca D) (ceO_7 ca D) rfl (by omega) rfl rfl (Nat.le_of_ble_eq_true rfl) ⟨by decide +kernel, rfl⟩ (fun _ u3 => ?_)
  refine z_aload_n (pc' := 16) (k := 0) (i := 0) 1 rfl rfl ⟨by decide +kernel, rfl⟩ ?_
  refine z_bipush (pc' := 18) (n := 40) (v := 40) (by decide) ⟨by decide +kernel, rfl⟩ ?_
  refine z_callVf (pc' := 21) 2 (cet_C_opens n u3 40) (ceG_C129 ca D) (ceO_2 ca D) rfl (by omega) rfl rfl (Nat.le_of_ble_eq_true rfl) ⟨by decide +kernel, rfl⟩ (fun _ u5 => ?_)
  refine z_iload_n (pc' := 22) (k := 1) (i := 1) 2 rfl rfl ⟨by decide +kernel, rfl⟩ ?_
  refine z_bipush (pc' := 24) (n := 12) (v := 12) (by decide) ⟨by decide +kernel, rfl⟩ ?_
  refine z_icmp_ne (pc' := 27) (tgt := 53) (off := 29) ⟨by decide +kernel, rfl⟩ rfl (fun h6 => ?_) (fun h6 => ?_)
  · refine z_aload_n (pc' := 28) (k := 0) (i := 0) 1 rfl rfl ⟨by decide +kernel, rfl⟩ ?_
    refine z_getR (pc' := 31) (cef_C12_2 ca D) rfl (y := a 7) rfl ⟨by decide +kernel, rfl⟩ ?_
    refine z_getI (pc' := 34) (cef_C43_7 ca D) rfl ⟨by decide +kernel, rfl⟩ ?_
    refine z_bipush (pc' := 36) (n := 41) (v := 41) (by decide) ⟨by decide +kernel, rfl⟩ ?_
    refine z_icmp_ne (pc' := 39) (tgt := 53) (off := 17) ⟨by decide +kernel, rfl⟩ rfl (fun h7 => ?_) (fun h7 => ?_)
    · refine z_aload_n (pc' := 40) (k := 0) (i := 0) 1 rfl rfl ⟨by decide +kernel, rfl⟩ ?_
      refine z_getG (pc' := 43) (cef_C52_2 ca D) rfl (fun _ h => ⟨zpr_n0 h, ce_adP0 h⟩) ⟨by decide +kernel, rfl⟩ fun p8 hp8 => ?_
      refine z_iconst (pc' := 44) (n := 2) (v := 2) (by decide) ⟨by decide +kernel, rfl⟩ ?_
      refine z_iconst (pc' := 45) (n := 0) (v := 0) (by decide) ⟨by decide +kernel, rfl⟩ ?_
      refine z_iload_n (pc' := 46) (k := 2) (i := 2) 0 rfl rfl ⟨by decide +kernel, rfl⟩ ?_
      refine z_callVf (pc' := 49) p8 (cet_P_emit n p8 hp8 u5 2 0 v1) (ceG_C56 ca D) (ceO_P ca D hp8) (ce_adP0 hp8) (by omega) rfl rfl (Nat.le_of_ble_eq_true rfl) ⟨by decide +kernel, rfl⟩ (fun r9 u10 => ?_)
      refine z_pop (pc' := 50) rfl ⟨by decide +kernel, rfl⟩ ?_
      refine z_goto (tgt := 59) (off := 9) (by decide +kernel) rfl ?_
      refine z_lv [1, 2, 0] (lv' := [(0, .ref (a 2)), (1, .int x1), (2, .int v1)]) rfl ?_
      exact ce_C_compileMade_J59_t n f_C_compileE h_C_compileE hb u10 x1 v1
    · refine z_lv [1, 2, 0] (lv' := [(0, .ref (a 2)), (1, .int x1), (2, .int v1)]) rfl ?_
      exact ce_C_compileMade_J53_t n f_C_compileE h_C_compileE hb u5 x1 v1
  · refine z_lv [1, 2, 0] (lv' := [(0, .ref (a 2)), (1, .int x1), (2, .int v1)]) rfl ?_
    exact ce_C_compileMade_J53_t n f_C_compileE h_C_compileE hb u5 x1 v1
set_option maxRecDepth 20000 in
set_option maxHeartbeats 4000000 in
theorem ce_C_compileNamed_J80_t {κ : zKx} {ca : Nat → ClassId} {D : va_G} {A : Nat → Prop} {c0 : Nat × Nat} {a g0 g : Nat → Nat} {d : Nat} (n : Nat) (f_C_compileArguments : zMu → Option (Int32 × zMu)) (h_C_compileArguments : ∀ (u : zMu), zMet (zKl κ) (zCe ca D) ceY_C_compileArguments (.code ceY_C_compileArguments prog_2_method_25_code 3 (some .int)) zri true d a g [.ref (a 2)] u (f_C_compileArguments u)) (hb : 3 ≤ d) (u : zMu) (x3 : Int32) (x4 : Int32) : zJ κ (zCe ca D) prog_2_method_24_code 5 ce_RC (some .int) zri true (d + 1) A c0 a g0 g u 80 [(0, .ref (a 2)), (3, .int x3), (4, .int x4)] [] (ce_C_compileNamed_J80 n f_C_compileArguments u x3 x4) := by
  unfold ce_C_compileNamed_J80
  refine z_aload_n (pc' := 81) (k := 0) (i := 0) 0 rfl rfl ⟨by decide +kernel, rfl⟩ ?_
  refine z_getG (pc' := 84) (cef_C52_2 ca D) rfl (fun _ h => ⟨zpr_n0 h, ce_adP0 h⟩) ⟨by decide +kernel, rfl⟩ fun p1 hp1 => ?_
  refine z_iconst (pc' := 85) (n := 3) (v := 3) (by decide) ⟨by decide +kernel, rfl⟩ ?_
  refine z_iconst (pc' := 86) (n := 0) (v := 0) (by decide) ⟨by decide +kernel, rfl⟩ ?_
  refine z_iload (pc' := 88) (i := 4) 2 rfl ⟨by decide +kernel, rfl⟩ ?_
  refine z_mmax (pc' := 91) (ce_w0 2 rfl) (ce_w0 3 rfl) (ce_w0 4 rfl) (ce_w0 5 rfl) (by omega) (Nat.le_of_ble_eq_true rfl) ⟨by decide +kernel, rfl⟩ ?_
  refine z_letI fun v2 => ?_
  refine z_iload_n (pc' := 92) (k := 3) (i := 3) 1 rfl rfl ⟨by decide +kernel, rfl⟩ ?_
  refine z_callVf (pc' := 95) p1 (cet_P_emit n p1 hp1 u 3 v2 x3) (ceG_C56 ca D) (ceO_P ca D hp1) (ce_adP0 hp1) (by omega) rfl rfl (Nat.le_of_ble_eq_true rfl) ⟨by decide +kernel, rfl⟩ (fun r3 u4 => ?_)
  refine z_pop (pc' := 96) rfl ⟨by decide +kernel, rfl⟩ ?_
  refine z_iconst (pc' := 97) (n := 1) (v := 1) (by decide) ⟨by decide +kernel, rfl⟩ ?_
  exact z_iret (pc' := 98) ⟨by decide +kernel, rfl⟩
set_option maxRecDepth 20000 in
set_option maxHeartbeats 4000000 in
theorem cet_C_compileNamed_b {l : Launch} {ca : Nat → ClassId} {D : va_G} {a g : Nat → Nat} {d : Nat} (n : Nat) (f_C_compileArguments : zMu → Option (Int32 × zMu)) (h_C_compileArguments : ∀ (u : zMu), zMet l (zCe ca D) ceY_C_compileArguments (.code ceY_C_compileArguments prog_2_method_25_code 3 (some .int)) zri true d a g [.ref (a 2)] u (f_C_compileArguments u)) (hb : 3 ≤ d) (u : zMu) : zMet l (zCe ca D) ceY_C_compileNamed (.code ceY_C_compileNamed prog_2_method_24_code 5 (some .int)) zri true (d + 1) a g [.ref (a 2)] u (ce_C_compileNamed_b n f_C_compileArguments u) := by
  refine zMet.of rfl (Nat.le_of_ble_eq_true rfl) fun κ A hl => ?_
  subst hl
  unfold ce_C_compileNamed_b
  refine z_aload_n (pc' := 1) (k := 0) (i := 0) 0 rfl rfl ⟨by decide +kernel, rfl⟩ ?_
  refine z_getR (pc' := 4) (cef_C12_2 ca D) rfl (y := a 7) rfl ⟨by decide +kernel, rfl⟩ ?_
  refine z_getL (pc' := 7) (cef_C108_7 ca D) rfl ⟨by decide +kernel, rfl⟩ ?_
  refine z_letL fun v1 => ?_
  refine z_lstore_n (pc' := 8) (k := 1) (i := 1) rfl (by decide) rfl ⟨by decide +kernel, rfl⟩ ?_
  refine z_aload_n (pc' := 9) (k := 0) (i := 0) 1 rfl rfl ⟨by decide +kernel, rfl⟩ ?_
  refine z_getR (pc' := 12) (cef_C12_2 ca D) rfl (y := a 7) rfl ⟨by decide +kernel, rfl⟩ ?_
  refine z_getI (pc' := 15) (cef_C116_7 ca D) rfl ⟨by decide +kernel, rfl⟩ ?_
  refine z_letI fun v2 => ?_
  refine z_istore_n (pc' := 16) (k := 3) (i := 3) rfl (by decide) rfl ⟨by decide +kernel, rfl⟩ ?_
  refine z_aload_n (pc' := 17) (k := 0) (i := 0) 2 rfl rfl ⟨by decide +kernel, rfl⟩ ?_
  refine z_getR (pc' := 20) (cef_C12_2 ca D) rfl (y := a 7) rfl ⟨by decide +kernel, rfl⟩ ?_
  refine z_callVf (pc' := 23) 7 (cet_X_advance n u) (ceG_C105 ca D) (ceO_7 ca D) rfl (by omega) rfl rfl (Nat.le_of_ble_eq_true rfl) ⟨by decide +kernel, rfl⟩ (fun _ u4 => ?_)
  refine z_aload_n (pc' := 24) (k := 0) (i := 0) 2 rfl rfl ⟨by decide +kernel, rfl⟩ ?_
  refine z_getR (pc' := 27) (cef_C12_2 ca D) rfl (y := a 7) rfl ⟨by decide +kernel, rfl⟩ ?_
  refine z_getI (pc' := 30) (cef_C43_7 ca D) rfl ⟨by decide +kernel, rfl⟩ ?_
  refine z_bipush (pc' := 32) (n := 40) (v := 40) (by decide) ⟨by decide +kernel, rfl⟩ ?_
  refine z_icmp_ne (pc' := 35) (tgt := 61) (off := 29) ⟨by decide +kernel, rfl⟩ rfl (fun h5 => ?_) (fun h5 => ?_)
  · refine z_aload_n (pc' := 36) (k := 0) (i := 0) 2 rfl rfl ⟨by decide +kernel, rfl⟩ ?_
    refine z_callVf (pc' := 39) 2 (h_C_compileArguments u4) (ceG_C221 ca D) (ceO_2 ca D) rfl (by omega) rfl rfl (Nat.le_of_ble_eq_true rfl) ⟨by decide +kernel, rfl⟩ (fun r6 u7 => ?_)
    refine z_istore (pc' := 41) (i := 4) (by decide) rfl ⟨by decide +kernel, rfl⟩ ?_
    refine z_aload_n (pc' := 42) (k := 0) (i := 0) 3 rfl rfl ⟨by decide +kernel, rfl⟩ ?_
    refine z_lload_n (pc' := 43) (k := 1) (i := 1) 2 rfl rfl ⟨by decide +kernel, rfl⟩ ?_
    refine z_iload (pc' := 45) (i := 4) 0 rfl ⟨by decide +kernel, rfl⟩ ?_
    refine z_aload_n (pc' := 46) (k := 0) (i := 0) 3 rfl rfl ⟨by decide +kernel, rfl⟩ ?_
    refine z_getG (pc' := 49) (cef_C52_2 ca D) rfl (fun _ h => ⟨zpr_n0 h, ce_adP0 h⟩) ⟨by decide +kernel, rfl⟩ fun p8 hp8 => ?_
    refine z_bipush (pc' := 51) (n := 20) (v := 20) (by decide) ⟨by decide +kernel, rfl⟩ ?_
    refine z_iconst (pc' := 52) (n := 0) (v := 0) (by decide) ⟨by decide +kernel, rfl⟩ ?_
    refine z_iload_n (pc' := 53) (k := 3) (i := 3) 1 rfl rfl ⟨by decide +kernel, rfl⟩ ?_
    refine z_callVf (pc' := 56) p8 (cet_P_emit n p8 hp8 u7 20 0 v2) (ceG_C56 ca D) (ceO_P ca D hp8) (ce_adP0 hp8) (by omega) rfl rfl (Nat.le_of_ble_eq_true rfl) ⟨by decide +kernel, rfl⟩ (fun r9 u10 => ?_)
    refine z_callVf (pc' := 59) 2 (cet_C_keepCall n u10 v1 r6 r9) (ceG_C224 ca D) (ceO_2 ca D) rfl (by omega) rfl rfl (Nat.le_of_ble_eq_true rfl) ⟨by decide +kernel, rfl⟩ (fun _ u12 => ?_)
    refine z_iconst (pc' := 60) (n := 0) (v := 0) (by decide) ⟨by decide +kernel, rfl⟩ ?_
    exact z_iret (pc' := 61) ⟨by decide +kernel, rfl⟩
  · refine z_aload_n (pc' := 62) (k := 0) (i := 0) 2 rfl rfl ⟨by decide +kernel, rfl⟩ ?_
    refine z_lload_n (pc' := 63) (k := 1) (i := 1) 1 rfl rfl ⟨by decide +kernel, rfl⟩ ?_
    refine z_callVf (pc' := 66) 2 (cet_C_variableNamed n u4 v1) (ceG_C132 ca D) (ceO_2 ca D) rfl (by omega) rfl rfl (Nat.le_of_ble_eq_true rfl) ⟨by decide +kernel, rfl⟩ (fun r13 u14 => ?_)
    refine z_istore (pc' := 68) (i := 4) (by decide) rfl ⟨by decide +kernel, rfl⟩ ?_
    refine z_iload (pc' := 70) (i := 4) 0 rfl ⟨by decide +kernel, rfl⟩ ?_
    refine z_iconst (pc' := 71) (n := (-1)) (v := (-1)) (by decide) ⟨by decide +kernel, rfl⟩ ?_
    refine z_icmp_ne (pc' := 74) (tgt := 80) (off := 9) ⟨by decide +kernel, rfl⟩ rfl (fun h15 => ?_) (fun h15 => ?_)
    · refine z_aload_n (pc' := 75) (k := 0) (i := 0) 3 rfl rfl ⟨by decide +kernel, rfl⟩ ?_
      refine z_iconst (pc' := 76) (n := 2) (v := 2) (by decide) ⟨by decide +kernel, rfl⟩ ?_
      refine z_iload_n (pc' := 77) (k := 3) (i := 3) 1 rfl rfl ⟨by decide +kernel, rfl⟩ ?_
      refine z_callVf (pc' := 80) 2 (cet_C_note n u14 2 v2) (ceG_C119 ca D) (ceO_2 ca D) rfl (by omega) rfl rfl (Nat.le_of_ble_eq_true rfl) ⟨by decide +kernel, rfl⟩ (fun _ u17 => ?_)
      refine z_lv [3, 1, 0] (lv' := [(0, .ref (a 2)), (3, .int v2), (4, .int r13)]) rfl ?_
      exact ce_C_compileNamed_J80_t n f_C_compileArguments h_C_compileArguments hb u17 v2 r13
    · refine z_lv [3, 1, 0] (lv' := [(0, .ref (a 2)), (3, .int v2), (4, .int r13)]) rfl ?_
      exact ce_C_compileNamed_J80_t n f_C_compileArguments h_C_compileArguments hb u14 v2 r13
set_option maxRecDepth 20000 in
set_option maxHeartbeats 4000000 in
theorem ce_C_compileArguments_L26_t {κ : zKx} {ca : Nat → ClassId} {D : va_G} {A : Nat → Prop} {c0 : Nat × Nat} {a g0 g : Nat → Nat} {d : Nat} (n : Nat) (f_C_compileE : zMu → Int32 → Option (Int32 × zMu)) (h_C_compileE : ∀ (u : zMu) (x1 : Int32), zMet (zKl κ) (zCe ca D) ceY_C_compileE (.code ceY_C_compileE prog_2_method_14_code 4 (some .int)) zri true d a g [.ref (a 2), .int x1] u (f_C_compileE u x1)) (hb : 3 ≤ d) : ∀ (m : Nat) (u : zMu) (x1 : Int32) (x2 : Int32), zJ κ (zCe ca D) prog_2_method_25_code 3 ce_RC (some .int) zri true (d + 1) A c0 a g0 g u 26 [(0, .ref (a 2)), (1, .int x1), (2, .int x2)] [] (ce_C_compileArguments_L26 n f_C_compileE m u x1 x2) := by
  intro m
  induction m with
  | zero => intro u x1 x2 r u' h; cases h
  | succ m ih =>
    intro u x1 x2
    unfold ce_C_compileArguments_L26
    refine z_iload_n (pc' := 27) (k := 1) (i := 1) 1 rfl rfl ⟨by decide +kernel, rfl⟩ ?_
    refine z_iconst (pc' := 28) (n := 4) (v := 4) (by decide) ⟨by decide +kernel, rfl⟩ ?_
    refine z_icmp_gt (pc' := 31) (tgt := 65) (off := 37) ⟨by decide +kernel, rfl⟩ rfl (fun h1 => ?_) (fun h1 => ?_)
    · refine z_aload_n (pc' := 66) (k := 0) (i := 0) 0 rfl rfl ⟨by decide +kernel, rfl⟩ ?_
      refine z_bipush (pc' := 68) (n := 41) (v := 41) (by decide) ⟨by decide +kernel, rfl⟩ ?_
      refine z_callVf (pc' := 71) 2 (cet_C_closes n u 41) (ceG_C146 ca D) (ceO_2 ca D) rfl (by omega) rfl rfl (Nat.le_of_ble_eq_true rfl) ⟨by decide +kernel, rfl⟩ (fun _ u3 => ?_)
      refine z_iload_n (pc' := 72) (k := 1) (i := 1) 1 rfl rfl ⟨by decide +kernel, rfl⟩ ?_
      exact z_iret (pc' := 73) ⟨by decide +kernel, rfl⟩
    · refine z_iload_n (pc' := 32) (k := 2) (i := 2) 2 rfl rfl ⟨by decide +kernel, rfl⟩ ?_
      refine z_if_eq (pc' := 35) (tgt := 65) (off := 33) ⟨by decide +kernel, rfl⟩ rfl (fun h4 => ?_) (fun h4 => ?_)
      · refine z_aload_n (pc' := 66) (k := 0) (i := 0) 0 rfl rfl ⟨by decide +kernel, rfl⟩ ?_
        refine z_bipush (pc' := 68) (n := 41) (v := 41) (by decide) ⟨by decide +kernel, rfl⟩ ?_
        refine z_callVf (pc' := 71) 2 (cet_C_closes n u 41) (ceG_C146 ca D) (ceO_2 ca D) rfl (by omega) rfl rfl (Nat.le_of_ble_eq_true rfl) ⟨by decide +kernel, rfl⟩ (fun _ u6 => ?_)
        refine z_iload_n (pc' := 72) (k := 1) (i := 1) 1 rfl rfl ⟨by decide +kernel, rfl⟩ ?_
        exact z_iret (pc' := 73) ⟨by decide +kernel, rfl⟩
      · refine z_iload_n (pc' := 36) (k := 1) (i := 1) 1 rfl rfl ⟨by decide +kernel, rfl⟩ ?_
        refine z_iconst (pc' := 37) (n := 4) (v := 4) (by decide) ⟨by decide +kernel, rfl⟩ ?_
        refine z_icmp_ne (pc' := 40) (tgt := 46) (off := 9) ⟨by decide +kernel, rfl⟩ rfl (fun h7 => ?_) (fun h7 => ?_)
        · refine z_aload_n (pc' := 41) (k := 0) (i := 0) 0 rfl rfl ⟨by decide +kernel, rfl⟩ ?_
          refine z_callVf (pc' := 44) 2 (cet_C_refuse n u) (ceG_C102 ca D) (ceO_2 ca D) rfl (by omega) rfl rfl (Nat.le_of_ble_eq_true rfl) ⟨by decide +kernel, rfl⟩ (fun _ u9 => ?_)
          refine z_iload_n (pc' := 45) (k := 1) (i := 1) 1 rfl rfl ⟨by decide +kernel, rfl⟩ ?_
          exact z_iret (pc' := 46) ⟨by decide +kernel, rfl⟩
        · refine z_aload_n (pc' := 47) (k := 0) (i := 0) 0 rfl rfl ⟨by decide +kernel, rfl⟩ ?_
          refine z_iconst (pc' := 48) (n := 0) (v := 0) (by decide) ⟨by decide +kernel, rfl⟩ ?_
          refine z_callVf (pc' := 51) 2 (h_C_compileE u 0) (ceG_C170 ca D) (ceO_2 ca D) rfl (by omega) rfl rfl (Nat.le_of_ble_eq_true rfl) ⟨by decide +kernel, rfl⟩ (fun r10 u11 => ?_)
          refine z_pop (pc' := 52) rfl ⟨by decide +kernel, rfl⟩ ?_
          refine z_aload_n (pc' := 53) (k := 0) (i := 0) 0 rfl rfl ⟨by decide +kernel, rfl⟩ ?_
          refine z_bipush (pc' := 55) (n := 44) (v := 44) (by decide) ⟨by decide +kernel, rfl⟩ ?_
          refine z_callVf (pc' := 58) 2 (cet_C_takes n u11 44) (ceG_C142 ca D) (ceO_2 ca D) rfl (by omega) rfl rfl (Nat.le_of_ble_eq_true rfl) ⟨by decide +kernel, rfl⟩ (fun r12 u13 => ?_)
          refine z_istore_n (pc' := 59) (k := 2) (i := 2) rfl (by decide) rfl ⟨by decide +kernel, rfl⟩ ?_
          refine z_iincN (pc' := 62) (i := 1) (n := 1) (c := 1) 2 rfl (by decide) (by decide) rfl ⟨by decide +kernel, rfl⟩ fun v14 => ?_
          refine z_goto (tgt := 26) (off := -36) (by decide +kernel) rfl ?_
          refine z_lv [2, 0, 1] (lv' := [(0, .ref (a 2)), (1, .int v14), (2, .int r12)]) rfl ?_
          exact ih u13 v14 r12
set_option maxRecDepth 20000 in
set_option maxHeartbeats 4000000 in
theorem cet_C_compileArguments_b {l : Launch} {ca : Nat → ClassId} {D : va_G} {a g : Nat → Nat} {d : Nat} (n : Nat) (f_C_compileE : zMu → Int32 → Option (Int32 × zMu)) (h_C_compileE : ∀ (u : zMu) (x1 : Int32), zMet l (zCe ca D) ceY_C_compileE (.code ceY_C_compileE prog_2_method_14_code 4 (some .int)) zri true d a g [.ref (a 2), .int x1] u (f_C_compileE u x1)) (hb : 3 ≤ d) (u : zMu) : zMet l (zCe ca D) ceY_C_compileArguments (.code ceY_C_compileArguments prog_2_method_25_code 3 (some .int)) zri true (d + 1) a g [.ref (a 2)] u (ce_C_compileArguments_b n f_C_compileE u) := by
  refine zMet.of rfl (Nat.le_of_ble_eq_true rfl) fun κ A hl => ?_
  subst hl
  unfold ce_C_compileArguments_b
  refine z_iconst (pc' := 1) (n := 0) (v := 0) (by decide) ⟨by decide +kernel, rfl⟩ ?_
  refine z_istore_n (pc' := 2) (k := 1) (i := 1) rfl (by decide) rfl ⟨by decide +kernel, rfl⟩ ?_
  refine z_aload_n (pc' := 3) (k := 0) (i := 0) 1 rfl rfl ⟨by decide +kernel, rfl⟩ ?_
  refine z_bipush (pc' := 5) (n := 40) (v := 40) (by decide) ⟨by decide +kernel, rfl⟩ ?_
  refine z_callVf (pc' := 8) 2 (cet_C_opens n u 40) (ceG_C129 ca D) (ceO_2 ca D) rfl (by omega) rfl rfl (Nat.le_of_ble_eq_true rfl) ⟨by decide +kernel, rfl⟩ (fun _ u2 => ?_)
  refine z_aload_n (pc' := 9) (k := 0) (i := 0) 1 rfl rfl ⟨by decide +kernel, rfl⟩ ?_
  refine z_getR (pc' := 12) (cef_C12_2 ca D) rfl (y := a 7) rfl ⟨by decide +kernel, rfl⟩ ?_
  refine z_getI (pc' := 15) (cef_C43_7 ca D) rfl ⟨by decide +kernel, rfl⟩ ?_
  refine z_bipush (pc' := 17) (n := 41) (v := 41) (by decide) ⟨by decide +kernel, rfl⟩ ?_
  refine z_icmp_eq (pc' := 20) (tgt := 24) (off := 7) ⟨by decide +kernel, rfl⟩ rfl (fun h3 => ?_) (fun h3 => ?_)
  · refine z_iconst (pc' := 25) (n := 0) (v := 0) (by decide) ⟨by decide +kernel, rfl⟩ ?_
    refine z_istore_n (pc' := 26) (k := 2) (i := 2) rfl (by decide) rfl ⟨by decide +kernel, rfl⟩ ?_
    refine z_lv [2, 1, 0] (lv' := [(0, .ref (a 2)), (1, .int 0), (2, .int 0)]) rfl ?_
    exact ce_C_compileArguments_L26_t n f_C_compileE h_C_compileE hb n u2 0 0
  · refine z_iconst (pc' := 21) (n := 1) (v := 1) (by decide) ⟨by decide +kernel, rfl⟩ ?_
    refine z_goto (tgt := 25) (off := 4) (by decide +kernel) rfl ?_
    refine z_istore_n (pc' := 26) (k := 2) (i := 2) rfl (by decide) rfl ⟨by decide +kernel, rfl⟩ ?_
    refine z_lv [2, 1, 0] (lv' := [(0, .ref (a 2)), (1, .int 0), (2, .int 1)]) rfl ?_
    exact ce_C_compileArguments_L26_t n f_C_compileE h_C_compileE hb n u2 0 1
set_option maxRecDepth 20000 in
set_option maxHeartbeats 4000000 in
theorem ce_G_compileE_t {l : Launch} {ca : Nat → ClassId} {D : va_G} {a g : Nat → Nat} (n : Nat) : ∀ j : Nat, (∀ (u : zMu) (x1 : Int32), zMet l (zCe ca D) ceY_C_compileE (.code ceY_C_compileE prog_2_method_14_code 4 (some .int)) zri true (3 + j) a g [.ref (a 2), .int x1] u ((ce_G_compileE n j).1 u x1)) ∧ (∀ (u : zMu) (x1 : Int32), zMet l (zCe ca D) ceY_C_compileRest (.code ceY_C_compileRest prog_2_method_16_code 5 none) zrv true (3 + j) a g [.ref (a 2), .int x1] u ((ce_G_compileE n j).2.1 u x1)) ∧ (∀ (u : zMu), zMet l (zCe ca D) ceY_C_compilePost (.code ceY_C_compilePost prog_2_method_18_code 3 (some .int)) zri true (3 + j) a g [.ref (a 2)] u ((ce_G_compileE n j).2.2.1 u)) ∧ (∀ (u : zMu), zMet l (zCe ca D) ceY_C_compileItem (.code ceY_C_compileItem prog_2_method_20_code 2 (some .int)) zri true (3 + j) a g [.ref (a 2)] u ((ce_G_compileE n j).2.2.2.1 u)) ∧ (∀ (u : zMu), zMet l (zCe ca D) ceY_C_compileOne (.code ceY_C_compileOne prog_2_method_21_code 1 (some .int)) zri true (3 + j) a g [.ref (a 2)] u ((ce_G_compileE n j).2.2.2.2.1 u)) ∧ (∀ (u : zMu), zMet l (zCe ca D) ceY_C_compileNegated (.code ceY_C_compileNegated prog_2_method_22_code 2 none) zrv true (3 + j) a g [.ref (a 2)] u ((ce_G_compileE n j).2.2.2.2.2.1 u)) ∧ (∀ (u : zMu) (x1 : Int32), zMet l (zCe ca D) ceY_C_compileMade (.code ceY_C_compileMade prog_2_method_23_code 3 none) zrv true (3 + j) a g [.ref (a 2), .int x1] u ((ce_G_compileE n j).2.2.2.2.2.2.1 u x1)) ∧ (∀ (u : zMu), zMet l (zCe ca D) ceY_C_compileNamed (.code ceY_C_compileNamed prog_2_method_24_code 5 (some .int)) zri true (3 + j) a g [.ref (a 2)] u ((ce_G_compileE n j).2.2.2.2.2.2.2.1 u)) ∧ (∀ (u : zMu), zMet l (zCe ca D) ceY_C_compileArguments (.code ceY_C_compileArguments prog_2_method_25_code 3 (some .int)) zri true (3 + j) a g [.ref (a 2)] u ((ce_G_compileE n j).2.2.2.2.2.2.2.2 u))
  | 0 => ⟨(fun _ _ _ _ h => by cases h), (fun _ _ _ _ h => by cases h), (fun _ _ _ h => by cases h), (fun _ _ _ h => by cases h), (fun _ _ _ h => by cases h), (fun _ _ _ h => by cases h), (fun _ _ _ _ h => by cases h), (fun _ _ _ h => by cases h), (fun _ _ _ h => by cases h)⟩
  | j + 1 => by
    have ih := ce_G_compileE_t (l := l) (ca := ca) (D := D) (a := a) (g := g) n j
    refine ⟨?_, ?_, ?_, ?_, ?_, ?_, ?_, ?_, ?_⟩
    · intro u x1
      exact cet_C_compileE_b n _ _ _ ih.1 ih.2.1 ih.2.2.1 (by omega) u x1
    · intro u x1
      exact cet_C_compileRest_b n _ ih.1 (by omega) u x1
    · intro u 
      exact cet_C_compilePost_b n _ _ ih.2.2.2.1 ih.2.2.2.2.1 (by omega) u 
    · intro u 
      exact cet_C_compileItem_b n _ ih.1 (by omega) u 
    · intro u 
      exact cet_C_compileOne_b n _ _ _ _ ih.1 ih.2.2.2.2.2.1 ih.2.2.2.2.2.2.1 ih.2.2.2.2.2.2.2.1 (by omega) u 
    · intro u 
      exact cet_C_compileNegated_b n _ ih.2.2.2.2.1 (by omega) u 
    · intro u x1
      exact cet_C_compileMade_b n _ ih.1 (by omega) u x1
    · intro u 
      exact cet_C_compileNamed_b n _ ih.2.2.2.2.2.2.2.2 (by omega) u 
    · intro u 
      exact cet_C_compileArguments_b n _ ih.1 (by omega) u 
set_option maxRecDepth 20000 in
set_option maxHeartbeats 4000000 in
theorem cet_C_compileE {l : Launch} {ca : Nat → ClassId} {D : va_G} {a g : Nat → Nat} (n k : Nat) (u : zMu) (x1 : Int32) : zMet l (zCe ca D) ceY_C_compileE (.code ceY_C_compileE prog_2_method_14_code 4 (some .int)) zri true (1 * k + 3) a g [.ref (a 2), .int x1] u (ce_C_compileE n k u x1) := by
  have h := (ce_G_compileE_t (l := l) (ca := ca) (D := D) (a := a) (g := g) n k).1 u x1
  have e : 3 + k = (1 * k + 3) := by omega
  rw [e] at h
  exact h
set_option maxRecDepth 20000 in
set_option maxHeartbeats 4000000 in
theorem cet_C_compileRest {l : Launch} {ca : Nat → ClassId} {D : va_G} {a g : Nat → Nat} (n k : Nat) (u : zMu) (x1 : Int32) : zMet l (zCe ca D) ceY_C_compileRest (.code ceY_C_compileRest prog_2_method_16_code 5 none) zrv true (1 * k + 3) a g [.ref (a 2), .int x1] u (ce_C_compileRest n k u x1) := by
  have h := (ce_G_compileE_t (l := l) (ca := ca) (D := D) (a := a) (g := g) n k).2.1 u x1
  have e : 3 + k = (1 * k + 3) := by omega
  rw [e] at h
  exact h
set_option maxRecDepth 20000 in
set_option maxHeartbeats 4000000 in
theorem cet_C_compilePost {l : Launch} {ca : Nat → ClassId} {D : va_G} {a g : Nat → Nat} (n k : Nat) (u : zMu) : zMet l (zCe ca D) ceY_C_compilePost (.code ceY_C_compilePost prog_2_method_18_code 3 (some .int)) zri true (1 * k + 3) a g [.ref (a 2)] u (ce_C_compilePost n k u) := by
  have h := (ce_G_compileE_t (l := l) (ca := ca) (D := D) (a := a) (g := g) n k).2.2.1 u
  have e : 3 + k = (1 * k + 3) := by omega
  rw [e] at h
  exact h
set_option maxRecDepth 20000 in
set_option maxHeartbeats 4000000 in
theorem cet_C_compileItem {l : Launch} {ca : Nat → ClassId} {D : va_G} {a g : Nat → Nat} (n k : Nat) (u : zMu) : zMet l (zCe ca D) ceY_C_compileItem (.code ceY_C_compileItem prog_2_method_20_code 2 (some .int)) zri true (1 * k + 3) a g [.ref (a 2)] u (ce_C_compileItem n k u) := by
  have h := (ce_G_compileE_t (l := l) (ca := ca) (D := D) (a := a) (g := g) n k).2.2.2.1 u
  have e : 3 + k = (1 * k + 3) := by omega
  rw [e] at h
  exact h
set_option maxRecDepth 20000 in
set_option maxHeartbeats 4000000 in
theorem cet_C_compileOne {l : Launch} {ca : Nat → ClassId} {D : va_G} {a g : Nat → Nat} (n k : Nat) (u : zMu) : zMet l (zCe ca D) ceY_C_compileOne (.code ceY_C_compileOne prog_2_method_21_code 1 (some .int)) zri true (1 * k + 3) a g [.ref (a 2)] u (ce_C_compileOne n k u) := by
  have h := (ce_G_compileE_t (l := l) (ca := ca) (D := D) (a := a) (g := g) n k).2.2.2.2.1 u
  have e : 3 + k = (1 * k + 3) := by omega
  rw [e] at h
  exact h
set_option maxRecDepth 20000 in
set_option maxHeartbeats 4000000 in
theorem cet_C_compileNegated {l : Launch} {ca : Nat → ClassId} {D : va_G} {a g : Nat → Nat} (n k : Nat) (u : zMu) : zMet l (zCe ca D) ceY_C_compileNegated (.code ceY_C_compileNegated prog_2_method_22_code 2 none) zrv true (1 * k + 3) a g [.ref (a 2)] u (ce_C_compileNegated n k u) := by
  have h := (ce_G_compileE_t (l := l) (ca := ca) (D := D) (a := a) (g := g) n k).2.2.2.2.2.1 u
  have e : 3 + k = (1 * k + 3) := by omega
  rw [e] at h
  exact h
set_option maxRecDepth 20000 in
set_option maxHeartbeats 4000000 in
theorem cet_C_compileMade {l : Launch} {ca : Nat → ClassId} {D : va_G} {a g : Nat → Nat} (n k : Nat) (u : zMu) (x1 : Int32) : zMet l (zCe ca D) ceY_C_compileMade (.code ceY_C_compileMade prog_2_method_23_code 3 none) zrv true (1 * k + 3) a g [.ref (a 2), .int x1] u (ce_C_compileMade n k u x1) := by
  have h := (ce_G_compileE_t (l := l) (ca := ca) (D := D) (a := a) (g := g) n k).2.2.2.2.2.2.1 u x1
  have e : 3 + k = (1 * k + 3) := by omega
  rw [e] at h
  exact h
set_option maxRecDepth 20000 in
set_option maxHeartbeats 4000000 in
theorem cet_C_compileNamed {l : Launch} {ca : Nat → ClassId} {D : va_G} {a g : Nat → Nat} (n k : Nat) (u : zMu) : zMet l (zCe ca D) ceY_C_compileNamed (.code ceY_C_compileNamed prog_2_method_24_code 5 (some .int)) zri true (1 * k + 3) a g [.ref (a 2)] u (ce_C_compileNamed n k u) := by
  have h := (ce_G_compileE_t (l := l) (ca := ca) (D := D) (a := a) (g := g) n k).2.2.2.2.2.2.2.1 u
  have e : 3 + k = (1 * k + 3) := by omega
  rw [e] at h
  exact h
set_option maxRecDepth 20000 in
set_option maxHeartbeats 4000000 in
theorem cet_C_compileArguments {l : Launch} {ca : Nat → ClassId} {D : va_G} {a g : Nat → Nat} (n k : Nat) (u : zMu) : zMet l (zCe ca D) ceY_C_compileArguments (.code ceY_C_compileArguments prog_2_method_25_code 3 (some .int)) zri true (1 * k + 3) a g [.ref (a 2)] u (ce_C_compileArguments n k u) := by
  have h := (ce_G_compileE_t (l := l) (ca := ca) (D := D) (a := a) (g := g) n k).2.2.2.2.2.2.2.2 u
  have e : 3 + k = (1 * k + 3) := by omega
  rw [e] at h
  exact h
set_option maxRecDepth 20000 in
set_option maxHeartbeats 4000000 in
theorem ce_C_compileLet_J63_t {κ : zKx} {ca : Nat → ClassId} {D : va_G} {A : Nat → Prop} {c0 : Nat × Nat} {a g0 g : Nat → Nat} (n k : Nat) (u : zMu) (x3 : Int32) (x4 : Int32) : zJ κ (zCe ca D) prog_2_method_8_code 5 ce_RC none zrv true (1 * k + 4) A c0 a g0 g u 63 [(0, .ref (a 2)), (3, .int x3), (4, .int x4)] [] (ce_C_compileLet_J63 n k u x3 x4) := by
  unfold ce_C_compileLet_J63
  refine z_aload_n (pc' := 64) (k := 0) (i := 0) 0 rfl rfl ⟨by decide +kernel, rfl⟩ ?_
  refine z_getG (pc' := 67) (cef_C52_2 ca D) rfl (fun _ h => ⟨zpr_n0 h, ce_adP0 h⟩) ⟨by decide +kernel, rfl⟩ fun p1 hp1 => ?_
  refine z_iconst (pc' := 68) (n := 4) (v := 4) (by decide) ⟨by decide +kernel, rfl⟩ ?_
  refine z_iload (pc' := 70) (i := 4) 2 rfl ⟨by decide +kernel, rfl⟩ ?_
  refine z_iload_n (pc' := 71) (k := 3) (i := 3) 1 rfl rfl ⟨by decide +kernel, rfl⟩ ?_
  refine z_callVf (pc' := 74) p1 (cet_P_emit n p1 hp1 u 4 x4 x3) (ceG_C56 ca D) (ceO_P ca D hp1) (ce_adP0 hp1) (by omega) rfl rfl (Nat.le_of_ble_eq_true rfl) ⟨by decide +kernel, rfl⟩ (fun r2 u3 => ?_)
  refine z_pop (pc' := 75) rfl ⟨by decide +kernel, rfl⟩ ?_
  refine z_aload_n (pc' := 76) (k := 0) (i := 0) 0 rfl rfl ⟨by decide +kernel, rfl⟩ ?_
  refine z_bipush (pc' := 78) (n := 59) (v := 59) (by decide) ⟨by decide +kernel, rfl⟩ ?_
  refine z_callVf (pc' := 81) 2 (cet_C_expect n u3 59) (ceG_C167 ca D) (ceO_2 ca D) rfl (by omega) rfl rfl (Nat.le_of_ble_eq_true rfl) ⟨by decide +kernel, rfl⟩ (fun _ u5 => ?_)
  exact z_vret (pc' := 82) ⟨by decide +kernel, rfl⟩
set_option maxRecDepth 20000 in
set_option maxHeartbeats 4000000 in
theorem cet_C_compileLet {l : Launch} {ca : Nat → ClassId} {D : va_G} {a g : Nat → Nat} (n k : Nat) (u : zMu) : zMet l (zCe ca D) ceY_C_compileLet (.code ceY_C_compileLet prog_2_method_8_code 5 none) zrv true (1 * k + 4) a g [.ref (a 2)] u (ce_C_compileLet n k u) := by
  refine zMet.of rfl (Nat.le_of_ble_eq_true rfl) fun κ A hl => ?_
  subst hl
  unfold ce_C_compileLet
  refine z_aload_n (pc' := 1) (k := 0) (i := 0) 0 rfl rfl ⟨by decide +kernel, rfl⟩ ?_
  refine z_getR (pc' := 4) (cef_C12_2 ca D) rfl (y := a 7) rfl ⟨by decide +kernel, rfl⟩ ?_
  refine z_callVf (pc' := 7) 7 (cet_X_advance n u) (ceG_C105 ca D) (ceO_7 ca D) rfl (by omega) rfl rfl (Nat.le_of_ble_eq_true rfl) ⟨by decide +kernel, rfl⟩ (fun _ u2 => ?_)
  refine z_aload_n (pc' := 8) (k := 0) (i := 0) 0 rfl rfl ⟨by decide +kernel, rfl⟩ ?_
  refine z_getR (pc' := 11) (cef_C12_2 ca D) rfl (y := a 7) rfl ⟨by decide +kernel, rfl⟩ ?_
  refine z_getL (pc' := 14) (cef_C108_7 ca D) rfl ⟨by decide +kernel, rfl⟩ ?_
  refine z_letL fun v3 => ?_
  refine z_lstore_n (pc' := 15) (k := 1) (i := 1) rfl (by decide) rfl ⟨by decide +kernel, rfl⟩ ?_
  refine z_aload_n (pc' := 16) (k := 0) (i := 0) 1 rfl rfl ⟨by decide +kernel, rfl⟩ ?_
  refine z_getR (pc' := 19) (cef_C12_2 ca D) rfl (y := a 7) rfl ⟨by decide +kernel, rfl⟩ ?_
  refine z_getI (pc' := 22) (cef_C116_7 ca D) rfl ⟨by decide +kernel, rfl⟩ ?_
  refine z_letI fun v4 => ?_
  refine z_istore_n (pc' := 23) (k := 3) (i := 3) rfl (by decide) rfl ⟨by decide +kernel, rfl⟩ ?_
  refine z_aload_n (pc' := 24) (k := 0) (i := 0) 2 rfl rfl ⟨by decide +kernel, rfl⟩ ?_
  refine z_sipush (pc' := 27) (n := 259) (v := 259) (by decide) ⟨by decide +kernel, rfl⟩ ?_
  refine z_callVf (pc' := 30) 2 (cet_C_expect n u2 259) (ceG_C167 ca D) (ceO_2 ca D) rfl (by omega) rfl rfl (Nat.le_of_ble_eq_true rfl) ⟨by decide +kernel, rfl⟩ (fun _ u6 => ?_)
  refine z_aload_n (pc' := 31) (k := 0) (i := 0) 2 rfl rfl ⟨by decide +kernel, rfl⟩ ?_
  refine z_bipush (pc' := 33) (n := 61) (v := 61) (by decide) ⟨by decide +kernel, rfl⟩ ?_
  refine z_callVf (pc' := 36) 2 (cet_C_expect n u6 61) (ceG_C167 ca D) (ceO_2 ca D) rfl (by omega) rfl rfl (Nat.le_of_ble_eq_true rfl) ⟨by decide +kernel, rfl⟩ (fun _ u8 => ?_)
  refine z_aload_n (pc' := 37) (k := 0) (i := 0) 2 rfl rfl ⟨by decide +kernel, rfl⟩ ?_
  refine z_iconst (pc' := 38) (n := 0) (v := 0) (by decide) ⟨by decide +kernel, rfl⟩ ?_
  refine z_callVf (pc' := 41) 2 (cet_C_compileE n k u8 0) (ceG_C170 ca D) (ceO_2 ca D) rfl (by omega) rfl rfl (Nat.le_of_ble_eq_true rfl) ⟨by decide +kernel, rfl⟩ (fun r9 u10 => ?_)
  refine z_pop (pc' := 42) rfl ⟨by decide +kernel, rfl⟩ ?_
  refine z_aload_n (pc' := 43) (k := 0) (i := 0) 2 rfl rfl ⟨by decide +kernel, rfl⟩ ?_
  refine z_lload_n (pc' := 44) (k := 1) (i := 1) 1 rfl rfl ⟨by decide +kernel, rfl⟩ ?_
  refine z_callVf (pc' := 47) 2 (cet_C_variableNamed n u10 v3) (ceG_C132 ca D) (ceO_2 ca D) rfl (by omega) rfl rfl (Nat.le_of_ble_eq_true rfl) ⟨by decide +kernel, rfl⟩ (fun r11 u12 => ?_)
  refine z_istore (pc' := 49) (i := 4) (by decide) rfl ⟨by decide +kernel, rfl⟩ ?_
  refine z_iload (pc' := 51) (i := 4) 0 rfl ⟨by decide +kernel, rfl⟩ ?_
  refine z_iconst (pc' := 52) (n := (-1)) (v := (-1)) (by decide) ⟨by decide +kernel, rfl⟩ ?_
  refine z_icmp_ne (pc' := 55) (tgt := 63) (off := 11) ⟨by decide +kernel, rfl⟩ rfl (fun h13 => ?_) (fun h13 => ?_)
  · refine z_aload_n (pc' := 56) (k := 0) (i := 0) 3 rfl rfl ⟨by decide +kernel, rfl⟩ ?_
    refine z_lload_n (pc' := 57) (k := 1) (i := 1) 2 rfl rfl ⟨by decide +kernel, rfl⟩ ?_
    refine z_iload_n (pc' := 58) (k := 3) (i := 3) 1 rfl rfl ⟨by decide +kernel, rfl⟩ ?_
    refine z_callVf (pc' := 61) 2 (cet_C_addVariable n u12 v3 v4) (ceG_C135 ca D) (ceO_2 ca D) rfl (by omega) rfl rfl (Nat.le_of_ble_eq_true rfl) ⟨by decide +kernel, rfl⟩ (fun r14 u15 => ?_)
    refine z_istore (pc' := 63) (i := 4) (by decide) rfl ⟨by decide +kernel, rfl⟩ ?_
    refine z_lv [3, 1, 0] (lv' := [(0, .ref (a 2)), (3, .int v4), (4, .int r14)]) rfl ?_
    exact ce_C_compileLet_J63_t n k u15 v4 r14
  · refine z_lv [3, 1, 0] (lv' := [(0, .ref (a 2)), (3, .int v4), (4, .int r11)]) rfl ?_
    exact ce_C_compileLet_J63_t n k u12 v4 r11
set_option maxRecDepth 20000 in
set_option maxHeartbeats 4000000 in
theorem cet_P_aim {l : Launch} {ca : Nat → ClassId} {D : va_G} {a g : Nat → Nat} (n : Nat) (p : Nat) (hp : zpr p = true) (u : zMu) (x1 : Int32) : zMet l (zCe ca D) ceY_P_aim (.code ceY_P_aim prog_7_method_5_code 2 none) zrv true 0 a g [.ref (a p), .int x1] u (ce_P_aim n p u x1) := by
  refine zMet.of rfl (Nat.le_of_ble_eq_true rfl) fun κ A hl => ?_
  subst hl
  unfold ce_P_aim
  refine z_iload_n (pc' := 1) (k := 1) (i := 1) 1 rfl rfl ⟨by decide +kernel, rfl⟩ ?_
  refine z_if_lt (pc' := 4) (tgt := 22) (off := 21) ⟨by decide +kernel, rfl⟩ rfl (fun h1 => ?_) (fun h1 => ?_)
  · exact z_vret (pc' := 23) ⟨by decide +kernel, rfl⟩
  · refine z_iload_n (pc' := 5) (k := 1) (i := 1) 1 rfl rfl ⟨by decide +kernel, rfl⟩ ?_
    refine z_aload_n (pc' := 6) (k := 0) (i := 0) 0 rfl rfl ⟨by decide +kernel, rfl⟩ ?_
    refine z_getI (pc' := 9) (cef_P45_P ca D hp) (ce_adP0 hp) ⟨by decide +kernel, rfl⟩ ?_
    refine z_icmp_ge (pc' := 12) (tgt := 22) (off := 13) ⟨by decide +kernel, rfl⟩ rfl (fun h2 => ?_) (fun h2 => ?_)
    · refine z_aload_n (pc' := 13) (k := 0) (i := 0) 0 rfl rfl ⟨by decide +kernel, rfl⟩ ?_
      refine z_getR (pc' := 16) (cef_P15_P ca D hp) (ce_adP0 hp) (y := a (p + 2)) (ce_frP2 hp) ⟨by decide +kernel, rfl⟩ ?_
      refine z_iload_n (pc' := 17) (k := 1) (i := 1) 1 rfl rfl ⟨by decide +kernel, rfl⟩ ?_
      refine z_aload_n (pc' := 18) (k := 0) (i := 0) 0 rfl rfl ⟨by decide +kernel, rfl⟩ ?_
      refine z_getI (pc' := 21) (cef_P45_P ca D hp) (ce_adP0 hp) ⟨by decide +kernel, rfl⟩ ?_
      refine z_iast (pc' := 22) (p + 2) (ce_ckP2 hp) (ce_clP2 hp) (ce_cnP2 hp) (ce_adP2 hp) ⟨by decide +kernel, rfl⟩ (z_letU fun u3 => ?_)
      exact z_vret (pc' := 23) ⟨by decide +kernel, rfl⟩
    · exact z_vret (pc' := 23) ⟨by decide +kernel, rfl⟩
set_option maxRecDepth 20000 in
set_option maxHeartbeats 4000000 in
theorem cet_C_compilePlain {l : Launch} {ca : Nat → ClassId} {D : va_G} {a g : Nat → Nat} (n k : Nat) (u : zMu) (x1 : Int32) : zMet l (zCe ca D) ceY_C_compilePlain (.code ceY_C_compilePlain prog_2_method_11_code 2 none) zrv true (1 * k + 4) a g [.ref (a 2), .int x1] u (ce_C_compilePlain n k u x1) := by
  refine zMet.of rfl (Nat.le_of_ble_eq_true rfl) fun κ A hl => ?_
  subst hl
  unfold ce_C_compilePlain
  refine z_aload_n (pc' := 1) (k := 0) (i := 0) 0 rfl rfl ⟨by decide +kernel, rfl⟩ ?_
  refine z_getR (pc' := 4) (cef_C12_2 ca D) rfl (y := a 7) rfl ⟨by decide +kernel, rfl⟩ ?_
  refine z_callVf (pc' := 7) 7 (cet_X_advance n u) (ceG_C105 ca D) (ceO_7 ca D) rfl (by omega) rfl rfl (Nat.le_of_ble_eq_true rfl) ⟨by decide +kernel, rfl⟩ (fun _ u2 => ?_)
  refine z_aload_n (pc' := 8) (k := 0) (i := 0) 0 rfl rfl ⟨by decide +kernel, rfl⟩ ?_
  refine z_iconst (pc' := 9) (n := 0) (v := 0) (by decide) ⟨by decide +kernel, rfl⟩ ?_
  refine z_callVf (pc' := 12) 2 (cet_C_compileE n k u2 0) (ceG_C170 ca D) (ceO_2 ca D) rfl (by omega) rfl rfl (Nat.le_of_ble_eq_true rfl) ⟨by decide +kernel, rfl⟩ (fun r3 u4 => ?_)
  refine z_pop (pc' := 13) rfl ⟨by decide +kernel, rfl⟩ ?_
  refine z_aload_n (pc' := 14) (k := 0) (i := 0) 0 rfl rfl ⟨by decide +kernel, rfl⟩ ?_
  refine z_getG (pc' := 17) (cef_C52_2 ca D) rfl (fun _ h => ⟨zpr_n0 h, ce_adP0 h⟩) ⟨by decide +kernel, rfl⟩ fun p5 hp5 => ?_
  refine z_iload_n (pc' := 18) (k := 1) (i := 1) 1 rfl rfl ⟨by decide +kernel, rfl⟩ ?_
  refine z_iconst (pc' := 19) (n := 0) (v := 0) (by decide) ⟨by decide +kernel, rfl⟩ ?_
  refine z_iconst (pc' := 20) (n := 0) (v := 0) (by decide) ⟨by decide +kernel, rfl⟩ ?_
  refine z_callVf (pc' := 23) p5 (cet_P_emit n p5 hp5 u4 x1 0 0) (ceG_C56 ca D) (ceO_P ca D hp5) (ce_adP0 hp5) (by omega) rfl rfl (Nat.le_of_ble_eq_true rfl) ⟨by decide +kernel, rfl⟩ (fun r6 u7 => ?_)
  refine z_pop (pc' := 24) rfl ⟨by decide +kernel, rfl⟩ ?_
  refine z_aload_n (pc' := 25) (k := 0) (i := 0) 0 rfl rfl ⟨by decide +kernel, rfl⟩ ?_
  refine z_bipush (pc' := 27) (n := 59) (v := 59) (by decide) ⟨by decide +kernel, rfl⟩ ?_
  refine z_callVf (pc' := 30) 2 (cet_C_expect n u7 59) (ceG_C167 ca D) (ceO_2 ca D) rfl (by omega) rfl rfl (Nat.le_of_ble_eq_true rfl) ⟨by decide +kernel, rfl⟩ (fun _ u9 => ?_)
  exact z_vret (pc' := 31) ⟨by decide +kernel, rfl⟩
set_option maxRecDepth 20000 in
set_option maxHeartbeats 4000000 in
theorem cet_P_takeBack {l : Launch} {ca : Nat → ClassId} {D : va_G} {a g : Nat → Nat} (n : Nat) (p : Nat) (hp : zpr p = true) (u : zMu) : zMet l (zCe ca D) ceY_P_takeBack (.code ceY_P_takeBack prog_7_method_4_code 1 (some .int)) zri true 0 a g [.ref (a p)] u (ce_P_takeBack n p u) := by
  refine zMet.of rfl (Nat.le_of_ble_eq_true rfl) fun κ A hl => ?_
  subst hl
  unfold ce_P_takeBack
  refine z_aload_n (pc' := 1) (k := 0) (i := 0) 0 rfl rfl ⟨by decide +kernel, rfl⟩ ?_
  refine z_getI (pc' := 4) (cef_P45_P ca D hp) (ce_adP0 hp) ⟨by decide +kernel, rfl⟩ ?_
  refine z_if_ne (pc' := 7) (tgt := 9) (off := 5) ⟨by decide +kernel, rfl⟩ rfl (fun h1 => ?_) (fun h1 => ?_)
  · refine z_iconst (pc' := 8) (n := 0) (v := 0) (by decide) ⟨by decide +kernel, rfl⟩ ?_
    exact z_iret (pc' := 9) ⟨by decide +kernel, rfl⟩
  · refine z_aload_n (pc' := 10) (k := 0) (i := 0) 0 rfl rfl ⟨by decide +kernel, rfl⟩ ?_
    refine z_dup (pc' := 11) rfl ⟨by decide +kernel, rfl⟩ ?_
    refine z_getI (pc' := 14) (cef_P45_P ca D hp) (ce_adP0 hp) ⟨by decide +kernel, rfl⟩ ?_
    refine z_iconst (pc' := 15) (n := 1) (v := 1) (by decide) ⟨by decide +kernel, rfl⟩ ?_
    refine z_isub (pc' := 16) ⟨by decide +kernel, rfl⟩ ?_
    refine z_putI (pc' := 19) (cef_P45_P ca D hp) (ce_adP0 hp) ⟨by decide +kernel, rfl⟩ (z_letU fun u2 => ?_)
    refine z_aload_n (pc' := 20) (k := 0) (i := 0) 0 rfl rfl ⟨by decide +kernel, rfl⟩ ?_
    refine z_getR (pc' := 23) (cef_P15_P ca D hp) (ce_adP0 hp) (y := a (p + 2)) (ce_frP2 hp) ⟨by decide +kernel, rfl⟩ ?_
    refine z_aload_n (pc' := 24) (k := 0) (i := 0) 0 rfl rfl ⟨by decide +kernel, rfl⟩ ?_
    refine z_getI (pc' := 27) (cef_P45_P ca D hp) (ce_adP0 hp) ⟨by decide +kernel, rfl⟩ ?_
    refine z_iald (pc' := 28) (p + 2) (ce_ckP2 hp) (ce_clP2 hp) (ce_cnP2 hp) (ce_adP2 hp) ⟨by decide +kernel, rfl⟩ ?_
    exact z_iret (pc' := 29) ⟨by decide +kernel, rfl⟩
set_option maxRecDepth 20000 in
set_option maxHeartbeats 4000000 in
theorem cet_P_isSite {l : Launch} {ca : Nat → ClassId} {D : va_G} {a g : Nat → Nat} (n : Nat) (p : Nat) (hp : zpr p = true) (u : zMu) (x1 : Int32) : zMet l (zCe ca D) ceY_P_isSite (.code ceY_P_isSite prog_7_method_7_code 2 (some .boolean)) zri true 0 a g [.ref (a p), .int x1] u (ce_P_isSite n p u x1) := by
  refine zMet.of rfl (Nat.le_of_ble_eq_true rfl) fun κ A hl => ?_
  subst hl
  unfold ce_P_isSite
  refine z_iload_n (pc' := 1) (k := 1) (i := 1) 1 rfl rfl ⟨by decide +kernel, rfl⟩ ?_
  refine z_if_lt (pc' := 4) (tgt := 16) (off := 15) ⟨by decide +kernel, rfl⟩ rfl (fun h1 => ?_) (fun h1 => ?_)
  · refine z_iconst (pc' := 17) (n := 0) (v := 0) (by decide) ⟨by decide +kernel, rfl⟩ ?_
    exact z_zret (pc' := 18) (by decide) ⟨by decide +kernel, rfl⟩
  · refine z_iload_n (pc' := 5) (k := 1) (i := 1) 1 rfl rfl ⟨by decide +kernel, rfl⟩ ?_
    refine z_aload_n (pc' := 6) (k := 0) (i := 0) 0 rfl rfl ⟨by decide +kernel, rfl⟩ ?_
    refine z_getI (pc' := 9) (cef_P49_P ca D hp) (ce_adP0 hp) ⟨by decide +kernel, rfl⟩ ?_
    refine z_icmp_ge (pc' := 12) (tgt := 16) (off := 7) ⟨by decide +kernel, rfl⟩ rfl (fun h2 => ?_) (fun h2 => ?_)
    · refine z_iconst (pc' := 13) (n := 1) (v := 1) (by decide) ⟨by decide +kernel, rfl⟩ ?_
      refine z_goto (tgt := 17) (off := 4) (by decide +kernel) rfl ?_
      exact z_zret (pc' := 18) (by decide) ⟨by decide +kernel, rfl⟩
    · refine z_iconst (pc' := 17) (n := 0) (v := 0) (by decide) ⟨by decide +kernel, rfl⟩ ?_
      exact z_zret (pc' := 18) (by decide) ⟨by decide +kernel, rfl⟩
set_option maxRecDepth 20000 in
set_option maxHeartbeats 4000000 in
theorem cet_P_turnSite {l : Launch} {ca : Nat → ClassId} {D : va_G} {a g : Nat → Nat} (n : Nat) (p : Nat) (hp : zpr p = true) (u : zMu) (x1 : Int32) (x2 : Int32) : zMet l (zCe ca D) ceY_P_turnSite (.code ceY_P_turnSite prog_7_method_8_code 3 none) zrv true 1 a g [.ref (a p), .int x1, .int x2] u (ce_P_turnSite n p u x1 x2) := by
  refine zMet.of rfl (Nat.le_of_ble_eq_true rfl) fun κ A hl => ?_
  subst hl
  unfold ce_P_turnSite
  refine z_aload_n (pc' := 1) (k := 0) (i := 0) 0 rfl rfl ⟨by decide +kernel, rfl⟩ ?_
  refine z_iload_n (pc' := 2) (k := 1) (i := 1) 1 rfl rfl ⟨by decide +kernel, rfl⟩ ?_
  refine z_callVf (pc' := 5) p (cet_P_isSite n p hp u x1) (ceG_P64 ca D) (ceO_P ca D hp) (ce_adP0 hp) (by omega) rfl rfl (Nat.le_of_ble_eq_true rfl) ⟨by decide +kernel, rfl⟩ (fun r1 u2 => ?_)
  refine z_if_eq (pc' := 8) (tgt := 15) (off := 10) ⟨by decide +kernel, rfl⟩ rfl (fun h3 => ?_) (fun h3 => ?_)
  · exact z_vret (pc' := 16) ⟨by decide +kernel, rfl⟩
  · refine z_aload_n (pc' := 9) (k := 0) (i := 0) 0 rfl rfl ⟨by decide +kernel, rfl⟩ ?_
    refine z_getR (pc' := 12) (cef_P23_P ca D hp) (ce_adP0 hp) (y := a (p + 4)) (ce_frP4 hp) ⟨by decide +kernel, rfl⟩ ?_
    refine z_iload_n (pc' := 13) (k := 1) (i := 1) 1 rfl rfl ⟨by decide +kernel, rfl⟩ ?_
    refine z_iload_n (pc' := 14) (k := 2) (i := 2) 2 rfl rfl ⟨by decide +kernel, rfl⟩ ?_
    refine z_iast (pc' := 15) (p + 4) (ce_ckP4 hp) (ce_clP4 hp) (ce_cnP4 hp) (ce_adP4 hp) ⟨by decide +kernel, rfl⟩ (z_letU fun u4 => ?_)
    exact z_vret (pc' := 16) ⟨by decide +kernel, rfl⟩
set_option maxRecDepth 20000 in
set_option maxHeartbeats 4000000 in
theorem cet_P_placeTakenBack {l : Launch} {ca : Nat → ClassId} {D : va_G} {a g : Nat → Nat} (n : Nat) (p : Nat) (hp : zpr p = true) (u : zMu) : zMet l (zCe ca D) ceY_P_placeTakenBack (.code ceY_P_placeTakenBack prog_7_method_6_code 1 (some .int)) zri true 0 a g [.ref (a p)] u (ce_P_placeTakenBack n p u) := by
  refine zMet.of rfl (Nat.le_of_ble_eq_true rfl) fun κ A hl => ?_
  subst hl
  unfold ce_P_placeTakenBack
  refine z_aload_n (pc' := 1) (k := 0) (i := 0) 0 rfl rfl ⟨by decide +kernel, rfl⟩ ?_
  refine z_getI (pc' := 4) (cef_P45_P ca D hp) (ce_adP0 hp) ⟨by decide +kernel, rfl⟩ ?_
  refine z_sipush (pc' := 7) (n := 2400) (v := 2400) (by decide) ⟨by decide +kernel, rfl⟩ ?_
  refine z_icmp_ge (pc' := 10) (tgt := 22) (off := 15) ⟨by decide +kernel, rfl⟩ rfl (fun h1 => ?_) (fun h1 => ?_)
  · refine z_aload_n (pc' := 11) (k := 0) (i := 0) 0 rfl rfl ⟨by decide +kernel, rfl⟩ ?_
    refine z_getR (pc' := 14) (cef_P19_P ca D hp) (ce_adP0 hp) (y := a (p + 3)) (ce_frP3 hp) ⟨by decide +kernel, rfl⟩ ?_
    refine z_aload_n (pc' := 15) (k := 0) (i := 0) 0 rfl rfl ⟨by decide +kernel, rfl⟩ ?_
    refine z_getI (pc' := 18) (cef_P45_P ca D hp) (ce_adP0 hp) ⟨by decide +kernel, rfl⟩ ?_
    refine z_sald (pc' := 19) (p + 3) (ce_ckP3 hp) (ce_clP3 hp) (ce_cnP3 hp) (ce_adP3 hp) ⟨by decide +kernel, rfl⟩ ?_
    refine z_goto (tgt := 23) (off := 4) (by decide +kernel) rfl ?_
    exact z_iret (pc' := 24) ⟨by decide +kernel, rfl⟩
  · refine z_iconst (pc' := 23) (n := 0) (v := 0) (by decide) ⟨by decide +kernel, rfl⟩ ?_
    exact z_iret (pc' := 24) ⟨by decide +kernel, rfl⟩
