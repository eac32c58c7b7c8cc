/-! the class's methods meet their models (printed by wip/gen/cls.py) -/
set_option maxRecDepth 20000 in
set_option maxHeartbeats 4000000 in
theorem cet_T_meetPut {l : Launch} {ca : Nat → ClassId} {D : va_G} {a g : Nat → Nat} (n : Nat) (u : zMu) (x1 : Int32) (x2 : Int32) : zMet l (zCe ca D) ceY_T_meetPut (.code ceY_T_meetPut prog_10_method_4_code 3 none) zrv true 2 a g [.ref (a 49), .int x1, .int x2] u (ce_T_meetPut n u x1 x2) := by
  refine zMet.of rfl (Nat.le_of_ble_eq_true rfl) fun κ A hl => ?_
  subst hl
  unfold ce_T_meetPut
  refine z_aload_n (pc' := 1) (k := 0) (i := 0) 0 rfl rfl ⟨by decide +kernel, rfl⟩ ?_
  refine z_iload_n (pc' := 2) (k := 1) (i := 1) 1 rfl rfl ⟨by decide +kernel, rfl⟩ ?_
  refine z_iload_n (pc' := 3) (k := 2) (i := 2) 2 rfl rfl ⟨by decide +kernel, rfl⟩ ?_
  refine z_sipush (pc' := 6) (n := 200) (v := 200) (by decide) ⟨by decide +kernel, rfl⟩ ?_
  refine z_callVf (pc' := 9) 49 (cet_T_meets n u x1 x2 200) (ceG_T55 ca D) (ceO_49 ca D) rfl (by omega) rfl rfl (Nat.le_of_ble_eq_true rfl) ⟨by decide +kernel, rfl⟩ (fun r1 u2 => ?_)
  refine z_pop (pc' := 10) rfl ⟨by decide +kernel, rfl⟩ ?_
  exact z_vret (pc' := 11) ⟨by decide +kernel, rfl⟩
set_option maxRecDepth 20000 in
set_option maxHeartbeats 4000000 in
theorem cet_S_isParent {l : Launch} {ca : Nat → ClassId} {D : va_G} {a g : Nat → Nat} (n : Nat) (u : zMu) (x1 : Int32) : zMet l (zCe ca D) ceY_S_isParent (.code ceY_S_isParent prog_9_method_4_code 2 (some .boolean)) zri true 0 a g [.ref (a 43), .int x1] u (ce_S_isParent n u x1) := by
  refine zMet.of rfl (Nat.le_of_ble_eq_true rfl) fun κ A hl => ?_
  subst hl
  unfold ce_S_isParent
  refine z_iload_n (pc' := 1) (k := 1) (i := 1) 1 rfl rfl ⟨by decide +kernel, rfl⟩ ?_
  refine z_if_lt (pc' := 4) (tgt := 27) (off := 26) ⟨by decide +kernel, rfl⟩ rfl (fun h1 => ?_) (fun h1 => ?_)
  · refine z_iconst (pc' := 28) (n := 0) (v := 0) (by decide) ⟨by decide +kernel, rfl⟩ ?_
    exact z_zret (pc' := 29) (by decide) ⟨by decide +kernel, rfl⟩
  · refine z_iload_n (pc' := 5) (k := 1) (i := 1) 1 rfl rfl ⟨by decide +kernel, rfl⟩ ?_
    refine z_sipush (pc' := 8) (n := 200) (v := 200) (by decide) ⟨by decide +kernel, rfl⟩ ?_
    refine z_icmp_ge (pc' := 11) (tgt := 27) (off := 19) ⟨by decide +kernel, rfl⟩ rfl (fun h2 => ?_) (fun h2 => ?_)
    · refine z_aload_n (pc' := 12) (k := 0) (i := 0) 0 rfl rfl ⟨by decide +kernel, rfl⟩ ?_
      refine z_getR (pc' := 15) (cef_S9_43 ca D) rfl (y := a 44) rfl ⟨by decide +kernel, rfl⟩ ?_
      refine z_iload_n (pc' := 16) (k := 1) (i := 1) 1 rfl rfl ⟨by decide +kernel, rfl⟩ ?_
      refine z_iconst (pc' := 17) (n := 1) (v := 1) (by decide) ⟨by decide +kernel, rfl⟩ ?_
      refine z_iadd (pc' := 18) ⟨by decide +kernel, rfl⟩ ?_
      refine z_iald (pc' := 19) 44 rfl (zlt rfl) rfl rfl ⟨by decide +kernel, rfl⟩ ?_
      refine z_iconst (pc' := 20) (n := (-1)) (v := (-1)) (by decide) ⟨by decide +kernel, rfl⟩ ?_
      refine z_icmp_eq (pc' := 23) (tgt := 27) (off := 7) ⟨by decide +kernel, rfl⟩ rfl (fun h3 => ?_) (fun h3 => ?_)
      · refine z_iconst (pc' := 28) (n := 0) (v := 0) (by decide) ⟨by decide +kernel, rfl⟩ ?_
        exact z_zret (pc' := 29) (by decide) ⟨by decide +kernel, rfl⟩
      · refine z_iconst (pc' := 24) (n := 1) (v := 1) (by decide) ⟨by decide +kernel, rfl⟩ ?_
        refine z_goto (tgt := 28) (off := 4) (by decide +kernel) rfl ?_
        exact z_zret (pc' := 29) (by decide) ⟨by decide +kernel, rfl⟩
    · refine z_iconst (pc' := 28) (n := 0) (v := 0) (by decide) ⟨by decide +kernel, rfl⟩ ?_
      exact z_zret (pc' := 29) (by decide) ⟨by decide +kernel, rfl⟩
set_option maxRecDepth 20000 in
set_option maxHeartbeats 4000000 in
theorem cet_S_parentOf {l : Launch} {ca : Nat → ClassId} {D : va_G} {a g : Nat → Nat} (n : Nat) (u : zMu) (x1 : Int32) : zMet l (zCe ca D) ceY_S_parentOf (.code ceY_S_parentOf prog_9_method_5_code 2 (some .int)) zri true 1 a g [.ref (a 43), .int x1] u (ce_S_parentOf n u x1) := by
  refine zMet.of rfl (Nat.le_of_ble_eq_true rfl) fun κ A hl => ?_
  subst hl
  unfold ce_S_parentOf
  refine z_aload_n (pc' := 1) (k := 0) (i := 0) 0 rfl rfl ⟨by decide +kernel, rfl⟩ ?_
  refine z_iload_n (pc' := 2) (k := 1) (i := 1) 1 rfl rfl ⟨by decide +kernel, rfl⟩ ?_
  refine z_callVf (pc' := 5) 43 (cet_S_isShape n u x1) (ceG_S47 ca D) (ceO_43 ca D) rfl (by omega) rfl rfl (Nat.le_of_ble_eq_true rfl) ⟨by decide +kernel, rfl⟩ (fun r1 u2 => ?_)
  refine z_if_eq (pc' := 8) (tgt := 17) (off := 12) ⟨by decide +kernel, rfl⟩ rfl (fun h3 => ?_) (fun h3 => ?_)
  · refine z_iconst (pc' := 18) (n := (-1)) (v := (-1)) (by decide) ⟨by decide +kernel, rfl⟩ ?_
    exact z_iret (pc' := 19) ⟨by decide +kernel, rfl⟩
  · refine z_aload_n (pc' := 9) (k := 0) (i := 0) 0 rfl rfl ⟨by decide +kernel, rfl⟩ ?_
    refine z_getR (pc' := 12) (cef_S15_43 ca D) rfl (y := g 81) rfl ⟨by decide +kernel, rfl⟩ ?_
    refine z_iload_n (pc' := 13) (k := 1) (i := 1) 1 rfl rfl ⟨by decide +kernel, rfl⟩ ?_
    refine z_iald (pc' := 14) 81 rfl (zlt rfl) rfl rfl ⟨by decide +kernel, rfl⟩ ?_
    refine z_goto (tgt := 18) (off := 4) (by decide +kernel) rfl ?_
    exact z_iret (pc' := 19) ⟨by decide +kernel, rfl⟩
set_option maxRecDepth 20000 in
set_option maxHeartbeats 4000000 in
theorem cet_T_isOnWay {l : Launch} {ca : Nat → ClassId} {D : va_G} {a g : Nat → Nat} (n : Nat) (u : zMu) (x1 : Int32) (x2 : Int32) : zMet l (zCe ca D) ceY_T_isOnWay (.code ceY_T_isOnWay prog_10_method_11_code 5 (some .boolean)) zri true 2 a g [.ref (a 49), .int x1, .int x2, .ref (a 36)] u (ce_T_isOnWay n u x1 x2) := by
  refine zMet.of rfl (Nat.le_of_ble_eq_true rfl) fun κ A hl => ?_
  subst hl
  unfold ce_T_isOnWay
  refine z_iload_n (pc' := 1) (k := 2) (i := 2) 2 rfl rfl ⟨by decide +kernel, rfl⟩ ?_
  refine z_aload_n (pc' := 2) (k := 0) (i := 0) 0 rfl rfl ⟨by decide +kernel, rfl⟩ ?_
  refine z_getR (pc' := 5) (cef_T30_49 ca D) rfl (y := a 56) rfl ⟨by decide +kernel, rfl⟩ ?_
  refine z_iload_n (pc' := 6) (k := 1) (i := 1) 1 rfl rfl ⟨by decide +kernel, rfl⟩ ?_
  refine z_iald (pc' := 7) 56 rfl (zlt rfl) rfl rfl ⟨by decide +kernel, rfl⟩ ?_
  refine z_icmp_ge (pc' := 10) (tgt := 12) (off := 5) ⟨by decide +kernel, rfl⟩ rfl (fun h1 => ?_) (fun h1 => ?_)
  · refine z_iconst (pc' := 11) (n := 0) (v := 0) (by decide) ⟨by decide +kernel, rfl⟩ ?_
    exact z_zret (pc' := 12) (by decide) ⟨by decide +kernel, rfl⟩
  · refine z_aload_n (pc' := 13) (k := 3) (i := 3) 3 rfl rfl ⟨by decide +kernel, rfl⟩ ?_
    refine z_getR (pc' := 16) (cef_T63_36 ca D) rfl (y := a 43) rfl ⟨by decide +kernel, rfl⟩ ?_
    refine z_aload_n (pc' := 17) (k := 0) (i := 0) 0 rfl rfl ⟨by decide +kernel, rfl⟩ ?_
    refine z_getR (pc' := 20) (cef_T27_49 ca D) rfl (y := a 55) rfl ⟨by decide +kernel, rfl⟩ ?_
    refine z_iload_n (pc' := 21) (k := 1) (i := 1) 1 rfl rfl ⟨by decide +kernel, rfl⟩ ?_
    refine z_iald (pc' := 22) 55 rfl (zlt rfl) rfl rfl ⟨by decide +kernel, rfl⟩ ?_
    refine z_callVf (pc' := 25) 43 (cet_S_parentOf n u (zI u 55 (zx x1))) (ceG_T79 ca D) (ceO_43 ca D) rfl (by omega) rfl rfl (Nat.le_of_ble_eq_true rfl) ⟨by decide +kernel, rfl⟩ (fun r2 u3 => ?_)
    refine z_istore (pc' := 27) (i := 4) (by decide) rfl ⟨by decide +kernel, rfl⟩ ?_
    refine z_iload (pc' := 29) (i := 4) 0 rfl ⟨by decide +kernel, rfl⟩ ?_
    refine z_iconst (pc' := 30) (n := (-1)) (v := (-1)) (by decide) ⟨by decide +kernel, rfl⟩ ?_
    refine z_icmp_eq (pc' := 33) (tgt := 47) (off := 17) ⟨by decide +kernel, rfl⟩ rfl (fun h4 => ?_) (fun h4 => ?_)
    · refine z_iconst (pc' := 48) (n := 0) (v := 0) (by decide) ⟨by decide +kernel, rfl⟩ ?_
      exact z_zret (pc' := 49) (by decide) ⟨by decide +kernel, rfl⟩
    · refine z_aload_n (pc' := 34) (k := 3) (i := 3) 4 rfl rfl ⟨by decide +kernel, rfl⟩ ?_
      refine z_iload (pc' := 36) (i := 4) 0 rfl ⟨by decide +kernel, rfl⟩ ?_
      refine z_iload_n (pc' := 37) (k := 2) (i := 2) 3 rfl rfl ⟨by decide +kernel, rfl⟩ ?_
      refine z_callVf (pc' := 40) 36 (cet_H_isOnLine n u3 r2 x2) (ceG_T83 ca D) (ceO_36 ca D) rfl (by omega) rfl rfl (Nat.le_of_ble_eq_true rfl) ⟨by decide +kernel, rfl⟩ (fun r5 u6 => ?_)
      refine z_if_eq (pc' := 43) (tgt := 47) (off := 7) ⟨by decide +kernel, rfl⟩ rfl (fun h7 => ?_) (fun h7 => ?_)
      · refine z_iconst (pc' := 48) (n := 0) (v := 0) (by decide) ⟨by decide +kernel, rfl⟩ ?_
        exact z_zret (pc' := 49) (by decide) ⟨by decide +kernel, rfl⟩
      · refine z_iconst (pc' := 44) (n := 1) (v := 1) (by decide) ⟨by decide +kernel, rfl⟩ ?_
        refine z_goto (tgt := 48) (off := 4) (by decide +kernel) rfl ?_
        exact z_zret (pc' := 49) (by decide) ⟨by decide +kernel, rfl⟩
set_option maxRecDepth 20000 in
set_option maxHeartbeats 4000000 in
theorem ce_T_breakWays_L39_t {κ : zKx} {ca : Nat → ClassId} {D : va_G} {A : Nat → Prop} {c0 : Nat × Nat} {a g0 g : Nat → Nat} (n : Nat) (k15 : zMu → Int32 → Int32 → Int32 → Option (Unit × zMu)) (hk15 : ∀ (u : zMu) (x1 : Int32) (x3 : Int32) (x4 : Int32), zJ κ (zCe ca D) prog_10_method_10_code 8 ce_RT none zrv true 3 A c0 a g0 g u 15 [(0, .ref (a 49)), (1, .int x1), (2, .ref (a 36)), (3, .int x3), (4, .int x4)] [] (k15 u x1 x3 x4)) : ∀ (m : Nat) (u : zMu) (x1 : Int32) (x3 : Int32) (x4 : Int32) (x5 : Int32) (x6 : Int32) (x7 : Int32), zJ κ (zCe ca D) prog_10_method_10_code 8 ce_RT none zrv true 3 A c0 a g0 g u 39 [(0, .ref (a 49)), (1, .int x1), (2, .ref (a 36)), (3, .int x3), (4, .int x4), (5, .int x5), (6, .int x6), (7, .int x7)] [] (ce_T_breakWays_L39 n k15 m u x1 x3 x4 x5 x6 x7) := by
  intro m
  induction m with
  | zero => intro u x1 x3 x4 x5 x6 x7 r u' h; cases h
  | succ m ih =>
    intro u x1 x3 x4 x5 x6 x7
    unfold ce_T_breakWays_L39
    refine z_iload (pc' := 41) (i := 7) 7 rfl ⟨by decide +kernel, rfl⟩ ?_
    refine z_iload (pc' := 43) (i := 4) 4 rfl ⟨by decide +kernel, rfl⟩ ?_
    refine z_iconst (pc' := 44) (n := 4) (v := 4) (by decide) ⟨by decide +kernel, rfl⟩ ?_
    refine z_imul (pc' := 45) ⟨by decide +kernel, rfl⟩ ?_
    refine z_iload (pc' := 47) (i := 6) 6 rfl ⟨by decide +kernel, rfl⟩ ?_
    refine z_iadd (pc' := 48) ⟨by decide +kernel, rfl⟩ ?_
    refine z_icmp_ge (pc' := 51) (tgt := 112) (off := 64) ⟨by decide +kernel, rfl⟩ rfl (fun h1 => ?_) (fun h1 => ?_)
    · refine z_aload_n (pc' := 52) (k := 0) (i := 0) 0 rfl rfl ⟨by decide +kernel, rfl⟩ ?_
      refine z_iload (pc' := 54) (i := 7) 7 rfl ⟨by decide +kernel, rfl⟩ ?_
      refine z_iload_n (pc' := 55) (k := 1) (i := 1) 1 rfl rfl ⟨by decide +kernel, rfl⟩ ?_
      refine z_aload_n (pc' := 56) (k := 2) (i := 2) 2 rfl rfl ⟨by decide +kernel, rfl⟩ ?_
      refine z_callVf (pc' := 59) 49 (cet_T_isOnWay n u x7 x1) (ceG_T75 ca D) (ceO_49 ca D) rfl (by omega) rfl rfl (Nat.le_of_ble_eq_true rfl) ⟨by decide +kernel, rfl⟩ (fun r2 u3 => ?_)
      refine z_if_eq (pc' := 62) (tgt := 65) (off := 6) ⟨by decide +kernel, rfl⟩ rfl (fun h4 => ?_) (fun h4 => ?_)
      · refine z_aload_n (pc' := 66) (k := 0) (i := 0) 0 rfl rfl ⟨by decide +kernel, rfl⟩ ?_
        refine z_getR (pc' := 69) (cef_T27_49 ca D) rfl (y := a 55) rfl ⟨by decide +kernel, rfl⟩ ?_
        refine z_iload (pc' := 71) (i := 4) 4 rfl ⟨by decide +kernel, rfl⟩ ?_
        refine z_iconst (pc' := 72) (n := 4) (v := 4) (by decide) ⟨by decide +kernel, rfl⟩ ?_
        refine z_imul (pc' := 73) ⟨by decide +kernel, rfl⟩ ?_
        refine z_iload (pc' := 75) (i := 5) 5 rfl ⟨by decide +kernel, rfl⟩ ?_
        refine z_iadd (pc' := 76) ⟨by decide +kernel, rfl⟩ ?_
        refine z_aload_n (pc' := 77) (k := 0) (i := 0) 0 rfl rfl ⟨by decide +kernel, rfl⟩ ?_
        refine z_getR (pc' := 80) (cef_T27_49 ca D) rfl (y := a 55) rfl ⟨by decide +kernel, rfl⟩ ?_
        refine z_iload (pc' := 82) (i := 7) 7 rfl ⟨by decide +kernel, rfl⟩ ?_
        refine z_iald (pc' := 83) 55 rfl (zlt rfl) rfl rfl ⟨by decide +kernel, rfl⟩ ?_
        refine z_iast (pc' := 84) 55 rfl (zlt rfl) rfl rfl ⟨by decide +kernel, rfl⟩ (z_letU fun u5 => ?_)
        refine z_aload_n (pc' := 85) (k := 0) (i := 0) 0 rfl rfl ⟨by decide +kernel, rfl⟩ ?_
        refine z_getR (pc' := 88) (cef_T30_49 ca D) rfl (y := a 56) rfl ⟨by decide +kernel, rfl⟩ ?_
        refine z_iload (pc' := 90) (i := 4) 4 rfl ⟨by decide +kernel, rfl⟩ ?_
        refine z_iconst (pc' := 91) (n := 4) (v := 4) (by decide) ⟨by decide +kernel, rfl⟩ ?_
        refine z_imul (pc' := 92) ⟨by decide +kernel, rfl⟩ ?_
        refine z_iload (pc' := 94) (i := 5) 5 rfl ⟨by decide +kernel, rfl⟩ ?_
        refine z_iadd (pc' := 95) ⟨by decide +kernel, rfl⟩ ?_
        refine z_aload_n (pc' := 96) (k := 0) (i := 0) 0 rfl rfl ⟨by decide +kernel, rfl⟩ ?_
        refine z_getR (pc' := 99) (cef_T30_49 ca D) rfl (y := a 56) rfl ⟨by decide +kernel, rfl⟩ ?_
        refine z_iload (pc' := 101) (i := 7) 7 rfl ⟨by decide +kernel, rfl⟩ ?_
        refine z_iald (pc' := 102) 56 rfl (zlt rfl) rfl rfl ⟨by decide +kernel, rfl⟩ ?_
        refine z_iast (pc' := 103) 56 rfl (zlt rfl) rfl rfl ⟨by decide +kernel, rfl⟩ (z_letU fun u6 => ?_)
        refine z_iincN (pc' := 106) (i := 5) (n := 1) (c := 1) 5 rfl (by decide) (by decide) rfl ⟨by decide +kernel, rfl⟩ fun v7 => ?_
        refine z_iincN (pc' := 109) (i := 7) (n := 1) (c := 1) 7 rfl (by decide) (by decide) rfl ⟨by decide +kernel, rfl⟩ fun v8 => ?_
        refine z_goto (tgt := 39) (off := -70) (by decide +kernel) rfl ?_
        refine z_lv [2, 3, 4, 5, 6, 1, 7, 0] (lv' := [(0, .ref (a 49)), (1, .int x1), (2, .ref (a 36)), (3, .int x3), (4, .int x4), (5, .int v7), (6, .int x6), (7, .int v8)]) rfl ?_
        exact ih u6 x1 x3 x4 v7 x6 v8
      · refine z_goto (tgt := 106) (off := 44) (by decide +kernel) rfl ?_
        refine z_iincN (pc' := 109) (i := 7) (n := 1) (c := 1) 7 rfl (by decide) (by decide) rfl ⟨by decide +kernel, rfl⟩ fun v9 => ?_
        refine z_goto (tgt := 39) (off := -70) (by decide +kernel) rfl ?_
        refine z_lv [1, 2, 3, 4, 5, 6, 7, 0] (lv' := [(0, .ref (a 49)), (1, .int x1), (2, .ref (a 36)), (3, .int x3), (4, .int x4), (5, .int x5), (6, .int x6), (7, .int v9)]) rfl ?_
        exact ih u3 x1 x3 x4 x5 x6 v9
    · refine z_aload_n (pc' := 113) (k := 0) (i := 0) 0 rfl rfl ⟨by decide +kernel, rfl⟩ ?_
      refine z_getR (pc' := 116) (cef_T18_49 ca D) rfl (y := a 52) rfl ⟨by decide +kernel, rfl⟩ ?_
      refine z_iload (pc' := 118) (i := 4) 4 rfl ⟨by decide +kernel, rfl⟩ ?_
      refine z_iload (pc' := 120) (i := 5) 5 rfl ⟨by decide +kernel, rfl⟩ ?_
      refine z_iast (pc' := 121) 52 rfl (zlt rfl) rfl rfl ⟨by decide +kernel, rfl⟩ (z_letU fun u10 => ?_)
      refine z_aload_n (pc' := 122) (k := 0) (i := 0) 0 rfl rfl ⟨by decide +kernel, rfl⟩ ?_
      refine z_dup (pc' := 123) rfl ⟨by decide +kernel, rfl⟩ ?_
      refine z_getI (pc' := 126) (cef_T52_49 ca D) rfl ⟨by decide +kernel, rfl⟩ ?_
      refine z_iload (pc' := 128) (i := 6) 6 rfl ⟨by decide +kernel, rfl⟩ ?_
      refine z_iload (pc' := 130) (i := 5) 5 rfl ⟨by decide +kernel, rfl⟩ ?_
      refine z_isub (pc' := 131) ⟨by decide +kernel, rfl⟩ ?_
      refine z_iadd (pc' := 132) ⟨by decide +kernel, rfl⟩ ?_
      refine z_putI (pc' := 135) (cef_T52_49 ca D) rfl ⟨by decide +kernel, rfl⟩ (z_letU fun u11 => ?_)
      refine z_iincN (pc' := 138) (i := 4) (n := 1) (c := 1) 4 rfl (by decide) (by decide) rfl ⟨by decide +kernel, rfl⟩ fun v12 => ?_
      refine z_goto (tgt := 15) (off := -123) (by decide +kernel) rfl ?_
      refine z_lv [1, 2, 3, 4, 0] (lv' := [(0, .ref (a 49)), (1, .int x1), (2, .ref (a 36)), (3, .int x3), (4, .int v12)]) rfl ?_
      exact hk15 u11 x1 x3 v12
set_option maxRecDepth 20000 in
set_option maxHeartbeats 4000000 in
theorem ce_T_breakWays_L15_t {κ : zKx} {ca : Nat → ClassId} {D : va_G} {A : Nat → Prop} {c0 : Nat × Nat} {a g0 g : Nat → Nat} (n : Nat) : ∀ (m : Nat) (u : zMu) (x1 : Int32) (x3 : Int32) (x4 : Int32), zJ κ (zCe ca D) prog_10_method_10_code 8 ce_RT none zrv true 3 A c0 a g0 g u 15 [(0, .ref (a 49)), (1, .int x1), (2, .ref (a 36)), (3, .int x3), (4, .int x4)] [] (ce_T_breakWays_L15 n m u x1 x3 x4) := by
  intro m
  induction m with
  | zero => intro u x1 x3 x4 r u' h; cases h
  | succ m ih =>
    intro u x1 x3 x4
    unfold ce_T_breakWays_L15
    refine z_iload (pc' := 17) (i := 4) 4 rfl ⟨by decide +kernel, rfl⟩ ?_
    refine z_iload_n (pc' := 18) (k := 3) (i := 3) 3 rfl rfl ⟨by decide +kernel, rfl⟩ ?_
    refine z_icmp_ge (pc' := 21) (tgt := 141) (off := 123) ⟨by decide +kernel, rfl⟩ rfl (fun h1 => ?_) (fun h1 => ?_)
    · refine z_iconst (pc' := 22) (n := 0) (v := 0) (by decide) ⟨by decide +kernel, rfl⟩ ?_
      refine z_istore (pc' := 24) (i := 5) (by decide) rfl ⟨by decide +kernel, rfl⟩ ?_
      refine z_aload_n (pc' := 25) (k := 0) (i := 0) 1 rfl rfl ⟨by decide +kernel, rfl⟩ ?_
      refine z_getR (pc' := 28) (cef_T18_49 ca D) rfl (y := a 52) rfl ⟨by decide +kernel, rfl⟩ ?_
      refine z_iload (pc' := 30) (i := 4) 5 rfl ⟨by decide +kernel, rfl⟩ ?_
      refine z_iald (pc' := 31) 52 rfl (zlt rfl) rfl rfl ⟨by decide +kernel, rfl⟩ ?_
      refine z_letI fun v2 => ?_
      refine z_istore (pc' := 33) (i := 6) (by decide) rfl ⟨by decide +kernel, rfl⟩ ?_
      refine z_iload (pc' := 35) (i := 4) 6 rfl ⟨by decide +kernel, rfl⟩ ?_
      refine z_iconst (pc' := 36) (n := 4) (v := 4) (by decide) ⟨by decide +kernel, rfl⟩ ?_
      refine z_imul (pc' := 37) ⟨by decide +kernel, rfl⟩ ?_
      refine z_letI fun v3 => ?_
      refine z_istore (pc' := 39) (i := 7) (by decide) rfl ⟨by decide +kernel, rfl⟩ ?_
      refine z_lv [3, 4, 5, 6, 7, 2, 1, 0] (lv' := [(0, .ref (a 49)), (1, .int x1), (2, .ref (a 36)), (3, .int x3), (4, .int x4), (5, .int 0), (6, .int v2), (7, .int v3)]) rfl ?_
      exact ce_T_breakWays_L39_t n (ce_T_breakWays_L15 n m) (ih) n u x1 x3 x4 0 v2 v3
    · exact z_vret (pc' := 142) ⟨by decide +kernel, rfl⟩
set_option maxRecDepth 20000 in
set_option maxHeartbeats 4000000 in
theorem cet_T_breakWays {l : Launch} {ca : Nat → ClassId} {D : va_G} {a g : Nat → Nat} (n : Nat) (u : zMu) (x1 : Int32) (x3 : Int32) : zMet l (zCe ca D) ceY_T_breakWays (.code ceY_T_breakWays prog_10_method_10_code 8 none) zrv true 3 a g [.ref (a 49), .int x1, .ref (a 36), .int x3] u (ce_T_breakWays n u x1 x3) := by
  refine zMet.of rfl (Nat.le_of_ble_eq_true rfl) fun κ A hl => ?_
  subst hl
  unfold ce_T_breakWays
  refine z_aload_n (pc' := 1) (k := 2) (i := 2) 2 rfl rfl ⟨by decide +kernel, rfl⟩ ?_
  refine z_getR (pc' := 4) (cef_T63_36 ca D) rfl (y := a 43) rfl ⟨by decide +kernel, rfl⟩ ?_
  refine z_iload_n (pc' := 5) (k := 1) (i := 1) 1 rfl rfl ⟨by decide +kernel, rfl⟩ ?_
  refine z_callVf (pc' := 8) 43 (cet_S_isParent n u x1) (ceG_T69 ca D) (ceO_43 ca D) rfl (by omega) rfl rfl (Nat.le_of_ble_eq_true rfl) ⟨by decide +kernel, rfl⟩ (fun r1 u2 => ?_)
  refine z_if_ne (pc' := 11) (tgt := 12) (off := 4) ⟨by decide +kernel, rfl⟩ rfl (fun h3 => ?_) (fun h3 => ?_)
  · exact z_vret (pc' := 12) ⟨by decide +kernel, rfl⟩
  · refine z_iconst (pc' := 13) (n := 0) (v := 0) (by decide) ⟨by decide +kernel, rfl⟩ ?_
    refine z_istore (pc' := 15) (i := 4) (by decide) rfl ⟨by decide +kernel, rfl⟩ ?_
    refine z_lv [1, 2, 3, 4, 0] (lv' := [(0, .ref (a 49)), (1, .int x1), (2, .ref (a 36)), (3, .int x3), (4, .int 0)]) rfl ?_
    exact ce_T_breakWays_L15_t n n u2 x1 x3 0
set_option maxRecDepth 20000 in
set_option maxHeartbeats 4000000 in
theorem cet_M_putMember {l : Launch} {ca : Nat → ClassId} {D : va_G} {a g : Nat → Nat} (n : Nat) (u : zMu) (x1 : Int32) (x2 : Int32) : zMet l (zCe ca D) ceY_M_putMember (.code ceY_M_putMember prog_6_method_21_code 4 none) zrv false 6 a g [.ref (a 34), .int x1, .int x2] u (ce_M_putMember n u x1 x2) := by
  refine zMet.of rfl (Nat.le_of_ble_eq_true rfl) fun κ A hl => ?_
  subst hl
  unfold ce_M_putMember
  refine z_aload_n (pc' := 1) (k := 0) (i := 0) 0 rfl rfl ⟨by decide +kernel, rfl⟩ ?_
  refine z_dup (pc' := 2) rfl ⟨by decide +kernel, rfl⟩ ?_
  refine z_getI (pc' := 5) (cef_M72_34 ca D) rfl ⟨by decide +kernel, rfl⟩ ?_
  refine z_iconst (pc' := 6) (n := 2) (v := 2) (by decide) ⟨by decide +kernel, rfl⟩ ?_
  refine z_isub (pc' := 7) ⟨by decide +kernel, rfl⟩ ?_
  refine z_putI (pc' := 10) (cef_M72_34 ca D) rfl ⟨by decide +kernel, rfl⟩ (z_letU fun u1 => ?_)
  refine z_aload_n (pc' := 11) (k := 0) (i := 0) 0 rfl rfl ⟨by decide +kernel, rfl⟩ ?_
  refine z_aload_n (pc' := 12) (k := 0) (i := 0) 0 rfl rfl ⟨by decide +kernel, rfl⟩ ?_
  refine z_getI (pc' := 15) (cef_M72_34 ca D) rfl ⟨by decide +kernel, rfl⟩ ?_
  refine z_iload_n (pc' := 16) (k := 2) (i := 2) 2 rfl rfl ⟨by decide +kernel, rfl⟩ ?_
  refine z_callVf (pc' := 19) 34 (cet_M_objectAt n u1 (zI u1 34 8) x2) (ceG_M246 ca D) (ceO_34 ca D) rfl (by omega) rfl rfl (Nat.le_of_ble_eq_true rfl) ⟨by decide +kernel, rfl⟩ (fun r2 u3 => ?_)
  refine z_istore_n (pc' := 20) (k := 3) (i := 3) rfl (by decide) rfl ⟨by decide +kernel, rfl⟩ ?_
  refine z_iload_n (pc' := 21) (k := 3) (i := 3) 0 rfl rfl ⟨by decide +kernel, rfl⟩ ?_
  refine z_iconst (pc' := 22) (n := (-1)) (v := (-1)) (by decide) ⟨by decide +kernel, rfl⟩ ?_
  refine z_icmp_eq (pc' := 25) (tgt := 36) (off := 14) ⟨by decide +kernel, rfl⟩ rfl (fun h4 => ?_) (fun h4 => ?_)
  · exact z_vret (pc' := 37) ⟨by decide +kernel, rfl⟩
  · refine z_aload_n (pc' := 26) (k := 0) (i := 0) 1 rfl rfl ⟨by decide +kernel, rfl⟩ ?_
    refine z_getG (pc' := 29) (cef_M58_34 ca D) rfl (fun _ h => ⟨zpr_n0 h, ce_adP0 h⟩) ⟨by decide +kernel, rfl⟩ fun p5 hp5 => ?_
    refine z_iload_n (pc' := 30) (k := 1) (i := 1) 2 rfl rfl ⟨by decide +kernel, rfl⟩ ?_
    refine z_callVf (pc' := 33) p5 (cet_P_isSite n p5 hp5 u3 x1) (ceG_M224 ca D) (ceO_P ca D hp5) (ce_adP0 hp5) (by omega) rfl rfl (Nat.le_of_ble_eq_true rfl) ⟨by decide +kernel, rfl⟩ (fun r6 u7 => ?_)
    refine z_if_ne (pc' := 36) (tgt := 37) (off := 4) ⟨by decide +kernel, rfl⟩ rfl (fun h8 => ?_) (fun h8 => ?_)
    · exact z_vret (pc' := 37) ⟨by decide +kernel, rfl⟩
    · refine z_aload_n (pc' := 38) (k := 0) (i := 0) 1 rfl rfl ⟨by decide +kernel, rfl⟩ ?_
      refine z_getR (pc' := 41) (cef_M28_34 ca D) rfl (y := a 49) rfl ⟨by decide +kernel, rfl⟩ ?_
      refine z_iload_n (pc' := 42) (k := 1) (i := 1) 2 rfl rfl ⟨by decide +kernel, rfl⟩ ?_
      refine z_aload_n (pc' := 43) (k := 0) (i := 0) 1 rfl rfl ⟨by decide +kernel, rfl⟩ ?_
      refine z_getR (pc' := 46) (cef_M12_34 ca D) rfl (y := a 36) rfl ⟨by decide +kernel, rfl⟩ ?_
      refine z_getR (pc' := 49) (cef_M258_36 ca D) rfl (y := a 37) rfl ⟨by decide +kernel, rfl⟩ ?_
      refine z_iload_n (pc' := 50) (k := 3) (i := 3) 0 rfl rfl ⟨by decide +kernel, rfl⟩ ?_
      refine z_iald (pc' := 51) 37 rfl (zlt rfl) rfl rfl ⟨by decide +kernel, rfl⟩ ?_
      refine z_callVf (pc' := 54) 49 (cet_T_meetPut n u7 x1 (zI u7 37 (zx r2))) (ceG_M279 ca D) (ceO_49 ca D) rfl (by omega) rfl rfl (Nat.le_of_ble_eq_true rfl) ⟨by decide +kernel, rfl⟩ (fun _ u10 => ?_)
      refine z_aload_n (pc' := 55) (k := 0) (i := 0) 1 rfl rfl ⟨by decide +kernel, rfl⟩ ?_
      refine z_getR (pc' := 58) (cef_M28_34 ca D) rfl (y := a 49) rfl ⟨by decide +kernel, rfl⟩ ?_
      refine z_iload_n (pc' := 59) (k := 3) (i := 3) 0 rfl rfl ⟨by decide +kernel, rfl⟩ ?_
      refine z_aload_n (pc' := 60) (k := 0) (i := 0) 1 rfl rfl ⟨by decide +kernel, rfl⟩ ?_
      refine z_getR (pc' := 63) (cef_M12_34 ca D) rfl (y := a 36) rfl ⟨by decide +kernel, rfl⟩ ?_
      refine z_aload_n (pc' := 64) (k := 0) (i := 0) 1 rfl rfl ⟨by decide +kernel, rfl⟩ ?_
      refine z_getG (pc' := 67) (cef_M58_34 ca D) rfl (fun _ h => ⟨zpr_n0 h, ce_adP0 h⟩) ⟨by decide +kernel, rfl⟩ fun p11 hp11 => ?_
      refine z_getI (pc' := 70) (cef_M282_P ca D hp11) (ce_adP0 hp11) ⟨by decide +kernel, rfl⟩ ?_
      refine z_callVf (pc' := 73) 49 (cet_T_breakWays n u10 r2 (zI u10 p11 8)) (ceG_M284 ca D) (ceO_49 ca D) rfl (by omega) rfl rfl (Nat.le_of_ble_eq_true rfl) ⟨by decide +kernel, rfl⟩ (fun _ u13 => ?_)
      refine z_aload_n (pc' := 74) (k := 0) (i := 0) 1 rfl rfl ⟨by decide +kernel, rfl⟩ ?_
      refine z_getR (pc' := 77) (cef_M12_34 ca D) rfl (y := a 36) rfl ⟨by decide +kernel, rfl⟩ ?_
      refine z_iload_n (pc' := 78) (k := 3) (i := 3) 0 rfl rfl ⟨by decide +kernel, rfl⟩ ?_
      refine z_aload_n (pc' := 79) (k := 0) (i := 0) 1 rfl rfl ⟨by decide +kernel, rfl⟩ ?_
      refine z_getG (pc' := 82) (cef_M58_34 ca D) rfl (fun _ h => ⟨zpr_n0 h, ce_adP0 h⟩) ⟨by decide +kernel, rfl⟩ fun p14 hp14 => ?_
      refine z_getR (pc' := 85) (cef_M250_P ca D hp14) (ce_adP0 hp14) (y := a (p14 + 7)) (ce_frP7 hp14) ⟨by decide +kernel, rfl⟩ ?_
      refine z_iload_n (pc' := 86) (k := 1) (i := 1) 2 rfl rfl ⟨by decide +kernel, rfl⟩ ?_
      refine z_lald (pc' := 87) (p14 + 7) (ce_ckP7 hp14) (ce_clP7 hp14) (ce_cnP7 hp14) (ce_adP7 hp14) ⟨by decide +kernel, rfl⟩ ?_
      refine z_aload_n (pc' := 88) (k := 0) (i := 0) 1 rfl rfl ⟨by decide +kernel, rfl⟩ ?_
      refine z_getR (pc' := 91) (cef_M48_34 ca D) rfl (y := a 75) rfl ⟨by decide +kernel, rfl⟩ ?_
      refine z_aload_n (pc' := 92) (k := 0) (i := 0) 1 rfl rfl ⟨by decide +kernel, rfl⟩ ?_
      refine z_getI (pc' := 95) (cef_M72_34 ca D) rfl ⟨by decide +kernel, rfl⟩ ?_
      refine z_iconst (pc' := 96) (n := 1) (v := 1) (by decide) ⟨by decide +kernel, rfl⟩ ?_
      refine z_iadd (pc' := 97) ⟨by decide +kernel, rfl⟩ ?_
      refine z_callVf (pc' := 100) 75 (cet_V_sortAt n 75 rfl u13 ((zI u13 34 8) + 1)) (ceG_M205 ca D) (ceO_75 ca D) rfl (by omega) rfl rfl (Nat.le_of_ble_eq_true rfl) ⟨by decide +kernel, rfl⟩ (fun r15 u16 => ?_)
      refine z_aload_n (pc' := 101) (k := 0) (i := 0) 1 rfl rfl ⟨by decide +kernel, rfl⟩ ?_
      refine z_getR (pc' := 104) (cef_M48_34 ca D) rfl (y := a 75) rfl ⟨by decide +kernel, rfl⟩ ?_
      refine z_aload_n (pc' := 105) (k := 0) (i := 0) 1 rfl rfl ⟨by decide +kernel, rfl⟩ ?_
      refine z_getI (pc' := 108) (cef_M72_34 ca D) rfl ⟨by decide +kernel, rfl⟩ ?_
      refine z_iconst (pc' := 109) (n := 1) (v := 1) (by decide) ⟨by decide +kernel, rfl⟩ ?_
      refine z_iadd (pc' := 110) ⟨by decide +kernel, rfl⟩ ?_
      refine z_callVf (pc' := 113) 75 (cet_V_numberAt n 75 rfl u16 ((zI u16 34 8) + 1)) (ceG_M209 ca D) (ceO_75 ca D) rfl (by omega) rfl rfl (Nat.le_of_ble_eq_true rfl) ⟨by decide +kernel, rfl⟩ (fun r17 u18 => ?_)
      refine z_callV (pc' := 116) 36 (cet_H_give n u18 r2 (zL u13 (p14 + 7) (zx x1)) r15 r17) (ceG_M288 ca D) (ceO_36 ca D) rfl (fun h => by cases h) (by omega) rfl rfl (Nat.le_of_ble_eq_true rfl) ⟨by decide +kernel, rfl⟩ (fun _ u21 g19 _ => ?_)
      exact z_vret (pc' := 117) ⟨by decide +kernel, rfl⟩
set_option maxRecDepth 20000 in
set_option maxHeartbeats 4000000 in
theorem cet_T_meetStrike {l : Launch} {ca : Nat → ClassId} {D : va_G} {a g : Nat → Nat} (n : Nat) (u : zMu) (x1 : Int32) : zMet l (zCe ca D) ceY_T_meetStrike (.code ceY_T_meetStrike prog_10_method_5_code 2 none) zrv true 0 a g [.ref (a 49), .int x1] u (ce_T_meetStrike n u x1) := by
  refine zMet.of rfl (Nat.le_of_ble_eq_true rfl) fun κ A hl => ?_
  subst hl
  unfold ce_T_meetStrike
  refine z_aload_n (pc' := 1) (k := 0) (i := 0) 0 rfl rfl ⟨by decide +kernel, rfl⟩ ?_
  refine z_getR (pc' := 4) (cef_T9_49 ca D) rfl (y := a 50) rfl ⟨by decide +kernel, rfl⟩ ?_
  refine z_iload_n (pc' := 5) (k := 1) (i := 1) 1 rfl rfl ⟨by decide +kernel, rfl⟩ ?_
  refine z_dup2_11 (pc' := 6) rfl rfl ⟨by decide +kernel, rfl⟩ ?_
  refine z_iald (pc' := 7) 50 rfl (zlt rfl) rfl rfl ⟨by decide +kernel, rfl⟩ ?_
  refine z_iconst (pc' := 8) (n := 1) (v := 1) (by decide) ⟨by decide +kernel, rfl⟩ ?_
  refine z_iadd (pc' := 9) ⟨by decide +kernel, rfl⟩ ?_
  refine z_iast (pc' := 10) 50 rfl (zlt rfl) rfl rfl ⟨by decide +kernel, rfl⟩ (z_letU fun u1 => ?_)
  exact z_vret (pc' := 11) ⟨by decide +kernel, rfl⟩
set_option maxRecDepth 20000 in
set_option maxHeartbeats 4000000 in
theorem cet_M_strikeMember {l : Launch} {ca : Nat → ClassId} {D : va_G} {a g : Nat → Nat} (n : Nat) (u : zMu) (x1 : Int32) (x2 : Int32) : zMet l (zCe ca D) ceY_M_strikeMember (.code ceY_M_strikeMember prog_6_method_22_code 4 none) zrv true 4 a g [.ref (a 34), .int x1, .int x2] u (ce_M_strikeMember n u x1 x2) := by
  refine zMet.of rfl (Nat.le_of_ble_eq_true rfl) fun κ A hl => ?_
  subst hl
  unfold ce_M_strikeMember
  refine z_aload_n (pc' := 1) (k := 0) (i := 0) 0 rfl rfl ⟨by decide +kernel, rfl⟩ ?_
  refine z_dup (pc' := 2) rfl ⟨by decide +kernel, rfl⟩ ?_
  refine z_getI (pc' := 5) (cef_M72_34 ca D) rfl ⟨by decide +kernel, rfl⟩ ?_
  refine z_iconst (pc' := 6) (n := 1) (v := 1) (by decide) ⟨by decide +kernel, rfl⟩ ?_
  refine z_isub (pc' := 7) ⟨by decide +kernel, rfl⟩ ?_
  refine z_putI (pc' := 10) (cef_M72_34 ca D) rfl ⟨by decide +kernel, rfl⟩ (z_letU fun u1 => ?_)
  refine z_aload_n (pc' := 11) (k := 0) (i := 0) 0 rfl rfl ⟨by decide +kernel, rfl⟩ ?_
  refine z_aload_n (pc' := 12) (k := 0) (i := 0) 0 rfl rfl ⟨by decide +kernel, rfl⟩ ?_
  refine z_getI (pc' := 15) (cef_M72_34 ca D) rfl ⟨by decide +kernel, rfl⟩ ?_
  refine z_iload_n (pc' := 16) (k := 2) (i := 2) 2 rfl rfl ⟨by decide +kernel, rfl⟩ ?_
  refine z_callVf (pc' := 19) 34 (cet_M_objectAt n u1 (zI u1 34 8) x2) (ceG_M246 ca D) (ceO_34 ca D) rfl (by omega) rfl rfl (Nat.le_of_ble_eq_true rfl) ⟨by decide +kernel, rfl⟩ (fun r2 u3 => ?_)
  refine z_istore_n (pc' := 20) (k := 3) (i := 3) rfl (by decide) rfl ⟨by decide +kernel, rfl⟩ ?_
  refine z_iload_n (pc' := 21) (k := 3) (i := 3) 0 rfl rfl ⟨by decide +kernel, rfl⟩ ?_
  refine z_iconst (pc' := 22) (n := (-1)) (v := (-1)) (by decide) ⟨by decide +kernel, rfl⟩ ?_
  refine z_icmp_eq (pc' := 25) (tgt := 36) (off := 14) ⟨by decide +kernel, rfl⟩ rfl (fun h4 => ?_) (fun h4 => ?_)
  · exact z_vret (pc' := 37) ⟨by decide +kernel, rfl⟩
  · refine z_aload_n (pc' := 26) (k := 0) (i := 0) 1 rfl rfl ⟨by decide +kernel, rfl⟩ ?_
    refine z_getG (pc' := 29) (cef_M58_34 ca D) rfl (fun _ h => ⟨zpr_n0 h, ce_adP0 h⟩) ⟨by decide +kernel, rfl⟩ fun p5 hp5 => ?_
    refine z_iload_n (pc' := 30) (k := 1) (i := 1) 2 rfl rfl ⟨by decide +kernel, rfl⟩ ?_
    refine z_callVf (pc' := 33) p5 (cet_P_isSite n p5 hp5 u3 x1) (ceG_M224 ca D) (ceO_P ca D hp5) (ce_adP0 hp5) (by omega) rfl rfl (Nat.le_of_ble_eq_true rfl) ⟨by decide +kernel, rfl⟩ (fun r6 u7 => ?_)
    refine z_if_ne (pc' := 36) (tgt := 37) (off := 4) ⟨by decide +kernel, rfl⟩ rfl (fun h8 => ?_) (fun h8 => ?_)
    · exact z_vret (pc' := 37) ⟨by decide +kernel, rfl⟩
    · refine z_aload_n (pc' := 38) (k := 0) (i := 0) 1 rfl rfl ⟨by decide +kernel, rfl⟩ ?_
      refine z_getR (pc' := 41) (cef_M28_34 ca D) rfl (y := a 49) rfl ⟨by decide +kernel, rfl⟩ ?_
      refine z_iload_n (pc' := 42) (k := 1) (i := 1) 2 rfl rfl ⟨by decide +kernel, rfl⟩ ?_
      refine z_callVf (pc' := 45) 49 (cet_T_meetStrike n u7 x1) (ceG_M292 ca D) (ceO_49 ca D) rfl (by omega) rfl rfl (Nat.le_of_ble_eq_true rfl) ⟨by decide +kernel, rfl⟩ (fun _ u10 => ?_)
      refine z_aload_n (pc' := 46) (k := 0) (i := 0) 1 rfl rfl ⟨by decide +kernel, rfl⟩ ?_
      refine z_getR (pc' := 49) (cef_M12_34 ca D) rfl (y := a 36) rfl ⟨by decide +kernel, rfl⟩ ?_
      refine z_iload_n (pc' := 50) (k := 3) (i := 3) 0 rfl rfl ⟨by decide +kernel, rfl⟩ ?_
      refine z_aload_n (pc' := 51) (k := 0) (i := 0) 1 rfl rfl ⟨by decide +kernel, rfl⟩ ?_
      refine z_getG (pc' := 54) (cef_M58_34 ca D) rfl (fun _ h => ⟨zpr_n0 h, ce_adP0 h⟩) ⟨by decide +kernel, rfl⟩ fun p11 hp11 => ?_
      refine z_getR (pc' := 57) (cef_M250_P ca D hp11) (ce_adP0 hp11) (y := a (p11 + 7)) (ce_frP7 hp11) ⟨by decide +kernel, rfl⟩ ?_
      refine z_iload_n (pc' := 58) (k := 1) (i := 1) 2 rfl rfl ⟨by decide +kernel, rfl⟩ ?_
      refine z_lald (pc' := 59) (p11 + 7) (ce_ckP7 hp11) (ce_clP7 hp11) (ce_cnP7 hp11) (ce_adP7 hp11) ⟨by decide +kernel, rfl⟩ ?_
      refine z_callVf (pc' := 62) 36 (cet_H_find n u10 r2 (zL u10 (p11 + 7) (zx x1))) (ceG_M273 ca D) (ceO_36 ca D) rfl (by omega) rfl rfl (Nat.le_of_ble_eq_true rfl) ⟨by decide +kernel, rfl⟩ (fun r12 u13 => ?_)
      refine z_iconst (pc' := 63) (n := (-1)) (v := (-1)) (by decide) ⟨by decide +kernel, rfl⟩ ?_
      refine z_icmp_ne (pc' := 66) (tgt := 67) (off := 4) ⟨by decide +kernel, rfl⟩ rfl (fun h14 => ?_) (fun h14 => ?_)
      · exact z_vret (pc' := 67) ⟨by decide +kernel, rfl⟩
      · refine z_aload_n (pc' := 68) (k := 0) (i := 0) 1 rfl rfl ⟨by decide +kernel, rfl⟩ ?_
        refine z_getR (pc' := 71) (cef_M28_34 ca D) rfl (y := a 49) rfl ⟨by decide +kernel, rfl⟩ ?_
        refine z_iload_n (pc' := 72) (k := 3) (i := 3) 0 rfl rfl ⟨by decide +kernel, rfl⟩ ?_
        refine z_aload_n (pc' := 73) (k := 0) (i := 0) 1 rfl rfl ⟨by decide +kernel, rfl⟩ ?_
        refine z_getR (pc' := 76) (cef_M12_34 ca D) rfl (y := a 36) rfl ⟨by decide +kernel, rfl⟩ ?_
        refine z_aload_n (pc' := 77) (k := 0) (i := 0) 1 rfl rfl ⟨by decide +kernel, rfl⟩ ?_
        refine z_getG (pc' := 80) (cef_M58_34 ca D) rfl (fun _ h => ⟨zpr_n0 h, ce_adP0 h⟩) ⟨by decide +kernel, rfl⟩ fun p15 hp15 => ?_
        refine z_getI (pc' := 83) (cef_M282_P ca D hp15) (ce_adP0 hp15) ⟨by decide +kernel, rfl⟩ ?_
        refine z_callVf (pc' := 86) 49 (cet_T_breakWays n u13 r2 (zI u13 p15 8)) (ceG_M284 ca D) (ceO_49 ca D) rfl (by omega) rfl rfl (Nat.le_of_ble_eq_true rfl) ⟨by decide +kernel, rfl⟩ (fun _ u17 => ?_)
        refine z_aload_n (pc' := 87) (k := 0) (i := 0) 1 rfl rfl ⟨by decide +kernel, rfl⟩ ?_
        refine z_getR (pc' := 90) (cef_M12_34 ca D) rfl (y := a 36) rfl ⟨by decide +kernel, rfl⟩ ?_
        refine z_iload_n (pc' := 91) (k := 3) (i := 3) 0 rfl rfl ⟨by decide +kernel, rfl⟩ ?_
        refine z_aload_n (pc' := 92) (k := 0) (i := 0) 1 rfl rfl ⟨by decide +kernel, rfl⟩ ?_
        refine z_getG (pc' := 95) (cef_M58_34 ca D) rfl (fun _ h => ⟨zpr_n0 h, ce_adP0 h⟩) ⟨by decide +kernel, rfl⟩ fun p18 hp18 => ?_
        refine z_getR (pc' := 98) (cef_M250_P ca D hp18) (ce_adP0 hp18) (y := a (p18 + 7)) (ce_frP7 hp18) ⟨by decide +kernel, rfl⟩ ?_
        refine z_iload_n (pc' := 99) (k := 1) (i := 1) 2 rfl rfl ⟨by decide +kernel, rfl⟩ ?_
        refine z_lald (pc' := 100) (p18 + 7) (ce_ckP7 hp18) (ce_clP7 hp18) (ce_cnP7 hp18) (ce_adP7 hp18) ⟨by decide +kernel, rfl⟩ ?_
        refine z_callVf (pc' := 103) 36 (cet_H_strike n u17 r2 (zL u17 (p18 + 7) (zx x1))) (ceG_M295 ca D) (ceO_36 ca D) rfl (by omega) rfl rfl (Nat.le_of_ble_eq_true rfl) ⟨by decide +kernel, rfl⟩ (fun _ u20 => ?_)
        exact z_vret (pc' := 104) ⟨by decide +kernel, rfl⟩
set_option maxRecDepth 20000 in
set_option maxHeartbeats 4000000 in
theorem ce_R_addRow_L46_t {κ : zKx} {ca : Nat → ClassId} {D : va_G} {A : Nat → Prop} {c0 : Nat × Nat} {a g0 : Nat → Nat} (n : Nat) : ∀ (m : Nat) (g : Nat → Nat) (u : zMu) (x1 : Int32) (x2 : Int32), zJ κ (zCe ca D) prog_8_method_4_code 3 ce_RR (some .int) zri false 4 A c0 a g0 g u 46 [(0, .ref (a 45)), (1, .int x1), (2, .int x2)] [] (ce_R_addRow_L46 n m u x1 x2) := by
  intro m
  induction m with
  | zero => intro g u x1 x2 r u' h; cases h
  | succ m ih =>
    intro g u x1 x2
    unfold ce_R_addRow_L46
    refine z_iload_n (pc' := 47) (k := 2) (i := 2) 2 rfl rfl ⟨by decide +kernel, rfl⟩ ?_
    refine z_iload_n (pc' := 48) (k := 1) (i := 1) 1 rfl rfl ⟨by decide +kernel, rfl⟩ ?_
    refine z_icmp_ge (pc' := 51) (tgt := 72) (off := 24) ⟨by decide +kernel, rfl⟩ rfl (fun h1 => ?_) (fun h1 => ?_)
    · refine z_aload_n (pc' := 52) (k := 0) (i := 0) 0 rfl rfl ⟨by decide +kernel, rfl⟩ ?_
      refine z_getR (pc' := 55) (cef_R26_45 ca D) rfl (y := a 69) rfl ⟨by decide +kernel, rfl⟩ ?_
      refine z_aload_n (pc' := 56) (k := 0) (i := 0) 0 rfl rfl ⟨by decide +kernel, rfl⟩ ?_
      refine z_getI (pc' := 59) (cef_R30_45 ca D) rfl ⟨by decide +kernel, rfl⟩ ?_
      refine z_iload_n (pc' := 60) (k := 2) (i := 2) 2 rfl rfl ⟨by decide +kernel, rfl⟩ ?_
      refine z_iadd (pc' := 61) ⟨by decide +kernel, rfl⟩ ?_
      refine z_iconst (pc' := 62) (n := 1) (v := 1) (by decide) ⟨by decide +kernel, rfl⟩ ?_
      refine z_lconst (pc' := 63) (n := 0) (v := 0) (by decide) ⟨by decide +kernel, rfl⟩ ?_
      refine z_callV (pc' := 66) 69 (cet_V_set n 69 rfl u ((zI u 45 4) + x2) 1 0) (ceG_R40 ca D) (ceO_69 ca D) rfl (fun h => by cases h) (by omega) rfl rfl (Nat.le_of_ble_eq_true rfl) ⟨by decide +kernel, rfl⟩ (fun _ u4 g2 _ => ?_)
      refine z_iincN (pc' := 69) (i := 2) (n := 1) (c := 1) 2 rfl (by decide) (by decide) rfl ⟨by decide +kernel, rfl⟩ fun v5 => ?_
      refine z_goto (tgt := 46) (off := -23) (by decide +kernel) rfl ?_
      refine z_lv [1, 2, 0] (lv' := [(0, .ref (a 45)), (1, .int x1), (2, .int v5)]) rfl ?_
      exact ih g2 u4 x1 v5
    · refine z_aload_n (pc' := 73) (k := 0) (i := 0) 0 rfl rfl ⟨by decide +kernel, rfl⟩ ?_
      refine z_dup (pc' := 74) rfl ⟨by decide +kernel, rfl⟩ ?_
      refine z_getI (pc' := 77) (cef_R30_45 ca D) rfl ⟨by decide +kernel, rfl⟩ ?_
      refine z_iload_n (pc' := 78) (k := 1) (i := 1) 1 rfl rfl ⟨by decide +kernel, rfl⟩ ?_
      refine z_iadd (pc' := 79) ⟨by decide +kernel, rfl⟩ ?_
      refine z_putI (pc' := 82) (cef_R30_45 ca D) rfl ⟨by decide +kernel, rfl⟩ (z_letU fun u6 => ?_)
      refine z_aload_n (pc' := 83) (k := 0) (i := 0) 0 rfl rfl ⟨by decide +kernel, rfl⟩ ?_
      refine z_dup (pc' := 84) rfl ⟨by decide +kernel, rfl⟩ ?_
      refine z_getI (pc' := 87) (cef_R34_45 ca D) rfl ⟨by decide +kernel, rfl⟩ ?_
      refine z_letI fun v7 => ?_
      refine z_dup_x1 (pc' := 88) rfl rfl ⟨by decide +kernel, rfl⟩ ?_
      refine z_iconst (pc' := 89) (n := 1) (v := 1) (by decide) ⟨by decide +kernel, rfl⟩ ?_
      refine z_iadd (pc' := 90) ⟨by decide +kernel, rfl⟩ ?_
      refine z_putI (pc' := 93) (cef_R34_45 ca D) rfl ⟨by decide +kernel, rfl⟩ (z_letU fun u8 => ?_)
      exact z_iret (pc' := 94) ⟨by decide +kernel, rfl⟩
set_option maxRecDepth 20000 in
set_option maxHeartbeats 4000000 in
theorem cet_R_addRow {l : Launch} {ca : Nat → ClassId} {D : va_G} {a g : Nat → Nat} (n : Nat) (u : zMu) (x1 : Int32) : zMet l (zCe ca D) ceY_R_addRow (.code ceY_R_addRow prog_8_method_4_code 3 (some .int)) zri false 4 a g [.ref (a 45), .int x1] u (ce_R_addRow n u x1) := by
  refine zMet.of rfl (Nat.le_of_ble_eq_true rfl) fun κ A hl => ?_
  subst hl
  unfold ce_R_addRow
  refine z_aload_n (pc' := 1) (k := 0) (i := 0) 0 rfl rfl ⟨by decide +kernel, rfl⟩ ?_
  refine z_getI (pc' := 4) (cef_R34_45 ca D) rfl ⟨by decide +kernel, rfl⟩ ?_
  refine z_bipush (pc' := 6) (n := 60) (v := 60) (by decide) ⟨by decide +kernel, rfl⟩ ?_
  refine z_icmp_lt (pc' := 9) (tgt := 11) (off := 5) ⟨by decide +kernel, rfl⟩ rfl (fun h1 => ?_) (fun h1 => ?_)
  · refine z_aload_n (pc' := 12) (k := 0) (i := 0) 0 rfl rfl ⟨by decide +kernel, rfl⟩ ?_
    refine z_getR (pc' := 15) (cef_R9_45 ca D) rfl (y := a 46) rfl ⟨by decide +kernel, rfl⟩ ?_
    refine z_aload_n (pc' := 16) (k := 0) (i := 0) 0 rfl rfl ⟨by decide +kernel, rfl⟩ ?_
    refine z_getI (pc' := 19) (cef_R34_45 ca D) rfl ⟨by decide +kernel, rfl⟩ ?_
    refine z_iconst (pc' := 20) (n := 0) (v := 0) (by decide) ⟨by decide +kernel, rfl⟩ ?_
    refine z_iast (pc' := 21) 46 rfl (zlt rfl) rfl rfl ⟨by decide +kernel, rfl⟩ (z_letU fun u2 => ?_)
    refine z_aload_n (pc' := 22) (k := 0) (i := 0) 0 rfl rfl ⟨by decide +kernel, rfl⟩ ?_
    refine z_getR (pc' := 25) (cef_R15_45 ca D) rfl (y := a 47) rfl ⟨by decide +kernel, rfl⟩ ?_
    refine z_aload_n (pc' := 26) (k := 0) (i := 0) 0 rfl rfl ⟨by decide +kernel, rfl⟩ ?_
    refine z_getI (pc' := 29) (cef_R34_45 ca D) rfl ⟨by decide +kernel, rfl⟩ ?_
    refine z_iload_n (pc' := 30) (k := 1) (i := 1) 1 rfl rfl ⟨by decide +kernel, rfl⟩ ?_
    refine z_iast (pc' := 31) 47 rfl (zlt rfl) rfl rfl ⟨by decide +kernel, rfl⟩ (z_letU fun u3 => ?_)
    refine z_aload_n (pc' := 32) (k := 0) (i := 0) 0 rfl rfl ⟨by decide +kernel, rfl⟩ ?_
    refine z_getR (pc' := 35) (cef_R18_45 ca D) rfl (y := a 48) rfl ⟨by decide +kernel, rfl⟩ ?_
    refine z_aload_n (pc' := 36) (k := 0) (i := 0) 0 rfl rfl ⟨by decide +kernel, rfl⟩ ?_
    refine z_getI (pc' := 39) (cef_R34_45 ca D) rfl ⟨by decide +kernel, rfl⟩ ?_
    refine z_aload_n (pc' := 40) (k := 0) (i := 0) 0 rfl rfl ⟨by decide +kernel, rfl⟩ ?_
    refine z_getI (pc' := 43) (cef_R30_45 ca D) rfl ⟨by decide +kernel, rfl⟩ ?_
    refine z_iast (pc' := 44) 48 rfl (zlt rfl) rfl rfl ⟨by decide +kernel, rfl⟩ (z_letU fun u4 => ?_)
    refine z_iconst (pc' := 45) (n := 0) (v := 0) (by decide) ⟨by decide +kernel, rfl⟩ ?_
    refine z_istore_n (pc' := 46) (k := 2) (i := 2) rfl (by decide) rfl ⟨by decide +kernel, rfl⟩ ?_
    refine z_lv [1, 2, 0] (lv' := [(0, .ref (a 45)), (1, .int x1), (2, .int 0)]) rfl ?_
    exact ce_R_addRow_L46_t n n g u4 x1 0
  · refine z_iconst (pc' := 10) (n := (-1)) (v := (-1)) (by decide) ⟨by decide +kernel, rfl⟩ ?_
    exact z_iret (pc' := 11) ⟨by decide +kernel, rfl⟩
set_option maxRecDepth 20000 in
set_option maxHeartbeats 4000000 in
theorem cet_M_makeRow {l : Launch} {ca : Nat → ClassId} {D : va_G} {a g : Nat → Nat} (n : Nat) (u : zMu) (x1 : Int32) : zMet l (zCe ca D) ceY_M_makeRow (.code ceY_M_makeRow prog_6_method_24_code 5 none) zrv false 5 a g [.ref (a 34), .int x1] u (ce_M_makeRow n u x1) := by
  refine zMet.of rfl (Nat.le_of_ble_eq_true rfl) fun κ A hl => ?_
  subst hl
  unfold ce_M_makeRow
  refine z_aload_n (pc' := 1) (k := 0) (i := 0) 0 rfl rfl ⟨by decide +kernel, rfl⟩ ?_
  refine z_dup (pc' := 2) rfl ⟨by decide +kernel, rfl⟩ ?_
  refine z_getI (pc' := 5) (cef_M72_34 ca D) rfl ⟨by decide +kernel, rfl⟩ ?_
  refine z_iconst (pc' := 6) (n := 1) (v := 1) (by decide) ⟨by decide +kernel, rfl⟩ ?_
  refine z_isub (pc' := 7) ⟨by decide +kernel, rfl⟩ ?_
  refine z_putI (pc' := 10) (cef_M72_34 ca D) rfl ⟨by decide +kernel, rfl⟩ (z_letU fun u1 => ?_)
  refine z_aload_n (pc' := 11) (k := 0) (i := 0) 0 rfl rfl ⟨by decide +kernel, rfl⟩ ?_
  refine z_getR (pc' := 14) (cef_M48_34 ca D) rfl (y := a 75) rfl ⟨by decide +kernel, rfl⟩ ?_
  refine z_aload_n (pc' := 15) (k := 0) (i := 0) 0 rfl rfl ⟨by decide +kernel, rfl⟩ ?_
  refine z_getI (pc' := 18) (cef_M72_34 ca D) rfl ⟨by decide +kernel, rfl⟩ ?_
  refine z_callVf (pc' := 21) 75 (cet_V_numberAt n 75 rfl u1 (zI u1 34 8)) (ceG_M209 ca D) (ceO_75 ca D) rfl (by omega) rfl rfl (Nat.le_of_ble_eq_true rfl) ⟨by decide +kernel, rfl⟩ (fun r2 u3 => ?_)
  refine z_lstore_n (pc' := 22) (k := 2) (i := 2) rfl (by decide) rfl ⟨by decide +kernel, rfl⟩ ?_
  refine z_aload_n (pc' := 23) (k := 0) (i := 0) 1 rfl rfl ⟨by decide +kernel, rfl⟩ ?_
  refine z_getR (pc' := 26) (cef_M48_34 ca D) rfl (y := a 75) rfl ⟨by decide +kernel, rfl⟩ ?_
  refine z_aload_n (pc' := 27) (k := 0) (i := 0) 1 rfl rfl ⟨by decide +kernel, rfl⟩ ?_
  refine z_getI (pc' := 30) (cef_M72_34 ca D) rfl ⟨by decide +kernel, rfl⟩ ?_
  refine z_callVf (pc' := 33) 75 (cet_V_isNumberAt n 75 rfl u3 (zI u3 34 8)) (ceG_M213 ca D) (ceO_75 ca D) rfl (by omega) rfl rfl (Nat.le_of_ble_eq_true rfl) ⟨by decide +kernel, rfl⟩ (fun r4 u5 => ?_)
  refine z_if_ne (pc' := 36) (tgt := 43) (off := 10) ⟨by decide +kernel, rfl⟩ rfl (fun h6 => ?_) (fun h6 => ?_)
  · refine z_aload_n (pc' := 37) (k := 0) (i := 0) 1 rfl rfl ⟨by decide +kernel, rfl⟩ ?_
    refine z_iconst (pc' := 38) (n := 1) (v := 1) (by decide) ⟨by decide +kernel, rfl⟩ ?_
    refine z_iload_n (pc' := 39) (k := 1) (i := 1) 2 rfl rfl ⟨by decide +kernel, rfl⟩ ?_
    refine z_callVf (pc' := 42) 34 (cet_M_fail n u5 1 x1) (ceG_M221 ca D) (ceO_34 ca D) rfl (by omega) rfl rfl (Nat.le_of_ble_eq_true rfl) ⟨by decide +kernel, rfl⟩ (fun _ u8 => ?_)
    exact z_vret (pc' := 43) ⟨by decide +kernel, rfl⟩
  · refine z_lload_n (pc' := 44) (k := 2) (i := 2) 0 rfl rfl ⟨by decide +kernel, rfl⟩ ?_
    refine z_lconst (pc' := 45) (n := 0) (v := 0) (by decide) ⟨by decide +kernel, rfl⟩ ?_
    refine z_lcmp (pc' := 46) ⟨by decide +kernel, rfl⟩ ?_
    refine z_if_lt (pc' := 49) (tgt := 57) (off := 11) ⟨by decide +kernel, rfl⟩ rfl (fun h9 => ?_) (fun h9 => ?_)
    · refine z_aload_n (pc' := 58) (k := 0) (i := 0) 1 rfl rfl ⟨by decide +kernel, rfl⟩ ?_
      refine z_iconst (pc' := 59) (n := 4) (v := 4) (by decide) ⟨by decide +kernel, rfl⟩ ?_
      refine z_iload_n (pc' := 60) (k := 1) (i := 1) 2 rfl rfl ⟨by decide +kernel, rfl⟩ ?_
      refine z_callVf (pc' := 63) 34 (cet_M_fail n u5 4 x1) (ceG_M221 ca D) (ceO_34 ca D) rfl (by omega) rfl rfl (Nat.le_of_ble_eq_true rfl) ⟨by decide +kernel, rfl⟩ (fun _ u11 => ?_)
      exact z_vret (pc' := 64) ⟨by decide +kernel, rfl⟩
    · refine z_lload_n (pc' := 50) (k := 2) (i := 2) 0 rfl rfl ⟨by decide +kernel, rfl⟩ ?_
      refine z_ldc2 (pc' := 53) (v := 50) (ce_w0 15 rfl) ⟨by decide +kernel, rfl⟩ ?_
      refine z_lcmp (pc' := 54) ⟨by decide +kernel, rfl⟩ ?_
      refine z_if_le (pc' := 57) (tgt := 64) (off := 10) ⟨by decide +kernel, rfl⟩ rfl (fun h12 => ?_) (fun h12 => ?_)
      · refine z_aload_n (pc' := 58) (k := 0) (i := 0) 1 rfl rfl ⟨by decide +kernel, rfl⟩ ?_
        refine z_iconst (pc' := 59) (n := 4) (v := 4) (by decide) ⟨by decide +kernel, rfl⟩ ?_
        refine z_iload_n (pc' := 60) (k := 1) (i := 1) 2 rfl rfl ⟨by decide +kernel, rfl⟩ ?_
        refine z_callVf (pc' := 63) 34 (cet_M_fail n u5 4 x1) (ceG_M221 ca D) (ceO_34 ca D) rfl (by omega) rfl rfl (Nat.le_of_ble_eq_true rfl) ⟨by decide +kernel, rfl⟩ (fun _ u14 => ?_)
        exact z_vret (pc' := 64) ⟨by decide +kernel, rfl⟩
      · refine z_aload_n (pc' := 65) (k := 0) (i := 0) 1 rfl rfl ⟨by decide +kernel, rfl⟩ ?_
        refine z_getR (pc' := 68) (cef_M21_34 ca D) rfl (y := a 45) rfl ⟨by decide +kernel, rfl⟩ ?_
        refine z_lload_n (pc' := 69) (k := 2) (i := 2) 0 rfl rfl ⟨by decide +kernel, rfl⟩ ?_
        refine z_l2i (pc' := 70) ⟨by decide +kernel, rfl⟩ ?_
        refine z_callV (pc' := 73) 45 (cet_R_addRow n u5 (r2.toInt32)) (ceG_M312 ca D) (ceO_45 ca D) rfl (fun h => by cases h) (by omega) rfl rfl (Nat.le_of_ble_eq_true rfl) ⟨by decide +kernel, rfl⟩ (fun r16 u17 g15 _ => ?_)
        refine z_istore (pc' := 75) (i := 4) (by decide) rfl ⟨by decide +kernel, rfl⟩ ?_
        refine z_iload (pc' := 77) (i := 4) 0 rfl ⟨by decide +kernel, rfl⟩ ?_
        refine z_iconst (pc' := 78) (n := (-1)) (v := (-1)) (by decide) ⟨by decide +kernel, rfl⟩ ?_
        refine z_icmp_ne (pc' := 81) (tgt := 91) (off := 13) ⟨by decide +kernel, rfl⟩ rfl (fun h18 => ?_) (fun h18 => ?_)
        · refine z_aload_n (pc' := 82) (k := 0) (i := 0) 2 rfl rfl ⟨by decide +kernel, rfl⟩ ?_
          refine z_bipush (pc' := 84) (n := 6) (v := 6) (by decide) ⟨by decide +kernel, rfl⟩ ?_
          refine z_iload_n (pc' := 85) (k := 1) (i := 1) 3 rfl rfl ⟨by decide +kernel, rfl⟩ ?_
          refine z_callVf (pc' := 88) 34 (cet_M_fail n u17 6 x1) (ceG_M221 ca D) (ceO_34 ca D) rfl (by omega) rfl rfl (Nat.le_of_ble_eq_true rfl) ⟨by decide +kernel, rfl⟩ (fun _ u20 => ?_)
          refine z_goto (tgt := 99) (off := 11) (by decide +kernel) rfl ?_
          exact z_vret (pc' := 100) ⟨by decide +kernel, rfl⟩
        · refine z_aload_n (pc' := 92) (k := 0) (i := 0) 2 rfl rfl ⟨by decide +kernel, rfl⟩ ?_
          refine z_iconst (pc' := 93) (n := 4) (v := 4) (by decide) ⟨by decide +kernel, rfl⟩ ?_
          refine z_iload (pc' := 95) (i := 4) 0 rfl ⟨by decide +kernel, rfl⟩ ?_
          refine z_i2l (pc' := 96) ⟨by decide +kernel, rfl⟩ ?_
          refine z_callV (pc' := 99) 34 (cet_M_push n u17 4 (r16.toInt64)) (ceG_M133 ca D) (ceO_34 ca D) rfl (fun h => by cases h) (by omega) rfl rfl (Nat.le_of_ble_eq_true rfl) ⟨by decide +kernel, rfl⟩ (fun _ u23 g21 _ => ?_)
          exact z_vret (pc' := 100) ⟨by decide +kernel, rfl⟩
set_option maxRecDepth 20000 in
set_option maxHeartbeats 4000000 in
theorem cet_R_isRow {l : Launch} {ca : Nat → ClassId} {D : va_G} {a g : Nat → Nat} (n : Nat) (u : zMu) (x1 : Int32) : zMet l (zCe ca D) ceY_R_isRow (.code ceY_R_isRow prog_8_method_3_code 2 (some .boolean)) zri true 0 a g [.ref (a 45), .int x1] u (ce_R_isRow n u x1) := by
  refine zMet.of rfl (Nat.le_of_ble_eq_true rfl) fun κ A hl => ?_
  subst hl
  unfold ce_R_isRow
  refine z_iload_n (pc' := 1) (k := 1) (i := 1) 1 rfl rfl ⟨by decide +kernel, rfl⟩ ?_
  refine z_if_lt (pc' := 4) (tgt := 16) (off := 15) ⟨by decide +kernel, rfl⟩ rfl (fun h1 => ?_) (fun h1 => ?_)
  · refine z_iconst (pc' := 17) (n := 0) (v := 0) (by decide) ⟨by decide +kernel, rfl⟩ ?_
    exact z_zret (pc' := 18) (by decide) ⟨by decide +kernel, rfl⟩
  · refine z_iload_n (pc' := 5) (k := 1) (i := 1) 1 rfl rfl ⟨by decide +kernel, rfl⟩ ?_
    refine z_aload_n (pc' := 6) (k := 0) (i := 0) 0 rfl rfl ⟨by decide +kernel, rfl⟩ ?_
    refine z_getI (pc' := 9) (cef_R34_45 ca D) rfl ⟨by decide +kernel, rfl⟩ ?_
    refine z_icmp_ge (pc' := 12) (tgt := 16) (off := 7) ⟨by decide +kernel, rfl⟩ rfl (fun h2 => ?_) (fun h2 => ?_)
    · refine z_iconst (pc' := 13) (n := 1) (v := 1) (by decide) ⟨by decide +kernel, rfl⟩ ?_
      refine z_goto (tgt := 17) (off := 4) (by decide +kernel) rfl ?_
      exact z_zret (pc' := 18) (by decide) ⟨by decide +kernel, rfl⟩
    · refine z_iconst (pc' := 17) (n := 0) (v := 0) (by decide) ⟨by decide +kernel, rfl⟩ ?_
      exact z_zret (pc' := 18) (by decide) ⟨by decide +kernel, rfl⟩
set_option maxRecDepth 20000 in
set_option maxHeartbeats 4000000 in
theorem cet_R_placeOf {l : Launch} {ca : Nat → ClassId} {D : va_G} {a g : Nat → Nat} (n : Nat) (u : zMu) (x1 : Int32) (x2 : Int64) : zMet l (zCe ca D) ceY_R_placeOf (.code ceY_R_placeOf prog_8_method_5_code 4 (some .int)) zri true 1 a g [.ref (a 45), .int x1, .long x2] u (ce_R_placeOf n u x1 x2) := by
  refine zMet.of rfl (Nat.le_of_ble_eq_true rfl) fun κ A hl => ?_
  subst hl
  unfold ce_R_placeOf
  refine z_aload_n (pc' := 1) (k := 0) (i := 0) 0 rfl rfl ⟨by decide +kernel, rfl⟩ ?_
  refine z_iload_n (pc' := 2) (k := 1) (i := 1) 1 rfl rfl ⟨by decide +kernel, rfl⟩ ?_
  refine z_callVf (pc' := 5) 45 (cet_R_isRow n u x1) (ceG_R44 ca D) (ceO_45 ca D) rfl (by omega) rfl rfl (Nat.le_of_ble_eq_true rfl) ⟨by decide +kernel, rfl⟩ (fun r1 u2 => ?_)
  refine z_if_eq (pc' := 8) (tgt := 26) (off := 21) ⟨by decide +kernel, rfl⟩ rfl (fun h3 => ?_) (fun h3 => ?_)
  · refine z_iconst (pc' := 27) (n := (-1)) (v := (-1)) (by decide) ⟨by decide +kernel, rfl⟩ ?_
    refine z_goto (tgt := 39) (off := 12) (by decide +kernel) rfl ?_
    exact z_iret (pc' := 40) ⟨by decide +kernel, rfl⟩
  · refine z_lload_n (pc' := 9) (k := 2) (i := 2) 2 rfl rfl ⟨by decide +kernel, rfl⟩ ?_
    refine z_lconst (pc' := 10) (n := 0) (v := 0) (by decide) ⟨by decide +kernel, rfl⟩ ?_
    refine z_lcmp (pc' := 11) ⟨by decide +kernel, rfl⟩ ?_
    refine z_if_lt (pc' := 14) (tgt := 26) (off := 15) ⟨by decide +kernel, rfl⟩ rfl (fun h4 => ?_) (fun h4 => ?_)
    · refine z_iconst (pc' := 27) (n := (-1)) (v := (-1)) (by decide) ⟨by decide +kernel, rfl⟩ ?_
      refine z_goto (tgt := 39) (off := 12) (by decide +kernel) rfl ?_
      exact z_iret (pc' := 40) ⟨by decide +kernel, rfl⟩
    · refine z_lload_n (pc' := 15) (k := 2) (i := 2) 2 rfl rfl ⟨by decide +kernel, rfl⟩ ?_
      refine z_aload_n (pc' := 16) (k := 0) (i := 0) 0 rfl rfl ⟨by decide +kernel, rfl⟩ ?_
      refine z_getR (pc' := 19) (cef_R15_45 ca D) rfl (y := a 47) rfl ⟨by decide +kernel, rfl⟩ ?_
      refine z_iload_n (pc' := 20) (k := 1) (i := 1) 1 rfl rfl ⟨by decide +kernel, rfl⟩ ?_
      refine z_iald (pc' := 21) 47 rfl (zlt rfl) rfl rfl ⟨by decide +kernel, rfl⟩ ?_
      refine z_i2l (pc' := 22) ⟨by decide +kernel, rfl⟩ ?_
      refine z_lcmp (pc' := 23) ⟨by decide +kernel, rfl⟩ ?_
      refine z_if_lt (pc' := 26) (tgt := 30) (off := 7) ⟨by decide +kernel, rfl⟩ rfl (fun h5 => ?_) (fun h5 => ?_)
      · refine z_aload_n (pc' := 31) (k := 0) (i := 0) 0 rfl rfl ⟨by decide +kernel, rfl⟩ ?_
        refine z_getR (pc' := 34) (cef_R18_45 ca D) rfl (y := a 48) rfl ⟨by decide +kernel, rfl⟩ ?_
        refine z_iload_n (pc' := 35) (k := 1) (i := 1) 1 rfl rfl ⟨by decide +kernel, rfl⟩ ?_
        refine z_iald (pc' := 36) 48 rfl (zlt rfl) rfl rfl ⟨by decide +kernel, rfl⟩ ?_
        refine z_lload_n (pc' := 37) (k := 2) (i := 2) 2 rfl rfl ⟨by decide +kernel, rfl⟩ ?_
        refine z_l2i (pc' := 38) ⟨by decide +kernel, rfl⟩ ?_
        refine z_iadd (pc' := 39) ⟨by decide +kernel, rfl⟩ ?_
        exact z_iret (pc' := 40) ⟨by decide +kernel, rfl⟩
      · refine z_iconst (pc' := 27) (n := (-1)) (v := (-1)) (by decide) ⟨by decide +kernel, rfl⟩ ?_
        refine z_goto (tgt := 39) (off := 12) (by decide +kernel) rfl ?_
        exact z_iret (pc' := 40) ⟨by decide +kernel, rfl⟩
set_option maxRecDepth 20000 in
set_option maxHeartbeats 4000000 in
theorem cet_M_itemAt {l : Launch} {ca : Nat → ClassId} {D : va_G} {a g : Nat → Nat} (n : Nat) (u : zMu) (x1 : Int32) : zMet l (zCe ca D) ceY_M_itemAt (.code ceY_M_itemAt prog_6_method_27_code 3 (some .int)) zri true 2 a g [.ref (a 34), .int x1] u (ce_M_itemAt n u x1) := by
  refine zMet.of rfl (Nat.le_of_ble_eq_true rfl) fun κ A hl => ?_
  subst hl
  unfold ce_M_itemAt
  refine z_aload_n (pc' := 1) (k := 0) (i := 0) 0 rfl rfl ⟨by decide +kernel, rfl⟩ ?_
  refine z_getR (pc' := 4) (cef_M48_34 ca D) rfl (y := a 75) rfl ⟨by decide +kernel, rfl⟩ ?_
  refine z_aload_n (pc' := 5) (k := 0) (i := 0) 0 rfl rfl ⟨by decide +kernel, rfl⟩ ?_
  refine z_getI (pc' := 8) (cef_M72_34 ca D) rfl ⟨by decide +kernel, rfl⟩ ?_
  refine z_callVf (pc' := 11) 75 (cet_V_sortAt n 75 rfl u (zI u 34 8)) (ceG_M205 ca D) (ceO_75 ca D) rfl (by omega) rfl rfl (Nat.le_of_ble_eq_true rfl) ⟨by decide +kernel, rfl⟩ (fun r1 u2 => ?_)
  refine z_iconst (pc' := 12) (n := 4) (v := 4) (by decide) ⟨by decide +kernel, rfl⟩ ?_
  refine z_icmp_eq (pc' := 15) (tgt := 23) (off := 11) ⟨by decide +kernel, rfl⟩ rfl (fun h3 => ?_) (fun h3 => ?_)
  · refine z_aload_n (pc' := 24) (k := 0) (i := 0) 0 rfl rfl ⟨by decide +kernel, rfl⟩ ?_
    refine z_getR (pc' := 27) (cef_M48_34 ca D) rfl (y := a 75) rfl ⟨by decide +kernel, rfl⟩ ?_
    refine z_aload_n (pc' := 28) (k := 0) (i := 0) 0 rfl rfl ⟨by decide +kernel, rfl⟩ ?_
    refine z_getI (pc' := 31) (cef_M72_34 ca D) rfl ⟨by decide +kernel, rfl⟩ ?_
    refine z_iconst (pc' := 32) (n := 1) (v := 1) (by decide) ⟨by decide +kernel, rfl⟩ ?_
    refine z_iadd (pc' := 33) ⟨by decide +kernel, rfl⟩ ?_
    refine z_callVf (pc' := 36) 75 (cet_V_isNumberAt n 75 rfl u2 ((zI u2 34 8) + 1)) (ceG_M213 ca D) (ceO_75 ca D) rfl (by omega) rfl rfl (Nat.le_of_ble_eq_true rfl) ⟨by decide +kernel, rfl⟩ (fun r4 u5 => ?_)
    refine z_if_ne (pc' := 39) (tgt := 47) (off := 11) ⟨by decide +kernel, rfl⟩ rfl (fun h6 => ?_) (fun h6 => ?_)
    · refine z_aload_n (pc' := 40) (k := 0) (i := 0) 0 rfl rfl ⟨by decide +kernel, rfl⟩ ?_
      refine z_iconst (pc' := 41) (n := 1) (v := 1) (by decide) ⟨by decide +kernel, rfl⟩ ?_
      refine z_iload_n (pc' := 42) (k := 1) (i := 1) 1 rfl rfl ⟨by decide +kernel, rfl⟩ ?_
      refine z_callVf (pc' := 45) 34 (cet_M_fail n u5 1 x1) (ceG_M221 ca D) (ceO_34 ca D) rfl (by omega) rfl rfl (Nat.le_of_ble_eq_true rfl) ⟨by decide +kernel, rfl⟩ (fun _ u8 => ?_)
      refine z_iconst (pc' := 46) (n := (-1)) (v := (-1)) (by decide) ⟨by decide +kernel, rfl⟩ ?_
      exact z_iret (pc' := 47) ⟨by decide +kernel, rfl⟩
    · refine z_aload_n (pc' := 48) (k := 0) (i := 0) 0 rfl rfl ⟨by decide +kernel, rfl⟩ ?_
      refine z_getR (pc' := 51) (cef_M21_34 ca D) rfl (y := a 45) rfl ⟨by decide +kernel, rfl⟩ ?_
      refine z_aload_n (pc' := 52) (k := 0) (i := 0) 0 rfl rfl ⟨by decide +kernel, rfl⟩ ?_
      refine z_getR (pc' := 55) (cef_M48_34 ca D) rfl (y := a 75) rfl ⟨by decide +kernel, rfl⟩ ?_
      refine z_aload_n (pc' := 56) (k := 0) (i := 0) 0 rfl rfl ⟨by decide +kernel, rfl⟩ ?_
      refine z_getI (pc' := 59) (cef_M72_34 ca D) rfl ⟨by decide +kernel, rfl⟩ ?_
      refine z_callVf (pc' := 62) 75 (cet_V_numberAt n 75 rfl u5 (zI u5 34 8)) (ceG_M209 ca D) (ceO_75 ca D) rfl (by omega) rfl rfl (Nat.le_of_ble_eq_true rfl) ⟨by decide +kernel, rfl⟩ (fun r9 u10 => ?_)
      refine z_l2i (pc' := 63) ⟨by decide +kernel, rfl⟩ ?_
      refine z_aload_n (pc' := 64) (k := 0) (i := 0) 0 rfl rfl ⟨by decide +kernel, rfl⟩ ?_
      refine z_getR (pc' := 67) (cef_M48_34 ca D) rfl (y := a 75) rfl ⟨by decide +kernel, rfl⟩ ?_
      refine z_aload_n (pc' := 68) (k := 0) (i := 0) 0 rfl rfl ⟨by decide +kernel, rfl⟩ ?_
      refine z_getI (pc' := 71) (cef_M72_34 ca D) rfl ⟨by decide +kernel, rfl⟩ ?_
      refine z_iconst (pc' := 72) (n := 1) (v := 1) (by decide) ⟨by decide +kernel, rfl⟩ ?_
      refine z_iadd (pc' := 73) ⟨by decide +kernel, rfl⟩ ?_
      refine z_callVf (pc' := 76) 75 (cet_V_numberAt n 75 rfl u10 ((zI u10 34 8) + 1)) (ceG_M209 ca D) (ceO_75 ca D) rfl (by omega) rfl rfl (Nat.le_of_ble_eq_true rfl) ⟨by decide +kernel, rfl⟩ (fun r11 u12 => ?_)
      refine z_callVf (pc' := 79) 45 (cet_R_placeOf n u12 (r9.toInt32) r11) (ceG_M325 ca D) (ceO_45 ca D) rfl (by omega) rfl rfl (Nat.le_of_ble_eq_true rfl) ⟨by decide +kernel, rfl⟩ (fun r13 u14 => ?_)
      refine z_istore_n (pc' := 80) (k := 2) (i := 2) rfl (by decide) rfl ⟨by decide +kernel, rfl⟩ ?_
      refine z_iload_n (pc' := 81) (k := 2) (i := 2) 0 rfl rfl ⟨by decide +kernel, rfl⟩ ?_
      refine z_iconst (pc' := 82) (n := (-1)) (v := (-1)) (by decide) ⟨by decide +kernel, rfl⟩ ?_
      refine z_icmp_ne (pc' := 85) (tgt := 91) (off := 9) ⟨by decide +kernel, rfl⟩ rfl (fun h15 => ?_) (fun h15 => ?_)
      · refine z_aload_n (pc' := 86) (k := 0) (i := 0) 1 rfl rfl ⟨by decide +kernel, rfl⟩ ?_
        refine z_iconst (pc' := 87) (n := 3) (v := 3) (by decide) ⟨by decide +kernel, rfl⟩ ?_
        refine z_iload_n (pc' := 88) (k := 1) (i := 1) 2 rfl rfl ⟨by decide +kernel, rfl⟩ ?_
        refine z_callVf (pc' := 91) 34 (cet_M_fail n u14 3 x1) (ceG_M221 ca D) (ceO_34 ca D) rfl (by omega) rfl rfl (Nat.le_of_ble_eq_true rfl) ⟨by decide +kernel, rfl⟩ (fun _ u17 => ?_)
        refine z_iload_n (pc' := 92) (k := 2) (i := 2) 0 rfl rfl ⟨by decide +kernel, rfl⟩ ?_
        exact z_iret (pc' := 93) ⟨by decide +kernel, rfl⟩
      · refine z_iload_n (pc' := 92) (k := 2) (i := 2) 0 rfl rfl ⟨by decide +kernel, rfl⟩ ?_
        exact z_iret (pc' := 93) ⟨by decide +kernel, rfl⟩
  · refine z_aload_n (pc' := 16) (k := 0) (i := 0) 0 rfl rfl ⟨by decide +kernel, rfl⟩ ?_
    refine z_iconst (pc' := 17) (n := 2) (v := 2) (by decide) ⟨by decide +kernel, rfl⟩ ?_
    refine z_iload_n (pc' := 18) (k := 1) (i := 1) 1 rfl rfl ⟨by decide +kernel, rfl⟩ ?_
    refine z_callVf (pc' := 21) 34 (cet_M_fail n u2 2 x1) (ceG_M221 ca D) (ceO_34 ca D) rfl (by omega) rfl rfl (Nat.le_of_ble_eq_true rfl) ⟨by decide +kernel, rfl⟩ (fun _ u19 => ?_)
    refine z_iconst (pc' := 22) (n := (-1)) (v := (-1)) (by decide) ⟨by decide +kernel, rfl⟩ ?_
    exact z_iret (pc' := 23) ⟨by decide +kernel, rfl⟩
set_option maxRecDepth 20000 in
set_option maxHeartbeats 4000000 in
theorem cet_M_getItem {l : Launch} {ca : Nat → ClassId} {D : va_G} {a g : Nat → Nat} (n : Nat) (u : zMu) (x1 : Int32) : zMet l (zCe ca D) ceY_M_getItem (.code ceY_M_getItem prog_6_method_25_code 3 none) zrv false 5 a g [.ref (a 34), .int x1] u (ce_M_getItem n u x1) := by
  refine zMet.of rfl (Nat.le_of_ble_eq_true rfl) fun κ A hl => ?_
  subst hl
  unfold ce_M_getItem
  refine z_aload_n (pc' := 1) (k := 0) (i := 0) 0 rfl rfl ⟨by decide +kernel, rfl⟩ ?_
  refine z_dup (pc' := 2) rfl ⟨by decide +kernel, rfl⟩ ?_
  refine z_getI (pc' := 5) (cef_M72_34 ca D) rfl ⟨by decide +kernel, rfl⟩ ?_
  refine z_iconst (pc' := 6) (n := 2) (v := 2) (by decide) ⟨by decide +kernel, rfl⟩ ?_
  refine z_isub (pc' := 7) ⟨by decide +kernel, rfl⟩ ?_
  refine z_putI (pc' := 10) (cef_M72_34 ca D) rfl ⟨by decide +kernel, rfl⟩ (z_letU fun u1 => ?_)
  refine z_aload_n (pc' := 11) (k := 0) (i := 0) 0 rfl rfl ⟨by decide +kernel, rfl⟩ ?_
  refine z_iload_n (pc' := 12) (k := 1) (i := 1) 1 rfl rfl ⟨by decide +kernel, rfl⟩ ?_
  refine z_callVf (pc' := 15) 34 (cet_M_itemAt n u1 x1) (ceG_M315 ca D) (ceO_34 ca D) rfl (by omega) rfl rfl (Nat.le_of_ble_eq_true rfl) ⟨by decide +kernel, rfl⟩ (fun r2 u3 => ?_)
  refine z_istore_n (pc' := 16) (k := 2) (i := 2) rfl (by decide) rfl ⟨by decide +kernel, rfl⟩ ?_
  refine z_iload_n (pc' := 17) (k := 2) (i := 2) 0 rfl rfl ⟨by decide +kernel, rfl⟩ ?_
  refine z_iconst (pc' := 18) (n := (-1)) (v := (-1)) (by decide) ⟨by decide +kernel, rfl⟩ ?_
  refine z_icmp_eq (pc' := 21) (tgt := 47) (off := 29) ⟨by decide +kernel, rfl⟩ rfl (fun h4 => ?_) (fun h4 => ?_)
  · exact z_vret (pc' := 48) ⟨by decide +kernel, rfl⟩
  · refine z_aload_n (pc' := 22) (k := 0) (i := 0) 1 rfl rfl ⟨by decide +kernel, rfl⟩ ?_
    refine z_aload_n (pc' := 23) (k := 0) (i := 0) 1 rfl rfl ⟨by decide +kernel, rfl⟩ ?_
    refine z_getR (pc' := 26) (cef_M21_34 ca D) rfl (y := a 45) rfl ⟨by decide +kernel, rfl⟩ ?_
    refine z_getR (pc' := 29) (cef_M318_45 ca D) rfl (y := a 69) rfl ⟨by decide +kernel, rfl⟩ ?_
    refine z_iload_n (pc' := 30) (k := 2) (i := 2) 0 rfl rfl ⟨by decide +kernel, rfl⟩ ?_
    refine z_callVf (pc' := 33) 69 (cet_V_sortAt n 69 rfl u3 r2) (ceG_M205 ca D) (ceO_69 ca D) rfl (by omega) rfl rfl (Nat.le_of_ble_eq_true rfl) ⟨by decide +kernel, rfl⟩ (fun r5 u6 => ?_)
    refine z_aload_n (pc' := 34) (k := 0) (i := 0) 1 rfl rfl ⟨by decide +kernel, rfl⟩ ?_
    refine z_getR (pc' := 37) (cef_M21_34 ca D) rfl (y := a 45) rfl ⟨by decide +kernel, rfl⟩ ?_
    refine z_getR (pc' := 40) (cef_M318_45 ca D) rfl (y := a 69) rfl ⟨by decide +kernel, rfl⟩ ?_
    refine z_iload_n (pc' := 41) (k := 2) (i := 2) 0 rfl rfl ⟨by decide +kernel, rfl⟩ ?_
    refine z_callVf (pc' := 44) 69 (cet_V_numberAt n 69 rfl u6 r2) (ceG_M209 ca D) (ceO_69 ca D) rfl (by omega) rfl rfl (Nat.le_of_ble_eq_true rfl) ⟨by decide +kernel, rfl⟩ (fun r7 u8 => ?_)
    refine z_callV (pc' := 47) 34 (cet_M_push n u8 r5 r7) (ceG_M133 ca D) (ceO_34 ca D) rfl (fun h => by cases h) (by omega) rfl rfl (Nat.le_of_ble_eq_true rfl) ⟨by decide +kernel, rfl⟩ (fun _ u11 g9 _ => ?_)
    exact z_vret (pc' := 48) ⟨by decide +kernel, rfl⟩
set_option maxRecDepth 20000 in
set_option maxHeartbeats 4000000 in
theorem cet_R_neededFor {l : Launch} {ca : Nat → ClassId} {D : va_G} {a g : Nat → Nat} (n : Nat) (u : zMu) (x0 : Int32) (x1 : Int64) : zMet l (zCe ca D) ceY_R_neededFor (.code ceY_R_neededFor prog_8_method_7_code 3 (some .int)) zri true 0 a g [.int x0, .long x1] u (ce_R_neededFor n u x0 x1) := by
  refine zMet.of rfl (Nat.le_of_ble_eq_true rfl) fun κ A hl => ?_
  subst hl
  unfold ce_R_neededFor
  refine z_iload_n (pc' := 1) (k := 0) (i := 0) 0 rfl rfl ⟨by decide +kernel, rfl⟩ ?_
  refine z_iconst (pc' := 2) (n := 1) (v := 1) (by decide) ⟨by decide +kernel, rfl⟩ ?_
  refine z_icmp_eq (pc' := 5) (tgt := 7) (off := 5) ⟨by decide +kernel, rfl⟩ rfl (fun h1 => ?_) (fun h1 => ?_)
  · refine z_lload_n (pc' := 8) (k := 1) (i := 1) 1 rfl rfl ⟨by decide +kernel, rfl⟩ ?_
    refine z_ldc2 (pc' := 11) (v := (-128)) (ce_w0 16 rfl) ⟨by decide +kernel, rfl⟩ ?_
    refine z_lcmp (pc' := 12) ⟨by decide +kernel, rfl⟩ ?_
    refine z_if_lt (pc' := 15) (tgt := 27) (off := 15) ⟨by decide +kernel, rfl⟩ rfl (fun h2 => ?_) (fun h2 => ?_)
    · refine z_iconst (pc' := 28) (n := 1) (v := 1) (by decide) ⟨by decide +kernel, rfl⟩ ?_
      exact z_iret (pc' := 29) ⟨by decide +kernel, rfl⟩
    · refine z_lload_n (pc' := 16) (k := 1) (i := 1) 1 rfl rfl ⟨by decide +kernel, rfl⟩ ?_
      refine z_ldc2 (pc' := 19) (v := 127) (ce_w0 17 rfl) ⟨by decide +kernel, rfl⟩ ?_
      refine z_lcmp (pc' := 20) ⟨by decide +kernel, rfl⟩ ?_
      refine z_if_gt (pc' := 23) (tgt := 27) (off := 7) ⟨by decide +kernel, rfl⟩ rfl (fun h3 => ?_) (fun h3 => ?_)
      · refine z_iconst (pc' := 28) (n := 1) (v := 1) (by decide) ⟨by decide +kernel, rfl⟩ ?_
        exact z_iret (pc' := 29) ⟨by decide +kernel, rfl⟩
      · refine z_iconst (pc' := 24) (n := 0) (v := 0) (by decide) ⟨by decide +kernel, rfl⟩ ?_
        refine z_goto (tgt := 28) (off := 4) (by decide +kernel) rfl ?_
        exact z_iret (pc' := 29) ⟨by decide +kernel, rfl⟩
  · refine z_iconst (pc' := 6) (n := 2) (v := 2) (by decide) ⟨by decide +kernel, rfl⟩ ?_
    exact z_iret (pc' := 7) ⟨by decide +kernel, rfl⟩
set_option maxRecDepth 20000 in
set_option maxHeartbeats 4000000 in
theorem cet_R_putAt {l : Launch} {ca : Nat → ClassId} {D : va_G} {a g : Nat → Nat} (n : Nat) (u : zMu) (x1 : Int32) (x2 : Int32) (x3 : Int32) (x4 : Int64) : zMet l (zCe ca D) ceY_R_putAt (.code ceY_R_putAt prog_8_method_6_code 7 none) zrv false 4 a g [.ref (a 45), .int x1, .int x2, .int x3, .long x4] u (ce_R_putAt n u x1 x2 x3 x4) := by
  refine zMet.of rfl (Nat.le_of_ble_eq_true rfl) fun κ A hl => ?_
  subst hl
  unfold ce_R_putAt
  refine z_aload_n (pc' := 1) (k := 0) (i := 0) 0 rfl rfl ⟨by decide +kernel, rfl⟩ ?_
  refine z_iload_n (pc' := 2) (k := 1) (i := 1) 1 rfl rfl ⟨by decide +kernel, rfl⟩ ?_
  refine z_callVf (pc' := 5) 45 (cet_R_isRow n u x1) (ceG_R44 ca D) (ceO_45 ca D) rfl (by omega) rfl rfl (Nat.le_of_ble_eq_true rfl) ⟨by decide +kernel, rfl⟩ (fun r1 u2 => ?_)
  refine z_if_ne (pc' := 8) (tgt := 9) (off := 4) ⟨by decide +kernel, rfl⟩ rfl (fun h3 => ?_) (fun h3 => ?_)
  · exact z_vret (pc' := 9) ⟨by decide +kernel, rfl⟩
  · refine z_iload_n (pc' := 10) (k := 3) (i := 3) 3 rfl rfl ⟨by decide +kernel, rfl⟩ ?_
    refine z_lload (pc' := 12) (i := 4) 4 rfl ⟨by decide +kernel, rfl⟩ ?_
    refine z_callSf (pc' := 15) (cet_R_neededFor n u2 x3 x4) (ceG_R48 ca D) (by omega) rfl rfl (Nat.le_of_ble_eq_true rfl) ⟨by decide +kernel, rfl⟩ (fun r4 u5 => ?_)
    refine z_istore (pc' := 17) (i := 6) (by decide) rfl ⟨by decide +kernel, rfl⟩ ?_
    refine z_iload (pc' := 19) (i := 6) 0 rfl ⟨by decide +kernel, rfl⟩ ?_
    refine z_aload_n (pc' := 20) (k := 0) (i := 0) 1 rfl rfl ⟨by decide +kernel, rfl⟩ ?_
    refine z_getR (pc' := 23) (cef_R9_45 ca D) rfl (y := a 46) rfl ⟨by decide +kernel, rfl⟩ ?_
    refine z_iload_n (pc' := 24) (k := 1) (i := 1) 2 rfl rfl ⟨by decide +kernel, rfl⟩ ?_
    refine z_iald (pc' := 25) 46 rfl (zlt rfl) rfl rfl ⟨by decide +kernel, rfl⟩ ?_
    refine z_icmp_le (pc' := 28) (tgt := 46) (off := 21) ⟨by decide +kernel, rfl⟩ rfl (fun h6 => ?_) (fun h6 => ?_)
    · refine z_aload_n (pc' := 29) (k := 0) (i := 0) 1 rfl rfl ⟨by decide +kernel, rfl⟩ ?_
      refine z_getR (pc' := 32) (cef_R9_45 ca D) rfl (y := a 46) rfl ⟨by decide +kernel, rfl⟩ ?_
      refine z_iload_n (pc' := 33) (k := 1) (i := 1) 2 rfl rfl ⟨by decide +kernel, rfl⟩ ?_
      refine z_iload (pc' := 35) (i := 6) 0 rfl ⟨by decide +kernel, rfl⟩ ?_
      refine z_iast (pc' := 36) 46 rfl (zlt rfl) rfl rfl ⟨by decide +kernel, rfl⟩ (z_letU fun u7 => ?_)
      refine z_aload_n (pc' := 37) (k := 0) (i := 0) 1 rfl rfl ⟨by decide +kernel, rfl⟩ ?_
      refine z_dup (pc' := 38) rfl ⟨by decide +kernel, rfl⟩ ?_
      refine z_getI (pc' := 41) (cef_R37_45 ca D) rfl ⟨by decide +kernel, rfl⟩ ?_
      refine z_iconst (pc' := 42) (n := 1) (v := 1) (by decide) ⟨by decide +kernel, rfl⟩ ?_
      refine z_iadd (pc' := 43) ⟨by decide +kernel, rfl⟩ ?_
      refine z_putI (pc' := 46) (cef_R37_45 ca D) rfl ⟨by decide +kernel, rfl⟩ (z_letU fun u8 => ?_)
      refine z_aload_n (pc' := 47) (k := 0) (i := 0) 1 rfl rfl ⟨by decide +kernel, rfl⟩ ?_
      refine z_getR (pc' := 50) (cef_R26_45 ca D) rfl (y := a 69) rfl ⟨by decide +kernel, rfl⟩ ?_
      refine z_iload_n (pc' := 51) (k := 2) (i := 2) 3 rfl rfl ⟨by decide +kernel, rfl⟩ ?_
      refine z_iload_n (pc' := 52) (k := 3) (i := 3) 4 rfl rfl ⟨by decide +kernel, rfl⟩ ?_
      refine z_lload (pc' := 54) (i := 4) 5 rfl ⟨by decide +kernel, rfl⟩ ?_
      refine z_callV (pc' := 57) 69 (cet_V_set n 69 rfl u8 x2 x3 x4) (ceG_R40 ca D) (ceO_69 ca D) rfl (fun h => by cases h) (by omega) rfl rfl (Nat.le_of_ble_eq_true rfl) ⟨by decide +kernel, rfl⟩ (fun _ u11 g9 _ => ?_)
      exact z_vret (pc' := 58) ⟨by decide +kernel, rfl⟩
    · refine z_aload_n (pc' := 47) (k := 0) (i := 0) 1 rfl rfl ⟨by decide +kernel, rfl⟩ ?_
      refine z_getR (pc' := 50) (cef_R26_45 ca D) rfl (y := a 69) rfl ⟨by decide +kernel, rfl⟩ ?_
      refine z_iload_n (pc' := 51) (k := 2) (i := 2) 3 rfl rfl ⟨by decide +kernel, rfl⟩ ?_
      refine z_iload_n (pc' := 52) (k := 3) (i := 3) 4 rfl rfl ⟨by decide +kernel, rfl⟩ ?_
      refine z_lload (pc' := 54) (i := 4) 5 rfl ⟨by decide +kernel, rfl⟩ ?_
      refine z_callV (pc' := 57) 69 (cet_V_set n 69 rfl u5 x2 x3 x4) (ceG_R40 ca D) (ceO_69 ca D) rfl (fun h => by cases h) (by omega) rfl rfl (Nat.le_of_ble_eq_true rfl) ⟨by decide +kernel, rfl⟩ (fun _ u14 g12 _ => ?_)
      exact z_vret (pc' := 58) ⟨by decide +kernel, rfl⟩
set_option maxRecDepth 20000 in
set_option maxHeartbeats 4000000 in
theorem cet_M_putItem {l : Launch} {ca : Nat → ClassId} {D : va_G} {a g : Nat → Nat} (n : Nat) (u : zMu) (x1 : Int32) : zMet l (zCe ca D) ceY_M_putItem (.code ceY_M_putItem prog_6_method_26_code 3 none) zrv false 5 a g [.ref (a 34), .int x1] u (ce_M_putItem n u x1) := by
  refine zMet.of rfl (Nat.le_of_ble_eq_true rfl) fun κ A hl => ?_
  subst hl
  unfold ce_M_putItem
  refine z_aload_n (pc' := 1) (k := 0) (i := 0) 0 rfl rfl ⟨by decide +kernel, rfl⟩ ?_
  refine z_dup (pc' := 2) rfl ⟨by decide +kernel, rfl⟩ ?_
  refine z_getI (pc' := 5) (cef_M72_34 ca D) rfl ⟨by decide +kernel, rfl⟩ ?_
  refine z_iconst (pc' := 6) (n := 3) (v := 3) (by decide) ⟨by decide +kernel, rfl⟩ ?_
  refine z_isub (pc' := 7) ⟨by decide +kernel, rfl⟩ ?_
  refine z_putI (pc' := 10) (cef_M72_34 ca D) rfl ⟨by decide +kernel, rfl⟩ (z_letU fun u1 => ?_)
  refine z_aload_n (pc' := 11) (k := 0) (i := 0) 0 rfl rfl ⟨by decide +kernel, rfl⟩ ?_
  refine z_iload_n (pc' := 12) (k := 1) (i := 1) 1 rfl rfl ⟨by decide +kernel, rfl⟩ ?_
  refine z_callVf (pc' := 15) 34 (cet_M_itemAt n u1 x1) (ceG_M315 ca D) (ceO_34 ca D) rfl (by omega) rfl rfl (Nat.le_of_ble_eq_true rfl) ⟨by decide +kernel, rfl⟩ (fun r2 u3 => ?_)
  refine z_istore_n (pc' := 16) (k := 2) (i := 2) rfl (by decide) rfl ⟨by decide +kernel, rfl⟩ ?_
  refine z_iload_n (pc' := 17) (k := 2) (i := 2) 0 rfl rfl ⟨by decide +kernel, rfl⟩ ?_
  refine z_iconst (pc' := 18) (n := (-1)) (v := (-1)) (by decide) ⟨by decide +kernel, rfl⟩ ?_
  refine z_icmp_ne (pc' := 21) (tgt := 22) (off := 4) ⟨by decide +kernel, rfl⟩ rfl (fun h4 => ?_) (fun h4 => ?_)
  · exact z_vret (pc' := 22) ⟨by decide +kernel, rfl⟩
  · refine z_aload_n (pc' := 23) (k := 0) (i := 0) 1 rfl rfl ⟨by decide +kernel, rfl⟩ ?_
    refine z_getR (pc' := 26) (cef_M21_34 ca D) rfl (y := a 45) rfl ⟨by decide +kernel, rfl⟩ ?_
    refine z_aload_n (pc' := 27) (k := 0) (i := 0) 1 rfl rfl ⟨by decide +kernel, rfl⟩ ?_
    refine z_getR (pc' := 30) (cef_M48_34 ca D) rfl (y := a 75) rfl ⟨by decide +kernel, rfl⟩ ?_
    refine z_aload_n (pc' := 31) (k := 0) (i := 0) 1 rfl rfl ⟨by decide +kernel, rfl⟩ ?_
    refine z_getI (pc' := 34) (cef_M72_34 ca D) rfl ⟨by decide +kernel, rfl⟩ ?_
    refine z_callVf (pc' := 37) 75 (cet_V_numberAt n 75 rfl u3 (zI u3 34 8)) (ceG_M209 ca D) (ceO_75 ca D) rfl (by omega) rfl rfl (Nat.le_of_ble_eq_true rfl) ⟨by decide +kernel, rfl⟩ (fun r5 u6 => ?_)
    refine z_l2i (pc' := 38) ⟨by decide +kernel, rfl⟩ ?_
    refine z_iload_n (pc' := 39) (k := 2) (i := 2) 0 rfl rfl ⟨by decide +kernel, rfl⟩ ?_
    refine z_aload_n (pc' := 40) (k := 0) (i := 0) 1 rfl rfl ⟨by decide +kernel, rfl⟩ ?_
    refine z_getR (pc' := 43) (cef_M48_34 ca D) rfl (y := a 75) rfl ⟨by decide +kernel, rfl⟩ ?_
    refine z_aload_n (pc' := 44) (k := 0) (i := 0) 1 rfl rfl ⟨by decide +kernel, rfl⟩ ?_
    refine z_getI (pc' := 47) (cef_M72_34 ca D) rfl ⟨by decide +kernel, rfl⟩ ?_
    refine z_iconst (pc' := 48) (n := 2) (v := 2) (by decide) ⟨by decide +kernel, rfl⟩ ?_
    refine z_iadd (pc' := 49) ⟨by decide +kernel, rfl⟩ ?_
    refine z_callVf (pc' := 52) 75 (cet_V_sortAt n 75 rfl u6 ((zI u6 34 8) + 2)) (ceG_M205 ca D) (ceO_75 ca D) rfl (by omega) rfl rfl (Nat.le_of_ble_eq_true rfl) ⟨by decide +kernel, rfl⟩ (fun r7 u8 => ?_)
    refine z_aload_n (pc' := 53) (k := 0) (i := 0) 1 rfl rfl ⟨by decide +kernel, rfl⟩ ?_
    refine z_getR (pc' := 56) (cef_M48_34 ca D) rfl (y := a 75) rfl ⟨by decide +kernel, rfl⟩ ?_
    refine z_aload_n (pc' := 57) (k := 0) (i := 0) 1 rfl rfl ⟨by decide +kernel, rfl⟩ ?_
    refine z_getI (pc' := 60) (cef_M72_34 ca D) rfl ⟨by decide +kernel, rfl⟩ ?_
    refine z_iconst (pc' := 61) (n := 2) (v := 2) (by decide) ⟨by decide +kernel, rfl⟩ ?_
    refine z_iadd (pc' := 62) ⟨by decide +kernel, rfl⟩ ?_
    refine z_callVf (pc' := 65) 75 (cet_V_numberAt n 75 rfl u8 ((zI u8 34 8) + 2)) (ceG_M209 ca D) (ceO_75 ca D) rfl (by omega) rfl rfl (Nat.le_of_ble_eq_true rfl) ⟨by decide +kernel, rfl⟩ (fun r9 u10 => ?_)
    refine z_callV (pc' := 68) 45 (cet_R_putAt n u10 (r5.toInt32) r2 r7 r9) (ceG_M321 ca D) (ceO_45 ca D) rfl (fun h => by cases h) (by omega) rfl rfl (Nat.le_of_ble_eq_true rfl) ⟨by decide +kernel, rfl⟩ (fun _ u13 g11 _ => ?_)
    exact z_vret (pc' := 69) ⟨by decide +kernel, rfl⟩
set_option maxRecDepth 20000 in
set_option maxHeartbeats 4000000 in
theorem ce_M_measure_J69_t {κ : zKx} {ca : Nat → ClassId} {D : va_G} {A : Nat → Prop} {c0 : Nat × Nat} {a g0 : Nat → Nat} (n : Nat) (g : Nat → Nat) (u : zMu) (x1 : Int32) (x2 : Int32) (x3 : Int32) : zJ κ (zCe ca D) prog_6_method_28_code 4 ce_RM none zrv false 5 A c0 a g0 g u 69 [(0, .ref (a 34)), (1, .int x1), (2, .int x2), (3, .int x3)] [] (ce_M_measure_J69 n u x1 x2 x3) := by
  unfold ce_M_measure_J69
  refine z_iload_n (pc' := 70) (k := 2) (i := 2) 2 rfl rfl ⟨by decide +kernel, rfl⟩ ?_
  refine z_iconst (pc' := 71) (n := 3) (v := 3) (by decide) ⟨by decide +kernel, rfl⟩ ?_
  refine z_icmp_ne (pc' := 74) (tgt := 103) (off := 32) ⟨by decide +kernel, rfl⟩ rfl (fun h1 => ?_) (fun h1 => ?_)
  · refine z_aload_n (pc' := 75) (k := 0) (i := 0) 0 rfl rfl ⟨by decide +kernel, rfl⟩ ?_
    refine z_getR (pc' := 78) (cef_M12_34 ca D) rfl (y := a 36) rfl ⟨by decide +kernel, rfl⟩ ?_
    refine z_iload_n (pc' := 79) (k := 3) (i := 3) 3 rfl rfl ⟨by decide +kernel, rfl⟩ ?_
    refine z_callVf (pc' := 82) 36 (cet_H_isObject n u x3) (ceG_M243 ca D) (ceO_36 ca D) rfl (by omega) rfl rfl (Nat.le_of_ble_eq_true rfl) ⟨by decide +kernel, rfl⟩ (fun r2 u3 => ?_)
    refine z_if_eq (pc' := 85) (tgt := 103) (off := 21) ⟨by decide +kernel, rfl⟩ rfl (fun h4 => ?_) (fun h4 => ?_)
    · refine z_aload_n (pc' := 104) (k := 0) (i := 0) 0 rfl rfl ⟨by decide +kernel, rfl⟩ ?_
      refine z_iconst (pc' := 105) (n := 2) (v := 2) (by decide) ⟨by decide +kernel, rfl⟩ ?_
      refine z_iload_n (pc' := 106) (k := 1) (i := 1) 1 rfl rfl ⟨by decide +kernel, rfl⟩ ?_
      refine z_callVf (pc' := 109) 34 (cet_M_fail n u3 2 x1) (ceG_M221 ca D) (ceO_34 ca D) rfl (by omega) rfl rfl (Nat.le_of_ble_eq_true rfl) ⟨by decide +kernel, rfl⟩ (fun _ u6 => ?_)
      exact z_vret (pc' := 110) ⟨by decide +kernel, rfl⟩
    · refine z_aload_n (pc' := 86) (k := 0) (i := 0) 0 rfl rfl ⟨by decide +kernel, rfl⟩ ?_
      refine z_iconst (pc' := 87) (n := 1) (v := 1) (by decide) ⟨by decide +kernel, rfl⟩ ?_
      refine z_aload_n (pc' := 88) (k := 0) (i := 0) 0 rfl rfl ⟨by decide +kernel, rfl⟩ ?_
      refine z_getR (pc' := 91) (cef_M12_34 ca D) rfl (y := a 36) rfl ⟨by decide +kernel, rfl⟩ ?_
      refine z_getR (pc' := 94) (cef_M334_36 ca D) rfl (y := a 39) rfl ⟨by decide +kernel, rfl⟩ ?_
      refine z_iload_n (pc' := 95) (k := 3) (i := 3) 3 rfl rfl ⟨by decide +kernel, rfl⟩ ?_
      refine z_iald (pc' := 96) 39 rfl (zlt rfl) rfl rfl ⟨by decide +kernel, rfl⟩ ?_
      refine z_i2l (pc' := 97) ⟨by decide +kernel, rfl⟩ ?_
      refine z_callV (pc' := 100) 34 (cet_M_push n u3 1 ((zI u3 39 (zx x3)).toInt64)) (ceG_M133 ca D) (ceO_34 ca D) rfl (fun h => by cases h) (by omega) rfl rfl (Nat.le_of_ble_eq_true rfl) ⟨by decide +kernel, rfl⟩ (fun _ u9 g7 _ => ?_)
      refine z_goto (tgt := 109) (off := 9) (by decide +kernel) rfl ?_
      exact z_vret (pc' := 110) ⟨by decide +kernel, rfl⟩
  · refine z_aload_n (pc' := 104) (k := 0) (i := 0) 0 rfl rfl ⟨by decide +kernel, rfl⟩ ?_
    refine z_iconst (pc' := 105) (n := 2) (v := 2) (by decide) ⟨by decide +kernel, rfl⟩ ?_
    refine z_iload_n (pc' := 106) (k := 1) (i := 1) 1 rfl rfl ⟨by decide +kernel, rfl⟩ ?_
    refine z_callVf (pc' := 109) 34 (cet_M_fail n u 2 x1) (ceG_M221 ca D) (ceO_34 ca D) rfl (by omega) rfl rfl (Nat.le_of_ble_eq_true rfl) ⟨by decide +kernel, rfl⟩ (fun _ u11 => ?_)
    exact z_vret (pc' := 110) ⟨by decide +kernel, rfl⟩
set_option maxRecDepth 20000 in
set_option maxHeartbeats 4000000 in
theorem cet_M_measure {l : Launch} {ca : Nat → ClassId} {D : va_G} {a g : Nat → Nat} (n : Nat) (u : zMu) (x1 : Int32) : zMet l (zCe ca D) ceY_M_measure (.code ceY_M_measure prog_6_method_28_code 4 none) zrv false 5 a g [.ref (a 34), .int x1] u (ce_M_measure n u x1) := by
  refine zMet.of rfl (Nat.le_of_ble_eq_true rfl) fun κ A hl => ?_
  subst hl
  unfold ce_M_measure
  refine z_aload_n (pc' := 1) (k := 0) (i := 0) 0 rfl rfl ⟨by decide +kernel, rfl⟩ ?_
  refine z_dup (pc' := 2) rfl ⟨by decide +kernel, rfl⟩ ?_
  refine z_getI (pc' := 5) (cef_M72_34 ca D) rfl ⟨by decide +kernel, rfl⟩ ?_
  refine z_iconst (pc' := 6) (n := 1) (v := 1) (by decide) ⟨by decide +kernel, rfl⟩ ?_
  refine z_isub (pc' := 7) ⟨by decide +kernel, rfl⟩ ?_
  refine z_putI (pc' := 10) (cef_M72_34 ca D) rfl ⟨by decide +kernel, rfl⟩ (z_letU fun u1 => ?_)
  refine z_aload_n (pc' := 11) (k := 0) (i := 0) 0 rfl rfl ⟨by decide +kernel, rfl⟩ ?_
  refine z_getR (pc' := 14) (cef_M48_34 ca D) rfl (y := a 75) rfl ⟨by decide +kernel, rfl⟩ ?_
  refine z_aload_n (pc' := 15) (k := 0) (i := 0) 0 rfl rfl ⟨by decide +kernel, rfl⟩ ?_
  refine z_getI (pc' := 18) (cef_M72_34 ca D) rfl ⟨by decide +kernel, rfl⟩ ?_
  refine z_callVf (pc' := 21) 75 (cet_V_sortAt n 75 rfl u1 (zI u1 34 8)) (ceG_M205 ca D) (ceO_75 ca D) rfl (by omega) rfl rfl (Nat.le_of_ble_eq_true rfl) ⟨by decide +kernel, rfl⟩ (fun r2 u3 => ?_)
  refine z_istore_n (pc' := 22) (k := 2) (i := 2) rfl (by decide) rfl ⟨by decide +kernel, rfl⟩ ?_
  refine z_aload_n (pc' := 23) (k := 0) (i := 0) 1 rfl rfl ⟨by decide +kernel, rfl⟩ ?_
  refine z_getR (pc' := 26) (cef_M48_34 ca D) rfl (y := a 75) rfl ⟨by decide +kernel, rfl⟩ ?_
  refine z_aload_n (pc' := 27) (k := 0) (i := 0) 1 rfl rfl ⟨by decide +kernel, rfl⟩ ?_
  refine z_getI (pc' := 30) (cef_M72_34 ca D) rfl ⟨by decide +kernel, rfl⟩ ?_
  refine z_callVf (pc' := 33) 75 (cet_V_numberAt n 75 rfl u3 (zI u3 34 8)) (ceG_M209 ca D) (ceO_75 ca D) rfl (by omega) rfl rfl (Nat.le_of_ble_eq_true rfl) ⟨by decide +kernel, rfl⟩ (fun r4 u5 => ?_)
  refine z_l2i (pc' := 34) ⟨by decide +kernel, rfl⟩ ?_
  refine z_letI fun v6 => ?_
  refine z_istore_n (pc' := 35) (k := 3) (i := 3) rfl (by decide) rfl ⟨by decide +kernel, rfl⟩ ?_
  refine z_iload_n (pc' := 36) (k := 2) (i := 2) 1 rfl rfl ⟨by decide +kernel, rfl⟩ ?_
  refine z_iconst (pc' := 37) (n := 4) (v := 4) (by decide) ⟨by decide +kernel, rfl⟩ ?_
  refine z_icmp_ne (pc' := 40) (tgt := 69) (off := 32) ⟨by decide +kernel, rfl⟩ rfl (fun h7 => ?_) (fun h7 => ?_)
  · refine z_aload_n (pc' := 41) (k := 0) (i := 0) 2 rfl rfl ⟨by decide +kernel, rfl⟩ ?_
    refine z_getR (pc' := 44) (cef_M21_34 ca D) rfl (y := a 45) rfl ⟨by decide +kernel, rfl⟩ ?_
    refine z_iload_n (pc' := 45) (k := 3) (i := 3) 0 rfl rfl ⟨by decide +kernel, rfl⟩ ?_
    refine z_callVf (pc' := 48) 45 (cet_R_isRow n u5 v6) (ceG_M328 ca D) (ceO_45 ca D) rfl (by omega) rfl rfl (Nat.le_of_ble_eq_true rfl) ⟨by decide +kernel, rfl⟩ (fun r8 u9 => ?_)
    refine z_if_eq (pc' := 51) (tgt := 69) (off := 21) ⟨by decide +kernel, rfl⟩ rfl (fun h10 => ?_) (fun h10 => ?_)
    · refine z_lv [2, 3, 1, 0] (lv' := [(0, .ref (a 34)), (1, .int x1), (2, .int r2), (3, .int v6)]) rfl ?_
      exact ce_M_measure_J69_t n g u9 x1 r2 v6
    · refine z_aload_n (pc' := 52) (k := 0) (i := 0) 2 rfl rfl ⟨by decide +kernel, rfl⟩ ?_
      refine z_iconst (pc' := 53) (n := 1) (v := 1) (by decide) ⟨by decide +kernel, rfl⟩ ?_
      refine z_aload_n (pc' := 54) (k := 0) (i := 0) 2 rfl rfl ⟨by decide +kernel, rfl⟩ ?_
      refine z_getR (pc' := 57) (cef_M21_34 ca D) rfl (y := a 45) rfl ⟨by decide +kernel, rfl⟩ ?_
      refine z_getR (pc' := 60) (cef_M331_45 ca D) rfl (y := a 47) rfl ⟨by decide +kernel, rfl⟩ ?_
      refine z_iload_n (pc' := 61) (k := 3) (i := 3) 0 rfl rfl ⟨by decide +kernel, rfl⟩ ?_
      refine z_iald (pc' := 62) 47 rfl (zlt rfl) rfl rfl ⟨by decide +kernel, rfl⟩ ?_
      refine z_i2l (pc' := 63) ⟨by decide +kernel, rfl⟩ ?_
      refine z_callV (pc' := 66) 34 (cet_M_push n u9 1 ((zI u9 47 (zx v6)).toInt64)) (ceG_M133 ca D) (ceO_34 ca D) rfl (fun h => by cases h) (by omega) rfl rfl (Nat.le_of_ble_eq_true rfl) ⟨by decide +kernel, rfl⟩ (fun _ u13 g11 _ => ?_)
      refine z_goto (tgt := 109) (off := 43) (by decide +kernel) rfl ?_
      exact z_vret (pc' := 110) ⟨by decide +kernel, rfl⟩
  · refine z_lv [2, 3, 1, 0] (lv' := [(0, .ref (a 34)), (1, .int x1), (2, .int r2), (3, .int v6)]) rfl ?_
    exact ce_M_measure_J69_t n g u5 x1 r2 v6
set_option maxRecDepth 20000 in
set_option maxHeartbeats 4000000 in
theorem ce_T_guessShapes_L14_t {κ : zKx} {ca : Nat → ClassId} {D : va_G} {A : Nat → Prop} {c0 : Nat × Nat} {a g0 g : Nat → Nat} (n : Nat) : ∀ (m : Nat) (u : zMu) (x1 : Int32) (x2 : Int32), zJ κ (zCe ca D) prog_10_method_15_code 3 ce_RT none zrv true 0 A c0 a g0 g u 14 [(0, .ref (a 49)), (1, .int x1), (2, .int x2)] [] (ce_T_guessShapes_L14 n m u x1 x2) := by
  intro m
  induction m with
  | zero => intro u x1 x2 r u' h; cases h
  | succ m ih =>
    intro u x1 x2
    unfold ce_T_guessShapes_L14
    refine z_iload_n (pc' := 15) (k := 2) (i := 2) 2 rfl rfl ⟨by decide +kernel, rfl⟩ ?_
    refine z_aload_n (pc' := 16) (k := 0) (i := 0) 0 rfl rfl ⟨by decide +kernel, rfl⟩ ?_
    refine z_getR (pc' := 19) (cef_T18_49 ca D) rfl (y := a 52) rfl ⟨by decide +kernel, rfl⟩ ?_
    refine z_iload_n (pc' := 20) (k := 1) (i := 1) 1 rfl rfl ⟨by decide +kernel, rfl⟩ ?_
    refine z_iald (pc' := 21) 52 rfl (zlt rfl) rfl rfl ⟨by decide +kernel, rfl⟩ ?_
    refine z_icmp_ge (pc' := 24) (tgt := 50) (off := 29) ⟨by decide +kernel, rfl⟩ rfl (fun h1 => ?_) (fun h1 => ?_)
    · refine z_aload_n (pc' := 25) (k := 0) (i := 0) 0 rfl rfl ⟨by decide +kernel, rfl⟩ ?_
      refine z_getR (pc' := 28) (cef_T33_49 ca D) rfl (y := a 57) rfl ⟨by decide +kernel, rfl⟩ ?_
      refine z_iload_n (pc' := 29) (k := 1) (i := 1) 1 rfl rfl ⟨by decide +kernel, rfl⟩ ?_
      refine z_iconst (pc' := 30) (n := 4) (v := 4) (by decide) ⟨by decide +kernel, rfl⟩ ?_
      refine z_imul (pc' := 31) ⟨by decide +kernel, rfl⟩ ?_
      refine z_iload_n (pc' := 32) (k := 2) (i := 2) 2 rfl rfl ⟨by decide +kernel, rfl⟩ ?_
      refine z_iadd (pc' := 33) ⟨by decide +kernel, rfl⟩ ?_
      refine z_aload_n (pc' := 34) (k := 0) (i := 0) 0 rfl rfl ⟨by decide +kernel, rfl⟩ ?_
      refine z_getR (pc' := 37) (cef_T27_49 ca D) rfl (y := a 55) rfl ⟨by decide +kernel, rfl⟩ ?_
      refine z_iload_n (pc' := 38) (k := 1) (i := 1) 1 rfl rfl ⟨by decide +kernel, rfl⟩ ?_
      refine z_iconst (pc' := 39) (n := 4) (v := 4) (by decide) ⟨by decide +kernel, rfl⟩ ?_
      refine z_imul (pc' := 40) ⟨by decide +kernel, rfl⟩ ?_
      refine z_iload_n (pc' := 41) (k := 2) (i := 2) 2 rfl rfl ⟨by decide +kernel, rfl⟩ ?_
      refine z_iadd (pc' := 42) ⟨by decide +kernel, rfl⟩ ?_
      refine z_iald (pc' := 43) 55 rfl (zlt rfl) rfl rfl ⟨by decide +kernel, rfl⟩ ?_
      refine z_iast (pc' := 44) 57 rfl (zlt rfl) rfl rfl ⟨by decide +kernel, rfl⟩ (z_letU fun u2 => ?_)
      refine z_iincN (pc' := 47) (i := 2) (n := 1) (c := 1) 2 rfl (by decide) (by decide) rfl ⟨by decide +kernel, rfl⟩ fun v3 => ?_
      refine z_goto (tgt := 14) (off := -33) (by decide +kernel) rfl ?_
      refine z_lv [1, 2, 0] (lv' := [(0, .ref (a 49)), (1, .int x1), (2, .int v3)]) rfl ?_
      exact ih u2 x1 v3
    · exact z_vret (pc' := 51) ⟨by decide +kernel, rfl⟩
set_option maxRecDepth 20000 in
set_option maxHeartbeats 4000000 in
theorem cet_T_guessShapes {l : Launch} {ca : Nat → ClassId} {D : va_G} {a g : Nat → Nat} (n : Nat) (u : zMu) (x1 : Int32) : zMet l (zCe ca D) ceY_T_guessShapes (.code ceY_T_guessShapes prog_10_method_15_code 3 none) zrv true 0 a g [.ref (a 49), .int x1] u (ce_T_guessShapes n u x1) := by
  refine zMet.of rfl (Nat.le_of_ble_eq_true rfl) fun κ A hl => ?_
  subst hl
  unfold ce_T_guessShapes
  refine z_aload_n (pc' := 1) (k := 0) (i := 0) 0 rfl rfl ⟨by decide +kernel, rfl⟩ ?_
  refine z_getR (pc' := 4) (cef_T36_49 ca D) rfl (y := a 58) rfl ⟨by decide +kernel, rfl⟩ ?_
  refine z_iload_n (pc' := 5) (k := 1) (i := 1) 1 rfl rfl ⟨by decide +kernel, rfl⟩ ?_
  refine z_aload_n (pc' := 6) (k := 0) (i := 0) 0 rfl rfl ⟨by decide +kernel, rfl⟩ ?_
  refine z_getR (pc' := 9) (cef_T18_49 ca D) rfl (y := a 52) rfl ⟨by decide +kernel, rfl⟩ ?_
  refine z_iload_n (pc' := 10) (k := 1) (i := 1) 1 rfl rfl ⟨by decide +kernel, rfl⟩ ?_
  refine z_iald (pc' := 11) 52 rfl (zlt rfl) rfl rfl ⟨by decide +kernel, rfl⟩ ?_
  refine z_iast (pc' := 12) 58 rfl (zlt rfl) rfl rfl ⟨by decide +kernel, rfl⟩ (z_letU fun u1 => ?_)
  refine z_iconst (pc' := 13) (n := 0) (v := 0) (by decide) ⟨by decide +kernel, rfl⟩ ?_
  refine z_istore_n (pc' := 14) (k := 2) (i := 2) rfl (by decide) rfl ⟨by decide +kernel, rfl⟩ ?_
  refine z_lv [1, 2, 0] (lv' := [(0, .ref (a 49)), (1, .int x1), (2, .int 0)]) rfl ?_
  exact ce_T_guessShapes_L14_t n n u1 x1 0
set_option maxRecDepth 20000 in
set_option maxHeartbeats 4000000 in
theorem ce_T_takeGuesses_L2_t {κ : zKx} {ca : Nat → ClassId} {D : va_G} {A : Nat → Prop} {c0 : Nat × Nat} {a g0 g : Nat → Nat} (n : Nat) (p1 : Nat) (hp1 : zpr p1 = true) : ∀ (m : Nat) (u : zMu) (x2 : Int32) (x3 : Int32), zJ κ (zCe ca D) prog_10_method_14_code 4 ce_RT none zrv true 1 A c0 a g0 g u 2 [(0, .ref (a 49)), (1, .ref (a p1)), (2, .int x2), (3, .int x3)] [] (ce_T_takeGuesses_L2 n p1 m u x2 x3) := by
  intro m
  induction m with
  | zero => intro u x2 x3 r u' h; cases h
  | succ m ih =>
    intro u x2 x3
    unfold ce_T_takeGuesses_L2
    refine z_iload_n (pc' := 3) (k := 3) (i := 3) 3 rfl rfl ⟨by decide +kernel, rfl⟩ ?_
    refine z_aload_n (pc' := 4) (k := 1) (i := 1) 1 rfl rfl ⟨by decide +kernel, rfl⟩ ?_
    refine z_getI (pc' := 7) (cef_T87_P ca D hp1) (ce_adP0 hp1) ⟨by decide +kernel, rfl⟩ ?_
    refine z_icmp_ge (pc' := 10) (tgt := 77) (off := 70) ⟨by decide +kernel, rfl⟩ rfl (fun h1 => ?_) (fun h1 => ?_)
    · refine z_aload_n (pc' := 11) (k := 1) (i := 1) 1 rfl rfl ⟨by decide +kernel, rfl⟩ ?_
      refine z_getR (pc' := 14) (cef_T92_P ca D hp1) (ce_adP0 hp1) (y := a (p1 + 6)) (ce_frP6 hp1) ⟨by decide +kernel, rfl⟩ ?_
      refine z_iload_n (pc' := 15) (k := 3) (i := 3) 3 rfl rfl ⟨by decide +kernel, rfl⟩ ?_
      refine z_iald (pc' := 16) (p1 + 6) (ce_ckP6 hp1) (ce_clP6 hp1) (ce_cnP6 hp1) (ce_adP6 hp1) ⟨by decide +kernel, rfl⟩ ?_
      refine z_iload_n (pc' := 17) (k := 2) (i := 2) 2 rfl rfl ⟨by decide +kernel, rfl⟩ ?_
      refine z_icmp_eq (pc' := 20) (tgt := 23) (off := 6) ⟨by decide +kernel, rfl⟩ rfl (fun h2 => ?_) (fun h2 => ?_)
      · refine z_aload_n (pc' := 24) (k := 1) (i := 1) 1 rfl rfl ⟨by decide +kernel, rfl⟩ ?_
        refine z_getR (pc' := 27) (cef_T95_P ca D hp1) (ce_adP0 hp1) (y := a (p1 + 4)) (ce_frP4 hp1) ⟨by decide +kernel, rfl⟩ ?_
        refine z_iload_n (pc' := 28) (k := 3) (i := 3) 3 rfl rfl ⟨by decide +kernel, rfl⟩ ?_
        refine z_iald (pc' := 29) (p1 + 4) (ce_ckP4 hp1) (ce_clP4 hp1) (ce_cnP4 hp1) (ce_adP4 hp1) ⟨by decide +kernel, rfl⟩ ?_
        refine z_if_ne (pc' := 32) (tgt := 40) (off := 11) ⟨by decide +kernel, rfl⟩ rfl (fun h3 => ?_) (fun h3 => ?_)
        · refine z_aload_n (pc' := 33) (k := 0) (i := 0) 0 rfl rfl ⟨by decide +kernel, rfl⟩ ?_
          refine z_iload_n (pc' := 34) (k := 3) (i := 3) 3 rfl rfl ⟨by decide +kernel, rfl⟩ ?_
          refine z_callVf (pc' := 37) 49 (cet_T_guessShapes n u x3) (ceG_T98 ca D) (ceO_49 ca D) rfl (by omega) rfl rfl (Nat.le_of_ble_eq_true rfl) ⟨by decide +kernel, rfl⟩ (fun _ u5 => ?_)
          refine z_goto (tgt := 71) (off := 34) (by decide +kernel) rfl ?_
          refine z_iincN (pc' := 74) (i := 3) (n := 1) (c := 1) 3 rfl (by decide) (by decide) rfl ⟨by decide +kernel, rfl⟩ fun v6 => ?_
          refine z_goto (tgt := 2) (off := -72) (by decide +kernel) rfl ?_
          refine z_lv [1, 2, 3, 0] (lv' := [(0, .ref (a 49)), (1, .ref (a p1)), (2, .int x2), (3, .int v6)]) rfl ?_
          exact ih u5 x2 v6
        · refine z_aload_n (pc' := 41) (k := 1) (i := 1) 1 rfl rfl ⟨by decide +kernel, rfl⟩ ?_
          refine z_getR (pc' := 44) (cef_T95_P ca D hp1) (ce_adP0 hp1) (y := a (p1 + 4)) (ce_frP4 hp1) ⟨by decide +kernel, rfl⟩ ?_
          refine z_iload_n (pc' := 45) (k := 3) (i := 3) 3 rfl rfl ⟨by decide +kernel, rfl⟩ ?_
          refine z_iald (pc' := 46) (p1 + 4) (ce_ckP4 hp1) (ce_clP4 hp1) (ce_cnP4 hp1) (ce_adP4 hp1) ⟨by decide +kernel, rfl⟩ ?_
          refine z_iconst (pc' := 47) (n := 3) (v := 3) (by decide) ⟨by decide +kernel, rfl⟩ ?_
          refine z_icmp_ne (pc' := 50) (tgt := 71) (off := 24) ⟨by decide +kernel, rfl⟩ rfl (fun h7 => ?_) (fun h7 => ?_)
          · refine z_aload_n (pc' := 51) (k := 0) (i := 0) 0 rfl rfl ⟨by decide +kernel, rfl⟩ ?_
            refine z_getR (pc' := 54) (cef_T36_49 ca D) rfl (y := a 58) rfl ⟨by decide +kernel, rfl⟩ ?_
            refine z_iload_n (pc' := 55) (k := 3) (i := 3) 3 rfl rfl ⟨by decide +kernel, rfl⟩ ?_
            refine z_aload_n (pc' := 56) (k := 0) (i := 0) 0 rfl rfl ⟨by decide +kernel, rfl⟩ ?_
            refine z_getR (pc' := 59) (cef_T24_49 ca D) rfl (y := a 54) rfl ⟨by decide +kernel, rfl⟩ ?_
            refine z_iload_n (pc' := 60) (k := 3) (i := 3) 3 rfl rfl ⟨by decide +kernel, rfl⟩ ?_
            refine z_iald (pc' := 61) 54 rfl (zlt rfl) rfl rfl ⟨by decide +kernel, rfl⟩ ?_
            refine z_iconst (pc' := 62) (n := 1) (v := 1) (by decide) ⟨by decide +kernel, rfl⟩ ?_
            refine z_icmp_ne (pc' := 65) (tgt := 69) (off := 7) ⟨by decide +kernel, rfl⟩ rfl (fun h8 => ?_) (fun h8 => ?_)
            · refine z_iconst (pc' := 66) (n := 1) (v := 1) (by decide) ⟨by decide +kernel, rfl⟩ ?_
              refine z_goto (tgt := 70) (off := 4) (by decide +kernel) rfl ?_
              refine z_iast (pc' := 71) 58 rfl (zlt rfl) rfl rfl ⟨by decide +kernel, rfl⟩ (z_letU fun u9 => ?_)
              refine z_iincN (pc' := 74) (i := 3) (n := 1) (c := 1) 3 rfl (by decide) (by decide) rfl ⟨by decide +kernel, rfl⟩ fun v10 => ?_
              refine z_goto (tgt := 2) (off := -72) (by decide +kernel) rfl ?_
              refine z_lv [1, 2, 3, 0] (lv' := [(0, .ref (a 49)), (1, .ref (a p1)), (2, .int x2), (3, .int v10)]) rfl ?_
              exact ih u9 x2 v10
            · refine z_iconst (pc' := 70) (n := 0) (v := 0) (by decide) ⟨by decide +kernel, rfl⟩ ?_
              refine z_iast (pc' := 71) 58 rfl (zlt rfl) rfl rfl ⟨by decide +kernel, rfl⟩ (z_letU fun u11 => ?_)
              refine z_iincN (pc' := 74) (i := 3) (n := 1) (c := 1) 3 rfl (by decide) (by decide) rfl ⟨by decide +kernel, rfl⟩ fun v12 => ?_
              refine z_goto (tgt := 2) (off := -72) (by decide +kernel) rfl ?_
              refine z_lv [1, 2, 3, 0] (lv' := [(0, .ref (a 49)), (1, .ref (a p1)), (2, .int x2), (3, .int v12)]) rfl ?_
              exact ih u11 x2 v12
          · refine z_iincN (pc' := 74) (i := 3) (n := 1) (c := 1) 3 rfl (by decide) (by decide) rfl ⟨by decide +kernel, rfl⟩ fun v13 => ?_
            refine z_goto (tgt := 2) (off := -72) (by decide +kernel) rfl ?_
            refine z_lv [1, 2, 3, 0] (lv' := [(0, .ref (a 49)), (1, .ref (a p1)), (2, .int x2), (3, .int v13)]) rfl ?_
            exact ih u x2 v13
      · refine z_goto (tgt := 71) (off := 51) (by decide +kernel) rfl ?_
        refine z_iincN (pc' := 74) (i := 3) (n := 1) (c := 1) 3 rfl (by decide) (by decide) rfl ⟨by decide +kernel, rfl⟩ fun v14 => ?_
        refine z_goto (tgt := 2) (off := -72) (by decide +kernel) rfl ?_
        refine z_lv [1, 2, 3, 0] (lv' := [(0, .ref (a 49)), (1, .ref (a p1)), (2, .int x2), (3, .int v14)]) rfl ?_
        exact ih u x2 v14
    · exact z_vret (pc' := 78) ⟨by decide +kernel, rfl⟩
set_option maxRecDepth 20000 in
set_option maxHeartbeats 4000000 in
theorem cet_T_takeGuesses {l : Launch} {ca : Nat → ClassId} {D : va_G} {a g : Nat → Nat} (n : Nat) (p1 : Nat) (hp1 : zpr p1 = true) (u : zMu) (x2 : Int32) : zMet l (zCe ca D) ceY_T_takeGuesses (.code ceY_T_takeGuesses prog_10_method_14_code 4 none) zrv true 1 a g [.ref (a 49), .ref (a p1), .int x2] u (ce_T_takeGuesses n p1 u x2) := by
  refine zMet.of rfl (Nat.le_of_ble_eq_true rfl) fun κ A hl => ?_
  subst hl
  unfold ce_T_takeGuesses
  refine z_iconst (pc' := 1) (n := 0) (v := 0) (by decide) ⟨by decide +kernel, rfl⟩ ?_
  refine z_istore_n (pc' := 2) (k := 3) (i := 3) rfl (by decide) rfl ⟨by decide +kernel, rfl⟩ ?_
  refine z_lv [1, 2, 3, 0] (lv' := [(0, .ref (a 49)), (1, .ref (a p1)), (2, .int x2), (3, .int 0)]) rfl ?_
  exact ce_T_takeGuesses_L2_t n p1 hp1 n u x2 0
