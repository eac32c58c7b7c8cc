/-! the class's methods meet their models (printed by wip/gen/cls.py) -/
set_option maxRecDepth 20000 in
set_option maxHeartbeats 4000000 in
theorem cet_S_rootOf {l : Launch} {ca : Nat → ClassId} {D : va_G} {a g : Nat → Nat} (n : Nat) (u : zMu) (x1 : Int32) : zMet l (zCe ca D) ceY_S_rootOf (.code ceY_S_rootOf prog_9_method_6_code 2 (some .int)) zri false 4 a g [.ref (a 43), .int x1] u (ce_S_rootOf n u x1) := by
  refine zMet.of rfl (Nat.le_of_ble_eq_true rfl) fun κ A hl => ?_
  subst hl
  unfold ce_S_rootOf
  refine z_iload_n (pc' := 1) (k := 1) (i := 1) 1 rfl rfl ⟨by decide +kernel, rfl⟩ ?_
  refine z_iconst (pc' := 2) (n := (-1)) (v := (-1)) (by decide) ⟨by decide +kernel, rfl⟩ ?_
  refine z_icmp_lt (pc' := 5) (tgt := 12) (off := 10) ⟨by decide +kernel, rfl⟩ rfl (fun h1 => ?_) (fun h1 => ?_)
  · refine z_iconst (pc' := 13) (n := (-1)) (v := (-1)) (by decide) ⟨by decide +kernel, rfl⟩ ?_
    exact z_iret (pc' := 14) ⟨by decide +kernel, rfl⟩
  · refine z_iload_n (pc' := 6) (k := 1) (i := 1) 1 rfl rfl ⟨by decide +kernel, rfl⟩ ?_
    refine z_sipush (pc' := 9) (n := 200) (v := 200) (by decide) ⟨by decide +kernel, rfl⟩ ?_
    refine z_icmp_lt (pc' := 12) (tgt := 14) (off := 5) ⟨by decide +kernel, rfl⟩ rfl (fun h2 => ?_) (fun h2 => ?_)
    · refine z_aload_n (pc' := 15) (k := 0) (i := 0) 0 rfl rfl ⟨by decide +kernel, rfl⟩ ?_
      refine z_getR (pc' := 18) (cef_S9_43 ca D) rfl (y := a 44) rfl ⟨by decide +kernel, rfl⟩ ?_
      refine z_iload_n (pc' := 19) (k := 1) (i := 1) 1 rfl rfl ⟨by decide +kernel, rfl⟩ ?_
      refine z_iconst (pc' := 20) (n := 1) (v := 1) (by decide) ⟨by decide +kernel, rfl⟩ ?_
      refine z_iadd (pc' := 21) ⟨by decide +kernel, rfl⟩ ?_
      refine z_iald (pc' := 22) 44 rfl (zlt rfl) rfl rfl ⟨by decide +kernel, rfl⟩ ?_
      refine z_iconst (pc' := 23) (n := (-1)) (v := (-1)) (by decide) ⟨by decide +kernel, rfl⟩ ?_
      refine z_icmp_ne (pc' := 26) (tgt := 41) (off := 18) ⟨by decide +kernel, rfl⟩ rfl (fun h3 => ?_) (fun h3 => ?_)
      · refine z_aload_n (pc' := 27) (k := 0) (i := 0) 0 rfl rfl ⟨by decide +kernel, rfl⟩ ?_
        refine z_getR (pc' := 30) (cef_S9_43 ca D) rfl (y := a 44) rfl ⟨by decide +kernel, rfl⟩ ?_
        refine z_iload_n (pc' := 31) (k := 1) (i := 1) 1 rfl rfl ⟨by decide +kernel, rfl⟩ ?_
        refine z_iconst (pc' := 32) (n := 1) (v := 1) (by decide) ⟨by decide +kernel, rfl⟩ ?_
        refine z_iadd (pc' := 33) ⟨by decide +kernel, rfl⟩ ?_
        refine z_aload_n (pc' := 34) (k := 0) (i := 0) 0 rfl rfl ⟨by decide +kernel, rfl⟩ ?_
        refine z_iload_n (pc' := 35) (k := 1) (i := 1) 1 rfl rfl ⟨by decide +kernel, rfl⟩ ?_
        refine z_iconst (pc' := 36) (n := (-1)) (v := (-1)) (by decide) ⟨by decide +kernel, rfl⟩ ?_
        refine z_lconst (pc' := 37) (n := 0) (v := 0) (by decide) ⟨by decide +kernel, rfl⟩ ?_
        refine z_callV (pc' := 40) 43 (cet_S_add n u x1 (-1) 0) (ceG_S51 ca D) (ceO_43 ca D) rfl (fun h => by cases h) (by omega) rfl rfl (Nat.le_of_ble_eq_true rfl) ⟨by decide +kernel, rfl⟩ (fun r5 u6 g4 _ => ?_)
        refine z_iast (pc' := 41) 44 rfl (zlt rfl) rfl rfl ⟨by decide +kernel, rfl⟩ (z_letU fun u7 => ?_)
        refine z_aload_n (pc' := 42) (k := 0) (i := 0) 0 rfl rfl ⟨by decide +kernel, rfl⟩ ?_
        refine z_getR (pc' := 45) (cef_S9_43 ca D) rfl (y := a 44) rfl ⟨by decide +kernel, rfl⟩ ?_
        refine z_iload_n (pc' := 46) (k := 1) (i := 1) 1 rfl rfl ⟨by decide +kernel, rfl⟩ ?_
        refine z_iconst (pc' := 47) (n := 1) (v := 1) (by decide) ⟨by decide +kernel, rfl⟩ ?_
        refine z_iadd (pc' := 48) ⟨by decide +kernel, rfl⟩ ?_
        refine z_iald (pc' := 49) 44 rfl (zlt rfl) rfl rfl ⟨by decide +kernel, rfl⟩ ?_
        exact z_iret (pc' := 50) ⟨by decide +kernel, rfl⟩
      · refine z_aload_n (pc' := 42) (k := 0) (i := 0) 0 rfl rfl ⟨by decide +kernel, rfl⟩ ?_
        refine z_getR (pc' := 45) (cef_S9_43 ca D) rfl (y := a 44) rfl ⟨by decide +kernel, rfl⟩ ?_
        refine z_iload_n (pc' := 46) (k := 1) (i := 1) 1 rfl rfl ⟨by decide +kernel, rfl⟩ ?_
        refine z_iconst (pc' := 47) (n := 1) (v := 1) (by decide) ⟨by decide +kernel, rfl⟩ ?_
        refine z_iadd (pc' := 48) ⟨by decide +kernel, rfl⟩ ?_
        refine z_iald (pc' := 49) 44 rfl (zlt rfl) rfl rfl ⟨by decide +kernel, rfl⟩ ?_
        exact z_iret (pc' := 50) ⟨by decide +kernel, rfl⟩
    · refine z_iconst (pc' := 13) (n := (-1)) (v := (-1)) (by decide) ⟨by decide +kernel, rfl⟩ ?_
      exact z_iret (pc' := 14) ⟨by decide +kernel, rfl⟩
set_option maxRecDepth 20000 in
set_option maxHeartbeats 4000000 in
theorem ce_H_addObject_L79_t {κ : zKx} {ca : Nat → ClassId} {D : va_G} {A : Nat → Prop} {c0 : Nat × Nat} {a g0 : Nat → Nat} (n : Nat) : ∀ (m : Nat) (g : Nat → Nat) (u : zMu) (x1 : Int32) (x2 : Int32) (x3 : Int32), zJ κ (zCe ca D) prog_4_method_4_code 4 ce_RH (some .int) zri false 5 A c0 a g0 g u 79 [(0, .ref (a 36)), (1, .int x1), (2, .int x2), (3, .int x3)] [] (ce_H_addObject_L79 n m u x1 x2 x3) := by
  intro m
  induction m with
  | zero => intro g u x1 x2 x3 r u' h; cases h
  | succ m ih =>
    intro g u x1 x2 x3
    unfold ce_H_addObject_L79
    refine z_iload_n (pc' := 80) (k := 3) (i := 3) 3 rfl rfl ⟨by decide +kernel, rfl⟩ ?_
    refine z_iconst (pc' := 81) (n := 4) (v := 4) (by decide) ⟨by decide +kernel, rfl⟩ ?_
    refine z_icmp_ge (pc' := 84) (tgt := 118) (off := 37) ⟨by decide +kernel, rfl⟩ rfl (fun h1 => ?_) (fun h1 => ?_)
    · refine z_aload_n (pc' := 85) (k := 0) (i := 0) 0 rfl rfl ⟨by decide +kernel, rfl⟩ ?_
      refine z_getR (pc' := 88) (cef_H34_36 ca D) rfl (y := a 42) rfl ⟨by decide +kernel, rfl⟩ ?_
      refine z_iload_n (pc' := 89) (k := 2) (i := 2) 2 rfl rfl ⟨by decide +kernel, rfl⟩ ?_
      refine z_iconst (pc' := 90) (n := 4) (v := 4) (by decide) ⟨by decide +kernel, rfl⟩ ?_
      refine z_imul (pc' := 91) ⟨by decide +kernel, rfl⟩ ?_
      refine z_iload_n (pc' := 92) (k := 3) (i := 3) 3 rfl rfl ⟨by decide +kernel, rfl⟩ ?_
      refine z_iadd (pc' := 93) ⟨by decide +kernel, rfl⟩ ?_
      refine z_iload_n (pc' := 94) (k := 1) (i := 1) 1 rfl rfl ⟨by decide +kernel, rfl⟩ ?_
      refine z_if_ge (pc' := 97) (tgt := 101) (off := 7) ⟨by decide +kernel, rfl⟩ rfl (fun h2 => ?_) (fun h2 => ?_)
      · refine z_lconst (pc' := 98) (n := 0) (v := 0) (by decide) ⟨by decide +kernel, rfl⟩ ?_
        refine z_goto (tgt := 111) (off := 13) (by decide +kernel) rfl ?_
        refine z_last (pc' := 112) 42 rfl (zlt rfl) rfl rfl ⟨by decide +kernel, rfl⟩ (z_letU fun u3 => ?_)
        refine z_iincN (pc' := 115) (i := 3) (n := 1) (c := 1) 3 rfl (by decide) (by decide) rfl ⟨by decide +kernel, rfl⟩ fun v4 => ?_
        refine z_goto (tgt := 79) (off := -36) (by decide +kernel) rfl ?_
        refine z_lv [1, 2, 3, 0] (lv' := [(0, .ref (a 36)), (1, .int x1), (2, .int x2), (3, .int v4)]) rfl ?_
        exact ih g u3 x1 x2 v4
      · refine z_aload_n (pc' := 102) (k := 0) (i := 0) 0 rfl rfl ⟨by decide +kernel, rfl⟩ ?_
        refine z_getR (pc' := 105) (cef_H34_36 ca D) rfl (y := a 42) rfl ⟨by decide +kernel, rfl⟩ ?_
        refine z_iload_n (pc' := 106) (k := 1) (i := 1) 1 rfl rfl ⟨by decide +kernel, rfl⟩ ?_
        refine z_iconst (pc' := 107) (n := 4) (v := 4) (by decide) ⟨by decide +kernel, rfl⟩ ?_
        refine z_imul (pc' := 108) ⟨by decide +kernel, rfl⟩ ?_
        refine z_iload_n (pc' := 109) (k := 3) (i := 3) 3 rfl rfl ⟨by decide +kernel, rfl⟩ ?_
        refine z_iadd (pc' := 110) ⟨by decide +kernel, rfl⟩ ?_
        refine z_lald (pc' := 111) 42 rfl (zlt rfl) rfl rfl ⟨by decide +kernel, rfl⟩ ?_
        refine z_last (pc' := 112) 42 rfl (zlt rfl) rfl rfl ⟨by decide +kernel, rfl⟩ (z_letU fun u5 => ?_)
        refine z_iincN (pc' := 115) (i := 3) (n := 1) (c := 1) 3 rfl (by decide) (by decide) rfl ⟨by decide +kernel, rfl⟩ fun v6 => ?_
        refine z_goto (tgt := 79) (off := -36) (by decide +kernel) rfl ?_
        refine z_lv [1, 2, 3, 0] (lv' := [(0, .ref (a 36)), (1, .int x1), (2, .int x2), (3, .int v6)]) rfl ?_
        exact ih g u5 x1 x2 v6
    · refine z_aload_n (pc' := 119) (k := 0) (i := 0) 0 rfl rfl ⟨by decide +kernel, rfl⟩ ?_
      refine z_getR (pc' := 122) (cef_H34_36 ca D) rfl (y := a 42) rfl ⟨by decide +kernel, rfl⟩ ?_
      refine z_iload_n (pc' := 123) (k := 2) (i := 2) 2 rfl rfl ⟨by decide +kernel, rfl⟩ ?_
      refine z_iconst (pc' := 124) (n := 4) (v := 4) (by decide) ⟨by decide +kernel, rfl⟩ ?_
      refine z_imul (pc' := 125) ⟨by decide +kernel, rfl⟩ ?_
      refine z_iload_n (pc' := 126) (k := 2) (i := 2) 2 rfl rfl ⟨by decide +kernel, rfl⟩ ?_
      refine z_bipush (pc' := 128) (n := 64) (v := 64) (by decide) ⟨by decide +kernel, rfl⟩ ?_
      refine z_idiv (pc' := 129) (by decide) ⟨by decide +kernel, rfl⟩ ?_
      refine z_iadd (pc' := 130) ⟨by decide +kernel, rfl⟩ ?_
      refine z_letI fun v7 => ?_
      refine z_dup2_11 (pc' := 131) rfl rfl ⟨by decide +kernel, rfl⟩ ?_
      refine z_lald (pc' := 132) 42 rfl (zlt rfl) rfl rfl ⟨by decide +kernel, rfl⟩ ?_
      refine z_lconst (pc' := 133) (n := 1) (v := 1) (by decide) ⟨by decide +kernel, rfl⟩ ?_
      refine z_iload_n (pc' := 134) (k := 2) (i := 2) 2 rfl rfl ⟨by decide +kernel, rfl⟩ ?_
      refine z_bipush (pc' := 136) (n := 64) (v := 64) (by decide) ⟨by decide +kernel, rfl⟩ ?_
      refine z_irem (pc' := 137) (by decide) ⟨by decide +kernel, rfl⟩ ?_
      refine z_lshl (pc' := 138) ⟨by decide +kernel, rfl⟩ ?_
      refine z_lor (pc' := 139) ⟨by decide +kernel, rfl⟩ ?_
      refine z_last (pc' := 140) 42 rfl (zlt rfl) rfl rfl ⟨by decide +kernel, rfl⟩ (z_letU fun u8 => ?_)
      refine z_iload_n (pc' := 141) (k := 2) (i := 2) 2 rfl rfl ⟨by decide +kernel, rfl⟩ ?_
      exact z_iret (pc' := 142) ⟨by decide +kernel, rfl⟩
set_option maxRecDepth 20000 in
set_option maxHeartbeats 4000000 in
theorem cet_H_addObject {l : Launch} {ca : Nat → ClassId} {D : va_G} {a g : Nat → Nat} (n : Nat) (u : zMu) (x1 : Int32) : zMet l (zCe ca D) ceY_H_addObject (.code ceY_H_addObject prog_4_method_4_code 4 (some .int)) zri false 5 a g [.ref (a 36), .int x1] u (ce_H_addObject n u x1) := by
  refine zMet.of rfl (Nat.le_of_ble_eq_true rfl) fun κ A hl => ?_
  subst hl
  unfold ce_H_addObject
  refine z_aload_n (pc' := 1) (k := 0) (i := 0) 0 rfl rfl ⟨by decide +kernel, rfl⟩ ?_
  refine z_getI (pc' := 4) (cef_H56_36 ca D) rfl ⟨by decide +kernel, rfl⟩ ?_
  refine z_sipush (pc' := 7) (n := 200) (v := 200) (by decide) ⟨by decide +kernel, rfl⟩ ?_
  refine z_icmp_ge (pc' := 10) (tgt := 18) (off := 11) ⟨by decide +kernel, rfl⟩ rfl (fun h1 => ?_) (fun h1 => ?_)
  · refine z_iload_n (pc' := 11) (k := 1) (i := 1) 1 rfl rfl ⟨by decide +kernel, rfl⟩ ?_
    refine z_aload_n (pc' := 12) (k := 0) (i := 0) 0 rfl rfl ⟨by decide +kernel, rfl⟩ ?_
    refine z_getI (pc' := 15) (cef_H56_36 ca D) rfl ⟨by decide +kernel, rfl⟩ ?_
    refine z_icmp_lt (pc' := 18) (tgt := 20) (off := 5) ⟨by decide +kernel, rfl⟩ rfl (fun h2 => ?_) (fun h2 => ?_)
    · refine z_aload_n (pc' := 21) (k := 0) (i := 0) 0 rfl rfl ⟨by decide +kernel, rfl⟩ ?_
      refine z_getI (pc' := 24) (cef_H56_36 ca D) rfl ⟨by decide +kernel, rfl⟩ ?_
      refine z_letI fun v3 => ?_
      refine z_istore_n (pc' := 25) (k := 2) (i := 2) rfl (by decide) rfl ⟨by decide +kernel, rfl⟩ ?_
      refine z_aload_n (pc' := 26) (k := 0) (i := 0) 1 rfl rfl ⟨by decide +kernel, rfl⟩ ?_
      refine z_dup (pc' := 27) rfl ⟨by decide +kernel, rfl⟩ ?_
      refine z_getI (pc' := 30) (cef_H56_36 ca D) rfl ⟨by decide +kernel, rfl⟩ ?_
      refine z_iconst (pc' := 31) (n := 1) (v := 1) (by decide) ⟨by decide +kernel, rfl⟩ ?_
      refine z_iadd (pc' := 32) ⟨by decide +kernel, rfl⟩ ?_
      refine z_putI (pc' := 35) (cef_H56_36 ca D) rfl ⟨by decide +kernel, rfl⟩ (z_letU fun u4 => ?_)
      refine z_aload_n (pc' := 36) (k := 0) (i := 0) 1 rfl rfl ⟨by decide +kernel, rfl⟩ ?_
      refine z_getR (pc' := 39) (cef_H22_36 ca D) rfl (y := a 38) rfl ⟨by decide +kernel, rfl⟩ ?_
      refine z_iload_n (pc' := 40) (k := 2) (i := 2) 0 rfl rfl ⟨by decide +kernel, rfl⟩ ?_
      refine z_iload_n (pc' := 41) (k := 1) (i := 1) 2 rfl rfl ⟨by decide +kernel, rfl⟩ ?_
      refine z_iast (pc' := 42) 38 rfl (zlt rfl) rfl rfl ⟨by decide +kernel, rfl⟩ (z_letU fun u5 => ?_)
      refine z_aload_n (pc' := 43) (k := 0) (i := 0) 1 rfl rfl ⟨by decide +kernel, rfl⟩ ?_
      refine z_getR (pc' := 46) (cef_H18_36 ca D) rfl (y := a 37) rfl ⟨by decide +kernel, rfl⟩ ?_
      refine z_iload_n (pc' := 47) (k := 2) (i := 2) 0 rfl rfl ⟨by decide +kernel, rfl⟩ ?_
      refine z_aload_n (pc' := 48) (k := 0) (i := 0) 1 rfl rfl ⟨by decide +kernel, rfl⟩ ?_
      refine z_getR (pc' := 51) (cef_H12_36 ca D) rfl (y := a 43) rfl ⟨by decide +kernel, rfl⟩ ?_
      refine z_iload_n (pc' := 52) (k := 1) (i := 1) 2 rfl rfl ⟨by decide +kernel, rfl⟩ ?_
      refine z_callV (pc' := 55) 43 (cet_S_rootOf n u5 x1) (ceG_H69 ca D) (ceO_43 ca D) rfl (fun h => by cases h) (by omega) rfl rfl (Nat.le_of_ble_eq_true rfl) ⟨by decide +kernel, rfl⟩ (fun r7 u8 g6 _ => ?_)
      refine z_iast (pc' := 56) 37 rfl (zlt rfl) rfl rfl ⟨by decide +kernel, rfl⟩ (z_letU fun u9 => ?_)
      refine z_aload_n (pc' := 57) (k := 0) (i := 0) 1 rfl rfl ⟨by decide +kernel, rfl⟩ ?_
      refine z_getR (pc' := 60) (cef_H25_36 ca D) rfl (y := a 39) rfl ⟨by decide +kernel, rfl⟩ ?_
      refine z_iload_n (pc' := 61) (k := 2) (i := 2) 0 rfl rfl ⟨by decide +kernel, rfl⟩ ?_
      refine z_iconst (pc' := 62) (n := 0) (v := 0) (by decide) ⟨by decide +kernel, rfl⟩ ?_
      refine z_iast (pc' := 63) 39 rfl (zlt rfl) rfl rfl ⟨by decide +kernel, rfl⟩ (z_letU fun u10 => ?_)
      refine z_aload_n (pc' := 64) (k := 0) (i := 0) 1 rfl rfl ⟨by decide +kernel, rfl⟩ ?_
      refine z_getR (pc' := 67) (cef_H28_36 ca D) rfl (y := a 40) rfl ⟨by decide +kernel, rfl⟩ ?_
      refine z_iload_n (pc' := 68) (k := 2) (i := 2) 0 rfl rfl ⟨by decide +kernel, rfl⟩ ?_
      refine z_iconst (pc' := 69) (n := (-1)) (v := (-1)) (by decide) ⟨by decide +kernel, rfl⟩ ?_
      refine z_iast (pc' := 70) 40 rfl (zlt rfl) rfl rfl ⟨by decide +kernel, rfl⟩ (z_letU fun u11 => ?_)
      refine z_aload_n (pc' := 71) (k := 0) (i := 0) 1 rfl rfl ⟨by decide +kernel, rfl⟩ ?_
      refine z_getR (pc' := 74) (cef_H31_36 ca D) rfl (y := a 41) rfl ⟨by decide +kernel, rfl⟩ ?_
      refine z_iload_n (pc' := 75) (k := 2) (i := 2) 0 rfl rfl ⟨by decide +kernel, rfl⟩ ?_
      refine z_iconst (pc' := 76) (n := (-1)) (v := (-1)) (by decide) ⟨by decide +kernel, rfl⟩ ?_
      refine z_iast (pc' := 77) 41 rfl (zlt rfl) rfl rfl ⟨by decide +kernel, rfl⟩ (z_letU fun u12 => ?_)
      refine z_iconst (pc' := 78) (n := 0) (v := 0) (by decide) ⟨by decide +kernel, rfl⟩ ?_
      refine z_istore_n (pc' := 79) (k := 3) (i := 3) rfl (by decide) rfl ⟨by decide +kernel, rfl⟩ ?_
      refine z_lv [2, 3, 1, 0] (lv' := [(0, .ref (a 36)), (1, .int x1), (2, .int v3), (3, .int 0)]) rfl ?_
      exact ce_H_addObject_L79_t n n g6 u12 x1 v3 0
    · refine z_iconst (pc' := 19) (n := (-1)) (v := (-1)) (by decide) ⟨by decide +kernel, rfl⟩ ?_
      exact z_iret (pc' := 20) ⟨by decide +kernel, rfl⟩
  · refine z_iconst (pc' := 19) (n := (-1)) (v := (-1)) (by decide) ⟨by decide +kernel, rfl⟩ ?_
    exact z_iret (pc' := 20) ⟨by decide +kernel, rfl⟩
set_option maxRecDepth 20000 in
set_option maxHeartbeats 4000000 in
theorem cet_H_isOnLine {l : Launch} {ca : Nat → ClassId} {D : va_G} {a g : Nat → Nat} (n : Nat) (u : zMu) (x1 : Int32) (x2 : Int32) : zMet l (zCe ca D) ceY_H_isOnLine (.code ceY_H_isOnLine prog_4_method_5_code 3 (some .boolean)) zri true 1 a g [.ref (a 36), .int x1, .int x2] u (ce_H_isOnLine n u x1 x2) := by
  refine zMet.of rfl (Nat.le_of_ble_eq_true rfl) fun κ A hl => ?_
  subst hl
  unfold ce_H_isOnLine
  refine z_aload_n (pc' := 1) (k := 0) (i := 0) 0 rfl rfl ⟨by decide +kernel, rfl⟩ ?_
  refine z_iload_n (pc' := 2) (k := 1) (i := 1) 1 rfl rfl ⟨by decide +kernel, rfl⟩ ?_
  refine z_callVf (pc' := 5) 36 (cet_H_isObject n u x1) (ceG_H73 ca D) (ceO_36 ca D) rfl (by omega) rfl rfl (Nat.le_of_ble_eq_true rfl) ⟨by decide +kernel, rfl⟩ (fun r1 u2 => ?_)
  refine z_if_eq (pc' := 8) (tgt := 16) (off := 11) ⟨by decide +kernel, rfl⟩ rfl (fun h3 => ?_) (fun h3 => ?_)
  · refine z_iconst (pc' := 17) (n := 0) (v := 0) (by decide) ⟨by decide +kernel, rfl⟩ ?_
    exact z_zret (pc' := 18) (by decide) ⟨by decide +kernel, rfl⟩
  · refine z_aload_n (pc' := 9) (k := 0) (i := 0) 0 rfl rfl ⟨by decide +kernel, rfl⟩ ?_
    refine z_iload_n (pc' := 10) (k := 2) (i := 2) 2 rfl rfl ⟨by decide +kernel, rfl⟩ ?_
    refine z_callVf (pc' := 13) 36 (cet_H_isObject n u2 x2) (ceG_H73 ca D) (ceO_36 ca D) rfl (by omega) rfl rfl (Nat.le_of_ble_eq_true rfl) ⟨by decide +kernel, rfl⟩ (fun r4 u5 => ?_)
    refine z_if_ne (pc' := 16) (tgt := 18) (off := 5) ⟨by decide +kernel, rfl⟩ rfl (fun h6 => ?_) (fun h6 => ?_)
    · refine z_iconst (pc' := 17) (n := 0) (v := 0) (by decide) ⟨by decide +kernel, rfl⟩ ?_
      exact z_zret (pc' := 18) (by decide) ⟨by decide +kernel, rfl⟩
    · refine z_aload_n (pc' := 19) (k := 0) (i := 0) 0 rfl rfl ⟨by decide +kernel, rfl⟩ ?_
      refine z_getR (pc' := 22) (cef_H34_36 ca D) rfl (y := a 42) rfl ⟨by decide +kernel, rfl⟩ ?_
      refine z_iload_n (pc' := 23) (k := 1) (i := 1) 1 rfl rfl ⟨by decide +kernel, rfl⟩ ?_
      refine z_iconst (pc' := 24) (n := 4) (v := 4) (by decide) ⟨by decide +kernel, rfl⟩ ?_
      refine z_imul (pc' := 25) ⟨by decide +kernel, rfl⟩ ?_
      refine z_iload_n (pc' := 26) (k := 2) (i := 2) 2 rfl rfl ⟨by decide +kernel, rfl⟩ ?_
      refine z_bipush (pc' := 28) (n := 64) (v := 64) (by decide) ⟨by decide +kernel, rfl⟩ ?_
      refine z_idiv (pc' := 29) (by decide) ⟨by decide +kernel, rfl⟩ ?_
      refine z_iadd (pc' := 30) ⟨by decide +kernel, rfl⟩ ?_
      refine z_lald (pc' := 31) 42 rfl (zlt rfl) rfl rfl ⟨by decide +kernel, rfl⟩ ?_
      refine z_iload_n (pc' := 32) (k := 2) (i := 2) 2 rfl rfl ⟨by decide +kernel, rfl⟩ ?_
      refine z_bipush (pc' := 34) (n := 64) (v := 64) (by decide) ⟨by decide +kernel, rfl⟩ ?_
      refine z_irem (pc' := 35) (by decide) ⟨by decide +kernel, rfl⟩ ?_
      refine z_lushr (pc' := 36) ⟨by decide +kernel, rfl⟩ ?_
      refine z_lconst (pc' := 37) (n := 1) (v := 1) (by decide) ⟨by decide +kernel, rfl⟩ ?_
      refine z_land (pc' := 38) ⟨by decide +kernel, rfl⟩ ?_
      refine z_lconst (pc' := 39) (n := 0) (v := 0) (by decide) ⟨by decide +kernel, rfl⟩ ?_
      refine z_lcmp (pc' := 40) ⟨by decide +kernel, rfl⟩ ?_
      refine z_if_eq (pc' := 43) (tgt := 47) (off := 7) ⟨by decide +kernel, rfl⟩ rfl (fun h7 => ?_) (fun h7 => ?_)
      · refine z_iconst (pc' := 48) (n := 0) (v := 0) (by decide) ⟨by decide +kernel, rfl⟩ ?_
        exact z_zret (pc' := 49) (by decide) ⟨by decide +kernel, rfl⟩
      · refine z_iconst (pc' := 44) (n := 1) (v := 1) (by decide) ⟨by decide +kernel, rfl⟩ ?_
        refine z_goto (tgt := 48) (off := 4) (by decide +kernel) rfl ?_
        exact z_zret (pc' := 49) (by decide) ⟨by decide +kernel, rfl⟩
set_option maxRecDepth 20000 in
set_option maxHeartbeats 4000000 in
theorem ce_H_find_L21_t {κ : zKx} {ca : Nat → ClassId} {D : va_G} {A : Nat → Prop} {c0 : Nat × Nat} {a g0 g : Nat → Nat} (n : Nat) : ∀ (m : Nat) (u : zMu) (x1 : Int32) (x2 : Int64) (x4 : Int32) (x5 : Int32), zJ κ (zCe ca D) prog_4_method_6_code 6 ce_RH (some .int) zri true 1 A c0 a g0 g u 21 [(0, .ref (a 36)), (1, .int x1), (2, .long x2), (4, .int x4), (5, .int x5)] [] (ce_H_find_L21 n m u x1 x2 x4 x5) := by
  intro m
  induction m with
  | zero => intro u x1 x2 x4 x5 r u' h; cases h
  | succ m ih =>
    intro u x1 x2 x4 x5
    unfold ce_H_find_L21
    refine z_iload (pc' := 23) (i := 5) 4 rfl ⟨by decide +kernel, rfl⟩ ?_
    refine z_aload_n (pc' := 24) (k := 0) (i := 0) 0 rfl rfl ⟨by decide +kernel, rfl⟩ ?_
    refine z_getR (pc' := 27) (cef_H25_36 ca D) rfl (y := a 39) rfl ⟨by decide +kernel, rfl⟩ ?_
    refine z_iload_n (pc' := 28) (k := 1) (i := 1) 1 rfl rfl ⟨by decide +kernel, rfl⟩ ?_
    refine z_iald (pc' := 29) 39 rfl (zlt rfl) rfl rfl ⟨by decide +kernel, rfl⟩ ?_
    refine z_icmp_ge (pc' := 32) (tgt := 68) (off := 39) ⟨by decide +kernel, rfl⟩ rfl (fun h1 => ?_) (fun h1 => ?_)
    · refine z_iload (pc' := 34) (i := 4) 3 rfl ⟨by decide +kernel, rfl⟩ ?_
      refine z_iconst (pc' := 35) (n := (-1)) (v := (-1)) (by decide) ⟨by decide +kernel, rfl⟩ ?_
      refine z_icmp_eq (pc' := 38) (tgt := 68) (off := 33) ⟨by decide +kernel, rfl⟩ rfl (fun h2 => ?_) (fun h2 => ?_)
      · refine z_iconst (pc' := 69) (n := (-1)) (v := (-1)) (by decide) ⟨by decide +kernel, rfl⟩ ?_
        exact z_iret (pc' := 70) ⟨by decide +kernel, rfl⟩
      · refine z_aload_n (pc' := 39) (k := 0) (i := 0) 0 rfl rfl ⟨by decide +kernel, rfl⟩ ?_
        refine z_getR (pc' := 42) (cef_H38_36 ca D) rfl (y := g 88) rfl ⟨by decide +kernel, rfl⟩ ?_
        refine z_iload (pc' := 44) (i := 4) 3 rfl ⟨by decide +kernel, rfl⟩ ?_
        refine z_lald (pc' := 45) 88 rfl (zlt rfl) rfl rfl ⟨by decide +kernel, rfl⟩ ?_
        refine z_lload_n (pc' := 46) (k := 2) (i := 2) 2 rfl rfl ⟨by decide +kernel, rfl⟩ ?_
        refine z_lcmp (pc' := 47) ⟨by decide +kernel, rfl⟩ ?_
        refine z_if_ne (pc' := 50) (tgt := 53) (off := 6) ⟨by decide +kernel, rfl⟩ rfl (fun h3 => ?_) (fun h3 => ?_)
        · refine z_iload (pc' := 52) (i := 4) 3 rfl ⟨by decide +kernel, rfl⟩ ?_
          exact z_iret (pc' := 53) ⟨by decide +kernel, rfl⟩
        · refine z_aload_n (pc' := 54) (k := 0) (i := 0) 0 rfl rfl ⟨by decide +kernel, rfl⟩ ?_
          refine z_getR (pc' := 57) (cef_H41_36 ca D) rfl (y := g 89) rfl ⟨by decide +kernel, rfl⟩ ?_
          refine z_iload (pc' := 59) (i := 4) 3 rfl ⟨by decide +kernel, rfl⟩ ?_
          refine z_iald (pc' := 60) 89 rfl (zlt rfl) rfl rfl ⟨by decide +kernel, rfl⟩ ?_
          refine z_letI fun v4 => ?_
          refine z_istore (pc' := 62) (i := 4) (by decide) rfl ⟨by decide +kernel, rfl⟩ ?_
          refine z_iincN (pc' := 65) (i := 5) (n := 1) (c := 1) 4 rfl (by decide) (by decide) rfl ⟨by decide +kernel, rfl⟩ fun v5 => ?_
          refine z_goto (tgt := 21) (off := -44) (by decide +kernel) rfl ?_
          refine z_lv [2, 3, 4, 1, 0] (lv' := [(0, .ref (a 36)), (1, .int x1), (2, .long x2), (4, .int v4), (5, .int v5)]) rfl ?_
          exact ih u x1 x2 v4 v5
    · refine z_iconst (pc' := 69) (n := (-1)) (v := (-1)) (by decide) ⟨by decide +kernel, rfl⟩ ?_
      exact z_iret (pc' := 70) ⟨by decide +kernel, rfl⟩
set_option maxRecDepth 20000 in
set_option maxHeartbeats 4000000 in
theorem cet_H_find {l : Launch} {ca : Nat → ClassId} {D : va_G} {a g : Nat → Nat} (n : Nat) (u : zMu) (x1 : Int32) (x2 : Int64) : zMet l (zCe ca D) ceY_H_find (.code ceY_H_find prog_4_method_6_code 6 (some .int)) zri true 1 a g [.ref (a 36), .int x1, .long x2] u (ce_H_find n u x1 x2) := by
  refine zMet.of rfl (Nat.le_of_ble_eq_true rfl) fun κ A hl => ?_
  subst hl
  unfold ce_H_find
  refine z_aload_n (pc' := 1) (k := 0) (i := 0) 0 rfl rfl ⟨by decide +kernel, rfl⟩ ?_
  refine z_iload_n (pc' := 2) (k := 1) (i := 1) 1 rfl rfl ⟨by decide +kernel, rfl⟩ ?_
  refine z_callVf (pc' := 5) 36 (cet_H_isObject n u x1) (ceG_H73 ca D) (ceO_36 ca D) rfl (by omega) rfl rfl (Nat.le_of_ble_eq_true rfl) ⟨by decide +kernel, rfl⟩ (fun r1 u2 => ?_)
  refine z_if_ne (pc' := 8) (tgt := 10) (off := 5) ⟨by decide +kernel, rfl⟩ rfl (fun h3 => ?_) (fun h3 => ?_)
  · refine z_iconst (pc' := 9) (n := (-1)) (v := (-1)) (by decide) ⟨by decide +kernel, rfl⟩ ?_
    exact z_iret (pc' := 10) ⟨by decide +kernel, rfl⟩
  · refine z_aload_n (pc' := 11) (k := 0) (i := 0) 0 rfl rfl ⟨by decide +kernel, rfl⟩ ?_
    refine z_getR (pc' := 14) (cef_H28_36 ca D) rfl (y := a 40) rfl ⟨by decide +kernel, rfl⟩ ?_
    refine z_iload_n (pc' := 15) (k := 1) (i := 1) 1 rfl rfl ⟨by decide +kernel, rfl⟩ ?_
    refine z_iald (pc' := 16) 40 rfl (zlt rfl) rfl rfl ⟨by decide +kernel, rfl⟩ ?_
    refine z_letI fun v4 => ?_
    refine z_istore (pc' := 18) (i := 4) (by decide) rfl ⟨by decide +kernel, rfl⟩ ?_
    refine z_iconst (pc' := 19) (n := 0) (v := 0) (by decide) ⟨by decide +kernel, rfl⟩ ?_
    refine z_istore (pc' := 21) (i := 5) (by decide) rfl ⟨by decide +kernel, rfl⟩ ?_
    refine z_lv [2, 3, 4, 1, 0] (lv' := [(0, .ref (a 36)), (1, .int x1), (2, .long x2), (4, .int v4), (5, .int 0)]) rfl ?_
    exact ce_H_find_L21_t n n u2 x1 x2 v4 0
set_option maxRecDepth 20000 in
set_option maxHeartbeats 4000000 in
theorem ce_H_holderOf_L6_t {κ : zKx} {ca : Nat → ClassId} {D : va_G} {A : Nat → Prop} {c0 : Nat × Nat} {a g0 g : Nat → Nat} (n : Nat) : ∀ (m : Nat) (u : zMu) (x2 : Int64) (x4 : Int32) (x5 : Int32), zJ κ (zCe ca D) prog_4_method_7_code 6 ce_RH (some .int) zri true 2 A c0 a g0 g u 6 [(0, .ref (a 36)), (2, .long x2), (4, .int x4), (5, .int x5)] [] (ce_H_holderOf_L6 n m u x2 x4 x5) := by
  intro m
  induction m with
  | zero => intro u x2 x4 x5 r u' h; cases h
  | succ m ih =>
    intro u x2 x4 x5
    unfold ce_H_holderOf_L6
    refine z_iload (pc' := 8) (i := 5) 3 rfl ⟨by decide +kernel, rfl⟩ ?_
    refine z_sipush (pc' := 11) (n := 200) (v := 200) (by decide) ⟨by decide +kernel, rfl⟩ ?_
    refine z_icmp_ge (pc' := 14) (tgt := 52) (off := 41) ⟨by decide +kernel, rfl⟩ rfl (fun h1 => ?_) (fun h1 => ?_)
    · refine z_aload_n (pc' := 15) (k := 0) (i := 0) 0 rfl rfl ⟨by decide +kernel, rfl⟩ ?_
      refine z_iload (pc' := 17) (i := 4) 2 rfl ⟨by decide +kernel, rfl⟩ ?_
      refine z_callVf (pc' := 20) 36 (cet_H_isObject n u x4) (ceG_H73 ca D) (ceO_36 ca D) rfl (by omega) rfl rfl (Nat.le_of_ble_eq_true rfl) ⟨by decide +kernel, rfl⟩ (fun r2 u3 => ?_)
      refine z_if_eq (pc' := 23) (tgt := 52) (off := 32) ⟨by decide +kernel, rfl⟩ rfl (fun h4 => ?_) (fun h4 => ?_)
      · refine z_iconst (pc' := 53) (n := (-1)) (v := (-1)) (by decide) ⟨by decide +kernel, rfl⟩ ?_
        exact z_iret (pc' := 54) ⟨by decide +kernel, rfl⟩
      · refine z_aload_n (pc' := 24) (k := 0) (i := 0) 0 rfl rfl ⟨by decide +kernel, rfl⟩ ?_
        refine z_iload (pc' := 26) (i := 4) 2 rfl ⟨by decide +kernel, rfl⟩ ?_
        refine z_lload_n (pc' := 27) (k := 2) (i := 2) 1 rfl rfl ⟨by decide +kernel, rfl⟩ ?_
        refine z_callVf (pc' := 30) 36 (cet_H_find n u3 x4 x2) (ceG_H77 ca D) (ceO_36 ca D) rfl (by omega) rfl rfl (Nat.le_of_ble_eq_true rfl) ⟨by decide +kernel, rfl⟩ (fun r5 u6 => ?_)
        refine z_iconst (pc' := 31) (n := (-1)) (v := (-1)) (by decide) ⟨by decide +kernel, rfl⟩ ?_
        refine z_icmp_eq (pc' := 34) (tgt := 37) (off := 6) ⟨by decide +kernel, rfl⟩ rfl (fun h7 => ?_) (fun h7 => ?_)
        · refine z_aload_n (pc' := 38) (k := 0) (i := 0) 0 rfl rfl ⟨by decide +kernel, rfl⟩ ?_
          refine z_getR (pc' := 41) (cef_H22_36 ca D) rfl (y := a 38) rfl ⟨by decide +kernel, rfl⟩ ?_
          refine z_iload (pc' := 43) (i := 4) 2 rfl ⟨by decide +kernel, rfl⟩ ?_
          refine z_iald (pc' := 44) 38 rfl (zlt rfl) rfl rfl ⟨by decide +kernel, rfl⟩ ?_
          refine z_letI fun v8 => ?_
          refine z_istore (pc' := 46) (i := 4) (by decide) rfl ⟨by decide +kernel, rfl⟩ ?_
          refine z_iincN (pc' := 49) (i := 5) (n := 1) (c := 1) 3 rfl (by decide) (by decide) rfl ⟨by decide +kernel, rfl⟩ fun v9 => ?_
          refine z_goto (tgt := 6) (off := -43) (by decide +kernel) rfl ?_
          refine z_lv [2, 3, 1, 0] (lv' := [(0, .ref (a 36)), (2, .long x2), (4, .int v8), (5, .int v9)]) rfl ?_
          exact ih u6 x2 v8 v9
        · refine z_iload (pc' := 36) (i := 4) 2 rfl ⟨by decide +kernel, rfl⟩ ?_
          exact z_iret (pc' := 37) ⟨by decide +kernel, rfl⟩
    · refine z_iconst (pc' := 53) (n := (-1)) (v := (-1)) (by decide) ⟨by decide +kernel, rfl⟩ ?_
      exact z_iret (pc' := 54) ⟨by decide +kernel, rfl⟩
set_option maxRecDepth 20000 in
set_option maxHeartbeats 4000000 in
theorem cet_H_holderOf {l : Launch} {ca : Nat → ClassId} {D : va_G} {a g : Nat → Nat} (n : Nat) (u : zMu) (x1 : Int32) (x2 : Int64) : zMet l (zCe ca D) ceY_H_holderOf (.code ceY_H_holderOf prog_4_method_7_code 6 (some .int)) zri true 2 a g [.ref (a 36), .int x1, .long x2] u (ce_H_holderOf n u x1 x2) := by
  refine zMet.of rfl (Nat.le_of_ble_eq_true rfl) fun κ A hl => ?_
  subst hl
  unfold ce_H_holderOf
  refine z_iload_n (pc' := 1) (k := 1) (i := 1) 1 rfl rfl ⟨by decide +kernel, rfl⟩ ?_
  refine z_istore (pc' := 3) (i := 4) (by decide) rfl ⟨by decide +kernel, rfl⟩ ?_
  refine z_iconst (pc' := 4) (n := 0) (v := 0) (by decide) ⟨by decide +kernel, rfl⟩ ?_
  refine z_istore (pc' := 6) (i := 5) (by decide) rfl ⟨by decide +kernel, rfl⟩ ?_
  refine z_lv [2, 4, 1, 0] (lv' := [(0, .ref (a 36)), (2, .long x2), (4, .int x1), (5, .int 0)]) rfl ?_
  exact ce_H_holderOf_L6_t n n u x2 x1 0
set_option maxRecDepth 20000 in
set_option maxHeartbeats 4000000 in
theorem ce_H_cellAt_L34_t {κ : zKx} {ca : Nat → ClassId} {D : va_G} {A : Nat → Prop} {c0 : Nat × Nat} {a g0 g : Nat → Nat} (n : Nat) : ∀ (m : Nat) (u : zMu) (x2 : Int32) (x3 : Int32) (x4 : Int32), zJ κ (zCe ca D) prog_4_method_8_code 5 ce_RH (some .int) zri true 1 A c0 a g0 g u 34 [(0, .ref (a 36)), (2, .int x2), (3, .int x3), (4, .int x4)] [] (ce_H_cellAt_L34 n m u x2 x3 x4) := by
  intro m
  induction m with
  | zero => intro u x2 x3 x4 r u' h; cases h
  | succ m ih =>
    intro u x2 x3 x4
    unfold ce_H_cellAt_L34
    refine z_iload (pc' := 36) (i := 4) 3 rfl ⟨by decide +kernel, rfl⟩ ?_
    refine z_iload_n (pc' := 37) (k := 2) (i := 2) 1 rfl rfl ⟨by decide +kernel, rfl⟩ ?_
    refine z_icmp_ge (pc' := 40) (tgt := 58) (off := 21) ⟨by decide +kernel, rfl⟩ rfl (fun h1 => ?_) (fun h1 => ?_)
    · refine z_iload_n (pc' := 41) (k := 3) (i := 3) 2 rfl rfl ⟨by decide +kernel, rfl⟩ ?_
      refine z_iconst (pc' := 42) (n := (-1)) (v := (-1)) (by decide) ⟨by decide +kernel, rfl⟩ ?_
      refine z_icmp_eq (pc' := 45) (tgt := 58) (off := 16) ⟨by decide +kernel, rfl⟩ rfl (fun h2 => ?_) (fun h2 => ?_)
      · refine z_iload_n (pc' := 59) (k := 3) (i := 3) 2 rfl rfl ⟨by decide +kernel, rfl⟩ ?_
        exact z_iret (pc' := 60) ⟨by decide +kernel, rfl⟩
      · refine z_aload_n (pc' := 46) (k := 0) (i := 0) 0 rfl rfl ⟨by decide +kernel, rfl⟩ ?_
        refine z_getR (pc' := 49) (cef_H41_36 ca D) rfl (y := g 89) rfl ⟨by decide +kernel, rfl⟩ ?_
        refine z_iload_n (pc' := 50) (k := 3) (i := 3) 2 rfl rfl ⟨by decide +kernel, rfl⟩ ?_
        refine z_iald (pc' := 51) 89 rfl (zlt rfl) rfl rfl ⟨by decide +kernel, rfl⟩ ?_
        refine z_letI fun v3 => ?_
        refine z_istore_n (pc' := 52) (k := 3) (i := 3) rfl (by decide) rfl ⟨by decide +kernel, rfl⟩ ?_
        refine z_iincN (pc' := 55) (i := 4) (n := 1) (c := 1) 3 rfl (by decide) (by decide) rfl ⟨by decide +kernel, rfl⟩ fun v4 => ?_
        refine z_goto (tgt := 34) (off := -21) (by decide +kernel) rfl ?_
        refine z_lv [2, 3, 1, 0] (lv' := [(0, .ref (a 36)), (2, .int x2), (3, .int v3), (4, .int v4)]) rfl ?_
        exact ih u x2 v3 v4
    · refine z_iload_n (pc' := 59) (k := 3) (i := 3) 2 rfl rfl ⟨by decide +kernel, rfl⟩ ?_
      exact z_iret (pc' := 60) ⟨by decide +kernel, rfl⟩
set_option maxRecDepth 20000 in
set_option maxHeartbeats 4000000 in
theorem cet_H_cellAt {l : Launch} {ca : Nat → ClassId} {D : va_G} {a g : Nat → Nat} (n : Nat) (u : zMu) (x1 : Int32) (x2 : Int32) : zMet l (zCe ca D) ceY_H_cellAt (.code ceY_H_cellAt prog_4_method_8_code 5 (some .int)) zri true 1 a g [.ref (a 36), .int x1, .int x2] u (ce_H_cellAt n u x1 x2) := by
  refine zMet.of rfl (Nat.le_of_ble_eq_true rfl) fun κ A hl => ?_
  subst hl
  unfold ce_H_cellAt
  refine z_aload_n (pc' := 1) (k := 0) (i := 0) 0 rfl rfl ⟨by decide +kernel, rfl⟩ ?_
  refine z_iload_n (pc' := 2) (k := 1) (i := 1) 1 rfl rfl ⟨by decide +kernel, rfl⟩ ?_
  refine z_callVf (pc' := 5) 36 (cet_H_isObject n u x1) (ceG_H73 ca D) (ceO_36 ca D) rfl (by omega) rfl rfl (Nat.le_of_ble_eq_true rfl) ⟨by decide +kernel, rfl⟩ (fun r1 u2 => ?_)
  refine z_if_eq (pc' := 8) (tgt := 22) (off := 17) ⟨by decide +kernel, rfl⟩ rfl (fun h3 => ?_) (fun h3 => ?_)
  · refine z_iconst (pc' := 23) (n := (-1)) (v := (-1)) (by decide) ⟨by decide +kernel, rfl⟩ ?_
    exact z_iret (pc' := 24) ⟨by decide +kernel, rfl⟩
  · refine z_iload_n (pc' := 9) (k := 2) (i := 2) 2 rfl rfl ⟨by decide +kernel, rfl⟩ ?_
    refine z_if_lt (pc' := 12) (tgt := 22) (off := 13) ⟨by decide +kernel, rfl⟩ rfl (fun h4 => ?_) (fun h4 => ?_)
    · refine z_iconst (pc' := 23) (n := (-1)) (v := (-1)) (by decide) ⟨by decide +kernel, rfl⟩ ?_
      exact z_iret (pc' := 24) ⟨by decide +kernel, rfl⟩
    · refine z_iload_n (pc' := 13) (k := 2) (i := 2) 2 rfl rfl ⟨by decide +kernel, rfl⟩ ?_
      refine z_aload_n (pc' := 14) (k := 0) (i := 0) 0 rfl rfl ⟨by decide +kernel, rfl⟩ ?_
      refine z_getR (pc' := 17) (cef_H25_36 ca D) rfl (y := a 39) rfl ⟨by decide +kernel, rfl⟩ ?_
      refine z_iload_n (pc' := 18) (k := 1) (i := 1) 1 rfl rfl ⟨by decide +kernel, rfl⟩ ?_
      refine z_iald (pc' := 19) 39 rfl (zlt rfl) rfl rfl ⟨by decide +kernel, rfl⟩ ?_
      refine z_icmp_lt (pc' := 22) (tgt := 24) (off := 5) ⟨by decide +kernel, rfl⟩ rfl (fun h5 => ?_) (fun h5 => ?_)
      · refine z_aload_n (pc' := 25) (k := 0) (i := 0) 0 rfl rfl ⟨by decide +kernel, rfl⟩ ?_
        refine z_getR (pc' := 28) (cef_H28_36 ca D) rfl (y := a 40) rfl ⟨by decide +kernel, rfl⟩ ?_
        refine z_iload_n (pc' := 29) (k := 1) (i := 1) 1 rfl rfl ⟨by decide +kernel, rfl⟩ ?_
        refine z_iald (pc' := 30) 40 rfl (zlt rfl) rfl rfl ⟨by decide +kernel, rfl⟩ ?_
        refine z_letI fun v6 => ?_
        refine z_istore_n (pc' := 31) (k := 3) (i := 3) rfl (by decide) rfl ⟨by decide +kernel, rfl⟩ ?_
        refine z_iconst (pc' := 32) (n := 0) (v := 0) (by decide) ⟨by decide +kernel, rfl⟩ ?_
        refine z_istore (pc' := 34) (i := 4) (by decide) rfl ⟨by decide +kernel, rfl⟩ ?_
        refine z_lv [2, 4, 1, 0] (lv' := [(0, .ref (a 36)), (2, .int x2), (3, .int v6), (4, .int 0)]) rfl ?_
        exact ce_H_cellAt_L34_t n n u2 x2 v6 0
      · refine z_iconst (pc' := 23) (n := (-1)) (v := (-1)) (by decide) ⟨by decide +kernel, rfl⟩ ?_
        exact z_iret (pc' := 24) ⟨by decide +kernel, rfl⟩
set_option maxRecDepth 20000 in
set_option maxHeartbeats 4000000 in
theorem cet_H_freshCell {l : Launch} {ca : Nat → ClassId} {D : va_G} {a g : Nat → Nat} (n : Nat) (u : zMu) : zMet l (zCe ca D) ceY_H_freshCell (.code ceY_H_freshCell prog_4_method_11_code 2 (some .int)) zri false 2 a g [.ref (a 36)] u (ce_H_freshCell n u) := by
  refine zMet.of rfl (Nat.le_of_ble_eq_true rfl) fun κ A hl => ?_
  subst hl
  unfold ce_H_freshCell
  refine z_aload_n (pc' := 1) (k := 0) (i := 0) 0 rfl rfl ⟨by decide +kernel, rfl⟩ ?_
  refine z_getI (pc' := 4) (cef_H66_36 ca D) rfl ⟨by decide +kernel, rfl⟩ ?_
  refine z_iconst (pc' := 5) (n := (-1)) (v := (-1)) (by decide) ⟨by decide +kernel, rfl⟩ ?_
  refine z_icmp_eq (pc' := 8) (tgt := 25) (off := 20) ⟨by decide +kernel, rfl⟩ rfl (fun h1 => ?_) (fun h1 => ?_)
  · refine z_aload_n (pc' := 26) (k := 0) (i := 0) 0 rfl rfl ⟨by decide +kernel, rfl⟩ ?_
    refine z_getI (pc' := 29) (cef_H63_36 ca D) rfl ⟨by decide +kernel, rfl⟩ ?_
    refine z_aload_n (pc' := 30) (k := 0) (i := 0) 0 rfl rfl ⟨by decide +kernel, rfl⟩ ?_
    refine z_getR (pc' := 33) (cef_H38_36 ca D) rfl (y := g 88) rfl ⟨by decide +kernel, rfl⟩ ?_
    refine z_alen (pc' := 34) 88 (t := 5) (p := 4) rfl rfl (by decide) (zlt rfl) rfl rfl rfl ⟨by decide +kernel, rfl⟩ ?_
    refine z_icmp_lt (pc' := 37) (tgt := 71) (off := 37) ⟨by decide +kernel, rfl⟩ rfl (fun h2 => ?_) (fun h2 => ?_)
    · refine z_aload_n (pc' := 72) (k := 0) (i := 0) 0 rfl rfl ⟨by decide +kernel, rfl⟩ ?_
      refine z_dup (pc' := 73) rfl ⟨by decide +kernel, rfl⟩ ?_
      refine z_getI (pc' := 76) (cef_H63_36 ca D) rfl ⟨by decide +kernel, rfl⟩ ?_
      refine z_letI fun v3 => ?_
      refine z_dup_x1 (pc' := 77) rfl rfl ⟨by decide +kernel, rfl⟩ ?_
      refine z_iconst (pc' := 78) (n := 1) (v := 1) (by decide) ⟨by decide +kernel, rfl⟩ ?_
      refine z_iadd (pc' := 79) ⟨by decide +kernel, rfl⟩ ?_
      refine z_putI (pc' := 82) (cef_H63_36 ca D) rfl ⟨by decide +kernel, rfl⟩ (z_letU fun u4 => ?_)
      exact z_iret (pc' := 83) ⟨by decide +kernel, rfl⟩
    · refine z_aload_n (pc' := 38) (k := 0) (i := 0) 0 rfl rfl ⟨by decide +kernel, rfl⟩ ?_
      refine z_aload_n (pc' := 39) (k := 0) (i := 0) 0 rfl rfl ⟨by decide +kernel, rfl⟩ ?_
      refine z_getR (pc' := 42) (cef_H38_36 ca D) rfl (y := g 88) rfl ⟨by decide +kernel, rfl⟩ ?_
      refine z_iconst (pc' := 43) (n := 2) (v := 2) (by decide) ⟨by decide +kernel, rfl⟩ ?_
      refine z_aload_n (pc' := 44) (k := 0) (i := 0) 0 rfl rfl ⟨by decide +kernel, rfl⟩ ?_
      refine z_getI (pc' := 47) (cef_H63_36 ca D) rfl ⟨by decide +kernel, rfl⟩ ?_
      refine z_imul (pc' := 48) ⟨by decide +kernel, rfl⟩ ?_
      refine z_growL (pc' := 54) (c := 88) (cef_H38_36 ca D) rfl ⟨rfl, rfl, zlt rfl, zlt2 rfl⟩ rfl rfl (ceG_H99 ca D) (by omega) (Nat.le_of_ble_eq_true rfl) (by decide +kernel) (by decide +kernel) rfl fun u5 g6 => ?_
      refine z_aload_n (pc' := 55) (k := 0) (i := 0) 0 rfl rfl ⟨by decide +kernel, rfl⟩ ?_
      refine z_aload_n (pc' := 56) (k := 0) (i := 0) 0 rfl rfl ⟨by decide +kernel, rfl⟩ ?_
      refine z_getR (pc' := 59) (cef_H41_36 ca D) rfl (y := g6 89) rfl ⟨by decide +kernel, rfl⟩ ?_
      refine z_iconst (pc' := 60) (n := 2) (v := 2) (by decide) ⟨by decide +kernel, rfl⟩ ?_
      refine z_aload_n (pc' := 61) (k := 0) (i := 0) 0 rfl rfl ⟨by decide +kernel, rfl⟩ ?_
      refine z_getI (pc' := 64) (cef_H63_36 ca D) rfl ⟨by decide +kernel, rfl⟩ ?_
      refine z_imul (pc' := 65) ⟨by decide +kernel, rfl⟩ ?_
      refine z_growI (pc' := 71) (c := 89) (cef_H41_36 ca D) rfl ⟨rfl, rfl, zlt rfl, zlt2 rfl⟩ rfl rfl (ceG_H105 ca D) (by omega) (Nat.le_of_ble_eq_true rfl) (by decide +kernel) (by decide +kernel) rfl fun u7 g8 => ?_
      refine z_aload_n (pc' := 72) (k := 0) (i := 0) 0 rfl rfl ⟨by decide +kernel, rfl⟩ ?_
      refine z_dup (pc' := 73) rfl ⟨by decide +kernel, rfl⟩ ?_
      refine z_getI (pc' := 76) (cef_H63_36 ca D) rfl ⟨by decide +kernel, rfl⟩ ?_
      refine z_letI fun v9 => ?_
      refine z_dup_x1 (pc' := 77) rfl rfl ⟨by decide +kernel, rfl⟩ ?_
      refine z_iconst (pc' := 78) (n := 1) (v := 1) (by decide) ⟨by decide +kernel, rfl⟩ ?_
      refine z_iadd (pc' := 79) ⟨by decide +kernel, rfl⟩ ?_
      refine z_putI (pc' := 82) (cef_H63_36 ca D) rfl ⟨by decide +kernel, rfl⟩ (z_letU fun u10 => ?_)
      exact z_iret (pc' := 83) ⟨by decide +kernel, rfl⟩
  · refine z_aload_n (pc' := 9) (k := 0) (i := 0) 0 rfl rfl ⟨by decide +kernel, rfl⟩ ?_
    refine z_getI (pc' := 12) (cef_H66_36 ca D) rfl ⟨by decide +kernel, rfl⟩ ?_
    refine z_letI fun v11 => ?_
    refine z_istore_n (pc' := 13) (k := 1) (i := 1) rfl (by decide) rfl ⟨by decide +kernel, rfl⟩ ?_
    refine z_aload_n (pc' := 14) (k := 0) (i := 0) 1 rfl rfl ⟨by decide +kernel, rfl⟩ ?_
    refine z_aload_n (pc' := 15) (k := 0) (i := 0) 1 rfl rfl ⟨by decide +kernel, rfl⟩ ?_
    refine z_getR (pc' := 18) (cef_H41_36 ca D) rfl (y := g 89) rfl ⟨by decide +kernel, rfl⟩ ?_
    refine z_iload_n (pc' := 19) (k := 1) (i := 1) 0 rfl rfl ⟨by decide +kernel, rfl⟩ ?_
    refine z_iald (pc' := 20) 89 rfl (zlt rfl) rfl rfl ⟨by decide +kernel, rfl⟩ ?_
    refine z_putI (pc' := 23) (cef_H66_36 ca D) rfl ⟨by decide +kernel, rfl⟩ (z_letU fun u12 => ?_)
    refine z_iload_n (pc' := 24) (k := 1) (i := 1) 0 rfl rfl ⟨by decide +kernel, rfl⟩ ?_
    exact z_iret (pc' := 25) ⟨by decide +kernel, rfl⟩
set_option maxRecDepth 20000 in
set_option maxHeartbeats 4000000 in
theorem ce_H_append_J56_t {κ : zKx} {ca : Nat → ClassId} {D : va_G} {A : Nat → Prop} {c0 : Nat × Nat} {a g0 : Nat → Nat} (n : Nat) (g : Nat → Nat) (u : zMu) (x1 : Int32) (x4 : Int32) : zJ κ (zCe ca D) prog_4_method_10_code 5 ce_RH (some .int) zri false 3 A c0 a g0 g u 56 [(0, .ref (a 36)), (1, .int x1), (4, .int x4)] [] (ce_H_append_J56 n u x1 x4) := by
  unfold ce_H_append_J56
  refine z_aload_n (pc' := 57) (k := 0) (i := 0) 0 rfl rfl ⟨by decide +kernel, rfl⟩ ?_
  refine z_getR (pc' := 60) (cef_H31_36 ca D) rfl (y := a 41) rfl ⟨by decide +kernel, rfl⟩ ?_
  refine z_iload_n (pc' := 61) (k := 1) (i := 1) 1 rfl rfl ⟨by decide +kernel, rfl⟩ ?_
  refine z_iload (pc' := 63) (i := 4) 2 rfl ⟨by decide +kernel, rfl⟩ ?_
  refine z_iast (pc' := 64) 41 rfl (zlt rfl) rfl rfl ⟨by decide +kernel, rfl⟩ (z_letU fun u1 => ?_)
  refine z_aload_n (pc' := 65) (k := 0) (i := 0) 0 rfl rfl ⟨by decide +kernel, rfl⟩ ?_
  refine z_getR (pc' := 68) (cef_H25_36 ca D) rfl (y := a 39) rfl ⟨by decide +kernel, rfl⟩ ?_
  refine z_iload_n (pc' := 69) (k := 1) (i := 1) 1 rfl rfl ⟨by decide +kernel, rfl⟩ ?_
  refine z_dup2_11 (pc' := 70) rfl rfl ⟨by decide +kernel, rfl⟩ ?_
  refine z_iald (pc' := 71) 39 rfl (zlt rfl) rfl rfl ⟨by decide +kernel, rfl⟩ ?_
  refine z_iconst (pc' := 72) (n := 1) (v := 1) (by decide) ⟨by decide +kernel, rfl⟩ ?_
  refine z_iadd (pc' := 73) ⟨by decide +kernel, rfl⟩ ?_
  refine z_iast (pc' := 74) 39 rfl (zlt rfl) rfl rfl ⟨by decide +kernel, rfl⟩ (z_letU fun u2 => ?_)
  refine z_iload (pc' := 76) (i := 4) 2 rfl ⟨by decide +kernel, rfl⟩ ?_
  exact z_iret (pc' := 77) ⟨by decide +kernel, rfl⟩
set_option maxRecDepth 20000 in
set_option maxHeartbeats 4000000 in
theorem cet_H_append {l : Launch} {ca : Nat → ClassId} {D : va_G} {a g : Nat → Nat} (n : Nat) (u : zMu) (x1 : Int32) (x2 : Int64) : zMet l (zCe ca D) ceY_H_append (.code ceY_H_append prog_4_method_10_code 5 (some .int)) zri false 3 a g [.ref (a 36), .int x1, .long x2] u (ce_H_append n u x1 x2) := by
  refine zMet.of rfl (Nat.le_of_ble_eq_true rfl) fun κ A hl => ?_
  subst hl
  unfold ce_H_append
  refine z_aload_n (pc' := 1) (k := 0) (i := 0) 0 rfl rfl ⟨by decide +kernel, rfl⟩ ?_
  refine z_callV (pc' := 4) 36 (cet_H_freshCell n u) (ceG_H95 ca D) (ceO_36 ca D) rfl (fun h => by cases h) (by omega) rfl rfl (Nat.le_of_ble_eq_true rfl) ⟨by decide +kernel, rfl⟩ (fun r2 u3 g1 _ => ?_)
  refine z_istore (pc' := 6) (i := 4) (by decide) rfl ⟨by decide +kernel, rfl⟩ ?_
  refine z_aload_n (pc' := 7) (k := 0) (i := 0) 1 rfl rfl ⟨by decide +kernel, rfl⟩ ?_
  refine z_getR (pc' := 10) (cef_H38_36 ca D) rfl (y := g1 88) rfl ⟨by decide +kernel, rfl⟩ ?_
  refine z_iload (pc' := 12) (i := 4) 0 rfl ⟨by decide +kernel, rfl⟩ ?_
  refine z_lload_n (pc' := 13) (k := 2) (i := 2) 3 rfl rfl ⟨by decide +kernel, rfl⟩ ?_
  refine z_last (pc' := 14) 88 rfl (zlt rfl) rfl rfl ⟨by decide +kernel, rfl⟩ (z_letU fun u4 => ?_)
  refine z_aload_n (pc' := 15) (k := 0) (i := 0) 1 rfl rfl ⟨by decide +kernel, rfl⟩ ?_
  refine z_getR (pc' := 18) (cef_H41_36 ca D) rfl (y := g1 89) rfl ⟨by decide +kernel, rfl⟩ ?_
  refine z_iload (pc' := 20) (i := 4) 0 rfl ⟨by decide +kernel, rfl⟩ ?_
  refine z_iconst (pc' := 21) (n := (-1)) (v := (-1)) (by decide) ⟨by decide +kernel, rfl⟩ ?_
  refine z_iast (pc' := 22) 89 rfl (zlt rfl) rfl rfl ⟨by decide +kernel, rfl⟩ (z_letU fun u5 => ?_)
  refine z_aload_n (pc' := 23) (k := 0) (i := 0) 1 rfl rfl ⟨by decide +kernel, rfl⟩ ?_
  refine z_getR (pc' := 26) (cef_H31_36 ca D) rfl (y := a 41) rfl ⟨by decide +kernel, rfl⟩ ?_
  refine z_iload_n (pc' := 27) (k := 1) (i := 1) 2 rfl rfl ⟨by decide +kernel, rfl⟩ ?_
  refine z_iald (pc' := 28) 41 rfl (zlt rfl) rfl rfl ⟨by decide +kernel, rfl⟩ ?_
  refine z_iconst (pc' := 29) (n := (-1)) (v := (-1)) (by decide) ⟨by decide +kernel, rfl⟩ ?_
  refine z_icmp_ne (pc' := 32) (tgt := 43) (off := 14) ⟨by decide +kernel, rfl⟩ rfl (fun h6 => ?_) (fun h6 => ?_)
  · refine z_aload_n (pc' := 33) (k := 0) (i := 0) 1 rfl rfl ⟨by decide +kernel, rfl⟩ ?_
    refine z_getR (pc' := 36) (cef_H28_36 ca D) rfl (y := a 40) rfl ⟨by decide +kernel, rfl⟩ ?_
    refine z_iload_n (pc' := 37) (k := 1) (i := 1) 2 rfl rfl ⟨by decide +kernel, rfl⟩ ?_
    refine z_iload (pc' := 39) (i := 4) 0 rfl ⟨by decide +kernel, rfl⟩ ?_
    refine z_iast (pc' := 40) 40 rfl (zlt rfl) rfl rfl ⟨by decide +kernel, rfl⟩ (z_letU fun u7 => ?_)
    refine z_goto (tgt := 56) (off := 16) (by decide +kernel) rfl ?_
    refine z_lv [1, 2, 0] (lv' := [(0, .ref (a 36)), (1, .int x1), (4, .int r2)]) rfl ?_
    exact ce_H_append_J56_t n g1 u7 x1 r2
  · refine z_aload_n (pc' := 44) (k := 0) (i := 0) 1 rfl rfl ⟨by decide +kernel, rfl⟩ ?_
    refine z_getR (pc' := 47) (cef_H41_36 ca D) rfl (y := g1 89) rfl ⟨by decide +kernel, rfl⟩ ?_
    refine z_aload_n (pc' := 48) (k := 0) (i := 0) 1 rfl rfl ⟨by decide +kernel, rfl⟩ ?_
    refine z_getR (pc' := 51) (cef_H31_36 ca D) rfl (y := a 41) rfl ⟨by decide +kernel, rfl⟩ ?_
    refine z_iload_n (pc' := 52) (k := 1) (i := 1) 2 rfl rfl ⟨by decide +kernel, rfl⟩ ?_
    refine z_iald (pc' := 53) 41 rfl (zlt rfl) rfl rfl ⟨by decide +kernel, rfl⟩ ?_
    refine z_iload (pc' := 55) (i := 4) 0 rfl ⟨by decide +kernel, rfl⟩ ?_
    refine z_iast (pc' := 56) 89 rfl (zlt rfl) rfl rfl ⟨by decide +kernel, rfl⟩ (z_letU fun u8 => ?_)
    refine z_lv [1, 2, 0] (lv' := [(0, .ref (a 36)), (1, .int x1), (4, .int r2)]) rfl ?_
    exact ce_H_append_J56_t n g1 u8 x1 r2
set_option maxRecDepth 20000 in
set_option maxHeartbeats 4000000 in
theorem cet_H_loseShape {l : Launch} {ca : Nat → ClassId} {D : va_G} {a g : Nat → Nat} (n : Nat) (u : zMu) (x1 : Int32) : zMet l (zCe ca D) ceY_H_loseShape (.code ceY_H_loseShape prog_4_method_12_code 2 none) zrv true 0 a g [.ref (a 36), .int x1] u (ce_H_loseShape n u x1) := by
  refine zMet.of rfl (Nat.le_of_ble_eq_true rfl) fun κ A hl => ?_
  subst hl
  unfold ce_H_loseShape
  refine z_aload_n (pc' := 1) (k := 0) (i := 0) 0 rfl rfl ⟨by decide +kernel, rfl⟩ ?_
  refine z_getR (pc' := 4) (cef_H18_36 ca D) rfl (y := a 37) rfl ⟨by decide +kernel, rfl⟩ ?_
  refine z_iload_n (pc' := 5) (k := 1) (i := 1) 1 rfl rfl ⟨by decide +kernel, rfl⟩ ?_
  refine z_iald (pc' := 6) 37 rfl (zlt rfl) rfl rfl ⟨by decide +kernel, rfl⟩ ?_
  refine z_iconst (pc' := 7) (n := (-1)) (v := (-1)) (by decide) ⟨by decide +kernel, rfl⟩ ?_
  refine z_icmp_eq (pc' := 10) (tgt := 20) (off := 13) ⟨by decide +kernel, rfl⟩ rfl (fun h1 => ?_) (fun h1 => ?_)
  · refine z_aload_n (pc' := 21) (k := 0) (i := 0) 0 rfl rfl ⟨by decide +kernel, rfl⟩ ?_
    refine z_getR (pc' := 24) (cef_H18_36 ca D) rfl (y := a 37) rfl ⟨by decide +kernel, rfl⟩ ?_
    refine z_iload_n (pc' := 25) (k := 1) (i := 1) 1 rfl rfl ⟨by decide +kernel, rfl⟩ ?_
    refine z_iconst (pc' := 26) (n := (-1)) (v := (-1)) (by decide) ⟨by decide +kernel, rfl⟩ ?_
    refine z_iast (pc' := 27) 37 rfl (zlt rfl) rfl rfl ⟨by decide +kernel, rfl⟩ (z_letU fun u2 => ?_)
    exact z_vret (pc' := 28) ⟨by decide +kernel, rfl⟩
  · refine z_aload_n (pc' := 11) (k := 0) (i := 0) 0 rfl rfl ⟨by decide +kernel, rfl⟩ ?_
    refine z_dup (pc' := 12) rfl ⟨by decide +kernel, rfl⟩ ?_
    refine z_getI (pc' := 15) (cef_H60_36 ca D) rfl ⟨by decide +kernel, rfl⟩ ?_
    refine z_iconst (pc' := 16) (n := 1) (v := 1) (by decide) ⟨by decide +kernel, rfl⟩ ?_
    refine z_iadd (pc' := 17) ⟨by decide +kernel, rfl⟩ ?_
    refine z_putI (pc' := 20) (cef_H60_36 ca D) rfl ⟨by decide +kernel, rfl⟩ (z_letU fun u3 => ?_)
    refine z_aload_n (pc' := 21) (k := 0) (i := 0) 0 rfl rfl ⟨by decide +kernel, rfl⟩ ?_
    refine z_getR (pc' := 24) (cef_H18_36 ca D) rfl (y := a 37) rfl ⟨by decide +kernel, rfl⟩ ?_
    refine z_iload_n (pc' := 25) (k := 1) (i := 1) 1 rfl rfl ⟨by decide +kernel, rfl⟩ ?_
    refine z_iconst (pc' := 26) (n := (-1)) (v := (-1)) (by decide) ⟨by decide +kernel, rfl⟩ ?_
    refine z_iast (pc' := 27) 37 rfl (zlt rfl) rfl rfl ⟨by decide +kernel, rfl⟩ (z_letU fun u4 => ?_)
    exact z_vret (pc' := 28) ⟨by decide +kernel, rfl⟩
set_option maxRecDepth 20000 in
set_option maxHeartbeats 4000000 in
theorem cet_S_isShape {l : Launch} {ca : Nat → ClassId} {D : va_G} {a g : Nat → Nat} (n : Nat) (u : zMu) (x1 : Int32) : zMet l (zCe ca D) ceY_S_isShape (.code ceY_S_isShape prog_9_method_3_code 2 (some .boolean)) zri true 0 a g [.ref (a 43), .int x1] u (ce_S_isShape n u x1) := by
  refine zMet.of rfl (Nat.le_of_ble_eq_true rfl) fun κ A hl => ?_
  subst hl
  unfold ce_S_isShape
  refine z_iload_n (pc' := 1) (k := 1) (i := 1) 1 rfl rfl ⟨by decide +kernel, rfl⟩ ?_
  refine z_if_lt (pc' := 4) (tgt := 16) (off := 15) ⟨by decide +kernel, rfl⟩ rfl (fun h1 => ?_) (fun h1 => ?_)
  · refine z_iconst (pc' := 17) (n := 0) (v := 0) (by decide) ⟨by decide +kernel, rfl⟩ ?_
    exact z_zret (pc' := 18) (by decide) ⟨by decide +kernel, rfl⟩
  · refine z_iload_n (pc' := 5) (k := 1) (i := 1) 1 rfl rfl ⟨by decide +kernel, rfl⟩ ?_
    refine z_aload_n (pc' := 6) (k := 0) (i := 0) 0 rfl rfl ⟨by decide +kernel, rfl⟩ ?_
    refine z_getI (pc' := 9) (cef_S43_43 ca D) rfl ⟨by decide +kernel, rfl⟩ ?_
    refine z_icmp_ge (pc' := 12) (tgt := 16) (off := 7) ⟨by decide +kernel, rfl⟩ rfl (fun h2 => ?_) (fun h2 => ?_)
    · refine z_iconst (pc' := 13) (n := 1) (v := 1) (by decide) ⟨by decide +kernel, rfl⟩ ?_
      refine z_goto (tgt := 17) (off := 4) (by decide +kernel) rfl ?_
      exact z_zret (pc' := 18) (by decide) ⟨by decide +kernel, rfl⟩
    · refine z_iconst (pc' := 17) (n := 0) (v := 0) (by decide) ⟨by decide +kernel, rfl⟩ ?_
      exact z_zret (pc' := 18) (by decide) ⟨by decide +kernel, rfl⟩
set_option maxRecDepth 20000 in
set_option maxHeartbeats 4000000 in
theorem ce_S_with_J68_t {κ : zKx} {ca : Nat → ClassId} {D : va_G} {A : Nat → Prop} {c0 : Nat × Nat} {a g0 : Nat → Nat} (n : Nat) (g : Nat → Nat) (u : zMu) (x1 : Int32) (x2 : Int64) : zJ κ (zCe ca D) prog_9_method_7_code 6 ce_RS (some .int) zri false 4 A c0 a g0 g u 68 [(0, .ref (a 43)), (1, .int x1), (2, .long x2)] [] (ce_S_with_J68 n u x1 x2) := by
  unfold ce_S_with_J68
  refine z_aload_n (pc' := 69) (k := 0) (i := 0) 0 rfl rfl ⟨by decide +kernel, rfl⟩ ?_
  refine z_aload_n (pc' := 70) (k := 0) (i := 0) 0 rfl rfl ⟨by decide +kernel, rfl⟩ ?_
  refine z_getR (pc' := 73) (cef_S15_43 ca D) rfl (y := g 81) rfl ⟨by decide +kernel, rfl⟩ ?_
  refine z_iload_n (pc' := 74) (k := 1) (i := 1) 1 rfl rfl ⟨by decide +kernel, rfl⟩ ?_
  refine z_iald (pc' := 75) 81 rfl (zlt rfl) rfl rfl ⟨by decide +kernel, rfl⟩ ?_
  refine z_iload_n (pc' := 76) (k := 1) (i := 1) 1 rfl rfl ⟨by decide +kernel, rfl⟩ ?_
  refine z_lload_n (pc' := 77) (k := 2) (i := 2) 2 rfl rfl ⟨by decide +kernel, rfl⟩ ?_
  refine z_callV (pc' := 80) 43 (cet_S_add n u (zI u 81 (zx x1)) x1 x2) (ceG_S51 ca D) (ceO_43 ca D) rfl (fun h => by cases h) (by omega) rfl rfl (Nat.le_of_ble_eq_true rfl) ⟨by decide +kernel, rfl⟩ (fun r2 u3 g1 _ => ?_)
  refine z_istore (pc' := 82) (i := 5) (by decide) rfl ⟨by decide +kernel, rfl⟩ ?_
  refine z_aload_n (pc' := 83) (k := 0) (i := 0) 1 rfl rfl ⟨by decide +kernel, rfl⟩ ?_
  refine z_getR (pc' := 86) (cef_S34_43 ca D) rfl (y := g1 87) rfl ⟨by decide +kernel, rfl⟩ ?_
  refine z_iload (pc' := 88) (i := 5) 0 rfl ⟨by decide +kernel, rfl⟩ ?_
  refine z_aload_n (pc' := 89) (k := 0) (i := 0) 1 rfl rfl ⟨by decide +kernel, rfl⟩ ?_
  refine z_getR (pc' := 92) (cef_S31_43 ca D) rfl (y := g1 86) rfl ⟨by decide +kernel, rfl⟩ ?_
  refine z_iload_n (pc' := 93) (k := 1) (i := 1) 2 rfl rfl ⟨by decide +kernel, rfl⟩ ?_
  refine z_iald (pc' := 94) 86 rfl (zlt rfl) rfl rfl ⟨by decide +kernel, rfl⟩ ?_
  refine z_iast (pc' := 95) 87 rfl (zlt rfl) rfl rfl ⟨by decide +kernel, rfl⟩ (z_letU fun u4 => ?_)
  refine z_aload_n (pc' := 96) (k := 0) (i := 0) 1 rfl rfl ⟨by decide +kernel, rfl⟩ ?_
  refine z_getR (pc' := 99) (cef_S31_43 ca D) rfl (y := g1 86) rfl ⟨by decide +kernel, rfl⟩ ?_
  refine z_iload_n (pc' := 100) (k := 1) (i := 1) 2 rfl rfl ⟨by decide +kernel, rfl⟩ ?_
  refine z_iload (pc' := 102) (i := 5) 0 rfl ⟨by decide +kernel, rfl⟩ ?_
  refine z_iast (pc' := 103) 86 rfl (zlt rfl) rfl rfl ⟨by decide +kernel, rfl⟩ (z_letU fun u5 => ?_)
  refine z_aload_n (pc' := 104) (k := 0) (i := 0) 1 rfl rfl ⟨by decide +kernel, rfl⟩ ?_
  refine z_getR (pc' := 107) (cef_S24_43 ca D) rfl (y := g1 84) rfl ⟨by decide +kernel, rfl⟩ ?_
  refine z_iload_n (pc' := 108) (k := 1) (i := 1) 2 rfl rfl ⟨by decide +kernel, rfl⟩ ?_
  refine z_dup2_11 (pc' := 109) rfl rfl ⟨by decide +kernel, rfl⟩ ?_
  refine z_iald (pc' := 110) 84 rfl (zlt rfl) rfl rfl ⟨by decide +kernel, rfl⟩ ?_
  refine z_iconst (pc' := 111) (n := 1) (v := 1) (by decide) ⟨by decide +kernel, rfl⟩ ?_
  refine z_iadd (pc' := 112) ⟨by decide +kernel, rfl⟩ ?_
  refine z_iast (pc' := 113) 84 rfl (zlt rfl) rfl rfl ⟨by decide +kernel, rfl⟩ (z_letU fun u6 => ?_)
  refine z_iload (pc' := 115) (i := 5) 0 rfl ⟨by decide +kernel, rfl⟩ ?_
  exact z_iret (pc' := 116) ⟨by decide +kernel, rfl⟩
set_option maxRecDepth 20000 in
set_option maxHeartbeats 4000000 in
theorem ce_S_with_L21_t {κ : zKx} {ca : Nat → ClassId} {D : va_G} {A : Nat → Prop} {c0 : Nat × Nat} {a g0 : Nat → Nat} (n : Nat) : ∀ (m : Nat) (g : Nat → Nat) (u : zMu) (x1 : Int32) (x2 : Int64) (x4 : Int32) (x5 : Int32), zJ κ (zCe ca D) prog_9_method_7_code 6 ce_RS (some .int) zri false 4 A c0 a g0 g u 21 [(0, .ref (a 43)), (1, .int x1), (2, .long x2), (4, .int x4), (5, .int x5)] [] (ce_S_with_L21 n m u x1 x2 x4 x5) := by
  intro m
  induction m with
  | zero => intro g u x1 x2 x4 x5 r u' h; cases h
  | succ m ih =>
    intro g u x1 x2 x4 x5
    unfold ce_S_with_L21
    refine z_iload (pc' := 23) (i := 5) 4 rfl ⟨by decide +kernel, rfl⟩ ?_
    refine z_aload_n (pc' := 24) (k := 0) (i := 0) 0 rfl rfl ⟨by decide +kernel, rfl⟩ ?_
    refine z_getR (pc' := 27) (cef_S24_43 ca D) rfl (y := g 84) rfl ⟨by decide +kernel, rfl⟩ ?_
    refine z_iload_n (pc' := 28) (k := 1) (i := 1) 1 rfl rfl ⟨by decide +kernel, rfl⟩ ?_
    refine z_iald (pc' := 29) 84 rfl (zlt rfl) rfl rfl ⟨by decide +kernel, rfl⟩ ?_
    refine z_icmp_ge (pc' := 32) (tgt := 68) (off := 39) ⟨by decide +kernel, rfl⟩ rfl (fun h1 => ?_) (fun h1 => ?_)
    · refine z_iload (pc' := 34) (i := 4) 3 rfl ⟨by decide +kernel, rfl⟩ ?_
      refine z_iconst (pc' := 35) (n := (-1)) (v := (-1)) (by decide) ⟨by decide +kernel, rfl⟩ ?_
      refine z_icmp_eq (pc' := 38) (tgt := 68) (off := 33) ⟨by decide +kernel, rfl⟩ rfl (fun h2 => ?_) (fun h2 => ?_)
      · refine z_lv [0, 1, 2] (lv' := [(0, .ref (a 43)), (1, .int x1), (2, .long x2)]) rfl ?_
        exact ce_S_with_J68_t n g u x1 x2
      · refine z_aload_n (pc' := 39) (k := 0) (i := 0) 0 rfl rfl ⟨by decide +kernel, rfl⟩ ?_
        refine z_getR (pc' := 42) (cef_S27_43 ca D) rfl (y := g 85) rfl ⟨by decide +kernel, rfl⟩ ?_
        refine z_iload (pc' := 44) (i := 4) 3 rfl ⟨by decide +kernel, rfl⟩ ?_
        refine z_lald (pc' := 45) 85 rfl (zlt rfl) rfl rfl ⟨by decide +kernel, rfl⟩ ?_
        refine z_lload_n (pc' := 46) (k := 2) (i := 2) 2 rfl rfl ⟨by decide +kernel, rfl⟩ ?_
        refine z_lcmp (pc' := 47) ⟨by decide +kernel, rfl⟩ ?_
        refine z_if_ne (pc' := 50) (tgt := 53) (off := 6) ⟨by decide +kernel, rfl⟩ rfl (fun h3 => ?_) (fun h3 => ?_)
        · refine z_iload (pc' := 52) (i := 4) 3 rfl ⟨by decide +kernel, rfl⟩ ?_
          exact z_iret (pc' := 53) ⟨by decide +kernel, rfl⟩
        · refine z_aload_n (pc' := 54) (k := 0) (i := 0) 0 rfl rfl ⟨by decide +kernel, rfl⟩ ?_
          refine z_getR (pc' := 57) (cef_S34_43 ca D) rfl (y := g 87) rfl ⟨by decide +kernel, rfl⟩ ?_
          refine z_iload (pc' := 59) (i := 4) 3 rfl ⟨by decide +kernel, rfl⟩ ?_
          refine z_iald (pc' := 60) 87 rfl (zlt rfl) rfl rfl ⟨by decide +kernel, rfl⟩ ?_
          refine z_letI fun v4 => ?_
          refine z_istore (pc' := 62) (i := 4) (by decide) rfl ⟨by decide +kernel, rfl⟩ ?_
          refine z_iincN (pc' := 65) (i := 5) (n := 1) (c := 1) 4 rfl (by decide) (by decide) rfl ⟨by decide +kernel, rfl⟩ fun v5 => ?_
          refine z_goto (tgt := 21) (off := -44) (by decide +kernel) rfl ?_
          refine z_lv [2, 3, 4, 1, 0] (lv' := [(0, .ref (a 43)), (1, .int x1), (2, .long x2), (4, .int v4), (5, .int v5)]) rfl ?_
          exact ih g u x1 x2 v4 v5
    · refine z_lv [0, 1, 2] (lv' := [(0, .ref (a 43)), (1, .int x1), (2, .long x2)]) rfl ?_
      exact ce_S_with_J68_t n g u x1 x2
set_option maxRecDepth 20000 in
set_option maxHeartbeats 4000000 in
theorem cet_S_with {l : Launch} {ca : Nat → ClassId} {D : va_G} {a g : Nat → Nat} (n : Nat) (u : zMu) (x1 : Int32) (x2 : Int64) : zMet l (zCe ca D) ceY_S_with (.code ceY_S_with prog_9_method_7_code 6 (some .int)) zri false 4 a g [.ref (a 43), .int x1, .long x2] u (ce_S_with n u x1 x2) := by
  refine zMet.of rfl (Nat.le_of_ble_eq_true rfl) fun κ A hl => ?_
  subst hl
  unfold ce_S_with
  refine z_aload_n (pc' := 1) (k := 0) (i := 0) 0 rfl rfl ⟨by decide +kernel, rfl⟩ ?_
  refine z_iload_n (pc' := 2) (k := 1) (i := 1) 1 rfl rfl ⟨by decide +kernel, rfl⟩ ?_
  refine z_callVf (pc' := 5) 43 (cet_S_isShape n u x1) (ceG_S47 ca D) (ceO_43 ca D) rfl (by omega) rfl rfl (Nat.le_of_ble_eq_true rfl) ⟨by decide +kernel, rfl⟩ (fun r1 u2 => ?_)
  refine z_if_ne (pc' := 8) (tgt := 10) (off := 5) ⟨by decide +kernel, rfl⟩ rfl (fun h3 => ?_) (fun h3 => ?_)
  · refine z_iconst (pc' := 9) (n := (-1)) (v := (-1)) (by decide) ⟨by decide +kernel, rfl⟩ ?_
    exact z_iret (pc' := 10) ⟨by decide +kernel, rfl⟩
  · refine z_aload_n (pc' := 11) (k := 0) (i := 0) 0 rfl rfl ⟨by decide +kernel, rfl⟩ ?_
    refine z_getR (pc' := 14) (cef_S31_43 ca D) rfl (y := g 86) rfl ⟨by decide +kernel, rfl⟩ ?_
    refine z_iload_n (pc' := 15) (k := 1) (i := 1) 1 rfl rfl ⟨by decide +kernel, rfl⟩ ?_
    refine z_iald (pc' := 16) 86 rfl (zlt rfl) rfl rfl ⟨by decide +kernel, rfl⟩ ?_
    refine z_letI fun v4 => ?_
    refine z_istore (pc' := 18) (i := 4) (by decide) rfl ⟨by decide +kernel, rfl⟩ ?_
    refine z_iconst (pc' := 19) (n := 0) (v := 0) (by decide) ⟨by decide +kernel, rfl⟩ ?_
    refine z_istore (pc' := 21) (i := 5) (by decide) rfl ⟨by decide +kernel, rfl⟩ ?_
    refine z_lv [2, 3, 4, 1, 0] (lv' := [(0, .ref (a 43)), (1, .int x1), (2, .long x2), (4, .int v4), (5, .int 0)]) rfl ?_
    exact ce_S_with_L21_t n n g u2 x1 x2 v4 0
set_option maxRecDepth 20000 in
set_option maxHeartbeats 4000000 in
theorem cet_V_grow {l : Launch} {ca : Nat → ClassId} {D : va_G} {a g : Nat → Nat} (n : Nat) (v : Nat) (hv : zvl v = true) (u : zMu) (x1 : Int32) : zMet l (zCe ca D) ceY_V_grow (.code ceY_V_grow prog_11_method_3_code 3 none) zrv false 2 a g [.ref (a v), .int x1] u (ce_V_grow n v u x1) := by
  refine zMet.of rfl (Nat.le_of_ble_eq_true rfl) fun κ A hl => ?_
  subst hl
  unfold ce_V_grow
  refine z_aload_n (pc' := 1) (k := 0) (i := 0) 0 rfl rfl ⟨by decide +kernel, rfl⟩ ?_
  refine z_getI (pc' := 4) (cef_V15_V ca D hv) (ce_adV0 hv) ⟨by decide +kernel, rfl⟩ ?_
  refine z_iload_n (pc' := 5) (k := 1) (i := 1) 1 rfl rfl ⟨by decide +kernel, rfl⟩ ?_
  refine z_iconst (pc' := 6) (n := 1) (v := 1) (by decide) ⟨by decide +kernel, rfl⟩ ?_
  refine z_iadd (pc' := 7) ⟨by decide +kernel, rfl⟩ ?_
  refine z_iconst (pc' := 8) (n := 2) (v := 2) (by decide) ⟨by decide +kernel, rfl⟩ ?_
  refine z_aload_n (pc' := 9) (k := 0) (i := 0) 0 rfl rfl ⟨by decide +kernel, rfl⟩ ?_
  refine z_getR (pc' := 12) (cef_V21_V ca D hv) (ce_adV0 hv) (y := g (v + 1)) (ce_frV1 hv) ⟨by decide +kernel, rfl⟩ ?_
  refine z_alen (pc' := 13) (v + 1) (t := 2) (p := 1) (ce_ckV1 hv) rfl (by decide) (ce_clV1 hv) (ce_cnV1 hv) (ce_adV1 hv) rfl ⟨by decide +kernel, rfl⟩ ?_
  refine z_imul (pc' := 14) ⟨by decide +kernel, rfl⟩ ?_
  refine z_mmax (pc' := 17) (ce_w0 10 rfl) (ce_w0 3 rfl) (ce_w0 4 rfl) (ce_w0 5 rfl) (by omega) (Nat.le_of_ble_eq_true rfl) ⟨by decide +kernel, rfl⟩ ?_
  refine z_letI fun v1 => ?_
  refine z_mmin (pc' := 20) (ce_w0 11 rfl) (ce_w0 7 rfl) (ce_w0 4 rfl) (ce_w0 8 rfl) (by omega) (Nat.le_of_ble_eq_true rfl) ⟨by decide +kernel, rfl⟩ ?_
  refine z_letI fun v2 => ?_
  refine z_istore_n (pc' := 21) (k := 2) (i := 2) rfl (by decide) rfl ⟨by decide +kernel, rfl⟩ ?_
  refine z_aload_n (pc' := 22) (k := 0) (i := 0) 1 rfl rfl ⟨by decide +kernel, rfl⟩ ?_
  refine z_aload_n (pc' := 23) (k := 0) (i := 0) 1 rfl rfl ⟨by decide +kernel, rfl⟩ ?_
  refine z_getR (pc' := 26) (cef_V21_V ca D hv) (ce_adV0 hv) (y := g (v + 1)) (ce_frV1 hv) ⟨by decide +kernel, rfl⟩ ?_
  refine z_iload_n (pc' := 27) (k := 2) (i := 2) 0 rfl rfl ⟨by decide +kernel, rfl⟩ ?_
  refine z_growB (pc' := 33) (c := v + 1) (cef_V21_V ca D hv) (ce_frcV1 hv) (ce_grV1 hv) (ce_adV0 hv) (ce_adV1 hv) (ceG_V36 ca D) (by omega) (Nat.le_of_ble_eq_true rfl) (by decide +kernel) (by decide +kernel) rfl fun u3 g4 => ?_
  refine z_aload_n (pc' := 34) (k := 0) (i := 0) 1 rfl rfl ⟨by decide +kernel, rfl⟩ ?_
  refine z_aload_n (pc' := 35) (k := 0) (i := 0) 1 rfl rfl ⟨by decide +kernel, rfl⟩ ?_
  refine z_getR (pc' := 38) (cef_V25_V ca D hv) (ce_adV0 hv) (y := g4 (v + 2)) (ce_frV2 hv) ⟨by decide +kernel, rfl⟩ ?_
  refine z_iload_n (pc' := 39) (k := 2) (i := 2) 0 rfl rfl ⟨by decide +kernel, rfl⟩ ?_
  refine z_growL (pc' := 45) (c := v + 2) (cef_V25_V ca D hv) (ce_frcV2 hv) (ce_grV2 hv) (ce_adV0 hv) (ce_adV2 hv) (ceG_V42 ca D) (by omega) (Nat.le_of_ble_eq_true rfl) (by decide +kernel) (by decide +kernel) rfl fun u5 g6 => ?_
  exact z_vret (pc' := 46) ⟨by decide +kernel, rfl⟩
set_option maxRecDepth 20000 in
set_option maxHeartbeats 4000000 in
theorem ce_V_set_J27_t {κ : zKx} {ca : Nat → ClassId} {D : va_G} {A : Nat → Prop} {c0 : Nat × Nat} {a g0 : Nat → Nat} (n : Nat) (v : Nat) (hv : zvl v = true) (g : Nat → Nat) (u : zMu) (x1 : Int32) (x2 : Int32) (x3 : Int64) : zJ κ (zCe ca D) prog_11_method_2_code 5 ce_RV none zrv false 3 A c0 a g0 g u 27 [(0, .ref (a v)), (1, .int x1), (2, .int x2), (3, .long x3)] [] (ce_V_set_J27 n v u x1 x2 x3) := by
  unfold ce_V_set_J27
  refine z_aload_n (pc' := 28) (k := 0) (i := 0) 0 rfl rfl ⟨by decide +kernel, rfl⟩ ?_
  refine z_getR (pc' := 31) (cef_V21_V ca D hv) (ce_adV0 hv) (y := g (v + 1)) (ce_frV1 hv) ⟨by decide +kernel, rfl⟩ ?_
  refine z_iload_n (pc' := 32) (k := 1) (i := 1) 1 rfl rfl ⟨by decide +kernel, rfl⟩ ?_
  refine z_iload_n (pc' := 33) (k := 2) (i := 2) 2 rfl rfl ⟨by decide +kernel, rfl⟩ ?_
  refine z_i2b (pc' := 34) ⟨by decide +kernel, rfl⟩ ?_
  refine z_bast (pc' := 35) (v + 1) (ce_ckV1 hv) (ce_clV1 hv) (ce_cnV1 hv) (ce_adV1 hv) ⟨by decide +kernel, rfl⟩ (z_letU fun u1 => ?_)
  refine z_aload_n (pc' := 36) (k := 0) (i := 0) 0 rfl rfl ⟨by decide +kernel, rfl⟩ ?_
  refine z_getR (pc' := 39) (cef_V25_V ca D hv) (ce_adV0 hv) (y := g (v + 2)) (ce_frV2 hv) ⟨by decide +kernel, rfl⟩ ?_
  refine z_iload_n (pc' := 40) (k := 1) (i := 1) 1 rfl rfl ⟨by decide +kernel, rfl⟩ ?_
  refine z_lload_n (pc' := 41) (k := 3) (i := 3) 3 rfl rfl ⟨by decide +kernel, rfl⟩ ?_
  refine z_last (pc' := 42) (v + 2) (ce_ckV2 hv) (ce_clV2 hv) (ce_cnV2 hv) (ce_adV2 hv) ⟨by decide +kernel, rfl⟩ (z_letU fun u2 => ?_)
  exact z_vret (pc' := 43) ⟨by decide +kernel, rfl⟩
set_option maxRecDepth 20000 in
set_option maxHeartbeats 4000000 in
theorem cet_V_set {l : Launch} {ca : Nat → ClassId} {D : va_G} {a g : Nat → Nat} (n : Nat) (v : Nat) (hv : zvl v = true) (u : zMu) (x1 : Int32) (x2 : Int32) (x3 : Int64) : zMet l (zCe ca D) ceY_V_set (.code ceY_V_set prog_11_method_2_code 5 none) zrv false 3 a g [.ref (a v), .int x1, .int x2, .long x3] u (ce_V_set n v u x1 x2 x3) := by
  refine zMet.of rfl (Nat.le_of_ble_eq_true rfl) fun κ A hl => ?_
  subst hl
  unfold ce_V_set
  refine z_iload_n (pc' := 1) (k := 1) (i := 1) 1 rfl rfl ⟨by decide +kernel, rfl⟩ ?_
  refine z_if_lt (pc' := 4) (tgt := 12) (off := 11) ⟨by decide +kernel, rfl⟩ rfl (fun h1 => ?_) (fun h1 => ?_)
  · exact z_vret (pc' := 13) ⟨by decide +kernel, rfl⟩
  · refine z_iload_n (pc' := 5) (k := 1) (i := 1) 1 rfl rfl ⟨by decide +kernel, rfl⟩ ?_
    refine z_aload_n (pc' := 6) (k := 0) (i := 0) 0 rfl rfl ⟨by decide +kernel, rfl⟩ ?_
    refine z_getI (pc' := 9) (cef_V15_V ca D hv) (ce_adV0 hv) ⟨by decide +kernel, rfl⟩ ?_
    refine z_icmp_lt (pc' := 12) (tgt := 13) (off := 4) ⟨by decide +kernel, rfl⟩ rfl (fun h2 => ?_) (fun h2 => ?_)
    · refine z_iload_n (pc' := 14) (k := 1) (i := 1) 1 rfl rfl ⟨by decide +kernel, rfl⟩ ?_
      refine z_aload_n (pc' := 15) (k := 0) (i := 0) 0 rfl rfl ⟨by decide +kernel, rfl⟩ ?_
      refine z_getR (pc' := 18) (cef_V21_V ca D hv) (ce_adV0 hv) (y := g (v + 1)) (ce_frV1 hv) ⟨by decide +kernel, rfl⟩ ?_
      refine z_alen (pc' := 19) (v + 1) (t := 2) (p := 1) (ce_ckV1 hv) rfl (by decide) (ce_clV1 hv) (ce_cnV1 hv) (ce_adV1 hv) rfl ⟨by decide +kernel, rfl⟩ ?_
      refine z_icmp_lt (pc' := 22) (tgt := 27) (off := 8) ⟨by decide +kernel, rfl⟩ rfl (fun h3 => ?_) (fun h3 => ?_)
      · exact ce_V_set_J27_t n v hv g u x1 x2 x3
      · refine z_aload_n (pc' := 23) (k := 0) (i := 0) 0 rfl rfl ⟨by decide +kernel, rfl⟩ ?_
        refine z_iload_n (pc' := 24) (k := 1) (i := 1) 1 rfl rfl ⟨by decide +kernel, rfl⟩ ?_
        refine z_callV (pc' := 27) v (cet_V_grow n v hv u x1) (ceG_V29 ca D) (ceO_V ca D hv) (ce_adV0 hv) (fun h => by cases h) (by omega) rfl rfl (Nat.le_of_ble_eq_true rfl) ⟨by decide +kernel, rfl⟩ (fun _ u6 g4 _ => ?_)
        exact ce_V_set_J27_t n v hv g4 u6 x1 x2 x3
    · exact z_vret (pc' := 13) ⟨by decide +kernel, rfl⟩
set_option maxRecDepth 20000 in
set_option maxHeartbeats 4000000 in
theorem cet_H_give {l : Launch} {ca : Nat → ClassId} {D : va_G} {a g : Nat → Nat} (n : Nat) (u : zMu) (x1 : Int32) (x2 : Int64) (x4 : Int32) (x5 : Int64) : zMet l (zCe ca D) ceY_H_give (.code ceY_H_give prog_4_method_9_code 8 none) zrv false 5 a g [.ref (a 36), .int x1, .long x2, .int x4, .long x5] u (ce_H_give n u x1 x2 x4 x5) := by
  refine zMet.of rfl (Nat.le_of_ble_eq_true rfl) fun κ A hl => ?_
  subst hl
  unfold ce_H_give
  refine z_aload_n (pc' := 1) (k := 0) (i := 0) 0 rfl rfl ⟨by decide +kernel, rfl⟩ ?_
  refine z_iload_n (pc' := 2) (k := 1) (i := 1) 1 rfl rfl ⟨by decide +kernel, rfl⟩ ?_
  refine z_callVf (pc' := 5) 36 (cet_H_isObject n u x1) (ceG_H73 ca D) (ceO_36 ca D) rfl (by omega) rfl rfl (Nat.le_of_ble_eq_true rfl) ⟨by decide +kernel, rfl⟩ (fun r1 u2 => ?_)
  refine z_if_ne (pc' := 8) (tgt := 9) (off := 4) ⟨by decide +kernel, rfl⟩ rfl (fun h3 => ?_) (fun h3 => ?_)
  · exact z_vret (pc' := 9) ⟨by decide +kernel, rfl⟩
  · refine z_aload_n (pc' := 10) (k := 0) (i := 0) 0 rfl rfl ⟨by decide +kernel, rfl⟩ ?_
    refine z_iload_n (pc' := 11) (k := 1) (i := 1) 1 rfl rfl ⟨by decide +kernel, rfl⟩ ?_
    refine z_lload_n (pc' := 12) (k := 2) (i := 2) 2 rfl rfl ⟨by decide +kernel, rfl⟩ ?_
    refine z_callVf (pc' := 15) 36 (cet_H_find n u2 x1 x2) (ceG_H77 ca D) (ceO_36 ca D) rfl (by omega) rfl rfl (Nat.le_of_ble_eq_true rfl) ⟨by decide +kernel, rfl⟩ (fun r4 u5 => ?_)
    refine z_istore (pc' := 17) (i := 7) (by decide) rfl ⟨by decide +kernel, rfl⟩ ?_
    refine z_iload (pc' := 19) (i := 7) 0 rfl ⟨by decide +kernel, rfl⟩ ?_
    refine z_iconst (pc' := 20) (n := (-1)) (v := (-1)) (by decide) ⟨by decide +kernel, rfl⟩ ?_
    refine z_icmp_ne (pc' := 23) (tgt := 80) (off := 60) ⟨by decide +kernel, rfl⟩ rfl (fun h6 => ?_) (fun h6 => ?_)
    · refine z_aload_n (pc' := 24) (k := 0) (i := 0) 1 rfl rfl ⟨by decide +kernel, rfl⟩ ?_
      refine z_iload_n (pc' := 25) (k := 1) (i := 1) 2 rfl rfl ⟨by decide +kernel, rfl⟩ ?_
      refine z_lload_n (pc' := 26) (k := 2) (i := 2) 3 rfl rfl ⟨by decide +kernel, rfl⟩ ?_
      refine z_callV (pc' := 29) 36 (cet_H_append n u5 x1 x2) (ceG_H81 ca D) (ceO_36 ca D) rfl (fun h => by cases h) (by omega) rfl rfl (Nat.le_of_ble_eq_true rfl) ⟨by decide +kernel, rfl⟩ (fun r8 u9 g7 _ => ?_)
      refine z_istore (pc' := 31) (i := 7) (by decide) rfl ⟨by decide +kernel, rfl⟩ ?_
      refine z_aload_n (pc' := 32) (k := 0) (i := 0) 1 rfl rfl ⟨by decide +kernel, rfl⟩ ?_
      refine z_getR (pc' := 35) (cef_H25_36 ca D) rfl (y := a 39) rfl ⟨by decide +kernel, rfl⟩ ?_
      refine z_iload_n (pc' := 36) (k := 1) (i := 1) 2 rfl rfl ⟨by decide +kernel, rfl⟩ ?_
      refine z_iald (pc' := 37) 39 rfl (zlt rfl) rfl rfl ⟨by decide +kernel, rfl⟩ ?_
      refine z_bipush (pc' := 39) (n := 8) (v := 8) (by decide) ⟨by decide +kernel, rfl⟩ ?_
      refine z_icmp_le (pc' := 42) (tgt := 50) (off := 11) ⟨by decide +kernel, rfl⟩ rfl (fun h10 => ?_) (fun h10 => ?_)
      · refine z_aload_n (pc' := 43) (k := 0) (i := 0) 1 rfl rfl ⟨by decide +kernel, rfl⟩ ?_
        refine z_iload_n (pc' := 44) (k := 1) (i := 1) 2 rfl rfl ⟨by decide +kernel, rfl⟩ ?_
        refine z_callVf (pc' := 47) 36 (cet_H_loseShape n u9 x1) (ceG_H84 ca D) (ceO_36 ca D) rfl (by omega) rfl rfl (Nat.le_of_ble_eq_true rfl) ⟨by decide +kernel, rfl⟩ (fun _ u12 => ?_)
        refine z_goto (tgt := 80) (off := 33) (by decide +kernel) rfl ?_
        refine z_aload_n (pc' := 81) (k := 0) (i := 0) 1 rfl rfl ⟨by decide +kernel, rfl⟩ ?_
        refine z_getR (pc' := 84) (cef_H49_36 ca D) rfl (y := a 66) rfl ⟨by decide +kernel, rfl⟩ ?_
        refine z_iload (pc' := 86) (i := 7) 0 rfl ⟨by decide +kernel, rfl⟩ ?_
        refine z_iload (pc' := 88) (i := 4) 4 rfl ⟨by decide +kernel, rfl⟩ ?_
        refine z_lload (pc' := 90) (i := 5) 5 rfl ⟨by decide +kernel, rfl⟩ ?_
        refine z_callV (pc' := 93) 66 (cet_V_set n 66 rfl u12 r8 x4 x5) (ceG_H91 ca D) (ceO_66 ca D) rfl (fun h => by cases h) (by omega) rfl rfl (Nat.le_of_ble_eq_true rfl) ⟨by decide +kernel, rfl⟩ (fun _ u15 g13 _ => ?_)
        exact z_vret (pc' := 94) ⟨by decide +kernel, rfl⟩
      · refine z_aload_n (pc' := 51) (k := 0) (i := 0) 1 rfl rfl ⟨by decide +kernel, rfl⟩ ?_
        refine z_getR (pc' := 54) (cef_H18_36 ca D) rfl (y := a 37) rfl ⟨by decide +kernel, rfl⟩ ?_
        refine z_iload_n (pc' := 55) (k := 1) (i := 1) 2 rfl rfl ⟨by decide +kernel, rfl⟩ ?_
        refine z_iald (pc' := 56) 37 rfl (zlt rfl) rfl rfl ⟨by decide +kernel, rfl⟩ ?_
        refine z_iconst (pc' := 57) (n := (-1)) (v := (-1)) (by decide) ⟨by decide +kernel, rfl⟩ ?_
        refine z_icmp_eq (pc' := 60) (tgt := 80) (off := 23) ⟨by decide +kernel, rfl⟩ rfl (fun h16 => ?_) (fun h16 => ?_)
        · refine z_aload_n (pc' := 81) (k := 0) (i := 0) 1 rfl rfl ⟨by decide +kernel, rfl⟩ ?_
          refine z_getR (pc' := 84) (cef_H49_36 ca D) rfl (y := a 66) rfl ⟨by decide +kernel, rfl⟩ ?_
          refine z_iload (pc' := 86) (i := 7) 0 rfl ⟨by decide +kernel, rfl⟩ ?_
          refine z_iload (pc' := 88) (i := 4) 4 rfl ⟨by decide +kernel, rfl⟩ ?_
          refine z_lload (pc' := 90) (i := 5) 5 rfl ⟨by decide +kernel, rfl⟩ ?_
          refine z_callV (pc' := 93) 66 (cet_V_set n 66 rfl u9 r8 x4 x5) (ceG_H91 ca D) (ceO_66 ca D) rfl (fun h => by cases h) (by omega) rfl rfl (Nat.le_of_ble_eq_true rfl) ⟨by decide +kernel, rfl⟩ (fun _ u19 g17 _ => ?_)
          exact z_vret (pc' := 94) ⟨by decide +kernel, rfl⟩
        · refine z_aload_n (pc' := 61) (k := 0) (i := 0) 1 rfl rfl ⟨by decide +kernel, rfl⟩ ?_
          refine z_getR (pc' := 64) (cef_H18_36 ca D) rfl (y := a 37) rfl ⟨by decide +kernel, rfl⟩ ?_
          refine z_iload_n (pc' := 65) (k := 1) (i := 1) 2 rfl rfl ⟨by decide +kernel, rfl⟩ ?_
          refine z_aload_n (pc' := 66) (k := 0) (i := 0) 1 rfl rfl ⟨by decide +kernel, rfl⟩ ?_
          refine z_getR (pc' := 69) (cef_H12_36 ca D) rfl (y := a 43) rfl ⟨by decide +kernel, rfl⟩ ?_
          refine z_aload_n (pc' := 70) (k := 0) (i := 0) 1 rfl rfl ⟨by decide +kernel, rfl⟩ ?_
          refine z_getR (pc' := 73) (cef_H18_36 ca D) rfl (y := a 37) rfl ⟨by decide +kernel, rfl⟩ ?_
          refine z_iload_n (pc' := 74) (k := 1) (i := 1) 2 rfl rfl ⟨by decide +kernel, rfl⟩ ?_
          refine z_iald (pc' := 75) 37 rfl (zlt rfl) rfl rfl ⟨by decide +kernel, rfl⟩ ?_
          refine z_lload_n (pc' := 76) (k := 2) (i := 2) 3 rfl rfl ⟨by decide +kernel, rfl⟩ ?_
          refine z_callV (pc' := 79) 43 (cet_S_with n u9 (zI u9 37 (zx x1)) x2) (ceG_H88 ca D) (ceO_43 ca D) rfl (fun h => by cases h) (by omega) rfl rfl (Nat.le_of_ble_eq_true rfl) ⟨by decide +kernel, rfl⟩ (fun r21 u22 g20 _ => ?_)
          refine z_iast (pc' := 80) 37 rfl (zlt rfl) rfl rfl ⟨by decide +kernel, rfl⟩ (z_letU fun u23 => ?_)
          refine z_aload_n (pc' := 81) (k := 0) (i := 0) 1 rfl rfl ⟨by decide +kernel, rfl⟩ ?_
          refine z_getR (pc' := 84) (cef_H49_36 ca D) rfl (y := a 66) rfl ⟨by decide +kernel, rfl⟩ ?_
          refine z_iload (pc' := 86) (i := 7) 0 rfl ⟨by decide +kernel, rfl⟩ ?_
          refine z_iload (pc' := 88) (i := 4) 4 rfl ⟨by decide +kernel, rfl⟩ ?_
          refine z_lload (pc' := 90) (i := 5) 5 rfl ⟨by decide +kernel, rfl⟩ ?_
          refine z_callV (pc' := 93) 66 (cet_V_set n 66 rfl u23 r8 x4 x5) (ceG_H91 ca D) (ceO_66 ca D) rfl (fun h => by cases h) (by omega) rfl rfl (Nat.le_of_ble_eq_true rfl) ⟨by decide +kernel, rfl⟩ (fun _ u26 g24 _ => ?_)
          exact z_vret (pc' := 94) ⟨by decide +kernel, rfl⟩
    · refine z_aload_n (pc' := 81) (k := 0) (i := 0) 1 rfl rfl ⟨by decide +kernel, rfl⟩ ?_
      refine z_getR (pc' := 84) (cef_H49_36 ca D) rfl (y := a 66) rfl ⟨by decide +kernel, rfl⟩ ?_
      refine z_iload (pc' := 86) (i := 7) 0 rfl ⟨by decide +kernel, rfl⟩ ?_
      refine z_iload (pc' := 88) (i := 4) 4 rfl ⟨by decide +kernel, rfl⟩ ?_
      refine z_lload (pc' := 90) (i := 5) 5 rfl ⟨by decide +kernel, rfl⟩ ?_
      refine z_callV (pc' := 93) 66 (cet_V_set n 66 rfl u5 r4 x4 x5) (ceG_H91 ca D) (ceO_66 ca D) rfl (fun h => by cases h) (by omega) rfl rfl (Nat.le_of_ble_eq_true rfl) ⟨by decide +kernel, rfl⟩ (fun _ u29 g27 _ => ?_)
      exact z_vret (pc' := 94) ⟨by decide +kernel, rfl⟩
set_option maxRecDepth 20000 in
set_option maxHeartbeats 4000000 in
theorem ce_H_strike_J133_t {κ : zKx} {ca : Nat → ClassId} {D : va_G} {A : Nat → Prop} {c0 : Nat × Nat} {a g0 g : Nat → Nat} (n : Nat) (u : zMu) (x1 : Int32) (x5 : Int32) : zJ κ (zCe ca D) prog_4_method_13_code 7 ce_RH none zrv true 1 A c0 a g0 g u 133 [(0, .ref (a 36)), (1, .int x1), (5, .int x5)] [] (ce_H_strike_J133 n u x1 x5) := by
  unfold ce_H_strike_J133
  refine z_aload_n (pc' := 134) (k := 0) (i := 0) 0 rfl rfl ⟨by decide +kernel, rfl⟩ ?_
  refine z_getR (pc' := 137) (cef_H41_36 ca D) rfl (y := g 89) rfl ⟨by decide +kernel, rfl⟩ ?_
  refine z_iload (pc' := 139) (i := 5) 2 rfl ⟨by decide +kernel, rfl⟩ ?_
  refine z_aload_n (pc' := 140) (k := 0) (i := 0) 0 rfl rfl ⟨by decide +kernel, rfl⟩ ?_
  refine z_getI (pc' := 143) (cef_H66_36 ca D) rfl ⟨by decide +kernel, rfl⟩ ?_
  refine z_iast (pc' := 144) 89 rfl (zlt rfl) rfl rfl ⟨by decide +kernel, rfl⟩ (z_letU fun u1 => ?_)
  refine z_aload_n (pc' := 145) (k := 0) (i := 0) 0 rfl rfl ⟨by decide +kernel, rfl⟩ ?_
  refine z_iload (pc' := 147) (i := 5) 2 rfl ⟨by decide +kernel, rfl⟩ ?_
  refine z_putI (pc' := 150) (cef_H66_36 ca D) rfl ⟨by decide +kernel, rfl⟩ (z_letU fun u2 => ?_)
  refine z_aload_n (pc' := 151) (k := 0) (i := 0) 0 rfl rfl ⟨by decide +kernel, rfl⟩ ?_
  refine z_getR (pc' := 154) (cef_H25_36 ca D) rfl (y := a 39) rfl ⟨by decide +kernel, rfl⟩ ?_
  refine z_iload_n (pc' := 155) (k := 1) (i := 1) 1 rfl rfl ⟨by decide +kernel, rfl⟩ ?_
  refine z_dup2_11 (pc' := 156) rfl rfl ⟨by decide +kernel, rfl⟩ ?_
  refine z_iald (pc' := 157) 39 rfl (zlt rfl) rfl rfl ⟨by decide +kernel, rfl⟩ ?_
  refine z_iconst (pc' := 158) (n := 1) (v := 1) (by decide) ⟨by decide +kernel, rfl⟩ ?_
  refine z_isub (pc' := 159) ⟨by decide +kernel, rfl⟩ ?_
  refine z_iast (pc' := 160) 39 rfl (zlt rfl) rfl rfl ⟨by decide +kernel, rfl⟩ (z_letU fun u3 => ?_)
  refine z_aload_n (pc' := 161) (k := 0) (i := 0) 0 rfl rfl ⟨by decide +kernel, rfl⟩ ?_
  refine z_iload_n (pc' := 162) (k := 1) (i := 1) 1 rfl rfl ⟨by decide +kernel, rfl⟩ ?_
  refine z_callVf (pc' := 165) 36 (cet_H_loseShape n u3 x1) (ceG_H84 ca D) (ceO_36 ca D) rfl (by omega) rfl rfl (Nat.le_of_ble_eq_true rfl) ⟨by decide +kernel, rfl⟩ (fun _ u5 => ?_)
  exact z_vret (pc' := 166) ⟨by decide +kernel, rfl⟩
set_option maxRecDepth 20000 in
set_option maxHeartbeats 4000000 in
theorem ce_H_strike_J114_t {κ : zKx} {ca : Nat → ClassId} {D : va_G} {A : Nat → Prop} {c0 : Nat × Nat} {a g0 g : Nat → Nat} (n : Nat) (u : zMu) (x1 : Int32) (x4 : Int32) (x5 : Int32) : zJ κ (zCe ca D) prog_4_method_13_code 7 ce_RH none zrv true 1 A c0 a g0 g u 114 [(0, .ref (a 36)), (1, .int x1), (4, .int x4), (5, .int x5)] [] (ce_H_strike_J114 n u x1 x4 x5) := by
  unfold ce_H_strike_J114
  refine z_aload_n (pc' := 115) (k := 0) (i := 0) 0 rfl rfl ⟨by decide +kernel, rfl⟩ ?_
  refine z_getR (pc' := 118) (cef_H31_36 ca D) rfl (y := a 41) rfl ⟨by decide +kernel, rfl⟩ ?_
  refine z_iload_n (pc' := 119) (k := 1) (i := 1) 1 rfl rfl ⟨by decide +kernel, rfl⟩ ?_
  refine z_iald (pc' := 120) 41 rfl (zlt rfl) rfl rfl ⟨by decide +kernel, rfl⟩ ?_
  refine z_iload (pc' := 122) (i := 5) 3 rfl ⟨by decide +kernel, rfl⟩ ?_
  refine z_icmp_ne (pc' := 125) (tgt := 133) (off := 11) ⟨by decide +kernel, rfl⟩ rfl (fun h1 => ?_) (fun h1 => ?_)
  · refine z_aload_n (pc' := 126) (k := 0) (i := 0) 0 rfl rfl ⟨by decide +kernel, rfl⟩ ?_
    refine z_getR (pc' := 129) (cef_H31_36 ca D) rfl (y := a 41) rfl ⟨by decide +kernel, rfl⟩ ?_
    refine z_iload_n (pc' := 130) (k := 1) (i := 1) 1 rfl rfl ⟨by decide +kernel, rfl⟩ ?_
    refine z_iload (pc' := 132) (i := 4) 2 rfl ⟨by decide +kernel, rfl⟩ ?_
    refine z_iast (pc' := 133) 41 rfl (zlt rfl) rfl rfl ⟨by decide +kernel, rfl⟩ (z_letU fun u2 => ?_)
    refine z_lv [0, 1, 3] (lv' := [(0, .ref (a 36)), (1, .int x1), (5, .int x5)]) rfl ?_
    exact ce_H_strike_J133_t n u2 x1 x5
  · refine z_lv [0, 1, 3] (lv' := [(0, .ref (a 36)), (1, .int x1), (5, .int x5)]) rfl ?_
    exact ce_H_strike_J133_t n u x1 x5
set_option maxRecDepth 20000 in
set_option maxHeartbeats 4000000 in
theorem ce_H_strike_J71_t {κ : zKx} {ca : Nat → ClassId} {D : va_G} {A : Nat → Prop} {c0 : Nat × Nat} {a g0 g : Nat → Nat} (n : Nat) (u : zMu) (x1 : Int32) (x4 : Int32) (x5 : Int32) : zJ κ (zCe ca D) prog_4_method_13_code 7 ce_RH none zrv true 1 A c0 a g0 g u 71 [(0, .ref (a 36)), (1, .int x1), (4, .int x4), (5, .int x5)] [] (ce_H_strike_J71 n u x1 x4 x5) := by
  unfold ce_H_strike_J71
  refine z_iload (pc' := 73) (i := 5) 3 rfl ⟨by decide +kernel, rfl⟩ ?_
  refine z_iconst (pc' := 74) (n := (-1)) (v := (-1)) (by decide) ⟨by decide +kernel, rfl⟩ ?_
  refine z_icmp_ne (pc' := 77) (tgt := 78) (off := 4) ⟨by decide +kernel, rfl⟩ rfl (fun h1 => ?_) (fun h1 => ?_)
  · exact z_vret (pc' := 78) ⟨by decide +kernel, rfl⟩
  · refine z_iload (pc' := 80) (i := 4) 2 rfl ⟨by decide +kernel, rfl⟩ ?_
    refine z_iconst (pc' := 81) (n := (-1)) (v := (-1)) (by decide) ⟨by decide +kernel, rfl⟩ ?_
    refine z_icmp_ne (pc' := 84) (tgt := 100) (off := 19) ⟨by decide +kernel, rfl⟩ rfl (fun h2 => ?_) (fun h2 => ?_)
    · refine z_aload_n (pc' := 85) (k := 0) (i := 0) 0 rfl rfl ⟨by decide +kernel, rfl⟩ ?_
      refine z_getR (pc' := 88) (cef_H28_36 ca D) rfl (y := a 40) rfl ⟨by decide +kernel, rfl⟩ ?_
      refine z_iload_n (pc' := 89) (k := 1) (i := 1) 1 rfl rfl ⟨by decide +kernel, rfl⟩ ?_
      refine z_aload_n (pc' := 90) (k := 0) (i := 0) 0 rfl rfl ⟨by decide +kernel, rfl⟩ ?_
      refine z_getR (pc' := 93) (cef_H41_36 ca D) rfl (y := g 89) rfl ⟨by decide +kernel, rfl⟩ ?_
      refine z_iload (pc' := 95) (i := 5) 3 rfl ⟨by decide +kernel, rfl⟩ ?_
      refine z_iald (pc' := 96) 89 rfl (zlt rfl) rfl rfl ⟨by decide +kernel, rfl⟩ ?_
      refine z_iast (pc' := 97) 40 rfl (zlt rfl) rfl rfl ⟨by decide +kernel, rfl⟩ (z_letU fun u3 => ?_)
      refine z_goto (tgt := 114) (off := 17) (by decide +kernel) rfl ?_
      exact ce_H_strike_J114_t n u3 x1 x4 x5
    · refine z_aload_n (pc' := 101) (k := 0) (i := 0) 0 rfl rfl ⟨by decide +kernel, rfl⟩ ?_
      refine z_getR (pc' := 104) (cef_H41_36 ca D) rfl (y := g 89) rfl ⟨by decide +kernel, rfl⟩ ?_
      refine z_iload (pc' := 106) (i := 4) 2 rfl ⟨by decide +kernel, rfl⟩ ?_
      refine z_aload_n (pc' := 107) (k := 0) (i := 0) 0 rfl rfl ⟨by decide +kernel, rfl⟩ ?_
      refine z_getR (pc' := 110) (cef_H41_36 ca D) rfl (y := g 89) rfl ⟨by decide +kernel, rfl⟩ ?_
      refine z_iload (pc' := 112) (i := 5) 3 rfl ⟨by decide +kernel, rfl⟩ ?_
      refine z_iald (pc' := 113) 89 rfl (zlt rfl) rfl rfl ⟨by decide +kernel, rfl⟩ ?_
      refine z_iast (pc' := 114) 89 rfl (zlt rfl) rfl rfl ⟨by decide +kernel, rfl⟩ (z_letU fun u4 => ?_)
      exact ce_H_strike_J114_t n u4 x1 x4 x5
set_option maxRecDepth 20000 in
set_option maxHeartbeats 4000000 in
theorem ce_H_strike_L23_t {κ : zKx} {ca : Nat → ClassId} {D : va_G} {A : Nat → Prop} {c0 : Nat × Nat} {a g0 g : Nat → Nat} (n : Nat) : ∀ (m : Nat) (u : zMu) (x1 : Int32) (x2 : Int64) (x4 : Int32) (x5 : Int32) (x6 : Int32), zJ κ (zCe ca D) prog_4_method_13_code 7 ce_RH none zrv true 1 A c0 a g0 g u 23 [(0, .ref (a 36)), (1, .int x1), (2, .long x2), (4, .int x4), (5, .int x5), (6, .int x6)] [] (ce_H_strike_L23 n m u x1 x2 x4 x5 x6) := by
  intro m
  induction m with
  | zero => intro u x1 x2 x4 x5 x6 r u' h; cases h
  | succ m ih =>
    intro u x1 x2 x4 x5 x6
    unfold ce_H_strike_L23
    refine z_iload (pc' := 25) (i := 6) 5 rfl ⟨by decide +kernel, rfl⟩ ?_
    refine z_aload_n (pc' := 26) (k := 0) (i := 0) 0 rfl rfl ⟨by decide +kernel, rfl⟩ ?_
    refine z_getR (pc' := 29) (cef_H25_36 ca D) rfl (y := a 39) rfl ⟨by decide +kernel, rfl⟩ ?_
    refine z_iload_n (pc' := 30) (k := 1) (i := 1) 1 rfl rfl ⟨by decide +kernel, rfl⟩ ?_
    refine z_iald (pc' := 31) 39 rfl (zlt rfl) rfl rfl ⟨by decide +kernel, rfl⟩ ?_
    refine z_icmp_ge (pc' := 34) (tgt := 71) (off := 40) ⟨by decide +kernel, rfl⟩ rfl (fun h1 => ?_) (fun h1 => ?_)
    · refine z_iload (pc' := 36) (i := 5) 4 rfl ⟨by decide +kernel, rfl⟩ ?_
      refine z_iconst (pc' := 37) (n := (-1)) (v := (-1)) (by decide) ⟨by decide +kernel, rfl⟩ ?_
      refine z_icmp_eq (pc' := 40) (tgt := 71) (off := 34) ⟨by decide +kernel, rfl⟩ rfl (fun h2 => ?_) (fun h2 => ?_)
      · refine z_lv [0, 1, 3, 4] (lv' := [(0, .ref (a 36)), (1, .int x1), (4, .int x4), (5, .int x5)]) rfl ?_
        exact ce_H_strike_J71_t n u x1 x4 x5
      · refine z_aload_n (pc' := 41) (k := 0) (i := 0) 0 rfl rfl ⟨by decide +kernel, rfl⟩ ?_
        refine z_getR (pc' := 44) (cef_H38_36 ca D) rfl (y := g 88) rfl ⟨by decide +kernel, rfl⟩ ?_
        refine z_iload (pc' := 46) (i := 5) 4 rfl ⟨by decide +kernel, rfl⟩ ?_
        refine z_lald (pc' := 47) 88 rfl (zlt rfl) rfl rfl ⟨by decide +kernel, rfl⟩ ?_
        refine z_lload_n (pc' := 48) (k := 2) (i := 2) 2 rfl rfl ⟨by decide +kernel, rfl⟩ ?_
        refine z_lcmp (pc' := 49) ⟨by decide +kernel, rfl⟩ ?_
        refine z_if_eq (pc' := 52) (tgt := 71) (off := 22) ⟨by decide +kernel, rfl⟩ rfl (fun h3 => ?_) (fun h3 => ?_)
        · refine z_lv [0, 1, 3, 4] (lv' := [(0, .ref (a 36)), (1, .int x1), (4, .int x4), (5, .int x5)]) rfl ?_
          exact ce_H_strike_J71_t n u x1 x4 x5
        · refine z_iload (pc' := 54) (i := 5) 4 rfl ⟨by decide +kernel, rfl⟩ ?_
          refine z_istore (pc' := 56) (i := 4) (by decide) rfl ⟨by decide +kernel, rfl⟩ ?_
          refine z_aload_n (pc' := 57) (k := 0) (i := 0) 1 rfl rfl ⟨by decide +kernel, rfl⟩ ?_
          refine z_getR (pc' := 60) (cef_H41_36 ca D) rfl (y := g 89) rfl ⟨by decide +kernel, rfl⟩ ?_
          refine z_iload (pc' := 62) (i := 5) 4 rfl ⟨by decide +kernel, rfl⟩ ?_
          refine z_iald (pc' := 63) 89 rfl (zlt rfl) rfl rfl ⟨by decide +kernel, rfl⟩ ?_
          refine z_letI fun v4 => ?_
          refine z_istore (pc' := 65) (i := 5) (by decide) rfl ⟨by decide +kernel, rfl⟩ ?_
          refine z_iincN (pc' := 68) (i := 6) (n := 1) (c := 1) 5 rfl (by decide) (by decide) rfl ⟨by decide +kernel, rfl⟩ fun v5 => ?_
          refine z_goto (tgt := 23) (off := -45) (by decide +kernel) rfl ?_
          refine z_lv [3, 4, 5, 2, 1, 0] (lv' := [(0, .ref (a 36)), (1, .int x1), (2, .long x2), (4, .int x5), (5, .int v4), (6, .int v5)]) rfl ?_
          exact ih u x1 x2 x5 v4 v5
    · refine z_lv [0, 1, 3, 4] (lv' := [(0, .ref (a 36)), (1, .int x1), (4, .int x4), (5, .int x5)]) rfl ?_
      exact ce_H_strike_J71_t n u x1 x4 x5
set_option maxRecDepth 20000 in
set_option maxHeartbeats 4000000 in
theorem cet_H_strike {l : Launch} {ca : Nat → ClassId} {D : va_G} {a g : Nat → Nat} (n : Nat) (u : zMu) (x1 : Int32) (x2 : Int64) : zMet l (zCe ca D) ceY_H_strike (.code ceY_H_strike prog_4_method_13_code 7 none) zrv true 1 a g [.ref (a 36), .int x1, .long x2] u (ce_H_strike n u x1 x2) := by
  refine zMet.of rfl (Nat.le_of_ble_eq_true rfl) fun κ A hl => ?_
  subst hl
  unfold ce_H_strike
  refine z_aload_n (pc' := 1) (k := 0) (i := 0) 0 rfl rfl ⟨by decide +kernel, rfl⟩ ?_
  refine z_iload_n (pc' := 2) (k := 1) (i := 1) 1 rfl rfl ⟨by decide +kernel, rfl⟩ ?_
  refine z_callVf (pc' := 5) 36 (cet_H_isObject n u x1) (ceG_H73 ca D) (ceO_36 ca D) rfl (by omega) rfl rfl (Nat.le_of_ble_eq_true rfl) ⟨by decide +kernel, rfl⟩ (fun r1 u2 => ?_)
  refine z_if_ne (pc' := 8) (tgt := 9) (off := 4) ⟨by decide +kernel, rfl⟩ rfl (fun h3 => ?_) (fun h3 => ?_)
  · exact z_vret (pc' := 9) ⟨by decide +kernel, rfl⟩
  · refine z_iconst (pc' := 10) (n := (-1)) (v := (-1)) (by decide) ⟨by decide +kernel, rfl⟩ ?_
    refine z_istore (pc' := 12) (i := 4) (by decide) rfl ⟨by decide +kernel, rfl⟩ ?_
    refine z_aload_n (pc' := 13) (k := 0) (i := 0) 1 rfl rfl ⟨by decide +kernel, rfl⟩ ?_
    refine z_getR (pc' := 16) (cef_H28_36 ca D) rfl (y := a 40) rfl ⟨by decide +kernel, rfl⟩ ?_
    refine z_iload_n (pc' := 17) (k := 1) (i := 1) 2 rfl rfl ⟨by decide +kernel, rfl⟩ ?_
    refine z_iald (pc' := 18) 40 rfl (zlt rfl) rfl rfl ⟨by decide +kernel, rfl⟩ ?_
    refine z_letI fun v4 => ?_
    refine z_istore (pc' := 20) (i := 5) (by decide) rfl ⟨by decide +kernel, rfl⟩ ?_
    refine z_iconst (pc' := 21) (n := 0) (v := 0) (by decide) ⟨by decide +kernel, rfl⟩ ?_
    refine z_istore (pc' := 23) (i := 6) (by decide) rfl ⟨by decide +kernel, rfl⟩ ?_
    refine z_lv [3, 4, 5, 2, 1, 0] (lv' := [(0, .ref (a 36)), (1, .int x1), (2, .long x2), (4, .int (-1)), (5, .int v4), (6, .int 0)]) rfl ?_
    exact ce_H_strike_L23_t n n u2 x1 x2 (-1) v4 0
set_option maxRecDepth 20000 in
set_option maxHeartbeats 4000000 in
theorem cet_R_clear {l : Launch} {ca : Nat → ClassId} {D : va_G} {a g : Nat → Nat} (n : Nat) (u : zMu) : zMet l (zCe ca D) ceY_R_clear (.code ceY_R_clear prog_8_method_2_code 1 none) zrv true 0 a g [.ref (a 45)] u (ce_R_clear n u) := by
  refine zMet.of rfl (Nat.le_of_ble_eq_true rfl) fun κ A hl => ?_
  subst hl
  unfold ce_R_clear
  refine z_aload_n (pc' := 1) (k := 0) (i := 0) 0 rfl rfl ⟨by decide +kernel, rfl⟩ ?_
  refine z_iconst (pc' := 2) (n := 0) (v := 0) (by decide) ⟨by decide +kernel, rfl⟩ ?_
  refine z_putI (pc' := 5) (cef_R30_45 ca D) rfl ⟨by decide +kernel, rfl⟩ (z_letU fun u1 => ?_)
  refine z_aload_n (pc' := 6) (k := 0) (i := 0) 0 rfl rfl ⟨by decide +kernel, rfl⟩ ?_
  refine z_iconst (pc' := 7) (n := 0) (v := 0) (by decide) ⟨by decide +kernel, rfl⟩ ?_
  refine z_putI (pc' := 10) (cef_R34_45 ca D) rfl ⟨by decide +kernel, rfl⟩ (z_letU fun u2 => ?_)
  refine z_aload_n (pc' := 11) (k := 0) (i := 0) 0 rfl rfl ⟨by decide +kernel, rfl⟩ ?_
  refine z_iconst (pc' := 12) (n := 0) (v := 0) (by decide) ⟨by decide +kernel, rfl⟩ ?_
  refine z_putI (pc' := 15) (cef_R37_45 ca D) rfl ⟨by decide +kernel, rfl⟩ (z_letU fun u3 => ?_)
  exact z_vret (pc' := 16) ⟨by decide +kernel, rfl⟩
set_option maxRecDepth 20000 in
set_option maxHeartbeats 4000000 in
theorem cet_T_clear {l : Launch} {ca : Nat → ClassId} {D : va_G} {a g : Nat → Nat} (n : Nat) (u : zMu) : zMet l (zCe ca D) ceY_T_clear (.code ceY_T_clear prog_10_method_2_code 1 none) zrv true 2 a g [.ref (a 49)] u (ce_T_clear n u) := by
  refine zMet.of rfl (Nat.le_of_ble_eq_true rfl) fun κ A hl => ?_
  subst hl
  unfold ce_T_clear
  refine z_aload_n (pc' := 1) (k := 0) (i := 0) 0 rfl rfl ⟨by decide +kernel, rfl⟩ ?_
  refine z_getR (pc' := 4) (cef_T9_49 ca D) rfl (y := a 50) rfl ⟨by decide +kernel, rfl⟩ ?_
  refine z_iconst (pc' := 5) (n := 0) (v := 0) (by decide) ⟨by decide +kernel, rfl⟩ ?_
  refine z_callXf (pc' := 8) (cet_fill n 50 (ce_fa_50 ca D) u 0) (ceG_T39 ca D) (by omega) rfl rfl (Nat.le_of_ble_eq_true rfl) ⟨by decide +kernel, rfl⟩ (fun _ u1 => ?_)
  refine z_aload_n (pc' := 9) (k := 0) (i := 0) 0 rfl rfl ⟨by decide +kernel, rfl⟩ ?_
  refine z_getR (pc' := 12) (cef_T15_49 ca D) rfl (y := a 51) rfl ⟨by decide +kernel, rfl⟩ ?_
  refine z_iconst (pc' := 13) (n := 0) (v := 0) (by decide) ⟨by decide +kernel, rfl⟩ ?_
  refine z_callXf (pc' := 16) (cet_fill n 51 (ce_fa_51 ca D) u1 0) (ceG_T39 ca D) (by omega) rfl rfl (Nat.le_of_ble_eq_true rfl) ⟨by decide +kernel, rfl⟩ (fun _ u2 => ?_)
  refine z_aload_n (pc' := 17) (k := 0) (i := 0) 0 rfl rfl ⟨by decide +kernel, rfl⟩ ?_
  refine z_getR (pc' := 20) (cef_T18_49 ca D) rfl (y := a 52) rfl ⟨by decide +kernel, rfl⟩ ?_
  refine z_iconst (pc' := 21) (n := 0) (v := 0) (by decide) ⟨by decide +kernel, rfl⟩ ?_
  refine z_callXf (pc' := 24) (cet_fill n 52 (ce_fa_52 ca D) u2 0) (ceG_T39 ca D) (by omega) rfl rfl (Nat.le_of_ble_eq_true rfl) ⟨by decide +kernel, rfl⟩ (fun _ u3 => ?_)
  refine z_aload_n (pc' := 25) (k := 0) (i := 0) 0 rfl rfl ⟨by decide +kernel, rfl⟩ ?_
  refine z_getR (pc' := 28) (cef_T21_49 ca D) rfl (y := a 53) rfl ⟨by decide +kernel, rfl⟩ ?_
  refine z_iconst (pc' := 29) (n := 0) (v := 0) (by decide) ⟨by decide +kernel, rfl⟩ ?_
  refine z_callXf (pc' := 32) (cet_fill n 53 (ce_fa_53 ca D) u3 0) (ceG_T39 ca D) (by omega) rfl rfl (Nat.le_of_ble_eq_true rfl) ⟨by decide +kernel, rfl⟩ (fun _ u4 => ?_)
  refine z_aload_n (pc' := 33) (k := 0) (i := 0) 0 rfl rfl ⟨by decide +kernel, rfl⟩ ?_
  refine z_getR (pc' := 36) (cef_T24_49 ca D) rfl (y := a 54) rfl ⟨by decide +kernel, rfl⟩ ?_
  refine z_iconst (pc' := 37) (n := 0) (v := 0) (by decide) ⟨by decide +kernel, rfl⟩ ?_
  refine z_callXf (pc' := 40) (cet_fill n 54 (ce_fa_54 ca D) u4 0) (ceG_T39 ca D) (by omega) rfl rfl (Nat.le_of_ble_eq_true rfl) ⟨by decide +kernel, rfl⟩ (fun _ u5 => ?_)
  refine z_aload_n (pc' := 41) (k := 0) (i := 0) 0 rfl rfl ⟨by decide +kernel, rfl⟩ ?_
  refine z_getR (pc' := 44) (cef_T36_49 ca D) rfl (y := a 58) rfl ⟨by decide +kernel, rfl⟩ ?_
  refine z_iconst (pc' := 45) (n := 0) (v := 0) (by decide) ⟨by decide +kernel, rfl⟩ ?_
  refine z_callXf (pc' := 48) (cet_fill n 58 (ce_fa_58 ca D) u5 0) (ceG_T39 ca D) (by omega) rfl rfl (Nat.le_of_ble_eq_true rfl) ⟨by decide +kernel, rfl⟩ (fun _ u6 => ?_)
  refine z_aload_n (pc' := 49) (k := 0) (i := 0) 0 rfl rfl ⟨by decide +kernel, rfl⟩ ?_
  refine z_iconst (pc' := 50) (n := 0) (v := 0) (by decide) ⟨by decide +kernel, rfl⟩ ?_
  refine z_putI (pc' := 53) (cef_T45_49 ca D) rfl ⟨by decide +kernel, rfl⟩ (z_letU fun u7 => ?_)
  refine z_aload_n (pc' := 54) (k := 0) (i := 0) 0 rfl rfl ⟨by decide +kernel, rfl⟩ ?_
  refine z_iconst (pc' := 55) (n := 0) (v := 0) (by decide) ⟨by decide +kernel, rfl⟩ ?_
  refine z_putI (pc' := 58) (cef_T49_49 ca D) rfl ⟨by decide +kernel, rfl⟩ (z_letU fun u8 => ?_)
  refine z_aload_n (pc' := 59) (k := 0) (i := 0) 0 rfl rfl ⟨by decide +kernel, rfl⟩ ?_
  refine z_iconst (pc' := 60) (n := 0) (v := 0) (by decide) ⟨by decide +kernel, rfl⟩ ?_
  refine z_putI (pc' := 63) (cef_T52_49 ca D) rfl ⟨by decide +kernel, rfl⟩ (z_letU fun u9 => ?_)
  exact z_vret (pc' := 64) ⟨by decide +kernel, rfl⟩
