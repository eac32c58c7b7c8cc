/-! the class's methods meet their models (printed by wip/gen/cls.py) -/
set_option maxRecDepth 20000 in
set_option maxHeartbeats 4000000 in
theorem ce_fill_L5_t {κ : zKx} {ca : Nat → ClassId} {D : va_G} {A : Nat → Prop} {c0 : Nat × Nat} {a g0 g : Nat → Nat} (n c : Nat) (hc : zfa (zCe ca D) c) : ∀ (m : Nat) (u : zMu) (x1 : Int32) (x2 : Int32) (x3 : Int32), zJ κ (zCe ca D) prog_21_method_103_code 4 ce_RA none zrv true 0 A c0 a g0 g u 5 [(0, .ref (zad ce_tb a g c)), (1, .int x1), (2, .int x2), (3, .int x3)] [] (ce_fill_L5 n c m u x1 x2 x3) := by
  intro m
  induction m with
  | zero => intro u x1 x2 x3 r u' h; cases h
  | succ m ih =>
    intro u x1 x2 x3
    unfold ce_fill_L5
    refine z_iload_n (pc' := 6) (k := 2) (i := 2) 2 rfl rfl ⟨by decide +kernel, rfl⟩ ?_
    refine z_iload_n (pc' := 7) (k := 3) (i := 3) 3 rfl rfl ⟨by decide +kernel, rfl⟩ ?_
    refine z_icmp_ge (pc' := 10) (tgt := 20) (off := 13) ⟨by decide +kernel, rfl⟩ rfl (fun h1 => ?_) (fun h1 => ?_)
    · refine z_aload_n (pc' := 11) (k := 0) (i := 0) 0 rfl rfl ⟨by decide +kernel, rfl⟩ ?_
      refine z_iload_n (pc' := 12) (k := 2) (i := 2) 2 rfl rfl ⟨by decide +kernel, rfl⟩ ?_
      refine z_iload_n (pc' := 13) (k := 1) (i := 1) 1 rfl rfl ⟨by decide +kernel, rfl⟩ ?_
      refine z_iast (pc' := 14) c hc.1 hc.2 rfl rfl ⟨by decide +kernel, rfl⟩ (z_letU fun u2 => ?_)
      refine z_iincN (pc' := 17) (i := 2) (n := 1) (c := 1) 2 rfl (by decide) (by decide) rfl ⟨by decide +kernel, rfl⟩ fun v3 => ?_
      refine z_goto (tgt := 5) (off := -12) (by decide +kernel) rfl ?_
      refine z_lv [1, 2, 0, 3] (lv' := [(0, .ref (zad ce_tb a g c)), (1, .int x1), (2, .int v3), (3, .int x3)]) rfl ?_
      exact ih u2 x1 v3 x3
    · exact z_vret (pc' := 21) ⟨by decide +kernel, rfl⟩
set_option maxRecDepth 20000 in
set_option maxHeartbeats 4000000 in
theorem cet_fill {l : Launch} {ca : Nat → ClassId} {D : va_G} {a g : Nat → Nat} (n c : Nat) (hc : zfa (zCe ca D) c) (u : zMu) (x1 : Int32) : zMet l (zCe ca D) ceY_fill (.code ceY_fill prog_21_method_103_code 4 none) zrv true 0 a g [.ref (zad ce_tb a g c), .int x1] u (ce_fill n c u x1) := by
  refine zMet.of rfl (Nat.le_of_ble_eq_true rfl) fun κ A hl => ?_
  subst hl
  unfold ce_fill
  refine z_iconst (pc' := 1) (n := 0) (v := 0) (by decide) ⟨by decide +kernel, rfl⟩ ?_
  refine z_istore_n (pc' := 2) (k := 2) (i := 2) rfl (by decide) rfl ⟨by decide +kernel, rfl⟩ ?_
  refine z_aload_n (pc' := 3) (k := 0) (i := 0) 1 rfl rfl ⟨by decide +kernel, rfl⟩ ?_
  refine z_alen (pc' := 4) c (t := 1) (p := 0) hc.1 rfl (by decide) hc.2 rfl rfl rfl ⟨by decide +kernel, rfl⟩ ?_
  refine z_letI fun v1 => ?_
  refine z_istore_n (pc' := 5) (k := 3) (i := 3) rfl (by decide) rfl ⟨by decide +kernel, rfl⟩ ?_
  refine z_lv [2, 3, 1, 0] (lv' := [(0, .ref (zad ce_tb a g c)), (1, .int x1), (2, .int 0), (3, .int v1)]) rfl ?_
  exact ce_fill_L5_t n c hc n u x1 0 v1
set_option maxRecDepth 20000 in
set_option maxHeartbeats 4000000 in
theorem cet_P_begin {l : Launch} {ca : Nat → ClassId} {D : va_G} {a g : Nat → Nat} (n : Nat) (p : Nat) (hp : zpr p = true) (u : zMu) (x1 : Int32) : zMet l (zCe ca D) ceY_P_begin (.code ceY_P_begin prog_7_method_2_code 2 none) zrv true 0 a g [.ref (a p), .int x1] u (ce_P_begin n p u x1) := by
  refine zMet.of rfl (Nat.le_of_ble_eq_true rfl) fun κ A hl => ?_
  subst hl
  unfold ce_P_begin
  refine z_aload_n (pc' := 1) (k := 0) (i := 0) 0 rfl rfl ⟨by decide +kernel, rfl⟩ ?_
  refine z_iconst (pc' := 2) (n := 0) (v := 0) (by decide) ⟨by decide +kernel, rfl⟩ ?_
  refine z_putI (pc' := 5) (cef_P45_P ca D hp) (ce_adP0 hp) ⟨by decide +kernel, rfl⟩ (z_letU fun u1 => ?_)
  refine z_aload_n (pc' := 6) (k := 0) (i := 0) 0 rfl rfl ⟨by decide +kernel, rfl⟩ ?_
  refine z_iconst (pc' := 7) (n := 0) (v := 0) (by decide) ⟨by decide +kernel, rfl⟩ ?_
  refine z_putI (pc' := 10) (cef_P49_P ca D hp) (ce_adP0 hp) ⟨by decide +kernel, rfl⟩ (z_letU fun u2 => ?_)
  refine z_aload_n (pc' := 11) (k := 0) (i := 0) 0 rfl rfl ⟨by decide +kernel, rfl⟩ ?_
  refine z_iconst (pc' := 12) (n := 0) (v := 0) (by decide) ⟨by decide +kernel, rfl⟩ ?_
  refine z_putI (pc' := 15) (cef_P52_P ca D hp) (ce_adP0 hp) ⟨by decide +kernel, rfl⟩ (z_letU fun u3 => ?_)
  refine z_aload_n (pc' := 16) (k := 0) (i := 0) 0 rfl rfl ⟨by decide +kernel, rfl⟩ ?_
  refine z_iconst (pc' := 17) (n := 0) (v := 0) (by decide) ⟨by decide +kernel, rfl⟩ ?_
  refine z_putI (pc' := 20) (cef_P55_P ca D hp) (ce_adP0 hp) ⟨by decide +kernel, rfl⟩ (z_letU fun u4 => ?_)
  refine z_aload_n (pc' := 21) (k := 0) (i := 0) 0 rfl rfl ⟨by decide +kernel, rfl⟩ ?_
  refine z_iconst (pc' := 22) (n := 0) (v := 0) (by decide) ⟨by decide +kernel, rfl⟩ ?_
  refine z_putI (pc' := 25) (cef_P58_P ca D hp) (ce_adP0 hp) ⟨by decide +kernel, rfl⟩ (z_letU fun u5 => ?_)
  refine z_aload_n (pc' := 26) (k := 0) (i := 0) 0 rfl rfl ⟨by decide +kernel, rfl⟩ ?_
  refine z_iload_n (pc' := 27) (k := 1) (i := 1) 1 rfl rfl ⟨by decide +kernel, rfl⟩ ?_
  refine z_putI (pc' := 30) (cef_P61_P ca D hp) (ce_adP0 hp) ⟨by decide +kernel, rfl⟩ (z_letU fun u6 => ?_)
  exact z_vret (pc' := 31) ⟨by decide +kernel, rfl⟩
set_option maxRecDepth 20000 in
set_option maxHeartbeats 4000000 in
theorem cet_C_begin {l : Launch} {ca : Nat → ClassId} {D : va_G} {a g : Nat → Nat} (n : Nat) (p2 : Nat) (hp2 : zpr p2 = true) (u : zMu) (x1 : Int32) : zMet l (zCe ca D) ceY_C_begin (.code ceY_C_begin prog_2_method_3_code 3 none) zrv true 1 a g [.ref (a 2), .int x1, .ref (a p2)] u (ce_C_begin n p2 u x1) := by
  refine zMet.of rfl (Nat.le_of_ble_eq_true rfl) fun κ A hl => ?_
  subst hl
  unfold ce_C_begin
  refine z_aload_n (pc' := 1) (k := 0) (i := 0) 0 rfl rfl ⟨by decide +kernel, rfl⟩ ?_
  refine z_aload_n (pc' := 2) (k := 2) (i := 2) 2 rfl rfl ⟨by decide +kernel, rfl⟩ ?_
  refine z_putM (pc' := 5) (v := p2) (cef_C52_2 ca D) rfl (zpr_n0 hp2) (ce_adP0 hp2) ⟨by decide +kernel, rfl⟩ (z_letU fun u1 => ?_)
  refine z_aload_n (pc' := 6) (k := 0) (i := 0) 0 rfl rfl ⟨by decide +kernel, rfl⟩ ?_
  refine z_getG (pc' := 9) (cef_C52_2 ca D) rfl (fun _ h => ⟨zpr_n0 h, ce_adP0 h⟩) ⟨by decide +kernel, rfl⟩ fun p3 hp3 => ?_
  refine z_iload_n (pc' := 10) (k := 1) (i := 1) 1 rfl rfl ⟨by decide +kernel, rfl⟩ ?_
  refine z_callVf (pc' := 13) p3 (cet_P_begin n p3 hp3 u1 x1) (ceG_C87 ca D) (ceO_P ca D hp3) (ce_adP0 hp3) (by omega) rfl rfl (Nat.le_of_ble_eq_true rfl) ⟨by decide +kernel, rfl⟩ (fun _ u5 => ?_)
  refine z_aload_n (pc' := 14) (k := 0) (i := 0) 0 rfl rfl ⟨by decide +kernel, rfl⟩ ?_
  refine z_iconst (pc' := 15) (n := 0) (v := 0) (by decide) ⟨by decide +kernel, rfl⟩ ?_
  refine z_putZ (pc' := 18) (cef_C80_2 ca D) rfl (by decide) ⟨by decide +kernel, rfl⟩ (z_letU fun u6 => ?_)
  refine z_aload_n (pc' := 19) (k := 0) (i := 0) 0 rfl rfl ⟨by decide +kernel, rfl⟩ ?_
  refine z_iconst (pc' := 20) (n := 0) (v := 0) (by decide) ⟨by decide +kernel, rfl⟩ ?_
  refine z_putI (pc' := 23) (cef_C90_2 ca D) rfl ⟨by decide +kernel, rfl⟩ (z_letU fun u7 => ?_)
  refine z_aload_n (pc' := 24) (k := 0) (i := 0) 0 rfl rfl ⟨by decide +kernel, rfl⟩ ?_
  refine z_iconst (pc' := 25) (n := (-1)) (v := (-1)) (by decide) ⟨by decide +kernel, rfl⟩ ?_
  refine z_putI (pc' := 28) (cef_C18_2 ca D) rfl ⟨by decide +kernel, rfl⟩ (z_letU fun u8 => ?_)
  refine z_aload_n (pc' := 29) (k := 0) (i := 0) 0 rfl rfl ⟨by decide +kernel, rfl⟩ ?_
  refine z_iconst (pc' := 30) (n := 0) (v := 0) (by decide) ⟨by decide +kernel, rfl⟩ ?_
  refine z_putI (pc' := 33) (cef_C93_2 ca D) rfl ⟨by decide +kernel, rfl⟩ (z_letU fun u9 => ?_)
  refine z_aload_n (pc' := 34) (k := 0) (i := 0) 0 rfl rfl ⟨by decide +kernel, rfl⟩ ?_
  refine z_iconst (pc' := 35) (n := 0) (v := 0) (by decide) ⟨by decide +kernel, rfl⟩ ?_
  refine z_putI (pc' := 38) (cef_C96_2 ca D) rfl ⟨by decide +kernel, rfl⟩ (z_letU fun u10 => ?_)
  exact z_vret (pc' := 39) ⟨by decide +kernel, rfl⟩
set_option maxRecDepth 20000 in
set_option maxHeartbeats 4000000 in
theorem cet_X_isLetter {l : Launch} {ca : Nat → ClassId} {D : va_G} {a g : Nat → Nat} (n : Nat) (u : zMu) (x0 : Int32) : zMet l (zCe ca D) ceY_X_isLetter (.code ceY_X_isLetter prog_5_method_9_code 1 (some .boolean)) zri true 0 a g [.int x0] u (ce_X_isLetter n u x0) := by
  refine zMet.of rfl (Nat.le_of_ble_eq_true rfl) fun κ A hl => ?_
  subst hl
  unfold ce_X_isLetter
  refine z_iload_n (pc' := 1) (k := 0) (i := 0) 0 rfl rfl ⟨by decide +kernel, rfl⟩ ?_
  refine z_bipush (pc' := 3) (n := 97) (v := 97) (by decide) ⟨by decide +kernel, rfl⟩ ?_
  refine z_icmp_lt (pc' := 6) (tgt := 16) (off := 13) ⟨by decide +kernel, rfl⟩ rfl (fun h1 => ?_) (fun h1 => ?_)
  · refine z_iconst (pc' := 17) (n := 0) (v := 0) (by decide) ⟨by decide +kernel, rfl⟩ ?_
    exact z_zret (pc' := 18) (by decide) ⟨by decide +kernel, rfl⟩
  · refine z_iload_n (pc' := 7) (k := 0) (i := 0) 0 rfl rfl ⟨by decide +kernel, rfl⟩ ?_
    refine z_bipush (pc' := 9) (n := 122) (v := 122) (by decide) ⟨by decide +kernel, rfl⟩ ?_
    refine z_icmp_gt (pc' := 12) (tgt := 16) (off := 7) ⟨by decide +kernel, rfl⟩ rfl (fun h2 => ?_) (fun h2 => ?_)
    · refine z_iconst (pc' := 17) (n := 0) (v := 0) (by decide) ⟨by decide +kernel, rfl⟩ ?_
      exact z_zret (pc' := 18) (by decide) ⟨by decide +kernel, rfl⟩
    · refine z_iconst (pc' := 13) (n := 1) (v := 1) (by decide) ⟨by decide +kernel, rfl⟩ ?_
      refine z_goto (tgt := 17) (off := 4) (by decide +kernel) rfl ?_
      exact z_zret (pc' := 18) (by decide) ⟨by decide +kernel, rfl⟩
set_option maxRecDepth 20000 in
set_option maxHeartbeats 4000000 in
theorem cet_X_isDigit {l : Launch} {ca : Nat → ClassId} {D : va_G} {a g : Nat → Nat} (n : Nat) (u : zMu) (x0 : Int32) : zMet l (zCe ca D) ceY_X_isDigit (.code ceY_X_isDigit prog_5_method_10_code 1 (some .boolean)) zri true 0 a g [.int x0] u (ce_X_isDigit n u x0) := by
  refine zMet.of rfl (Nat.le_of_ble_eq_true rfl) fun κ A hl => ?_
  subst hl
  unfold ce_X_isDigit
  refine z_iload_n (pc' := 1) (k := 0) (i := 0) 0 rfl rfl ⟨by decide +kernel, rfl⟩ ?_
  refine z_bipush (pc' := 3) (n := 48) (v := 48) (by decide) ⟨by decide +kernel, rfl⟩ ?_
  refine z_icmp_lt (pc' := 6) (tgt := 16) (off := 13) ⟨by decide +kernel, rfl⟩ rfl (fun h1 => ?_) (fun h1 => ?_)
  · refine z_iconst (pc' := 17) (n := 0) (v := 0) (by decide) ⟨by decide +kernel, rfl⟩ ?_
    exact z_zret (pc' := 18) (by decide) ⟨by decide +kernel, rfl⟩
  · refine z_iload_n (pc' := 7) (k := 0) (i := 0) 0 rfl rfl ⟨by decide +kernel, rfl⟩ ?_
    refine z_bipush (pc' := 9) (n := 57) (v := 57) (by decide) ⟨by decide +kernel, rfl⟩ ?_
    refine z_icmp_gt (pc' := 12) (tgt := 16) (off := 7) ⟨by decide +kernel, rfl⟩ rfl (fun h2 => ?_) (fun h2 => ?_)
    · refine z_iconst (pc' := 17) (n := 0) (v := 0) (by decide) ⟨by decide +kernel, rfl⟩ ?_
      exact z_zret (pc' := 18) (by decide) ⟨by decide +kernel, rfl⟩
    · refine z_iconst (pc' := 13) (n := 1) (v := 1) (by decide) ⟨by decide +kernel, rfl⟩ ?_
      refine z_goto (tgt := 17) (off := 4) (by decide +kernel) rfl ?_
      exact z_zret (pc' := 18) (by decide) ⟨by decide +kernel, rfl⟩
set_option maxRecDepth 20000 in
set_option maxHeartbeats 4000000 in
theorem ce_X_kindOf_L2_t {κ : zKx} {ca : Nat → ClassId} {D : va_G} {A : Nat → Prop} {c0 : Nat × Nat} {a g0 g : Nat → Nat} (n : Nat) : ∀ (m : Nat) (u : zMu) (x1 : Int64) (x3 : Int32), zJ κ (zCe ca D) prog_5_method_6_code 4 ce_RX (some .int) zri true 0 A c0 a g0 g u 2 [(0, .ref (a 7)), (1, .long x1), (3, .int x3)] [] (ce_X_kindOf_L2 n m u x1 x3) := by
  intro m
  induction m with
  | zero => intro u x1 x3 r u' h; cases h
  | succ m ih =>
    intro u x1 x3
    unfold ce_X_kindOf_L2
    refine z_iload_n (pc' := 3) (k := 3) (i := 3) 2 rfl rfl ⟨by decide +kernel, rfl⟩ ?_
    refine z_aload_n (pc' := 4) (k := 0) (i := 0) 0 rfl rfl ⟨by decide +kernel, rfl⟩ ?_
    refine z_getR (pc' := 7) (cef_X39_7 ca D) rfl (y := a 8) rfl ⟨by decide +kernel, rfl⟩ ?_
    refine z_alen (pc' := 8) (v := 12) 8 (t := 5) (p := 4) (n := 12) rfl rfl (by decide) (zlt rfl) rfl rfl (by decide) ⟨by decide +kernel, rfl⟩ ?_
    refine z_icmp_ge (pc' := 11) (tgt := 34) (off := 26) ⟨by decide +kernel, rfl⟩ rfl (fun h1 => ?_) (fun h1 => ?_)
    · refine z_aload_n (pc' := 12) (k := 0) (i := 0) 0 rfl rfl ⟨by decide +kernel, rfl⟩ ?_
      refine z_getR (pc' := 15) (cef_X39_7 ca D) rfl (y := a 8) rfl ⟨by decide +kernel, rfl⟩ ?_
      refine z_iload_n (pc' := 16) (k := 3) (i := 3) 2 rfl rfl ⟨by decide +kernel, rfl⟩ ?_
      refine z_lald (pc' := 17) 8 rfl (zlt rfl) rfl rfl ⟨by decide +kernel, rfl⟩ ?_
      refine z_lload_n (pc' := 18) (k := 1) (i := 1) 1 rfl rfl ⟨by decide +kernel, rfl⟩ ?_
      refine z_lcmp (pc' := 19) ⟨by decide +kernel, rfl⟩ ?_
      refine z_if_ne (pc' := 22) (tgt := 28) (off := 9) ⟨by decide +kernel, rfl⟩ rfl (fun h2 => ?_) (fun h2 => ?_)
      · refine z_sipush (pc' := 25) (n := 300) (v := 300) (by decide) ⟨by decide +kernel, rfl⟩ ?_
        refine z_iload_n (pc' := 26) (k := 3) (i := 3) 2 rfl rfl ⟨by decide +kernel, rfl⟩ ?_
        refine z_iadd (pc' := 27) ⟨by decide +kernel, rfl⟩ ?_
        exact z_iret (pc' := 28) ⟨by decide +kernel, rfl⟩
      · refine z_iincN (pc' := 31) (i := 3) (n := 1) (c := 1) 2 rfl (by decide) (by decide) rfl ⟨by decide +kernel, rfl⟩ fun v3 => ?_
        refine z_goto (tgt := 2) (off := -29) (by decide +kernel) rfl ?_
        refine z_lv [1, 2, 0] (lv' := [(0, .ref (a 7)), (1, .long x1), (3, .int v3)]) rfl ?_
        exact ih u x1 v3
    · refine z_sipush (pc' := 37) (n := 259) (v := 259) (by decide) ⟨by decide +kernel, rfl⟩ ?_
      exact z_iret (pc' := 38) ⟨by decide +kernel, rfl⟩
set_option maxRecDepth 20000 in
set_option maxHeartbeats 4000000 in
theorem cet_X_kindOf {l : Launch} {ca : Nat → ClassId} {D : va_G} {a g : Nat → Nat} (n : Nat) (u : zMu) (x1 : Int64) : zMet l (zCe ca D) ceY_X_kindOf (.code ceY_X_kindOf prog_5_method_6_code 4 (some .int)) zri true 0 a g [.ref (a 7), .long x1] u (ce_X_kindOf n u x1) := by
  refine zMet.of rfl (Nat.le_of_ble_eq_true rfl) fun κ A hl => ?_
  subst hl
  unfold ce_X_kindOf
  refine z_iconst (pc' := 1) (n := 0) (v := 0) (by decide) ⟨by decide +kernel, rfl⟩ ?_
  refine z_istore_n (pc' := 2) (k := 3) (i := 3) rfl (by decide) rfl ⟨by decide +kernel, rfl⟩ ?_
  refine z_lv [1, 2, 0] (lv' := [(0, .ref (a 7)), (1, .long x1), (3, .int 0)]) rfl ?_
  exact ce_X_kindOf_L2_t n n u x1 0
set_option maxRecDepth 20000 in
set_option maxHeartbeats 4000000 in
theorem cet_X_add {l : Launch} {ca : Nat → ClassId} {D : va_G} {a g : Nat → Nat} (n : Nat) (u : zMu) (x1 : Int32) (x2 : Int32) (x3 : Int64) : zMet l (zCe ca D) ceY_X_add (.code ceY_X_add prog_5_method_4_code 5 none) zrv true 0 a g [.ref (a 7), .int x1, .int x2, .long x3] u (ce_X_add n u x1 x2 x3) := by
  refine zMet.of rfl (Nat.le_of_ble_eq_true rfl) fun κ A hl => ?_
  subst hl
  unfold ce_X_add
  refine z_aload_n (pc' := 1) (k := 0) (i := 0) 0 rfl rfl ⟨by decide +kernel, rfl⟩ ?_
  refine z_getI (pc' := 4) (cef_X57_7 ca D) rfl ⟨by decide +kernel, rfl⟩ ?_
  refine z_sipush (pc' := 7) (n := 1501) (v := 1501) (by decide) ⟨by decide +kernel, rfl⟩ ?_
  refine z_icmp_lt (pc' := 10) (tgt := 11) (off := 4) ⟨by decide +kernel, rfl⟩ rfl (fun h1 => ?_) (fun h1 => ?_)
  · refine z_aload_n (pc' := 12) (k := 0) (i := 0) 0 rfl rfl ⟨by decide +kernel, rfl⟩ ?_
    refine z_getR (pc' := 15) (cef_X43_7 ca D) rfl (y := a 9) rfl ⟨by decide +kernel, rfl⟩ ?_
    refine z_aload_n (pc' := 16) (k := 0) (i := 0) 0 rfl rfl ⟨by decide +kernel, rfl⟩ ?_
    refine z_getI (pc' := 19) (cef_X57_7 ca D) rfl ⟨by decide +kernel, rfl⟩ ?_
    refine z_iload_n (pc' := 20) (k := 1) (i := 1) 1 rfl rfl ⟨by decide +kernel, rfl⟩ ?_
    refine z_i2s (pc' := 21) ⟨by decide +kernel, rfl⟩ ?_
    refine z_sast (pc' := 22) 9 rfl (zlt rfl) rfl rfl ⟨by decide +kernel, rfl⟩ (z_letU fun u2 => ?_)
    refine z_aload_n (pc' := 23) (k := 0) (i := 0) 0 rfl rfl ⟨by decide +kernel, rfl⟩ ?_
    refine z_getR (pc' := 26) (cef_X47_7 ca D) rfl (y := a 10) rfl ⟨by decide +kernel, rfl⟩ ?_
    refine z_aload_n (pc' := 27) (k := 0) (i := 0) 0 rfl rfl ⟨by decide +kernel, rfl⟩ ?_
    refine z_getI (pc' := 30) (cef_X57_7 ca D) rfl ⟨by decide +kernel, rfl⟩ ?_
    refine z_iload_n (pc' := 31) (k := 2) (i := 2) 2 rfl rfl ⟨by decide +kernel, rfl⟩ ?_
    refine z_i2s (pc' := 32) ⟨by decide +kernel, rfl⟩ ?_
    refine z_sast (pc' := 33) 10 rfl (zlt rfl) rfl rfl ⟨by decide +kernel, rfl⟩ (z_letU fun u3 => ?_)
    refine z_aload_n (pc' := 34) (k := 0) (i := 0) 0 rfl rfl ⟨by decide +kernel, rfl⟩ ?_
    refine z_getR (pc' := 37) (cef_X50_7 ca D) rfl (y := a 11) rfl ⟨by decide +kernel, rfl⟩ ?_
    refine z_aload_n (pc' := 38) (k := 0) (i := 0) 0 rfl rfl ⟨by decide +kernel, rfl⟩ ?_
    refine z_getI (pc' := 41) (cef_X57_7 ca D) rfl ⟨by decide +kernel, rfl⟩ ?_
    refine z_lload_n (pc' := 42) (k := 3) (i := 3) 3 rfl rfl ⟨by decide +kernel, rfl⟩ ?_
    refine z_last (pc' := 43) 11 rfl (zlt rfl) rfl rfl ⟨by decide +kernel, rfl⟩ (z_letU fun u4 => ?_)
    refine z_aload_n (pc' := 44) (k := 0) (i := 0) 0 rfl rfl ⟨by decide +kernel, rfl⟩ ?_
    refine z_dup (pc' := 45) rfl ⟨by decide +kernel, rfl⟩ ?_
    refine z_getI (pc' := 48) (cef_X57_7 ca D) rfl ⟨by decide +kernel, rfl⟩ ?_
    refine z_iconst (pc' := 49) (n := 1) (v := 1) (by decide) ⟨by decide +kernel, rfl⟩ ?_
    refine z_iadd (pc' := 50) ⟨by decide +kernel, rfl⟩ ?_
    refine z_putI (pc' := 53) (cef_X57_7 ca D) rfl ⟨by decide +kernel, rfl⟩ (z_letU fun u5 => ?_)
    exact z_vret (pc' := 54) ⟨by decide +kernel, rfl⟩
  · exact z_vret (pc' := 11) ⟨by decide +kernel, rfl⟩
set_option maxRecDepth 20000 in
set_option maxHeartbeats 4000000 in
theorem ce_X_takeWord_J65_t {κ : zKx} {ca : Nat → ClassId} {D : va_G} {A : Nat → Prop} {c0 : Nat × Nat} {a g0 g : Nat → Nat} (n : Nat) (u : zMu) (x3 : Int32) (x4 : Int32) (x5 : Int64) : zJ κ (zCe ca D) prog_5_method_5_code 7 ce_RX (some .int) zri true 1 A c0 a g0 g u 65 [(0, .ref (a 7)), (3, .int x3), (4, .int x4), (5, .long x5)] [] (ce_X_takeWord_J65 n u x3 x4 x5) := by
  unfold ce_X_takeWord_J65
  refine z_aload_n (pc' := 66) (k := 0) (i := 0) 0 rfl rfl ⟨by decide +kernel, rfl⟩ ?_
  refine z_iload (pc' := 68) (i := 4) 2 rfl ⟨by decide +kernel, rfl⟩ ?_
  refine z_iload_n (pc' := 69) (k := 3) (i := 3) 1 rfl rfl ⟨by decide +kernel, rfl⟩ ?_
  refine z_isub (pc' := 70) ⟨by decide +kernel, rfl⟩ ?_
  refine z_bipush (pc' := 72) (n := 8) (v := 8) (by decide) ⟨by decide +kernel, rfl⟩ ?_
  refine z_icmp_le (pc' := 75) (tgt := 81) (off := 9) ⟨by decide +kernel, rfl⟩ rfl (fun h1 => ?_) (fun h1 => ?_)
  · refine z_sipush (pc' := 78) (n := 257) (v := 257) (by decide) ⟨by decide +kernel, rfl⟩ ?_
    refine z_goto (tgt := 87) (off := 9) (by decide +kernel) rfl ?_
    refine z_iload_n (pc' := 88) (k := 3) (i := 3) 1 rfl rfl ⟨by decide +kernel, rfl⟩ ?_
    refine z_lload (pc' := 90) (i := 5) 3 rfl ⟨by decide +kernel, rfl⟩ ?_
    refine z_callVf (pc' := 93) 7 (cet_X_add n u 257 x3 x5) (ceG_X77 ca D) (ceO_7 ca D) rfl (by omega) rfl rfl (Nat.le_of_ble_eq_true rfl) ⟨by decide +kernel, rfl⟩ (fun _ u3 => ?_)
    refine z_iload (pc' := 95) (i := 4) 2 rfl ⟨by decide +kernel, rfl⟩ ?_
    exact z_iret (pc' := 96) ⟨by decide +kernel, rfl⟩
  · refine z_aload_n (pc' := 82) (k := 0) (i := 0) 0 rfl rfl ⟨by decide +kernel, rfl⟩ ?_
    refine z_lload (pc' := 84) (i := 5) 3 rfl ⟨by decide +kernel, rfl⟩ ?_
    refine z_callVf (pc' := 87) 7 (cet_X_kindOf n u x5) (ceG_X94 ca D) (ceO_7 ca D) rfl (by omega) rfl rfl (Nat.le_of_ble_eq_true rfl) ⟨by decide +kernel, rfl⟩ (fun r4 u5 => ?_)
    refine z_iload_n (pc' := 88) (k := 3) (i := 3) 1 rfl rfl ⟨by decide +kernel, rfl⟩ ?_
    refine z_lload (pc' := 90) (i := 5) 3 rfl ⟨by decide +kernel, rfl⟩ ?_
    refine z_callVf (pc' := 93) 7 (cet_X_add n u5 r4 x3 x5) (ceG_X77 ca D) (ceO_7 ca D) rfl (by omega) rfl rfl (Nat.le_of_ble_eq_true rfl) ⟨by decide +kernel, rfl⟩ (fun _ u7 => ?_)
    refine z_iload (pc' := 95) (i := 4) 2 rfl ⟨by decide +kernel, rfl⟩ ?_
    exact z_iret (pc' := 96) ⟨by decide +kernel, rfl⟩
set_option maxRecDepth 20000 in
set_option maxHeartbeats 4000000 in
theorem ce_X_takeWord_J32_t {κ : zKx} {ca : Nat → ClassId} {D : va_G} {A : Nat → Prop} {c0 : Nat × Nat} {a g0 g : Nat → Nat} (n : Nat) (k6 : zMu → Int32 → Int32 → Int32 → Int64 → Option (Int32 × zMu)) (hk6 : ∀ (u : zMu) (x2 : Int32) (x3 : Int32) (x4 : Int32) (x5 : Int64), zJ κ (zCe ca D) prog_5_method_5_code 7 ce_RX (some .int) zri true 1 A c0 a g0 g u 6 [(0, .ref (a 7)), (1, .ref (a 1)), (2, .int x2), (3, .int x3), (4, .int x4), (5, .long x5)] [] (k6 u x2 x3 x4 x5)) (u : zMu) (x2 : Int32) (x3 : Int32) (x4 : Int32) (x5 : Int64) : zJ κ (zCe ca D) prog_5_method_5_code 7 ce_RX (some .int) zri true 1 A c0 a g0 g u 32 [(0, .ref (a 7)), (1, .ref (a 1)), (2, .int x2), (3, .int x3), (4, .int x4), (5, .long x5)] [] (ce_X_takeWord_J32 n k6 u x2 x3 x4 x5) := by
  unfold ce_X_takeWord_J32
  refine z_iload (pc' := 34) (i := 4) 4 rfl ⟨by decide +kernel, rfl⟩ ?_
  refine z_iload_n (pc' := 35) (k := 3) (i := 3) 3 rfl rfl ⟨by decide +kernel, rfl⟩ ?_
  refine z_isub (pc' := 36) ⟨by decide +kernel, rfl⟩ ?_
  refine z_bipush (pc' := 38) (n := 8) (v := 8) (by decide) ⟨by decide +kernel, rfl⟩ ?_
  refine z_icmp_ge (pc' := 41) (tgt := 59) (off := 21) ⟨by decide +kernel, rfl⟩ rfl (fun h1 => ?_) (fun h1 => ?_)
  · refine z_lload (pc' := 43) (i := 5) 5 rfl ⟨by decide +kernel, rfl⟩ ?_
    refine z_aload_n (pc' := 44) (k := 1) (i := 1) 1 rfl rfl ⟨by decide +kernel, rfl⟩ ?_
    refine z_iload (pc' := 46) (i := 4) 4 rfl ⟨by decide +kernel, rfl⟩ ?_
    refine z_bald (pc' := 47) 1 rfl (zlt rfl) rfl rfl ⟨by decide +kernel, rfl⟩ ?_
    refine z_i2l (pc' := 48) ⟨by decide +kernel, rfl⟩ ?_
    refine z_bipush (pc' := 50) (n := 8) (v := 8) (by decide) ⟨by decide +kernel, rfl⟩ ?_
    refine z_iload (pc' := 52) (i := 4) 4 rfl ⟨by decide +kernel, rfl⟩ ?_
    refine z_iload_n (pc' := 53) (k := 3) (i := 3) 3 rfl rfl ⟨by decide +kernel, rfl⟩ ?_
    refine z_isub (pc' := 54) ⟨by decide +kernel, rfl⟩ ?_
    refine z_imul (pc' := 55) ⟨by decide +kernel, rfl⟩ ?_
    refine z_lshl (pc' := 56) ⟨by decide +kernel, rfl⟩ ?_
    refine z_lor (pc' := 57) ⟨by decide +kernel, rfl⟩ ?_
    refine z_letL fun v2 => ?_
    refine z_lstore (pc' := 59) (i := 5) (by decide) rfl ⟨by decide +kernel, rfl⟩ ?_
    refine z_iincN (pc' := 62) (i := 4) (n := 1) (c := 1) 5 rfl (by decide) (by decide) rfl ⟨by decide +kernel, rfl⟩ fun v3 => ?_
    refine z_goto (tgt := 6) (off := -56) (by decide +kernel) rfl ?_
    refine z_lv [2, 3, 4, 5, 0, 1] (lv' := [(0, .ref (a 7)), (1, .ref (a 1)), (2, .int x2), (3, .int x3), (4, .int v3), (5, .long v2)]) rfl ?_
    exact hk6 u x2 x3 v3 v2
  · refine z_iincN (pc' := 62) (i := 4) (n := 1) (c := 1) 4 rfl (by decide) (by decide) rfl ⟨by decide +kernel, rfl⟩ fun v4 => ?_
    refine z_goto (tgt := 6) (off := -56) (by decide +kernel) rfl ?_
    refine z_lv [1, 2, 3, 4, 0, 5] (lv' := [(0, .ref (a 7)), (1, .ref (a 1)), (2, .int x2), (3, .int x3), (4, .int v4), (5, .long x5)]) rfl ?_
    exact hk6 u x2 x3 v4 x5
set_option maxRecDepth 20000 in
set_option maxHeartbeats 4000000 in
theorem ce_X_takeWord_L6_t {κ : zKx} {ca : Nat → ClassId} {D : va_G} {A : Nat → Prop} {c0 : Nat × Nat} {a g0 g : Nat → Nat} (n : Nat) : ∀ (m : Nat) (u : zMu) (x2 : Int32) (x3 : Int32) (x4 : Int32) (x5 : Int64), zJ κ (zCe ca D) prog_5_method_5_code 7 ce_RX (some .int) zri true 1 A c0 a g0 g u 6 [(0, .ref (a 7)), (1, .ref (a 1)), (2, .int x2), (3, .int x3), (4, .int x4), (5, .long x5)] [] (ce_X_takeWord_L6 n m u x2 x3 x4 x5) := by
  intro m
  induction m with
  | zero => intro u x2 x3 x4 x5 r u' h; cases h
  | succ m ih =>
    intro u x2 x3 x4 x5
    unfold ce_X_takeWord_L6
    refine z_iload (pc' := 8) (i := 4) 4 rfl ⟨by decide +kernel, rfl⟩ ?_
    refine z_iload_n (pc' := 9) (k := 2) (i := 2) 2 rfl rfl ⟨by decide +kernel, rfl⟩ ?_
    refine z_icmp_ge (pc' := 12) (tgt := 65) (off := 56) ⟨by decide +kernel, rfl⟩ rfl (fun h1 => ?_) (fun h1 => ?_)
    · refine z_aload_n (pc' := 13) (k := 1) (i := 1) 1 rfl rfl ⟨by decide +kernel, rfl⟩ ?_
      refine z_iload (pc' := 15) (i := 4) 4 rfl ⟨by decide +kernel, rfl⟩ ?_
      refine z_bald (pc' := 16) 1 rfl (zlt rfl) rfl rfl ⟨by decide +kernel, rfl⟩ ?_
      refine z_callSf (pc' := 19) (cet_X_isLetter n u (zI u 1 (zx x4))) (ceG_X60 ca D) (by omega) rfl rfl (Nat.le_of_ble_eq_true rfl) ⟨by decide +kernel, rfl⟩ (fun r2 u3 => ?_)
      refine z_if_ne (pc' := 22) (tgt := 32) (off := 13) ⟨by decide +kernel, rfl⟩ rfl (fun h4 => ?_) (fun h4 => ?_)
      · refine z_aload_n (pc' := 23) (k := 1) (i := 1) 1 rfl rfl ⟨by decide +kernel, rfl⟩ ?_
        refine z_iload (pc' := 25) (i := 4) 4 rfl ⟨by decide +kernel, rfl⟩ ?_
        refine z_bald (pc' := 26) 1 rfl (zlt rfl) rfl rfl ⟨by decide +kernel, rfl⟩ ?_
        refine z_callSf (pc' := 29) (cet_X_isDigit n u3 (zI u3 1 (zx x4))) (ceG_X68 ca D) (by omega) rfl rfl (Nat.le_of_ble_eq_true rfl) ⟨by decide +kernel, rfl⟩ (fun r5 u6 => ?_)
        refine z_if_eq (pc' := 32) (tgt := 65) (off := 36) ⟨by decide +kernel, rfl⟩ rfl (fun h7 => ?_) (fun h7 => ?_)
        · refine z_lv [0, 3, 4, 5] (lv' := [(0, .ref (a 7)), (3, .int x3), (4, .int x4), (5, .long x5)]) rfl ?_
          exact ce_X_takeWord_J65_t n u6 x3 x4 x5
        · exact ce_X_takeWord_J32_t n (ce_X_takeWord_L6 n m) (ih) u6 x2 x3 x4 x5
      · exact ce_X_takeWord_J32_t n (ce_X_takeWord_L6 n m) (ih) u3 x2 x3 x4 x5
    · refine z_lv [0, 3, 4, 5] (lv' := [(0, .ref (a 7)), (3, .int x3), (4, .int x4), (5, .long x5)]) rfl ?_
      exact ce_X_takeWord_J65_t n u x3 x4 x5
set_option maxRecDepth 20000 in
set_option maxHeartbeats 4000000 in
theorem cet_X_takeWord {l : Launch} {ca : Nat → ClassId} {D : va_G} {a g : Nat → Nat} (n : Nat) (u : zMu) (x2 : Int32) (x3 : Int32) : zMet l (zCe ca D) ceY_X_takeWord (.code ceY_X_takeWord prog_5_method_5_code 7 (some .int)) zri true 1 a g [.ref (a 7), .ref (a 1), .int x2, .int x3] u (ce_X_takeWord n u x2 x3) := by
  refine zMet.of rfl (Nat.le_of_ble_eq_true rfl) fun κ A hl => ?_
  subst hl
  unfold ce_X_takeWord
  refine z_iload_n (pc' := 1) (k := 3) (i := 3) 3 rfl rfl ⟨by decide +kernel, rfl⟩ ?_
  refine z_istore (pc' := 3) (i := 4) (by decide) rfl ⟨by decide +kernel, rfl⟩ ?_
  refine z_lconst (pc' := 4) (n := 0) (v := 0) (by decide) ⟨by decide +kernel, rfl⟩ ?_
  refine z_lstore (pc' := 6) (i := 5) (by decide) rfl ⟨by decide +kernel, rfl⟩ ?_
  refine z_lv [2, 3, 4, 5, 1, 0] (lv' := [(0, .ref (a 7)), (1, .ref (a 1)), (2, .int x2), (3, .int x3), (4, .int x3), (5, .long 0)]) rfl ?_
  exact ce_X_takeWord_L6_t n n u x2 x3 x3 0
set_option maxRecDepth 20000 in
set_option maxHeartbeats 4000000 in
theorem ce_X_takeNumber_J77_t {κ : zKx} {ca : Nat → ClassId} {D : va_G} {A : Nat → Prop} {c0 : Nat × Nat} {a g0 g : Nat → Nat} (n : Nat) (u : zMu) (x3 : Int32) (x4 : Int32) (x5 : Int64) (s0 : Int32) : zJ κ (zCe ca D) prog_5_method_7_code 8 ce_RX (some .int) zri true 1 A c0 a g0 g u 77 [(0, .ref (a 7)), (3, .int x3), (4, .int x4), (5, .long x5)] [.int s0] (ce_X_takeNumber_J77 n u x3 x4 x5 s0) := by
  unfold ce_X_takeNumber_J77
  refine z_istore (pc' := 79) (i := 7) (by decide) rfl ⟨by decide +kernel, rfl⟩ ?_
  refine z_aload_n (pc' := 80) (k := 0) (i := 0) 1 rfl rfl ⟨by decide +kernel, rfl⟩ ?_
  refine z_iload (pc' := 82) (i := 7) 0 rfl ⟨by decide +kernel, rfl⟩ ?_
  refine z_if_eq (pc' := 85) (tgt := 91) (off := 9) ⟨by decide +kernel, rfl⟩ rfl (fun h1 => ?_) (fun h1 => ?_)
  · refine z_sipush (pc' := 94) (n := 257) (v := 257) (by decide) ⟨by decide +kernel, rfl⟩ ?_
    refine z_iload_n (pc' := 95) (k := 3) (i := 3) 2 rfl rfl ⟨by decide +kernel, rfl⟩ ?_
    refine z_lload (pc' := 97) (i := 5) 4 rfl ⟨by decide +kernel, rfl⟩ ?_
    refine z_callVf (pc' := 100) 7 (cet_X_add n u 257 x3 x5) (ceG_X77 ca D) (ceO_7 ca D) rfl (by omega) rfl rfl (Nat.le_of_ble_eq_true rfl) ⟨by decide +kernel, rfl⟩ (fun _ u3 => ?_)
    refine z_iload (pc' := 102) (i := 4) 3 rfl ⟨by decide +kernel, rfl⟩ ?_
    exact z_iret (pc' := 103) ⟨by decide +kernel, rfl⟩
  · refine z_sipush (pc' := 88) (n := 258) (v := 258) (by decide) ⟨by decide +kernel, rfl⟩ ?_
    refine z_goto (tgt := 94) (off := 6) (by decide +kernel) rfl ?_
    refine z_iload_n (pc' := 95) (k := 3) (i := 3) 2 rfl rfl ⟨by decide +kernel, rfl⟩ ?_
    refine z_lload (pc' := 97) (i := 5) 4 rfl ⟨by decide +kernel, rfl⟩ ?_
    refine z_callVf (pc' := 100) 7 (cet_X_add n u 258 x3 x5) (ceG_X77 ca D) (ceO_7 ca D) rfl (by omega) rfl rfl (Nat.le_of_ble_eq_true rfl) ⟨by decide +kernel, rfl⟩ (fun _ u5 => ?_)
    refine z_iload (pc' := 102) (i := 4) 3 rfl ⟨by decide +kernel, rfl⟩ ?_
    exact z_iret (pc' := 103) ⟨by decide +kernel, rfl⟩
set_option maxRecDepth 20000 in
set_option maxHeartbeats 4000000 in
theorem ce_X_takeNumber_J76_t {κ : zKx} {ca : Nat → ClassId} {D : va_G} {A : Nat → Prop} {c0 : Nat × Nat} {a g0 g : Nat → Nat} (n : Nat) (u : zMu) (x3 : Int32) (x4 : Int32) (x5 : Int64) : zJ κ (zCe ca D) prog_5_method_7_code 8 ce_RX (some .int) zri true 1 A c0 a g0 g u 76 [(0, .ref (a 7)), (3, .int x3), (4, .int x4), (5, .long x5)] [] (ce_X_takeNumber_J76 n u x3 x4 x5) := by
  unfold ce_X_takeNumber_J76
  refine z_iconst (pc' := 77) (n := 0) (v := 0) (by decide) ⟨by decide +kernel, rfl⟩ ?_
  exact ce_X_takeNumber_J77_t n u x3 x4 x5 0
set_option maxRecDepth 20000 in
set_option maxHeartbeats 4000000 in
theorem ce_X_takeNumber_J54_t {κ : zKx} {ca : Nat → ClassId} {D : va_G} {A : Nat → Prop} {c0 : Nat × Nat} {a g0 g : Nat → Nat} (n : Nat) (u : zMu) (x3 : Int32) (x4 : Int32) (x5 : Int64) : zJ κ (zCe ca D) prog_5_method_7_code 8 ce_RX (some .int) zri true 1 A c0 a g0 g u 54 [(0, .ref (a 7)), (3, .int x3), (4, .int x4), (5, .long x5)] [] (ce_X_takeNumber_J54 n u x3 x4 x5) := by
  unfold ce_X_takeNumber_J54
  refine z_iload (pc' := 56) (i := 4) 2 rfl ⟨by decide +kernel, rfl⟩ ?_
  refine z_iload_n (pc' := 57) (k := 3) (i := 3) 1 rfl rfl ⟨by decide +kernel, rfl⟩ ?_
  refine z_isub (pc' := 58) ⟨by decide +kernel, rfl⟩ ?_
  refine z_bipush (pc' := 60) (n := 9) (v := 9) (by decide) ⟨by decide +kernel, rfl⟩ ?_
  refine z_icmp_gt (pc' := 63) (tgt := 76) (off := 16) ⟨by decide +kernel, rfl⟩ rfl (fun h1 => ?_) (fun h1 => ?_)
  · exact ce_X_takeNumber_J76_t n u x3 x4 x5
  · refine z_lload (pc' := 65) (i := 5) 3 rfl ⟨by decide +kernel, rfl⟩ ?_
    refine z_ldc2 (pc' := 68) (v := 536870911) (ce_w0 0 rfl) ⟨by decide +kernel, rfl⟩ ?_
    refine z_lcmp (pc' := 69) ⟨by decide +kernel, rfl⟩ ?_
    refine z_if_gt (pc' := 72) (tgt := 76) (off := 7) ⟨by decide +kernel, rfl⟩ rfl (fun h2 => ?_) (fun h2 => ?_)
    · exact ce_X_takeNumber_J76_t n u x3 x4 x5
    · refine z_iconst (pc' := 73) (n := 1) (v := 1) (by decide) ⟨by decide +kernel, rfl⟩ ?_
      refine z_goto (tgt := 77) (off := 4) (by decide +kernel) rfl ?_
      exact ce_X_takeNumber_J77_t n u x3 x4 x5 1
set_option maxRecDepth 20000 in
set_option maxHeartbeats 4000000 in
theorem ce_X_takeNumber_L6_t {κ : zKx} {ca : Nat → ClassId} {D : va_G} {A : Nat → Prop} {c0 : Nat × Nat} {a g0 g : Nat → Nat} (n : Nat) : ∀ (m : Nat) (u : zMu) (x2 : Int32) (x3 : Int32) (x4 : Int32) (x5 : Int64), zJ κ (zCe ca D) prog_5_method_7_code 8 ce_RX (some .int) zri true 1 A c0 a g0 g u 6 [(0, .ref (a 7)), (1, .ref (a 1)), (2, .int x2), (3, .int x3), (4, .int x4), (5, .long x5)] [] (ce_X_takeNumber_L6 n m u x2 x3 x4 x5) := by
  intro m
  induction m with
  | zero => intro u x2 x3 x4 x5 r u' h; cases h
  | succ m ih =>
    intro u x2 x3 x4 x5
    unfold ce_X_takeNumber_L6
    refine z_iload (pc' := 8) (i := 4) 4 rfl ⟨by decide +kernel, rfl⟩ ?_
    refine z_iload_n (pc' := 9) (k := 2) (i := 2) 2 rfl rfl ⟨by decide +kernel, rfl⟩ ?_
    refine z_icmp_ge (pc' := 12) (tgt := 54) (off := 45) ⟨by decide +kernel, rfl⟩ rfl (fun h1 => ?_) (fun h1 => ?_)
    · refine z_aload_n (pc' := 13) (k := 1) (i := 1) 1 rfl rfl ⟨by decide +kernel, rfl⟩ ?_
      refine z_iload (pc' := 15) (i := 4) 4 rfl ⟨by decide +kernel, rfl⟩ ?_
      refine z_bald (pc' := 16) 1 rfl (zlt rfl) rfl rfl ⟨by decide +kernel, rfl⟩ ?_
      refine z_callSf (pc' := 19) (cet_X_isDigit n u (zI u 1 (zx x4))) (ceG_X68 ca D) (by omega) rfl rfl (Nat.le_of_ble_eq_true rfl) ⟨by decide +kernel, rfl⟩ (fun r2 u3 => ?_)
      refine z_if_eq (pc' := 22) (tgt := 54) (off := 35) ⟨by decide +kernel, rfl⟩ rfl (fun h4 => ?_) (fun h4 => ?_)
      · refine z_lv [0, 3, 4, 5] (lv' := [(0, .ref (a 7)), (3, .int x3), (4, .int x4), (5, .long x5)]) rfl ?_
        exact ce_X_takeNumber_J54_t n u3 x3 x4 x5
      · refine z_iload (pc' := 24) (i := 4) 4 rfl ⟨by decide +kernel, rfl⟩ ?_
        refine z_iload_n (pc' := 25) (k := 3) (i := 3) 3 rfl rfl ⟨by decide +kernel, rfl⟩ ?_
        refine z_isub (pc' := 26) ⟨by decide +kernel, rfl⟩ ?_
        refine z_bipush (pc' := 28) (n := 9) (v := 9) (by decide) ⟨by decide +kernel, rfl⟩ ?_
        refine z_icmp_ge (pc' := 31) (tgt := 48) (off := 20) ⟨by decide +kernel, rfl⟩ rfl (fun h5 => ?_) (fun h5 => ?_)
        · refine z_lload (pc' := 33) (i := 5) 5 rfl ⟨by decide +kernel, rfl⟩ ?_
          refine z_ldc2 (pc' := 36) (v := 10) (ce_w0 1 rfl) ⟨by decide +kernel, rfl⟩ ?_
          refine z_lmul (pc' := 37) ⟨by decide +kernel, rfl⟩ ?_
          refine z_aload_n (pc' := 38) (k := 1) (i := 1) 1 rfl rfl ⟨by decide +kernel, rfl⟩ ?_
          refine z_iload (pc' := 40) (i := 4) 4 rfl ⟨by decide +kernel, rfl⟩ ?_
          refine z_bald (pc' := 41) 1 rfl (zlt rfl) rfl rfl ⟨by decide +kernel, rfl⟩ ?_
          refine z_bipush (pc' := 43) (n := 48) (v := 48) (by decide) ⟨by decide +kernel, rfl⟩ ?_
          refine z_isub (pc' := 44) ⟨by decide +kernel, rfl⟩ ?_
          refine z_i2l (pc' := 45) ⟨by decide +kernel, rfl⟩ ?_
          refine z_ladd (pc' := 46) ⟨by decide +kernel, rfl⟩ ?_
          refine z_letL fun v6 => ?_
          refine z_lstore (pc' := 48) (i := 5) (by decide) rfl ⟨by decide +kernel, rfl⟩ ?_
          refine z_iincN (pc' := 51) (i := 4) (n := 1) (c := 1) 5 rfl (by decide) (by decide) rfl ⟨by decide +kernel, rfl⟩ fun v7 => ?_
          refine z_goto (tgt := 6) (off := -45) (by decide +kernel) rfl ?_
          refine z_lv [2, 3, 4, 5, 0, 1] (lv' := [(0, .ref (a 7)), (1, .ref (a 1)), (2, .int x2), (3, .int x3), (4, .int v7), (5, .long v6)]) rfl ?_
          exact ih u3 x2 x3 v7 v6
        · refine z_iincN (pc' := 51) (i := 4) (n := 1) (c := 1) 4 rfl (by decide) (by decide) rfl ⟨by decide +kernel, rfl⟩ fun v8 => ?_
          refine z_goto (tgt := 6) (off := -45) (by decide +kernel) rfl ?_
          refine z_lv [1, 2, 3, 4, 0, 5] (lv' := [(0, .ref (a 7)), (1, .ref (a 1)), (2, .int x2), (3, .int x3), (4, .int v8), (5, .long x5)]) rfl ?_
          exact ih u3 x2 x3 v8 x5
    · refine z_lv [0, 3, 4, 5] (lv' := [(0, .ref (a 7)), (3, .int x3), (4, .int x4), (5, .long x5)]) rfl ?_
      exact ce_X_takeNumber_J54_t n u x3 x4 x5
set_option maxRecDepth 20000 in
set_option maxHeartbeats 4000000 in
theorem cet_X_takeNumber {l : Launch} {ca : Nat → ClassId} {D : va_G} {a g : Nat → Nat} (n : Nat) (u : zMu) (x2 : Int32) (x3 : Int32) : zMet l (zCe ca D) ceY_X_takeNumber (.code ceY_X_takeNumber prog_5_method_7_code 8 (some .int)) zri true 1 a g [.ref (a 7), .ref (a 1), .int x2, .int x3] u (ce_X_takeNumber n u x2 x3) := by
  refine zMet.of rfl (Nat.le_of_ble_eq_true rfl) fun κ A hl => ?_
  subst hl
  unfold ce_X_takeNumber
  refine z_iload_n (pc' := 1) (k := 3) (i := 3) 3 rfl rfl ⟨by decide +kernel, rfl⟩ ?_
  refine z_istore (pc' := 3) (i := 4) (by decide) rfl ⟨by decide +kernel, rfl⟩ ?_
  refine z_lconst (pc' := 4) (n := 0) (v := 0) (by decide) ⟨by decide +kernel, rfl⟩ ?_
  refine z_lstore (pc' := 6) (i := 5) (by decide) rfl ⟨by decide +kernel, rfl⟩ ?_
  refine z_lv [2, 3, 4, 5, 1, 0] (lv' := [(0, .ref (a 7)), (1, .ref (a 1)), (2, .int x2), (3, .int x3), (4, .int x3), (5, .long 0)]) rfl ?_
  exact ce_X_takeNumber_L6_t n n u x2 x3 x3 0
set_option maxRecDepth 20000 in
set_option maxHeartbeats 4000000 in
theorem ce_X_takeSign_J47_t {κ : zKx} {ca : Nat → ClassId} {D : va_G} {A : Nat → Prop} {c0 : Nat × Nat} {a g0 g : Nat → Nat} (n : Nat) (u : zMu) (x3 : Int32) (x4 : Int32) : zJ κ (zCe ca D) prog_5_method_8_code 5 ce_RX (some .int) zri true 8 A c0 a g0 g u 47 [(0, .ref (a 7)), (3, .int x3), (4, .int x4)] [] (ce_X_takeSign_J47 n u x3 x4) := by
  unfold ce_X_takeSign_J47
  refine z_aload_n (pc' := 48) (k := 0) (i := 0) 0 rfl rfl ⟨by decide +kernel, rfl⟩ ?_
  refine t_ldc (pc' := 50) (i := 12) (by decide) rfl rfl ⟨by decide +kernel, rfl⟩ ?_
  refine z_iload (pc' := 52) (i := 4) 2 rfl ⟨by decide +kernel, rfl⟩ ?_
  refine z_callT (pc' := 55) (i := 12) (jst_indexOf1 n 12 (by decide) u x4) (jsG_ShapeEngineLexer104 ca D) (by decide) (by omega) rfl rfl (Nat.le_of_ble_eq_true rfl) ⟨by decide +kernel, rfl⟩ (fun r1 u2 => ?_)
  refine z_if_ge (pc' := 58) (tgt := 64) (off := 9) ⟨by decide +kernel, rfl⟩ rfl (fun h3 => ?_) (fun h3 => ?_)
  · refine z_sipush (pc' := 61) (n := 257) (v := 257) (by decide) ⟨by decide +kernel, rfl⟩ ?_
    refine z_goto (tgt := 66) (off := 5) (by decide +kernel) rfl ?_
    refine z_iload_n (pc' := 67) (k := 3) (i := 3) 1 rfl rfl ⟨by decide +kernel, rfl⟩ ?_
    refine z_lconst (pc' := 68) (n := 0) (v := 0) (by decide) ⟨by decide +kernel, rfl⟩ ?_
    refine z_callVf (pc' := 71) 7 (cet_X_add n u2 257 x3 0) (ceG_X77 ca D) (ceO_7 ca D) rfl (by omega) rfl rfl (Nat.le_of_ble_eq_true rfl) ⟨by decide +kernel, rfl⟩ (fun _ u5 => ?_)
    refine z_iload_n (pc' := 72) (k := 3) (i := 3) 1 rfl rfl ⟨by decide +kernel, rfl⟩ ?_
    refine z_iconst (pc' := 73) (n := 1) (v := 1) (by decide) ⟨by decide +kernel, rfl⟩ ?_
    refine z_iadd (pc' := 74) ⟨by decide +kernel, rfl⟩ ?_
    exact z_iret (pc' := 75) ⟨by decide +kernel, rfl⟩
  · refine z_iload (pc' := 66) (i := 4) 2 rfl ⟨by decide +kernel, rfl⟩ ?_
    refine z_iload_n (pc' := 67) (k := 3) (i := 3) 1 rfl rfl ⟨by decide +kernel, rfl⟩ ?_
    refine z_lconst (pc' := 68) (n := 0) (v := 0) (by decide) ⟨by decide +kernel, rfl⟩ ?_
    refine z_callVf (pc' := 71) 7 (cet_X_add n u2 x4 x3 0) (ceG_X77 ca D) (ceO_7 ca D) rfl (by omega) rfl rfl (Nat.le_of_ble_eq_true rfl) ⟨by decide +kernel, rfl⟩ (fun _ u7 => ?_)
    refine z_iload_n (pc' := 72) (k := 3) (i := 3) 1 rfl rfl ⟨by decide +kernel, rfl⟩ ?_
    refine z_iconst (pc' := 73) (n := 1) (v := 1) (by decide) ⟨by decide +kernel, rfl⟩ ?_
    refine z_iadd (pc' := 74) ⟨by decide +kernel, rfl⟩ ?_
    exact z_iret (pc' := 75) ⟨by decide +kernel, rfl⟩
set_option maxRecDepth 20000 in
set_option maxHeartbeats 4000000 in
theorem cet_X_takeSign {l : Launch} {ca : Nat → ClassId} {D : va_G} {a g : Nat → Nat} (n : Nat) (u : zMu) (x2 : Int32) (x3 : Int32) : zMet l (zCe ca D) ceY_X_takeSign (.code ceY_X_takeSign prog_5_method_8_code 5 (some .int)) zri true 8 a g [.ref (a 7), .ref (a 1), .int x2, .int x3] u (ce_X_takeSign n u x2 x3) := by
  refine zMet.of rfl (Nat.le_of_ble_eq_true rfl) fun κ A hl => ?_
  subst hl
  unfold ce_X_takeSign
  refine z_aload_n (pc' := 1) (k := 1) (i := 1) 1 rfl rfl ⟨by decide +kernel, rfl⟩ ?_
  refine z_iload_n (pc' := 2) (k := 3) (i := 3) 3 rfl rfl ⟨by decide +kernel, rfl⟩ ?_
  refine z_bald (pc' := 3) 1 rfl (zlt rfl) rfl rfl ⟨by decide +kernel, rfl⟩ ?_
  refine z_sipush (pc' := 6) (n := 255) (v := 255) (by decide) ⟨by decide +kernel, rfl⟩ ?_
  refine z_iand (pc' := 7) ⟨by decide +kernel, rfl⟩ ?_
  refine z_i2c (pc' := 8) ⟨by decide +kernel, rfl⟩ ?_
  refine z_letI fun v1 => ?_
  refine z_istore (pc' := 10) (i := 4) (by decide) rfl ⟨by decide +kernel, rfl⟩ ?_
  refine z_iload (pc' := 12) (i := 4) 0 rfl ⟨by decide +kernel, rfl⟩ ?_
  refine z_bipush (pc' := 14) (n := 61) (v := 61) (by decide) ⟨by decide +kernel, rfl⟩ ?_
  refine z_icmp_ne (pc' := 17) (tgt := 47) (off := 33) ⟨by decide +kernel, rfl⟩ rfl (fun h2 => ?_) (fun h2 => ?_)
  · refine z_iload_n (pc' := 18) (k := 3) (i := 3) 4 rfl rfl ⟨by decide +kernel, rfl⟩ ?_
    refine z_iconst (pc' := 19) (n := 1) (v := 1) (by decide) ⟨by decide +kernel, rfl⟩ ?_
    refine z_iadd (pc' := 20) ⟨by decide +kernel, rfl⟩ ?_
    refine z_iload_n (pc' := 21) (k := 2) (i := 2) 3 rfl rfl ⟨by decide +kernel, rfl⟩ ?_
    refine z_icmp_ge (pc' := 24) (tgt := 47) (off := 26) ⟨by decide +kernel, rfl⟩ rfl (fun h3 => ?_) (fun h3 => ?_)
    · refine z_aload_n (pc' := 25) (k := 1) (i := 1) 2 rfl rfl ⟨by decide +kernel, rfl⟩ ?_
      refine z_iload_n (pc' := 26) (k := 3) (i := 3) 4 rfl rfl ⟨by decide +kernel, rfl⟩ ?_
      refine z_iconst (pc' := 27) (n := 1) (v := 1) (by decide) ⟨by decide +kernel, rfl⟩ ?_
      refine z_iadd (pc' := 28) ⟨by decide +kernel, rfl⟩ ?_
      refine z_bald (pc' := 29) 1 rfl (zlt rfl) rfl rfl ⟨by decide +kernel, rfl⟩ ?_
      refine z_bipush (pc' := 31) (n := 61) (v := 61) (by decide) ⟨by decide +kernel, rfl⟩ ?_
      refine z_icmp_ne (pc' := 34) (tgt := 47) (off := 16) ⟨by decide +kernel, rfl⟩ rfl (fun h4 => ?_) (fun h4 => ?_)
      · refine z_aload_n (pc' := 35) (k := 0) (i := 0) 1 rfl rfl ⟨by decide +kernel, rfl⟩ ?_
        refine z_sipush (pc' := 38) (n := 260) (v := 260) (by decide) ⟨by decide +kernel, rfl⟩ ?_
        refine z_iload_n (pc' := 39) (k := 3) (i := 3) 4 rfl rfl ⟨by decide +kernel, rfl⟩ ?_
        refine z_lconst (pc' := 40) (n := 0) (v := 0) (by decide) ⟨by decide +kernel, rfl⟩ ?_
        refine z_callVf (pc' := 43) 7 (cet_X_add n u 260 x3 0) (ceG_X77 ca D) (ceO_7 ca D) rfl (by omega) rfl rfl (Nat.le_of_ble_eq_true rfl) ⟨by decide +kernel, rfl⟩ (fun _ u6 => ?_)
        refine z_iload_n (pc' := 44) (k := 3) (i := 3) 4 rfl rfl ⟨by decide +kernel, rfl⟩ ?_
        refine z_iconst (pc' := 45) (n := 2) (v := 2) (by decide) ⟨by decide +kernel, rfl⟩ ?_
        refine z_iadd (pc' := 46) ⟨by decide +kernel, rfl⟩ ?_
        exact z_iret (pc' := 47) ⟨by decide +kernel, rfl⟩
      · refine z_lv [1, 4, 0] (lv' := [(0, .ref (a 7)), (3, .int x3), (4, .int v1)]) rfl ?_
        exact ce_X_takeSign_J47_t n u x3 v1
    · refine z_lv [1, 4, 0] (lv' := [(0, .ref (a 7)), (3, .int x3), (4, .int v1)]) rfl ?_
      exact ce_X_takeSign_J47_t n u x3 v1
  · refine z_lv [1, 4, 0] (lv' := [(0, .ref (a 7)), (3, .int x3), (4, .int v1)]) rfl ?_
    exact ce_X_takeSign_J47_t n u x3 v1
set_option maxRecDepth 20000 in
set_option maxHeartbeats 4000000 in
theorem cet_X_advance {l : Launch} {ca : Nat → ClassId} {D : va_G} {a g : Nat → Nat} (n : Nat) (u : zMu) : zMet l (zCe ca D) ceY_X_advance (.code ceY_X_advance prog_5_method_3_code 1 none) zrv true 0 a g [.ref (a 7)] u (ce_X_advance n u) := by
  refine zMet.of rfl (Nat.le_of_ble_eq_true rfl) fun κ A hl => ?_
  subst hl
  unfold ce_X_advance
  refine z_aload_n (pc' := 1) (k := 0) (i := 0) 0 rfl rfl ⟨by decide +kernel, rfl⟩ ?_
  refine z_getI (pc' := 4) (cef_X81_7 ca D) rfl ⟨by decide +kernel, rfl⟩ ?_
  refine z_iconst (pc' := 5) (n := 1) (v := 1) (by decide) ⟨by decide +kernel, rfl⟩ ?_
  refine z_iadd (pc' := 6) ⟨by decide +kernel, rfl⟩ ?_
  refine z_aload_n (pc' := 7) (k := 0) (i := 0) 0 rfl rfl ⟨by decide +kernel, rfl⟩ ?_
  refine z_getI (pc' := 10) (cef_X57_7 ca D) rfl ⟨by decide +kernel, rfl⟩ ?_
  refine z_icmp_lt (pc' := 13) (tgt := 14) (off := 4) ⟨by decide +kernel, rfl⟩ rfl (fun h1 => ?_) (fun h1 => ?_)
  · refine z_aload_n (pc' := 15) (k := 0) (i := 0) 0 rfl rfl ⟨by decide +kernel, rfl⟩ ?_
    refine z_dup (pc' := 16) rfl ⟨by decide +kernel, rfl⟩ ?_
    refine z_getI (pc' := 19) (cef_X81_7 ca D) rfl ⟨by decide +kernel, rfl⟩ ?_
    refine z_iconst (pc' := 20) (n := 1) (v := 1) (by decide) ⟨by decide +kernel, rfl⟩ ?_
    refine z_iadd (pc' := 21) ⟨by decide +kernel, rfl⟩ ?_
    refine z_putI (pc' := 24) (cef_X81_7 ca D) rfl ⟨by decide +kernel, rfl⟩ (z_letU fun u2 => ?_)
    refine z_aload_n (pc' := 25) (k := 0) (i := 0) 0 rfl rfl ⟨by decide +kernel, rfl⟩ ?_
    refine z_aload_n (pc' := 26) (k := 0) (i := 0) 0 rfl rfl ⟨by decide +kernel, rfl⟩ ?_
    refine z_getR (pc' := 29) (cef_X43_7 ca D) rfl (y := a 9) rfl ⟨by decide +kernel, rfl⟩ ?_
    refine z_aload_n (pc' := 30) (k := 0) (i := 0) 0 rfl rfl ⟨by decide +kernel, rfl⟩ ?_
    refine z_getI (pc' := 33) (cef_X81_7 ca D) rfl ⟨by decide +kernel, rfl⟩ ?_
    refine z_sald (pc' := 34) 9 rfl (zlt rfl) rfl rfl ⟨by decide +kernel, rfl⟩ ?_
    refine z_putI (pc' := 37) (cef_X53_7 ca D) rfl ⟨by decide +kernel, rfl⟩ (z_letU fun u3 => ?_)
    refine z_aload_n (pc' := 38) (k := 0) (i := 0) 0 rfl rfl ⟨by decide +kernel, rfl⟩ ?_
    refine z_aload_n (pc' := 39) (k := 0) (i := 0) 0 rfl rfl ⟨by decide +kernel, rfl⟩ ?_
    refine z_getR (pc' := 42) (cef_X47_7 ca D) rfl (y := a 10) rfl ⟨by decide +kernel, rfl⟩ ?_
    refine z_aload_n (pc' := 43) (k := 0) (i := 0) 0 rfl rfl ⟨by decide +kernel, rfl⟩ ?_
    refine z_getI (pc' := 46) (cef_X81_7 ca D) rfl ⟨by decide +kernel, rfl⟩ ?_
    refine z_sald (pc' := 47) 10 rfl (zlt rfl) rfl rfl ⟨by decide +kernel, rfl⟩ ?_
    refine z_putI (pc' := 50) (cef_X87_7 ca D) rfl ⟨by decide +kernel, rfl⟩ (z_letU fun u4 => ?_)
    refine z_aload_n (pc' := 51) (k := 0) (i := 0) 0 rfl rfl ⟨by decide +kernel, rfl⟩ ?_
    refine z_aload_n (pc' := 52) (k := 0) (i := 0) 0 rfl rfl ⟨by decide +kernel, rfl⟩ ?_
    refine z_getR (pc' := 55) (cef_X50_7 ca D) rfl (y := a 11) rfl ⟨by decide +kernel, rfl⟩ ?_
    refine z_aload_n (pc' := 56) (k := 0) (i := 0) 0 rfl rfl ⟨by decide +kernel, rfl⟩ ?_
    refine z_getI (pc' := 59) (cef_X81_7 ca D) rfl ⟨by decide +kernel, rfl⟩ ?_
    refine z_lald (pc' := 60) 11 rfl (zlt rfl) rfl rfl ⟨by decide +kernel, rfl⟩ ?_
    refine z_putL (pc' := 63) (cef_X90_7 ca D) rfl ⟨by decide +kernel, rfl⟩ (z_letU fun u5 => ?_)
    exact z_vret (pc' := 64) ⟨by decide +kernel, rfl⟩
  · exact z_vret (pc' := 14) ⟨by decide +kernel, rfl⟩
set_option maxRecDepth 20000 in
set_option maxHeartbeats 4000000 in
theorem ce_X_begin_J99_t {κ : zKx} {ca : Nat → ClassId} {D : va_G} {A : Nat → Prop} {c0 : Nat × Nat} {a g0 g : Nat → Nat} (n : Nat) (u : zMu) (x2 : Int32) : zJ κ (zCe ca D) prog_5_method_2_code 5 ce_RX none zrv true 9 A c0 a g0 g u 99 [(0, .ref (a 7)), (2, .int x2)] [] (ce_X_begin_J99 n u x2) := by
  unfold ce_X_begin_J99
  refine z_aload_n (pc' := 100) (k := 0) (i := 0) 0 rfl rfl ⟨by decide +kernel, rfl⟩ ?_
  refine z_sipush (pc' := 103) (n := 256) (v := 256) (by decide) ⟨by decide +kernel, rfl⟩ ?_
  refine z_iload_n (pc' := 104) (k := 2) (i := 2) 1 rfl rfl ⟨by decide +kernel, rfl⟩ ?_
  refine z_lconst (pc' := 105) (n := 0) (v := 0) (by decide) ⟨by decide +kernel, rfl⟩ ?_
  refine z_callVf (pc' := 108) 7 (cet_X_add n u 256 x2 0) (ceG_X77 ca D) (ceO_7 ca D) rfl (by omega) rfl rfl (Nat.le_of_ble_eq_true rfl) ⟨by decide +kernel, rfl⟩ (fun _ u2 => ?_)
  refine z_aload_n (pc' := 109) (k := 0) (i := 0) 0 rfl rfl ⟨by decide +kernel, rfl⟩ ?_
  refine z_iconst (pc' := 110) (n := (-1)) (v := (-1)) (by decide) ⟨by decide +kernel, rfl⟩ ?_
  refine z_putI (pc' := 113) (cef_X81_7 ca D) rfl ⟨by decide +kernel, rfl⟩ (z_letU fun u3 => ?_)
  refine z_aload_n (pc' := 114) (k := 0) (i := 0) 0 rfl rfl ⟨by decide +kernel, rfl⟩ ?_
  refine z_callVf (pc' := 117) 7 (cet_X_advance n u3) (ceG_X84 ca D) (ceO_7 ca D) rfl (by omega) rfl rfl (Nat.le_of_ble_eq_true rfl) ⟨by decide +kernel, rfl⟩ (fun _ u5 => ?_)
  exact z_vret (pc' := 118) ⟨by decide +kernel, rfl⟩
set_option maxRecDepth 20000 in
set_option maxHeartbeats 4000000 in
theorem ce_X_begin_L10_t {κ : zKx} {ca : Nat → ClassId} {D : va_G} {A : Nat → Prop} {c0 : Nat × Nat} {a g0 g : Nat → Nat} (n : Nat) : ∀ (m : Nat) (u : zMu) (x2 : Int32) (x3 : Int32) (x4 : Int32), zJ κ (zCe ca D) prog_5_method_2_code 5 ce_RX none zrv true 9 A c0 a g0 g u 10 [(0, .ref (a 7)), (1, .ref (a 1)), (2, .int x2), (3, .int x3), (4, .int x4)] [] (ce_X_begin_L10 n m u x2 x3 x4) := by
  intro m
  induction m with
  | zero => intro u x2 x3 x4 r u' h; cases h
  | succ m ih =>
    intro u x2 x3 x4
    unfold ce_X_begin_L10
    refine z_iload (pc' := 12) (i := 4) 4 rfl ⟨by decide +kernel, rfl⟩ ?_
    refine z_sipush (pc' := 15) (n := 1500) (v := 1500) (by decide) ⟨by decide +kernel, rfl⟩ ?_
    refine z_icmp_ge (pc' := 18) (tgt := 99) (off := 84) ⟨by decide +kernel, rfl⟩ rfl (fun h1 => ?_) (fun h1 => ?_)
    · refine z_iload_n (pc' := 19) (k := 3) (i := 3) 3 rfl rfl ⟨by decide +kernel, rfl⟩ ?_
      refine z_iload_n (pc' := 20) (k := 2) (i := 2) 2 rfl rfl ⟨by decide +kernel, rfl⟩ ?_
      refine z_icmp_ge (pc' := 23) (tgt := 99) (off := 79) ⟨by decide +kernel, rfl⟩ rfl (fun h2 => ?_) (fun h2 => ?_)
      · refine z_aload_n (pc' := 24) (k := 1) (i := 1) 1 rfl rfl ⟨by decide +kernel, rfl⟩ ?_
        refine z_iload_n (pc' := 25) (k := 3) (i := 3) 3 rfl rfl ⟨by decide +kernel, rfl⟩ ?_
        refine z_bald (pc' := 26) 1 rfl (zlt rfl) rfl rfl ⟨by decide +kernel, rfl⟩ ?_
        refine z_bipush (pc' := 28) (n := 32) (v := 32) (by decide) ⟨by decide +kernel, rfl⟩ ?_
        refine z_icmp_eq (pc' := 31) (tgt := 39) (off := 11) ⟨by decide +kernel, rfl⟩ rfl (fun h3 => ?_) (fun h3 => ?_)
        · refine z_iincN (pc' := 42) (i := 3) (n := 1) (c := 1) 3 rfl (by decide) (by decide) rfl ⟨by decide +kernel, rfl⟩ fun v4 => ?_
          refine z_goto (tgt := 93) (off := 51) (by decide +kernel) rfl ?_
          refine z_iincN (pc' := 96) (i := 4) (n := 1) (c := 1) 4 rfl (by decide) (by decide) rfl ⟨by decide +kernel, rfl⟩ fun v5 => ?_
          refine z_goto (tgt := 10) (off := -86) (by decide +kernel) rfl ?_
          refine z_lv [2, 3, 4, 1, 0] (lv' := [(0, .ref (a 7)), (1, .ref (a 1)), (2, .int x2), (3, .int v4), (4, .int v5)]) rfl ?_
          exact ih u x2 v4 v5
        · refine z_aload_n (pc' := 32) (k := 1) (i := 1) 1 rfl rfl ⟨by decide +kernel, rfl⟩ ?_
          refine z_iload_n (pc' := 33) (k := 3) (i := 3) 3 rfl rfl ⟨by decide +kernel, rfl⟩ ?_
          refine z_bald (pc' := 34) 1 rfl (zlt rfl) rfl rfl ⟨by decide +kernel, rfl⟩ ?_
          refine z_bipush (pc' := 36) (n := 10) (v := 10) (by decide) ⟨by decide +kernel, rfl⟩ ?_
          refine z_icmp_ne (pc' := 39) (tgt := 45) (off := 9) ⟨by decide +kernel, rfl⟩ rfl (fun h6 => ?_) (fun h6 => ?_)
          · refine z_iincN (pc' := 42) (i := 3) (n := 1) (c := 1) 3 rfl (by decide) (by decide) rfl ⟨by decide +kernel, rfl⟩ fun v7 => ?_
            refine z_goto (tgt := 93) (off := 51) (by decide +kernel) rfl ?_
            refine z_iincN (pc' := 96) (i := 4) (n := 1) (c := 1) 4 rfl (by decide) (by decide) rfl ⟨by decide +kernel, rfl⟩ fun v8 => ?_
            refine z_goto (tgt := 10) (off := -86) (by decide +kernel) rfl ?_
            refine z_lv [2, 3, 4, 1, 0] (lv' := [(0, .ref (a 7)), (1, .ref (a 1)), (2, .int x2), (3, .int v7), (4, .int v8)]) rfl ?_
            exact ih u x2 v7 v8
          · refine z_aload_n (pc' := 46) (k := 1) (i := 1) 1 rfl rfl ⟨by decide +kernel, rfl⟩ ?_
            refine z_iload_n (pc' := 47) (k := 3) (i := 3) 3 rfl rfl ⟨by decide +kernel, rfl⟩ ?_
            refine z_bald (pc' := 48) 1 rfl (zlt rfl) rfl rfl ⟨by decide +kernel, rfl⟩ ?_
            refine z_callSf (pc' := 51) (cet_X_isLetter n u (zI u 1 (zx x3))) (ceG_X60 ca D) (by omega) rfl rfl (Nat.le_of_ble_eq_true rfl) ⟨by decide +kernel, rfl⟩ (fun r9 u10 => ?_)
            refine z_if_eq (pc' := 54) (tgt := 65) (off := 14) ⟨by decide +kernel, rfl⟩ rfl (fun h11 => ?_) (fun h11 => ?_)
            · refine z_aload_n (pc' := 66) (k := 1) (i := 1) 1 rfl rfl ⟨by decide +kernel, rfl⟩ ?_
              refine z_iload_n (pc' := 67) (k := 3) (i := 3) 3 rfl rfl ⟨by decide +kernel, rfl⟩ ?_
              refine z_bald (pc' := 68) 1 rfl (zlt rfl) rfl rfl ⟨by decide +kernel, rfl⟩ ?_
              refine z_callSf (pc' := 71) (cet_X_isDigit n u10 (zI u10 1 (zx x3))) (ceG_X68 ca D) (by omega) rfl rfl (Nat.le_of_ble_eq_true rfl) ⟨by decide +kernel, rfl⟩ (fun r12 u13 => ?_)
              refine z_if_eq (pc' := 74) (tgt := 85) (off := 14) ⟨by decide +kernel, rfl⟩ rfl (fun h14 => ?_) (fun h14 => ?_)
              · refine z_aload_n (pc' := 86) (k := 0) (i := 0) 0 rfl rfl ⟨by decide +kernel, rfl⟩ ?_
                refine z_aload_n (pc' := 87) (k := 1) (i := 1) 1 rfl rfl ⟨by decide +kernel, rfl⟩ ?_
                refine z_iload_n (pc' := 88) (k := 2) (i := 2) 2 rfl rfl ⟨by decide +kernel, rfl⟩ ?_
                refine z_iload_n (pc' := 89) (k := 3) (i := 3) 3 rfl rfl ⟨by decide +kernel, rfl⟩ ?_
                refine z_callVf (pc' := 92) 7 (cet_X_takeSign n u13 x2 x3) (ceG_X74 ca D) (ceO_7 ca D) rfl (by omega) rfl rfl (Nat.le_of_ble_eq_true rfl) ⟨by decide +kernel, rfl⟩ (fun r15 u16 => ?_)
                refine z_istore_n (pc' := 93) (k := 3) (i := 3) rfl (by decide) rfl ⟨by decide +kernel, rfl⟩ ?_
                refine z_iincN (pc' := 96) (i := 4) (n := 1) (c := 1) 4 rfl (by decide) (by decide) rfl ⟨by decide +kernel, rfl⟩ fun v17 => ?_
                refine z_goto (tgt := 10) (off := -86) (by decide +kernel) rfl ?_
                refine z_lv [2, 3, 4, 1, 0] (lv' := [(0, .ref (a 7)), (1, .ref (a 1)), (2, .int x2), (3, .int r15), (4, .int v17)]) rfl ?_
                exact ih u16 x2 r15 v17
              · refine z_aload_n (pc' := 75) (k := 0) (i := 0) 0 rfl rfl ⟨by decide +kernel, rfl⟩ ?_
                refine z_aload_n (pc' := 76) (k := 1) (i := 1) 1 rfl rfl ⟨by decide +kernel, rfl⟩ ?_
                refine z_iload_n (pc' := 77) (k := 2) (i := 2) 2 rfl rfl ⟨by decide +kernel, rfl⟩ ?_
                refine z_iload_n (pc' := 78) (k := 3) (i := 3) 3 rfl rfl ⟨by decide +kernel, rfl⟩ ?_
                refine z_callVf (pc' := 81) 7 (cet_X_takeNumber n u13 x2 x3) (ceG_X71 ca D) (ceO_7 ca D) rfl (by omega) rfl rfl (Nat.le_of_ble_eq_true rfl) ⟨by decide +kernel, rfl⟩ (fun r18 u19 => ?_)
                refine z_istore_n (pc' := 82) (k := 3) (i := 3) rfl (by decide) rfl ⟨by decide +kernel, rfl⟩ ?_
                refine z_goto (tgt := 93) (off := 11) (by decide +kernel) rfl ?_
                refine z_iincN (pc' := 96) (i := 4) (n := 1) (c := 1) 4 rfl (by decide) (by decide) rfl ⟨by decide +kernel, rfl⟩ fun v20 => ?_
                refine z_goto (tgt := 10) (off := -86) (by decide +kernel) rfl ?_
                refine z_lv [2, 3, 4, 1, 0] (lv' := [(0, .ref (a 7)), (1, .ref (a 1)), (2, .int x2), (3, .int r18), (4, .int v20)]) rfl ?_
                exact ih u19 x2 r18 v20
            · refine z_aload_n (pc' := 55) (k := 0) (i := 0) 0 rfl rfl ⟨by decide +kernel, rfl⟩ ?_
              refine z_aload_n (pc' := 56) (k := 1) (i := 1) 1 rfl rfl ⟨by decide +kernel, rfl⟩ ?_
              refine z_iload_n (pc' := 57) (k := 2) (i := 2) 2 rfl rfl ⟨by decide +kernel, rfl⟩ ?_
              refine z_iload_n (pc' := 58) (k := 3) (i := 3) 3 rfl rfl ⟨by decide +kernel, rfl⟩ ?_
              refine z_callVf (pc' := 61) 7 (cet_X_takeWord n u10 x2 x3) (ceG_X64 ca D) (ceO_7 ca D) rfl (by omega) rfl rfl (Nat.le_of_ble_eq_true rfl) ⟨by decide +kernel, rfl⟩ (fun r21 u22 => ?_)
              refine z_istore_n (pc' := 62) (k := 3) (i := 3) rfl (by decide) rfl ⟨by decide +kernel, rfl⟩ ?_
              refine z_goto (tgt := 93) (off := 31) (by decide +kernel) rfl ?_
              refine z_iincN (pc' := 96) (i := 4) (n := 1) (c := 1) 4 rfl (by decide) (by decide) rfl ⟨by decide +kernel, rfl⟩ fun v23 => ?_
              refine z_goto (tgt := 10) (off := -86) (by decide +kernel) rfl ?_
              refine z_lv [2, 3, 4, 1, 0] (lv' := [(0, .ref (a 7)), (1, .ref (a 1)), (2, .int x2), (3, .int r21), (4, .int v23)]) rfl ?_
              exact ih u22 x2 r21 v23
      · refine z_lv [0, 2] (lv' := [(0, .ref (a 7)), (2, .int x2)]) rfl ?_
        exact ce_X_begin_J99_t n u x2
    · refine z_lv [0, 2] (lv' := [(0, .ref (a 7)), (2, .int x2)]) rfl ?_
      exact ce_X_begin_J99_t n u x2
set_option maxRecDepth 20000 in
set_option maxHeartbeats 4000000 in
theorem cet_X_begin {l : Launch} {ca : Nat → ClassId} {D : va_G} {a g : Nat → Nat} (n : Nat) (u : zMu) (x2 : Int32) : zMet l (zCe ca D) ceY_X_begin (.code ceY_X_begin prog_5_method_2_code 5 none) zrv true 9 a g [.ref (a 7), .ref (a 1), .int x2] u (ce_X_begin n u x2) := by
  refine zMet.of rfl (Nat.le_of_ble_eq_true rfl) fun κ A hl => ?_
  subst hl
  unfold ce_X_begin
  refine z_aload_n (pc' := 1) (k := 0) (i := 0) 0 rfl rfl ⟨by decide +kernel, rfl⟩ ?_
  refine z_iconst (pc' := 2) (n := 0) (v := 0) (by decide) ⟨by decide +kernel, rfl⟩ ?_
  refine z_putI (pc' := 5) (cef_X57_7 ca D) rfl ⟨by decide +kernel, rfl⟩ (z_letU fun u1 => ?_)
  refine z_iconst (pc' := 6) (n := 0) (v := 0) (by decide) ⟨by decide +kernel, rfl⟩ ?_
  refine z_istore_n (pc' := 7) (k := 3) (i := 3) rfl (by decide) rfl ⟨by decide +kernel, rfl⟩ ?_
  refine z_iconst (pc' := 8) (n := 0) (v := 0) (by decide) ⟨by decide +kernel, rfl⟩ ?_
  refine z_istore (pc' := 10) (i := 4) (by decide) rfl ⟨by decide +kernel, rfl⟩ ?_
  refine z_lv [2, 3, 4, 1, 0] (lv' := [(0, .ref (a 7)), (1, .ref (a 1)), (2, .int x2), (3, .int 0), (4, .int 0)]) rfl ?_
  exact ce_X_begin_L10_t n n u1 x2 0 0
set_option maxRecDepth 20000 in
set_option maxHeartbeats 4000000 in
theorem cet_C_refuse {l : Launch} {ca : Nat → ClassId} {D : va_G} {a g : Nat → Nat} (n : Nat) (u : zMu) : zMet l (zCe ca D) ceY_C_refuse (.code ceY_C_refuse prog_2_method_35_code 1 none) zrv true 0 a g [.ref (a 2)] u (ce_C_refuse n u) := by
  refine zMet.of rfl (Nat.le_of_ble_eq_true rfl) fun κ A hl => ?_
  subst hl
  unfold ce_C_refuse
  refine z_aload_n (pc' := 1) (k := 0) (i := 0) 0 rfl rfl ⟨by decide +kernel, rfl⟩ ?_
  refine z_getI (pc' := 4) (cef_C80_2 ca D) rfl ⟨by decide +kernel, rfl⟩ ?_
  refine z_if_ne (pc' := 7) (tgt := 28) (off := 24) ⟨by decide +kernel, rfl⟩ rfl (fun h1 => ?_) (fun h1 => ?_)
  · refine z_aload_n (pc' := 8) (k := 0) (i := 0) 0 rfl rfl ⟨by decide +kernel, rfl⟩ ?_
    refine z_iconst (pc' := 9) (n := 1) (v := 1) (by decide) ⟨by decide +kernel, rfl⟩ ?_
    refine z_putZ (pc' := 12) (cef_C80_2 ca D) rfl (by decide) ⟨by decide +kernel, rfl⟩ (z_letU fun u2 => ?_)
    refine z_aload_n (pc' := 13) (k := 0) (i := 0) 0 rfl rfl ⟨by decide +kernel, rfl⟩ ?_
    refine z_iconst (pc' := 14) (n := 1) (v := 1) (by decide) ⟨by decide +kernel, rfl⟩ ?_
    refine z_putI (pc' := 17) (cef_C90_2 ca D) rfl ⟨by decide +kernel, rfl⟩ (z_letU fun u3 => ?_)
    refine z_aload_n (pc' := 18) (k := 0) (i := 0) 0 rfl rfl ⟨by decide +kernel, rfl⟩ ?_
    refine z_aload_n (pc' := 19) (k := 0) (i := 0) 0 rfl rfl ⟨by decide +kernel, rfl⟩ ?_
    refine z_getR (pc' := 22) (cef_C12_2 ca D) rfl (y := a 7) rfl ⟨by decide +kernel, rfl⟩ ?_
    refine z_getI (pc' := 25) (cef_C116_7 ca D) rfl ⟨by decide +kernel, rfl⟩ ?_
    refine z_putI (pc' := 28) (cef_C18_2 ca D) rfl ⟨by decide +kernel, rfl⟩ (z_letU fun u4 => ?_)
    refine z_aload_n (pc' := 29) (k := 0) (i := 0) 0 rfl rfl ⟨by decide +kernel, rfl⟩ ?_
    refine z_getR (pc' := 32) (cef_C12_2 ca D) rfl (y := a 7) rfl ⟨by decide +kernel, rfl⟩ ?_
    refine z_sipush (pc' := 35) (n := 256) (v := 256) (by decide) ⟨by decide +kernel, rfl⟩ ?_
    refine z_putI (pc' := 38) (cef_C43_7 ca D) rfl ⟨by decide +kernel, rfl⟩ (z_letU fun u5 => ?_)
    exact z_vret (pc' := 39) ⟨by decide +kernel, rfl⟩
  · refine z_aload_n (pc' := 29) (k := 0) (i := 0) 0 rfl rfl ⟨by decide +kernel, rfl⟩ ?_
    refine z_getR (pc' := 32) (cef_C12_2 ca D) rfl (y := a 7) rfl ⟨by decide +kernel, rfl⟩ ?_
    refine z_sipush (pc' := 35) (n := 256) (v := 256) (by decide) ⟨by decide +kernel, rfl⟩ ?_
    refine z_putI (pc' := 38) (cef_C43_7 ca D) rfl ⟨by decide +kernel, rfl⟩ (z_letU fun u6 => ?_)
    exact z_vret (pc' := 39) ⟨by decide +kernel, rfl⟩
set_option maxRecDepth 20000 in
set_option maxHeartbeats 4000000 in
theorem ce_P_fnNamed_L2_t {κ : zKx} {ca : Nat → ClassId} {D : va_G} {A : Nat → Prop} {c0 : Nat × Nat} {a g0 g : Nat → Nat} (n : Nat) (p : Nat) (hp : zpr p = true) : ∀ (m : Nat) (u : zMu) (x1 : Int64) (x3 : Int32), zJ κ (zCe ca D) prog_7_method_13_code 4 ce_RP (some .int) zri true 0 A c0 a g0 g u 2 [(0, .ref (a p)), (1, .long x1), (3, .int x3)] [] (ce_P_fnNamed_L2 n p m u x1 x3) := by
  intro m
  induction m with
  | zero => intro u x1 x3 r u' h; cases h
  | succ m ih =>
    intro u x1 x3
    unfold ce_P_fnNamed_L2
    refine z_iload_n (pc' := 3) (k := 3) (i := 3) 2 rfl rfl ⟨by decide +kernel, rfl⟩ ?_
    refine z_aload_n (pc' := 4) (k := 0) (i := 0) 0 rfl rfl ⟨by decide +kernel, rfl⟩ ?_
    refine z_getI (pc' := 7) (cef_P52_P ca D hp) (ce_adP0 hp) ⟨by decide +kernel, rfl⟩ ?_
    refine z_icmp_ge (pc' := 10) (tgt := 29) (off := 22) ⟨by decide +kernel, rfl⟩ rfl (fun h1 => ?_) (fun h1 => ?_)
    · refine z_aload_n (pc' := 11) (k := 0) (i := 0) 0 rfl rfl ⟨by decide +kernel, rfl⟩ ?_
      refine z_getR (pc' := 14) (cef_P36_P ca D hp) (ce_adP0 hp) (y := a (p + 8)) (ce_frP8 hp) ⟨by decide +kernel, rfl⟩ ?_
      refine z_iload_n (pc' := 15) (k := 3) (i := 3) 2 rfl rfl ⟨by decide +kernel, rfl⟩ ?_
      refine z_lald (pc' := 16) (p + 8) (ce_ckP8 hp) (ce_clP8 hp) (ce_cnP8 hp) (ce_adP8 hp) ⟨by decide +kernel, rfl⟩ ?_
      refine z_lload_n (pc' := 17) (k := 1) (i := 1) 1 rfl rfl ⟨by decide +kernel, rfl⟩ ?_
      refine z_lcmp (pc' := 18) ⟨by decide +kernel, rfl⟩ ?_
      refine z_if_ne (pc' := 21) (tgt := 23) (off := 5) ⟨by decide +kernel, rfl⟩ rfl (fun h2 => ?_) (fun h2 => ?_)
      · refine z_iload_n (pc' := 22) (k := 3) (i := 3) 2 rfl rfl ⟨by decide +kernel, rfl⟩ ?_
        exact z_iret (pc' := 23) ⟨by decide +kernel, rfl⟩
      · refine z_iincN (pc' := 26) (i := 3) (n := 1) (c := 1) 2 rfl (by decide) (by decide) rfl ⟨by decide +kernel, rfl⟩ fun v3 => ?_
        refine z_goto (tgt := 2) (off := -24) (by decide +kernel) rfl ?_
        refine z_lv [1, 2, 0] (lv' := [(0, .ref (a p)), (1, .long x1), (3, .int v3)]) rfl ?_
        exact ih u x1 v3
    · refine z_iconst (pc' := 30) (n := (-1)) (v := (-1)) (by decide) ⟨by decide +kernel, rfl⟩ ?_
      exact z_iret (pc' := 31) ⟨by decide +kernel, rfl⟩
set_option maxRecDepth 20000 in
set_option maxHeartbeats 4000000 in
theorem cet_P_fnNamed {l : Launch} {ca : Nat → ClassId} {D : va_G} {a g : Nat → Nat} (n : Nat) (p : Nat) (hp : zpr p = true) (u : zMu) (x1 : Int64) : zMet l (zCe ca D) ceY_P_fnNamed (.code ceY_P_fnNamed prog_7_method_13_code 4 (some .int)) zri true 0 a g [.ref (a p), .long x1] u (ce_P_fnNamed n p u x1) := by
  refine zMet.of rfl (Nat.le_of_ble_eq_true rfl) fun κ A hl => ?_
  subst hl
  unfold ce_P_fnNamed
  refine z_iconst (pc' := 1) (n := 0) (v := 0) (by decide) ⟨by decide +kernel, rfl⟩ ?_
  refine z_istore_n (pc' := 2) (k := 3) (i := 3) rfl (by decide) rfl ⟨by decide +kernel, rfl⟩ ?_
  refine z_lv [1, 2, 0] (lv' := [(0, .ref (a p)), (1, .long x1), (3, .int 0)]) rfl ?_
  exact ce_P_fnNamed_L2_t n p hp n u x1 0
set_option maxRecDepth 20000 in
set_option maxHeartbeats 4000000 in
theorem ce_C_note_J28_t {κ : zKx} {ca : Nat → ClassId} {D : va_G} {A : Nat → Prop} {c0 : Nat × Nat} {a g0 g : Nat → Nat} (n : Nat) (u : zMu) (x1 : Int32) (x2 : Int32) (s0 : Int32) : zJ κ (zCe ca D) prog_2_method_36_code 4 ce_RC none zrv true 0 A c0 a g0 g u 28 [(0, .ref (a 2)), (1, .int x1), (2, .int x2)] [.int s0] (ce_C_note_J28 n u x1 x2 s0) := by
  unfold ce_C_note_J28
  refine z_istore_n (pc' := 29) (k := 3) (i := 3) rfl (by decide) rfl ⟨by decide +kernel, rfl⟩ ?_
  refine z_iload_n (pc' := 30) (k := 3) (i := 3) 0 rfl rfl ⟨by decide +kernel, rfl⟩ ?_
  refine z_if_ne (pc' := 33) (tgt := 49) (off := 19) ⟨by decide +kernel, rfl⟩ rfl (fun h1 => ?_) (fun h1 => ?_)
  · refine z_iload_n (pc' := 34) (k := 2) (i := 2) 3 rfl rfl ⟨by decide +kernel, rfl⟩ ?_
    refine z_aload_n (pc' := 35) (k := 0) (i := 0) 1 rfl rfl ⟨by decide +kernel, rfl⟩ ?_
    refine z_getI (pc' := 38) (cef_C18_2 ca D) rfl ⟨by decide +kernel, rfl⟩ ?_
    refine z_icmp_ne (pc' := 41) (tgt := 59) (off := 21) ⟨by decide +kernel, rfl⟩ rfl (fun h2 => ?_) (fun h2 => ?_)
    · refine z_iload_n (pc' := 42) (k := 1) (i := 1) 2 rfl rfl ⟨by decide +kernel, rfl⟩ ?_
      refine z_aload_n (pc' := 43) (k := 0) (i := 0) 1 rfl rfl ⟨by decide +kernel, rfl⟩ ?_
      refine z_getI (pc' := 46) (cef_C90_2 ca D) rfl ⟨by decide +kernel, rfl⟩ ?_
      refine z_icmp_ge (pc' := 49) (tgt := 59) (off := 13) ⟨by decide +kernel, rfl⟩ rfl (fun h3 => ?_) (fun h3 => ?_)
      · refine z_aload_n (pc' := 50) (k := 0) (i := 0) 1 rfl rfl ⟨by decide +kernel, rfl⟩ ?_
        refine z_iload_n (pc' := 51) (k := 1) (i := 1) 2 rfl rfl ⟨by decide +kernel, rfl⟩ ?_
        refine z_putI (pc' := 54) (cef_C90_2 ca D) rfl ⟨by decide +kernel, rfl⟩ (z_letU fun u4 => ?_)
        refine z_aload_n (pc' := 55) (k := 0) (i := 0) 1 rfl rfl ⟨by decide +kernel, rfl⟩ ?_
        refine z_iload_n (pc' := 56) (k := 2) (i := 2) 3 rfl rfl ⟨by decide +kernel, rfl⟩ ?_
        refine z_putI (pc' := 59) (cef_C18_2 ca D) rfl ⟨by decide +kernel, rfl⟩ (z_letU fun u5 => ?_)
        exact z_vret (pc' := 60) ⟨by decide +kernel, rfl⟩
      · exact z_vret (pc' := 60) ⟨by decide +kernel, rfl⟩
    · exact z_vret (pc' := 60) ⟨by decide +kernel, rfl⟩
  · refine z_aload_n (pc' := 50) (k := 0) (i := 0) 1 rfl rfl ⟨by decide +kernel, rfl⟩ ?_
    refine z_iload_n (pc' := 51) (k := 1) (i := 1) 2 rfl rfl ⟨by decide +kernel, rfl⟩ ?_
    refine z_putI (pc' := 54) (cef_C90_2 ca D) rfl ⟨by decide +kernel, rfl⟩ (z_letU fun u6 => ?_)
    refine z_aload_n (pc' := 55) (k := 0) (i := 0) 1 rfl rfl ⟨by decide +kernel, rfl⟩ ?_
    refine z_iload_n (pc' := 56) (k := 2) (i := 2) 3 rfl rfl ⟨by decide +kernel, rfl⟩ ?_
    refine z_putI (pc' := 59) (cef_C18_2 ca D) rfl ⟨by decide +kernel, rfl⟩ (z_letU fun u7 => ?_)
    exact z_vret (pc' := 60) ⟨by decide +kernel, rfl⟩
set_option maxRecDepth 20000 in
set_option maxHeartbeats 4000000 in
theorem ce_C_note_J23_t {κ : zKx} {ca : Nat → ClassId} {D : va_G} {A : Nat → Prop} {c0 : Nat × Nat} {a g0 g : Nat → Nat} (n : Nat) (u : zMu) (x1 : Int32) (x2 : Int32) : zJ κ (zCe ca D) prog_2_method_36_code 4 ce_RC none zrv true 0 A c0 a g0 g u 23 [(0, .ref (a 2)), (1, .int x1), (2, .int x2)] [] (ce_C_note_J23 n u x1 x2) := by
  unfold ce_C_note_J23
  refine z_iconst (pc' := 24) (n := 1) (v := 1) (by decide) ⟨by decide +kernel, rfl⟩ ?_
  refine z_goto (tgt := 28) (off := 4) (by decide +kernel) rfl ?_
  exact ce_C_note_J28_t n u x1 x2 1
set_option maxRecDepth 20000 in
set_option maxHeartbeats 4000000 in
theorem cet_C_note {l : Launch} {ca : Nat → ClassId} {D : va_G} {a g : Nat → Nat} (n : Nat) (u : zMu) (x1 : Int32) (x2 : Int32) : zMet l (zCe ca D) ceY_C_note (.code ceY_C_note prog_2_method_36_code 4 none) zrv true 0 a g [.ref (a 2), .int x1, .int x2] u (ce_C_note n u x1 x2) := by
  refine zMet.of rfl (Nat.le_of_ble_eq_true rfl) fun κ A hl => ?_
  subst hl
  unfold ce_C_note
  refine z_aload_n (pc' := 1) (k := 0) (i := 0) 0 rfl rfl ⟨by decide +kernel, rfl⟩ ?_
  refine z_getI (pc' := 4) (cef_C80_2 ca D) rfl ⟨by decide +kernel, rfl⟩ ?_
  refine z_if_eq (pc' := 7) (tgt := 8) (off := 4) ⟨by decide +kernel, rfl⟩ rfl (fun h1 => ?_) (fun h1 => ?_)
  · refine z_aload_n (pc' := 9) (k := 0) (i := 0) 0 rfl rfl ⟨by decide +kernel, rfl⟩ ?_
    refine z_getI (pc' := 12) (cef_C90_2 ca D) rfl ⟨by decide +kernel, rfl⟩ ?_
    refine z_if_eq (pc' := 15) (tgt := 23) (off := 11) ⟨by decide +kernel, rfl⟩ rfl (fun h2 => ?_) (fun h2 => ?_)
    · exact ce_C_note_J23_t n u x1 x2
    · refine z_iload_n (pc' := 16) (k := 2) (i := 2) 2 rfl rfl ⟨by decide +kernel, rfl⟩ ?_
      refine z_aload_n (pc' := 17) (k := 0) (i := 0) 0 rfl rfl ⟨by decide +kernel, rfl⟩ ?_
      refine z_getI (pc' := 20) (cef_C18_2 ca D) rfl ⟨by decide +kernel, rfl⟩ ?_
      refine z_icmp_ge (pc' := 23) (tgt := 27) (off := 7) ⟨by decide +kernel, rfl⟩ rfl (fun h3 => ?_) (fun h3 => ?_)
      · exact ce_C_note_J23_t n u x1 x2
      · refine z_iconst (pc' := 28) (n := 0) (v := 0) (by decide) ⟨by decide +kernel, rfl⟩ ?_
        exact ce_C_note_J28_t n u x1 x2 0
  · exact z_vret (pc' := 8) ⟨by decide +kernel, rfl⟩
set_option maxRecDepth 20000 in
set_option maxHeartbeats 4000000 in
theorem cet_P_addFn {l : Launch} {ca : Nat → ClassId} {D : va_G} {a g : Nat → Nat} (n : Nat) (p : Nat) (hp : zpr p = true) (u : zMu) (x1 : Int64) : zMet l (zCe ca D) ceY_P_addFn (.code ceY_P_addFn prog_7_method_12_code 3 (some .int)) zri true 0 a g [.ref (a p), .long x1] u (ce_P_addFn n p u x1) := by
  refine zMet.of rfl (Nat.le_of_ble_eq_true rfl) fun κ A hl => ?_
  subst hl
  unfold ce_P_addFn
  refine z_aload_n (pc' := 1) (k := 0) (i := 0) 0 rfl rfl ⟨by decide +kernel, rfl⟩ ?_
  refine z_getI (pc' := 4) (cef_P52_P ca D hp) (ce_adP0 hp) ⟨by decide +kernel, rfl⟩ ?_
  refine z_bipush (pc' := 6) (n := 8) (v := 8) (by decide) ⟨by decide +kernel, rfl⟩ ?_
  refine z_icmp_lt (pc' := 9) (tgt := 11) (off := 5) ⟨by decide +kernel, rfl⟩ rfl (fun h1 => ?_) (fun h1 => ?_)
  · refine z_aload_n (pc' := 12) (k := 0) (i := 0) 0 rfl rfl ⟨by decide +kernel, rfl⟩ ?_
    refine z_getR (pc' := 15) (cef_P36_P ca D hp) (ce_adP0 hp) (y := a (p + 8)) (ce_frP8 hp) ⟨by decide +kernel, rfl⟩ ?_
    refine z_aload_n (pc' := 16) (k := 0) (i := 0) 0 rfl rfl ⟨by decide +kernel, rfl⟩ ?_
    refine z_getI (pc' := 19) (cef_P52_P ca D hp) (ce_adP0 hp) ⟨by decide +kernel, rfl⟩ ?_
    refine z_lload_n (pc' := 20) (k := 1) (i := 1) 1 rfl rfl ⟨by decide +kernel, rfl⟩ ?_
    refine z_last (pc' := 21) (p + 8) (ce_ckP8 hp) (ce_clP8 hp) (ce_cnP8 hp) (ce_adP8 hp) ⟨by decide +kernel, rfl⟩ (z_letU fun u2 => ?_)
    refine z_aload_n (pc' := 22) (k := 0) (i := 0) 0 rfl rfl ⟨by decide +kernel, rfl⟩ ?_
    refine z_getR (pc' := 25) (cef_P39_P ca D hp) (ce_adP0 hp) (y := a (p + 9)) (ce_frP9 hp) ⟨by decide +kernel, rfl⟩ ?_
    refine z_aload_n (pc' := 26) (k := 0) (i := 0) 0 rfl rfl ⟨by decide +kernel, rfl⟩ ?_
    refine z_getI (pc' := 29) (cef_P52_P ca D hp) (ce_adP0 hp) ⟨by decide +kernel, rfl⟩ ?_
    refine z_aload_n (pc' := 30) (k := 0) (i := 0) 0 rfl rfl ⟨by decide +kernel, rfl⟩ ?_
    refine z_getI (pc' := 33) (cef_P45_P ca D hp) (ce_adP0 hp) ⟨by decide +kernel, rfl⟩ ?_
    refine z_iast (pc' := 34) (p + 9) (ce_ckP9 hp) (ce_clP9 hp) (ce_cnP9 hp) (ce_adP9 hp) ⟨by decide +kernel, rfl⟩ (z_letU fun u3 => ?_)
    refine z_aload_n (pc' := 35) (k := 0) (i := 0) 0 rfl rfl ⟨by decide +kernel, rfl⟩ ?_
    refine z_getR (pc' := 38) (cef_P42_P ca D hp) (ce_adP0 hp) (y := a (p + 10)) (ce_frP10 hp) ⟨by decide +kernel, rfl⟩ ?_
    refine z_aload_n (pc' := 39) (k := 0) (i := 0) 0 rfl rfl ⟨by decide +kernel, rfl⟩ ?_
    refine z_getI (pc' := 42) (cef_P52_P ca D hp) (ce_adP0 hp) ⟨by decide +kernel, rfl⟩ ?_
    refine z_iconst (pc' := 43) (n := 0) (v := 0) (by decide) ⟨by decide +kernel, rfl⟩ ?_
    refine z_iast (pc' := 44) (p + 10) (ce_ckP10 hp) (ce_clP10 hp) (ce_cnP10 hp) (ce_adP10 hp) ⟨by decide +kernel, rfl⟩ (z_letU fun u4 => ?_)
    refine z_aload_n (pc' := 45) (k := 0) (i := 0) 0 rfl rfl ⟨by decide +kernel, rfl⟩ ?_
    refine z_dup (pc' := 46) rfl ⟨by decide +kernel, rfl⟩ ?_
    refine z_getI (pc' := 49) (cef_P52_P ca D hp) (ce_adP0 hp) ⟨by decide +kernel, rfl⟩ ?_
    refine z_letI fun v5 => ?_
    refine z_dup_x1 (pc' := 50) rfl rfl ⟨by decide +kernel, rfl⟩ ?_
    refine z_iconst (pc' := 51) (n := 1) (v := 1) (by decide) ⟨by decide +kernel, rfl⟩ ?_
    refine z_iadd (pc' := 52) ⟨by decide +kernel, rfl⟩ ?_
    refine z_putI (pc' := 55) (cef_P52_P ca D hp) (ce_adP0 hp) ⟨by decide +kernel, rfl⟩ (z_letU fun u6 => ?_)
    exact z_iret (pc' := 56) ⟨by decide +kernel, rfl⟩
  · refine z_iconst (pc' := 10) (n := (-1)) (v := (-1)) (by decide) ⟨by decide +kernel, rfl⟩ ?_
    exact z_iret (pc' := 11) ⟨by decide +kernel, rfl⟩
set_option maxRecDepth 20000 in
set_option maxHeartbeats 4000000 in
theorem cet_C_opens {l : Launch} {ca : Nat → ClassId} {D : va_G} {a g : Nat → Nat} (n : Nat) (u : zMu) (x1 : Int32) : zMet l (zCe ca D) ceY_C_opens (.code ceY_C_opens prog_2_method_33_code 2 none) zrv true 1 a g [.ref (a 2), .int x1] u (ce_C_opens n u x1) := by
  refine zMet.of rfl (Nat.le_of_ble_eq_true rfl) fun κ A hl => ?_
  subst hl
  unfold ce_C_opens
  refine z_aload_n (pc' := 1) (k := 0) (i := 0) 0 rfl rfl ⟨by decide +kernel, rfl⟩ ?_
  refine z_getR (pc' := 4) (cef_C12_2 ca D) rfl (y := a 7) rfl ⟨by decide +kernel, rfl⟩ ?_
  refine z_getI (pc' := 7) (cef_C43_7 ca D) rfl ⟨by decide +kernel, rfl⟩ ?_
  refine z_iload_n (pc' := 8) (k := 1) (i := 1) 1 rfl rfl ⟨by decide +kernel, rfl⟩ ?_
  refine z_icmp_ne (pc' := 11) (tgt := 20) (off := 12) ⟨by decide +kernel, rfl⟩ rfl (fun h1 => ?_) (fun h1 => ?_)
  · refine z_aload_n (pc' := 12) (k := 0) (i := 0) 0 rfl rfl ⟨by decide +kernel, rfl⟩ ?_
    refine z_getI (pc' := 15) (cef_C93_2 ca D) rfl ⟨by decide +kernel, rfl⟩ ?_
    refine z_bipush (pc' := 17) (n := 8) (v := 8) (by decide) ⟨by decide +kernel, rfl⟩ ?_
    refine z_icmp_lt (pc' := 20) (tgt := 25) (off := 8) ⟨by decide +kernel, rfl⟩ rfl (fun h2 => ?_) (fun h2 => ?_)
    · refine z_aload_n (pc' := 26) (k := 0) (i := 0) 0 rfl rfl ⟨by decide +kernel, rfl⟩ ?_
      refine z_dup (pc' := 27) rfl ⟨by decide +kernel, rfl⟩ ?_
      refine z_getI (pc' := 30) (cef_C93_2 ca D) rfl ⟨by decide +kernel, rfl⟩ ?_
      refine z_iconst (pc' := 31) (n := 1) (v := 1) (by decide) ⟨by decide +kernel, rfl⟩ ?_
      refine z_iadd (pc' := 32) ⟨by decide +kernel, rfl⟩ ?_
      refine z_putI (pc' := 35) (cef_C93_2 ca D) rfl ⟨by decide +kernel, rfl⟩ (z_letU fun u3 => ?_)
      refine z_aload_n (pc' := 36) (k := 0) (i := 0) 0 rfl rfl ⟨by decide +kernel, rfl⟩ ?_
      refine z_getR (pc' := 39) (cef_C12_2 ca D) rfl (y := a 7) rfl ⟨by decide +kernel, rfl⟩ ?_
      refine z_callVf (pc' := 42) 7 (cet_X_advance n u3) (ceG_C105 ca D) (ceO_7 ca D) rfl (by omega) rfl rfl (Nat.le_of_ble_eq_true rfl) ⟨by decide +kernel, rfl⟩ (fun _ u5 => ?_)
      exact z_vret (pc' := 43) ⟨by decide +kernel, rfl⟩
    · refine z_aload_n (pc' := 21) (k := 0) (i := 0) 0 rfl rfl ⟨by decide +kernel, rfl⟩ ?_
      refine z_callVf (pc' := 24) 2 (cet_C_refuse n u) (ceG_C102 ca D) (ceO_2 ca D) rfl (by omega) rfl rfl (Nat.le_of_ble_eq_true rfl) ⟨by decide +kernel, rfl⟩ (fun _ u7 => ?_)
      exact z_vret (pc' := 25) ⟨by decide +kernel, rfl⟩
  · refine z_aload_n (pc' := 21) (k := 0) (i := 0) 0 rfl rfl ⟨by decide +kernel, rfl⟩ ?_
    refine z_callVf (pc' := 24) 2 (cet_C_refuse n u) (ceG_C102 ca D) (ceO_2 ca D) rfl (by omega) rfl rfl (Nat.le_of_ble_eq_true rfl) ⟨by decide +kernel, rfl⟩ (fun _ u9 => ?_)
    exact z_vret (pc' := 25) ⟨by decide +kernel, rfl⟩
set_option maxRecDepth 20000 in
set_option maxHeartbeats 4000000 in
theorem ce_C_variableNamed_L2_t {κ : zKx} {ca : Nat → ClassId} {D : va_G} {A : Nat → Prop} {c0 : Nat × Nat} {a g0 g : Nat → Nat} (n : Nat) : ∀ (m : Nat) (u : zMu) (x1 : Int64) (x3 : Int32), zJ κ (zCe ca D) prog_2_method_28_code 4 ce_RC (some .int) zri true 0 A c0 a g0 g u 2 [(0, .ref (a 2)), (1, .long x1), (3, .int x3)] [] (ce_C_variableNamed_L2 n m u x1 x3) := by
  intro m
  induction m with
  | zero => intro u x1 x3 r u' h; cases h
  | succ m ih =>
    intro u x1 x3
    unfold ce_C_variableNamed_L2
    refine z_iload_n (pc' := 3) (k := 3) (i := 3) 2 rfl rfl ⟨by decide +kernel, rfl⟩ ?_
    refine z_aload_n (pc' := 4) (k := 0) (i := 0) 0 rfl rfl ⟨by decide +kernel, rfl⟩ ?_
    refine z_getI (pc' := 7) (cef_C65_2 ca D) rfl ⟨by decide +kernel, rfl⟩ ?_
    refine z_icmp_ge (pc' := 10) (tgt := 29) (off := 22) ⟨by decide +kernel, rfl⟩ rfl (fun h1 => ?_) (fun h1 => ?_)
    · refine z_aload_n (pc' := 11) (k := 0) (i := 0) 0 rfl rfl ⟨by decide +kernel, rfl⟩ ?_
      refine z_getR (pc' := 14) (cef_C22_2 ca D) rfl (y := a 3) rfl ⟨by decide +kernel, rfl⟩ ?_
      refine z_iload_n (pc' := 15) (k := 3) (i := 3) 2 rfl rfl ⟨by decide +kernel, rfl⟩ ?_
      refine z_lald (pc' := 16) 3 rfl (zlt rfl) rfl rfl ⟨by decide +kernel, rfl⟩ ?_
      refine z_lload_n (pc' := 17) (k := 1) (i := 1) 1 rfl rfl ⟨by decide +kernel, rfl⟩ ?_
      refine z_lcmp (pc' := 18) ⟨by decide +kernel, rfl⟩ ?_
      refine z_if_ne (pc' := 21) (tgt := 23) (off := 5) ⟨by decide +kernel, rfl⟩ rfl (fun h2 => ?_) (fun h2 => ?_)
      · refine z_iload_n (pc' := 22) (k := 3) (i := 3) 2 rfl rfl ⟨by decide +kernel, rfl⟩ ?_
        exact z_iret (pc' := 23) ⟨by decide +kernel, rfl⟩
      · refine z_iincN (pc' := 26) (i := 3) (n := 1) (c := 1) 2 rfl (by decide) (by decide) rfl ⟨by decide +kernel, rfl⟩ fun v3 => ?_
        refine z_goto (tgt := 2) (off := -24) (by decide +kernel) rfl ?_
        refine z_lv [1, 2, 0] (lv' := [(0, .ref (a 2)), (1, .long x1), (3, .int v3)]) rfl ?_
        exact ih u x1 v3
    · refine z_iconst (pc' := 30) (n := (-1)) (v := (-1)) (by decide) ⟨by decide +kernel, rfl⟩ ?_
      exact z_iret (pc' := 31) ⟨by decide +kernel, rfl⟩
set_option maxRecDepth 20000 in
set_option maxHeartbeats 4000000 in
theorem cet_C_variableNamed {l : Launch} {ca : Nat → ClassId} {D : va_G} {a g : Nat → Nat} (n : Nat) (u : zMu) (x1 : Int64) : zMet l (zCe ca D) ceY_C_variableNamed (.code ceY_C_variableNamed prog_2_method_28_code 4 (some .int)) zri true 0 a g [.ref (a 2), .long x1] u (ce_C_variableNamed n u x1) := by
  refine zMet.of rfl (Nat.le_of_ble_eq_true rfl) fun κ A hl => ?_
  subst hl
  unfold ce_C_variableNamed
  refine z_iconst (pc' := 1) (n := 0) (v := 0) (by decide) ⟨by decide +kernel, rfl⟩ ?_
  refine z_istore_n (pc' := 2) (k := 3) (i := 3) rfl (by decide) rfl ⟨by decide +kernel, rfl⟩ ?_
  refine z_lv [1, 2, 0] (lv' := [(0, .ref (a 2)), (1, .long x1), (3, .int 0)]) rfl ?_
  exact ce_C_variableNamed_L2_t n n u x1 0
set_option maxRecDepth 20000 in
set_option maxHeartbeats 4000000 in
theorem cet_C_addVariable {l : Launch} {ca : Nat → ClassId} {D : va_G} {a g : Nat → Nat} (n : Nat) (u : zMu) (x1 : Int64) (x3 : Int32) : zMet l (zCe ca D) ceY_C_addVariable (.code ceY_C_addVariable prog_2_method_29_code 4 (some .int)) zri true 1 a g [.ref (a 2), .long x1, .int x3] u (ce_C_addVariable n u x1 x3) := by
  refine zMet.of rfl (Nat.le_of_ble_eq_true rfl) fun κ A hl => ?_
  subst hl
  unfold ce_C_addVariable
  refine z_aload_n (pc' := 1) (k := 0) (i := 0) 0 rfl rfl ⟨by decide +kernel, rfl⟩ ?_
  refine z_getI (pc' := 4) (cef_C65_2 ca D) rfl ⟨by decide +kernel, rfl⟩ ?_
  refine z_bipush (pc' := 6) (n := 12) (v := 12) (by decide) ⟨by decide +kernel, rfl⟩ ?_
  refine z_icmp_lt (pc' := 9) (tgt := 17) (off := 11) ⟨by decide +kernel, rfl⟩ rfl (fun h1 => ?_) (fun h1 => ?_)
  · refine z_aload_n (pc' := 18) (k := 0) (i := 0) 0 rfl rfl ⟨by decide +kernel, rfl⟩ ?_
    refine z_getR (pc' := 21) (cef_C22_2 ca D) rfl (y := a 3) rfl ⟨by decide +kernel, rfl⟩ ?_
    refine z_aload_n (pc' := 22) (k := 0) (i := 0) 0 rfl rfl ⟨by decide +kernel, rfl⟩ ?_
    refine z_getI (pc' := 25) (cef_C65_2 ca D) rfl ⟨by decide +kernel, rfl⟩ ?_
    refine z_lload_n (pc' := 26) (k := 1) (i := 1) 1 rfl rfl ⟨by decide +kernel, rfl⟩ ?_
    refine z_last (pc' := 27) 3 rfl (zlt rfl) rfl rfl ⟨by decide +kernel, rfl⟩ (z_letU fun u2 => ?_)
    refine z_aload_n (pc' := 28) (k := 0) (i := 0) 0 rfl rfl ⟨by decide +kernel, rfl⟩ ?_
    refine z_dup (pc' := 29) rfl ⟨by decide +kernel, rfl⟩ ?_
    refine z_getI (pc' := 32) (cef_C65_2 ca D) rfl ⟨by decide +kernel, rfl⟩ ?_
    refine z_letI fun v3 => ?_
    refine z_dup_x1 (pc' := 33) rfl rfl ⟨by decide +kernel, rfl⟩ ?_
    refine z_iconst (pc' := 34) (n := 1) (v := 1) (by decide) ⟨by decide +kernel, rfl⟩ ?_
    refine z_iadd (pc' := 35) ⟨by decide +kernel, rfl⟩ ?_
    refine z_putI (pc' := 38) (cef_C65_2 ca D) rfl ⟨by decide +kernel, rfl⟩ (z_letU fun u4 => ?_)
    exact z_iret (pc' := 39) ⟨by decide +kernel, rfl⟩
  · refine z_aload_n (pc' := 10) (k := 0) (i := 0) 0 rfl rfl ⟨by decide +kernel, rfl⟩ ?_
    refine z_iconst (pc' := 11) (n := 3) (v := 3) (by decide) ⟨by decide +kernel, rfl⟩ ?_
    refine z_iload_n (pc' := 12) (k := 3) (i := 3) 2 rfl rfl ⟨by decide +kernel, rfl⟩ ?_
    refine z_callVf (pc' := 15) 2 (cet_C_note n u 3 x3) (ceG_C119 ca D) (ceO_2 ca D) rfl (by omega) rfl rfl (Nat.le_of_ble_eq_true rfl) ⟨by decide +kernel, rfl⟩ (fun _ u6 => ?_)
    refine z_iconst (pc' := 16) (n := 0) (v := 0) (by decide) ⟨by decide +kernel, rfl⟩ ?_
    exact z_iret (pc' := 17) ⟨by decide +kernel, rfl⟩
set_option maxRecDepth 20000 in
set_option maxHeartbeats 4000000 in
theorem cet_P_isFn {l : Launch} {ca : Nat → ClassId} {D : va_G} {a g : Nat → Nat} (n : Nat) (p : Nat) (hp : zpr p = true) (u : zMu) (x1 : Int32) : zMet l (zCe ca D) ceY_P_isFn (.code ceY_P_isFn prog_7_method_9_code 2 (some .boolean)) zri true 0 a g [.ref (a p), .int x1] u (ce_P_isFn n p u x1) := by
  refine zMet.of rfl (Nat.le_of_ble_eq_true rfl) fun κ A hl => ?_
  subst hl
  unfold ce_P_isFn
  refine z_iload_n (pc' := 1) (k := 1) (i := 1) 1 rfl rfl ⟨by decide +kernel, rfl⟩ ?_
  refine z_if_lt (pc' := 4) (tgt := 16) (off := 15) ⟨by decide +kernel, rfl⟩ rfl (fun h1 => ?_) (fun h1 => ?_)
  · refine z_iconst (pc' := 17) (n := 0) (v := 0) (by decide) ⟨by decide +kernel, rfl⟩ ?_
    exact z_zret (pc' := 18) (by decide) ⟨by decide +kernel, rfl⟩
  · refine z_iload_n (pc' := 5) (k := 1) (i := 1) 1 rfl rfl ⟨by decide +kernel, rfl⟩ ?_
    refine z_aload_n (pc' := 6) (k := 0) (i := 0) 0 rfl rfl ⟨by decide +kernel, rfl⟩ ?_
    refine z_getI (pc' := 9) (cef_P52_P ca D hp) (ce_adP0 hp) ⟨by decide +kernel, rfl⟩ ?_
    refine z_icmp_ge (pc' := 12) (tgt := 16) (off := 7) ⟨by decide +kernel, rfl⟩ rfl (fun h2 => ?_) (fun h2 => ?_)
    · refine z_iconst (pc' := 13) (n := 1) (v := 1) (by decide) ⟨by decide +kernel, rfl⟩ ?_
      refine z_goto (tgt := 17) (off := 4) (by decide +kernel) rfl ?_
      exact z_zret (pc' := 18) (by decide) ⟨by decide +kernel, rfl⟩
    · refine z_iconst (pc' := 17) (n := 0) (v := 0) (by decide) ⟨by decide +kernel, rfl⟩ ?_
      exact z_zret (pc' := 18) (by decide) ⟨by decide +kernel, rfl⟩
set_option maxRecDepth 20000 in
set_option maxHeartbeats 4000000 in
theorem cet_P_addName {l : Launch} {ca : Nat → ClassId} {D : va_G} {a g : Nat → Nat} (n : Nat) (p : Nat) (hp : zpr p = true) (u : zMu) (x1 : Int32) : zMet l (zCe ca D) ceY_P_addName (.code ceY_P_addName prog_7_method_10_code 2 none) zrv true 1 a g [.ref (a p), .int x1] u (ce_P_addName n p u x1) := by
  refine zMet.of rfl (Nat.le_of_ble_eq_true rfl) fun κ A hl => ?_
  subst hl
  unfold ce_P_addName
  refine z_aload_n (pc' := 1) (k := 0) (i := 0) 0 rfl rfl ⟨by decide +kernel, rfl⟩ ?_
  refine z_iload_n (pc' := 2) (k := 1) (i := 1) 1 rfl rfl ⟨by decide +kernel, rfl⟩ ?_
  refine z_callVf (pc' := 5) p (cet_P_isFn n p hp u x1) (ceG_P68 ca D) (ceO_P ca D hp) (ce_adP0 hp) (by omega) rfl rfl (Nat.le_of_ble_eq_true rfl) ⟨by decide +kernel, rfl⟩ (fun r1 u2 => ?_)
  refine z_if_eq (pc' := 8) (tgt := 18) (off := 13) ⟨by decide +kernel, rfl⟩ rfl (fun h3 => ?_) (fun h3 => ?_)
  · exact z_vret (pc' := 19) ⟨by decide +kernel, rfl⟩
  · refine z_aload_n (pc' := 9) (k := 0) (i := 0) 0 rfl rfl ⟨by decide +kernel, rfl⟩ ?_
    refine z_getR (pc' := 12) (cef_P42_P ca D hp) (ce_adP0 hp) (y := a (p + 10)) (ce_frP10 hp) ⟨by decide +kernel, rfl⟩ ?_
    refine z_iload_n (pc' := 13) (k := 1) (i := 1) 1 rfl rfl ⟨by decide +kernel, rfl⟩ ?_
    refine z_dup2_11 (pc' := 14) rfl rfl ⟨by decide +kernel, rfl⟩ ?_
    refine z_iald (pc' := 15) (p + 10) (ce_ckP10 hp) (ce_clP10 hp) (ce_cnP10 hp) (ce_adP10 hp) ⟨by decide +kernel, rfl⟩ ?_
    refine z_iconst (pc' := 16) (n := 1) (v := 1) (by decide) ⟨by decide +kernel, rfl⟩ ?_
    refine z_iadd (pc' := 17) ⟨by decide +kernel, rfl⟩ ?_
    refine z_iast (pc' := 18) (p + 10) (ce_ckP10 hp) (ce_clP10 hp) (ce_cnP10 hp) (ce_adP10 hp) ⟨by decide +kernel, rfl⟩ (z_letU fun u4 => ?_)
    exact z_vret (pc' := 19) ⟨by decide +kernel, rfl⟩
set_option maxRecDepth 20000 in
set_option maxHeartbeats 4000000 in
theorem cet_C_takes {l : Launch} {ca : Nat → ClassId} {D : va_G} {a g : Nat → Nat} (n : Nat) (u : zMu) (x1 : Int32) : zMet l (zCe ca D) ceY_C_takes (.code ceY_C_takes prog_2_method_31_code 2 (some .boolean)) zri true 1 a g [.ref (a 2), .int x1] u (ce_C_takes n u x1) := by
  refine zMet.of rfl (Nat.le_of_ble_eq_true rfl) fun κ A hl => ?_
  subst hl
  unfold ce_C_takes
  refine z_aload_n (pc' := 1) (k := 0) (i := 0) 0 rfl rfl ⟨by decide +kernel, rfl⟩ ?_
  refine z_getR (pc' := 4) (cef_C12_2 ca D) rfl (y := a 7) rfl ⟨by decide +kernel, rfl⟩ ?_
  refine z_getI (pc' := 7) (cef_C43_7 ca D) rfl ⟨by decide +kernel, rfl⟩ ?_
  refine z_iload_n (pc' := 8) (k := 1) (i := 1) 1 rfl rfl ⟨by decide +kernel, rfl⟩ ?_
  refine z_icmp_eq (pc' := 11) (tgt := 13) (off := 5) ⟨by decide +kernel, rfl⟩ rfl (fun h1 => ?_) (fun h1 => ?_)
  · refine z_aload_n (pc' := 14) (k := 0) (i := 0) 0 rfl rfl ⟨by decide +kernel, rfl⟩ ?_
    refine z_getR (pc' := 17) (cef_C12_2 ca D) rfl (y := a 7) rfl ⟨by decide +kernel, rfl⟩ ?_
    refine z_callVf (pc' := 20) 7 (cet_X_advance n u) (ceG_C105 ca D) (ceO_7 ca D) rfl (by omega) rfl rfl (Nat.le_of_ble_eq_true rfl) ⟨by decide +kernel, rfl⟩ (fun _ u3 => ?_)
    refine z_iconst (pc' := 21) (n := 1) (v := 1) (by decide) ⟨by decide +kernel, rfl⟩ ?_
    exact z_zret (pc' := 22) (by decide) ⟨by decide +kernel, rfl⟩
  · refine z_iconst (pc' := 12) (n := 0) (v := 0) (by decide) ⟨by decide +kernel, rfl⟩ ?_
    exact z_zret (pc' := 13) (by decide) ⟨by decide +kernel, rfl⟩
set_option maxRecDepth 20000 in
set_option maxHeartbeats 4000000 in
theorem cet_C_closes {l : Launch} {ca : Nat → ClassId} {D : va_G} {a g : Nat → Nat} (n : Nat) (u : zMu) (x1 : Int32) : zMet l (zCe ca D) ceY_C_closes (.code ceY_C_closes prog_2_method_34_code 2 none) zrv true 1 a g [.ref (a 2), .int x1] u (ce_C_closes n u x1) := by
  refine zMet.of rfl (Nat.le_of_ble_eq_true rfl) fun κ A hl => ?_
  subst hl
  unfold ce_C_closes
  refine z_aload_n (pc' := 1) (k := 0) (i := 0) 0 rfl rfl ⟨by decide +kernel, rfl⟩ ?_
  refine z_getR (pc' := 4) (cef_C12_2 ca D) rfl (y := a 7) rfl ⟨by decide +kernel, rfl⟩ ?_
  refine z_getI (pc' := 7) (cef_C43_7 ca D) rfl ⟨by decide +kernel, rfl⟩ ?_
  refine z_iload_n (pc' := 8) (k := 1) (i := 1) 1 rfl rfl ⟨by decide +kernel, rfl⟩ ?_
  refine z_icmp_ne (pc' := 11) (tgt := 21) (off := 13) ⟨by decide +kernel, rfl⟩ rfl (fun h1 => ?_) (fun h1 => ?_)
  · refine z_aload_n (pc' := 12) (k := 0) (i := 0) 0 rfl rfl ⟨by decide +kernel, rfl⟩ ?_
    refine z_getR (pc' := 15) (cef_C12_2 ca D) rfl (y := a 7) rfl ⟨by decide +kernel, rfl⟩ ?_
    refine z_callVf (pc' := 18) 7 (cet_X_advance n u) (ceG_C105 ca D) (ceO_7 ca D) rfl (by omega) rfl rfl (Nat.le_of_ble_eq_true rfl) ⟨by decide +kernel, rfl⟩ (fun _ u3 => ?_)
    refine z_goto (tgt := 25) (off := 7) (by decide +kernel) rfl ?_
    refine z_aload_n (pc' := 26) (k := 0) (i := 0) 0 rfl rfl ⟨by decide +kernel, rfl⟩ ?_
    refine z_dup (pc' := 27) rfl ⟨by decide +kernel, rfl⟩ ?_
    refine z_getI (pc' := 30) (cef_C93_2 ca D) rfl ⟨by decide +kernel, rfl⟩ ?_
    refine z_iconst (pc' := 31) (n := 1) (v := 1) (by decide) ⟨by decide +kernel, rfl⟩ ?_
    refine z_isub (pc' := 32) ⟨by decide +kernel, rfl⟩ ?_
    refine z_putI (pc' := 35) (cef_C93_2 ca D) rfl ⟨by decide +kernel, rfl⟩ (z_letU fun u4 => ?_)
    exact z_vret (pc' := 36) ⟨by decide +kernel, rfl⟩
  · refine z_aload_n (pc' := 22) (k := 0) (i := 0) 0 rfl rfl ⟨by decide +kernel, rfl⟩ ?_
    refine z_callVf (pc' := 25) 2 (cet_C_refuse n u) (ceG_C102 ca D) (ceO_2 ca D) rfl (by omega) rfl rfl (Nat.le_of_ble_eq_true rfl) ⟨by decide +kernel, rfl⟩ (fun _ u6 => ?_)
    refine z_aload_n (pc' := 26) (k := 0) (i := 0) 0 rfl rfl ⟨by decide +kernel, rfl⟩ ?_
    refine z_dup (pc' := 27) rfl ⟨by decide +kernel, rfl⟩ ?_
    refine z_getI (pc' := 30) (cef_C93_2 ca D) rfl ⟨by decide +kernel, rfl⟩ ?_
    refine z_iconst (pc' := 31) (n := 1) (v := 1) (by decide) ⟨by decide +kernel, rfl⟩ ?_
    refine z_isub (pc' := 32) ⟨by decide +kernel, rfl⟩ ?_
    refine z_putI (pc' := 35) (cef_C93_2 ca D) rfl ⟨by decide +kernel, rfl⟩ (z_letU fun u7 => ?_)
    exact z_vret (pc' := 36) ⟨by decide +kernel, rfl⟩
set_option maxRecDepth 20000 in
set_option maxHeartbeats 4000000 in
theorem ce_C_compileNames_J85_t {κ : zKx} {ca : Nat → ClassId} {D : va_G} {A : Nat → Prop} {c0 : Nat × Nat} {a g0 g : Nat → Nat} (n : Nat) (k26 : zMu → Int32 → Int32 → Option (Unit × zMu)) (hk26 : ∀ (u : zMu) (x1 : Int32) (x2 : Int32), zJ κ (zCe ca D) prog_2_method_5_code 3 ce_RC none zrv true 2 A c0 a g0 g u 26 [(0, .ref (a 2)), (1, .int x1), (2, .int x2)] [] (k26 u x1 x2)) (u : zMu) (x2 : Int32) : zJ κ (zCe ca D) prog_2_method_5_code 3 ce_RC none zrv true 2 A c0 a g0 g u 85 [(0, .ref (a 2)), (2, .int x2)] [] (ce_C_compileNames_J85 n k26 u x2) := by
  unfold ce_C_compileNames_J85
  refine z_aload_n (pc' := 86) (k := 0) (i := 0) 0 rfl rfl ⟨by decide +kernel, rfl⟩ ?_
  refine z_aload_n (pc' := 87) (k := 0) (i := 0) 0 rfl rfl ⟨by decide +kernel, rfl⟩ ?_
  refine z_getR (pc' := 90) (cef_C12_2 ca D) rfl (y := a 7) rfl ⟨by decide +kernel, rfl⟩ ?_
  refine z_getL (pc' := 93) (cef_C108_7 ca D) rfl ⟨by decide +kernel, rfl⟩ ?_
  refine z_aload_n (pc' := 94) (k := 0) (i := 0) 0 rfl rfl ⟨by decide +kernel, rfl⟩ ?_
  refine z_getR (pc' := 97) (cef_C12_2 ca D) rfl (y := a 7) rfl ⟨by decide +kernel, rfl⟩ ?_
  refine z_getI (pc' := 100) (cef_C116_7 ca D) rfl ⟨by decide +kernel, rfl⟩ ?_
  refine z_callVf (pc' := 103) 2 (cet_C_addVariable n u (zL u 7 8) (zI u 7 7)) (ceG_C135 ca D) (ceO_2 ca D) rfl (by omega) rfl rfl (Nat.le_of_ble_eq_true rfl) ⟨by decide +kernel, rfl⟩ (fun r1 u2 => ?_)
  refine z_pop (pc' := 104) rfl ⟨by decide +kernel, rfl⟩ ?_
  refine z_aload_n (pc' := 105) (k := 0) (i := 0) 0 rfl rfl ⟨by decide +kernel, rfl⟩ ?_
  refine z_getG (pc' := 108) (cef_C52_2 ca D) rfl (fun _ h => ⟨zpr_n0 h, ce_adP0 h⟩) ⟨by decide +kernel, rfl⟩ fun p3 hp3 => ?_
  refine z_aload_n (pc' := 109) (k := 0) (i := 0) 0 rfl rfl ⟨by decide +kernel, rfl⟩ ?_
  refine z_getI (pc' := 112) (cef_C62_2 ca D) rfl ⟨by decide +kernel, rfl⟩ ?_
  refine z_callVf (pc' := 115) p3 (cet_P_addName n p3 hp3 u2 (zI u2 2 6)) (ceG_C139 ca D) (ceO_P ca D hp3) (ce_adP0 hp3) (by omega) rfl rfl (Nat.le_of_ble_eq_true rfl) ⟨by decide +kernel, rfl⟩ (fun _ u5 => ?_)
  refine z_aload_n (pc' := 116) (k := 0) (i := 0) 0 rfl rfl ⟨by decide +kernel, rfl⟩ ?_
  refine z_getR (pc' := 119) (cef_C12_2 ca D) rfl (y := a 7) rfl ⟨by decide +kernel, rfl⟩ ?_
  refine z_callVf (pc' := 122) 7 (cet_X_advance n u5) (ceG_C105 ca D) (ceO_7 ca D) rfl (by omega) rfl rfl (Nat.le_of_ble_eq_true rfl) ⟨by decide +kernel, rfl⟩ (fun _ u7 => ?_)
  refine z_aload_n (pc' := 123) (k := 0) (i := 0) 0 rfl rfl ⟨by decide +kernel, rfl⟩ ?_
  refine z_bipush (pc' := 125) (n := 44) (v := 44) (by decide) ⟨by decide +kernel, rfl⟩ ?_
  refine z_callVf (pc' := 128) 2 (cet_C_takes n u7 44) (ceG_C142 ca D) (ceO_2 ca D) rfl (by omega) rfl rfl (Nat.le_of_ble_eq_true rfl) ⟨by decide +kernel, rfl⟩ (fun r8 u9 => ?_)
  refine z_istore_n (pc' := 129) (k := 1) (i := 1) rfl (by decide) rfl ⟨by decide +kernel, rfl⟩ ?_
  refine z_iincN (pc' := 132) (i := 2) (n := 1) (c := 1) 2 rfl (by decide) (by decide) rfl ⟨by decide +kernel, rfl⟩ fun v10 => ?_
  refine z_goto (tgt := 26) (off := -106) (by decide +kernel) rfl ?_
  refine z_lv [2, 1, 0] (lv' := [(0, .ref (a 2)), (1, .int r8), (2, .int v10)]) rfl ?_
  exact hk26 u9 r8 v10
set_option maxRecDepth 20000 in
set_option maxHeartbeats 4000000 in
theorem ce_C_compileNames_L26_t {κ : zKx} {ca : Nat → ClassId} {D : va_G} {A : Nat → Prop} {c0 : Nat × Nat} {a g0 g : Nat → Nat} (n : Nat) : ∀ (m : Nat) (u : zMu) (x1 : Int32) (x2 : Int32), zJ κ (zCe ca D) prog_2_method_5_code 3 ce_RC none zrv true 2 A c0 a g0 g u 26 [(0, .ref (a 2)), (1, .int x1), (2, .int x2)] [] (ce_C_compileNames_L26 n m u x1 x2) := by
  intro m
  induction m with
  | zero => intro u x1 x2 r u' h; cases h
  | succ m ih =>
    intro u x1 x2
    unfold ce_C_compileNames_L26
    refine z_iload_n (pc' := 27) (k := 2) (i := 2) 2 rfl rfl ⟨by decide +kernel, rfl⟩ ?_
    refine z_iconst (pc' := 28) (n := 4) (v := 4) (by decide) ⟨by decide +kernel, rfl⟩ ?_
    refine z_icmp_gt (pc' := 31) (tgt := 135) (off := 107) ⟨by decide +kernel, rfl⟩ rfl (fun h1 => ?_) (fun h1 => ?_)
    · refine z_aload_n (pc' := 136) (k := 0) (i := 0) 0 rfl rfl ⟨by decide +kernel, rfl⟩ ?_
      refine z_bipush (pc' := 138) (n := 41) (v := 41) (by decide) ⟨by decide +kernel, rfl⟩ ?_
      refine z_callVf (pc' := 141) 2 (cet_C_closes n u 41) (ceG_C146 ca D) (ceO_2 ca D) rfl (by omega) rfl rfl (Nat.le_of_ble_eq_true rfl) ⟨by decide +kernel, rfl⟩ (fun _ u3 => ?_)
      exact z_vret (pc' := 142) ⟨by decide +kernel, rfl⟩
    · refine z_iload_n (pc' := 32) (k := 1) (i := 1) 1 rfl rfl ⟨by decide +kernel, rfl⟩ ?_
      refine z_if_eq (pc' := 35) (tgt := 135) (off := 103) ⟨by decide +kernel, rfl⟩ rfl (fun h4 => ?_) (fun h4 => ?_)
      · refine z_aload_n (pc' := 136) (k := 0) (i := 0) 0 rfl rfl ⟨by decide +kernel, rfl⟩ ?_
        refine z_bipush (pc' := 138) (n := 41) (v := 41) (by decide) ⟨by decide +kernel, rfl⟩ ?_
        refine z_callVf (pc' := 141) 2 (cet_C_closes n u 41) (ceG_C146 ca D) (ceO_2 ca D) rfl (by omega) rfl rfl (Nat.le_of_ble_eq_true rfl) ⟨by decide +kernel, rfl⟩ (fun _ u6 => ?_)
        exact z_vret (pc' := 142) ⟨by decide +kernel, rfl⟩
      · refine z_iload_n (pc' := 36) (k := 2) (i := 2) 2 rfl rfl ⟨by decide +kernel, rfl⟩ ?_
        refine z_iconst (pc' := 37) (n := 4) (v := 4) (by decide) ⟨by decide +kernel, rfl⟩ ?_
        refine z_icmp_eq (pc' := 40) (tgt := 53) (off := 16) ⟨by decide +kernel, rfl⟩ rfl (fun h7 => ?_) (fun h7 => ?_)
        · refine z_aload_n (pc' := 54) (k := 0) (i := 0) 0 rfl rfl ⟨by decide +kernel, rfl⟩ ?_
          refine z_callVf (pc' := 57) 2 (cet_C_refuse n u) (ceG_C102 ca D) (ceO_2 ca D) rfl (by omega) rfl rfl (Nat.le_of_ble_eq_true rfl) ⟨by decide +kernel, rfl⟩ (fun _ u9 => ?_)
          exact z_vret (pc' := 58) ⟨by decide +kernel, rfl⟩
        · refine z_aload_n (pc' := 41) (k := 0) (i := 0) 0 rfl rfl ⟨by decide +kernel, rfl⟩ ?_
          refine z_getR (pc' := 44) (cef_C12_2 ca D) rfl (y := a 7) rfl ⟨by decide +kernel, rfl⟩ ?_
          refine z_getI (pc' := 47) (cef_C43_7 ca D) rfl ⟨by decide +kernel, rfl⟩ ?_
          refine z_sipush (pc' := 50) (n := 259) (v := 259) (by decide) ⟨by decide +kernel, rfl⟩ ?_
          refine z_icmp_eq (pc' := 53) (tgt := 58) (off := 8) ⟨by decide +kernel, rfl⟩ rfl (fun h10 => ?_) (fun h10 => ?_)
          · refine z_aload_n (pc' := 59) (k := 0) (i := 0) 0 rfl rfl ⟨by decide +kernel, rfl⟩ ?_
            refine z_aload_n (pc' := 60) (k := 0) (i := 0) 0 rfl rfl ⟨by decide +kernel, rfl⟩ ?_
            refine z_getR (pc' := 63) (cef_C12_2 ca D) rfl (y := a 7) rfl ⟨by decide +kernel, rfl⟩ ?_
            refine z_getL (pc' := 66) (cef_C108_7 ca D) rfl ⟨by decide +kernel, rfl⟩ ?_
            refine z_callVf (pc' := 69) 2 (cet_C_variableNamed n u (zL u 7 8)) (ceG_C132 ca D) (ceO_2 ca D) rfl (by omega) rfl rfl (Nat.le_of_ble_eq_true rfl) ⟨by decide +kernel, rfl⟩ (fun r11 u12 => ?_)
            refine z_iconst (pc' := 70) (n := (-1)) (v := (-1)) (by decide) ⟨by decide +kernel, rfl⟩ ?_
            refine z_icmp_eq (pc' := 73) (tgt := 85) (off := 15) ⟨by decide +kernel, rfl⟩ rfl (fun h13 => ?_) (fun h13 => ?_)
            · refine z_lv [0, 2] (lv' := [(0, .ref (a 2)), (2, .int x2)]) rfl ?_
              exact ce_C_compileNames_J85_t n (ce_C_compileNames_L26 n m) (ih) u12 x2
            · refine z_aload_n (pc' := 74) (k := 0) (i := 0) 0 rfl rfl ⟨by decide +kernel, rfl⟩ ?_
              refine z_iconst (pc' := 75) (n := 3) (v := 3) (by decide) ⟨by decide +kernel, rfl⟩ ?_
              refine z_aload_n (pc' := 76) (k := 0) (i := 0) 0 rfl rfl ⟨by decide +kernel, rfl⟩ ?_
              refine z_getR (pc' := 79) (cef_C12_2 ca D) rfl (y := a 7) rfl ⟨by decide +kernel, rfl⟩ ?_
              refine z_getI (pc' := 82) (cef_C116_7 ca D) rfl ⟨by decide +kernel, rfl⟩ ?_
              refine z_callVf (pc' := 85) 2 (cet_C_note n u12 3 (zI u12 7 7)) (ceG_C119 ca D) (ceO_2 ca D) rfl (by omega) rfl rfl (Nat.le_of_ble_eq_true rfl) ⟨by decide +kernel, rfl⟩ (fun _ u15 => ?_)
              refine z_lv [0, 2] (lv' := [(0, .ref (a 2)), (2, .int x2)]) rfl ?_
              exact ce_C_compileNames_J85_t n (ce_C_compileNames_L26 n m) (ih) u15 x2
          · refine z_aload_n (pc' := 54) (k := 0) (i := 0) 0 rfl rfl ⟨by decide +kernel, rfl⟩ ?_
            refine z_callVf (pc' := 57) 2 (cet_C_refuse n u) (ceG_C102 ca D) (ceO_2 ca D) rfl (by omega) rfl rfl (Nat.le_of_ble_eq_true rfl) ⟨by decide +kernel, rfl⟩ (fun _ u17 => ?_)
            exact z_vret (pc' := 58) ⟨by decide +kernel, rfl⟩
set_option maxRecDepth 20000 in
set_option maxHeartbeats 4000000 in
theorem cet_C_compileNames {l : Launch} {ca : Nat → ClassId} {D : va_G} {a g : Nat → Nat} (n : Nat) (u : zMu) : zMet l (zCe ca D) ceY_C_compileNames (.code ceY_C_compileNames prog_2_method_5_code 3 none) zrv true 2 a g [.ref (a 2)] u (ce_C_compileNames n u) := by
  refine zMet.of rfl (Nat.le_of_ble_eq_true rfl) fun κ A hl => ?_
  subst hl
  unfold ce_C_compileNames
  refine z_aload_n (pc' := 1) (k := 0) (i := 0) 0 rfl rfl ⟨by decide +kernel, rfl⟩ ?_
  refine z_bipush (pc' := 3) (n := 40) (v := 40) (by decide) ⟨by decide +kernel, rfl⟩ ?_
  refine z_callVf (pc' := 6) 2 (cet_C_opens n u 40) (ceG_C129 ca D) (ceO_2 ca D) rfl (by omega) rfl rfl (Nat.le_of_ble_eq_true rfl) ⟨by decide +kernel, rfl⟩ (fun _ u2 => ?_)
  refine z_aload_n (pc' := 7) (k := 0) (i := 0) 0 rfl rfl ⟨by decide +kernel, rfl⟩ ?_
  refine z_getR (pc' := 10) (cef_C12_2 ca D) rfl (y := a 7) rfl ⟨by decide +kernel, rfl⟩ ?_
  refine z_getI (pc' := 13) (cef_C43_7 ca D) rfl ⟨by decide +kernel, rfl⟩ ?_
  refine z_bipush (pc' := 15) (n := 41) (v := 41) (by decide) ⟨by decide +kernel, rfl⟩ ?_
  refine z_icmp_eq (pc' := 18) (tgt := 22) (off := 7) ⟨by decide +kernel, rfl⟩ rfl (fun h3 => ?_) (fun h3 => ?_)
  · refine z_iconst (pc' := 23) (n := 0) (v := 0) (by decide) ⟨by decide +kernel, rfl⟩ ?_
    refine z_istore_n (pc' := 24) (k := 1) (i := 1) rfl (by decide) rfl ⟨by decide +kernel, rfl⟩ ?_
    refine z_iconst (pc' := 25) (n := 0) (v := 0) (by decide) ⟨by decide +kernel, rfl⟩ ?_
    refine z_istore_n (pc' := 26) (k := 2) (i := 2) rfl (by decide) rfl ⟨by decide +kernel, rfl⟩ ?_
    refine z_lv [2, 1, 0] (lv' := [(0, .ref (a 2)), (1, .int 0), (2, .int 0)]) rfl ?_
    exact ce_C_compileNames_L26_t n n u2 0 0
  · refine z_iconst (pc' := 19) (n := 1) (v := 1) (by decide) ⟨by decide +kernel, rfl⟩ ?_
    refine z_goto (tgt := 23) (off := 4) (by decide +kernel) rfl ?_
    refine z_istore_n (pc' := 24) (k := 1) (i := 1) rfl (by decide) rfl ⟨by decide +kernel, rfl⟩ ?_
    refine z_iconst (pc' := 25) (n := 0) (v := 0) (by decide) ⟨by decide +kernel, rfl⟩ ?_
    refine z_istore_n (pc' := 26) (k := 2) (i := 2) rfl (by decide) rfl ⟨by decide +kernel, rfl⟩ ?_
    refine z_lv [2, 1, 0] (lv' := [(0, .ref (a 2)), (1, .int 1), (2, .int 0)]) rfl ?_
    exact ce_C_compileNames_L26_t n n u2 1 0
set_option maxRecDepth 20000 in
set_option maxHeartbeats 4000000 in
theorem ce_C_compileHead_J72_t {κ : zKx} {ca : Nat → ClassId} {D : va_G} {A : Nat → Prop} {c0 : Nat × Nat} {a g0 g : Nat → Nat} (n : Nat) (u : zMu) : zJ κ (zCe ca D) prog_2_method_4_code 1 ce_RC none zrv true 3 A c0 a g0 g u 72 [(0, .ref (a 2))] [] (ce_C_compileHead_J72 n u) := by
  unfold ce_C_compileHead_J72
  refine z_aload_n (pc' := 73) (k := 0) (i := 0) 0 rfl rfl ⟨by decide +kernel, rfl⟩ ?_
  refine z_aload_n (pc' := 74) (k := 0) (i := 0) 0 rfl rfl ⟨by decide +kernel, rfl⟩ ?_
  refine z_getG (pc' := 77) (cef_C52_2 ca D) rfl (fun _ h => ⟨zpr_n0 h, ce_adP0 h⟩) ⟨by decide +kernel, rfl⟩ fun p1 hp1 => ?_
  refine z_aload_n (pc' := 78) (k := 0) (i := 0) 0 rfl rfl ⟨by decide +kernel, rfl⟩ ?_
  refine z_getR (pc' := 81) (cef_C12_2 ca D) rfl (y := a 7) rfl ⟨by decide +kernel, rfl⟩ ?_
  refine z_getL (pc' := 84) (cef_C108_7 ca D) rfl ⟨by decide +kernel, rfl⟩ ?_
  refine z_callVf (pc' := 87) p1 (cet_P_addFn n p1 hp1 u (zL u 7 8)) (ceG_C123 ca D) (ceO_P ca D hp1) (ce_adP0 hp1) (by omega) rfl rfl (Nat.le_of_ble_eq_true rfl) ⟨by decide +kernel, rfl⟩ (fun r2 u3 => ?_)
  refine z_putI (pc' := 90) (cef_C62_2 ca D) rfl ⟨by decide +kernel, rfl⟩ (z_letU fun u4 => ?_)
  refine z_aload_n (pc' := 91) (k := 0) (i := 0) 0 rfl rfl ⟨by decide +kernel, rfl⟩ ?_
  refine z_iconst (pc' := 92) (n := 0) (v := 0) (by decide) ⟨by decide +kernel, rfl⟩ ?_
  refine z_putI (pc' := 95) (cef_C65_2 ca D) rfl ⟨by decide +kernel, rfl⟩ (z_letU fun u5 => ?_)
  refine z_aload_n (pc' := 96) (k := 0) (i := 0) 0 rfl rfl ⟨by decide +kernel, rfl⟩ ?_
  refine z_getR (pc' := 99) (cef_C12_2 ca D) rfl (y := a 7) rfl ⟨by decide +kernel, rfl⟩ ?_
  refine z_callVf (pc' := 102) 7 (cet_X_advance n u5) (ceG_C105 ca D) (ceO_7 ca D) rfl (by omega) rfl rfl (Nat.le_of_ble_eq_true rfl) ⟨by decide +kernel, rfl⟩ (fun _ u7 => ?_)
  refine z_aload_n (pc' := 103) (k := 0) (i := 0) 0 rfl rfl ⟨by decide +kernel, rfl⟩ ?_
  refine z_callVf (pc' := 106) 2 (cet_C_compileNames n u7) (ceG_C126 ca D) (ceO_2 ca D) rfl (by omega) rfl rfl (Nat.le_of_ble_eq_true rfl) ⟨by decide +kernel, rfl⟩ (fun _ u9 => ?_)
  exact z_vret (pc' := 107) ⟨by decide +kernel, rfl⟩
set_option maxRecDepth 20000 in
set_option maxHeartbeats 4000000 in
theorem cet_C_compileHead {l : Launch} {ca : Nat → ClassId} {D : va_G} {a g : Nat → Nat} (n : Nat) (u : zMu) : zMet l (zCe ca D) ceY_C_compileHead (.code ceY_C_compileHead prog_2_method_4_code 1 none) zrv true 3 a g [.ref (a 2)] u (ce_C_compileHead n u) := by
  refine zMet.of rfl (Nat.le_of_ble_eq_true rfl) fun κ A hl => ?_
  subst hl
  unfold ce_C_compileHead
  refine z_aload_n (pc' := 1) (k := 0) (i := 0) 0 rfl rfl ⟨by decide +kernel, rfl⟩ ?_
  refine z_getG (pc' := 4) (cef_C52_2 ca D) rfl (fun _ h => ⟨zpr_n0 h, ce_adP0 h⟩) ⟨by decide +kernel, rfl⟩ fun p1 hp1 => ?_
  refine z_getI (pc' := 7) (cef_C99_P ca D hp1) (ce_adP0 hp1) ⟨by decide +kernel, rfl⟩ ?_
  refine z_bipush (pc' := 9) (n := 8) (v := 8) (by decide) ⟨by decide +kernel, rfl⟩ ?_
  refine z_icmp_ne (pc' := 12) (tgt := 17) (off := 8) ⟨by decide +kernel, rfl⟩ rfl (fun h2 => ?_) (fun h2 => ?_)
  · refine z_aload_n (pc' := 13) (k := 0) (i := 0) 0 rfl rfl ⟨by decide +kernel, rfl⟩ ?_
    refine z_callVf (pc' := 16) 2 (cet_C_refuse n u) (ceG_C102 ca D) (ceO_2 ca D) rfl (by omega) rfl rfl (Nat.le_of_ble_eq_true rfl) ⟨by decide +kernel, rfl⟩ (fun _ u4 => ?_)
    exact z_vret (pc' := 17) ⟨by decide +kernel, rfl⟩
  · refine z_aload_n (pc' := 18) (k := 0) (i := 0) 0 rfl rfl ⟨by decide +kernel, rfl⟩ ?_
    refine z_getR (pc' := 21) (cef_C12_2 ca D) rfl (y := a 7) rfl ⟨by decide +kernel, rfl⟩ ?_
    refine z_callVf (pc' := 24) 7 (cet_X_advance n u) (ceG_C105 ca D) (ceO_7 ca D) rfl (by omega) rfl rfl (Nat.le_of_ble_eq_true rfl) ⟨by decide +kernel, rfl⟩ (fun _ u6 => ?_)
    refine z_aload_n (pc' := 25) (k := 0) (i := 0) 0 rfl rfl ⟨by decide +kernel, rfl⟩ ?_
    refine z_getR (pc' := 28) (cef_C12_2 ca D) rfl (y := a 7) rfl ⟨by decide +kernel, rfl⟩ ?_
    refine z_getI (pc' := 31) (cef_C43_7 ca D) rfl ⟨by decide +kernel, rfl⟩ ?_
    refine z_sipush (pc' := 34) (n := 259) (v := 259) (by decide) ⟨by decide +kernel, rfl⟩ ?_
    refine z_icmp_eq (pc' := 37) (tgt := 42) (off := 8) ⟨by decide +kernel, rfl⟩ rfl (fun h7 => ?_) (fun h7 => ?_)
    · refine z_aload_n (pc' := 43) (k := 0) (i := 0) 0 rfl rfl ⟨by decide +kernel, rfl⟩ ?_
      refine z_getG (pc' := 46) (cef_C52_2 ca D) rfl (fun _ h => ⟨zpr_n0 h, ce_adP0 h⟩) ⟨by decide +kernel, rfl⟩ fun p8 hp8 => ?_
      refine z_aload_n (pc' := 47) (k := 0) (i := 0) 0 rfl rfl ⟨by decide +kernel, rfl⟩ ?_
      refine z_getR (pc' := 50) (cef_C12_2 ca D) rfl (y := a 7) rfl ⟨by decide +kernel, rfl⟩ ?_
      refine z_getL (pc' := 53) (cef_C108_7 ca D) rfl ⟨by decide +kernel, rfl⟩ ?_
      refine z_callVf (pc' := 56) p8 (cet_P_fnNamed n p8 hp8 u6 (zL u6 7 8)) (ceG_C112 ca D) (ceO_P ca D hp8) (ce_adP0 hp8) (by omega) rfl rfl (Nat.le_of_ble_eq_true rfl) ⟨by decide +kernel, rfl⟩ (fun r9 u10 => ?_)
      refine z_iconst (pc' := 57) (n := (-1)) (v := (-1)) (by decide) ⟨by decide +kernel, rfl⟩ ?_
      refine z_icmp_eq (pc' := 60) (tgt := 72) (off := 15) ⟨by decide +kernel, rfl⟩ rfl (fun h11 => ?_) (fun h11 => ?_)
      · exact ce_C_compileHead_J72_t n u10
      · refine z_aload_n (pc' := 61) (k := 0) (i := 0) 0 rfl rfl ⟨by decide +kernel, rfl⟩ ?_
        refine z_iconst (pc' := 62) (n := 2) (v := 2) (by decide) ⟨by decide +kernel, rfl⟩ ?_
        refine z_aload_n (pc' := 63) (k := 0) (i := 0) 0 rfl rfl ⟨by decide +kernel, rfl⟩ ?_
        refine z_getR (pc' := 66) (cef_C12_2 ca D) rfl (y := a 7) rfl ⟨by decide +kernel, rfl⟩ ?_
        refine z_getI (pc' := 69) (cef_C116_7 ca D) rfl ⟨by decide +kernel, rfl⟩ ?_
        refine z_callVf (pc' := 72) 2 (cet_C_note n u10 2 (zI u10 7 7)) (ceG_C119 ca D) (ceO_2 ca D) rfl (by omega) rfl rfl (Nat.le_of_ble_eq_true rfl) ⟨by decide +kernel, rfl⟩ (fun _ u13 => ?_)
        exact ce_C_compileHead_J72_t n u13
    · refine z_aload_n (pc' := 38) (k := 0) (i := 0) 0 rfl rfl ⟨by decide +kernel, rfl⟩ ?_
      refine z_callVf (pc' := 41) 2 (cet_C_refuse n u6) (ceG_C102 ca D) (ceO_2 ca D) rfl (by omega) rfl rfl (Nat.le_of_ble_eq_true rfl) ⟨by decide +kernel, rfl⟩ (fun _ u15 => ?_)
      exact z_vret (pc' := 42) ⟨by decide +kernel, rfl⟩
