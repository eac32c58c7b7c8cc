/-! the class's methods meet their models (printed by wip/gen/cls.py) -/
set_option maxRecDepth 20000 in
set_option maxHeartbeats 4000000 in
theorem cet_M_load {l : Launch} {ca : Nat → ClassId} {D : va_G} {a g : Nat → Nat} (n : Nat) (p1 : Nat) (hp1 : zpr p1 = true) (u : zMu) : zMet l (zCe ca D) ceY_M_load (.code ceY_M_load prog_6_method_2_code 2 none) zrv true 4 a g [.ref (a 34), .ref (a p1)] u (ce_M_load n p1 u) := by
  refine zMet.of rfl (Nat.le_of_ble_eq_true rfl) fun κ A hl => ?_
  subst hl
  unfold ce_M_load
  refine z_aload_n (pc' := 1) (k := 0) (i := 0) 0 rfl rfl ⟨by decide +kernel, rfl⟩ ?_
  refine z_aload_n (pc' := 2) (k := 1) (i := 1) 1 rfl rfl ⟨by decide +kernel, rfl⟩ ?_
  refine z_putM (pc' := 5) (v := p1) (cef_M58_34 ca D) rfl (zpr_n0 hp1) (ce_adP0 hp1) ⟨by decide +kernel, rfl⟩ (z_letU fun u1 => ?_)
  refine z_aload_n (pc' := 6) (k := 0) (i := 0) 0 rfl rfl ⟨by decide +kernel, rfl⟩ ?_
  refine z_getR (pc' := 9) (cef_M12_34 ca D) rfl (y := a 36) rfl ⟨by decide +kernel, rfl⟩ ?_
  refine z_callVf (pc' := 12) 36 (cet_H_clear n u1) (ceG_M62 ca D) (ceO_36 ca D) rfl (by omega) rfl rfl (Nat.le_of_ble_eq_true rfl) ⟨by decide +kernel, rfl⟩ (fun _ u3 => ?_)
  refine z_aload_n (pc' := 13) (k := 0) (i := 0) 0 rfl rfl ⟨by decide +kernel, rfl⟩ ?_
  refine z_getR (pc' := 16) (cef_M21_34 ca D) rfl (y := a 45) rfl ⟨by decide +kernel, rfl⟩ ?_
  refine z_callVf (pc' := 19) 45 (cet_R_clear n u3) (ceG_M65 ca D) (ceO_45 ca D) rfl (by omega) rfl rfl (Nat.le_of_ble_eq_true rfl) ⟨by decide +kernel, rfl⟩ (fun _ u5 => ?_)
  refine z_aload_n (pc' := 20) (k := 0) (i := 0) 0 rfl rfl ⟨by decide +kernel, rfl⟩ ?_
  refine z_getR (pc' := 23) (cef_M28_34 ca D) rfl (y := a 49) rfl ⟨by decide +kernel, rfl⟩ ?_
  refine z_callVf (pc' := 26) 49 (cet_T_clear n u5) (ceG_M66 ca D) (ceO_49 ca D) rfl (by omega) rfl rfl (Nat.le_of_ble_eq_true rfl) ⟨by decide +kernel, rfl⟩ (fun _ u7 => ?_)
  refine z_aload_n (pc' := 27) (k := 0) (i := 0) 0 rfl rfl ⟨by decide +kernel, rfl⟩ ?_
  refine z_getR (pc' := 30) (cef_M35_34 ca D) rfl (y := a 59) rfl ⟨by decide +kernel, rfl⟩ ?_
  refine z_callVf (pc' := 33) 59 (cet_F_clear n u7) (ceG_M67 ca D) (ceO_59 ca D) rfl (by omega) rfl rfl (Nat.le_of_ble_eq_true rfl) ⟨by decide +kernel, rfl⟩ (fun _ u9 => ?_)
  refine z_aload_n (pc' := 34) (k := 0) (i := 0) 0 rfl rfl ⟨by decide +kernel, rfl⟩ ?_
  refine z_iconst (pc' := 35) (n := 0) (v := 0) (by decide) ⟨by decide +kernel, rfl⟩ ?_
  refine z_putI (pc' := 38) (cef_M68_34 ca D) rfl ⟨by decide +kernel, rfl⟩ (z_letU fun u10 => ?_)
  refine z_aload_n (pc' := 39) (k := 0) (i := 0) 0 rfl rfl ⟨by decide +kernel, rfl⟩ ?_
  refine z_iconst (pc' := 40) (n := 0) (v := 0) (by decide) ⟨by decide +kernel, rfl⟩ ?_
  refine z_putI (pc' := 43) (cef_M72_34 ca D) rfl ⟨by decide +kernel, rfl⟩ (z_letU fun u11 => ?_)
  refine z_aload_n (pc' := 44) (k := 0) (i := 0) 0 rfl rfl ⟨by decide +kernel, rfl⟩ ?_
  refine z_iconst (pc' := 45) (n := 0) (v := 0) (by decide) ⟨by decide +kernel, rfl⟩ ?_
  refine z_putI (pc' := 48) (cef_M75_34 ca D) rfl ⟨by decide +kernel, rfl⟩ (z_letU fun u12 => ?_)
  refine z_aload_n (pc' := 49) (k := 0) (i := 0) 0 rfl rfl ⟨by decide +kernel, rfl⟩ ?_
  refine z_iconst (pc' := 50) (n := 0) (v := 0) (by decide) ⟨by decide +kernel, rfl⟩ ?_
  refine z_putI (pc' := 53) (cef_M78_34 ca D) rfl ⟨by decide +kernel, rfl⟩ (z_letU fun u13 => ?_)
  refine z_aload_n (pc' := 54) (k := 0) (i := 0) 0 rfl rfl ⟨by decide +kernel, rfl⟩ ?_
  refine z_iconst (pc' := 55) (n := 0) (v := 0) (by decide) ⟨by decide +kernel, rfl⟩ ?_
  refine z_putI (pc' := 58) (cef_M81_34 ca D) rfl ⟨by decide +kernel, rfl⟩ (z_letU fun u14 => ?_)
  refine z_aload_n (pc' := 59) (k := 0) (i := 0) 0 rfl rfl ⟨by decide +kernel, rfl⟩ ?_
  refine z_iconst (pc' := 60) (n := 0) (v := 0) (by decide) ⟨by decide +kernel, rfl⟩ ?_
  refine z_putI (pc' := 63) (cef_M84_34 ca D) rfl ⟨by decide +kernel, rfl⟩ (z_letU fun u15 => ?_)
  refine z_aload_n (pc' := 64) (k := 0) (i := 0) 0 rfl rfl ⟨by decide +kernel, rfl⟩ ?_
  refine z_iconst (pc' := 65) (n := 0) (v := 0) (by decide) ⟨by decide +kernel, rfl⟩ ?_
  refine z_putI (pc' := 68) (cef_M87_34 ca D) rfl ⟨by decide +kernel, rfl⟩ (z_letU fun u16 => ?_)
  refine z_aload_n (pc' := 69) (k := 0) (i := 0) 0 rfl rfl ⟨by decide +kernel, rfl⟩ ?_
  refine z_iconst (pc' := 70) (n := (-1)) (v := (-1)) (by decide) ⟨by decide +kernel, rfl⟩ ?_
  refine z_putI (pc' := 73) (cef_M90_34 ca D) rfl ⟨by decide +kernel, rfl⟩ (z_letU fun u17 => ?_)
  exact z_vret (pc' := 74) ⟨by decide +kernel, rfl⟩
set_option maxRecDepth 20000 in
set_option maxHeartbeats 4000000 in
theorem ce_M_clearVariables_L2_t {κ : zKx} {ca : Nat → ClassId} {D : va_G} {A : Nat → Prop} {c0 : Nat × Nat} {a g0 : Nat → Nat} (n : Nat) : ∀ (m : Nat) (g : Nat → Nat) (u : zMu) (x1 : Int32), zJ κ (zCe ca D) prog_6_method_12_code 2 ce_RM none zrv false 4 A c0 a g0 g u 2 [(0, .ref (a 34)), (1, .int x1)] [] (ce_M_clearVariables_L2 n m u x1) := by
  intro m
  induction m with
  | zero => intro g u x1 r u' h; cases h
  | succ m ih =>
    intro g u x1
    unfold ce_M_clearVariables_L2
    refine z_iload_n (pc' := 3) (k := 1) (i := 1) 1 rfl rfl ⟨by decide +kernel, rfl⟩ ?_
    refine z_bipush (pc' := 5) (n := 12) (v := 12) (by decide) ⟨by decide +kernel, rfl⟩ ?_
    refine z_icmp_ge (pc' := 8) (tgt := 32) (off := 27) ⟨by decide +kernel, rfl⟩ rfl (fun h1 => ?_) (fun h1 => ?_)
    · refine z_aload_n (pc' := 9) (k := 0) (i := 0) 0 rfl rfl ⟨by decide +kernel, rfl⟩ ?_
      refine z_getR (pc' := 12) (cef_M51_34 ca D) rfl (y := a 78) rfl ⟨by decide +kernel, rfl⟩ ?_
      refine z_aload_n (pc' := 13) (k := 0) (i := 0) 0 rfl rfl ⟨by decide +kernel, rfl⟩ ?_
      refine z_getI (pc' := 16) (cef_M75_34 ca D) rfl ⟨by decide +kernel, rfl⟩ ?_
      refine z_bipush (pc' := 18) (n := 12) (v := 12) (by decide) ⟨by decide +kernel, rfl⟩ ?_
      refine z_imul (pc' := 19) ⟨by decide +kernel, rfl⟩ ?_
      refine z_iload_n (pc' := 20) (k := 1) (i := 1) 1 rfl rfl ⟨by decide +kernel, rfl⟩ ?_
      refine z_iadd (pc' := 21) ⟨by decide +kernel, rfl⟩ ?_
      refine z_iconst (pc' := 22) (n := 0) (v := 0) (by decide) ⟨by decide +kernel, rfl⟩ ?_
      refine z_lconst (pc' := 23) (n := 0) (v := 0) (by decide) ⟨by decide +kernel, rfl⟩ ?_
      refine z_callV (pc' := 26) 78 (cet_V_set n 78 rfl u (((zI u 34 11) * 12) + x1) 0 0) (ceG_M193 ca D) (ceO_78 ca D) rfl (fun h => by cases h) (by omega) rfl rfl (Nat.le_of_ble_eq_true rfl) ⟨by decide +kernel, rfl⟩ (fun _ u4 g2 _ => ?_)
      refine z_iincN (pc' := 29) (i := 1) (n := 1) (c := 1) 1 rfl (by decide) (by decide) rfl ⟨by decide +kernel, rfl⟩ fun v5 => ?_
      refine z_goto (tgt := 2) (off := -27) (by decide +kernel) rfl ?_
      refine z_lv [1, 0] (lv' := [(0, .ref (a 34)), (1, .int v5)]) rfl ?_
      exact ih g2 u4 v5
    · exact z_vret (pc' := 33) ⟨by decide +kernel, rfl⟩
set_option maxRecDepth 20000 in
set_option maxHeartbeats 4000000 in
theorem cet_M_clearVariables {l : Launch} {ca : Nat → ClassId} {D : va_G} {a g : Nat → Nat} (n : Nat) (u : zMu) : zMet l (zCe ca D) ceY_M_clearVariables (.code ceY_M_clearVariables prog_6_method_12_code 2 none) zrv false 4 a g [.ref (a 34)] u (ce_M_clearVariables n u) := by
  refine zMet.of rfl (Nat.le_of_ble_eq_true rfl) fun κ A hl => ?_
  subst hl
  unfold ce_M_clearVariables
  refine z_iconst (pc' := 1) (n := 0) (v := 0) (by decide) ⟨by decide +kernel, rfl⟩ ?_
  refine z_istore_n (pc' := 2) (k := 1) (i := 1) rfl (by decide) rfl ⟨by decide +kernel, rfl⟩ ?_
  refine z_lv [1, 0] (lv' := [(0, .ref (a 34)), (1, .int 0)]) rfl ?_
  exact ce_M_clearVariables_L2_t n n g u 0
set_option maxRecDepth 20000 in
set_option maxHeartbeats 4000000 in
theorem cet_M_takeStep {l : Launch} {ca : Nat → ClassId} {D : va_G} {a g : Nat → Nat} (n : Nat) (u : zMu) : zMet l (zCe ca D) ceY_M_takeStep (.code ceY_M_takeStep prog_6_method_6_code 1 (some .boolean)) zri true 0 a g [.ref (a 34)] u (ce_M_takeStep n u) := by
  refine zMet.of rfl (Nat.le_of_ble_eq_true rfl) fun κ A hl => ?_
  subst hl
  unfold ce_M_takeStep
  refine z_aload_n (pc' := 1) (k := 0) (i := 0) 0 rfl rfl ⟨by decide +kernel, rfl⟩ ?_
  refine z_getI (pc' := 4) (cef_M81_34 ca D) rfl ⟨by decide +kernel, rfl⟩ ?_
  refine z_aload_n (pc' := 5) (k := 0) (i := 0) 0 rfl rfl ⟨by decide +kernel, rfl⟩ ?_
  refine z_getI (pc' := 8) (cef_M93_34 ca D) rfl ⟨by decide +kernel, rfl⟩ ?_
  refine z_icmp_lt (pc' := 11) (tgt := 18) (off := 10) ⟨by decide +kernel, rfl⟩ rfl (fun h1 => ?_) (fun h1 => ?_)
  · refine z_aload_n (pc' := 19) (k := 0) (i := 0) 0 rfl rfl ⟨by decide +kernel, rfl⟩ ?_
    refine z_dup (pc' := 20) rfl ⟨by decide +kernel, rfl⟩ ?_
    refine z_getI (pc' := 23) (cef_M81_34 ca D) rfl ⟨by decide +kernel, rfl⟩ ?_
    refine z_iconst (pc' := 24) (n := 1) (v := 1) (by decide) ⟨by decide +kernel, rfl⟩ ?_
    refine z_iadd (pc' := 25) ⟨by decide +kernel, rfl⟩ ?_
    refine z_putI (pc' := 28) (cef_M81_34 ca D) rfl ⟨by decide +kernel, rfl⟩ (z_letU fun u2 => ?_)
    refine z_iconst (pc' := 29) (n := 1) (v := 1) (by decide) ⟨by decide +kernel, rfl⟩ ?_
    exact z_zret (pc' := 30) (by decide) ⟨by decide +kernel, rfl⟩
  · refine z_aload_n (pc' := 12) (k := 0) (i := 0) 0 rfl rfl ⟨by decide +kernel, rfl⟩ ?_
    refine z_iconst (pc' := 13) (n := 2) (v := 2) (by decide) ⟨by decide +kernel, rfl⟩ ?_
    refine z_putI (pc' := 16) (cef_M104_34 ca D) rfl ⟨by decide +kernel, rfl⟩ (z_letU fun u3 => ?_)
    refine z_iconst (pc' := 17) (n := 0) (v := 0) (by decide) ⟨by decide +kernel, rfl⟩ ?_
    exact z_zret (pc' := 18) (by decide) ⟨by decide +kernel, rfl⟩
set_option maxRecDepth 20000 in
set_option maxHeartbeats 4000000 in
theorem cet_M_push {l : Launch} {ca : Nat → ClassId} {D : va_G} {a g : Nat → Nat} (n : Nat) (u : zMu) (x1 : Int32) (x2 : Int64) : zMet l (zCe ca D) ceY_M_push (.code ceY_M_push prog_6_method_7_code 4 none) zrv false 4 a g [.ref (a 34), .int x1, .long x2] u (ce_M_push n u x1 x2) := by
  refine zMet.of rfl (Nat.le_of_ble_eq_true rfl) fun κ A hl => ?_
  subst hl
  unfold ce_M_push
  refine z_aload_n (pc' := 1) (k := 0) (i := 0) 0 rfl rfl ⟨by decide +kernel, rfl⟩ ?_
  refine z_getR (pc' := 4) (cef_M48_34 ca D) rfl (y := a 75) rfl ⟨by decide +kernel, rfl⟩ ?_
  refine z_aload_n (pc' := 5) (k := 0) (i := 0) 0 rfl rfl ⟨by decide +kernel, rfl⟩ ?_
  refine z_getI (pc' := 8) (cef_M72_34 ca D) rfl ⟨by decide +kernel, rfl⟩ ?_
  refine z_iload_n (pc' := 9) (k := 1) (i := 1) 1 rfl rfl ⟨by decide +kernel, rfl⟩ ?_
  refine z_lload_n (pc' := 10) (k := 2) (i := 2) 2 rfl rfl ⟨by decide +kernel, rfl⟩ ?_
  refine z_callV (pc' := 13) 75 (cet_V_set n 75 rfl u (zI u 34 8) x1 x2) (ceG_M193 ca D) (ceO_75 ca D) rfl (fun h => by cases h) (by omega) rfl rfl (Nat.le_of_ble_eq_true rfl) ⟨by decide +kernel, rfl⟩ (fun _ u3 g1 _ => ?_)
  refine z_aload_n (pc' := 14) (k := 0) (i := 0) 0 rfl rfl ⟨by decide +kernel, rfl⟩ ?_
  refine z_dup (pc' := 15) rfl ⟨by decide +kernel, rfl⟩ ?_
  refine z_getI (pc' := 18) (cef_M72_34 ca D) rfl ⟨by decide +kernel, rfl⟩ ?_
  refine z_iconst (pc' := 19) (n := 1) (v := 1) (by decide) ⟨by decide +kernel, rfl⟩ ?_
  refine z_iadd (pc' := 20) ⟨by decide +kernel, rfl⟩ ?_
  refine z_putI (pc' := 23) (cef_M72_34 ca D) rfl ⟨by decide +kernel, rfl⟩ (z_letU fun u4 => ?_)
  exact z_vret (pc' := 24) ⟨by decide +kernel, rfl⟩
set_option maxRecDepth 20000 in
set_option maxHeartbeats 4000000 in
theorem cet_V_sortAt {l : Launch} {ca : Nat → ClassId} {D : va_G} {a g : Nat → Nat} (n : Nat) (v : Nat) (hv : zvl v = true) (u : zMu) (x1 : Int32) : zMet l (zCe ca D) ceY_V_sortAt (.code ceY_V_sortAt prog_11_method_4_code 2 (some .int)) zri true 0 a g [.ref (a v), .int x1] u (ce_V_sortAt n v u x1) := by
  refine zMet.of rfl (Nat.le_of_ble_eq_true rfl) fun κ A hl => ?_
  subst hl
  unfold ce_V_sortAt
  refine z_iload_n (pc' := 1) (k := 1) (i := 1) 1 rfl rfl ⟨by decide +kernel, rfl⟩ ?_
  refine z_if_lt (pc' := 4) (tgt := 13) (off := 12) ⟨by decide +kernel, rfl⟩ rfl (fun h1 => ?_) (fun h1 => ?_)
  · refine z_iconst (pc' := 14) (n := 0) (v := 0) (by decide) ⟨by decide +kernel, rfl⟩ ?_
    refine z_goto (tgt := 23) (off := 9) (by decide +kernel) rfl ?_
    exact z_iret (pc' := 24) ⟨by decide +kernel, rfl⟩
  · refine z_iload_n (pc' := 5) (k := 1) (i := 1) 1 rfl rfl ⟨by decide +kernel, rfl⟩ ?_
    refine z_aload_n (pc' := 6) (k := 0) (i := 0) 0 rfl rfl ⟨by decide +kernel, rfl⟩ ?_
    refine z_getR (pc' := 9) (cef_V21_V ca D hv) (ce_adV0 hv) (y := g (v + 1)) (ce_frV1 hv) ⟨by decide +kernel, rfl⟩ ?_
    refine z_alen (pc' := 10) (v + 1) (t := 2) (p := 1) (ce_ckV1 hv) rfl (by decide) (ce_clV1 hv) (ce_cnV1 hv) (ce_adV1 hv) rfl ⟨by decide +kernel, rfl⟩ ?_
    refine z_icmp_lt (pc' := 13) (tgt := 17) (off := 7) ⟨by decide +kernel, rfl⟩ rfl (fun h2 => ?_) (fun h2 => ?_)
    · refine z_aload_n (pc' := 18) (k := 0) (i := 0) 0 rfl rfl ⟨by decide +kernel, rfl⟩ ?_
      refine z_getR (pc' := 21) (cef_V21_V ca D hv) (ce_adV0 hv) (y := g (v + 1)) (ce_frV1 hv) ⟨by decide +kernel, rfl⟩ ?_
      refine z_iload_n (pc' := 22) (k := 1) (i := 1) 1 rfl rfl ⟨by decide +kernel, rfl⟩ ?_
      refine z_bald (pc' := 23) (v + 1) (ce_ckV1 hv) (ce_clV1 hv) (ce_cnV1 hv) (ce_adV1 hv) ⟨by decide +kernel, rfl⟩ ?_
      exact z_iret (pc' := 24) ⟨by decide +kernel, rfl⟩
    · refine z_iconst (pc' := 14) (n := 0) (v := 0) (by decide) ⟨by decide +kernel, rfl⟩ ?_
      refine z_goto (tgt := 23) (off := 9) (by decide +kernel) rfl ?_
      exact z_iret (pc' := 24) ⟨by decide +kernel, rfl⟩
set_option maxRecDepth 20000 in
set_option maxHeartbeats 4000000 in
theorem cet_V_numberAt {l : Launch} {ca : Nat → ClassId} {D : va_G} {a g : Nat → Nat} (n : Nat) (v : Nat) (hv : zvl v = true) (u : zMu) (x1 : Int32) : zMet l (zCe ca D) ceY_V_numberAt (.code ceY_V_numberAt prog_11_method_5_code 2 (some .long)) zrl true 0 a g [.ref (a v), .int x1] u (ce_V_numberAt n v u x1) := by
  refine zMet.of rfl (Nat.le_of_ble_eq_true rfl) fun κ A hl => ?_
  subst hl
  unfold ce_V_numberAt
  refine z_iload_n (pc' := 1) (k := 1) (i := 1) 1 rfl rfl ⟨by decide +kernel, rfl⟩ ?_
  refine z_if_lt (pc' := 4) (tgt := 13) (off := 12) ⟨by decide +kernel, rfl⟩ rfl (fun h1 => ?_) (fun h1 => ?_)
  · refine z_lconst (pc' := 14) (n := 0) (v := 0) (by decide) ⟨by decide +kernel, rfl⟩ ?_
    refine z_goto (tgt := 23) (off := 9) (by decide +kernel) rfl ?_
    exact z_lret (pc' := 24) ⟨by decide +kernel, rfl⟩
  · refine z_iload_n (pc' := 5) (k := 1) (i := 1) 1 rfl rfl ⟨by decide +kernel, rfl⟩ ?_
    refine z_aload_n (pc' := 6) (k := 0) (i := 0) 0 rfl rfl ⟨by decide +kernel, rfl⟩ ?_
    refine z_getR (pc' := 9) (cef_V25_V ca D hv) (ce_adV0 hv) (y := g (v + 2)) (ce_frV2 hv) ⟨by decide +kernel, rfl⟩ ?_
    refine z_alen (pc' := 10) (v + 2) (t := 5) (p := 4) (ce_ckV2 hv) rfl (by decide) (ce_clV2 hv) (ce_cnV2 hv) (ce_adV2 hv) rfl ⟨by decide +kernel, rfl⟩ ?_
    refine z_icmp_lt (pc' := 13) (tgt := 17) (off := 7) ⟨by decide +kernel, rfl⟩ rfl (fun h2 => ?_) (fun h2 => ?_)
    · refine z_aload_n (pc' := 18) (k := 0) (i := 0) 0 rfl rfl ⟨by decide +kernel, rfl⟩ ?_
      refine z_getR (pc' := 21) (cef_V25_V ca D hv) (ce_adV0 hv) (y := g (v + 2)) (ce_frV2 hv) ⟨by decide +kernel, rfl⟩ ?_
      refine z_iload_n (pc' := 22) (k := 1) (i := 1) 1 rfl rfl ⟨by decide +kernel, rfl⟩ ?_
      refine z_lald (pc' := 23) (v + 2) (ce_ckV2 hv) (ce_clV2 hv) (ce_cnV2 hv) (ce_adV2 hv) ⟨by decide +kernel, rfl⟩ ?_
      exact z_lret (pc' := 24) ⟨by decide +kernel, rfl⟩
    · refine z_lconst (pc' := 14) (n := 0) (v := 0) (by decide) ⟨by decide +kernel, rfl⟩ ?_
      refine z_goto (tgt := 23) (off := 9) (by decide +kernel) rfl ?_
      exact z_lret (pc' := 24) ⟨by decide +kernel, rfl⟩
set_option maxRecDepth 20000 in
set_option maxHeartbeats 4000000 in
theorem cet_M_fetch {l : Launch} {ca : Nat → ClassId} {D : va_G} {a g : Nat → Nat} (n : Nat) (u : zMu) (x1 : Int32) : zMet l (zCe ca D) ceY_M_fetch (.code ceY_M_fetch prog_6_method_10_code 2 none) zrv false 5 a g [.ref (a 34), .int x1] u (ce_M_fetch n u x1) := by
  refine zMet.of rfl (Nat.le_of_ble_eq_true rfl) fun κ A hl => ?_
  subst hl
  unfold ce_M_fetch
  refine z_aload_n (pc' := 1) (k := 0) (i := 0) 0 rfl rfl ⟨by decide +kernel, rfl⟩ ?_
  refine z_aload_n (pc' := 2) (k := 0) (i := 0) 0 rfl rfl ⟨by decide +kernel, rfl⟩ ?_
  refine z_getR (pc' := 5) (cef_M51_34 ca D) rfl (y := a 78) rfl ⟨by decide +kernel, rfl⟩ ?_
  refine z_iload_n (pc' := 6) (k := 1) (i := 1) 1 rfl rfl ⟨by decide +kernel, rfl⟩ ?_
  refine z_callVf (pc' := 9) 78 (cet_V_sortAt n 78 rfl u x1) (ceG_M205 ca D) (ceO_78 ca D) rfl (by omega) rfl rfl (Nat.le_of_ble_eq_true rfl) ⟨by decide +kernel, rfl⟩ (fun r1 u2 => ?_)
  refine z_aload_n (pc' := 10) (k := 0) (i := 0) 0 rfl rfl ⟨by decide +kernel, rfl⟩ ?_
  refine z_getR (pc' := 13) (cef_M51_34 ca D) rfl (y := a 78) rfl ⟨by decide +kernel, rfl⟩ ?_
  refine z_iload_n (pc' := 14) (k := 1) (i := 1) 1 rfl rfl ⟨by decide +kernel, rfl⟩ ?_
  refine z_callVf (pc' := 17) 78 (cet_V_numberAt n 78 rfl u2 x1) (ceG_M209 ca D) (ceO_78 ca D) rfl (by omega) rfl rfl (Nat.le_of_ble_eq_true rfl) ⟨by decide +kernel, rfl⟩ (fun r3 u4 => ?_)
  refine z_callV (pc' := 20) 34 (cet_M_push n u4 r1 r3) (ceG_M133 ca D) (ceO_34 ca D) rfl (fun h => by cases h) (by omega) rfl rfl (Nat.le_of_ble_eq_true rfl) ⟨by decide +kernel, rfl⟩ (fun _ u7 g5 _ => ?_)
  exact z_vret (pc' := 21) ⟨by decide +kernel, rfl⟩
set_option maxRecDepth 20000 in
set_option maxHeartbeats 4000000 in
theorem cet_M_store {l : Launch} {ca : Nat → ClassId} {D : va_G} {a g : Nat → Nat} (n : Nat) (u : zMu) (x1 : Int32) : zMet l (zCe ca D) ceY_M_store (.code ceY_M_store prog_6_method_11_code 2 none) zrv false 4 a g [.ref (a 34), .int x1] u (ce_M_store n u x1) := by
  refine zMet.of rfl (Nat.le_of_ble_eq_true rfl) fun κ A hl => ?_
  subst hl
  unfold ce_M_store
  refine z_aload_n (pc' := 1) (k := 0) (i := 0) 0 rfl rfl ⟨by decide +kernel, rfl⟩ ?_
  refine z_dup (pc' := 2) rfl ⟨by decide +kernel, rfl⟩ ?_
  refine z_getI (pc' := 5) (cef_M72_34 ca D) rfl ⟨by decide +kernel, rfl⟩ ?_
  refine z_iconst (pc' := 6) (n := 1) (v := 1) (by decide) ⟨by decide +kernel, rfl⟩ ?_
  refine z_isub (pc' := 7) ⟨by decide +kernel, rfl⟩ ?_
  refine z_putI (pc' := 10) (cef_M72_34 ca D) rfl ⟨by decide +kernel, rfl⟩ (z_letU fun u1 => ?_)
  refine z_aload_n (pc' := 11) (k := 0) (i := 0) 0 rfl rfl ⟨by decide +kernel, rfl⟩ ?_
  refine z_getR (pc' := 14) (cef_M51_34 ca D) rfl (y := a 78) rfl ⟨by decide +kernel, rfl⟩ ?_
  refine z_iload_n (pc' := 15) (k := 1) (i := 1) 1 rfl rfl ⟨by decide +kernel, rfl⟩ ?_
  refine z_aload_n (pc' := 16) (k := 0) (i := 0) 0 rfl rfl ⟨by decide +kernel, rfl⟩ ?_
  refine z_getR (pc' := 19) (cef_M48_34 ca D) rfl (y := a 75) rfl ⟨by decide +kernel, rfl⟩ ?_
  refine z_aload_n (pc' := 20) (k := 0) (i := 0) 0 rfl rfl ⟨by decide +kernel, rfl⟩ ?_
  refine z_getI (pc' := 23) (cef_M72_34 ca D) rfl ⟨by decide +kernel, rfl⟩ ?_
  refine z_callVf (pc' := 26) 75 (cet_V_sortAt n 75 rfl u1 (zI u1 34 8)) (ceG_M205 ca D) (ceO_75 ca D) rfl (by omega) rfl rfl (Nat.le_of_ble_eq_true rfl) ⟨by decide +kernel, rfl⟩ (fun r2 u3 => ?_)
  refine z_aload_n (pc' := 27) (k := 0) (i := 0) 0 rfl rfl ⟨by decide +kernel, rfl⟩ ?_
  refine z_getR (pc' := 30) (cef_M48_34 ca D) rfl (y := a 75) rfl ⟨by decide +kernel, rfl⟩ ?_
  refine z_aload_n (pc' := 31) (k := 0) (i := 0) 0 rfl rfl ⟨by decide +kernel, rfl⟩ ?_
  refine z_getI (pc' := 34) (cef_M72_34 ca D) rfl ⟨by decide +kernel, rfl⟩ ?_
  refine z_callVf (pc' := 37) 75 (cet_V_numberAt n 75 rfl u3 (zI u3 34 8)) (ceG_M209 ca D) (ceO_75 ca D) rfl (by omega) rfl rfl (Nat.le_of_ble_eq_true rfl) ⟨by decide +kernel, rfl⟩ (fun r4 u5 => ?_)
  refine z_callV (pc' := 40) 78 (cet_V_set n 78 rfl u5 x1 r2 r4) (ceG_M193 ca D) (ceO_78 ca D) rfl (fun h => by cases h) (by omega) rfl rfl (Nat.le_of_ble_eq_true rfl) ⟨by decide +kernel, rfl⟩ (fun _ u8 g6 _ => ?_)
  exact z_vret (pc' := 41) ⟨by decide +kernel, rfl⟩
set_option maxRecDepth 20000 in
set_option maxHeartbeats 4000000 in
theorem cet_V_isNumberAt {l : Launch} {ca : Nat → ClassId} {D : va_G} {a g : Nat → Nat} (n : Nat) (v : Nat) (hv : zvl v = true) (u : zMu) (x1 : Int32) : zMet l (zCe ca D) ceY_V_isNumberAt (.code ceY_V_isNumberAt prog_11_method_6_code 3 (some .boolean)) zri true 1 a g [.ref (a v), .int x1] u (ce_V_isNumberAt n v u x1) := by
  refine zMet.of rfl (Nat.le_of_ble_eq_true rfl) fun κ A hl => ?_
  subst hl
  unfold ce_V_isNumberAt
  refine z_aload_n (pc' := 1) (k := 0) (i := 0) 0 rfl rfl ⟨by decide +kernel, rfl⟩ ?_
  refine z_iload_n (pc' := 2) (k := 1) (i := 1) 1 rfl rfl ⟨by decide +kernel, rfl⟩ ?_
  refine z_callVf (pc' := 5) v (cet_V_sortAt n v hv u x1) (ceG_V45 ca D) (ceO_V ca D hv) (ce_adV0 hv) (by omega) rfl rfl (Nat.le_of_ble_eq_true rfl) ⟨by decide +kernel, rfl⟩ (fun r1 u2 => ?_)
  refine z_istore_n (pc' := 6) (k := 2) (i := 2) rfl (by decide) rfl ⟨by decide +kernel, rfl⟩ ?_
  refine z_iload_n (pc' := 7) (k := 2) (i := 2) 0 rfl rfl ⟨by decide +kernel, rfl⟩ ?_
  refine z_iconst (pc' := 8) (n := 1) (v := 1) (by decide) ⟨by decide +kernel, rfl⟩ ?_
  refine z_icmp_eq (pc' := 11) (tgt := 16) (off := 8) ⟨by decide +kernel, rfl⟩ rfl (fun h3 => ?_) (fun h3 => ?_)
  · refine z_iconst (pc' := 17) (n := 1) (v := 1) (by decide) ⟨by decide +kernel, rfl⟩ ?_
    refine z_goto (tgt := 21) (off := 4) (by decide +kernel) rfl ?_
    exact z_zret (pc' := 22) (by decide) ⟨by decide +kernel, rfl⟩
  · refine z_iload_n (pc' := 12) (k := 2) (i := 2) 0 rfl rfl ⟨by decide +kernel, rfl⟩ ?_
    refine z_iconst (pc' := 13) (n := 2) (v := 2) (by decide) ⟨by decide +kernel, rfl⟩ ?_
    refine z_icmp_ne (pc' := 16) (tgt := 20) (off := 7) ⟨by decide +kernel, rfl⟩ rfl (fun h4 => ?_) (fun h4 => ?_)
    · refine z_iconst (pc' := 17) (n := 1) (v := 1) (by decide) ⟨by decide +kernel, rfl⟩ ?_
      refine z_goto (tgt := 21) (off := 4) (by decide +kernel) rfl ?_
      exact z_zret (pc' := 22) (by decide) ⟨by decide +kernel, rfl⟩
    · refine z_iconst (pc' := 21) (n := 0) (v := 0) (by decide) ⟨by decide +kernel, rfl⟩ ?_
      exact z_zret (pc' := 22) (by decide) ⟨by decide +kernel, rfl⟩
set_option maxRecDepth 20000 in
set_option maxHeartbeats 4000000 in
theorem cet_M_sortOf {l : Launch} {ca : Nat → ClassId} {D : va_G} {a g : Nat → Nat} (n : Nat) (u : zMu) (x0 : Int64) : zMet l (zCe ca D) ceY_M_sortOf (.code ceY_M_sortOf prog_6_method_9_code 2 (some .int)) zri true 0 a g [.long x0] u (ce_M_sortOf n u x0) := by
  refine zMet.of rfl (Nat.le_of_ble_eq_true rfl) fun κ A hl => ?_
  subst hl
  unfold ce_M_sortOf
  refine z_lload_n (pc' := 1) (k := 0) (i := 0) 0 rfl rfl ⟨by decide +kernel, rfl⟩ ?_
  refine z_ldc2 (pc' := 4) (v := (-1073741824)) (ce_w0 12 rfl) ⟨by decide +kernel, rfl⟩ ?_
  refine z_lcmp (pc' := 5) ⟨by decide +kernel, rfl⟩ ?_
  refine z_if_lt (pc' := 8) (tgt := 20) (off := 15) ⟨by decide +kernel, rfl⟩ rfl (fun h1 => ?_) (fun h1 => ?_)
  · refine z_iconst (pc' := 21) (n := 2) (v := 2) (by decide) ⟨by decide +kernel, rfl⟩ ?_
    exact z_iret (pc' := 22) ⟨by decide +kernel, rfl⟩
  · refine z_lload_n (pc' := 9) (k := 0) (i := 0) 0 rfl rfl ⟨by decide +kernel, rfl⟩ ?_
    refine z_ldc2 (pc' := 12) (v := 1073741823) (ce_w0 13 rfl) ⟨by decide +kernel, rfl⟩ ?_
    refine z_lcmp (pc' := 13) ⟨by decide +kernel, rfl⟩ ?_
    refine z_if_gt (pc' := 16) (tgt := 20) (off := 7) ⟨by decide +kernel, rfl⟩ rfl (fun h2 => ?_) (fun h2 => ?_)
    · refine z_iconst (pc' := 21) (n := 2) (v := 2) (by decide) ⟨by decide +kernel, rfl⟩ ?_
      exact z_iret (pc' := 22) ⟨by decide +kernel, rfl⟩
    · refine z_iconst (pc' := 17) (n := 1) (v := 1) (by decide) ⟨by decide +kernel, rfl⟩ ?_
      refine z_goto (tgt := 21) (off := 4) (by decide +kernel) rfl ?_
      exact z_iret (pc' := 22) ⟨by decide +kernel, rfl⟩
set_option maxRecDepth 20000 in
set_option maxHeartbeats 4000000 in
theorem cet_M_pushNumber {l : Launch} {ca : Nat → ClassId} {D : va_G} {a g : Nat → Nat} (n : Nat) (u : zMu) (x1 : Int64) : zMet l (zCe ca D) ceY_M_pushNumber (.code ceY_M_pushNumber prog_6_method_8_code 3 none) zrv false 5 a g [.ref (a 34), .long x1] u (ce_M_pushNumber n u x1) := by
  refine zMet.of rfl (Nat.le_of_ble_eq_true rfl) fun κ A hl => ?_
  subst hl
  unfold ce_M_pushNumber
  refine z_aload_n (pc' := 1) (k := 0) (i := 0) 0 rfl rfl ⟨by decide +kernel, rfl⟩ ?_
  refine z_lload_n (pc' := 2) (k := 1) (i := 1) 1 rfl rfl ⟨by decide +kernel, rfl⟩ ?_
  refine z_callSf (pc' := 5) (cet_M_sortOf n u x1) (ceG_M197 ca D) (by omega) rfl rfl (Nat.le_of_ble_eq_true rfl) ⟨by decide +kernel, rfl⟩ (fun r1 u2 => ?_)
  refine z_lload_n (pc' := 6) (k := 1) (i := 1) 1 rfl rfl ⟨by decide +kernel, rfl⟩ ?_
  refine z_callV (pc' := 9) 34 (cet_M_push n u2 r1 x1) (ceG_M133 ca D) (ceO_34 ca D) rfl (fun h => by cases h) (by omega) rfl rfl (Nat.le_of_ble_eq_true rfl) ⟨by decide +kernel, rfl⟩ (fun _ u5 g3 _ => ?_)
  exact z_vret (pc' := 10) ⟨by decide +kernel, rfl⟩
set_option maxRecDepth 20000 in
set_option maxHeartbeats 4000000 in
theorem cet_M_fail {l : Launch} {ca : Nat → ClassId} {D : va_G} {a g : Nat → Nat} (n : Nat) (u : zMu) (x1 : Int32) (x2 : Int32) : zMet l (zCe ca D) ceY_M_fail (.code ceY_M_fail prog_6_method_5_code 3 none) zrv true 0 a g [.ref (a 34), .int x1, .int x2] u (ce_M_fail n u x1 x2) := by
  refine zMet.of rfl (Nat.le_of_ble_eq_true rfl) fun κ A hl => ?_
  subst hl
  unfold ce_M_fail
  refine z_aload_n (pc' := 1) (k := 0) (i := 0) 0 rfl rfl ⟨by decide +kernel, rfl⟩ ?_
  refine z_iload_n (pc' := 2) (k := 1) (i := 1) 1 rfl rfl ⟨by decide +kernel, rfl⟩ ?_
  refine z_putI (pc' := 5) (cef_M87_34 ca D) rfl ⟨by decide +kernel, rfl⟩ (z_letU fun u1 => ?_)
  refine z_aload_n (pc' := 6) (k := 0) (i := 0) 0 rfl rfl ⟨by decide +kernel, rfl⟩ ?_
  refine z_iload_n (pc' := 7) (k := 2) (i := 2) 2 rfl rfl ⟨by decide +kernel, rfl⟩ ?_
  refine z_putI (pc' := 10) (cef_M90_34 ca D) rfl ⟨by decide +kernel, rfl⟩ (z_letU fun u2 => ?_)
  refine z_aload_n (pc' := 11) (k := 0) (i := 0) 0 rfl rfl ⟨by decide +kernel, rfl⟩ ?_
  refine z_iconst (pc' := 12) (n := 1) (v := 1) (by decide) ⟨by decide +kernel, rfl⟩ ?_
  refine z_putI (pc' := 15) (cef_M104_34 ca D) rfl ⟨by decide +kernel, rfl⟩ (z_letU fun u3 => ?_)
  exact z_vret (pc' := 16) ⟨by decide +kernel, rfl⟩
set_option maxRecDepth 20000 in
set_option maxHeartbeats 4000000 in
theorem cet_M_negate {l : Launch} {ca : Nat → ClassId} {D : va_G} {a g : Nat → Nat} (n : Nat) (u : zMu) (x1 : Int32) : zMet l (zCe ca D) ceY_M_negate (.code ceY_M_negate prog_6_method_13_code 2 none) zrv false 6 a g [.ref (a 34), .int x1] u (ce_M_negate n u x1) := by
  refine zMet.of rfl (Nat.le_of_ble_eq_true rfl) fun κ A hl => ?_
  subst hl
  unfold ce_M_negate
  refine z_aload_n (pc' := 1) (k := 0) (i := 0) 0 rfl rfl ⟨by decide +kernel, rfl⟩ ?_
  refine z_dup (pc' := 2) rfl ⟨by decide +kernel, rfl⟩ ?_
  refine z_getI (pc' := 5) (cef_M72_34 ca D) rfl ⟨by decide +kernel, rfl⟩ ?_
  refine z_iconst (pc' := 6) (n := 1) (v := 1) (by decide) ⟨by decide +kernel, rfl⟩ ?_
  refine z_isub (pc' := 7) ⟨by decide +kernel, rfl⟩ ?_
  refine z_putI (pc' := 10) (cef_M72_34 ca D) rfl ⟨by decide +kernel, rfl⟩ (z_letU fun u1 => ?_)
  refine z_aload_n (pc' := 11) (k := 0) (i := 0) 0 rfl rfl ⟨by decide +kernel, rfl⟩ ?_
  refine z_getR (pc' := 14) (cef_M48_34 ca D) rfl (y := a 75) rfl ⟨by decide +kernel, rfl⟩ ?_
  refine z_aload_n (pc' := 15) (k := 0) (i := 0) 0 rfl rfl ⟨by decide +kernel, rfl⟩ ?_
  refine z_getI (pc' := 18) (cef_M72_34 ca D) rfl ⟨by decide +kernel, rfl⟩ ?_
  refine z_callVf (pc' := 21) 75 (cet_V_isNumberAt n 75 rfl u1 (zI u1 34 8)) (ceG_M213 ca D) (ceO_75 ca D) rfl (by omega) rfl rfl (Nat.le_of_ble_eq_true rfl) ⟨by decide +kernel, rfl⟩ (fun r2 u3 => ?_)
  refine z_if_eq (pc' := 24) (tgt := 43) (off := 22) ⟨by decide +kernel, rfl⟩ rfl (fun h4 => ?_) (fun h4 => ?_)
  · refine z_aload_n (pc' := 44) (k := 0) (i := 0) 0 rfl rfl ⟨by decide +kernel, rfl⟩ ?_
    refine z_iconst (pc' := 45) (n := 1) (v := 1) (by decide) ⟨by decide +kernel, rfl⟩ ?_
    refine z_iload_n (pc' := 46) (k := 1) (i := 1) 1 rfl rfl ⟨by decide +kernel, rfl⟩ ?_
    refine z_callVf (pc' := 49) 34 (cet_M_fail n u3 1 x1) (ceG_M221 ca D) (ceO_34 ca D) rfl (by omega) rfl rfl (Nat.le_of_ble_eq_true rfl) ⟨by decide +kernel, rfl⟩ (fun _ u6 => ?_)
    exact z_vret (pc' := 50) ⟨by decide +kernel, rfl⟩
  · refine z_aload_n (pc' := 25) (k := 0) (i := 0) 0 rfl rfl ⟨by decide +kernel, rfl⟩ ?_
    refine z_aload_n (pc' := 26) (k := 0) (i := 0) 0 rfl rfl ⟨by decide +kernel, rfl⟩ ?_
    refine z_getR (pc' := 29) (cef_M48_34 ca D) rfl (y := a 75) rfl ⟨by decide +kernel, rfl⟩ ?_
    refine z_aload_n (pc' := 30) (k := 0) (i := 0) 0 rfl rfl ⟨by decide +kernel, rfl⟩ ?_
    refine z_getI (pc' := 33) (cef_M72_34 ca D) rfl ⟨by decide +kernel, rfl⟩ ?_
    refine z_callVf (pc' := 36) 75 (cet_V_numberAt n 75 rfl u3 (zI u3 34 8)) (ceG_M209 ca D) (ceO_75 ca D) rfl (by omega) rfl rfl (Nat.le_of_ble_eq_true rfl) ⟨by decide +kernel, rfl⟩ (fun r7 u8 => ?_)
    refine z_lneg (pc' := 37) ⟨by decide +kernel, rfl⟩ ?_
    refine z_callV (pc' := 40) 34 (cet_M_pushNumber n u8 (-r7)) (ceG_M217 ca D) (ceO_34 ca D) rfl (fun h => by cases h) (by omega) rfl rfl (Nat.le_of_ble_eq_true rfl) ⟨by decide +kernel, rfl⟩ (fun _ u11 g9 _ => ?_)
    refine z_goto (tgt := 49) (off := 9) (by decide +kernel) rfl ?_
    exact z_vret (pc' := 50) ⟨by decide +kernel, rfl⟩
set_option maxRecDepth 20000 in
set_option maxHeartbeats 4000000 in
theorem cet_M_resultOf {l : Launch} {ca : Nat → ClassId} {D : va_G} {a g : Nat → Nat} (n : Nat) (u : zMu) (x0 : Int32) (x1 : Int64) (x3 : Int64) : zMet l (zCe ca D) ceY_M_resultOf (.code ceY_M_resultOf prog_6_method_15_code 5 (some .long)) zrl true 0 a g [.int x0, .long x1, .long x3] u (ce_M_resultOf n u x0 x1 x3) := by
  refine zMet.of rfl (Nat.le_of_ble_eq_true rfl) fun κ A hl => ?_
  subst hl
  unfold ce_M_resultOf
  refine z_iload_n (pc' := 1) (k := 0) (i := 0) 0 rfl rfl ⟨by decide +kernel, rfl⟩ ?_
  refine z_bipush (pc' := 3) (n := 7) (v := 7) (by decide) ⟨by decide +kernel, rfl⟩ ?_
  refine z_icmp_ne (pc' := 6) (tgt := 10) (off := 7) ⟨by decide +kernel, rfl⟩ rfl (fun h1 => ?_) (fun h1 => ?_)
  · refine z_lload_n (pc' := 7) (k := 1) (i := 1) 1 rfl rfl ⟨by decide +kernel, rfl⟩ ?_
    refine z_lload_n (pc' := 8) (k := 3) (i := 3) 2 rfl rfl ⟨by decide +kernel, rfl⟩ ?_
    refine z_ladd (pc' := 9) ⟨by decide +kernel, rfl⟩ ?_
    exact z_lret (pc' := 10) ⟨by decide +kernel, rfl⟩
  · refine z_iload_n (pc' := 11) (k := 0) (i := 0) 0 rfl rfl ⟨by decide +kernel, rfl⟩ ?_
    refine z_bipush (pc' := 13) (n := 8) (v := 8) (by decide) ⟨by decide +kernel, rfl⟩ ?_
    refine z_icmp_ne (pc' := 16) (tgt := 22) (off := 9) ⟨by decide +kernel, rfl⟩ rfl (fun h2 => ?_) (fun h2 => ?_)
    · refine z_lload_n (pc' := 17) (k := 1) (i := 1) 1 rfl rfl ⟨by decide +kernel, rfl⟩ ?_
      refine z_lload_n (pc' := 18) (k := 3) (i := 3) 2 rfl rfl ⟨by decide +kernel, rfl⟩ ?_
      refine z_lsub (pc' := 19) ⟨by decide +kernel, rfl⟩ ?_
      refine z_goto (tgt := 25) (off := 6) (by decide +kernel) rfl ?_
      exact z_lret (pc' := 26) ⟨by decide +kernel, rfl⟩
    · refine z_lload_n (pc' := 23) (k := 1) (i := 1) 1 rfl rfl ⟨by decide +kernel, rfl⟩ ?_
      refine z_lload_n (pc' := 24) (k := 3) (i := 3) 2 rfl rfl ⟨by decide +kernel, rfl⟩ ?_
      refine z_lmul (pc' := 25) ⟨by decide +kernel, rfl⟩ ?_
      exact z_lret (pc' := 26) ⟨by decide +kernel, rfl⟩
set_option maxRecDepth 20000 in
set_option maxHeartbeats 4000000 in
theorem cet_T_meetSum {l : Launch} {ca : Nat → ClassId} {D : va_G} {a g : Nat → Nat} (n : Nat) (u : zMu) (x1 : Int32) (x2 : Int32) : zMet l (zCe ca D) ceY_T_meetSum (.code ceY_T_meetSum prog_10_method_6_code 3 none) zrv true 0 a g [.ref (a 49), .int x1, .int x2] u (ce_T_meetSum n u x1 x2) := by
  refine zMet.of rfl (Nat.le_of_ble_eq_true rfl) fun κ A hl => ?_
  subst hl
  unfold ce_T_meetSum
  refine z_aload_n (pc' := 1) (k := 0) (i := 0) 0 rfl rfl ⟨by decide +kernel, rfl⟩ ?_
  refine z_getR (pc' := 4) (cef_T9_49 ca D) rfl (y := a 50) rfl ⟨by decide +kernel, rfl⟩ ?_
  refine z_iload_n (pc' := 5) (k := 1) (i := 1) 1 rfl rfl ⟨by decide +kernel, rfl⟩ ?_
  refine z_dup2_11 (pc' := 6) rfl rfl ⟨by decide +kernel, rfl⟩ ?_
  refine z_iald (pc' := 7) 50 rfl (zlt rfl) rfl rfl ⟨by decide +kernel, rfl⟩ ?_
  refine z_iconst (pc' := 8) (n := 1) (v := 1) (by decide) ⟨by decide +kernel, rfl⟩ ?_
  refine z_iadd (pc' := 9) ⟨by decide +kernel, rfl⟩ ?_
  refine z_iast (pc' := 10) 50 rfl (zlt rfl) rfl rfl ⟨by decide +kernel, rfl⟩ (z_letU fun u1 => ?_)
  refine z_aload_n (pc' := 11) (k := 0) (i := 0) 0 rfl rfl ⟨by decide +kernel, rfl⟩ ?_
  refine z_getR (pc' := 14) (cef_T24_49 ca D) rfl (y := a 54) rfl ⟨by decide +kernel, rfl⟩ ?_
  refine z_iload_n (pc' := 15) (k := 1) (i := 1) 1 rfl rfl ⟨by decide +kernel, rfl⟩ ?_
  refine z_dup2_11 (pc' := 16) rfl rfl ⟨by decide +kernel, rfl⟩ ?_
  refine z_iald (pc' := 17) 54 rfl (zlt rfl) rfl rfl ⟨by decide +kernel, rfl⟩ ?_
  refine z_iload_n (pc' := 18) (k := 2) (i := 2) 2 rfl rfl ⟨by decide +kernel, rfl⟩ ?_
  refine z_ior (pc' := 19) ⟨by decide +kernel, rfl⟩ ?_
  refine z_iast (pc' := 20) 54 rfl (zlt rfl) rfl rfl ⟨by decide +kernel, rfl⟩ (z_letU fun u2 => ?_)
  exact z_vret (pc' := 21) ⟨by decide +kernel, rfl⟩
set_option maxRecDepth 20000 in
set_option maxHeartbeats 4000000 in
theorem cet_T_hasGuess {l : Launch} {ca : Nat → ClassId} {D : va_G} {a g : Nat → Nat} (n : Nat) (u : zMu) (x1 : Int32) : zMet l (zCe ca D) ceY_T_hasGuess (.code ceY_T_hasGuess prog_10_method_12_code 2 (some .boolean)) zri true 0 a g [.ref (a 49), .int x1] u (ce_T_hasGuess n u x1) := by
  refine zMet.of rfl (Nat.le_of_ble_eq_true rfl) fun κ A hl => ?_
  subst hl
  unfold ce_T_hasGuess
  refine z_aload_n (pc' := 1) (k := 0) (i := 0) 0 rfl rfl ⟨by decide +kernel, rfl⟩ ?_
  refine z_getR (pc' := 4) (cef_T36_49 ca D) rfl (y := a 58) rfl ⟨by decide +kernel, rfl⟩ ?_
  refine z_iload_n (pc' := 5) (k := 1) (i := 1) 1 rfl rfl ⟨by decide +kernel, rfl⟩ ?_
  refine z_iald (pc' := 6) 58 rfl (zlt rfl) rfl rfl ⟨by decide +kernel, rfl⟩ ?_
  refine z_if_le (pc' := 9) (tgt := 13) (off := 7) ⟨by decide +kernel, rfl⟩ rfl (fun h1 => ?_) (fun h1 => ?_)
  · refine z_iconst (pc' := 10) (n := 1) (v := 1) (by decide) ⟨by decide +kernel, rfl⟩ ?_
    refine z_goto (tgt := 14) (off := 4) (by decide +kernel) rfl ?_
    exact z_zret (pc' := 15) (by decide) ⟨by decide +kernel, rfl⟩
  · refine z_iconst (pc' := 14) (n := 0) (v := 0) (by decide) ⟨by decide +kernel, rfl⟩ ?_
    exact z_zret (pc' := 15) (by decide) ⟨by decide +kernel, rfl⟩
set_option maxRecDepth 20000 in
set_option maxHeartbeats 4000000 in
theorem ce_T_dropGuesses_L2_t {κ : zKx} {ca : Nat → ClassId} {D : va_G} {A : Nat → Prop} {c0 : Nat × Nat} {a g0 g : Nat → Nat} (n : Nat) (p1 : Nat) (hp1 : zpr p1 = true) : ∀ (m : Nat) (u : zMu) (x2 : Int32) (x3 : Int32), zJ κ (zCe ca D) prog_10_method_16_code 4 ce_RT none zrv true 0 A c0 a g0 g u 2 [(0, .ref (a 49)), (1, .ref (a p1)), (2, .int x2), (3, .int x3)] [] (ce_T_dropGuesses_L2 n p1 m u x2 x3) := by
  intro m
  induction m with
  | zero => intro u x2 x3 r u' h; cases h
  | succ m ih =>
    intro u x2 x3
    unfold ce_T_dropGuesses_L2
    refine z_iload_n (pc' := 3) (k := 3) (i := 3) 3 rfl rfl ⟨by decide +kernel, rfl⟩ ?_
    refine z_aload_n (pc' := 4) (k := 1) (i := 1) 1 rfl rfl ⟨by decide +kernel, rfl⟩ ?_
    refine z_getI (pc' := 7) (cef_T87_P ca D hp1) (ce_adP0 hp1) ⟨by decide +kernel, rfl⟩ ?_
    refine z_icmp_ge (pc' := 10) (tgt := 33) (off := 26) ⟨by decide +kernel, rfl⟩ rfl (fun h1 => ?_) (fun h1 => ?_)
    · refine z_aload_n (pc' := 11) (k := 1) (i := 1) 1 rfl rfl ⟨by decide +kernel, rfl⟩ ?_
      refine z_getR (pc' := 14) (cef_T92_P ca D hp1) (ce_adP0 hp1) (y := a (p1 + 6)) (ce_frP6 hp1) ⟨by decide +kernel, rfl⟩ ?_
      refine z_iload_n (pc' := 15) (k := 3) (i := 3) 3 rfl rfl ⟨by decide +kernel, rfl⟩ ?_
      refine z_iald (pc' := 16) (p1 + 6) (ce_ckP6 hp1) (ce_clP6 hp1) (ce_cnP6 hp1) (ce_adP6 hp1) ⟨by decide +kernel, rfl⟩ ?_
      refine z_iload_n (pc' := 17) (k := 2) (i := 2) 2 rfl rfl ⟨by decide +kernel, rfl⟩ ?_
      refine z_icmp_ne (pc' := 20) (tgt := 27) (off := 10) ⟨by decide +kernel, rfl⟩ rfl (fun h2 => ?_) (fun h2 => ?_)
      · refine z_aload_n (pc' := 21) (k := 0) (i := 0) 0 rfl rfl ⟨by decide +kernel, rfl⟩ ?_
        refine z_getR (pc' := 24) (cef_T36_49 ca D) rfl (y := a 58) rfl ⟨by decide +kernel, rfl⟩ ?_
        refine z_iload_n (pc' := 25) (k := 3) (i := 3) 3 rfl rfl ⟨by decide +kernel, rfl⟩ ?_
        refine z_iconst (pc' := 26) (n := 0) (v := 0) (by decide) ⟨by decide +kernel, rfl⟩ ?_
        refine z_iast (pc' := 27) 58 rfl (zlt rfl) rfl rfl ⟨by decide +kernel, rfl⟩ (z_letU fun u3 => ?_)
        refine z_iincN (pc' := 30) (i := 3) (n := 1) (c := 1) 3 rfl (by decide) (by decide) rfl ⟨by decide +kernel, rfl⟩ fun v4 => ?_
        refine z_goto (tgt := 2) (off := -28) (by decide +kernel) rfl ?_
        refine z_lv [1, 2, 3, 0] (lv' := [(0, .ref (a 49)), (1, .ref (a p1)), (2, .int x2), (3, .int v4)]) rfl ?_
        exact ih u3 x2 v4
      · refine z_iincN (pc' := 30) (i := 3) (n := 1) (c := 1) 3 rfl (by decide) (by decide) rfl ⟨by decide +kernel, rfl⟩ fun v5 => ?_
        refine z_goto (tgt := 2) (off := -28) (by decide +kernel) rfl ?_
        refine z_lv [1, 2, 3, 0] (lv' := [(0, .ref (a 49)), (1, .ref (a p1)), (2, .int x2), (3, .int v5)]) rfl ?_
        exact ih u x2 v5
    · exact z_vret (pc' := 34) ⟨by decide +kernel, rfl⟩
set_option maxRecDepth 20000 in
set_option maxHeartbeats 4000000 in
theorem cet_T_dropGuesses {l : Launch} {ca : Nat → ClassId} {D : va_G} {a g : Nat → Nat} (n : Nat) (p1 : Nat) (hp1 : zpr p1 = true) (u : zMu) (x2 : Int32) : zMet l (zCe ca D) ceY_T_dropGuesses (.code ceY_T_dropGuesses prog_10_method_16_code 4 none) zrv true 0 a g [.ref (a 49), .ref (a p1), .int x2] u (ce_T_dropGuesses n p1 u x2) := by
  refine zMet.of rfl (Nat.le_of_ble_eq_true rfl) fun κ A hl => ?_
  subst hl
  unfold ce_T_dropGuesses
  refine z_iconst (pc' := 1) (n := 0) (v := 0) (by decide) ⟨by decide +kernel, rfl⟩ ?_
  refine z_istore_n (pc' := 2) (k := 3) (i := 3) rfl (by decide) rfl ⟨by decide +kernel, rfl⟩ ?_
  refine z_lv [1, 2, 3, 0] (lv' := [(0, .ref (a 49)), (1, .ref (a p1)), (2, .int x2), (3, .int 0)]) rfl ?_
  exact ce_T_dropGuesses_L2_t n p1 hp1 n u x2 0
set_option maxRecDepth 20000 in
set_option maxHeartbeats 4000000 in
theorem cet_M_leaveMade {l : Launch} {ca : Nat → ClassId} {D : va_G} {a g : Nat → Nat} (n : Nat) (u : zMu) (x1 : Int32) : zMet l (zCe ca D) ceY_M_leaveMade (.code ceY_M_leaveMade prog_6_method_23_code 3 none) zrv true 1 a g [.ref (a 34), .int x1] u (ce_M_leaveMade n u x1) := by
  refine zMet.of rfl (Nat.le_of_ble_eq_true rfl) fun κ A hl => ?_
  subst hl
  unfold ce_M_leaveMade
  refine z_aload_n (pc' := 1) (k := 0) (i := 0) 0 rfl rfl ⟨by decide +kernel, rfl⟩ ?_
  refine z_getG (pc' := 4) (cef_M58_34 ca D) rfl (fun _ h => ⟨zpr_n0 h, ce_adP0 h⟩) ⟨by decide +kernel, rfl⟩ fun p1 hp1 => ?_
  refine z_getR (pc' := 7) (cef_M298_P ca D hp1) (ce_adP0 hp1) (y := a (p1 + 6)) (ce_frP6 hp1) ⟨by decide +kernel, rfl⟩ ?_
  refine z_iload_n (pc' := 8) (k := 1) (i := 1) 1 rfl rfl ⟨by decide +kernel, rfl⟩ ?_
  refine z_iald (pc' := 9) (p1 + 6) (ce_ckP6 hp1) (ce_clP6 hp1) (ce_cnP6 hp1) (ce_adP6 hp1) ⟨by decide +kernel, rfl⟩ ?_
  refine z_letI fun v2 => ?_
  refine z_istore_n (pc' := 10) (k := 2) (i := 2) rfl (by decide) rfl ⟨by decide +kernel, rfl⟩ ?_
  refine z_aload_n (pc' := 11) (k := 0) (i := 0) 1 rfl rfl ⟨by decide +kernel, rfl⟩ ?_
  refine z_getG (pc' := 14) (cef_M58_34 ca D) rfl (fun _ h => ⟨zpr_n0 h, ce_adP0 h⟩) ⟨by decide +kernel, rfl⟩ fun p3 hp3 => ?_
  refine z_iload_n (pc' := 15) (k := 2) (i := 2) 0 rfl rfl ⟨by decide +kernel, rfl⟩ ?_
  refine z_callVf (pc' := 18) p3 (cet_P_isFn n p3 hp3 u v2) (ceG_M301 ca D) (ceO_P ca D hp3) (ce_adP0 hp3) (by omega) rfl rfl (Nat.le_of_ble_eq_true rfl) ⟨by decide +kernel, rfl⟩ (fun r4 u5 => ?_)
  refine z_if_ne (pc' := 21) (tgt := 22) (off := 4) ⟨by decide +kernel, rfl⟩ rfl (fun h6 => ?_) (fun h6 => ?_)
  · exact z_vret (pc' := 22) ⟨by decide +kernel, rfl⟩
  · refine z_aload_n (pc' := 23) (k := 0) (i := 0) 1 rfl rfl ⟨by decide +kernel, rfl⟩ ?_
    refine z_getR (pc' := 26) (cef_M35_34 ca D) rfl (y := a 59) rfl ⟨by decide +kernel, rfl⟩ ?_
    refine z_iload_n (pc' := 27) (k := 2) (i := 2) 0 rfl rfl ⟨by decide +kernel, rfl⟩ ?_
    refine z_iload_n (pc' := 28) (k := 1) (i := 1) 2 rfl rfl ⟨by decide +kernel, rfl⟩ ?_
    refine z_callVf (pc' := 31) 59 (cet_F_leave n u5 v2 x1) (ceG_M304 ca D) (ceO_59 ca D) rfl (by omega) rfl rfl (Nat.le_of_ble_eq_true rfl) ⟨by decide +kernel, rfl⟩ (fun _ u8 => ?_)
    refine z_aload_n (pc' := 32) (k := 0) (i := 0) 1 rfl rfl ⟨by decide +kernel, rfl⟩ ?_
    refine z_getR (pc' := 35) (cef_M28_34 ca D) rfl (y := a 49) rfl ⟨by decide +kernel, rfl⟩ ?_
    refine z_aload_n (pc' := 36) (k := 0) (i := 0) 1 rfl rfl ⟨by decide +kernel, rfl⟩ ?_
    refine z_getG (pc' := 39) (cef_M58_34 ca D) rfl (fun _ h => ⟨zpr_n0 h, ce_adP0 h⟩) ⟨by decide +kernel, rfl⟩ fun p9 hp9 => ?_
    refine z_iload_n (pc' := 40) (k := 2) (i := 2) 0 rfl rfl ⟨by decide +kernel, rfl⟩ ?_
    refine z_callVf (pc' := 43) 49 (cet_T_dropGuesses n p9 hp9 u8 v2) (ceG_M306 ca D) (ceO_49 ca D) rfl (by omega) rfl rfl (Nat.le_of_ble_eq_true rfl) ⟨by decide +kernel, rfl⟩ (fun _ u11 => ?_)
    exact z_vret (pc' := 44) ⟨by decide +kernel, rfl⟩
set_option maxRecDepth 20000 in
set_option maxHeartbeats 4000000 in
theorem cet_M_calculate {l : Launch} {ca : Nat → ClassId} {D : va_G} {a g : Nat → Nat} (n : Nat) (u : zMu) (x1 : Int32) (x2 : Int32) (x3 : Int32) : zMet l (zCe ca D) ceY_M_calculate (.code ceY_M_calculate prog_6_method_14_code 7 none) zrv false 5 a g [.ref (a 34), .int x1, .int x2, .int x3] u (ce_M_calculate n u x1 x2 x3) := by
  refine zMet.of rfl (Nat.le_of_ble_eq_true rfl) fun κ A hl => ?_
  subst hl
  unfold ce_M_calculate
  refine z_aload_n (pc' := 1) (k := 0) (i := 0) 0 rfl rfl ⟨by decide +kernel, rfl⟩ ?_
  refine z_dup (pc' := 2) rfl ⟨by decide +kernel, rfl⟩ ?_
  refine z_getI (pc' := 5) (cef_M72_34 ca D) rfl ⟨by decide +kernel, rfl⟩ ?_
  refine z_iconst (pc' := 6) (n := 2) (v := 2) (by decide) ⟨by decide +kernel, rfl⟩ ?_
  refine z_isub (pc' := 7) ⟨by decide +kernel, rfl⟩ ?_
  refine z_putI (pc' := 10) (cef_M72_34 ca D) rfl ⟨by decide +kernel, rfl⟩ (z_letU fun u1 => ?_)
  refine z_aload_n (pc' := 11) (k := 0) (i := 0) 0 rfl rfl ⟨by decide +kernel, rfl⟩ ?_
  refine z_getR (pc' := 14) (cef_M48_34 ca D) rfl (y := a 75) rfl ⟨by decide +kernel, rfl⟩ ?_
  refine z_aload_n (pc' := 15) (k := 0) (i := 0) 0 rfl rfl ⟨by decide +kernel, rfl⟩ ?_
  refine z_getI (pc' := 18) (cef_M72_34 ca D) rfl ⟨by decide +kernel, rfl⟩ ?_
  refine z_callVf (pc' := 21) 75 (cet_V_isNumberAt n 75 rfl u1 (zI u1 34 8)) (ceG_M213 ca D) (ceO_75 ca D) rfl (by omega) rfl rfl (Nat.le_of_ble_eq_true rfl) ⟨by decide +kernel, rfl⟩ (fun r2 u3 => ?_)
  refine z_if_eq (pc' := 24) (tgt := 51) (off := 30) ⟨by decide +kernel, rfl⟩ rfl (fun h4 => ?_) (fun h4 => ?_)
  · refine z_aload_n (pc' := 52) (k := 0) (i := 0) 0 rfl rfl ⟨by decide +kernel, rfl⟩ ?_
    refine z_iconst (pc' := 53) (n := 1) (v := 1) (by decide) ⟨by decide +kernel, rfl⟩ ?_
    refine z_iload_n (pc' := 54) (k := 3) (i := 3) 3 rfl rfl ⟨by decide +kernel, rfl⟩ ?_
    refine z_callVf (pc' := 57) 34 (cet_M_fail n u3 1 x3) (ceG_M221 ca D) (ceO_34 ca D) rfl (by omega) rfl rfl (Nat.le_of_ble_eq_true rfl) ⟨by decide +kernel, rfl⟩ (fun _ u6 => ?_)
    exact z_vret (pc' := 58) ⟨by decide +kernel, rfl⟩
  · refine z_aload_n (pc' := 25) (k := 0) (i := 0) 0 rfl rfl ⟨by decide +kernel, rfl⟩ ?_
    refine z_getR (pc' := 28) (cef_M48_34 ca D) rfl (y := a 75) rfl ⟨by decide +kernel, rfl⟩ ?_
    refine z_aload_n (pc' := 29) (k := 0) (i := 0) 0 rfl rfl ⟨by decide +kernel, rfl⟩ ?_
    refine z_getI (pc' := 32) (cef_M72_34 ca D) rfl ⟨by decide +kernel, rfl⟩ ?_
    refine z_iconst (pc' := 33) (n := 1) (v := 1) (by decide) ⟨by decide +kernel, rfl⟩ ?_
    refine z_iadd (pc' := 34) ⟨by decide +kernel, rfl⟩ ?_
    refine z_callVf (pc' := 37) 75 (cet_V_isNumberAt n 75 rfl u3 ((zI u3 34 8) + 1)) (ceG_M213 ca D) (ceO_75 ca D) rfl (by omega) rfl rfl (Nat.le_of_ble_eq_true rfl) ⟨by decide +kernel, rfl⟩ (fun r7 u8 => ?_)
    refine z_if_eq (pc' := 40) (tgt := 51) (off := 14) ⟨by decide +kernel, rfl⟩ rfl (fun h9 => ?_) (fun h9 => ?_)
    · refine z_aload_n (pc' := 52) (k := 0) (i := 0) 0 rfl rfl ⟨by decide +kernel, rfl⟩ ?_
      refine z_iconst (pc' := 53) (n := 1) (v := 1) (by decide) ⟨by decide +kernel, rfl⟩ ?_
      refine z_iload_n (pc' := 54) (k := 3) (i := 3) 3 rfl rfl ⟨by decide +kernel, rfl⟩ ?_
      refine z_callVf (pc' := 57) 34 (cet_M_fail n u8 1 x3) (ceG_M221 ca D) (ceO_34 ca D) rfl (by omega) rfl rfl (Nat.le_of_ble_eq_true rfl) ⟨by decide +kernel, rfl⟩ (fun _ u11 => ?_)
      exact z_vret (pc' := 58) ⟨by decide +kernel, rfl⟩
    · refine z_aload_n (pc' := 41) (k := 0) (i := 0) 0 rfl rfl ⟨by decide +kernel, rfl⟩ ?_
      refine z_getG (pc' := 44) (cef_M58_34 ca D) rfl (fun _ h => ⟨zpr_n0 h, ce_adP0 h⟩) ⟨by decide +kernel, rfl⟩ fun p12 hp12 => ?_
      refine z_iload_n (pc' := 45) (k := 2) (i := 2) 2 rfl rfl ⟨by decide +kernel, rfl⟩ ?_
      refine z_callVf (pc' := 48) p12 (cet_P_isSite n p12 hp12 u8 x2) (ceG_M224 ca D) (ceO_P ca D hp12) (ce_adP0 hp12) (by omega) rfl rfl (Nat.le_of_ble_eq_true rfl) ⟨by decide +kernel, rfl⟩ (fun r13 u14 => ?_)
      refine z_if_ne (pc' := 51) (tgt := 58) (off := 10) ⟨by decide +kernel, rfl⟩ rfl (fun h15 => ?_) (fun h15 => ?_)
      · refine z_aload_n (pc' := 52) (k := 0) (i := 0) 0 rfl rfl ⟨by decide +kernel, rfl⟩ ?_
        refine z_iconst (pc' := 53) (n := 1) (v := 1) (by decide) ⟨by decide +kernel, rfl⟩ ?_
        refine z_iload_n (pc' := 54) (k := 3) (i := 3) 3 rfl rfl ⟨by decide +kernel, rfl⟩ ?_
        refine z_callVf (pc' := 57) 34 (cet_M_fail n u14 1 x3) (ceG_M221 ca D) (ceO_34 ca D) rfl (by omega) rfl rfl (Nat.le_of_ble_eq_true rfl) ⟨by decide +kernel, rfl⟩ (fun _ u17 => ?_)
        exact z_vret (pc' := 58) ⟨by decide +kernel, rfl⟩
      · refine z_iload_n (pc' := 59) (k := 1) (i := 1) 1 rfl rfl ⟨by decide +kernel, rfl⟩ ?_
        refine z_aload_n (pc' := 60) (k := 0) (i := 0) 0 rfl rfl ⟨by decide +kernel, rfl⟩ ?_
        refine z_getR (pc' := 63) (cef_M48_34 ca D) rfl (y := a 75) rfl ⟨by decide +kernel, rfl⟩ ?_
        refine z_aload_n (pc' := 64) (k := 0) (i := 0) 0 rfl rfl ⟨by decide +kernel, rfl⟩ ?_
        refine z_getI (pc' := 67) (cef_M72_34 ca D) rfl ⟨by decide +kernel, rfl⟩ ?_
        refine z_callVf (pc' := 70) 75 (cet_V_numberAt n 75 rfl u14 (zI u14 34 8)) (ceG_M209 ca D) (ceO_75 ca D) rfl (by omega) rfl rfl (Nat.le_of_ble_eq_true rfl) ⟨by decide +kernel, rfl⟩ (fun r18 u19 => ?_)
        refine z_aload_n (pc' := 71) (k := 0) (i := 0) 0 rfl rfl ⟨by decide +kernel, rfl⟩ ?_
        refine z_getR (pc' := 74) (cef_M48_34 ca D) rfl (y := a 75) rfl ⟨by decide +kernel, rfl⟩ ?_
        refine z_aload_n (pc' := 75) (k := 0) (i := 0) 0 rfl rfl ⟨by decide +kernel, rfl⟩ ?_
        refine z_getI (pc' := 78) (cef_M72_34 ca D) rfl ⟨by decide +kernel, rfl⟩ ?_
        refine z_iconst (pc' := 79) (n := 1) (v := 1) (by decide) ⟨by decide +kernel, rfl⟩ ?_
        refine z_iadd (pc' := 80) ⟨by decide +kernel, rfl⟩ ?_
        refine z_callVf (pc' := 83) 75 (cet_V_numberAt n 75 rfl u19 ((zI u19 34 8) + 1)) (ceG_M209 ca D) (ceO_75 ca D) rfl (by omega) rfl rfl (Nat.le_of_ble_eq_true rfl) ⟨by decide +kernel, rfl⟩ (fun r20 u21 => ?_)
        refine z_callSf (pc' := 86) (cet_M_resultOf n u21 x1 r18 r20) (ceG_M227 ca D) (by omega) rfl rfl (Nat.le_of_ble_eq_true rfl) ⟨by decide +kernel, rfl⟩ (fun r22 u23 => ?_)
        refine z_lstore (pc' := 88) (i := 4) (by decide) rfl ⟨by decide +kernel, rfl⟩ ?_
        refine z_lload (pc' := 90) (i := 4) 0 rfl ⟨by decide +kernel, rfl⟩ ?_
        refine z_callSf (pc' := 93) (cet_M_sortOf n u23 r22) (ceG_M197 ca D) (by omega) rfl rfl (Nat.le_of_ble_eq_true rfl) ⟨by decide +kernel, rfl⟩ (fun r24 u25 => ?_)
        refine z_istore (pc' := 95) (i := 6) (by decide) rfl ⟨by decide +kernel, rfl⟩ ?_
        refine z_aload_n (pc' := 96) (k := 0) (i := 0) 2 rfl rfl ⟨by decide +kernel, rfl⟩ ?_
        refine z_iload (pc' := 98) (i := 6) 0 rfl ⟨by decide +kernel, rfl⟩ ?_
        refine z_lload (pc' := 100) (i := 4) 1 rfl ⟨by decide +kernel, rfl⟩ ?_
        refine z_callV (pc' := 103) 34 (cet_M_push n u25 r24 r22) (ceG_M133 ca D) (ceO_34 ca D) rfl (fun h => by cases h) (by omega) rfl rfl (Nat.le_of_ble_eq_true rfl) ⟨by decide +kernel, rfl⟩ (fun _ u28 g26 _ => ?_)
        refine z_aload_n (pc' := 104) (k := 0) (i := 0) 2 rfl rfl ⟨by decide +kernel, rfl⟩ ?_
        refine z_getR (pc' := 107) (cef_M28_34 ca D) rfl (y := a 49) rfl ⟨by decide +kernel, rfl⟩ ?_
        refine z_iload_n (pc' := 108) (k := 2) (i := 2) 4 rfl rfl ⟨by decide +kernel, rfl⟩ ?_
        refine z_iload (pc' := 110) (i := 6) 0 rfl ⟨by decide +kernel, rfl⟩ ?_
        refine z_callVf (pc' := 113) 49 (cet_T_meetSum n u28 x2 r24) (ceG_M231 ca D) (ceO_49 ca D) rfl (by omega) rfl rfl (Nat.le_of_ble_eq_true rfl) ⟨by decide +kernel, rfl⟩ (fun _ u30 => ?_)
        refine z_iload (pc' := 115) (i := 6) 0 rfl ⟨by decide +kernel, rfl⟩ ?_
        refine z_iconst (pc' := 116) (n := 2) (v := 2) (by decide) ⟨by decide +kernel, rfl⟩ ?_
        refine z_icmp_ne (pc' := 119) (tgt := 135) (off := 19) ⟨by decide +kernel, rfl⟩ rfl (fun h31 => ?_) (fun h31 => ?_)
        · refine z_aload_n (pc' := 120) (k := 0) (i := 0) 2 rfl rfl ⟨by decide +kernel, rfl⟩ ?_
          refine z_getR (pc' := 123) (cef_M28_34 ca D) rfl (y := a 49) rfl ⟨by decide +kernel, rfl⟩ ?_
          refine z_iload_n (pc' := 124) (k := 2) (i := 2) 4 rfl rfl ⟨by decide +kernel, rfl⟩ ?_
          refine z_callVf (pc' := 127) 49 (cet_T_hasGuess n u30 x2) (ceG_M234 ca D) (ceO_49 ca D) rfl (by omega) rfl rfl (Nat.le_of_ble_eq_true rfl) ⟨by decide +kernel, rfl⟩ (fun r32 u33 => ?_)
          refine z_if_eq (pc' := 130) (tgt := 135) (off := 8) ⟨by decide +kernel, rfl⟩ rfl (fun h34 => ?_) (fun h34 => ?_)
          · exact z_vret (pc' := 136) ⟨by decide +kernel, rfl⟩
          · refine z_aload_n (pc' := 131) (k := 0) (i := 0) 2 rfl rfl ⟨by decide +kernel, rfl⟩ ?_
            refine z_iload_n (pc' := 132) (k := 2) (i := 2) 4 rfl rfl ⟨by decide +kernel, rfl⟩ ?_
            refine z_callVf (pc' := 135) 34 (cet_M_leaveMade n u33 x2) (ceG_M237 ca D) (ceO_34 ca D) rfl (by omega) rfl rfl (Nat.le_of_ble_eq_true rfl) ⟨by decide +kernel, rfl⟩ (fun _ u36 => ?_)
            exact z_vret (pc' := 136) ⟨by decide +kernel, rfl⟩
        · exact z_vret (pc' := 136) ⟨by decide +kernel, rfl⟩
set_option maxRecDepth 20000 in
set_option maxHeartbeats 4000000 in
theorem cet_M_compare {l : Launch} {ca : Nat → ClassId} {D : va_G} {a g : Nat → Nat} (n : Nat) (u : zMu) (x1 : Int32) : zMet l (zCe ca D) ceY_M_compare (.code ceY_M_compare prog_6_method_16_code 2 none) zrv false 5 a g [.ref (a 34), .int x1] u (ce_M_compare n u x1) := by
  refine zMet.of rfl (Nat.le_of_ble_eq_true rfl) fun κ A hl => ?_
  subst hl
  unfold ce_M_compare
  refine z_aload_n (pc' := 1) (k := 0) (i := 0) 0 rfl rfl ⟨by decide +kernel, rfl⟩ ?_
  refine z_dup (pc' := 2) rfl ⟨by decide +kernel, rfl⟩ ?_
  refine z_getI (pc' := 5) (cef_M72_34 ca D) rfl ⟨by decide +kernel, rfl⟩ ?_
  refine z_iconst (pc' := 6) (n := 2) (v := 2) (by decide) ⟨by decide +kernel, rfl⟩ ?_
  refine z_isub (pc' := 7) ⟨by decide +kernel, rfl⟩ ?_
  refine z_putI (pc' := 10) (cef_M72_34 ca D) rfl ⟨by decide +kernel, rfl⟩ (z_letU fun u1 => ?_)
  refine z_aload_n (pc' := 11) (k := 0) (i := 0) 0 rfl rfl ⟨by decide +kernel, rfl⟩ ?_
  refine z_getR (pc' := 14) (cef_M48_34 ca D) rfl (y := a 75) rfl ⟨by decide +kernel, rfl⟩ ?_
  refine z_aload_n (pc' := 15) (k := 0) (i := 0) 0 rfl rfl ⟨by decide +kernel, rfl⟩ ?_
  refine z_getI (pc' := 18) (cef_M72_34 ca D) rfl ⟨by decide +kernel, rfl⟩ ?_
  refine z_callVf (pc' := 21) 75 (cet_V_isNumberAt n 75 rfl u1 (zI u1 34 8)) (ceG_M213 ca D) (ceO_75 ca D) rfl (by omega) rfl rfl (Nat.le_of_ble_eq_true rfl) ⟨by decide +kernel, rfl⟩ (fun r2 u3 => ?_)
  refine z_if_eq (pc' := 24) (tgt := 40) (off := 19) ⟨by decide +kernel, rfl⟩ rfl (fun h4 => ?_) (fun h4 => ?_)
  · refine z_aload_n (pc' := 41) (k := 0) (i := 0) 0 rfl rfl ⟨by decide +kernel, rfl⟩ ?_
    refine z_iconst (pc' := 42) (n := 1) (v := 1) (by decide) ⟨by decide +kernel, rfl⟩ ?_
    refine z_iload_n (pc' := 43) (k := 1) (i := 1) 1 rfl rfl ⟨by decide +kernel, rfl⟩ ?_
    refine z_callVf (pc' := 46) 34 (cet_M_fail n u3 1 x1) (ceG_M221 ca D) (ceO_34 ca D) rfl (by omega) rfl rfl (Nat.le_of_ble_eq_true rfl) ⟨by decide +kernel, rfl⟩ (fun _ u6 => ?_)
    refine z_goto (tgt := 87) (off := 41) (by decide +kernel) rfl ?_
    exact z_vret (pc' := 88) ⟨by decide +kernel, rfl⟩
  · refine z_aload_n (pc' := 25) (k := 0) (i := 0) 0 rfl rfl ⟨by decide +kernel, rfl⟩ ?_
    refine z_getR (pc' := 28) (cef_M48_34 ca D) rfl (y := a 75) rfl ⟨by decide +kernel, rfl⟩ ?_
    refine z_aload_n (pc' := 29) (k := 0) (i := 0) 0 rfl rfl ⟨by decide +kernel, rfl⟩ ?_
    refine z_getI (pc' := 32) (cef_M72_34 ca D) rfl ⟨by decide +kernel, rfl⟩ ?_
    refine z_iconst (pc' := 33) (n := 1) (v := 1) (by decide) ⟨by decide +kernel, rfl⟩ ?_
    refine z_iadd (pc' := 34) ⟨by decide +kernel, rfl⟩ ?_
    refine z_callVf (pc' := 37) 75 (cet_V_isNumberAt n 75 rfl u3 ((zI u3 34 8) + 1)) (ceG_M213 ca D) (ceO_75 ca D) rfl (by omega) rfl rfl (Nat.le_of_ble_eq_true rfl) ⟨by decide +kernel, rfl⟩ (fun r7 u8 => ?_)
    refine z_if_ne (pc' := 40) (tgt := 49) (off := 12) ⟨by decide +kernel, rfl⟩ rfl (fun h9 => ?_) (fun h9 => ?_)
    · refine z_aload_n (pc' := 41) (k := 0) (i := 0) 0 rfl rfl ⟨by decide +kernel, rfl⟩ ?_
      refine z_iconst (pc' := 42) (n := 1) (v := 1) (by decide) ⟨by decide +kernel, rfl⟩ ?_
      refine z_iload_n (pc' := 43) (k := 1) (i := 1) 1 rfl rfl ⟨by decide +kernel, rfl⟩ ?_
      refine z_callVf (pc' := 46) 34 (cet_M_fail n u8 1 x1) (ceG_M221 ca D) (ceO_34 ca D) rfl (by omega) rfl rfl (Nat.le_of_ble_eq_true rfl) ⟨by decide +kernel, rfl⟩ (fun _ u11 => ?_)
      refine z_goto (tgt := 87) (off := 41) (by decide +kernel) rfl ?_
      exact z_vret (pc' := 88) ⟨by decide +kernel, rfl⟩
    · refine z_aload_n (pc' := 50) (k := 0) (i := 0) 0 rfl rfl ⟨by decide +kernel, rfl⟩ ?_
      refine z_iconst (pc' := 51) (n := 1) (v := 1) (by decide) ⟨by decide +kernel, rfl⟩ ?_
      refine z_aload_n (pc' := 52) (k := 0) (i := 0) 0 rfl rfl ⟨by decide +kernel, rfl⟩ ?_
      refine z_getR (pc' := 55) (cef_M48_34 ca D) rfl (y := a 75) rfl ⟨by decide +kernel, rfl⟩ ?_
      refine z_aload_n (pc' := 56) (k := 0) (i := 0) 0 rfl rfl ⟨by decide +kernel, rfl⟩ ?_
      refine z_getI (pc' := 59) (cef_M72_34 ca D) rfl ⟨by decide +kernel, rfl⟩ ?_
      refine z_callVf (pc' := 62) 75 (cet_V_numberAt n 75 rfl u8 (zI u8 34 8)) (ceG_M209 ca D) (ceO_75 ca D) rfl (by omega) rfl rfl (Nat.le_of_ble_eq_true rfl) ⟨by decide +kernel, rfl⟩ (fun r12 u13 => ?_)
      refine z_aload_n (pc' := 63) (k := 0) (i := 0) 0 rfl rfl ⟨by decide +kernel, rfl⟩ ?_
      refine z_getR (pc' := 66) (cef_M48_34 ca D) rfl (y := a 75) rfl ⟨by decide +kernel, rfl⟩ ?_
      refine z_aload_n (pc' := 67) (k := 0) (i := 0) 0 rfl rfl ⟨by decide +kernel, rfl⟩ ?_
      refine z_getI (pc' := 70) (cef_M72_34 ca D) rfl ⟨by decide +kernel, rfl⟩ ?_
      refine z_iconst (pc' := 71) (n := 1) (v := 1) (by decide) ⟨by decide +kernel, rfl⟩ ?_
      refine z_iadd (pc' := 72) ⟨by decide +kernel, rfl⟩ ?_
      refine z_callVf (pc' := 75) 75 (cet_V_numberAt n 75 rfl u13 ((zI u13 34 8) + 1)) (ceG_M209 ca D) (ceO_75 ca D) rfl (by omega) rfl rfl (Nat.le_of_ble_eq_true rfl) ⟨by decide +kernel, rfl⟩ (fun r14 u15 => ?_)
      refine z_lcmp (pc' := 76) ⟨by decide +kernel, rfl⟩ ?_
      refine z_if_ge (pc' := 79) (tgt := 83) (off := 7) ⟨by decide +kernel, rfl⟩ rfl (fun h16 => ?_) (fun h16 => ?_)
      · refine z_lconst (pc' := 80) (n := 1) (v := 1) (by decide) ⟨by decide +kernel, rfl⟩ ?_
        refine z_goto (tgt := 84) (off := 4) (by decide +kernel) rfl ?_
        refine z_callV (pc' := 87) 34 (cet_M_push n u15 1 1) (ceG_M133 ca D) (ceO_34 ca D) rfl (fun h => by cases h) (by omega) rfl rfl (Nat.le_of_ble_eq_true rfl) ⟨by decide +kernel, rfl⟩ (fun _ u19 g17 _ => ?_)
        exact z_vret (pc' := 88) ⟨by decide +kernel, rfl⟩
      · refine z_lconst (pc' := 84) (n := 0) (v := 0) (by decide) ⟨by decide +kernel, rfl⟩ ?_
        refine z_callV (pc' := 87) 34 (cet_M_push n u15 1 0) (ceG_M133 ca D) (ceO_34 ca D) rfl (fun h => by cases h) (by omega) rfl rfl (Nat.le_of_ble_eq_true rfl) ⟨by decide +kernel, rfl⟩ (fun _ u22 g20 _ => ?_)
        exact z_vret (pc' := 88) ⟨by decide +kernel, rfl⟩
set_option maxRecDepth 20000 in
set_option maxHeartbeats 4000000 in
theorem ce_M_equate_J70_t {κ : zKx} {ca : Nat → ClassId} {D : va_G} {A : Nat → Prop} {c0 : Nat × Nat} {a g0 : Nat → Nat} (n : Nat) (g : Nat → Nat) (u : zMu) (s0 : Int32) : zJ κ (zCe ca D) prog_6_method_17_code 2 ce_RM none zrv false 5 A c0 a g0 g u 70 [(0, .ref (a 34))] [.int s0] (ce_M_equate_J70 n u s0) := by
  unfold ce_M_equate_J70
  refine z_istore_n (pc' := 71) (k := 1) (i := 1) rfl (by decide) rfl ⟨by decide +kernel, rfl⟩ ?_
  refine z_aload_n (pc' := 72) (k := 0) (i := 0) 1 rfl rfl ⟨by decide +kernel, rfl⟩ ?_
  refine z_iconst (pc' := 73) (n := 1) (v := 1) (by decide) ⟨by decide +kernel, rfl⟩ ?_
  refine z_iload_n (pc' := 74) (k := 1) (i := 1) 0 rfl rfl ⟨by decide +kernel, rfl⟩ ?_
  refine z_if_eq (pc' := 77) (tgt := 81) (off := 7) ⟨by decide +kernel, rfl⟩ rfl (fun h1 => ?_) (fun h1 => ?_)
  · refine z_lconst (pc' := 82) (n := 0) (v := 0) (by decide) ⟨by decide +kernel, rfl⟩ ?_
    refine z_callV (pc' := 85) 34 (cet_M_push n u 1 0) (ceG_M133 ca D) (ceO_34 ca D) rfl (fun h => by cases h) (by omega) rfl rfl (Nat.le_of_ble_eq_true rfl) ⟨by decide +kernel, rfl⟩ (fun _ u4 g2 _ => ?_)
    exact z_vret (pc' := 86) ⟨by decide +kernel, rfl⟩
  · refine z_lconst (pc' := 78) (n := 1) (v := 1) (by decide) ⟨by decide +kernel, rfl⟩ ?_
    refine z_goto (tgt := 82) (off := 4) (by decide +kernel) rfl ?_
    refine z_callV (pc' := 85) 34 (cet_M_push n u 1 1) (ceG_M133 ca D) (ceO_34 ca D) rfl (fun h => by cases h) (by omega) rfl rfl (Nat.le_of_ble_eq_true rfl) ⟨by decide +kernel, rfl⟩ (fun _ u7 g5 _ => ?_)
    exact z_vret (pc' := 86) ⟨by decide +kernel, rfl⟩
set_option maxRecDepth 20000 in
set_option maxHeartbeats 4000000 in
theorem ce_M_equate_J69_t {κ : zKx} {ca : Nat → ClassId} {D : va_G} {A : Nat → Prop} {c0 : Nat × Nat} {a g0 : Nat → Nat} (n : Nat) (g : Nat → Nat) (u : zMu) : zJ κ (zCe ca D) prog_6_method_17_code 2 ce_RM none zrv false 5 A c0 a g0 g u 69 [(0, .ref (a 34))] [] (ce_M_equate_J69 n u) := by
  unfold ce_M_equate_J69
  refine z_iconst (pc' := 70) (n := 0) (v := 0) (by decide) ⟨by decide +kernel, rfl⟩ ?_
  exact ce_M_equate_J70_t n g u 0
set_option maxRecDepth 20000 in
set_option maxHeartbeats 4000000 in
theorem cet_M_equate {l : Launch} {ca : Nat → ClassId} {D : va_G} {a g : Nat → Nat} (n : Nat) (u : zMu) : zMet l (zCe ca D) ceY_M_equate (.code ceY_M_equate prog_6_method_17_code 2 none) zrv false 5 a g [.ref (a 34)] u (ce_M_equate n u) := by
  refine zMet.of rfl (Nat.le_of_ble_eq_true rfl) fun κ A hl => ?_
  subst hl
  unfold ce_M_equate
  refine z_aload_n (pc' := 1) (k := 0) (i := 0) 0 rfl rfl ⟨by decide +kernel, rfl⟩ ?_
  refine z_dup (pc' := 2) rfl ⟨by decide +kernel, rfl⟩ ?_
  refine z_getI (pc' := 5) (cef_M72_34 ca D) rfl ⟨by decide +kernel, rfl⟩ ?_
  refine z_iconst (pc' := 6) (n := 2) (v := 2) (by decide) ⟨by decide +kernel, rfl⟩ ?_
  refine z_isub (pc' := 7) ⟨by decide +kernel, rfl⟩ ?_
  refine z_putI (pc' := 10) (cef_M72_34 ca D) rfl ⟨by decide +kernel, rfl⟩ (z_letU fun u1 => ?_)
  refine z_aload_n (pc' := 11) (k := 0) (i := 0) 0 rfl rfl ⟨by decide +kernel, rfl⟩ ?_
  refine z_getR (pc' := 14) (cef_M48_34 ca D) rfl (y := a 75) rfl ⟨by decide +kernel, rfl⟩ ?_
  refine z_aload_n (pc' := 15) (k := 0) (i := 0) 0 rfl rfl ⟨by decide +kernel, rfl⟩ ?_
  refine z_getI (pc' := 18) (cef_M72_34 ca D) rfl ⟨by decide +kernel, rfl⟩ ?_
  refine z_callVf (pc' := 21) 75 (cet_V_sortAt n 75 rfl u1 (zI u1 34 8)) (ceG_M205 ca D) (ceO_75 ca D) rfl (by omega) rfl rfl (Nat.le_of_ble_eq_true rfl) ⟨by decide +kernel, rfl⟩ (fun r2 u3 => ?_)
  refine z_aload_n (pc' := 22) (k := 0) (i := 0) 0 rfl rfl ⟨by decide +kernel, rfl⟩ ?_
  refine z_getR (pc' := 25) (cef_M48_34 ca D) rfl (y := a 75) rfl ⟨by decide +kernel, rfl⟩ ?_
  refine z_aload_n (pc' := 26) (k := 0) (i := 0) 0 rfl rfl ⟨by decide +kernel, rfl⟩ ?_
  refine z_getI (pc' := 29) (cef_M72_34 ca D) rfl ⟨by decide +kernel, rfl⟩ ?_
  refine z_iconst (pc' := 30) (n := 1) (v := 1) (by decide) ⟨by decide +kernel, rfl⟩ ?_
  refine z_iadd (pc' := 31) ⟨by decide +kernel, rfl⟩ ?_
  refine z_callVf (pc' := 34) 75 (cet_V_sortAt n 75 rfl u3 ((zI u3 34 8) + 1)) (ceG_M205 ca D) (ceO_75 ca D) rfl (by omega) rfl rfl (Nat.le_of_ble_eq_true rfl) ⟨by decide +kernel, rfl⟩ (fun r4 u5 => ?_)
  refine z_icmp_ne (pc' := 37) (tgt := 69) (off := 35) ⟨by decide +kernel, rfl⟩ rfl (fun h6 => ?_) (fun h6 => ?_)
  · refine z_aload_n (pc' := 38) (k := 0) (i := 0) 0 rfl rfl ⟨by decide +kernel, rfl⟩ ?_
    refine z_getR (pc' := 41) (cef_M48_34 ca D) rfl (y := a 75) rfl ⟨by decide +kernel, rfl⟩ ?_
    refine z_aload_n (pc' := 42) (k := 0) (i := 0) 0 rfl rfl ⟨by decide +kernel, rfl⟩ ?_
    refine z_getI (pc' := 45) (cef_M72_34 ca D) rfl ⟨by decide +kernel, rfl⟩ ?_
    refine z_callVf (pc' := 48) 75 (cet_V_numberAt n 75 rfl u5 (zI u5 34 8)) (ceG_M209 ca D) (ceO_75 ca D) rfl (by omega) rfl rfl (Nat.le_of_ble_eq_true rfl) ⟨by decide +kernel, rfl⟩ (fun r7 u8 => ?_)
    refine z_aload_n (pc' := 49) (k := 0) (i := 0) 0 rfl rfl ⟨by decide +kernel, rfl⟩ ?_
    refine z_getR (pc' := 52) (cef_M48_34 ca D) rfl (y := a 75) rfl ⟨by decide +kernel, rfl⟩ ?_
    refine z_aload_n (pc' := 53) (k := 0) (i := 0) 0 rfl rfl ⟨by decide +kernel, rfl⟩ ?_
    refine z_getI (pc' := 56) (cef_M72_34 ca D) rfl ⟨by decide +kernel, rfl⟩ ?_
    refine z_iconst (pc' := 57) (n := 1) (v := 1) (by decide) ⟨by decide +kernel, rfl⟩ ?_
    refine z_iadd (pc' := 58) ⟨by decide +kernel, rfl⟩ ?_
    refine z_callVf (pc' := 61) 75 (cet_V_numberAt n 75 rfl u8 ((zI u8 34 8) + 1)) (ceG_M209 ca D) (ceO_75 ca D) rfl (by omega) rfl rfl (Nat.le_of_ble_eq_true rfl) ⟨by decide +kernel, rfl⟩ (fun r9 u10 => ?_)
    refine z_lcmp (pc' := 62) ⟨by decide +kernel, rfl⟩ ?_
    refine z_if_ne (pc' := 65) (tgt := 69) (off := 7) ⟨by decide +kernel, rfl⟩ rfl (fun h11 => ?_) (fun h11 => ?_)
    · refine z_iconst (pc' := 66) (n := 1) (v := 1) (by decide) ⟨by decide +kernel, rfl⟩ ?_
      refine z_goto (tgt := 70) (off := 4) (by decide +kernel) rfl ?_
      exact ce_M_equate_J70_t n g u10 1
    · exact ce_M_equate_J69_t n g u10
  · exact ce_M_equate_J69_t n g u5
set_option maxRecDepth 20000 in
set_option maxHeartbeats 4000000 in
theorem ce_M_makeObject_J63_t {κ : zKx} {ca : Nat → ClassId} {D : va_G} {A : Nat → Prop} {c0 : Nat × Nat} {a g0 : Nat → Nat} (n : Nat) (g : Nat → Nat) (u : zMu) (x1 : Int32) (s1 : Int32) : zJ κ (zCe ca D) prog_6_method_18_code 4 ce_RM none zrv false 6 A c0 a g0 g u 63 [(0, .ref (a 34)), (1, .int x1)] [.int s1, .ref (a 36)] (ce_M_makeObject_J63 n u x1 s1) := by
  unfold ce_M_makeObject_J63
  refine z_callV (pc' := 66) 36 (cet_H_addObject n u s1) (ceG_M240 ca D) (ceO_36 ca D) rfl (fun h => by cases h) (by omega) rfl rfl (Nat.le_of_ble_eq_true rfl) ⟨by decide +kernel, rfl⟩ (fun r2 u3 g1 _ => ?_)
  refine z_istore_n (pc' := 67) (k := 3) (i := 3) rfl (by decide) rfl ⟨by decide +kernel, rfl⟩ ?_
  refine z_iload_n (pc' := 68) (k := 3) (i := 3) 0 rfl rfl ⟨by decide +kernel, rfl⟩ ?_
  refine z_iconst (pc' := 69) (n := (-1)) (v := (-1)) (by decide) ⟨by decide +kernel, rfl⟩ ?_
  refine z_icmp_ne (pc' := 72) (tgt := 82) (off := 13) ⟨by decide +kernel, rfl⟩ rfl (fun h4 => ?_) (fun h4 => ?_)
  · refine z_aload_n (pc' := 73) (k := 0) (i := 0) 1 rfl rfl ⟨by decide +kernel, rfl⟩ ?_
    refine z_bipush (pc' := 75) (n := 6) (v := 6) (by decide) ⟨by decide +kernel, rfl⟩ ?_
    refine z_iload_n (pc' := 76) (k := 1) (i := 1) 2 rfl rfl ⟨by decide +kernel, rfl⟩ ?_
    refine z_callVf (pc' := 79) 34 (cet_M_fail n u3 6 x1) (ceG_M221 ca D) (ceO_34 ca D) rfl (by omega) rfl rfl (Nat.le_of_ble_eq_true rfl) ⟨by decide +kernel, rfl⟩ (fun _ u6 => ?_)
    refine z_goto (tgt := 89) (off := 10) (by decide +kernel) rfl ?_
    exact z_vret (pc' := 90) ⟨by decide +kernel, rfl⟩
  · refine z_aload_n (pc' := 83) (k := 0) (i := 0) 1 rfl rfl ⟨by decide +kernel, rfl⟩ ?_
    refine z_iconst (pc' := 84) (n := 3) (v := 3) (by decide) ⟨by decide +kernel, rfl⟩ ?_
    refine z_iload_n (pc' := 85) (k := 3) (i := 3) 0 rfl rfl ⟨by decide +kernel, rfl⟩ ?_
    refine z_i2l (pc' := 86) ⟨by decide +kernel, rfl⟩ ?_
    refine z_callV (pc' := 89) 34 (cet_M_push n u3 3 (r2.toInt64)) (ceG_M133 ca D) (ceO_34 ca D) rfl (fun h => by cases h) (by omega) rfl rfl (Nat.le_of_ble_eq_true rfl) ⟨by decide +kernel, rfl⟩ (fun _ u9 g7 _ => ?_)
    exact z_vret (pc' := 90) ⟨by decide +kernel, rfl⟩
set_option maxRecDepth 20000 in
set_option maxHeartbeats 4000000 in
theorem ce_M_makeObject_J38_t {κ : zKx} {ca : Nat → ClassId} {D : va_G} {A : Nat → Prop} {c0 : Nat × Nat} {a g0 : Nat → Nat} (n : Nat) (g : Nat → Nat) (u : zMu) (x1 : Int32) (x2 : Int32) : zJ κ (zCe ca D) prog_6_method_18_code 4 ce_RM none zrv false 6 A c0 a g0 g u 38 [(0, .ref (a 34)), (1, .int x1), (2, .int x2)] [] (ce_M_makeObject_J38 n u x1 x2) := by
  unfold ce_M_makeObject_J38
  refine z_aload_n (pc' := 39) (k := 0) (i := 0) 0 rfl rfl ⟨by decide +kernel, rfl⟩ ?_
  refine z_getR (pc' := 42) (cef_M12_34 ca D) rfl (y := a 36) rfl ⟨by decide +kernel, rfl⟩ ?_
  refine z_iload_n (pc' := 43) (k := 2) (i := 2) 2 rfl rfl ⟨by decide +kernel, rfl⟩ ?_
  refine z_iconst (pc' := 44) (n := 3) (v := 3) (by decide) ⟨by decide +kernel, rfl⟩ ?_
  refine z_icmp_ne (pc' := 47) (tgt := 62) (off := 18) ⟨by decide +kernel, rfl⟩ rfl (fun h1 => ?_) (fun h1 => ?_)
  · refine z_aload_n (pc' := 48) (k := 0) (i := 0) 0 rfl rfl ⟨by decide +kernel, rfl⟩ ?_
    refine z_getR (pc' := 51) (cef_M48_34 ca D) rfl (y := a 75) rfl ⟨by decide +kernel, rfl⟩ ?_
    refine z_aload_n (pc' := 52) (k := 0) (i := 0) 0 rfl rfl ⟨by decide +kernel, rfl⟩ ?_
    refine z_getI (pc' := 55) (cef_M72_34 ca D) rfl ⟨by decide +kernel, rfl⟩ ?_
    refine z_callVf (pc' := 58) 75 (cet_V_numberAt n 75 rfl u (zI u 34 8)) (ceG_M209 ca D) (ceO_75 ca D) rfl (by omega) rfl rfl (Nat.le_of_ble_eq_true rfl) ⟨by decide +kernel, rfl⟩ (fun r2 u3 => ?_)
    refine z_l2i (pc' := 59) ⟨by decide +kernel, rfl⟩ ?_
    refine z_goto (tgt := 63) (off := 4) (by decide +kernel) rfl ?_
    refine z_lv [0, 1] (lv' := [(0, .ref (a 34)), (1, .int x1)]) rfl ?_
    exact ce_M_makeObject_J63_t n g u3 x1 (r2.toInt32)
  · refine z_iconst (pc' := 63) (n := (-1)) (v := (-1)) (by decide) ⟨by decide +kernel, rfl⟩ ?_
    refine z_lv [0, 1] (lv' := [(0, .ref (a 34)), (1, .int x1)]) rfl ?_
    exact ce_M_makeObject_J63_t n g u x1 (-1)
set_option maxRecDepth 20000 in
set_option maxHeartbeats 4000000 in
theorem cet_M_makeObject {l : Launch} {ca : Nat → ClassId} {D : va_G} {a g : Nat → Nat} (n : Nat) (u : zMu) (x1 : Int32) : zMet l (zCe ca D) ceY_M_makeObject (.code ceY_M_makeObject prog_6_method_18_code 4 none) zrv false 6 a g [.ref (a 34), .int x1] u (ce_M_makeObject n u x1) := by
  refine zMet.of rfl (Nat.le_of_ble_eq_true rfl) fun κ A hl => ?_
  subst hl
  unfold ce_M_makeObject
  refine z_aload_n (pc' := 1) (k := 0) (i := 0) 0 rfl rfl ⟨by decide +kernel, rfl⟩ ?_
  refine z_dup (pc' := 2) rfl ⟨by decide +kernel, rfl⟩ ?_
  refine z_getI (pc' := 5) (cef_M72_34 ca D) rfl ⟨by decide +kernel, rfl⟩ ?_
  refine z_iconst (pc' := 6) (n := 1) (v := 1) (by decide) ⟨by decide +kernel, rfl⟩ ?_
  refine z_isub (pc' := 7) ⟨by decide +kernel, rfl⟩ ?_
  refine z_putI (pc' := 10) (cef_M72_34 ca D) rfl ⟨by decide +kernel, rfl⟩ (z_letU fun u1 => ?_)
  refine z_aload_n (pc' := 11) (k := 0) (i := 0) 0 rfl rfl ⟨by decide +kernel, rfl⟩ ?_
  refine z_getR (pc' := 14) (cef_M48_34 ca D) rfl (y := a 75) rfl ⟨by decide +kernel, rfl⟩ ?_
  refine z_aload_n (pc' := 15) (k := 0) (i := 0) 0 rfl rfl ⟨by decide +kernel, rfl⟩ ?_
  refine z_getI (pc' := 18) (cef_M72_34 ca D) rfl ⟨by decide +kernel, rfl⟩ ?_
  refine z_callVf (pc' := 21) 75 (cet_V_sortAt n 75 rfl u1 (zI u1 34 8)) (ceG_M205 ca D) (ceO_75 ca D) rfl (by omega) rfl rfl (Nat.le_of_ble_eq_true rfl) ⟨by decide +kernel, rfl⟩ (fun r2 u3 => ?_)
  refine z_istore_n (pc' := 22) (k := 2) (i := 2) rfl (by decide) rfl ⟨by decide +kernel, rfl⟩ ?_
  refine z_iload_n (pc' := 23) (k := 2) (i := 2) 0 rfl rfl ⟨by decide +kernel, rfl⟩ ?_
  refine z_iconst (pc' := 24) (n := 3) (v := 3) (by decide) ⟨by decide +kernel, rfl⟩ ?_
  refine z_icmp_eq (pc' := 27) (tgt := 38) (off := 14) ⟨by decide +kernel, rfl⟩ rfl (fun h4 => ?_) (fun h4 => ?_)
  · refine z_lv [1, 2, 0] (lv' := [(0, .ref (a 34)), (1, .int x1), (2, .int r2)]) rfl ?_
    exact ce_M_makeObject_J38_t n g u3 x1 r2
  · refine z_iload_n (pc' := 28) (k := 2) (i := 2) 0 rfl rfl ⟨by decide +kernel, rfl⟩ ?_
    refine z_if_eq (pc' := 31) (tgt := 38) (off := 10) ⟨by decide +kernel, rfl⟩ rfl (fun h5 => ?_) (fun h5 => ?_)
    · refine z_lv [1, 2, 0] (lv' := [(0, .ref (a 34)), (1, .int x1), (2, .int r2)]) rfl ?_
      exact ce_M_makeObject_J38_t n g u3 x1 r2
    · refine z_aload_n (pc' := 32) (k := 0) (i := 0) 1 rfl rfl ⟨by decide +kernel, rfl⟩ ?_
      refine z_iconst (pc' := 33) (n := 2) (v := 2) (by decide) ⟨by decide +kernel, rfl⟩ ?_
      refine z_iload_n (pc' := 34) (k := 1) (i := 1) 2 rfl rfl ⟨by decide +kernel, rfl⟩ ?_
      refine z_callVf (pc' := 37) 34 (cet_M_fail n u3 2 x1) (ceG_M221 ca D) (ceO_34 ca D) rfl (by omega) rfl rfl (Nat.le_of_ble_eq_true rfl) ⟨by decide +kernel, rfl⟩ (fun _ u7 => ?_)
      exact z_vret (pc' := 38) ⟨by decide +kernel, rfl⟩
set_option maxRecDepth 20000 in
set_option maxHeartbeats 4000000 in
theorem ce_M_objectAt_J25_t {κ : zKx} {ca : Nat → ClassId} {D : va_G} {A : Nat → Prop} {c0 : Nat × Nat} {a g0 g : Nat → Nat} (n : Nat) (u : zMu) (x2 : Int32) (s0 : Int32) : zJ κ (zCe ca D) prog_6_method_19_code 4 ce_RM (some .int) zri true 1 A c0 a g0 g u 25 [(0, .ref (a 34)), (2, .int x2)] [.int s0] (ce_M_objectAt_J25 n u x2 s0) := by
  unfold ce_M_objectAt_J25
  refine z_istore_n (pc' := 26) (k := 3) (i := 3) rfl (by decide) rfl ⟨by decide +kernel, rfl⟩ ?_
  refine z_aload_n (pc' := 27) (k := 0) (i := 0) 1 rfl rfl ⟨by decide +kernel, rfl⟩ ?_
  refine z_getR (pc' := 30) (cef_M12_34 ca D) rfl (y := a 36) rfl ⟨by decide +kernel, rfl⟩ ?_
  refine z_iload_n (pc' := 31) (k := 3) (i := 3) 0 rfl rfl ⟨by decide +kernel, rfl⟩ ?_
  refine z_callVf (pc' := 34) 36 (cet_H_isObject n u s0) (ceG_M243 ca D) (ceO_36 ca D) rfl (by omega) rfl rfl (Nat.le_of_ble_eq_true rfl) ⟨by decide +kernel, rfl⟩ (fun r1 u2 => ?_)
  refine z_if_eq (pc' := 37) (tgt := 39) (off := 5) ⟨by decide +kernel, rfl⟩ rfl (fun h3 => ?_) (fun h3 => ?_)
  · refine z_aload_n (pc' := 40) (k := 0) (i := 0) 1 rfl rfl ⟨by decide +kernel, rfl⟩ ?_
    refine z_iconst (pc' := 41) (n := 2) (v := 2) (by decide) ⟨by decide +kernel, rfl⟩ ?_
    refine z_iload_n (pc' := 42) (k := 2) (i := 2) 2 rfl rfl ⟨by decide +kernel, rfl⟩ ?_
    refine z_callVf (pc' := 45) 34 (cet_M_fail n u2 2 x2) (ceG_M221 ca D) (ceO_34 ca D) rfl (by omega) rfl rfl (Nat.le_of_ble_eq_true rfl) ⟨by decide +kernel, rfl⟩ (fun _ u5 => ?_)
    refine z_iconst (pc' := 46) (n := (-1)) (v := (-1)) (by decide) ⟨by decide +kernel, rfl⟩ ?_
    exact z_iret (pc' := 47) ⟨by decide +kernel, rfl⟩
  · refine z_iload_n (pc' := 38) (k := 3) (i := 3) 0 rfl rfl ⟨by decide +kernel, rfl⟩ ?_
    exact z_iret (pc' := 39) ⟨by decide +kernel, rfl⟩
set_option maxRecDepth 20000 in
set_option maxHeartbeats 4000000 in
theorem cet_M_objectAt {l : Launch} {ca : Nat → ClassId} {D : va_G} {a g : Nat → Nat} (n : Nat) (u : zMu) (x1 : Int32) (x2 : Int32) : zMet l (zCe ca D) ceY_M_objectAt (.code ceY_M_objectAt prog_6_method_19_code 4 (some .int)) zri true 1 a g [.ref (a 34), .int x1, .int x2] u (ce_M_objectAt n u x1 x2) := by
  refine zMet.of rfl (Nat.le_of_ble_eq_true rfl) fun κ A hl => ?_
  subst hl
  unfold ce_M_objectAt
  refine z_aload_n (pc' := 1) (k := 0) (i := 0) 0 rfl rfl ⟨by decide +kernel, rfl⟩ ?_
  refine z_getR (pc' := 4) (cef_M48_34 ca D) rfl (y := a 75) rfl ⟨by decide +kernel, rfl⟩ ?_
  refine z_iload_n (pc' := 5) (k := 1) (i := 1) 1 rfl rfl ⟨by decide +kernel, rfl⟩ ?_
  refine z_callVf (pc' := 8) 75 (cet_V_sortAt n 75 rfl u x1) (ceG_M205 ca D) (ceO_75 ca D) rfl (by omega) rfl rfl (Nat.le_of_ble_eq_true rfl) ⟨by decide +kernel, rfl⟩ (fun r1 u2 => ?_)
  refine z_iconst (pc' := 9) (n := 3) (v := 3) (by decide) ⟨by decide +kernel, rfl⟩ ?_
  refine z_icmp_ne (pc' := 12) (tgt := 24) (off := 15) ⟨by decide +kernel, rfl⟩ rfl (fun h3 => ?_) (fun h3 => ?_)
  · refine z_aload_n (pc' := 13) (k := 0) (i := 0) 0 rfl rfl ⟨by decide +kernel, rfl⟩ ?_
    refine z_getR (pc' := 16) (cef_M48_34 ca D) rfl (y := a 75) rfl ⟨by decide +kernel, rfl⟩ ?_
    refine z_iload_n (pc' := 17) (k := 1) (i := 1) 1 rfl rfl ⟨by decide +kernel, rfl⟩ ?_
    refine z_callVf (pc' := 20) 75 (cet_V_numberAt n 75 rfl u2 x1) (ceG_M209 ca D) (ceO_75 ca D) rfl (by omega) rfl rfl (Nat.le_of_ble_eq_true rfl) ⟨by decide +kernel, rfl⟩ (fun r4 u5 => ?_)
    refine z_l2i (pc' := 21) ⟨by decide +kernel, rfl⟩ ?_
    refine z_goto (tgt := 25) (off := 4) (by decide +kernel) rfl ?_
    refine z_lv [0, 2] (lv' := [(0, .ref (a 34)), (2, .int x2)]) rfl ?_
    exact ce_M_objectAt_J25_t n u5 x2 (r4.toInt32)
  · refine z_iconst (pc' := 25) (n := (-1)) (v := (-1)) (by decide) ⟨by decide +kernel, rfl⟩ ?_
    refine z_lv [0, 2] (lv' := [(0, .ref (a 34)), (2, .int x2)]) rfl ?_
    exact ce_M_objectAt_J25_t n u2 x2 (-1)
set_option maxRecDepth 20000 in
set_option maxHeartbeats 4000000 in
theorem cet_T_enter {l : Launch} {ca : Nat → ClassId} {D : va_G} {a g : Nat → Nat} (n : Nat) (u : zMu) (x1 : Int32) (x2 : Int32) (x3 : Int32) : zMet l (zCe ca D) ceY_T_enter (.code ceY_T_enter prog_10_method_8_code 5 none) zrv true 0 a g [.ref (a 49), .int x1, .int x2, .int x3] u (ce_T_enter n u x1 x2 x3) := by
  refine zMet.of rfl (Nat.le_of_ble_eq_true rfl) fun κ A hl => ?_
  subst hl
  unfold ce_T_enter
  refine z_aload_n (pc' := 1) (k := 0) (i := 0) 0 rfl rfl ⟨by decide +kernel, rfl⟩ ?_
  refine z_getR (pc' := 4) (cef_T18_49 ca D) rfl (y := a 52) rfl ⟨by decide +kernel, rfl⟩ ?_
  refine z_iload_n (pc' := 5) (k := 1) (i := 1) 1 rfl rfl ⟨by decide +kernel, rfl⟩ ?_
  refine z_iald (pc' := 6) 52 rfl (zlt rfl) rfl rfl ⟨by decide +kernel, rfl⟩ ?_
  refine z_iconst (pc' := 7) (n := 4) (v := 4) (by decide) ⟨by decide +kernel, rfl⟩ ?_
  refine z_icmp_lt (pc' := 10) (tgt := 25) (off := 18) ⟨by decide +kernel, rfl⟩ rfl (fun h1 => ?_) (fun h1 => ?_)
  · refine z_iload_n (pc' := 26) (k := 1) (i := 1) 1 rfl rfl ⟨by decide +kernel, rfl⟩ ?_
    refine z_iconst (pc' := 27) (n := 4) (v := 4) (by decide) ⟨by decide +kernel, rfl⟩ ?_
    refine z_imul (pc' := 28) ⟨by decide +kernel, rfl⟩ ?_
    refine z_aload_n (pc' := 29) (k := 0) (i := 0) 0 rfl rfl ⟨by decide +kernel, rfl⟩ ?_
    refine z_getR (pc' := 32) (cef_T18_49 ca D) rfl (y := a 52) rfl ⟨by decide +kernel, rfl⟩ ?_
    refine z_iload_n (pc' := 33) (k := 1) (i := 1) 1 rfl rfl ⟨by decide +kernel, rfl⟩ ?_
    refine z_iald (pc' := 34) 52 rfl (zlt rfl) rfl rfl ⟨by decide +kernel, rfl⟩ ?_
    refine z_iadd (pc' := 35) ⟨by decide +kernel, rfl⟩ ?_
    refine z_letI fun v2 => ?_
    refine z_istore (pc' := 37) (i := 4) (by decide) rfl ⟨by decide +kernel, rfl⟩ ?_
    refine z_aload_n (pc' := 38) (k := 0) (i := 0) 1 rfl rfl ⟨by decide +kernel, rfl⟩ ?_
    refine z_getR (pc' := 41) (cef_T27_49 ca D) rfl (y := a 55) rfl ⟨by decide +kernel, rfl⟩ ?_
    refine z_iload (pc' := 43) (i := 4) 0 rfl ⟨by decide +kernel, rfl⟩ ?_
    refine z_iload_n (pc' := 44) (k := 2) (i := 2) 3 rfl rfl ⟨by decide +kernel, rfl⟩ ?_
    refine z_iast (pc' := 45) 55 rfl (zlt rfl) rfl rfl ⟨by decide +kernel, rfl⟩ (z_letU fun u3 => ?_)
    refine z_aload_n (pc' := 46) (k := 0) (i := 0) 1 rfl rfl ⟨by decide +kernel, rfl⟩ ?_
    refine z_getR (pc' := 49) (cef_T30_49 ca D) rfl (y := a 56) rfl ⟨by decide +kernel, rfl⟩ ?_
    refine z_iload (pc' := 51) (i := 4) 0 rfl ⟨by decide +kernel, rfl⟩ ?_
    refine z_iload_n (pc' := 52) (k := 3) (i := 3) 4 rfl rfl ⟨by decide +kernel, rfl⟩ ?_
    refine z_iast (pc' := 53) 56 rfl (zlt rfl) rfl rfl ⟨by decide +kernel, rfl⟩ (z_letU fun u4 => ?_)
    refine z_aload_n (pc' := 54) (k := 0) (i := 0) 1 rfl rfl ⟨by decide +kernel, rfl⟩ ?_
    refine z_getR (pc' := 57) (cef_T18_49 ca D) rfl (y := a 52) rfl ⟨by decide +kernel, rfl⟩ ?_
    refine z_iload_n (pc' := 58) (k := 1) (i := 1) 2 rfl rfl ⟨by decide +kernel, rfl⟩ ?_
    refine z_dup2_11 (pc' := 59) rfl rfl ⟨by decide +kernel, rfl⟩ ?_
    refine z_iald (pc' := 60) 52 rfl (zlt rfl) rfl rfl ⟨by decide +kernel, rfl⟩ ?_
    refine z_iconst (pc' := 61) (n := 1) (v := 1) (by decide) ⟨by decide +kernel, rfl⟩ ?_
    refine z_iadd (pc' := 62) ⟨by decide +kernel, rfl⟩ ?_
    refine z_iast (pc' := 63) 52 rfl (zlt rfl) rfl rfl ⟨by decide +kernel, rfl⟩ (z_letU fun u5 => ?_)
    exact z_vret (pc' := 64) ⟨by decide +kernel, rfl⟩
  · refine z_aload_n (pc' := 11) (k := 0) (i := 0) 0 rfl rfl ⟨by decide +kernel, rfl⟩ ?_
    refine z_getR (pc' := 14) (cef_T21_49 ca D) rfl (y := a 53) rfl ⟨by decide +kernel, rfl⟩ ?_
    refine z_iload_n (pc' := 15) (k := 1) (i := 1) 1 rfl rfl ⟨by decide +kernel, rfl⟩ ?_
    refine z_iconst (pc' := 16) (n := 1) (v := 1) (by decide) ⟨by decide +kernel, rfl⟩ ?_
    refine z_iast (pc' := 17) 53 rfl (zlt rfl) rfl rfl ⟨by decide +kernel, rfl⟩ (z_letU fun u6 => ?_)
    refine z_aload_n (pc' := 18) (k := 0) (i := 0) 0 rfl rfl ⟨by decide +kernel, rfl⟩ ?_
    refine z_getR (pc' := 21) (cef_T18_49 ca D) rfl (y := a 52) rfl ⟨by decide +kernel, rfl⟩ ?_
    refine z_iload_n (pc' := 22) (k := 1) (i := 1) 1 rfl rfl ⟨by decide +kernel, rfl⟩ ?_
    refine z_iconst (pc' := 23) (n := 0) (v := 0) (by decide) ⟨by decide +kernel, rfl⟩ ?_
    refine z_iast (pc' := 24) 52 rfl (zlt rfl) rfl rfl ⟨by decide +kernel, rfl⟩ (z_letU fun u7 => ?_)
    exact z_vret (pc' := 25) ⟨by decide +kernel, rfl⟩
set_option maxRecDepth 20000 in
set_option maxHeartbeats 4000000 in
theorem ce_T_meets_L20_t {κ : zKx} {ca : Nat → ClassId} {D : va_G} {A : Nat → Prop} {c0 : Nat × Nat} {a g0 g : Nat → Nat} (n : Nat) : ∀ (m : Nat) (u : zMu) (x1 : Int32) (x2 : Int32) (x3 : Int32) (x4 : Int32), zJ κ (zCe ca D) prog_10_method_7_code 5 ce_RT (some .boolean) zri true 1 A c0 a g0 g u 20 [(0, .ref (a 49)), (1, .int x1), (2, .int x2), (3, .int x3), (4, .int x4)] [] (ce_T_meets_L20 n m u x1 x2 x3 x4) := by
  intro m
  induction m with
  | zero => intro u x1 x2 x3 x4 r u' h; cases h
  | succ m ih =>
    intro u x1 x2 x3 x4
    unfold ce_T_meets_L20
    refine z_iload (pc' := 22) (i := 4) 4 rfl ⟨by decide +kernel, rfl⟩ ?_
    refine z_aload_n (pc' := 23) (k := 0) (i := 0) 0 rfl rfl ⟨by decide +kernel, rfl⟩ ?_
    refine z_getR (pc' := 26) (cef_T18_49 ca D) rfl (y := a 52) rfl ⟨by decide +kernel, rfl⟩ ?_
    refine z_iload_n (pc' := 27) (k := 1) (i := 1) 1 rfl rfl ⟨by decide +kernel, rfl⟩ ?_
    refine z_iald (pc' := 28) 52 rfl (zlt rfl) rfl rfl ⟨by decide +kernel, rfl⟩ ?_
    refine z_icmp_ge (pc' := 31) (tgt := 64) (off := 36) ⟨by decide +kernel, rfl⟩ rfl (fun h1 => ?_) (fun h1 => ?_)
    · refine z_aload_n (pc' := 32) (k := 0) (i := 0) 0 rfl rfl ⟨by decide +kernel, rfl⟩ ?_
      refine z_getR (pc' := 35) (cef_T27_49 ca D) rfl (y := a 55) rfl ⟨by decide +kernel, rfl⟩ ?_
      refine z_iload_n (pc' := 36) (k := 1) (i := 1) 1 rfl rfl ⟨by decide +kernel, rfl⟩ ?_
      refine z_iconst (pc' := 37) (n := 4) (v := 4) (by decide) ⟨by decide +kernel, rfl⟩ ?_
      refine z_imul (pc' := 38) ⟨by decide +kernel, rfl⟩ ?_
      refine z_iload (pc' := 40) (i := 4) 4 rfl ⟨by decide +kernel, rfl⟩ ?_
      refine z_iadd (pc' := 41) ⟨by decide +kernel, rfl⟩ ?_
      refine z_iald (pc' := 42) 55 rfl (zlt rfl) rfl rfl ⟨by decide +kernel, rfl⟩ ?_
      refine z_iload_n (pc' := 43) (k := 2) (i := 2) 2 rfl rfl ⟨by decide +kernel, rfl⟩ ?_
      refine z_icmp_ne (pc' := 46) (tgt := 58) (off := 15) ⟨by decide +kernel, rfl⟩ rfl (fun h2 => ?_) (fun h2 => ?_)
      · refine z_aload_n (pc' := 47) (k := 0) (i := 0) 0 rfl rfl ⟨by decide +kernel, rfl⟩ ?_
        refine z_getR (pc' := 50) (cef_T15_49 ca D) rfl (y := a 51) rfl ⟨by decide +kernel, rfl⟩ ?_
        refine z_iload_n (pc' := 51) (k := 1) (i := 1) 1 rfl rfl ⟨by decide +kernel, rfl⟩ ?_
        refine z_dup2_11 (pc' := 52) rfl rfl ⟨by decide +kernel, rfl⟩ ?_
        refine z_iald (pc' := 53) 51 rfl (zlt rfl) rfl rfl ⟨by decide +kernel, rfl⟩ ?_
        refine z_iconst (pc' := 54) (n := 1) (v := 1) (by decide) ⟨by decide +kernel, rfl⟩ ?_
        refine z_iadd (pc' := 55) ⟨by decide +kernel, rfl⟩ ?_
        refine z_iast (pc' := 56) 51 rfl (zlt rfl) rfl rfl ⟨by decide +kernel, rfl⟩ (z_letU fun u3 => ?_)
        refine z_iconst (pc' := 57) (n := 1) (v := 1) (by decide) ⟨by decide +kernel, rfl⟩ ?_
        exact z_zret (pc' := 58) (by decide) ⟨by decide +kernel, rfl⟩
      · refine z_iincN (pc' := 61) (i := 4) (n := 1) (c := 1) 4 rfl (by decide) (by decide) rfl ⟨by decide +kernel, rfl⟩ fun v4 => ?_
        refine z_goto (tgt := 20) (off := -41) (by decide +kernel) rfl ?_
        refine z_lv [1, 2, 3, 4, 0] (lv' := [(0, .ref (a 49)), (1, .int x1), (2, .int x2), (3, .int x3), (4, .int v4)]) rfl ?_
        exact ih u x1 x2 x3 v4
    · refine z_aload_n (pc' := 65) (k := 0) (i := 0) 0 rfl rfl ⟨by decide +kernel, rfl⟩ ?_
      refine z_getR (pc' := 68) (cef_T21_49 ca D) rfl (y := a 53) rfl ⟨by decide +kernel, rfl⟩ ?_
      refine z_iload_n (pc' := 69) (k := 1) (i := 1) 1 rfl rfl ⟨by decide +kernel, rfl⟩ ?_
      refine z_iald (pc' := 70) 53 rfl (zlt rfl) rfl rfl ⟨by decide +kernel, rfl⟩ ?_
      refine z_if_ne (pc' := 73) (tgt := 80) (off := 10) ⟨by decide +kernel, rfl⟩ rfl (fun h5 => ?_) (fun h5 => ?_)
      · refine z_aload_n (pc' := 74) (k := 0) (i := 0) 0 rfl rfl ⟨by decide +kernel, rfl⟩ ?_
        refine z_iload_n (pc' := 75) (k := 1) (i := 1) 1 rfl rfl ⟨by decide +kernel, rfl⟩ ?_
        refine z_iload_n (pc' := 76) (k := 2) (i := 2) 2 rfl rfl ⟨by decide +kernel, rfl⟩ ?_
        refine z_iload_n (pc' := 77) (k := 3) (i := 3) 3 rfl rfl ⟨by decide +kernel, rfl⟩ ?_
        refine z_callVf (pc' := 80) 49 (cet_T_enter n u x1 x2 x3) (ceG_T59 ca D) (ceO_49 ca D) rfl (by omega) rfl rfl (Nat.le_of_ble_eq_true rfl) ⟨by decide +kernel, rfl⟩ (fun _ u7 => ?_)
        refine z_iconst (pc' := 81) (n := 0) (v := 0) (by decide) ⟨by decide +kernel, rfl⟩ ?_
        exact z_zret (pc' := 82) (by decide) ⟨by decide +kernel, rfl⟩
      · refine z_iconst (pc' := 81) (n := 0) (v := 0) (by decide) ⟨by decide +kernel, rfl⟩ ?_
        exact z_zret (pc' := 82) (by decide) ⟨by decide +kernel, rfl⟩
set_option maxRecDepth 20000 in
set_option maxHeartbeats 4000000 in
theorem cet_T_meets {l : Launch} {ca : Nat → ClassId} {D : va_G} {a g : Nat → Nat} (n : Nat) (u : zMu) (x1 : Int32) (x2 : Int32) (x3 : Int32) : zMet l (zCe ca D) ceY_T_meets (.code ceY_T_meets prog_10_method_7_code 5 (some .boolean)) zri true 1 a g [.ref (a 49), .int x1, .int x2, .int x3] u (ce_T_meets n u x1 x2 x3) := by
  refine zMet.of rfl (Nat.le_of_ble_eq_true rfl) fun κ A hl => ?_
  subst hl
  unfold ce_T_meets
  refine z_aload_n (pc' := 1) (k := 0) (i := 0) 0 rfl rfl ⟨by decide +kernel, rfl⟩ ?_
  refine z_getR (pc' := 4) (cef_T9_49 ca D) rfl (y := a 50) rfl ⟨by decide +kernel, rfl⟩ ?_
  refine z_iload_n (pc' := 5) (k := 1) (i := 1) 1 rfl rfl ⟨by decide +kernel, rfl⟩ ?_
  refine z_dup2_11 (pc' := 6) rfl rfl ⟨by decide +kernel, rfl⟩ ?_
  refine z_iald (pc' := 7) 50 rfl (zlt rfl) rfl rfl ⟨by decide +kernel, rfl⟩ ?_
  refine z_iconst (pc' := 8) (n := 1) (v := 1) (by decide) ⟨by decide +kernel, rfl⟩ ?_
  refine z_iadd (pc' := 9) ⟨by decide +kernel, rfl⟩ ?_
  refine z_iast (pc' := 10) 50 rfl (zlt rfl) rfl rfl ⟨by decide +kernel, rfl⟩ (z_letU fun u1 => ?_)
  refine z_iload_n (pc' := 11) (k := 2) (i := 2) 2 rfl rfl ⟨by decide +kernel, rfl⟩ ?_
  refine z_iconst (pc' := 12) (n := (-1)) (v := (-1)) (by decide) ⟨by decide +kernel, rfl⟩ ?_
  refine z_icmp_ne (pc' := 15) (tgt := 17) (off := 5) ⟨by decide +kernel, rfl⟩ rfl (fun h2 => ?_) (fun h2 => ?_)
  · refine z_iconst (pc' := 16) (n := 0) (v := 0) (by decide) ⟨by decide +kernel, rfl⟩ ?_
    exact z_zret (pc' := 17) (by decide) ⟨by decide +kernel, rfl⟩
  · refine z_iconst (pc' := 18) (n := 0) (v := 0) (by decide) ⟨by decide +kernel, rfl⟩ ?_
    refine z_istore (pc' := 20) (i := 4) (by decide) rfl ⟨by decide +kernel, rfl⟩ ?_
    refine z_lv [1, 2, 3, 4, 0] (lv' := [(0, .ref (a 49)), (1, .int x1), (2, .int x2), (3, .int x3), (4, .int 0)]) rfl ?_
    exact ce_T_meets_L20_t n n u1 x1 x2 x3 0
set_option maxRecDepth 20000 in
set_option maxHeartbeats 4000000 in
theorem cet_T_meetRead {l : Launch} {ca : Nat → ClassId} {D : va_G} {a g : Nat → Nat} (n : Nat) (u : zMu) (x1 : Int32) (x2 : Int32) (x3 : Int32) : zMet l (zCe ca D) ceY_T_meetRead (.code ceY_T_meetRead prog_10_method_3_code 4 none) zrv true 2 a g [.ref (a 49), .int x1, .int x2, .int x3] u (ce_T_meetRead n u x1 x2 x3) := by
  refine zMet.of rfl (Nat.le_of_ble_eq_true rfl) fun κ A hl => ?_
  subst hl
  unfold ce_T_meetRead
  refine z_aload_n (pc' := 1) (k := 0) (i := 0) 0 rfl rfl ⟨by decide +kernel, rfl⟩ ?_
  refine z_iload_n (pc' := 2) (k := 1) (i := 1) 1 rfl rfl ⟨by decide +kernel, rfl⟩ ?_
  refine z_iload_n (pc' := 3) (k := 2) (i := 2) 2 rfl rfl ⟨by decide +kernel, rfl⟩ ?_
  refine z_iload_n (pc' := 4) (k := 3) (i := 3) 3 rfl rfl ⟨by decide +kernel, rfl⟩ ?_
  refine z_callVf (pc' := 7) 49 (cet_T_meets n u x1 x2 x3) (ceG_T55 ca D) (ceO_49 ca D) rfl (by omega) rfl rfl (Nat.le_of_ble_eq_true rfl) ⟨by decide +kernel, rfl⟩ (fun r1 u2 => ?_)
  refine z_if_eq (pc' := 10) (tgt := 23) (off := 16) ⟨by decide +kernel, rfl⟩ rfl (fun h3 => ?_) (fun h3 => ?_)
  · refine z_aload_n (pc' := 24) (k := 0) (i := 0) 0 rfl rfl ⟨by decide +kernel, rfl⟩ ?_
    refine z_dup (pc' := 25) rfl ⟨by decide +kernel, rfl⟩ ?_
    refine z_getI (pc' := 28) (cef_T49_49 ca D) rfl ⟨by decide +kernel, rfl⟩ ?_
    refine z_iconst (pc' := 29) (n := 1) (v := 1) (by decide) ⟨by decide +kernel, rfl⟩ ?_
    refine z_iadd (pc' := 30) ⟨by decide +kernel, rfl⟩ ?_
    refine z_putI (pc' := 33) (cef_T49_49 ca D) rfl ⟨by decide +kernel, rfl⟩ (z_letU fun u4 => ?_)
    exact z_vret (pc' := 34) ⟨by decide +kernel, rfl⟩
  · refine z_aload_n (pc' := 11) (k := 0) (i := 0) 0 rfl rfl ⟨by decide +kernel, rfl⟩ ?_
    refine z_dup (pc' := 12) rfl ⟨by decide +kernel, rfl⟩ ?_
    refine z_getI (pc' := 15) (cef_T45_49 ca D) rfl ⟨by decide +kernel, rfl⟩ ?_
    refine z_iconst (pc' := 16) (n := 1) (v := 1) (by decide) ⟨by decide +kernel, rfl⟩ ?_
    refine z_iadd (pc' := 17) ⟨by decide +kernel, rfl⟩ ?_
    refine z_putI (pc' := 20) (cef_T45_49 ca D) rfl ⟨by decide +kernel, rfl⟩ (z_letU fun u5 => ?_)
    refine z_goto (tgt := 33) (off := 13) (by decide +kernel) rfl ?_
    exact z_vret (pc' := 34) ⟨by decide +kernel, rfl⟩
set_option maxRecDepth 20000 in
set_option maxHeartbeats 4000000 in
theorem ce_T_guessed_L2_t {κ : zKx} {ca : Nat → ClassId} {D : va_G} {A : Nat → Prop} {c0 : Nat × Nat} {a g0 g : Nat → Nat} (n : Nat) : ∀ (m : Nat) (u : zMu) (x1 : Int32) (x2 : Int32) (x3 : Int32), zJ κ (zCe ca D) prog_10_method_13_code 4 ce_RT (some .boolean) zri true 0 A c0 a g0 g u 2 [(0, .ref (a 49)), (1, .int x1), (2, .int x2), (3, .int x3)] [] (ce_T_guessed_L2 n m u x1 x2 x3) := by
  intro m
  induction m with
  | zero => intro u x1 x2 x3 r u' h; cases h
  | succ m ih =>
    intro u x1 x2 x3
    unfold ce_T_guessed_L2
    refine z_iload_n (pc' := 3) (k := 3) (i := 3) 3 rfl rfl ⟨by decide +kernel, rfl⟩ ?_
    refine z_aload_n (pc' := 4) (k := 0) (i := 0) 0 rfl rfl ⟨by decide +kernel, rfl⟩ ?_
    refine z_getR (pc' := 7) (cef_T36_49 ca D) rfl (y := a 58) rfl ⟨by decide +kernel, rfl⟩ ?_
    refine z_iload_n (pc' := 8) (k := 1) (i := 1) 1 rfl rfl ⟨by decide +kernel, rfl⟩ ?_
    refine z_iald (pc' := 9) 58 rfl (zlt rfl) rfl rfl ⟨by decide +kernel, rfl⟩ ?_
    refine z_icmp_ge (pc' := 12) (tgt := 34) (off := 25) ⟨by decide +kernel, rfl⟩ rfl (fun h1 => ?_) (fun h1 => ?_)
    · refine z_aload_n (pc' := 13) (k := 0) (i := 0) 0 rfl rfl ⟨by decide +kernel, rfl⟩ ?_
      refine z_getR (pc' := 16) (cef_T33_49 ca D) rfl (y := a 57) rfl ⟨by decide +kernel, rfl⟩ ?_
      refine z_iload_n (pc' := 17) (k := 1) (i := 1) 1 rfl rfl ⟨by decide +kernel, rfl⟩ ?_
      refine z_iconst (pc' := 18) (n := 4) (v := 4) (by decide) ⟨by decide +kernel, rfl⟩ ?_
      refine z_imul (pc' := 19) ⟨by decide +kernel, rfl⟩ ?_
      refine z_iload_n (pc' := 20) (k := 3) (i := 3) 3 rfl rfl ⟨by decide +kernel, rfl⟩ ?_
      refine z_iadd (pc' := 21) ⟨by decide +kernel, rfl⟩ ?_
      refine z_iald (pc' := 22) 57 rfl (zlt rfl) rfl rfl ⟨by decide +kernel, rfl⟩ ?_
      refine z_iload_n (pc' := 23) (k := 2) (i := 2) 2 rfl rfl ⟨by decide +kernel, rfl⟩ ?_
      refine z_icmp_ne (pc' := 26) (tgt := 28) (off := 5) ⟨by decide +kernel, rfl⟩ rfl (fun h2 => ?_) (fun h2 => ?_)
      · refine z_iconst (pc' := 27) (n := 1) (v := 1) (by decide) ⟨by decide +kernel, rfl⟩ ?_
        exact z_zret (pc' := 28) (by decide) ⟨by decide +kernel, rfl⟩
      · refine z_iincN (pc' := 31) (i := 3) (n := 1) (c := 1) 3 rfl (by decide) (by decide) rfl ⟨by decide +kernel, rfl⟩ fun v3 => ?_
        refine z_goto (tgt := 2) (off := -29) (by decide +kernel) rfl ?_
        refine z_lv [1, 2, 3, 0] (lv' := [(0, .ref (a 49)), (1, .int x1), (2, .int x2), (3, .int v3)]) rfl ?_
        exact ih u x1 x2 v3
    · refine z_iconst (pc' := 35) (n := 0) (v := 0) (by decide) ⟨by decide +kernel, rfl⟩ ?_
      exact z_zret (pc' := 36) (by decide) ⟨by decide +kernel, rfl⟩
set_option maxRecDepth 20000 in
set_option maxHeartbeats 4000000 in
theorem cet_T_guessed {l : Launch} {ca : Nat → ClassId} {D : va_G} {a g : Nat → Nat} (n : Nat) (u : zMu) (x1 : Int32) (x2 : Int32) : zMet l (zCe ca D) ceY_T_guessed (.code ceY_T_guessed prog_10_method_13_code 4 (some .boolean)) zri true 0 a g [.ref (a 49), .int x1, .int x2] u (ce_T_guessed n u x1 x2) := by
  refine zMet.of rfl (Nat.le_of_ble_eq_true rfl) fun κ A hl => ?_
  subst hl
  unfold ce_T_guessed
  refine z_iconst (pc' := 1) (n := 0) (v := 0) (by decide) ⟨by decide +kernel, rfl⟩ ?_
  refine z_istore_n (pc' := 2) (k := 3) (i := 3) rfl (by decide) rfl ⟨by decide +kernel, rfl⟩ ?_
  refine z_lv [1, 2, 3, 0] (lv' := [(0, .ref (a 49)), (1, .int x1), (2, .int x2), (3, .int 0)]) rfl ?_
  exact ce_T_guessed_L2_t n n u x1 x2 0
set_option maxRecDepth 20000 in
set_option maxHeartbeats 4000000 in
theorem ce_M_getMember_J149_t {κ : zKx} {ca : Nat → ClassId} {D : va_G} {A : Nat → Prop} {c0 : Nat × Nat} {a g0 : Nat → Nat} (n : Nat) (g : Nat → Nat) (u : zMu) (s0 : Int32) : zJ κ (zCe ca D) prog_6_method_20_code 9 ce_RM none zrv false 5 A c0 a g0 g u 149 [(0, .ref (a 34))] [.int s0] (ce_M_getMember_J149 n u s0) := by
  unfold ce_M_getMember_J149
  refine z_istore (pc' := 151) (i := 8) (by decide) rfl ⟨by decide +kernel, rfl⟩ ?_
  refine z_aload_n (pc' := 152) (k := 0) (i := 0) 1 rfl rfl ⟨by decide +kernel, rfl⟩ ?_
  refine z_aload_n (pc' := 153) (k := 0) (i := 0) 1 rfl rfl ⟨by decide +kernel, rfl⟩ ?_
  refine z_getR (pc' := 156) (cef_M12_34 ca D) rfl (y := a 36) rfl ⟨by decide +kernel, rfl⟩ ?_
  refine z_getR (pc' := 159) (cef_M276_36 ca D) rfl (y := a 66) rfl ⟨by decide +kernel, rfl⟩ ?_
  refine z_iload (pc' := 161) (i := 8) 0 rfl ⟨by decide +kernel, rfl⟩ ?_
  refine z_callVf (pc' := 164) 66 (cet_V_sortAt n 66 rfl u s0) (ceG_M205 ca D) (ceO_66 ca D) rfl (by omega) rfl rfl (Nat.le_of_ble_eq_true rfl) ⟨by decide +kernel, rfl⟩ (fun r1 u2 => ?_)
  refine z_aload_n (pc' := 165) (k := 0) (i := 0) 1 rfl rfl ⟨by decide +kernel, rfl⟩ ?_
  refine z_getR (pc' := 168) (cef_M12_34 ca D) rfl (y := a 36) rfl ⟨by decide +kernel, rfl⟩ ?_
  refine z_getR (pc' := 171) (cef_M276_36 ca D) rfl (y := a 66) rfl ⟨by decide +kernel, rfl⟩ ?_
  refine z_iload (pc' := 173) (i := 8) 0 rfl ⟨by decide +kernel, rfl⟩ ?_
  refine z_callVf (pc' := 176) 66 (cet_V_numberAt n 66 rfl u2 s0) (ceG_M209 ca D) (ceO_66 ca D) rfl (by omega) rfl rfl (Nat.le_of_ble_eq_true rfl) ⟨by decide +kernel, rfl⟩ (fun r3 u4 => ?_)
  refine z_callV (pc' := 179) 34 (cet_M_push n u4 r1 r3) (ceG_M133 ca D) (ceO_34 ca D) rfl (fun h => by cases h) (by omega) rfl rfl (Nat.le_of_ble_eq_true rfl) ⟨by decide +kernel, rfl⟩ (fun _ u7 g5 _ => ?_)
  exact z_vret (pc' := 180) ⟨by decide +kernel, rfl⟩
set_option maxRecDepth 20000 in
set_option maxHeartbeats 4000000 in
theorem ce_M_getMember_J128_t {κ : zKx} {ca : Nat → ClassId} {D : va_G} {A : Nat → Prop} {c0 : Nat × Nat} {a g0 : Nat → Nat} (n : Nat) (g : Nat → Nat) (u : zMu) (x4 : Int64) (x6 : Int32) : zJ κ (zCe ca D) prog_6_method_20_code 9 ce_RM none zrv false 5 A c0 a g0 g u 128 [(0, .ref (a 34)), (4, .long x4), (6, .int x6)] [] (ce_M_getMember_J128 n u x4 x6) := by
  unfold ce_M_getMember_J128
  refine z_iload (pc' := 130) (i := 6) 2 rfl ⟨by decide +kernel, rfl⟩ ?_
  refine z_iconst (pc' := 131) (n := (-1)) (v := (-1)) (by decide) ⟨by decide +kernel, rfl⟩ ?_
  refine z_icmp_ne (pc' := 134) (tgt := 138) (off := 7) ⟨by decide +kernel, rfl⟩ rfl (fun h1 => ?_) (fun h1 => ?_)
  · refine z_iconst (pc' := 135) (n := (-1)) (v := (-1)) (by decide) ⟨by decide +kernel, rfl⟩ ?_
    refine z_goto (tgt := 149) (off := 14) (by decide +kernel) rfl ?_
    refine z_lv [0] (lv' := [(0, .ref (a 34))]) rfl ?_
    exact ce_M_getMember_J149_t n g u (-1)
  · refine z_aload_n (pc' := 139) (k := 0) (i := 0) 0 rfl rfl ⟨by decide +kernel, rfl⟩ ?_
    refine z_getR (pc' := 142) (cef_M12_34 ca D) rfl (y := a 36) rfl ⟨by decide +kernel, rfl⟩ ?_
    refine z_iload (pc' := 144) (i := 6) 2 rfl ⟨by decide +kernel, rfl⟩ ?_
    refine z_lload (pc' := 146) (i := 4) 1 rfl ⟨by decide +kernel, rfl⟩ ?_
    refine z_callVf (pc' := 149) 36 (cet_H_find n u x6 x4) (ceG_M273 ca D) (ceO_36 ca D) rfl (by omega) rfl rfl (Nat.le_of_ble_eq_true rfl) ⟨by decide +kernel, rfl⟩ (fun r2 u3 => ?_)
    refine z_lv [0] (lv' := [(0, .ref (a 34))]) rfl ?_
    exact ce_M_getMember_J149_t n g u3 r2
set_option maxRecDepth 20000 in
set_option maxHeartbeats 4000000 in
theorem ce_M_getMember_J96_t {κ : zKx} {ca : Nat → ClassId} {D : va_G} {A : Nat → Prop} {c0 : Nat × Nat} {a g0 : Nat → Nat} (n : Nat) (g : Nat → Nat) (u : zMu) (x1 : Int32) (x4 : Int64) (x6 : Int32) (x7 : Int32) (s1 : Int32) (s2 : Int32) (s3 : Int32) : zJ κ (zCe ca D) prog_6_method_20_code 9 ce_RM none zrv false 5 A c0 a g0 g u 96 [(0, .ref (a 34)), (1, .int x1), (4, .long x4), (6, .int x6), (7, .int x7)] [.int s3, .int s2, .int s1, .ref (a 49)] (ce_M_getMember_J96 n u x1 x4 x6 x7 s1 s2 s3) := by
  unfold ce_M_getMember_J96
  refine z_callVf (pc' := 99) 49 (cet_T_meetRead n u s1 s2 s3) (ceG_M266 ca D) (ceO_49 ca D) rfl (by omega) rfl rfl (Nat.le_of_ble_eq_true rfl) ⟨by decide +kernel, rfl⟩ (fun _ u2 => ?_)
  refine z_aload_n (pc' := 100) (k := 0) (i := 0) 0 rfl rfl ⟨by decide +kernel, rfl⟩ ?_
  refine z_getR (pc' := 103) (cef_M28_34 ca D) rfl (y := a 49) rfl ⟨by decide +kernel, rfl⟩ ?_
  refine z_iload_n (pc' := 104) (k := 1) (i := 1) 1 rfl rfl ⟨by decide +kernel, rfl⟩ ?_
  refine z_callVf (pc' := 107) 49 (cet_T_hasGuess n u2 x1) (ceG_M234 ca D) (ceO_49 ca D) rfl (by omega) rfl rfl (Nat.le_of_ble_eq_true rfl) ⟨by decide +kernel, rfl⟩ (fun r3 u4 => ?_)
  refine z_if_eq (pc' := 110) (tgt := 128) (off := 21) ⟨by decide +kernel, rfl⟩ rfl (fun h5 => ?_) (fun h5 => ?_)
  · refine z_lv [0, 2, 3] (lv' := [(0, .ref (a 34)), (4, .long x4), (6, .int x6)]) rfl ?_
    exact ce_M_getMember_J128_t n g u4 x4 x6
  · refine z_aload_n (pc' := 111) (k := 0) (i := 0) 0 rfl rfl ⟨by decide +kernel, rfl⟩ ?_
    refine z_getR (pc' := 114) (cef_M28_34 ca D) rfl (y := a 49) rfl ⟨by decide +kernel, rfl⟩ ?_
    refine z_iload_n (pc' := 115) (k := 1) (i := 1) 1 rfl rfl ⟨by decide +kernel, rfl⟩ ?_
    refine z_iload (pc' := 117) (i := 7) 4 rfl ⟨by decide +kernel, rfl⟩ ?_
    refine z_callVf (pc' := 120) 49 (cet_T_guessed n u4 x1 x7) (ceG_M269 ca D) (ceO_49 ca D) rfl (by omega) rfl rfl (Nat.le_of_ble_eq_true rfl) ⟨by decide +kernel, rfl⟩ (fun r6 u7 => ?_)
    refine z_if_ne (pc' := 123) (tgt := 128) (off := 8) ⟨by decide +kernel, rfl⟩ rfl (fun h8 => ?_) (fun h8 => ?_)
    · refine z_aload_n (pc' := 124) (k := 0) (i := 0) 0 rfl rfl ⟨by decide +kernel, rfl⟩ ?_
      refine z_iload_n (pc' := 125) (k := 1) (i := 1) 1 rfl rfl ⟨by decide +kernel, rfl⟩ ?_
      refine z_callVf (pc' := 128) 34 (cet_M_leaveMade n u7 x1) (ceG_M237 ca D) (ceO_34 ca D) rfl (by omega) rfl rfl (Nat.le_of_ble_eq_true rfl) ⟨by decide +kernel, rfl⟩ (fun _ u10 => ?_)
      refine z_lv [0, 2, 3] (lv' := [(0, .ref (a 34)), (4, .long x4), (6, .int x6)]) rfl ?_
      exact ce_M_getMember_J128_t n g u10 x4 x6
    · refine z_lv [0, 2, 3] (lv' := [(0, .ref (a 34)), (4, .long x4), (6, .int x6)]) rfl ?_
      exact ce_M_getMember_J128_t n g u7 x4 x6
set_option maxRecDepth 20000 in
set_option maxHeartbeats 4000000 in
theorem cet_M_getMember {l : Launch} {ca : Nat → ClassId} {D : va_G} {a g : Nat → Nat} (n : Nat) (u : zMu) (x1 : Int32) (x2 : Int32) : zMet l (zCe ca D) ceY_M_getMember (.code ceY_M_getMember prog_6_method_20_code 9 none) zrv false 5 a g [.ref (a 34), .int x1, .int x2] u (ce_M_getMember n u x1 x2) := by
  refine zMet.of rfl (Nat.le_of_ble_eq_true rfl) fun κ A hl => ?_
  subst hl
  unfold ce_M_getMember
  refine z_aload_n (pc' := 1) (k := 0) (i := 0) 0 rfl rfl ⟨by decide +kernel, rfl⟩ ?_
  refine z_dup (pc' := 2) rfl ⟨by decide +kernel, rfl⟩ ?_
  refine z_getI (pc' := 5) (cef_M72_34 ca D) rfl ⟨by decide +kernel, rfl⟩ ?_
  refine z_iconst (pc' := 6) (n := 1) (v := 1) (by decide) ⟨by decide +kernel, rfl⟩ ?_
  refine z_isub (pc' := 7) ⟨by decide +kernel, rfl⟩ ?_
  refine z_putI (pc' := 10) (cef_M72_34 ca D) rfl ⟨by decide +kernel, rfl⟩ (z_letU fun u1 => ?_)
  refine z_aload_n (pc' := 11) (k := 0) (i := 0) 0 rfl rfl ⟨by decide +kernel, rfl⟩ ?_
  refine z_aload_n (pc' := 12) (k := 0) (i := 0) 0 rfl rfl ⟨by decide +kernel, rfl⟩ ?_
  refine z_getI (pc' := 15) (cef_M72_34 ca D) rfl ⟨by decide +kernel, rfl⟩ ?_
  refine z_iload_n (pc' := 16) (k := 2) (i := 2) 2 rfl rfl ⟨by decide +kernel, rfl⟩ ?_
  refine z_callVf (pc' := 19) 34 (cet_M_objectAt n u1 (zI u1 34 8) x2) (ceG_M246 ca D) (ceO_34 ca D) rfl (by omega) rfl rfl (Nat.le_of_ble_eq_true rfl) ⟨by decide +kernel, rfl⟩ (fun r2 u3 => ?_)
  refine z_istore_n (pc' := 20) (k := 3) (i := 3) rfl (by decide) rfl ⟨by decide +kernel, rfl⟩ ?_
  refine z_iload_n (pc' := 21) (k := 3) (i := 3) 0 rfl rfl ⟨by decide +kernel, rfl⟩ ?_
  refine z_iconst (pc' := 22) (n := (-1)) (v := (-1)) (by decide) ⟨by decide +kernel, rfl⟩ ?_
  refine z_icmp_eq (pc' := 25) (tgt := 36) (off := 14) ⟨by decide +kernel, rfl⟩ rfl (fun h4 => ?_) (fun h4 => ?_)
  · exact z_vret (pc' := 37) ⟨by decide +kernel, rfl⟩
  · refine z_aload_n (pc' := 26) (k := 0) (i := 0) 1 rfl rfl ⟨by decide +kernel, rfl⟩ ?_
    refine z_getG (pc' := 29) (cef_M58_34 ca D) rfl (fun _ h => ⟨zpr_n0 h, ce_adP0 h⟩) ⟨by decide +kernel, rfl⟩ fun p5 hp5 => ?_
    refine z_iload_n (pc' := 30) (k := 1) (i := 1) 2 rfl rfl ⟨by decide +kernel, rfl⟩ ?_
    refine z_callVf (pc' := 33) p5 (cet_P_isSite n p5 hp5 u3 x1) (ceG_M224 ca D) (ceO_P ca D hp5) (ce_adP0 hp5) (by omega) rfl rfl (Nat.le_of_ble_eq_true rfl) ⟨by decide +kernel, rfl⟩ (fun r6 u7 => ?_)
    refine z_if_ne (pc' := 36) (tgt := 37) (off := 4) ⟨by decide +kernel, rfl⟩ rfl (fun h8 => ?_) (fun h8 => ?_)
    · exact z_vret (pc' := 37) ⟨by decide +kernel, rfl⟩
    · refine z_aload_n (pc' := 38) (k := 0) (i := 0) 1 rfl rfl ⟨by decide +kernel, rfl⟩ ?_
      refine z_getG (pc' := 41) (cef_M58_34 ca D) rfl (fun _ h => ⟨zpr_n0 h, ce_adP0 h⟩) ⟨by decide +kernel, rfl⟩ fun p9 hp9 => ?_
      refine z_getR (pc' := 44) (cef_M250_P ca D hp9) (ce_adP0 hp9) (y := a (p9 + 7)) (ce_frP7 hp9) ⟨by decide +kernel, rfl⟩ ?_
      refine z_iload_n (pc' := 45) (k := 1) (i := 1) 2 rfl rfl ⟨by decide +kernel, rfl⟩ ?_
      refine z_lald (pc' := 46) (p9 + 7) (ce_ckP7 hp9) (ce_clP7 hp9) (ce_cnP7 hp9) (ce_adP7 hp9) ⟨by decide +kernel, rfl⟩ ?_
      refine z_letL fun v10 => ?_
      refine z_lstore (pc' := 48) (i := 4) (by decide) rfl ⟨by decide +kernel, rfl⟩ ?_
      refine z_aload_n (pc' := 49) (k := 0) (i := 0) 2 rfl rfl ⟨by decide +kernel, rfl⟩ ?_
      refine z_getR (pc' := 52) (cef_M12_34 ca D) rfl (y := a 36) rfl ⟨by decide +kernel, rfl⟩ ?_
      refine z_iload_n (pc' := 53) (k := 3) (i := 3) 1 rfl rfl ⟨by decide +kernel, rfl⟩ ?_
      refine z_lload (pc' := 55) (i := 4) 0 rfl ⟨by decide +kernel, rfl⟩ ?_
      refine z_callVf (pc' := 58) 36 (cet_H_holderOf n u7 r2 v10) (ceG_M254 ca D) (ceO_36 ca D) rfl (by omega) rfl rfl (Nat.le_of_ble_eq_true rfl) ⟨by decide +kernel, rfl⟩ (fun r11 u12 => ?_)
      refine z_istore (pc' := 60) (i := 6) (by decide) rfl ⟨by decide +kernel, rfl⟩ ?_
      refine z_aload_n (pc' := 61) (k := 0) (i := 0) 3 rfl rfl ⟨by decide +kernel, rfl⟩ ?_
      refine z_getR (pc' := 64) (cef_M12_34 ca D) rfl (y := a 36) rfl ⟨by decide +kernel, rfl⟩ ?_
      refine z_getR (pc' := 67) (cef_M258_36 ca D) rfl (y := a 37) rfl ⟨by decide +kernel, rfl⟩ ?_
      refine z_iload_n (pc' := 68) (k := 3) (i := 3) 2 rfl rfl ⟨by decide +kernel, rfl⟩ ?_
      refine z_iald (pc' := 69) 37 rfl (zlt rfl) rfl rfl ⟨by decide +kernel, rfl⟩ ?_
      refine z_letI fun v13 => ?_
      refine z_istore (pc' := 71) (i := 7) (by decide) rfl ⟨by decide +kernel, rfl⟩ ?_
      refine z_aload_n (pc' := 72) (k := 0) (i := 0) 4 rfl rfl ⟨by decide +kernel, rfl⟩ ?_
      refine z_getR (pc' := 75) (cef_M28_34 ca D) rfl (y := a 49) rfl ⟨by decide +kernel, rfl⟩ ?_
      refine z_iload_n (pc' := 76) (k := 1) (i := 1) 5 rfl rfl ⟨by decide +kernel, rfl⟩ ?_
      refine z_iload (pc' := 78) (i := 7) 0 rfl ⟨by decide +kernel, rfl⟩ ?_
      refine z_iload (pc' := 80) (i := 6) 1 rfl ⟨by decide +kernel, rfl⟩ ?_
      refine z_iload_n (pc' := 81) (k := 3) (i := 3) 3 rfl rfl ⟨by decide +kernel, rfl⟩ ?_
      refine z_icmp_ne (pc' := 84) (tgt := 90) (off := 9) ⟨by decide +kernel, rfl⟩ rfl (fun h14 => ?_) (fun h14 => ?_)
      · refine z_sipush (pc' := 87) (n := 200) (v := 200) (by decide) ⟨by decide +kernel, rfl⟩ ?_
        refine z_goto (tgt := 96) (off := 9) (by decide +kernel) rfl ?_
        refine z_lv [4, 5, 2, 1, 0] (lv' := [(0, .ref (a 34)), (1, .int x1), (4, .long v10), (6, .int r11), (7, .int v13)]) rfl ?_
        exact ce_M_getMember_J96_t n g u12 x1 v10 r11 v13 x1 v13 200
      · refine z_iconst (pc' := 91) (n := 0) (v := 0) (by decide) ⟨by decide +kernel, rfl⟩ ?_
        refine z_iload (pc' := 93) (i := 6) 1 rfl ⟨by decide +kernel, rfl⟩ ?_
        refine z_mmax (pc' := 96) (ce_w0 14 rfl) (ce_w0 3 rfl) (ce_w0 4 rfl) (ce_w0 5 rfl) (by omega) (Nat.le_of_ble_eq_true rfl) ⟨by decide +kernel, rfl⟩ ?_
        refine z_letI fun v15 => ?_
        refine z_lv [4, 5, 2, 1, 0] (lv' := [(0, .ref (a 34)), (1, .int x1), (4, .long v10), (6, .int r11), (7, .int v13)]) rfl ?_
        exact ce_M_getMember_J96_t n g u12 x1 v10 r11 v13 x1 v13 v15
