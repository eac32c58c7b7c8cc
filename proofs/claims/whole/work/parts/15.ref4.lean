/-! the reference's methods meet their models (printed by wip/gen/ref.py) -/
set_option maxRecDepth 20000 in
set_option maxHeartbeats 4000000 in
theorem rf_enters_L108_t {κ : zKx} {ca : Nat → ClassId} {D : va_G} {A : Nat → Prop} {c0 : Nat × Nat} {a g0 g : Nat → Nat} (n : Nat) : ∀ (m : Nat) (u : zMu) (x1 : Int32) (x2 : Int32) (x4 : Int32) (x5 : Int32), zJ κ (zRf ca D) prog_13_method_45_code 6 rf_C none zrv true 1 A c0 a g0 g u 108 [(0, .ref (a 0)), (1, .int x1), (2, .int x2), (4, .int x4), (5, .int x5)] [] (rf_enters_L108 n m u x1 x2 x4 x5) := by
  intro m
  induction m with
  | zero => intro u x1 x2 x4 x5 r u' h; cases h
  | succ m ih =>
    intro u x1 x2 x4 x5
    unfold rf_enters_L108
    refine z_iload (pc' := 110) (i := 5) 4 rfl ⟨by decide +kernel, rfl⟩ ?_
    refine z_iload_n (pc' := 111) (k := 2) (i := 2) 2 rfl rfl ⟨by decide +kernel, rfl⟩ ?_
    refine z_icmp_ge (pc' := 114) (tgt := 164) (off := 53) ⟨by decide +kernel, rfl⟩ rfl (fun h1 => ?_) (fun h1 => ?_)
    · refine z_aload_n (pc' := 115) (k := 0) (i := 0) 0 rfl rfl ⟨by decide +kernel, rfl⟩ ?_
      refine z_getR (pc' := 118) (rff_varSort ca D) rfl (y := a 28) rfl ⟨by decide +kernel, rfl⟩ ?_
      refine z_iload (pc' := 120) (i := 4) 3 rfl ⟨by decide +kernel, rfl⟩ ?_
      refine z_iload (pc' := 122) (i := 5) 4 rfl ⟨by decide +kernel, rfl⟩ ?_
      refine z_iadd (pc' := 123) ⟨by decide +kernel, rfl⟩ ?_
      refine z_aload_n (pc' := 124) (k := 0) (i := 0) 0 rfl rfl ⟨by decide +kernel, rfl⟩ ?_
      refine z_getR (pc' := 127) (rff_vSort ca D) rfl (y := a 27) rfl ⟨by decide +kernel, rfl⟩ ?_
      refine z_aload_n (pc' := 128) (k := 0) (i := 0) 0 rfl rfl ⟨by decide +kernel, rfl⟩ ?_
      refine z_getI (pc' := 131) (rff_top ca D) rfl ⟨by decide +kernel, rfl⟩ ?_
      refine z_iload (pc' := 133) (i := 5) 4 rfl ⟨by decide +kernel, rfl⟩ ?_
      refine z_iadd (pc' := 134) ⟨by decide +kernel, rfl⟩ ?_
      refine z_iald (pc' := 135) 27 rfl (zlt rfl) rfl rfl ⟨by decide +kernel, rfl⟩ ?_
      refine z_iast (pc' := 136) 28 rfl (zlt rfl) rfl rfl ⟨by decide +kernel, rfl⟩ (z_letU fun u2 => ?_)
      refine z_aload_n (pc' := 137) (k := 0) (i := 0) 0 rfl rfl ⟨by decide +kernel, rfl⟩ ?_
      refine z_getR (pc' := 140) (rff_varNum ca D) rfl (y := a 32) rfl ⟨by decide +kernel, rfl⟩ ?_
      refine z_iload (pc' := 142) (i := 4) 3 rfl ⟨by decide +kernel, rfl⟩ ?_
      refine z_iload (pc' := 144) (i := 5) 4 rfl ⟨by decide +kernel, rfl⟩ ?_
      refine z_iadd (pc' := 145) ⟨by decide +kernel, rfl⟩ ?_
      refine z_aload_n (pc' := 146) (k := 0) (i := 0) 0 rfl rfl ⟨by decide +kernel, rfl⟩ ?_
      refine z_getR (pc' := 149) (rff_vNum ca D) rfl (y := a 31) rfl ⟨by decide +kernel, rfl⟩ ?_
      refine z_aload_n (pc' := 150) (k := 0) (i := 0) 0 rfl rfl ⟨by decide +kernel, rfl⟩ ?_
      refine z_getI (pc' := 153) (rff_top ca D) rfl ⟨by decide +kernel, rfl⟩ ?_
      refine z_iload (pc' := 155) (i := 5) 4 rfl ⟨by decide +kernel, rfl⟩ ?_
      refine z_iadd (pc' := 156) ⟨by decide +kernel, rfl⟩ ?_
      refine z_lald (pc' := 157) 31 rfl (zlt rfl) rfl rfl ⟨by decide +kernel, rfl⟩ ?_
      refine z_last (pc' := 158) 32 rfl (zlt rfl) rfl rfl ⟨by decide +kernel, rfl⟩ (z_letU fun u3 => ?_)
      refine z_iincN (pc' := 161) (i := 5) (n := 1) (c := 1) 4 rfl (by decide) (by decide) rfl ⟨by decide +kernel, rfl⟩ fun v4 => ?_
      refine z_goto (tgt := 108) (off := -53) (by decide +kernel) rfl ?_
      refine z_lv [1, 2, 3, 4, 0] (lv' := [(0, .ref (a 0)), (1, .int x1), (2, .int x2), (4, .int x4), (5, .int v4)]) rfl ?_
      exact ih u3 x1 x2 x4 v4
    · refine z_aload_n (pc' := 165) (k := 0) (i := 0) 0 rfl rfl ⟨by decide +kernel, rfl⟩ ?_
      refine z_getR (pc' := 168) (rff_fnCalls ca D) rfl (y := a 61) rfl ⟨by decide +kernel, rfl⟩ ?_
      refine z_iload_n (pc' := 169) (k := 1) (i := 1) 1 rfl rfl ⟨by decide +kernel, rfl⟩ ?_
      refine z_dup2_11 (pc' := 170) rfl rfl ⟨by decide +kernel, rfl⟩ ?_
      refine z_iald (pc' := 171) 61 rfl (zlt rfl) rfl rfl ⟨by decide +kernel, rfl⟩ ?_
      refine z_iconst (pc' := 172) (n := 1) (v := 1) (by decide) ⟨by decide +kernel, rfl⟩ ?_
      refine z_iadd (pc' := 173) ⟨by decide +kernel, rfl⟩ ?_
      refine z_iast (pc' := 174) 61 rfl (zlt rfl) rfl rfl ⟨by decide +kernel, rfl⟩ (z_letU fun u5 => ?_)
      refine z_aload_n (pc' := 175) (k := 0) (i := 0) 0 rfl rfl ⟨by decide +kernel, rfl⟩ ?_
      refine z_getR (pc' := 178) (rff_fnCount ca D) rfl (y := a 62) rfl ⟨by decide +kernel, rfl⟩ ?_
      refine z_iload_n (pc' := 179) (k := 1) (i := 1) 1 rfl rfl ⟨by decide +kernel, rfl⟩ ?_
      refine z_dup2_11 (pc' := 180) rfl rfl ⟨by decide +kernel, rfl⟩ ?_
      refine z_iald (pc' := 181) 62 rfl (zlt rfl) rfl rfl ⟨by decide +kernel, rfl⟩ ?_
      refine z_iconst (pc' := 182) (n := 1) (v := 1) (by decide) ⟨by decide +kernel, rfl⟩ ?_
      refine z_iadd (pc' := 183) ⟨by decide +kernel, rfl⟩ ?_
      refine z_iast (pc' := 184) 62 rfl (zlt rfl) rfl rfl ⟨by decide +kernel, rfl⟩ (z_letU fun u6 => ?_)
      refine z_aload_n (pc' := 185) (k := 0) (i := 0) 0 rfl rfl ⟨by decide +kernel, rfl⟩ ?_
      refine z_getR (pc' := 188) (rff_fnCount ca D) rfl (y := a 62) rfl ⟨by decide +kernel, rfl⟩ ?_
      refine z_iload_n (pc' := 189) (k := 1) (i := 1) 1 rfl rfl ⟨by decide +kernel, rfl⟩ ?_
      refine z_iald (pc' := 190) 62 rfl (zlt rfl) rfl rfl ⟨by decide +kernel, rfl⟩ ?_
      refine z_iconst (pc' := 191) (n := 4) (v := 4) (by decide) ⟨by decide +kernel, rfl⟩ ?_
      refine z_icmp_ne (pc' := 194) (tgt := 217) (off := 26) ⟨by decide +kernel, rfl⟩ rfl (fun h7 => ?_) (fun h7 => ?_)
      · refine z_aload_n (pc' := 195) (k := 0) (i := 0) 0 rfl rfl ⟨by decide +kernel, rfl⟩ ?_
        refine z_getR (pc' := 198) (rff_made ca D) rfl (y := a 66) rfl ⟨by decide +kernel, rfl⟩ ?_
        refine z_iload_n (pc' := 199) (k := 1) (i := 1) 1 rfl rfl ⟨by decide +kernel, rfl⟩ ?_
        refine z_zald (pc' := 200) 66 rfl (zlt rfl) rfl rfl ⟨by decide +kernel, rfl⟩ ?_
        refine z_if_ne (pc' := 203) (tgt := 217) (off := 17) ⟨by decide +kernel, rfl⟩ rfl (fun h8 => ?_) (fun h8 => ?_)
        · refine z_aload_n (pc' := 204) (k := 0) (i := 0) 0 rfl rfl ⟨by decide +kernel, rfl⟩ ?_
          refine z_getR (pc' := 207) (rff_cold ca D) rfl (y := a 67) rfl ⟨by decide +kernel, rfl⟩ ?_
          refine z_iload_n (pc' := 208) (k := 1) (i := 1) 1 rfl rfl ⟨by decide +kernel, rfl⟩ ?_
          refine z_zald (pc' := 209) 67 rfl (zlt rfl) rfl rfl ⟨by decide +kernel, rfl⟩ ?_
          refine z_if_ne (pc' := 212) (tgt := 217) (off := 8) ⟨by decide +kernel, rfl⟩ rfl (fun h9 => ?_) (fun h9 => ?_)
          · refine z_aload_n (pc' := 213) (k := 0) (i := 0) 0 rfl rfl ⟨by decide +kernel, rfl⟩ ?_
            refine z_iload_n (pc' := 214) (k := 1) (i := 1) 1 rfl rfl ⟨by decide +kernel, rfl⟩ ?_
            refine z_callVf (pc' := 217) 0 (rft_makes n u6 x1) (rfG_makes ca D) (rfO ca D) rfl (by omega) rfl rfl (Nat.le_of_ble_eq_true rfl) ⟨by decide +kernel, rfl⟩ (fun _ u11 => ?_)
            exact z_vret (pc' := 218) ⟨by decide +kernel, rfl⟩
          · exact z_vret (pc' := 218) ⟨by decide +kernel, rfl⟩
        · exact z_vret (pc' := 218) ⟨by decide +kernel, rfl⟩
      · exact z_vret (pc' := 218) ⟨by decide +kernel, rfl⟩
set_option maxRecDepth 20000 in
set_option maxHeartbeats 4000000 in
theorem rf_enters_L71_t {κ : zKx} {ca : Nat → ClassId} {D : va_G} {A : Nat → Prop} {c0 : Nat × Nat} {a g0 g : Nat → Nat} (n : Nat) : ∀ (m : Nat) (u : zMu) (x1 : Int32) (x2 : Int32) (x4 : Int32) (x5 : Int32), zJ κ (zRf ca D) prog_13_method_45_code 6 rf_C none zrv true 1 A c0 a g0 g u 71 [(0, .ref (a 0)), (1, .int x1), (2, .int x2), (4, .int x4), (5, .int x5)] [] (rf_enters_L71 n m u x1 x2 x4 x5) := by
  intro m
  induction m with
  | zero => intro u x1 x2 x4 x5 r u' h; cases h
  | succ m ih =>
    intro u x1 x2 x4 x5
    unfold rf_enters_L71
    refine z_iload (pc' := 73) (i := 5) 4 rfl ⟨by decide +kernel, rfl⟩ ?_
    refine z_bipush (pc' := 75) (n := 12) (v := 12) (by decide) ⟨by decide +kernel, rfl⟩ ?_
    refine z_icmp_ge (pc' := 78) (tgt := 95) (off := 20) ⟨by decide +kernel, rfl⟩ rfl (fun h1 => ?_) (fun h1 => ?_)
    · refine z_aload_n (pc' := 79) (k := 0) (i := 0) 0 rfl rfl ⟨by decide +kernel, rfl⟩ ?_
      refine z_getR (pc' := 82) (rff_varSort ca D) rfl (y := a 28) rfl ⟨by decide +kernel, rfl⟩ ?_
      refine z_iload (pc' := 84) (i := 4) 3 rfl ⟨by decide +kernel, rfl⟩ ?_
      refine z_iload (pc' := 86) (i := 5) 4 rfl ⟨by decide +kernel, rfl⟩ ?_
      refine z_iadd (pc' := 87) ⟨by decide +kernel, rfl⟩ ?_
      refine z_iconst (pc' := 88) (n := 0) (v := 0) (by decide) ⟨by decide +kernel, rfl⟩ ?_
      refine z_iast (pc' := 89) 28 rfl (zlt rfl) rfl rfl ⟨by decide +kernel, rfl⟩ (z_letU fun u2 => ?_)
      refine z_iincN (pc' := 92) (i := 5) (n := 1) (c := 1) 4 rfl (by decide) (by decide) rfl ⟨by decide +kernel, rfl⟩ fun v3 => ?_
      refine z_goto (tgt := 71) (off := -21) (by decide +kernel) rfl ?_
      refine z_lv [1, 2, 3, 4, 0] (lv' := [(0, .ref (a 0)), (1, .int x1), (2, .int x2), (4, .int x4), (5, .int v3)]) rfl ?_
      exact ih u2 x1 x2 x4 v3
    · refine z_aload_n (pc' := 96) (k := 0) (i := 0) 0 rfl rfl ⟨by decide +kernel, rfl⟩ ?_
      refine z_dup (pc' := 97) rfl ⟨by decide +kernel, rfl⟩ ?_
      refine z_getI (pc' := 100) (rff_top ca D) rfl ⟨by decide +kernel, rfl⟩ ?_
      refine z_iload_n (pc' := 101) (k := 2) (i := 2) 2 rfl rfl ⟨by decide +kernel, rfl⟩ ?_
      refine z_isub (pc' := 102) ⟨by decide +kernel, rfl⟩ ?_
      refine z_putI (pc' := 105) (rff_top ca D) rfl ⟨by decide +kernel, rfl⟩ (z_letU fun u4 => ?_)
      refine z_iconst (pc' := 106) (n := 0) (v := 0) (by decide) ⟨by decide +kernel, rfl⟩ ?_
      refine z_istore (pc' := 108) (i := 5) (by decide) rfl ⟨by decide +kernel, rfl⟩ ?_
      refine z_lv [1, 2, 3, 4, 0] (lv' := [(0, .ref (a 0)), (1, .int x1), (2, .int x2), (4, .int x4), (5, .int 0)]) rfl ?_
      exact rf_enters_L108_t n n u4 x1 x2 x4 0
set_option maxRecDepth 20000 in
set_option maxHeartbeats 4000000 in
theorem rf_enters_J49_t {κ : zKx} {ca : Nat → ClassId} {D : va_G} {A : Nat → Prop} {c0 : Nat × Nat} {a g0 g : Nat → Nat} (n : Nat) (u : zMu) (x1 : Int32) (x2 : Int32) : zJ κ (zRf ca D) prog_13_method_45_code 6 rf_C none zrv true 1 A c0 a g0 g u 49 [(0, .ref (a 0)), (1, .int x1), (2, .int x2)] [] (rf_enters_J49 n u x1 x2) := by
  unfold rf_enters_J49
  refine z_aload_n (pc' := 50) (k := 0) (i := 0) 0 rfl rfl ⟨by decide +kernel, rfl⟩ ?_
  refine z_dup (pc' := 51) rfl ⟨by decide +kernel, rfl⟩ ?_
  refine z_getI (pc' := 54) (rff_called ca D) rfl ⟨by decide +kernel, rfl⟩ ?_
  refine z_iconst (pc' := 55) (n := 1) (v := 1) (by decide) ⟨by decide +kernel, rfl⟩ ?_
  refine z_iadd (pc' := 56) ⟨by decide +kernel, rfl⟩ ?_
  refine z_putI (pc' := 59) (rff_called ca D) rfl ⟨by decide +kernel, rfl⟩ (z_letU fun u1 => ?_)
  refine z_bipush (pc' := 61) (n := 12) (v := 12) (by decide) ⟨by decide +kernel, rfl⟩ ?_
  refine z_aload_n (pc' := 62) (k := 0) (i := 0) 0 rfl rfl ⟨by decide +kernel, rfl⟩ ?_
  refine z_getI (pc' := 65) (rff_depth ca D) rfl ⟨by decide +kernel, rfl⟩ ?_
  refine z_imul (pc' := 66) ⟨by decide +kernel, rfl⟩ ?_
  refine z_letI fun v2 => ?_
  refine z_istore (pc' := 68) (i := 4) (by decide) rfl ⟨by decide +kernel, rfl⟩ ?_
  refine z_iconst (pc' := 69) (n := 0) (v := 0) (by decide) ⟨by decide +kernel, rfl⟩ ?_
  refine z_istore (pc' := 71) (i := 5) (by decide) rfl ⟨by decide +kernel, rfl⟩ ?_
  refine z_lv [2, 3, 4, 1, 0] (lv' := [(0, .ref (a 0)), (1, .int x1), (2, .int x2), (4, .int v2), (5, .int 0)]) rfl ?_
  exact rf_enters_L71_t n n u1 x1 x2 v2 0
set_option maxRecDepth 20000 in
set_option maxHeartbeats 4000000 in
theorem rft_enters {l : Launch} {ca : Nat → ClassId} {D : va_G} {a g : Nat → Nat} (n : Nat) (u : zMu) (x1 : Int32) (x2 : Int32) (x3 : Int32) : zMet l (zRf ca D) rfY_enters (.code rfY_enters prog_13_method_45_code 6 none) zrv true 1 a g [.ref (a 0), .int x1, .int x2, .int x3] u (rf_enters n u x1 x2 x3) := by
  refine zMet.of rfl (Nat.le_of_ble_eq_true rfl) fun κ A hl => ?_
  subst hl
  unfold rf_enters
  refine z_aload_n (pc' := 1) (k := 0) (i := 0) 0 rfl rfl ⟨by decide +kernel, rfl⟩ ?_
  refine z_dup (pc' := 2) rfl ⟨by decide +kernel, rfl⟩ ?_
  refine z_getI (pc' := 5) (rff_depth ca D) rfl ⟨by decide +kernel, rfl⟩ ?_
  refine z_iconst (pc' := 6) (n := 1) (v := 1) (by decide) ⟨by decide +kernel, rfl⟩ ?_
  refine z_iadd (pc' := 7) ⟨by decide +kernel, rfl⟩ ?_
  refine z_putI (pc' := 10) (rff_depth ca D) rfl ⟨by decide +kernel, rfl⟩ (z_letU fun u1 => ?_)
  refine z_aload_n (pc' := 11) (k := 0) (i := 0) 0 rfl rfl ⟨by decide +kernel, rfl⟩ ?_
  refine z_getR (pc' := 14) (rff_frameBack ca D) rfl (y := a 29) rfl ⟨by decide +kernel, rfl⟩ ?_
  refine z_aload_n (pc' := 15) (k := 0) (i := 0) 0 rfl rfl ⟨by decide +kernel, rfl⟩ ?_
  refine z_getI (pc' := 18) (rff_depth ca D) rfl ⟨by decide +kernel, rfl⟩ ?_
  refine z_iload_n (pc' := 19) (k := 3) (i := 3) 3 rfl rfl ⟨by decide +kernel, rfl⟩ ?_
  refine z_iast (pc' := 20) 29 rfl (zlt rfl) rfl rfl ⟨by decide +kernel, rfl⟩ (z_letU fun u2 => ?_)
  refine z_aload_n (pc' := 21) (k := 0) (i := 0) 0 rfl rfl ⟨by decide +kernel, rfl⟩ ?_
  refine z_getR (pc' := 24) (rff_frameFn ca D) rfl (y := a 30) rfl ⟨by decide +kernel, rfl⟩ ?_
  refine z_aload_n (pc' := 25) (k := 0) (i := 0) 0 rfl rfl ⟨by decide +kernel, rfl⟩ ?_
  refine z_getI (pc' := 28) (rff_depth ca D) rfl ⟨by decide +kernel, rfl⟩ ?_
  refine z_iload_n (pc' := 29) (k := 1) (i := 1) 1 rfl rfl ⟨by decide +kernel, rfl⟩ ?_
  refine z_iast (pc' := 30) 30 rfl (zlt rfl) rfl rfl ⟨by decide +kernel, rfl⟩ (z_letU fun u3 => ?_)
  refine z_aload_n (pc' := 31) (k := 0) (i := 0) 0 rfl rfl ⟨by decide +kernel, rfl⟩ ?_
  refine z_getI (pc' := 34) (rff_depth ca D) rfl ⟨by decide +kernel, rfl⟩ ?_
  refine z_aload_n (pc' := 35) (k := 0) (i := 0) 0 rfl rfl ⟨by decide +kernel, rfl⟩ ?_
  refine z_getI (pc' := 38) (rff_deepest ca D) rfl ⟨by decide +kernel, rfl⟩ ?_
  refine z_icmp_le (pc' := 41) (tgt := 49) (off := 11) ⟨by decide +kernel, rfl⟩ rfl (fun h4 => ?_) (fun h4 => ?_)
  · refine z_aload_n (pc' := 42) (k := 0) (i := 0) 0 rfl rfl ⟨by decide +kernel, rfl⟩ ?_
    refine z_aload_n (pc' := 43) (k := 0) (i := 0) 0 rfl rfl ⟨by decide +kernel, rfl⟩ ?_
    refine z_getI (pc' := 46) (rff_depth ca D) rfl ⟨by decide +kernel, rfl⟩ ?_
    refine z_putI (pc' := 49) (rff_deepest ca D) rfl ⟨by decide +kernel, rfl⟩ (z_letU fun u5 => ?_)
    refine z_lv [0, 1, 2] (lv' := [(0, .ref (a 0)), (1, .int x1), (2, .int x2)]) rfl ?_
    exact rf_enters_J49_t n u5 x1 x2
  · refine z_lv [0, 1, 2] (lv' := [(0, .ref (a 0)), (1, .int x1), (2, .int x2)]) rfl ?_
    exact rf_enters_J49_t n u3 x1 x2
set_option maxRecDepth 20000 in
set_option maxHeartbeats 4000000 in
theorem rf_leaves_L67_t {κ : zKx} {ca : Nat → ClassId} {D : va_G} {A : Nat → Prop} {c0 : Nat × Nat} {a g0 g : Nat → Nat} (n : Nat) : ∀ (m : Nat) (u : zMu) (x2 : Int32) (x3 : Int32), zJ κ (zRf ca D) prog_13_method_47_code 4 rf_C none zrv true 0 A c0 a g0 g u 67 [(0, .ref (a 0)), (2, .int x2), (3, .int x3)] [] (rf_leaves_L67 n m u x2 x3) := by
  intro m
  induction m with
  | zero => intro u x2 x3 r u' h; cases h
  | succ m ih =>
    intro u x2 x3
    unfold rf_leaves_L67
    refine z_iload_n (pc' := 68) (k := 3) (i := 3) 2 rfl rfl ⟨by decide +kernel, rfl⟩ ?_
    refine z_aload_n (pc' := 69) (k := 0) (i := 0) 0 rfl rfl ⟨by decide +kernel, rfl⟩ ?_
    refine z_getI (pc' := 72) (rff_sites ca D) rfl ⟨by decide +kernel, rfl⟩ ?_
    refine z_icmp_ge (pc' := 75) (tgt := 98) (off := 26) ⟨by decide +kernel, rfl⟩ rfl (fun h1 => ?_) (fun h1 => ?_)
    · refine z_aload_n (pc' := 76) (k := 0) (i := 0) 0 rfl rfl ⟨by decide +kernel, rfl⟩ ?_
      refine z_getR (pc' := 79) (rff_siteFn ca D) rfl (y := a 21) rfl ⟨by decide +kernel, rfl⟩ ?_
      refine z_iload_n (pc' := 80) (k := 3) (i := 3) 2 rfl rfl ⟨by decide +kernel, rfl⟩ ?_
      refine z_iald (pc' := 81) 21 rfl (zlt rfl) rfl rfl ⟨by decide +kernel, rfl⟩ ?_
      refine z_iload_n (pc' := 82) (k := 2) (i := 2) 1 rfl rfl ⟨by decide +kernel, rfl⟩ ?_
      refine z_icmp_ne (pc' := 85) (tgt := 92) (off := 10) ⟨by decide +kernel, rfl⟩ rfl (fun h2 => ?_) (fun h2 => ?_)
      · refine z_aload_n (pc' := 86) (k := 0) (i := 0) 0 rfl rfl ⟨by decide +kernel, rfl⟩ ?_
        refine z_getR (pc' := 89) (rff_guesses ca D) rfl (y := a 59) rfl ⟨by decide +kernel, rfl⟩ ?_
        refine z_iload_n (pc' := 90) (k := 3) (i := 3) 2 rfl rfl ⟨by decide +kernel, rfl⟩ ?_
        refine z_iconst (pc' := 91) (n := 0) (v := 0) (by decide) ⟨by decide +kernel, rfl⟩ ?_
        refine z_iast (pc' := 92) 59 rfl (zlt rfl) rfl rfl ⟨by decide +kernel, rfl⟩ (z_letU fun u3 => ?_)
        refine z_iincN (pc' := 95) (i := 3) (n := 1) (c := 1) 2 rfl (by decide) (by decide) rfl ⟨by decide +kernel, rfl⟩ fun v4 => ?_
        refine z_goto (tgt := 67) (off := -28) (by decide +kernel) rfl ?_
        refine z_lv [1, 2, 0] (lv' := [(0, .ref (a 0)), (2, .int x2), (3, .int v4)]) rfl ?_
        exact ih u3 x2 v4
      · refine z_iincN (pc' := 95) (i := 3) (n := 1) (c := 1) 2 rfl (by decide) (by decide) rfl ⟨by decide +kernel, rfl⟩ fun v5 => ?_
        refine z_goto (tgt := 67) (off := -28) (by decide +kernel) rfl ?_
        refine z_lv [1, 2, 0] (lv' := [(0, .ref (a 0)), (2, .int x2), (3, .int v5)]) rfl ?_
        exact ih u x2 v5
    · exact z_vret (pc' := 99) ⟨by decide +kernel, rfl⟩
set_option maxRecDepth 20000 in
set_option maxHeartbeats 4000000 in
theorem rft_leaves {l : Launch} {ca : Nat → ClassId} {D : va_G} {a g : Nat → Nat} (n : Nat) (u : zMu) (x1 : Int32) : zMet l (zRf ca D) rfY_leaves (.code rfY_leaves prog_13_method_47_code 4 none) zrv true 0 a g [.ref (a 0), .int x1] u (rf_leaves n u x1) := by
  refine zMet.of rfl (Nat.le_of_ble_eq_true rfl) fun κ A hl => ?_
  subst hl
  unfold rf_leaves
  refine z_aload_n (pc' := 1) (k := 0) (i := 0) 0 rfl rfl ⟨by decide +kernel, rfl⟩ ?_
  refine z_getR (pc' := 4) (rff_siteFn ca D) rfl (y := a 21) rfl ⟨by decide +kernel, rfl⟩ ?_
  refine z_iload_n (pc' := 5) (k := 1) (i := 1) 1 rfl rfl ⟨by decide +kernel, rfl⟩ ?_
  refine z_iald (pc' := 6) 21 rfl (zlt rfl) rfl rfl ⟨by decide +kernel, rfl⟩ ?_
  refine z_letI fun v1 => ?_
  refine z_istore_n (pc' := 7) (k := 2) (i := 2) rfl (by decide) rfl ⟨by decide +kernel, rfl⟩ ?_
  refine z_aload_n (pc' := 8) (k := 0) (i := 0) 1 rfl rfl ⟨by decide +kernel, rfl⟩ ?_
  refine z_getR (pc' := 11) (rff_made ca D) rfl (y := a 66) rfl ⟨by decide +kernel, rfl⟩ ?_
  refine z_iload_n (pc' := 12) (k := 2) (i := 2) 0 rfl rfl ⟨by decide +kernel, rfl⟩ ?_
  refine z_iconst (pc' := 13) (n := 0) (v := 0) (by decide) ⟨by decide +kernel, rfl⟩ ?_
  refine z_zast (pc' := 14) 66 rfl (zlt rfl) rfl rfl ⟨by decide +kernel, rfl⟩ (z_letU fun u2 => ?_)
  refine z_aload_n (pc' := 15) (k := 0) (i := 0) 1 rfl rfl ⟨by decide +kernel, rfl⟩ ?_
  refine z_getR (pc' := 18) (rff_fnCount ca D) rfl (y := a 62) rfl ⟨by decide +kernel, rfl⟩ ?_
  refine z_iload_n (pc' := 19) (k := 2) (i := 2) 0 rfl rfl ⟨by decide +kernel, rfl⟩ ?_
  refine z_iconst (pc' := 20) (n := 0) (v := 0) (by decide) ⟨by decide +kernel, rfl⟩ ?_
  refine z_iast (pc' := 21) 62 rfl (zlt rfl) rfl rfl ⟨by decide +kernel, rfl⟩ (z_letU fun u3 => ?_)
  refine z_aload_n (pc' := 22) (k := 0) (i := 0) 1 rfl rfl ⟨by decide +kernel, rfl⟩ ?_
  refine z_getR (pc' := 25) (rff_fnLeft ca D) rfl (y := a 64) rfl ⟨by decide +kernel, rfl⟩ ?_
  refine z_iload_n (pc' := 26) (k := 2) (i := 2) 0 rfl rfl ⟨by decide +kernel, rfl⟩ ?_
  refine z_dup2_11 (pc' := 27) rfl rfl ⟨by decide +kernel, rfl⟩ ?_
  refine z_iald (pc' := 28) 64 rfl (zlt rfl) rfl rfl ⟨by decide +kernel, rfl⟩ ?_
  refine z_iconst (pc' := 29) (n := 1) (v := 1) (by decide) ⟨by decide +kernel, rfl⟩ ?_
  refine z_iadd (pc' := 30) ⟨by decide +kernel, rfl⟩ ?_
  refine z_iast (pc' := 31) 64 rfl (zlt rfl) rfl rfl ⟨by decide +kernel, rfl⟩ (z_letU fun u4 => ?_)
  refine z_aload_n (pc' := 32) (k := 0) (i := 0) 1 rfl rfl ⟨by decide +kernel, rfl⟩ ?_
  refine z_dup (pc' := 33) rfl ⟨by decide +kernel, rfl⟩ ?_
  refine z_getI (pc' := 36) (rff_leftN ca D) rfl ⟨by decide +kernel, rfl⟩ ?_
  refine z_iconst (pc' := 37) (n := 1) (v := 1) (by decide) ⟨by decide +kernel, rfl⟩ ?_
  refine z_iadd (pc' := 38) ⟨by decide +kernel, rfl⟩ ?_
  refine z_putI (pc' := 41) (rff_leftN ca D) rfl ⟨by decide +kernel, rfl⟩ (z_letU fun u5 => ?_)
  refine z_aload_n (pc' := 42) (k := 0) (i := 0) 1 rfl rfl ⟨by decide +kernel, rfl⟩ ?_
  refine z_getR (pc' := 45) (rff_fnSite ca D) rfl (y := a 65) rfl ⟨by decide +kernel, rfl⟩ ?_
  refine z_iload_n (pc' := 46) (k := 2) (i := 2) 0 rfl rfl ⟨by decide +kernel, rfl⟩ ?_
  refine z_iload_n (pc' := 47) (k := 1) (i := 1) 2 rfl rfl ⟨by decide +kernel, rfl⟩ ?_
  refine z_iast (pc' := 48) 65 rfl (zlt rfl) rfl rfl ⟨by decide +kernel, rfl⟩ (z_letU fun u6 => ?_)
  refine z_aload_n (pc' := 49) (k := 0) (i := 0) 1 rfl rfl ⟨by decide +kernel, rfl⟩ ?_
  refine z_getR (pc' := 52) (rff_fnLeft ca D) rfl (y := a 64) rfl ⟨by decide +kernel, rfl⟩ ?_
  refine z_iload_n (pc' := 53) (k := 2) (i := 2) 0 rfl rfl ⟨by decide +kernel, rfl⟩ ?_
  refine z_iald (pc' := 54) 64 rfl (zlt rfl) rfl rfl ⟨by decide +kernel, rfl⟩ ?_
  refine z_iconst (pc' := 55) (n := 3) (v := 3) (by decide) ⟨by decide +kernel, rfl⟩ ?_
  refine z_icmp_ne (pc' := 58) (tgt := 65) (off := 10) ⟨by decide +kernel, rfl⟩ rfl (fun h7 => ?_) (fun h7 => ?_)
  · refine z_aload_n (pc' := 59) (k := 0) (i := 0) 1 rfl rfl ⟨by decide +kernel, rfl⟩ ?_
    refine z_getR (pc' := 62) (rff_cold ca D) rfl (y := a 67) rfl ⟨by decide +kernel, rfl⟩ ?_
    refine z_iload_n (pc' := 63) (k := 2) (i := 2) 0 rfl rfl ⟨by decide +kernel, rfl⟩ ?_
    refine z_iconst (pc' := 64) (n := 1) (v := 1) (by decide) ⟨by decide +kernel, rfl⟩ ?_
    refine z_zast (pc' := 65) 67 rfl (zlt rfl) rfl rfl ⟨by decide +kernel, rfl⟩ (z_letU fun u8 => ?_)
    refine z_iconst (pc' := 66) (n := 0) (v := 0) (by decide) ⟨by decide +kernel, rfl⟩ ?_
    refine z_istore_n (pc' := 67) (k := 3) (i := 3) rfl (by decide) rfl ⟨by decide +kernel, rfl⟩ ?_
    refine z_lv [2, 1, 0] (lv' := [(0, .ref (a 0)), (2, .int v1), (3, .int 0)]) rfl ?_
    exact rf_leaves_L67_t n n u8 v1 0
  · refine z_iconst (pc' := 66) (n := 0) (v := 0) (by decide) ⟨by decide +kernel, rfl⟩ ?_
    refine z_istore_n (pc' := 67) (k := 3) (i := 3) rfl (by decide) rfl ⟨by decide +kernel, rfl⟩ ?_
    refine z_lv [2, 1, 0] (lv' := [(0, .ref (a 0)), (2, .int v1), (3, .int 0)]) rfl ?_
    exact rf_leaves_L67_t n n u6 v1 0
set_option maxRecDepth 20000 in
set_option maxHeartbeats 4000000 in
theorem rf_sums_J155_t {κ : zKx} {ca : Nat → ClassId} {D : va_G} {A : Nat → Prop} {c0 : Nat × Nat} {a g0 g : Nat → Nat} (n : Nat) (u : zMu) (x1 : Int32) (x10 : Int32) (s1 : Int32) (s2 : Int32) (s3 : Int32) : zJ κ (zRf ca D) prog_13_method_49_code 11 rf_C (some .int) zri true 1 A c0 a g0 g u 155 [(0, .ref (a 0)), (1, .int x1), (10, .int x10)] [.int s3, .int s2, .int s1, .ref (a 54)] (rf_sums_J155 n u x1 x10 s1 s2 s3) := by
  unfold rf_sums_J155
  refine z_ior (pc' := 156) ⟨by decide +kernel, rfl⟩ ?_
  refine z_iast (pc' := 157) 54 rfl (zlt rfl) rfl rfl ⟨by decide +kernel, rfl⟩ (z_letU fun u1 => ?_)
  refine z_iload (pc' := 159) (i := 10) 2 rfl ⟨by decide +kernel, rfl⟩ ?_
  refine z_if_ne (pc' := 162) (tgt := 176) (off := 17) ⟨by decide +kernel, rfl⟩ rfl (fun h2 => ?_) (fun h2 => ?_)
  · refine z_aload_n (pc' := 163) (k := 0) (i := 0) 0 rfl rfl ⟨by decide +kernel, rfl⟩ ?_
    refine z_getR (pc' := 166) (rff_guesses ca D) rfl (y := a 59) rfl ⟨by decide +kernel, rfl⟩ ?_
    refine z_iload_n (pc' := 167) (k := 1) (i := 1) 1 rfl rfl ⟨by decide +kernel, rfl⟩ ?_
    refine z_iald (pc' := 168) 59 rfl (zlt rfl) rfl rfl ⟨by decide +kernel, rfl⟩ ?_
    refine z_if_le (pc' := 171) (tgt := 176) (off := 8) ⟨by decide +kernel, rfl⟩ rfl (fun h3 => ?_) (fun h3 => ?_)
    · refine z_aload_n (pc' := 172) (k := 0) (i := 0) 0 rfl rfl ⟨by decide +kernel, rfl⟩ ?_
      refine z_iload_n (pc' := 173) (k := 1) (i := 1) 1 rfl rfl ⟨by decide +kernel, rfl⟩ ?_
      refine z_callVf (pc' := 176) 0 (rft_leaves n u1 x1) (rfG_leaves ca D) (rfO ca D) rfl (by omega) rfl rfl (Nat.le_of_ble_eq_true rfl) ⟨by decide +kernel, rfl⟩ (fun _ u5 => ?_)
      refine z_iconst (pc' := 177) (n := (-1)) (v := (-1)) (by decide) ⟨by decide +kernel, rfl⟩ ?_
      exact z_iret (pc' := 178) ⟨by decide +kernel, rfl⟩
    · refine z_iconst (pc' := 177) (n := (-1)) (v := (-1)) (by decide) ⟨by decide +kernel, rfl⟩ ?_
      exact z_iret (pc' := 178) ⟨by decide +kernel, rfl⟩
  · refine z_iconst (pc' := 177) (n := (-1)) (v := (-1)) (by decide) ⟨by decide +kernel, rfl⟩ ?_
    exact z_iret (pc' := 178) ⟨by decide +kernel, rfl⟩
set_option maxRecDepth 20000 in
set_option maxHeartbeats 4000000 in
theorem rf_sums_J102_t {κ : zKx} {ca : Nat → ClassId} {D : va_G} {A : Nat → Prop} {c0 : Nat × Nat} {a g0 g : Nat → Nat} (n : Nat) (u : zMu) (x1 : Int32) (s0 : Int64) : zJ κ (zRf ca D) prog_13_method_49_code 11 rf_C (some .int) zri true 1 A c0 a g0 g u 102 [(0, .ref (a 0)), (1, .int x1)] [.long s0] (rf_sums_J102 n u x1 s0) := by
  unfold rf_sums_J102
  refine z_lstore (pc' := 104) (i := 8) (by decide) rfl ⟨by decide +kernel, rfl⟩ ?_
  refine z_aload_n (pc' := 105) (k := 0) (i := 0) 1 rfl rfl ⟨by decide +kernel, rfl⟩ ?_
  refine z_getR (pc' := 108) (rff_vNum ca D) rfl (y := a 31) rfl ⟨by decide +kernel, rfl⟩ ?_
  refine z_aload_n (pc' := 109) (k := 0) (i := 0) 1 rfl rfl ⟨by decide +kernel, rfl⟩ ?_
  refine z_getI (pc' := 112) (rff_top ca D) rfl ⟨by decide +kernel, rfl⟩ ?_
  refine z_iconst (pc' := 113) (n := 1) (v := 1) (by decide) ⟨by decide +kernel, rfl⟩ ?_
  refine z_isub (pc' := 114) ⟨by decide +kernel, rfl⟩ ?_
  refine z_lload (pc' := 116) (i := 8) 0 rfl ⟨by decide +kernel, rfl⟩ ?_
  refine z_last (pc' := 117) 31 rfl (zlt rfl) rfl rfl ⟨by decide +kernel, rfl⟩ (z_letU fun u1 => ?_)
  refine z_aload_n (pc' := 118) (k := 0) (i := 0) 1 rfl rfl ⟨by decide +kernel, rfl⟩ ?_
  refine z_getR (pc' := 121) (rff_ran ca D) rfl (y := a 52) rfl ⟨by decide +kernel, rfl⟩ ?_
  refine z_iload_n (pc' := 122) (k := 1) (i := 1) 2 rfl rfl ⟨by decide +kernel, rfl⟩ ?_
  refine z_dup2_11 (pc' := 123) rfl rfl ⟨by decide +kernel, rfl⟩ ?_
  refine z_iald (pc' := 124) 52 rfl (zlt rfl) rfl rfl ⟨by decide +kernel, rfl⟩ ?_
  refine z_iconst (pc' := 125) (n := 1) (v := 1) (by decide) ⟨by decide +kernel, rfl⟩ ?_
  refine z_iadd (pc' := 126) ⟨by decide +kernel, rfl⟩ ?_
  refine z_iast (pc' := 127) 52 rfl (zlt rfl) rfl rfl ⟨by decide +kernel, rfl⟩ (z_letU fun u2 => ?_)
  refine z_lload (pc' := 129) (i := 8) 0 rfl ⟨by decide +kernel, rfl⟩ ?_
  refine z_callSf (pc' := 132) (rft_isWhole n u2 s0) (rfG_isWhole ca D) (by omega) rfl rfl (Nat.le_of_ble_eq_true rfl) ⟨by decide +kernel, rfl⟩ (fun r3 u4 => ?_)
  refine z_istore (pc' := 134) (i := 10) (by decide) rfl ⟨by decide +kernel, rfl⟩ ?_
  refine z_aload_n (pc' := 135) (k := 0) (i := 0) 2 rfl rfl ⟨by decide +kernel, rfl⟩ ?_
  refine z_getR (pc' := 138) (rff_entries ca D) rfl (y := a 54) rfl ⟨by decide +kernel, rfl⟩ ?_
  refine z_iload_n (pc' := 139) (k := 1) (i := 1) 3 rfl rfl ⟨by decide +kernel, rfl⟩ ?_
  refine z_aload_n (pc' := 140) (k := 0) (i := 0) 2 rfl rfl ⟨by decide +kernel, rfl⟩ ?_
  refine z_getR (pc' := 143) (rff_entries ca D) rfl (y := a 54) rfl ⟨by decide +kernel, rfl⟩ ?_
  refine z_iload_n (pc' := 144) (k := 1) (i := 1) 3 rfl rfl ⟨by decide +kernel, rfl⟩ ?_
  refine z_iald (pc' := 145) 54 rfl (zlt rfl) rfl rfl ⟨by decide +kernel, rfl⟩ ?_
  refine z_iload (pc' := 147) (i := 10) 0 rfl ⟨by decide +kernel, rfl⟩ ?_
  refine z_if_eq (pc' := 150) (tgt := 154) (off := 7) ⟨by decide +kernel, rfl⟩ rfl (fun h5 => ?_) (fun h5 => ?_)
  · refine z_iconst (pc' := 155) (n := 2) (v := 2) (by decide) ⟨by decide +kernel, rfl⟩ ?_
    refine z_lv [2, 3, 0] (lv' := [(0, .ref (a 0)), (1, .int x1), (10, .int r3)]) rfl ?_
    exact rf_sums_J155_t n u4 x1 r3 x1 (zI u4 54 (zx x1)) 2
  · refine z_iconst (pc' := 151) (n := 1) (v := 1) (by decide) ⟨by decide +kernel, rfl⟩ ?_
    refine z_goto (tgt := 155) (off := 4) (by decide +kernel) rfl ?_
    refine z_lv [2, 3, 0] (lv' := [(0, .ref (a 0)), (1, .int x1), (10, .int r3)]) rfl ?_
    exact rf_sums_J155_t n u4 x1 r3 x1 (zI u4 54 (zx x1)) 1
set_option maxRecDepth 20000 in
set_option maxHeartbeats 4000000 in
theorem rft_sums {l : Launch} {ca : Nat → ClassId} {D : va_G} {a g : Nat → Nat} (n : Nat) (u : zMu) (x1 : Int32) (x2 : Int32) (x3 : Int32) : zMet l (zRf ca D) rfY_sums (.code rfY_sums prog_13_method_49_code 11 (some .int)) zri true 1 a g [.ref (a 0), .int x1, .int x2, .int x3] u (rf_sums n u x1 x2 x3) := by
  refine zMet.of rfl (Nat.le_of_ble_eq_true rfl) fun κ A hl => ?_
  subst hl
  unfold rf_sums
  refine z_aload_n (pc' := 1) (k := 0) (i := 0) 0 rfl rfl ⟨by decide +kernel, rfl⟩ ?_
  refine z_dup (pc' := 2) rfl ⟨by decide +kernel, rfl⟩ ?_
  refine z_getI (pc' := 5) (rff_top ca D) rfl ⟨by decide +kernel, rfl⟩ ?_
  refine z_iconst (pc' := 6) (n := 1) (v := 1) (by decide) ⟨by decide +kernel, rfl⟩ ?_
  refine z_isub (pc' := 7) ⟨by decide +kernel, rfl⟩ ?_
  refine z_putI (pc' := 10) (rff_top ca D) rfl ⟨by decide +kernel, rfl⟩ (z_letU fun u1 => ?_)
  refine z_aload_n (pc' := 11) (k := 0) (i := 0) 0 rfl rfl ⟨by decide +kernel, rfl⟩ ?_
  refine z_getR (pc' := 14) (rff_vSort ca D) rfl (y := a 27) rfl ⟨by decide +kernel, rfl⟩ ?_
  refine z_aload_n (pc' := 15) (k := 0) (i := 0) 0 rfl rfl ⟨by decide +kernel, rfl⟩ ?_
  refine z_getI (pc' := 18) (rff_top ca D) rfl ⟨by decide +kernel, rfl⟩ ?_
  refine z_iald (pc' := 19) 27 rfl (zlt rfl) rfl rfl ⟨by decide +kernel, rfl⟩ ?_
  refine z_iconst (pc' := 20) (n := 1) (v := 1) (by decide) ⟨by decide +kernel, rfl⟩ ?_
  refine z_icmp_ne (pc' := 23) (tgt := 38) (off := 18) ⟨by decide +kernel, rfl⟩ rfl (fun h2 => ?_) (fun h2 => ?_)
  · refine z_aload_n (pc' := 24) (k := 0) (i := 0) 0 rfl rfl ⟨by decide +kernel, rfl⟩ ?_
    refine z_getR (pc' := 27) (rff_vSort ca D) rfl (y := a 27) rfl ⟨by decide +kernel, rfl⟩ ?_
    refine z_aload_n (pc' := 28) (k := 0) (i := 0) 0 rfl rfl ⟨by decide +kernel, rfl⟩ ?_
    refine z_getI (pc' := 31) (rff_top ca D) rfl ⟨by decide +kernel, rfl⟩ ?_
    refine z_iconst (pc' := 32) (n := 1) (v := 1) (by decide) ⟨by decide +kernel, rfl⟩ ?_
    refine z_isub (pc' := 33) ⟨by decide +kernel, rfl⟩ ?_
    refine z_iald (pc' := 34) 27 rfl (zlt rfl) rfl rfl ⟨by decide +kernel, rfl⟩ ?_
    refine z_iconst (pc' := 35) (n := 1) (v := 1) (by decide) ⟨by decide +kernel, rfl⟩ ?_
    refine z_icmp_eq (pc' := 38) (tgt := 45) (off := 10) ⟨by decide +kernel, rfl⟩ rfl (fun h3 => ?_) (fun h3 => ?_)
    · refine z_aload_n (pc' := 46) (k := 0) (i := 0) 0 rfl rfl ⟨by decide +kernel, rfl⟩ ?_
      refine z_getR (pc' := 49) (rff_vNum ca D) rfl (y := a 31) rfl ⟨by decide +kernel, rfl⟩ ?_
      refine z_aload_n (pc' := 50) (k := 0) (i := 0) 0 rfl rfl ⟨by decide +kernel, rfl⟩ ?_
      refine z_getI (pc' := 53) (rff_top ca D) rfl ⟨by decide +kernel, rfl⟩ ?_
      refine z_iconst (pc' := 54) (n := 1) (v := 1) (by decide) ⟨by decide +kernel, rfl⟩ ?_
      refine z_isub (pc' := 55) ⟨by decide +kernel, rfl⟩ ?_
      refine z_lald (pc' := 56) 31 rfl (zlt rfl) rfl rfl ⟨by decide +kernel, rfl⟩ ?_
      refine z_letL fun v4 => ?_
      refine z_lstore (pc' := 58) (i := 4) (by decide) rfl ⟨by decide +kernel, rfl⟩ ?_
      refine z_aload_n (pc' := 59) (k := 0) (i := 0) 1 rfl rfl ⟨by decide +kernel, rfl⟩ ?_
      refine z_getR (pc' := 62) (rff_vNum ca D) rfl (y := a 31) rfl ⟨by decide +kernel, rfl⟩ ?_
      refine z_aload_n (pc' := 63) (k := 0) (i := 0) 1 rfl rfl ⟨by decide +kernel, rfl⟩ ?_
      refine z_getI (pc' := 66) (rff_top ca D) rfl ⟨by decide +kernel, rfl⟩ ?_
      refine z_lald (pc' := 67) 31 rfl (zlt rfl) rfl rfl ⟨by decide +kernel, rfl⟩ ?_
      refine z_letL fun v5 => ?_
      refine z_lstore (pc' := 69) (i := 6) (by decide) rfl ⟨by decide +kernel, rfl⟩ ?_
      refine z_iload_n (pc' := 70) (k := 2) (i := 2) 4 rfl rfl ⟨by decide +kernel, rfl⟩ ?_
      refine z_bipush (pc' := 72) (n := 43) (v := 43) (by decide) ⟨by decide +kernel, rfl⟩ ?_
      refine z_icmp_ne (pc' := 75) (tgt := 83) (off := 11) ⟨by decide +kernel, rfl⟩ rfl (fun h6 => ?_) (fun h6 => ?_)
      · refine z_lload (pc' := 77) (i := 4) 1 rfl ⟨by decide +kernel, rfl⟩ ?_
        refine z_lload (pc' := 79) (i := 6) 0 rfl ⟨by decide +kernel, rfl⟩ ?_
        refine z_ladd (pc' := 80) ⟨by decide +kernel, rfl⟩ ?_
        refine z_goto (tgt := 102) (off := 22) (by decide +kernel) rfl ?_
        refine z_lv [2, 3] (lv' := [(0, .ref (a 0)), (1, .int x1)]) rfl ?_
        exact rf_sums_J102_t n u1 x1 (v4 + v5)
      · refine z_iload_n (pc' := 84) (k := 2) (i := 2) 4 rfl rfl ⟨by decide +kernel, rfl⟩ ?_
        refine z_bipush (pc' := 86) (n := 45) (v := 45) (by decide) ⟨by decide +kernel, rfl⟩ ?_
        refine z_icmp_ne (pc' := 89) (tgt := 97) (off := 11) ⟨by decide +kernel, rfl⟩ rfl (fun h7 => ?_) (fun h7 => ?_)
        · refine z_lload (pc' := 91) (i := 4) 1 rfl ⟨by decide +kernel, rfl⟩ ?_
          refine z_lload (pc' := 93) (i := 6) 0 rfl ⟨by decide +kernel, rfl⟩ ?_
          refine z_lsub (pc' := 94) ⟨by decide +kernel, rfl⟩ ?_
          refine z_goto (tgt := 102) (off := 8) (by decide +kernel) rfl ?_
          refine z_lv [2, 3] (lv' := [(0, .ref (a 0)), (1, .int x1)]) rfl ?_
          exact rf_sums_J102_t n u1 x1 (v4 - v5)
        · refine z_lload (pc' := 99) (i := 4) 1 rfl ⟨by decide +kernel, rfl⟩ ?_
          refine z_lload (pc' := 101) (i := 6) 0 rfl ⟨by decide +kernel, rfl⟩ ?_
          refine z_lmul (pc' := 102) ⟨by decide +kernel, rfl⟩ ?_
          refine z_lv [2, 3] (lv' := [(0, .ref (a 0)), (1, .int x1)]) rfl ?_
          exact rf_sums_J102_t n u1 x1 (v4 * v5)
    · refine z_aload_n (pc' := 39) (k := 0) (i := 0) 0 rfl rfl ⟨by decide +kernel, rfl⟩ ?_
      refine z_iconst (pc' := 40) (n := 1) (v := 1) (by decide) ⟨by decide +kernel, rfl⟩ ?_
      refine z_iload_n (pc' := 41) (k := 3) (i := 3) 3 rfl rfl ⟨by decide +kernel, rfl⟩ ?_
      refine z_callVf (pc' := 44) 0 (rft_fails n u1 1 x3) (rfG_fails ca D) (rfO ca D) rfl (by omega) rfl rfl (Nat.le_of_ble_eq_true rfl) ⟨by decide +kernel, rfl⟩ (fun r8 u9 => ?_)
      exact z_iret (pc' := 45) ⟨by decide +kernel, rfl⟩
  · refine z_aload_n (pc' := 39) (k := 0) (i := 0) 0 rfl rfl ⟨by decide +kernel, rfl⟩ ?_
    refine z_iconst (pc' := 40) (n := 1) (v := 1) (by decide) ⟨by decide +kernel, rfl⟩ ?_
    refine z_iload_n (pc' := 41) (k := 3) (i := 3) 3 rfl rfl ⟨by decide +kernel, rfl⟩ ?_
    refine z_callVf (pc' := 44) 0 (rft_fails n u1 1 x3) (rfG_fails ca D) (rfO ca D) rfl (by omega) rfl rfl (Nat.le_of_ble_eq_true rfl) ⟨by decide +kernel, rfl⟩ (fun r10 u11 => ?_)
    exact z_iret (pc' := 45) ⟨by decide +kernel, rfl⟩
set_option maxRecDepth 20000 in
set_option maxHeartbeats 4000000 in
theorem rf_shapeOf_L3_t {κ : zKx} {ca : Nat → ClassId} {D : va_G} {A : Nat → Prop} {c0 : Nat × Nat} {a g0 g : Nat → Nat} (n : Nat) : ∀ (m : Nat) (u : zMu) (x1 : Int32) (x2 : Int32) (x3 : Int32) (x4 : Int32), zJ κ (zRf ca D) prog_13_method_50_code 5 rf_C (some .int) zri true 0 A c0 a g0 g u 3 [(0, .ref (a 0)), (1, .int x1), (2, .int x2), (3, .int x3), (4, .int x4)] [] (rf_shapeOf_L3 n m u x1 x2 x3 x4) := by
  intro m
  induction m with
  | zero => intro u x1 x2 x3 x4 r u' h; cases h
  | succ m ih =>
    intro u x1 x2 x3 x4
    unfold rf_shapeOf_L3
    refine z_iload (pc' := 5) (i := 4) 4 rfl ⟨by decide +kernel, rfl⟩ ?_
    refine z_aload_n (pc' := 6) (k := 0) (i := 0) 0 rfl rfl ⟨by decide +kernel, rfl⟩ ?_
    refine z_getI (pc' := 9) (rff_shapes ca D) rfl ⟨by decide +kernel, rfl⟩ ?_
    refine z_icmp_ge (pc' := 12) (tgt := 54) (off := 45) ⟨by decide +kernel, rfl⟩ rfl (fun h1 => ?_) (fun h1 => ?_)
    · refine z_aload_n (pc' := 13) (k := 0) (i := 0) 0 rfl rfl ⟨by decide +kernel, rfl⟩ ?_
      refine z_getR (pc' := 16) (rff_sParent ca D) rfl (y := a 44) rfl ⟨by decide +kernel, rfl⟩ ?_
      refine z_iload (pc' := 18) (i := 4) 4 rfl ⟨by decide +kernel, rfl⟩ ?_
      refine z_iald (pc' := 19) 44 rfl (zlt rfl) rfl rfl ⟨by decide +kernel, rfl⟩ ?_
      refine z_iload_n (pc' := 20) (k := 1) (i := 1) 1 rfl rfl ⟨by decide +kernel, rfl⟩ ?_
      refine z_icmp_ne (pc' := 23) (tgt := 48) (off := 28) ⟨by decide +kernel, rfl⟩ rfl (fun h2 => ?_) (fun h2 => ?_)
      · refine z_aload_n (pc' := 24) (k := 0) (i := 0) 0 rfl rfl ⟨by decide +kernel, rfl⟩ ?_
        refine z_getR (pc' := 27) (rff_sUp ca D) rfl (y := a 45) rfl ⟨by decide +kernel, rfl⟩ ?_
        refine z_iload (pc' := 29) (i := 4) 4 rfl ⟨by decide +kernel, rfl⟩ ?_
        refine z_iald (pc' := 30) 45 rfl (zlt rfl) rfl rfl ⟨by decide +kernel, rfl⟩ ?_
        refine z_iload_n (pc' := 31) (k := 2) (i := 2) 2 rfl rfl ⟨by decide +kernel, rfl⟩ ?_
        refine z_icmp_ne (pc' := 34) (tgt := 48) (off := 17) ⟨by decide +kernel, rfl⟩ rfl (fun h3 => ?_) (fun h3 => ?_)
        · refine z_aload_n (pc' := 35) (k := 0) (i := 0) 0 rfl rfl ⟨by decide +kernel, rfl⟩ ?_
          refine z_getR (pc' := 38) (rff_sName ca D) rfl (y := a 46) rfl ⟨by decide +kernel, rfl⟩ ?_
          refine z_iload (pc' := 40) (i := 4) 4 rfl ⟨by decide +kernel, rfl⟩ ?_
          refine z_iald (pc' := 41) 46 rfl (zlt rfl) rfl rfl ⟨by decide +kernel, rfl⟩ ?_
          refine z_iload_n (pc' := 42) (k := 3) (i := 3) 3 rfl rfl ⟨by decide +kernel, rfl⟩ ?_
          refine z_icmp_ne (pc' := 45) (tgt := 48) (off := 6) ⟨by decide +kernel, rfl⟩ rfl (fun h4 => ?_) (fun h4 => ?_)
          · refine z_iload (pc' := 47) (i := 4) 4 rfl ⟨by decide +kernel, rfl⟩ ?_
            exact z_iret (pc' := 48) ⟨by decide +kernel, rfl⟩
          · refine z_iincN (pc' := 51) (i := 4) (n := 1) (c := 1) 4 rfl (by decide) (by decide) rfl ⟨by decide +kernel, rfl⟩ fun v5 => ?_
            refine z_goto (tgt := 3) (off := -48) (by decide +kernel) rfl ?_
            refine z_lv [1, 2, 3, 4, 0] (lv' := [(0, .ref (a 0)), (1, .int x1), (2, .int x2), (3, .int x3), (4, .int v5)]) rfl ?_
            exact ih u x1 x2 x3 v5
        · refine z_iincN (pc' := 51) (i := 4) (n := 1) (c := 1) 4 rfl (by decide) (by decide) rfl ⟨by decide +kernel, rfl⟩ fun v6 => ?_
          refine z_goto (tgt := 3) (off := -48) (by decide +kernel) rfl ?_
          refine z_lv [1, 2, 3, 4, 0] (lv' := [(0, .ref (a 0)), (1, .int x1), (2, .int x2), (3, .int x3), (4, .int v6)]) rfl ?_
          exact ih u x1 x2 x3 v6
      · refine z_iincN (pc' := 51) (i := 4) (n := 1) (c := 1) 4 rfl (by decide) (by decide) rfl ⟨by decide +kernel, rfl⟩ fun v7 => ?_
        refine z_goto (tgt := 3) (off := -48) (by decide +kernel) rfl ?_
        refine z_lv [1, 2, 3, 4, 0] (lv' := [(0, .ref (a 0)), (1, .int x1), (2, .int x2), (3, .int x3), (4, .int v7)]) rfl ?_
        exact ih u x1 x2 x3 v7
    · refine z_aload_n (pc' := 55) (k := 0) (i := 0) 0 rfl rfl ⟨by decide +kernel, rfl⟩ ?_
      refine z_getR (pc' := 58) (rff_sParent ca D) rfl (y := a 44) rfl ⟨by decide +kernel, rfl⟩ ?_
      refine z_aload_n (pc' := 59) (k := 0) (i := 0) 0 rfl rfl ⟨by decide +kernel, rfl⟩ ?_
      refine z_getI (pc' := 62) (rff_shapes ca D) rfl ⟨by decide +kernel, rfl⟩ ?_
      refine z_iload_n (pc' := 63) (k := 1) (i := 1) 1 rfl rfl ⟨by decide +kernel, rfl⟩ ?_
      refine z_iast (pc' := 64) 44 rfl (zlt rfl) rfl rfl ⟨by decide +kernel, rfl⟩ (z_letU fun u8 => ?_)
      refine z_aload_n (pc' := 65) (k := 0) (i := 0) 0 rfl rfl ⟨by decide +kernel, rfl⟩ ?_
      refine z_getR (pc' := 68) (rff_sUp ca D) rfl (y := a 45) rfl ⟨by decide +kernel, rfl⟩ ?_
      refine z_aload_n (pc' := 69) (k := 0) (i := 0) 0 rfl rfl ⟨by decide +kernel, rfl⟩ ?_
      refine z_getI (pc' := 72) (rff_shapes ca D) rfl ⟨by decide +kernel, rfl⟩ ?_
      refine z_iload_n (pc' := 73) (k := 2) (i := 2) 2 rfl rfl ⟨by decide +kernel, rfl⟩ ?_
      refine z_iast (pc' := 74) 45 rfl (zlt rfl) rfl rfl ⟨by decide +kernel, rfl⟩ (z_letU fun u9 => ?_)
      refine z_aload_n (pc' := 75) (k := 0) (i := 0) 0 rfl rfl ⟨by decide +kernel, rfl⟩ ?_
      refine z_getR (pc' := 78) (rff_sName ca D) rfl (y := a 46) rfl ⟨by decide +kernel, rfl⟩ ?_
      refine z_aload_n (pc' := 79) (k := 0) (i := 0) 0 rfl rfl ⟨by decide +kernel, rfl⟩ ?_
      refine z_getI (pc' := 82) (rff_shapes ca D) rfl ⟨by decide +kernel, rfl⟩ ?_
      refine z_iload_n (pc' := 83) (k := 3) (i := 3) 3 rfl rfl ⟨by decide +kernel, rfl⟩ ?_
      refine z_iast (pc' := 84) 46 rfl (zlt rfl) rfl rfl ⟨by decide +kernel, rfl⟩ (z_letU fun u10 => ?_)
      refine z_aload_n (pc' := 85) (k := 0) (i := 0) 0 rfl rfl ⟨by decide +kernel, rfl⟩ ?_
      refine z_getR (pc' := 88) (rff_sSize ca D) rfl (y := a 47) rfl ⟨by decide +kernel, rfl⟩ ?_
      refine z_aload_n (pc' := 89) (k := 0) (i := 0) 0 rfl rfl ⟨by decide +kernel, rfl⟩ ?_
      refine z_getI (pc' := 92) (rff_shapes ca D) rfl ⟨by decide +kernel, rfl⟩ ?_
      refine z_iload_n (pc' := 93) (k := 2) (i := 2) 2 rfl rfl ⟨by decide +kernel, rfl⟩ ?_
      refine z_iconst (pc' := 94) (n := (-1)) (v := (-1)) (by decide) ⟨by decide +kernel, rfl⟩ ?_
      refine z_icmp_ne (pc' := 97) (tgt := 101) (off := 7) ⟨by decide +kernel, rfl⟩ rfl (fun h11 => ?_) (fun h11 => ?_)
      · refine z_iconst (pc' := 98) (n := 0) (v := 0) (by decide) ⟨by decide +kernel, rfl⟩ ?_
        refine z_goto (tgt := 109) (off := 11) (by decide +kernel) rfl ?_
        refine z_iast (pc' := 110) 47 rfl (zlt rfl) rfl rfl ⟨by decide +kernel, rfl⟩ (z_letU fun u12 => ?_)
        refine z_aload_n (pc' := 111) (k := 0) (i := 0) 0 rfl rfl ⟨by decide +kernel, rfl⟩ ?_
        refine z_dup (pc' := 112) rfl ⟨by decide +kernel, rfl⟩ ?_
        refine z_getI (pc' := 115) (rff_shapes ca D) rfl ⟨by decide +kernel, rfl⟩ ?_
        refine z_letI fun v13 => ?_
        refine z_dup_x1 (pc' := 116) rfl rfl ⟨by decide +kernel, rfl⟩ ?_
        refine z_iconst (pc' := 117) (n := 1) (v := 1) (by decide) ⟨by decide +kernel, rfl⟩ ?_
        refine z_iadd (pc' := 118) ⟨by decide +kernel, rfl⟩ ?_
        refine z_putI (pc' := 121) (rff_shapes ca D) rfl ⟨by decide +kernel, rfl⟩ (z_letU fun u14 => ?_)
        exact z_iret (pc' := 122) ⟨by decide +kernel, rfl⟩
      · refine z_aload_n (pc' := 102) (k := 0) (i := 0) 0 rfl rfl ⟨by decide +kernel, rfl⟩ ?_
        refine z_getR (pc' := 105) (rff_sSize ca D) rfl (y := a 47) rfl ⟨by decide +kernel, rfl⟩ ?_
        refine z_iload_n (pc' := 106) (k := 2) (i := 2) 2 rfl rfl ⟨by decide +kernel, rfl⟩ ?_
        refine z_iald (pc' := 107) 47 rfl (zlt rfl) rfl rfl ⟨by decide +kernel, rfl⟩ ?_
        refine z_iconst (pc' := 108) (n := 1) (v := 1) (by decide) ⟨by decide +kernel, rfl⟩ ?_
        refine z_iadd (pc' := 109) ⟨by decide +kernel, rfl⟩ ?_
        refine z_iast (pc' := 110) 47 rfl (zlt rfl) rfl rfl ⟨by decide +kernel, rfl⟩ (z_letU fun u15 => ?_)
        refine z_aload_n (pc' := 111) (k := 0) (i := 0) 0 rfl rfl ⟨by decide +kernel, rfl⟩ ?_
        refine z_dup (pc' := 112) rfl ⟨by decide +kernel, rfl⟩ ?_
        refine z_getI (pc' := 115) (rff_shapes ca D) rfl ⟨by decide +kernel, rfl⟩ ?_
        refine z_letI fun v16 => ?_
        refine z_dup_x1 (pc' := 116) rfl rfl ⟨by decide +kernel, rfl⟩ ?_
        refine z_iconst (pc' := 117) (n := 1) (v := 1) (by decide) ⟨by decide +kernel, rfl⟩ ?_
        refine z_iadd (pc' := 118) ⟨by decide +kernel, rfl⟩ ?_
        refine z_putI (pc' := 121) (rff_shapes ca D) rfl ⟨by decide +kernel, rfl⟩ (z_letU fun u17 => ?_)
        exact z_iret (pc' := 122) ⟨by decide +kernel, rfl⟩
set_option maxRecDepth 20000 in
set_option maxHeartbeats 4000000 in
theorem rft_shapeOf {l : Launch} {ca : Nat → ClassId} {D : va_G} {a g : Nat → Nat} (n : Nat) (u : zMu) (x1 : Int32) (x2 : Int32) (x3 : Int32) : zMet l (zRf ca D) rfY_shapeOf (.code rfY_shapeOf prog_13_method_50_code 5 (some .int)) zri true 0 a g [.ref (a 0), .int x1, .int x2, .int x3] u (rf_shapeOf n u x1 x2 x3) := by
  refine zMet.of rfl (Nat.le_of_ble_eq_true rfl) fun κ A hl => ?_
  subst hl
  unfold rf_shapeOf
  refine z_iconst (pc' := 1) (n := 0) (v := 0) (by decide) ⟨by decide +kernel, rfl⟩ ?_
  refine z_istore (pc' := 3) (i := 4) (by decide) rfl ⟨by decide +kernel, rfl⟩ ?_
  refine z_lv [1, 2, 3, 4, 0] (lv' := [(0, .ref (a 0)), (1, .int x1), (2, .int x2), (3, .int x3), (4, .int 0)]) rfl ?_
  exact rf_shapeOf_L3_t n n u x1 x2 x3 0
set_option maxRecDepth 20000 in
set_option maxHeartbeats 4000000 in
theorem rf_news_J63_t {κ : zKx} {ca : Nat → ClassId} {D : va_G} {A : Nat → Prop} {c0 : Nat × Nat} {a g0 g : Nat → Nat} (n : Nat) (u : zMu) (x2 : Int32) (x3 : Int32) : zJ κ (zRf ca D) prog_13_method_51_code 5 rf_C (some .int) zri true 1 A c0 a g0 g u 63 [(0, .ref (a 0)), (2, .int x2), (3, .int x3)] [] (rf_news_J63 n u x2 x3) := by
  unfold rf_news_J63
  refine z_aload_n (pc' := 64) (k := 0) (i := 0) 0 rfl rfl ⟨by decide +kernel, rfl⟩ ?_
  refine z_getI (pc' := 67) (rff_objects ca D) rfl ⟨by decide +kernel, rfl⟩ ?_
  refine z_sipush (pc' := 70) (n := 200) (v := 200) (by decide) ⟨by decide +kernel, rfl⟩ ?_
  refine z_icmp_ne (pc' := 73) (tgt := 81) (off := 11) ⟨by decide +kernel, rfl⟩ rfl (fun h1 => ?_) (fun h1 => ?_)
  · refine z_aload_n (pc' := 74) (k := 0) (i := 0) 0 rfl rfl ⟨by decide +kernel, rfl⟩ ?_
    refine z_bipush (pc' := 76) (n := 6) (v := 6) (by decide) ⟨by decide +kernel, rfl⟩ ?_
    refine z_iload_n (pc' := 77) (k := 2) (i := 2) 1 rfl rfl ⟨by decide +kernel, rfl⟩ ?_
    refine z_callVf (pc' := 80) 0 (rft_fails n u 6 x2) (rfG_fails ca D) (rfO ca D) rfl (by omega) rfl rfl (Nat.le_of_ble_eq_true rfl) ⟨by decide +kernel, rfl⟩ (fun r2 u3 => ?_)
    exact z_iret (pc' := 81) ⟨by decide +kernel, rfl⟩
  · refine z_aload_n (pc' := 82) (k := 0) (i := 0) 0 rfl rfl ⟨by decide +kernel, rfl⟩ ?_
    refine z_dup (pc' := 83) rfl ⟨by decide +kernel, rfl⟩ ?_
    refine z_getI (pc' := 86) (rff_objects ca D) rfl ⟨by decide +kernel, rfl⟩ ?_
    refine z_letI fun v4 => ?_
    refine z_dup_x1 (pc' := 87) rfl rfl ⟨by decide +kernel, rfl⟩ ?_
    refine z_iconst (pc' := 88) (n := 1) (v := 1) (by decide) ⟨by decide +kernel, rfl⟩ ?_
    refine z_iadd (pc' := 89) ⟨by decide +kernel, rfl⟩ ?_
    refine z_putI (pc' := 92) (rff_objects ca D) rfl ⟨by decide +kernel, rfl⟩ (z_letU fun u5 => ?_)
    refine z_istore (pc' := 94) (i := 4) (by decide) rfl ⟨by decide +kernel, rfl⟩ ?_
    refine z_aload_n (pc' := 95) (k := 0) (i := 0) 1 rfl rfl ⟨by decide +kernel, rfl⟩ ?_
    refine z_getR (pc' := 98) (rff_oParent ca D) rfl (y := a 35) rfl ⟨by decide +kernel, rfl⟩ ?_
    refine z_iload (pc' := 100) (i := 4) 0 rfl ⟨by decide +kernel, rfl⟩ ?_
    refine z_iload_n (pc' := 101) (k := 3) (i := 3) 3 rfl rfl ⟨by decide +kernel, rfl⟩ ?_
    refine z_iast (pc' := 102) 35 rfl (zlt rfl) rfl rfl ⟨by decide +kernel, rfl⟩ (z_letU fun u6 => ?_)
    refine z_aload_n (pc' := 103) (k := 0) (i := 0) 1 rfl rfl ⟨by decide +kernel, rfl⟩ ?_
    refine z_getR (pc' := 106) (rff_oFirst ca D) rfl (y := a 37) rfl ⟨by decide +kernel, rfl⟩ ?_
    refine z_iload (pc' := 108) (i := 4) 0 rfl ⟨by decide +kernel, rfl⟩ ?_
    refine z_iconst (pc' := 109) (n := (-1)) (v := (-1)) (by decide) ⟨by decide +kernel, rfl⟩ ?_
    refine z_iast (pc' := 110) 37 rfl (zlt rfl) rfl rfl ⟨by decide +kernel, rfl⟩ (z_letU fun u7 => ?_)
    refine z_aload_n (pc' := 111) (k := 0) (i := 0) 1 rfl rfl ⟨by decide +kernel, rfl⟩ ?_
    refine z_getR (pc' := 114) (rff_oLast ca D) rfl (y := a 38) rfl ⟨by decide +kernel, rfl⟩ ?_
    refine z_iload (pc' := 116) (i := 4) 0 rfl ⟨by decide +kernel, rfl⟩ ?_
    refine z_iconst (pc' := 117) (n := (-1)) (v := (-1)) (by decide) ⟨by decide +kernel, rfl⟩ ?_
    refine z_iast (pc' := 118) 38 rfl (zlt rfl) rfl rfl ⟨by decide +kernel, rfl⟩ (z_letU fun u8 => ?_)
    refine z_aload_n (pc' := 119) (k := 0) (i := 0) 1 rfl rfl ⟨by decide +kernel, rfl⟩ ?_
    refine z_getR (pc' := 122) (rff_oSize ca D) rfl (y := a 39) rfl ⟨by decide +kernel, rfl⟩ ?_
    refine z_iload (pc' := 124) (i := 4) 0 rfl ⟨by decide +kernel, rfl⟩ ?_
    refine z_iconst (pc' := 125) (n := 0) (v := 0) (by decide) ⟨by decide +kernel, rfl⟩ ?_
    refine z_iast (pc' := 126) 39 rfl (zlt rfl) rfl rfl ⟨by decide +kernel, rfl⟩ (z_letU fun u9 => ?_)
    refine z_aload_n (pc' := 127) (k := 0) (i := 0) 1 rfl rfl ⟨by decide +kernel, rfl⟩ ?_
    refine z_getR (pc' := 130) (rff_oShape ca D) rfl (y := a 36) rfl ⟨by decide +kernel, rfl⟩ ?_
    refine z_iload (pc' := 132) (i := 4) 0 rfl ⟨by decide +kernel, rfl⟩ ?_
    refine z_aload_n (pc' := 133) (k := 0) (i := 0) 1 rfl rfl ⟨by decide +kernel, rfl⟩ ?_
    refine z_iload_n (pc' := 134) (k := 3) (i := 3) 3 rfl rfl ⟨by decide +kernel, rfl⟩ ?_
    refine z_iconst (pc' := 135) (n := (-1)) (v := (-1)) (by decide) ⟨by decide +kernel, rfl⟩ ?_
    refine z_iconst (pc' := 136) (n := (-1)) (v := (-1)) (by decide) ⟨by decide +kernel, rfl⟩ ?_
    refine z_callVf (pc' := 139) 0 (rft_shapeOf n u9 x3 (-1) (-1)) (rfG_shapeOf ca D) (rfO ca D) rfl (by omega) rfl rfl (Nat.le_of_ble_eq_true rfl) ⟨by decide +kernel, rfl⟩ (fun r10 u11 => ?_)
    refine z_iast (pc' := 140) 36 rfl (zlt rfl) rfl rfl ⟨by decide +kernel, rfl⟩ (z_letU fun u12 => ?_)
    refine z_aload_n (pc' := 141) (k := 0) (i := 0) 1 rfl rfl ⟨by decide +kernel, rfl⟩ ?_
    refine z_iconst (pc' := 142) (n := 2) (v := 2) (by decide) ⟨by decide +kernel, rfl⟩ ?_
    refine z_iload (pc' := 144) (i := 4) 0 rfl ⟨by decide +kernel, rfl⟩ ?_
    refine z_i2l (pc' := 145) ⟨by decide +kernel, rfl⟩ ?_
    refine z_callVf (pc' := 148) 0 (rft_pushes n u12 2 (v4.toInt64)) (rfG_pushes ca D) (rfO ca D) rfl (by omega) rfl rfl (Nat.le_of_ble_eq_true rfl) ⟨by decide +kernel, rfl⟩ (fun _ u14 => ?_)
    refine z_iconst (pc' := 149) (n := (-1)) (v := (-1)) (by decide) ⟨by decide +kernel, rfl⟩ ?_
    exact z_iret (pc' := 150) ⟨by decide +kernel, rfl⟩
set_option maxRecDepth 20000 in
set_option maxHeartbeats 4000000 in
theorem rft_news {l : Launch} {ca : Nat → ClassId} {D : va_G} {a g : Nat → Nat} (n : Nat) (u : zMu) (x1 : Int32) (x2 : Int32) : zMet l (zRf ca D) rfY_news (.code rfY_news prog_13_method_51_code 5 (some .int)) zri true 1 a g [.ref (a 0), .int x1, .int x2] u (rf_news n u x1 x2) := by
  refine zMet.of rfl (Nat.le_of_ble_eq_true rfl) fun κ A hl => ?_
  subst hl
  unfold rf_news
  refine z_iconst (pc' := 1) (n := (-1)) (v := (-1)) (by decide) ⟨by decide +kernel, rfl⟩ ?_
  refine z_istore_n (pc' := 2) (k := 3) (i := 3) rfl (by decide) rfl ⟨by decide +kernel, rfl⟩ ?_
  refine z_iload_n (pc' := 3) (k := 1) (i := 1) 2 rfl rfl ⟨by decide +kernel, rfl⟩ ?_
  refine z_iconst (pc' := 4) (n := 1) (v := 1) (by decide) ⟨by decide +kernel, rfl⟩ ?_
  refine z_icmp_ne (pc' := 7) (tgt := 63) (off := 59) ⟨by decide +kernel, rfl⟩ rfl (fun h1 => ?_) (fun h1 => ?_)
  · refine z_aload_n (pc' := 8) (k := 0) (i := 0) 1 rfl rfl ⟨by decide +kernel, rfl⟩ ?_
    refine z_dup (pc' := 9) rfl ⟨by decide +kernel, rfl⟩ ?_
    refine z_getI (pc' := 12) (rff_top ca D) rfl ⟨by decide +kernel, rfl⟩ ?_
    refine z_iconst (pc' := 13) (n := 1) (v := 1) (by decide) ⟨by decide +kernel, rfl⟩ ?_
    refine z_isub (pc' := 14) ⟨by decide +kernel, rfl⟩ ?_
    refine z_putI (pc' := 17) (rff_top ca D) rfl ⟨by decide +kernel, rfl⟩ (z_letU fun u2 => ?_)
    refine z_aload_n (pc' := 18) (k := 0) (i := 0) 1 rfl rfl ⟨by decide +kernel, rfl⟩ ?_
    refine z_getR (pc' := 21) (rff_vSort ca D) rfl (y := a 27) rfl ⟨by decide +kernel, rfl⟩ ?_
    refine z_aload_n (pc' := 22) (k := 0) (i := 0) 1 rfl rfl ⟨by decide +kernel, rfl⟩ ?_
    refine z_getI (pc' := 25) (rff_top ca D) rfl ⟨by decide +kernel, rfl⟩ ?_
    refine z_iald (pc' := 26) 27 rfl (zlt rfl) rfl rfl ⟨by decide +kernel, rfl⟩ ?_
    refine z_iconst (pc' := 27) (n := 2) (v := 2) (by decide) ⟨by decide +kernel, rfl⟩ ?_
    refine z_icmp_ne (pc' := 30) (tgt := 44) (off := 17) ⟨by decide +kernel, rfl⟩ rfl (fun h3 => ?_) (fun h3 => ?_)
    · refine z_aload_n (pc' := 31) (k := 0) (i := 0) 1 rfl rfl ⟨by decide +kernel, rfl⟩ ?_
      refine z_getR (pc' := 34) (rff_vNum ca D) rfl (y := a 31) rfl ⟨by decide +kernel, rfl⟩ ?_
      refine z_aload_n (pc' := 35) (k := 0) (i := 0) 1 rfl rfl ⟨by decide +kernel, rfl⟩ ?_
      refine z_getI (pc' := 38) (rff_top ca D) rfl ⟨by decide +kernel, rfl⟩ ?_
      refine z_lald (pc' := 39) 31 rfl (zlt rfl) rfl rfl ⟨by decide +kernel, rfl⟩ ?_
      refine z_l2i (pc' := 40) ⟨by decide +kernel, rfl⟩ ?_
      refine z_letI fun v4 => ?_
      refine z_istore_n (pc' := 41) (k := 3) (i := 3) rfl (by decide) rfl ⟨by decide +kernel, rfl⟩ ?_
      refine z_goto (tgt := 63) (off := 22) (by decide +kernel) rfl ?_
      refine z_lv [1, 3, 0] (lv' := [(0, .ref (a 0)), (2, .int x2), (3, .int v4)]) rfl ?_
      exact rf_news_J63_t n u2 x2 v4
    · refine z_aload_n (pc' := 45) (k := 0) (i := 0) 1 rfl rfl ⟨by decide +kernel, rfl⟩ ?_
      refine z_getR (pc' := 48) (rff_vSort ca D) rfl (y := a 27) rfl ⟨by decide +kernel, rfl⟩ ?_
      refine z_aload_n (pc' := 49) (k := 0) (i := 0) 1 rfl rfl ⟨by decide +kernel, rfl⟩ ?_
      refine z_getI (pc' := 52) (rff_top ca D) rfl ⟨by decide +kernel, rfl⟩ ?_
      refine z_iald (pc' := 53) 27 rfl (zlt rfl) rfl rfl ⟨by decide +kernel, rfl⟩ ?_
      refine z_if_eq (pc' := 56) (tgt := 63) (off := 10) ⟨by decide +kernel, rfl⟩ rfl (fun h5 => ?_) (fun h5 => ?_)
      · refine z_lv [1, 3, 0] (lv' := [(0, .ref (a 0)), (2, .int x2), (3, .int (-1))]) rfl ?_
        exact rf_news_J63_t n u2 x2 (-1)
      · refine z_aload_n (pc' := 57) (k := 0) (i := 0) 1 rfl rfl ⟨by decide +kernel, rfl⟩ ?_
        refine z_iconst (pc' := 58) (n := 2) (v := 2) (by decide) ⟨by decide +kernel, rfl⟩ ?_
        refine z_iload_n (pc' := 59) (k := 2) (i := 2) 3 rfl rfl ⟨by decide +kernel, rfl⟩ ?_
        refine z_callVf (pc' := 62) 0 (rft_fails n u2 2 x2) (rfG_fails ca D) (rfO ca D) rfl (by omega) rfl rfl (Nat.le_of_ble_eq_true rfl) ⟨by decide +kernel, rfl⟩ (fun r6 u7 => ?_)
        exact z_iret (pc' := 63) ⟨by decide +kernel, rfl⟩
  · refine z_lv [1, 3, 0] (lv' := [(0, .ref (a 0)), (2, .int x2), (3, .int (-1))]) rfl ?_
    exact rf_news_J63_t n u x2 (-1)
set_option maxRecDepth 20000 in
set_option maxHeartbeats 4000000 in
theorem rf_rowOf_L121_t {κ : zKx} {ca : Nat → ClassId} {D : va_G} {A : Nat → Prop} {c0 : Nat × Nat} {a g0 g : Nat → Nat} (n : Nat) : ∀ (m : Nat) (u : zMu) (x2 : Int32) (x3 : Int32), zJ κ (zRf ca D) prog_13_method_63_code 4 rf_C (some .int) zri true 1 A c0 a g0 g u 121 [(0, .ref (a 0)), (2, .int x2), (3, .int x3)] [] (rf_rowOf_L121 n m u x2 x3) := by
  intro m
  induction m with
  | zero => intro u x2 x3 r u' h; cases h
  | succ m ih =>
    intro u x2 x3
    unfold rf_rowOf_L121
    refine z_iload_n (pc' := 122) (k := 3) (i := 3) 2 rfl rfl ⟨by decide +kernel, rfl⟩ ?_
    refine z_bipush (pc' := 124) (n := 50) (v := 50) (by decide) ⟨by decide +kernel, rfl⟩ ?_
    refine z_icmp_ge (pc' := 127) (tgt := 157) (off := 33) ⟨by decide +kernel, rfl⟩ rfl (fun h1 => ?_) (fun h1 => ?_)
    · refine z_aload_n (pc' := 128) (k := 0) (i := 0) 0 rfl rfl ⟨by decide +kernel, rfl⟩ ?_
      refine z_getR (pc' := 131) (rff_iSort ca D) rfl (y := a 50) rfl ⟨by decide +kernel, rfl⟩ ?_
      refine z_bipush (pc' := 133) (n := 50) (v := 50) (by decide) ⟨by decide +kernel, rfl⟩ ?_
      refine z_iload_n (pc' := 134) (k := 2) (i := 2) 1 rfl rfl ⟨by decide +kernel, rfl⟩ ?_
      refine z_imul (pc' := 135) ⟨by decide +kernel, rfl⟩ ?_
      refine z_iload_n (pc' := 136) (k := 3) (i := 3) 2 rfl rfl ⟨by decide +kernel, rfl⟩ ?_
      refine z_iadd (pc' := 137) ⟨by decide +kernel, rfl⟩ ?_
      refine z_iconst (pc' := 138) (n := 1) (v := 1) (by decide) ⟨by decide +kernel, rfl⟩ ?_
      refine z_iast (pc' := 139) 50 rfl (zlt rfl) rfl rfl ⟨by decide +kernel, rfl⟩ (z_letU fun u2 => ?_)
      refine z_aload_n (pc' := 140) (k := 0) (i := 0) 0 rfl rfl ⟨by decide +kernel, rfl⟩ ?_
      refine z_getR (pc' := 143) (rff_iNum ca D) rfl (y := a 51) rfl ⟨by decide +kernel, rfl⟩ ?_
      refine z_bipush (pc' := 145) (n := 50) (v := 50) (by decide) ⟨by decide +kernel, rfl⟩ ?_
      refine z_iload_n (pc' := 146) (k := 2) (i := 2) 1 rfl rfl ⟨by decide +kernel, rfl⟩ ?_
      refine z_imul (pc' := 147) ⟨by decide +kernel, rfl⟩ ?_
      refine z_iload_n (pc' := 148) (k := 3) (i := 3) 2 rfl rfl ⟨by decide +kernel, rfl⟩ ?_
      refine z_iadd (pc' := 149) ⟨by decide +kernel, rfl⟩ ?_
      refine z_lconst (pc' := 150) (n := 0) (v := 0) (by decide) ⟨by decide +kernel, rfl⟩ ?_
      refine z_last (pc' := 151) 51 rfl (zlt rfl) rfl rfl ⟨by decide +kernel, rfl⟩ (z_letU fun u3 => ?_)
      refine z_iincN (pc' := 154) (i := 3) (n := 1) (c := 1) 2 rfl (by decide) (by decide) rfl ⟨by decide +kernel, rfl⟩ fun v4 => ?_
      refine z_goto (tgt := 121) (off := -33) (by decide +kernel) rfl ?_
      refine z_lv [1, 2, 0] (lv' := [(0, .ref (a 0)), (2, .int x2), (3, .int v4)]) rfl ?_
      exact ih u3 x2 v4
    · refine z_aload_n (pc' := 158) (k := 0) (i := 0) 0 rfl rfl ⟨by decide +kernel, rfl⟩ ?_
      refine z_iconst (pc' := 159) (n := 3) (v := 3) (by decide) ⟨by decide +kernel, rfl⟩ ?_
      refine z_iload_n (pc' := 160) (k := 2) (i := 2) 1 rfl rfl ⟨by decide +kernel, rfl⟩ ?_
      refine z_i2l (pc' := 161) ⟨by decide +kernel, rfl⟩ ?_
      refine z_callVf (pc' := 164) 0 (rft_pushes n u 3 (x2.toInt64)) (rfG_pushes ca D) (rfO ca D) rfl (by omega) rfl rfl (Nat.le_of_ble_eq_true rfl) ⟨by decide +kernel, rfl⟩ (fun _ u6 => ?_)
      refine z_iconst (pc' := 165) (n := (-1)) (v := (-1)) (by decide) ⟨by decide +kernel, rfl⟩ ?_
      exact z_iret (pc' := 166) ⟨by decide +kernel, rfl⟩
set_option maxRecDepth 20000 in
set_option maxHeartbeats 4000000 in
theorem rft_rowOf {l : Launch} {ca : Nat → ClassId} {D : va_G} {a g : Nat → Nat} (n : Nat) (u : zMu) (x1 : Int32) : zMet l (zRf ca D) rfY_rowOf (.code rfY_rowOf prog_13_method_63_code 4 (some .int)) zri true 1 a g [.ref (a 0), .int x1] u (rf_rowOf n u x1) := by
  refine zMet.of rfl (Nat.le_of_ble_eq_true rfl) fun κ A hl => ?_
  subst hl
  unfold rf_rowOf
  refine z_aload_n (pc' := 1) (k := 0) (i := 0) 0 rfl rfl ⟨by decide +kernel, rfl⟩ ?_
  refine z_dup (pc' := 2) rfl ⟨by decide +kernel, rfl⟩ ?_
  refine z_getI (pc' := 5) (rff_top ca D) rfl ⟨by decide +kernel, rfl⟩ ?_
  refine z_iconst (pc' := 6) (n := 1) (v := 1) (by decide) ⟨by decide +kernel, rfl⟩ ?_
  refine z_isub (pc' := 7) ⟨by decide +kernel, rfl⟩ ?_
  refine z_putI (pc' := 10) (rff_top ca D) rfl ⟨by decide +kernel, rfl⟩ (z_letU fun u1 => ?_)
  refine z_aload_n (pc' := 11) (k := 0) (i := 0) 0 rfl rfl ⟨by decide +kernel, rfl⟩ ?_
  refine z_getR (pc' := 14) (rff_vSort ca D) rfl (y := a 27) rfl ⟨by decide +kernel, rfl⟩ ?_
  refine z_aload_n (pc' := 15) (k := 0) (i := 0) 0 rfl rfl ⟨by decide +kernel, rfl⟩ ?_
  refine z_getI (pc' := 18) (rff_top ca D) rfl ⟨by decide +kernel, rfl⟩ ?_
  refine z_iald (pc' := 19) 27 rfl (zlt rfl) rfl rfl ⟨by decide +kernel, rfl⟩ ?_
  refine z_iconst (pc' := 20) (n := 1) (v := 1) (by decide) ⟨by decide +kernel, rfl⟩ ?_
  refine z_icmp_eq (pc' := 23) (tgt := 30) (off := 10) ⟨by decide +kernel, rfl⟩ rfl (fun h2 => ?_) (fun h2 => ?_)
  · refine z_aload_n (pc' := 31) (k := 0) (i := 0) 0 rfl rfl ⟨by decide +kernel, rfl⟩ ?_
    refine z_getR (pc' := 34) (rff_vNum ca D) rfl (y := a 31) rfl ⟨by decide +kernel, rfl⟩ ?_
    refine z_aload_n (pc' := 35) (k := 0) (i := 0) 0 rfl rfl ⟨by decide +kernel, rfl⟩ ?_
    refine z_getI (pc' := 38) (rff_top ca D) rfl ⟨by decide +kernel, rfl⟩ ?_
    refine z_lald (pc' := 39) 31 rfl (zlt rfl) rfl rfl ⟨by decide +kernel, rfl⟩ ?_
    refine z_lconst (pc' := 40) (n := 0) (v := 0) (by decide) ⟨by decide +kernel, rfl⟩ ?_
    refine z_lcmp (pc' := 41) ⟨by decide +kernel, rfl⟩ ?_
    refine z_if_lt (pc' := 44) (tgt := 60) (off := 19) ⟨by decide +kernel, rfl⟩ rfl (fun h3 => ?_) (fun h3 => ?_)
    · refine z_aload_n (pc' := 61) (k := 0) (i := 0) 0 rfl rfl ⟨by decide +kernel, rfl⟩ ?_
      refine z_iconst (pc' := 62) (n := 4) (v := 4) (by decide) ⟨by decide +kernel, rfl⟩ ?_
      refine z_iload_n (pc' := 63) (k := 1) (i := 1) 1 rfl rfl ⟨by decide +kernel, rfl⟩ ?_
      refine z_callVf (pc' := 66) 0 (rft_fails n u1 4 x1) (rfG_fails ca D) (rfO ca D) rfl (by omega) rfl rfl (Nat.le_of_ble_eq_true rfl) ⟨by decide +kernel, rfl⟩ (fun r4 u5 => ?_)
      exact z_iret (pc' := 67) ⟨by decide +kernel, rfl⟩
    · refine z_aload_n (pc' := 45) (k := 0) (i := 0) 0 rfl rfl ⟨by decide +kernel, rfl⟩ ?_
      refine z_getR (pc' := 48) (rff_vNum ca D) rfl (y := a 31) rfl ⟨by decide +kernel, rfl⟩ ?_
      refine z_aload_n (pc' := 49) (k := 0) (i := 0) 0 rfl rfl ⟨by decide +kernel, rfl⟩ ?_
      refine z_getI (pc' := 52) (rff_top ca D) rfl ⟨by decide +kernel, rfl⟩ ?_
      refine z_lald (pc' := 53) 31 rfl (zlt rfl) rfl rfl ⟨by decide +kernel, rfl⟩ ?_
      refine z_ldc2 (pc' := 56) (v := 50) (rf_w 6 rfl) ⟨by decide +kernel, rfl⟩ ?_
      refine z_lcmp (pc' := 57) ⟨by decide +kernel, rfl⟩ ?_
      refine z_if_le (pc' := 60) (tgt := 67) (off := 10) ⟨by decide +kernel, rfl⟩ rfl (fun h6 => ?_) (fun h6 => ?_)
      · refine z_aload_n (pc' := 61) (k := 0) (i := 0) 0 rfl rfl ⟨by decide +kernel, rfl⟩ ?_
        refine z_iconst (pc' := 62) (n := 4) (v := 4) (by decide) ⟨by decide +kernel, rfl⟩ ?_
        refine z_iload_n (pc' := 63) (k := 1) (i := 1) 1 rfl rfl ⟨by decide +kernel, rfl⟩ ?_
        refine z_callVf (pc' := 66) 0 (rft_fails n u1 4 x1) (rfG_fails ca D) (rfO ca D) rfl (by omega) rfl rfl (Nat.le_of_ble_eq_true rfl) ⟨by decide +kernel, rfl⟩ (fun r7 u8 => ?_)
        exact z_iret (pc' := 67) ⟨by decide +kernel, rfl⟩
      · refine z_aload_n (pc' := 68) (k := 0) (i := 0) 0 rfl rfl ⟨by decide +kernel, rfl⟩ ?_
        refine z_getI (pc' := 71) (rff_rows ca D) rfl ⟨by decide +kernel, rfl⟩ ?_
        refine z_bipush (pc' := 73) (n := 60) (v := 60) (by decide) ⟨by decide +kernel, rfl⟩ ?_
        refine z_icmp_ne (pc' := 76) (tgt := 84) (off := 11) ⟨by decide +kernel, rfl⟩ rfl (fun h9 => ?_) (fun h9 => ?_)
        · refine z_aload_n (pc' := 77) (k := 0) (i := 0) 0 rfl rfl ⟨by decide +kernel, rfl⟩ ?_
          refine z_bipush (pc' := 79) (n := 6) (v := 6) (by decide) ⟨by decide +kernel, rfl⟩ ?_
          refine z_iload_n (pc' := 80) (k := 1) (i := 1) 1 rfl rfl ⟨by decide +kernel, rfl⟩ ?_
          refine z_callVf (pc' := 83) 0 (rft_fails n u1 6 x1) (rfG_fails ca D) (rfO ca D) rfl (by omega) rfl rfl (Nat.le_of_ble_eq_true rfl) ⟨by decide +kernel, rfl⟩ (fun r10 u11 => ?_)
          exact z_iret (pc' := 84) ⟨by decide +kernel, rfl⟩
        · refine z_aload_n (pc' := 85) (k := 0) (i := 0) 0 rfl rfl ⟨by decide +kernel, rfl⟩ ?_
          refine z_dup (pc' := 86) rfl ⟨by decide +kernel, rfl⟩ ?_
          refine z_getI (pc' := 89) (rff_rows ca D) rfl ⟨by decide +kernel, rfl⟩ ?_
          refine z_letI fun v12 => ?_
          refine z_dup_x1 (pc' := 90) rfl rfl ⟨by decide +kernel, rfl⟩ ?_
          refine z_iconst (pc' := 91) (n := 1) (v := 1) (by decide) ⟨by decide +kernel, rfl⟩ ?_
          refine z_iadd (pc' := 92) ⟨by decide +kernel, rfl⟩ ?_
          refine z_putI (pc' := 95) (rff_rows ca D) rfl ⟨by decide +kernel, rfl⟩ (z_letU fun u13 => ?_)
          refine z_istore_n (pc' := 96) (k := 2) (i := 2) rfl (by decide) rfl ⟨by decide +kernel, rfl⟩ ?_
          refine z_aload_n (pc' := 97) (k := 0) (i := 0) 1 rfl rfl ⟨by decide +kernel, rfl⟩ ?_
          refine z_getR (pc' := 100) (rff_rKind ca D) rfl (y := a 48) rfl ⟨by decide +kernel, rfl⟩ ?_
          refine z_iload_n (pc' := 101) (k := 2) (i := 2) 0 rfl rfl ⟨by decide +kernel, rfl⟩ ?_
          refine z_iconst (pc' := 102) (n := 0) (v := 0) (by decide) ⟨by decide +kernel, rfl⟩ ?_
          refine z_iast (pc' := 103) 48 rfl (zlt rfl) rfl rfl ⟨by decide +kernel, rfl⟩ (z_letU fun u14 => ?_)
          refine z_aload_n (pc' := 104) (k := 0) (i := 0) 1 rfl rfl ⟨by decide +kernel, rfl⟩ ?_
          refine z_getR (pc' := 107) (rff_rSize ca D) rfl (y := a 49) rfl ⟨by decide +kernel, rfl⟩ ?_
          refine z_iload_n (pc' := 108) (k := 2) (i := 2) 0 rfl rfl ⟨by decide +kernel, rfl⟩ ?_
          refine z_aload_n (pc' := 109) (k := 0) (i := 0) 1 rfl rfl ⟨by decide +kernel, rfl⟩ ?_
          refine z_getR (pc' := 112) (rff_vNum ca D) rfl (y := a 31) rfl ⟨by decide +kernel, rfl⟩ ?_
          refine z_aload_n (pc' := 113) (k := 0) (i := 0) 1 rfl rfl ⟨by decide +kernel, rfl⟩ ?_
          refine z_getI (pc' := 116) (rff_top ca D) rfl ⟨by decide +kernel, rfl⟩ ?_
          refine z_lald (pc' := 117) 31 rfl (zlt rfl) rfl rfl ⟨by decide +kernel, rfl⟩ ?_
          refine z_l2i (pc' := 118) ⟨by decide +kernel, rfl⟩ ?_
          refine z_iast (pc' := 119) 49 rfl (zlt rfl) rfl rfl ⟨by decide +kernel, rfl⟩ (z_letU fun u15 => ?_)
          refine z_iconst (pc' := 120) (n := 0) (v := 0) (by decide) ⟨by decide +kernel, rfl⟩ ?_
          refine z_istore_n (pc' := 121) (k := 3) (i := 3) rfl (by decide) rfl ⟨by decide +kernel, rfl⟩ ?_
          refine z_lv [2, 1, 0] (lv' := [(0, .ref (a 0)), (2, .int v12), (3, .int 0)]) rfl ?_
          exact rf_rowOf_L121_t n n u15 v12 0
  · refine z_aload_n (pc' := 24) (k := 0) (i := 0) 0 rfl rfl ⟨by decide +kernel, rfl⟩ ?_
    refine z_iconst (pc' := 25) (n := 1) (v := 1) (by decide) ⟨by decide +kernel, rfl⟩ ?_
    refine z_iload_n (pc' := 26) (k := 1) (i := 1) 1 rfl rfl ⟨by decide +kernel, rfl⟩ ?_
    refine z_callVf (pc' := 29) 0 (rft_fails n u1 1 x1) (rfG_fails ca D) (rfO ca D) rfl (by omega) rfl rfl (Nat.le_of_ble_eq_true rfl) ⟨by decide +kernel, rfl⟩ (fun r16 u17 => ?_)
    exact z_iret (pc' := 30) ⟨by decide +kernel, rfl⟩
set_option maxRecDepth 20000 in
set_option maxHeartbeats 4000000 in
theorem rf_sizes_J92_t {κ : zKx} {ca : Nat → ClassId} {D : va_G} {A : Nat → Prop} {c0 : Nat × Nat} {a g0 g : Nat → Nat} (n : Nat) (u : zMu) (s1 : Int32) (s2 : Int64) : zJ κ (zRf ca D) prog_13_method_64_code 3 rf_C (some .int) zri true 1 A c0 a g0 g u 92 [(0, .ref (a 0))] [.long s2, .int s1, .ref (a 31)] (rf_sizes_J92 n u s1 s2) := by
  unfold rf_sizes_J92
  refine z_last (pc' := 93) 31 rfl (zlt rfl) rfl rfl ⟨by decide +kernel, rfl⟩ (z_letU fun u1 => ?_)
  refine z_aload_n (pc' := 94) (k := 0) (i := 0) 0 rfl rfl ⟨by decide +kernel, rfl⟩ ?_
  refine z_getR (pc' := 97) (rff_vSort ca D) rfl (y := a 27) rfl ⟨by decide +kernel, rfl⟩ ?_
  refine z_aload_n (pc' := 98) (k := 0) (i := 0) 0 rfl rfl ⟨by decide +kernel, rfl⟩ ?_
  refine z_getI (pc' := 101) (rff_top ca D) rfl ⟨by decide +kernel, rfl⟩ ?_
  refine z_iconst (pc' := 102) (n := 1) (v := 1) (by decide) ⟨by decide +kernel, rfl⟩ ?_
  refine z_isub (pc' := 103) ⟨by decide +kernel, rfl⟩ ?_
  refine z_iconst (pc' := 104) (n := 1) (v := 1) (by decide) ⟨by decide +kernel, rfl⟩ ?_
  refine z_iast (pc' := 105) 27 rfl (zlt rfl) rfl rfl ⟨by decide +kernel, rfl⟩ (z_letU fun u2 => ?_)
  refine z_iconst (pc' := 106) (n := (-1)) (v := (-1)) (by decide) ⟨by decide +kernel, rfl⟩ ?_
  exact z_iret (pc' := 107) ⟨by decide +kernel, rfl⟩
set_option maxRecDepth 20000 in
set_option maxHeartbeats 4000000 in
theorem rf_sizes_J50_t {κ : zKx} {ca : Nat → ClassId} {D : va_G} {A : Nat → Prop} {c0 : Nat × Nat} {a g0 g : Nat → Nat} (n : Nat) (u : zMu) (x2 : Int32) : zJ κ (zRf ca D) prog_13_method_64_code 3 rf_C (some .int) zri true 1 A c0 a g0 g u 50 [(0, .ref (a 0)), (2, .int x2)] [] (rf_sizes_J50 n u x2) := by
  unfold rf_sizes_J50
  refine z_aload_n (pc' := 51) (k := 0) (i := 0) 0 rfl rfl ⟨by decide +kernel, rfl⟩ ?_
  refine z_getR (pc' := 54) (rff_vNum ca D) rfl (y := a 31) rfl ⟨by decide +kernel, rfl⟩ ?_
  refine z_aload_n (pc' := 55) (k := 0) (i := 0) 0 rfl rfl ⟨by decide +kernel, rfl⟩ ?_
  refine z_getI (pc' := 58) (rff_top ca D) rfl ⟨by decide +kernel, rfl⟩ ?_
  refine z_iconst (pc' := 59) (n := 1) (v := 1) (by decide) ⟨by decide +kernel, rfl⟩ ?_
  refine z_isub (pc' := 60) ⟨by decide +kernel, rfl⟩ ?_
  refine z_aload_n (pc' := 61) (k := 0) (i := 0) 0 rfl rfl ⟨by decide +kernel, rfl⟩ ?_
  refine z_getR (pc' := 64) (rff_vSort ca D) rfl (y := a 27) rfl ⟨by decide +kernel, rfl⟩ ?_
  refine z_aload_n (pc' := 65) (k := 0) (i := 0) 0 rfl rfl ⟨by decide +kernel, rfl⟩ ?_
  refine z_getI (pc' := 68) (rff_top ca D) rfl ⟨by decide +kernel, rfl⟩ ?_
  refine z_iconst (pc' := 69) (n := 1) (v := 1) (by decide) ⟨by decide +kernel, rfl⟩ ?_
  refine z_isub (pc' := 70) ⟨by decide +kernel, rfl⟩ ?_
  refine z_iald (pc' := 71) 27 rfl (zlt rfl) rfl rfl ⟨by decide +kernel, rfl⟩ ?_
  refine z_iconst (pc' := 72) (n := 2) (v := 2) (by decide) ⟨by decide +kernel, rfl⟩ ?_
  refine z_icmp_ne (pc' := 75) (tgt := 85) (off := 13) ⟨by decide +kernel, rfl⟩ rfl (fun h1 => ?_) (fun h1 => ?_)
  · refine z_aload_n (pc' := 76) (k := 0) (i := 0) 0 rfl rfl ⟨by decide +kernel, rfl⟩ ?_
    refine z_getR (pc' := 79) (rff_oSize ca D) rfl (y := a 39) rfl ⟨by decide +kernel, rfl⟩ ?_
    refine z_iload_n (pc' := 80) (k := 2) (i := 2) 1 rfl rfl ⟨by decide +kernel, rfl⟩ ?_
    refine z_iald (pc' := 81) 39 rfl (zlt rfl) rfl rfl ⟨by decide +kernel, rfl⟩ ?_
    refine z_i2l (pc' := 82) ⟨by decide +kernel, rfl⟩ ?_
    refine z_goto (tgt := 92) (off := 10) (by decide +kernel) rfl ?_
    refine z_lv [0] (lv' := [(0, .ref (a 0))]) rfl ?_
    exact rf_sizes_J92_t n u ((zI u 0 51) - 1) ((zI u 39 (zx x2)).toInt64)
  · refine z_aload_n (pc' := 86) (k := 0) (i := 0) 0 rfl rfl ⟨by decide +kernel, rfl⟩ ?_
    refine z_getR (pc' := 89) (rff_rSize ca D) rfl (y := a 49) rfl ⟨by decide +kernel, rfl⟩ ?_
    refine z_iload_n (pc' := 90) (k := 2) (i := 2) 1 rfl rfl ⟨by decide +kernel, rfl⟩ ?_
    refine z_iald (pc' := 91) 49 rfl (zlt rfl) rfl rfl ⟨by decide +kernel, rfl⟩ ?_
    refine z_i2l (pc' := 92) ⟨by decide +kernel, rfl⟩ ?_
    refine z_lv [0] (lv' := [(0, .ref (a 0))]) rfl ?_
    exact rf_sizes_J92_t n u ((zI u 0 51) - 1) ((zI u 49 (zx x2)).toInt64)
set_option maxRecDepth 20000 in
set_option maxHeartbeats 4000000 in
theorem rft_sizes {l : Launch} {ca : Nat → ClassId} {D : va_G} {a g : Nat → Nat} (n : Nat) (u : zMu) (x1 : Int32) : zMet l (zRf ca D) rfY_sizes (.code rfY_sizes prog_13_method_64_code 3 (some .int)) zri true 1 a g [.ref (a 0), .int x1] u (rf_sizes n u x1) := by
  refine zMet.of rfl (Nat.le_of_ble_eq_true rfl) fun κ A hl => ?_
  subst hl
  unfold rf_sizes
  refine z_aload_n (pc' := 1) (k := 0) (i := 0) 0 rfl rfl ⟨by decide +kernel, rfl⟩ ?_
  refine z_getR (pc' := 4) (rff_vNum ca D) rfl (y := a 31) rfl ⟨by decide +kernel, rfl⟩ ?_
  refine z_aload_n (pc' := 5) (k := 0) (i := 0) 0 rfl rfl ⟨by decide +kernel, rfl⟩ ?_
  refine z_getI (pc' := 8) (rff_top ca D) rfl ⟨by decide +kernel, rfl⟩ ?_
  refine z_iconst (pc' := 9) (n := 1) (v := 1) (by decide) ⟨by decide +kernel, rfl⟩ ?_
  refine z_isub (pc' := 10) ⟨by decide +kernel, rfl⟩ ?_
  refine z_lald (pc' := 11) 31 rfl (zlt rfl) rfl rfl ⟨by decide +kernel, rfl⟩ ?_
  refine z_l2i (pc' := 12) ⟨by decide +kernel, rfl⟩ ?_
  refine z_letI fun v1 => ?_
  refine z_istore_n (pc' := 13) (k := 2) (i := 2) rfl (by decide) rfl ⟨by decide +kernel, rfl⟩ ?_
  refine z_aload_n (pc' := 14) (k := 0) (i := 0) 1 rfl rfl ⟨by decide +kernel, rfl⟩ ?_
  refine z_getR (pc' := 17) (rff_vSort ca D) rfl (y := a 27) rfl ⟨by decide +kernel, rfl⟩ ?_
  refine z_aload_n (pc' := 18) (k := 0) (i := 0) 1 rfl rfl ⟨by decide +kernel, rfl⟩ ?_
  refine z_getI (pc' := 21) (rff_top ca D) rfl ⟨by decide +kernel, rfl⟩ ?_
  refine z_iconst (pc' := 22) (n := 1) (v := 1) (by decide) ⟨by decide +kernel, rfl⟩ ?_
  refine z_isub (pc' := 23) ⟨by decide +kernel, rfl⟩ ?_
  refine z_iald (pc' := 24) 27 rfl (zlt rfl) rfl rfl ⟨by decide +kernel, rfl⟩ ?_
  refine z_iconst (pc' := 25) (n := 2) (v := 2) (by decide) ⟨by decide +kernel, rfl⟩ ?_
  refine z_icmp_eq (pc' := 28) (tgt := 50) (off := 25) ⟨by decide +kernel, rfl⟩ rfl (fun h2 => ?_) (fun h2 => ?_)
  · refine z_lv [1, 0] (lv' := [(0, .ref (a 0)), (2, .int v1)]) rfl ?_
    exact rf_sizes_J50_t n u v1
  · refine z_aload_n (pc' := 29) (k := 0) (i := 0) 1 rfl rfl ⟨by decide +kernel, rfl⟩ ?_
    refine z_getR (pc' := 32) (rff_vSort ca D) rfl (y := a 27) rfl ⟨by decide +kernel, rfl⟩ ?_
    refine z_aload_n (pc' := 33) (k := 0) (i := 0) 1 rfl rfl ⟨by decide +kernel, rfl⟩ ?_
    refine z_getI (pc' := 36) (rff_top ca D) rfl ⟨by decide +kernel, rfl⟩ ?_
    refine z_iconst (pc' := 37) (n := 1) (v := 1) (by decide) ⟨by decide +kernel, rfl⟩ ?_
    refine z_isub (pc' := 38) ⟨by decide +kernel, rfl⟩ ?_
    refine z_iald (pc' := 39) 27 rfl (zlt rfl) rfl rfl ⟨by decide +kernel, rfl⟩ ?_
    refine z_iconst (pc' := 40) (n := 3) (v := 3) (by decide) ⟨by decide +kernel, rfl⟩ ?_
    refine z_icmp_eq (pc' := 43) (tgt := 50) (off := 10) ⟨by decide +kernel, rfl⟩ rfl (fun h3 => ?_) (fun h3 => ?_)
    · refine z_lv [1, 0] (lv' := [(0, .ref (a 0)), (2, .int v1)]) rfl ?_
      exact rf_sizes_J50_t n u v1
    · refine z_aload_n (pc' := 44) (k := 0) (i := 0) 1 rfl rfl ⟨by decide +kernel, rfl⟩ ?_
      refine z_iconst (pc' := 45) (n := 2) (v := 2) (by decide) ⟨by decide +kernel, rfl⟩ ?_
      refine z_iload_n (pc' := 46) (k := 1) (i := 1) 2 rfl rfl ⟨by decide +kernel, rfl⟩ ?_
      refine z_callVf (pc' := 49) 0 (rft_fails n u 2 x1) (rfG_fails ca D) (rfO ca D) rfl (by omega) rfl rfl (Nat.le_of_ble_eq_true rfl) ⟨by decide +kernel, rfl⟩ (fun r4 u5 => ?_)
      exact z_iret (pc' := 50) ⟨by decide +kernel, rfl⟩
set_option maxRecDepth 20000 in
set_option maxHeartbeats 4000000 in
theorem rft_hinders {l : Launch} {ca : Nat → ClassId} {D : va_G} {a g : Nat → Nat} (n : Nat) (u : zMu) : zMet l (zRf ca D) rfY_hinders (.code rfY_hinders prog_13_method_65_code 1 (some .int)) zri true 0 a g [.ref (a 0)] u (rf_hinders n u) := by
  refine zMet.of rfl (Nat.le_of_ble_eq_true rfl) fun κ A hl => ?_
  subst hl
  unfold rf_hinders
  refine z_aload_n (pc' := 1) (k := 0) (i := 0) 0 rfl rfl ⟨by decide +kernel, rfl⟩ ?_
  refine z_getR (pc' := 4) (rff_vSort ca D) rfl (y := a 27) rfl ⟨by decide +kernel, rfl⟩ ?_
  refine z_aload_n (pc' := 5) (k := 0) (i := 0) 0 rfl rfl ⟨by decide +kernel, rfl⟩ ?_
  refine z_getI (pc' := 8) (rff_top ca D) rfl ⟨by decide +kernel, rfl⟩ ?_
  refine z_iald (pc' := 9) 27 rfl (zlt rfl) rfl rfl ⟨by decide +kernel, rfl⟩ ?_
  refine z_iconst (pc' := 10) (n := 3) (v := 3) (by decide) ⟨by decide +kernel, rfl⟩ ?_
  refine z_icmp_eq (pc' := 13) (tgt := 15) (off := 5) ⟨by decide +kernel, rfl⟩ rfl (fun h1 => ?_) (fun h1 => ?_)
  · refine z_aload_n (pc' := 16) (k := 0) (i := 0) 0 rfl rfl ⟨by decide +kernel, rfl⟩ ?_
    refine z_getR (pc' := 19) (rff_vSort ca D) rfl (y := a 27) rfl ⟨by decide +kernel, rfl⟩ ?_
    refine z_aload_n (pc' := 20) (k := 0) (i := 0) 0 rfl rfl ⟨by decide +kernel, rfl⟩ ?_
    refine z_getI (pc' := 23) (rff_top ca D) rfl ⟨by decide +kernel, rfl⟩ ?_
    refine z_iconst (pc' := 24) (n := 1) (v := 1) (by decide) ⟨by decide +kernel, rfl⟩ ?_
    refine z_iadd (pc' := 25) ⟨by decide +kernel, rfl⟩ ?_
    refine z_iald (pc' := 26) 27 rfl (zlt rfl) rfl rfl ⟨by decide +kernel, rfl⟩ ?_
    refine z_iconst (pc' := 27) (n := 1) (v := 1) (by decide) ⟨by decide +kernel, rfl⟩ ?_
    refine z_icmp_eq (pc' := 30) (tgt := 32) (off := 5) ⟨by decide +kernel, rfl⟩ rfl (fun h2 => ?_) (fun h2 => ?_)
    · refine z_aload_n (pc' := 33) (k := 0) (i := 0) 0 rfl rfl ⟨by decide +kernel, rfl⟩ ?_
      refine z_getR (pc' := 36) (rff_vNum ca D) rfl (y := a 31) rfl ⟨by decide +kernel, rfl⟩ ?_
      refine z_aload_n (pc' := 37) (k := 0) (i := 0) 0 rfl rfl ⟨by decide +kernel, rfl⟩ ?_
      refine z_getI (pc' := 40) (rff_top ca D) rfl ⟨by decide +kernel, rfl⟩ ?_
      refine z_iconst (pc' := 41) (n := 1) (v := 1) (by decide) ⟨by decide +kernel, rfl⟩ ?_
      refine z_iadd (pc' := 42) ⟨by decide +kernel, rfl⟩ ?_
      refine z_lald (pc' := 43) 31 rfl (zlt rfl) rfl rfl ⟨by decide +kernel, rfl⟩ ?_
      refine z_lconst (pc' := 44) (n := 0) (v := 0) (by decide) ⟨by decide +kernel, rfl⟩ ?_
      refine z_lcmp (pc' := 45) ⟨by decide +kernel, rfl⟩ ?_
      refine z_if_lt (pc' := 48) (tgt := 79) (off := 34) ⟨by decide +kernel, rfl⟩ rfl (fun h3 => ?_) (fun h3 => ?_)
      · refine z_iconst (pc' := 80) (n := 3) (v := 3) (by decide) ⟨by decide +kernel, rfl⟩ ?_
        refine z_goto (tgt := 84) (off := 4) (by decide +kernel) rfl ?_
        exact z_iret (pc' := 85) ⟨by decide +kernel, rfl⟩
      · refine z_aload_n (pc' := 49) (k := 0) (i := 0) 0 rfl rfl ⟨by decide +kernel, rfl⟩ ?_
        refine z_getR (pc' := 52) (rff_vNum ca D) rfl (y := a 31) rfl ⟨by decide +kernel, rfl⟩ ?_
        refine z_aload_n (pc' := 53) (k := 0) (i := 0) 0 rfl rfl ⟨by decide +kernel, rfl⟩ ?_
        refine z_getI (pc' := 56) (rff_top ca D) rfl ⟨by decide +kernel, rfl⟩ ?_
        refine z_iconst (pc' := 57) (n := 1) (v := 1) (by decide) ⟨by decide +kernel, rfl⟩ ?_
        refine z_iadd (pc' := 58) ⟨by decide +kernel, rfl⟩ ?_
        refine z_lald (pc' := 59) 31 rfl (zlt rfl) rfl rfl ⟨by decide +kernel, rfl⟩ ?_
        refine z_aload_n (pc' := 60) (k := 0) (i := 0) 0 rfl rfl ⟨by decide +kernel, rfl⟩ ?_
        refine z_getR (pc' := 63) (rff_rSize ca D) rfl (y := a 49) rfl ⟨by decide +kernel, rfl⟩ ?_
        refine z_aload_n (pc' := 64) (k := 0) (i := 0) 0 rfl rfl ⟨by decide +kernel, rfl⟩ ?_
        refine z_getR (pc' := 67) (rff_vNum ca D) rfl (y := a 31) rfl ⟨by decide +kernel, rfl⟩ ?_
        refine z_aload_n (pc' := 68) (k := 0) (i := 0) 0 rfl rfl ⟨by decide +kernel, rfl⟩ ?_
        refine z_getI (pc' := 71) (rff_top ca D) rfl ⟨by decide +kernel, rfl⟩ ?_
        refine z_lald (pc' := 72) 31 rfl (zlt rfl) rfl rfl ⟨by decide +kernel, rfl⟩ ?_
        refine z_l2i (pc' := 73) ⟨by decide +kernel, rfl⟩ ?_
        refine z_iald (pc' := 74) 49 rfl (zlt rfl) rfl rfl ⟨by decide +kernel, rfl⟩ ?_
        refine z_i2l (pc' := 75) ⟨by decide +kernel, rfl⟩ ?_
        refine z_lcmp (pc' := 76) ⟨by decide +kernel, rfl⟩ ?_
        refine z_if_lt (pc' := 79) (tgt := 83) (off := 7) ⟨by decide +kernel, rfl⟩ rfl (fun h4 => ?_) (fun h4 => ?_)
        · refine z_iconst (pc' := 84) (n := 0) (v := 0) (by decide) ⟨by decide +kernel, rfl⟩ ?_
          exact z_iret (pc' := 85) ⟨by decide +kernel, rfl⟩
        · refine z_iconst (pc' := 80) (n := 3) (v := 3) (by decide) ⟨by decide +kernel, rfl⟩ ?_
          refine z_goto (tgt := 84) (off := 4) (by decide +kernel) rfl ?_
          exact z_iret (pc' := 85) ⟨by decide +kernel, rfl⟩
    · refine z_iconst (pc' := 31) (n := 1) (v := 1) (by decide) ⟨by decide +kernel, rfl⟩ ?_
      exact z_iret (pc' := 32) ⟨by decide +kernel, rfl⟩
  · refine z_iconst (pc' := 14) (n := 2) (v := 2) (by decide) ⟨by decide +kernel, rfl⟩ ?_
    exact z_iret (pc' := 15) ⟨by decide +kernel, rfl⟩
set_option maxRecDepth 20000 in
set_option maxHeartbeats 4000000 in
theorem rft_items {l : Launch} {ca : Nat → ClassId} {D : va_G} {a g : Nat → Nat} (n : Nat) (u : zMu) (x1 : Int32) : zMet l (zRf ca D) rfY_items (.code rfY_items prog_13_method_66_code 4 (some .int)) zri true 1 a g [.ref (a 0), .int x1] u (rf_items n u x1) := by
  refine zMet.of rfl (Nat.le_of_ble_eq_true rfl) fun κ A hl => ?_
  subst hl
  unfold rf_items
  refine z_aload_n (pc' := 1) (k := 0) (i := 0) 0 rfl rfl ⟨by decide +kernel, rfl⟩ ?_
  refine z_dup (pc' := 2) rfl ⟨by decide +kernel, rfl⟩ ?_
  refine z_getI (pc' := 5) (rff_top ca D) rfl ⟨by decide +kernel, rfl⟩ ?_
  refine z_iconst (pc' := 6) (n := 2) (v := 2) (by decide) ⟨by decide +kernel, rfl⟩ ?_
  refine z_isub (pc' := 7) ⟨by decide +kernel, rfl⟩ ?_
  refine z_putI (pc' := 10) (rff_top ca D) rfl ⟨by decide +kernel, rfl⟩ (z_letU fun u1 => ?_)
  refine z_aload_n (pc' := 11) (k := 0) (i := 0) 0 rfl rfl ⟨by decide +kernel, rfl⟩ ?_
  refine z_callVf (pc' := 14) 0 (rft_hinders n u1) (rfG_hinders ca D) (rfO ca D) rfl (by omega) rfl rfl (Nat.le_of_ble_eq_true rfl) ⟨by decide +kernel, rfl⟩ (fun r2 u3 => ?_)
  refine z_istore_n (pc' := 15) (k := 2) (i := 2) rfl (by decide) rfl ⟨by decide +kernel, rfl⟩ ?_
  refine z_iload_n (pc' := 16) (k := 2) (i := 2) 0 rfl rfl ⟨by decide +kernel, rfl⟩ ?_
  refine z_if_eq (pc' := 19) (tgt := 26) (off := 10) ⟨by decide +kernel, rfl⟩ rfl (fun h4 => ?_) (fun h4 => ?_)
  · refine z_bipush (pc' := 28) (n := 50) (v := 50) (by decide) ⟨by decide +kernel, rfl⟩ ?_
    refine z_aload_n (pc' := 29) (k := 0) (i := 0) 1 rfl rfl ⟨by decide +kernel, rfl⟩ ?_
    refine z_getR (pc' := 32) (rff_vNum ca D) rfl (y := a 31) rfl ⟨by decide +kernel, rfl⟩ ?_
    refine z_aload_n (pc' := 33) (k := 0) (i := 0) 1 rfl rfl ⟨by decide +kernel, rfl⟩ ?_
    refine z_getI (pc' := 36) (rff_top ca D) rfl ⟨by decide +kernel, rfl⟩ ?_
    refine z_lald (pc' := 37) 31 rfl (zlt rfl) rfl rfl ⟨by decide +kernel, rfl⟩ ?_
    refine z_l2i (pc' := 38) ⟨by decide +kernel, rfl⟩ ?_
    refine z_imul (pc' := 39) ⟨by decide +kernel, rfl⟩ ?_
    refine z_aload_n (pc' := 40) (k := 0) (i := 0) 1 rfl rfl ⟨by decide +kernel, rfl⟩ ?_
    refine z_getR (pc' := 43) (rff_vNum ca D) rfl (y := a 31) rfl ⟨by decide +kernel, rfl⟩ ?_
    refine z_aload_n (pc' := 44) (k := 0) (i := 0) 1 rfl rfl ⟨by decide +kernel, rfl⟩ ?_
    refine z_getI (pc' := 47) (rff_top ca D) rfl ⟨by decide +kernel, rfl⟩ ?_
    refine z_iconst (pc' := 48) (n := 1) (v := 1) (by decide) ⟨by decide +kernel, rfl⟩ ?_
    refine z_iadd (pc' := 49) ⟨by decide +kernel, rfl⟩ ?_
    refine z_lald (pc' := 50) 31 rfl (zlt rfl) rfl rfl ⟨by decide +kernel, rfl⟩ ?_
    refine z_l2i (pc' := 51) ⟨by decide +kernel, rfl⟩ ?_
    refine z_iadd (pc' := 52) ⟨by decide +kernel, rfl⟩ ?_
    refine z_letI fun v5 => ?_
    refine z_istore_n (pc' := 53) (k := 3) (i := 3) rfl (by decide) rfl ⟨by decide +kernel, rfl⟩ ?_
    refine z_aload_n (pc' := 54) (k := 0) (i := 0) 2 rfl rfl ⟨by decide +kernel, rfl⟩ ?_
    refine z_aload_n (pc' := 55) (k := 0) (i := 0) 2 rfl rfl ⟨by decide +kernel, rfl⟩ ?_
    refine z_getR (pc' := 58) (rff_iSort ca D) rfl (y := a 50) rfl ⟨by decide +kernel, rfl⟩ ?_
    refine z_iload_n (pc' := 59) (k := 3) (i := 3) 0 rfl rfl ⟨by decide +kernel, rfl⟩ ?_
    refine z_iald (pc' := 60) 50 rfl (zlt rfl) rfl rfl ⟨by decide +kernel, rfl⟩ ?_
    refine z_aload_n (pc' := 61) (k := 0) (i := 0) 2 rfl rfl ⟨by decide +kernel, rfl⟩ ?_
    refine z_getR (pc' := 64) (rff_iNum ca D) rfl (y := a 51) rfl ⟨by decide +kernel, rfl⟩ ?_
    refine z_iload_n (pc' := 65) (k := 3) (i := 3) 0 rfl rfl ⟨by decide +kernel, rfl⟩ ?_
    refine z_lald (pc' := 66) 51 rfl (zlt rfl) rfl rfl ⟨by decide +kernel, rfl⟩ ?_
    refine z_callVf (pc' := 69) 0 (rft_pushes n u3 (zI u3 50 (zx v5)) (zL u3 51 (zx v5))) (rfG_pushes ca D) (rfO ca D) rfl (by omega) rfl rfl (Nat.le_of_ble_eq_true rfl) ⟨by decide +kernel, rfl⟩ (fun _ u7 => ?_)
    refine z_iconst (pc' := 70) (n := (-1)) (v := (-1)) (by decide) ⟨by decide +kernel, rfl⟩ ?_
    exact z_iret (pc' := 71) ⟨by decide +kernel, rfl⟩
  · refine z_aload_n (pc' := 20) (k := 0) (i := 0) 1 rfl rfl ⟨by decide +kernel, rfl⟩ ?_
    refine z_iload_n (pc' := 21) (k := 2) (i := 2) 0 rfl rfl ⟨by decide +kernel, rfl⟩ ?_
    refine z_iload_n (pc' := 22) (k := 1) (i := 1) 2 rfl rfl ⟨by decide +kernel, rfl⟩ ?_
    refine z_callVf (pc' := 25) 0 (rft_fails n u3 r2 x1) (rfG_fails ca D) (rfO ca D) rfl (by omega) rfl rfl (Nat.le_of_ble_eq_true rfl) ⟨by decide +kernel, rfl⟩ (fun r8 u9 => ?_)
    exact z_iret (pc' := 26) ⟨by decide +kernel, rfl⟩
