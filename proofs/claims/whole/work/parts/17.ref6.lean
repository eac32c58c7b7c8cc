/-! the reference's methods meet their models (printed by wip/gen/ref.py) -/
set_option maxRecDepth 20000 in
set_option maxHeartbeats 4000000 in
theorem rf_strikes_J163_t {κ : zKx} {ca : Nat → ClassId} {D : va_G} {A : Nat → Prop} {c0 : Nat × Nat} {a g0 g : Nat → Nat} (n : Nat) (u : zMu) (x3 : Int32) : zJ κ (zRf ca D) prog_13_method_62_code 6 rf_C (some .int) zri true 2 A c0 a g0 g u 163 [(0, .ref (a 0)), (3, .int x3)] [] (rf_strikes_J163 n u x3) := by
  unfold rf_strikes_J163
  refine z_aload_n (pc' := 164) (k := 0) (i := 0) 0 rfl rfl ⟨by decide +kernel, rfl⟩ ?_
  refine z_getR (pc' := 167) (rff_oSize ca D) rfl (y := a 39) rfl ⟨by decide +kernel, rfl⟩ ?_
  refine z_iload_n (pc' := 168) (k := 3) (i := 3) 1 rfl rfl ⟨by decide +kernel, rfl⟩ ?_
  refine z_dup2_11 (pc' := 169) rfl rfl ⟨by decide +kernel, rfl⟩ ?_
  refine z_iald (pc' := 170) 39 rfl (zlt rfl) rfl rfl ⟨by decide +kernel, rfl⟩ ?_
  refine z_iconst (pc' := 171) (n := 1) (v := 1) (by decide) ⟨by decide +kernel, rfl⟩ ?_
  refine z_isub (pc' := 172) ⟨by decide +kernel, rfl⟩ ?_
  refine z_iast (pc' := 173) 39 rfl (zlt rfl) rfl rfl ⟨by decide +kernel, rfl⟩ (z_letU fun u1 => ?_)
  refine z_aload_n (pc' := 174) (k := 0) (i := 0) 0 rfl rfl ⟨by decide +kernel, rfl⟩ ?_
  refine z_getR (pc' := 177) (rff_oShape ca D) rfl (y := a 36) rfl ⟨by decide +kernel, rfl⟩ ?_
  refine z_iload_n (pc' := 178) (k := 3) (i := 3) 1 rfl rfl ⟨by decide +kernel, rfl⟩ ?_
  refine z_iald (pc' := 179) 36 rfl (zlt rfl) rfl rfl ⟨by decide +kernel, rfl⟩ ?_
  refine z_iconst (pc' := 180) (n := (-1)) (v := (-1)) (by decide) ⟨by decide +kernel, rfl⟩ ?_
  refine z_icmp_eq (pc' := 183) (tgt := 200) (off := 20) ⟨by decide +kernel, rfl⟩ rfl (fun h2 => ?_) (fun h2 => ?_)
  · refine z_aload_n (pc' := 201) (k := 0) (i := 0) 0 rfl rfl ⟨by decide +kernel, rfl⟩ ?_
    refine z_iload_n (pc' := 202) (k := 3) (i := 3) 1 rfl rfl ⟨by decide +kernel, rfl⟩ ?_
    refine z_callVf (pc' := 205) 0 (rft_breaks n u1 x3) (rfG_breaks ca D) (rfO ca D) rfl (by omega) rfl rfl (Nat.le_of_ble_eq_true rfl) ⟨by decide +kernel, rfl⟩ (fun _ u4 => ?_)
    refine z_iconst (pc' := 206) (n := (-1)) (v := (-1)) (by decide) ⟨by decide +kernel, rfl⟩ ?_
    exact z_iret (pc' := 207) ⟨by decide +kernel, rfl⟩
  · refine z_aload_n (pc' := 184) (k := 0) (i := 0) 0 rfl rfl ⟨by decide +kernel, rfl⟩ ?_
    refine z_getR (pc' := 187) (rff_oShape ca D) rfl (y := a 36) rfl ⟨by decide +kernel, rfl⟩ ?_
    refine z_iload_n (pc' := 188) (k := 3) (i := 3) 1 rfl rfl ⟨by decide +kernel, rfl⟩ ?_
    refine z_iconst (pc' := 189) (n := (-1)) (v := (-1)) (by decide) ⟨by decide +kernel, rfl⟩ ?_
    refine z_iast (pc' := 190) 36 rfl (zlt rfl) rfl rfl ⟨by decide +kernel, rfl⟩ (z_letU fun u5 => ?_)
    refine z_aload_n (pc' := 191) (k := 0) (i := 0) 0 rfl rfl ⟨by decide +kernel, rfl⟩ ?_
    refine z_dup (pc' := 192) rfl ⟨by decide +kernel, rfl⟩ ?_
    refine z_getI (pc' := 195) (rff_dictionaries ca D) rfl ⟨by decide +kernel, rfl⟩ ?_
    refine z_iconst (pc' := 196) (n := 1) (v := 1) (by decide) ⟨by decide +kernel, rfl⟩ ?_
    refine z_iadd (pc' := 197) ⟨by decide +kernel, rfl⟩ ?_
    refine z_putI (pc' := 200) (rff_dictionaries ca D) rfl ⟨by decide +kernel, rfl⟩ (z_letU fun u6 => ?_)
    refine z_aload_n (pc' := 201) (k := 0) (i := 0) 0 rfl rfl ⟨by decide +kernel, rfl⟩ ?_
    refine z_iload_n (pc' := 202) (k := 3) (i := 3) 1 rfl rfl ⟨by decide +kernel, rfl⟩ ?_
    refine z_callVf (pc' := 205) 0 (rft_breaks n u6 x3) (rfG_breaks ca D) (rfO ca D) rfl (by omega) rfl rfl (Nat.le_of_ble_eq_true rfl) ⟨by decide +kernel, rfl⟩ (fun _ u8 => ?_)
    refine z_iconst (pc' := 206) (n := (-1)) (v := (-1)) (by decide) ⟨by decide +kernel, rfl⟩ ?_
    exact z_iret (pc' := 207) ⟨by decide +kernel, rfl⟩
set_option maxRecDepth 20000 in
set_option maxHeartbeats 4000000 in
theorem rf_strikes_J144_t {κ : zKx} {ca : Nat → ClassId} {D : va_G} {A : Nat → Prop} {c0 : Nat × Nat} {a g0 g : Nat → Nat} (n : Nat) (u : zMu) (x3 : Int32) (x4 : Int32) (x5 : Int32) : zJ κ (zRf ca D) prog_13_method_62_code 6 rf_C (some .int) zri true 2 A c0 a g0 g u 144 [(0, .ref (a 0)), (3, .int x3), (4, .int x4), (5, .int x5)] [] (rf_strikes_J144 n u x3 x4 x5) := by
  unfold rf_strikes_J144
  refine z_aload_n (pc' := 145) (k := 0) (i := 0) 0 rfl rfl ⟨by decide +kernel, rfl⟩ ?_
  refine z_getR (pc' := 148) (rff_oLast ca D) rfl (y := a 38) rfl ⟨by decide +kernel, rfl⟩ ?_
  refine z_iload_n (pc' := 149) (k := 3) (i := 3) 1 rfl rfl ⟨by decide +kernel, rfl⟩ ?_
  refine z_iald (pc' := 150) 38 rfl (zlt rfl) rfl rfl ⟨by decide +kernel, rfl⟩ ?_
  refine z_iload (pc' := 152) (i := 5) 3 rfl ⟨by decide +kernel, rfl⟩ ?_
  refine z_icmp_ne (pc' := 155) (tgt := 163) (off := 11) ⟨by decide +kernel, rfl⟩ rfl (fun h1 => ?_) (fun h1 => ?_)
  · refine z_aload_n (pc' := 156) (k := 0) (i := 0) 0 rfl rfl ⟨by decide +kernel, rfl⟩ ?_
    refine z_getR (pc' := 159) (rff_oLast ca D) rfl (y := a 38) rfl ⟨by decide +kernel, rfl⟩ ?_
    refine z_iload_n (pc' := 160) (k := 3) (i := 3) 1 rfl rfl ⟨by decide +kernel, rfl⟩ ?_
    refine z_iload (pc' := 162) (i := 4) 2 rfl ⟨by decide +kernel, rfl⟩ ?_
    refine z_iast (pc' := 163) 38 rfl (zlt rfl) rfl rfl ⟨by decide +kernel, rfl⟩ (z_letU fun u2 => ?_)
    refine z_lv [0, 1] (lv' := [(0, .ref (a 0)), (3, .int x3)]) rfl ?_
    exact rf_strikes_J163_t n u2 x3
  · refine z_lv [0, 1] (lv' := [(0, .ref (a 0)), (3, .int x3)]) rfl ?_
    exact rf_strikes_J163_t n u x3
set_option maxRecDepth 20000 in
set_option maxHeartbeats 4000000 in
theorem rf_strikes_J100_t {κ : zKx} {ca : Nat → ClassId} {D : va_G} {A : Nat → Prop} {c0 : Nat × Nat} {a g0 g : Nat → Nat} (n : Nat) (u : zMu) (x3 : Int32) (x4 : Int32) (x5 : Int32) : zJ κ (zRf ca D) prog_13_method_62_code 6 rf_C (some .int) zri true 2 A c0 a g0 g u 100 [(0, .ref (a 0)), (3, .int x3), (4, .int x4), (5, .int x5)] [] (rf_strikes_J100 n u x3 x4 x5) := by
  unfold rf_strikes_J100
  refine z_iload (pc' := 102) (i := 5) 3 rfl ⟨by decide +kernel, rfl⟩ ?_
  refine z_iconst (pc' := 103) (n := (-1)) (v := (-1)) (by decide) ⟨by decide +kernel, rfl⟩ ?_
  refine z_icmp_ne (pc' := 106) (tgt := 108) (off := 5) ⟨by decide +kernel, rfl⟩ rfl (fun h1 => ?_) (fun h1 => ?_)
  · refine z_iconst (pc' := 107) (n := (-1)) (v := (-1)) (by decide) ⟨by decide +kernel, rfl⟩ ?_
    exact z_iret (pc' := 108) ⟨by decide +kernel, rfl⟩
  · refine z_iload (pc' := 110) (i := 4) 2 rfl ⟨by decide +kernel, rfl⟩ ?_
    refine z_iconst (pc' := 111) (n := (-1)) (v := (-1)) (by decide) ⟨by decide +kernel, rfl⟩ ?_
    refine z_icmp_ne (pc' := 114) (tgt := 130) (off := 19) ⟨by decide +kernel, rfl⟩ rfl (fun h2 => ?_) (fun h2 => ?_)
    · refine z_aload_n (pc' := 115) (k := 0) (i := 0) 0 rfl rfl ⟨by decide +kernel, rfl⟩ ?_
      refine z_getR (pc' := 118) (rff_oFirst ca D) rfl (y := a 37) rfl ⟨by decide +kernel, rfl⟩ ?_
      refine z_iload_n (pc' := 119) (k := 3) (i := 3) 1 rfl rfl ⟨by decide +kernel, rfl⟩ ?_
      refine z_aload_n (pc' := 120) (k := 0) (i := 0) 0 rfl rfl ⟨by decide +kernel, rfl⟩ ?_
      refine z_getR (pc' := 123) (rff_mNext ca D) rfl (y := a 42) rfl ⟨by decide +kernel, rfl⟩ ?_
      refine z_iload (pc' := 125) (i := 5) 3 rfl ⟨by decide +kernel, rfl⟩ ?_
      refine z_iald (pc' := 126) 42 rfl (zlt rfl) rfl rfl ⟨by decide +kernel, rfl⟩ ?_
      refine z_iast (pc' := 127) 37 rfl (zlt rfl) rfl rfl ⟨by decide +kernel, rfl⟩ (z_letU fun u3 => ?_)
      refine z_goto (tgt := 144) (off := 17) (by decide +kernel) rfl ?_
      exact rf_strikes_J144_t n u3 x3 x4 x5
    · refine z_aload_n (pc' := 131) (k := 0) (i := 0) 0 rfl rfl ⟨by decide +kernel, rfl⟩ ?_
      refine z_getR (pc' := 134) (rff_mNext ca D) rfl (y := a 42) rfl ⟨by decide +kernel, rfl⟩ ?_
      refine z_iload (pc' := 136) (i := 4) 2 rfl ⟨by decide +kernel, rfl⟩ ?_
      refine z_aload_n (pc' := 137) (k := 0) (i := 0) 0 rfl rfl ⟨by decide +kernel, rfl⟩ ?_
      refine z_getR (pc' := 140) (rff_mNext ca D) rfl (y := a 42) rfl ⟨by decide +kernel, rfl⟩ ?_
      refine z_iload (pc' := 142) (i := 5) 3 rfl ⟨by decide +kernel, rfl⟩ ?_
      refine z_iald (pc' := 143) 42 rfl (zlt rfl) rfl rfl ⟨by decide +kernel, rfl⟩ ?_
      refine z_iast (pc' := 144) 42 rfl (zlt rfl) rfl rfl ⟨by decide +kernel, rfl⟩ (z_letU fun u4 => ?_)
      exact rf_strikes_J144_t n u4 x3 x4 x5
set_option maxRecDepth 20000 in
set_option maxHeartbeats 4000000 in
theorem rf_strikes_L62_t {κ : zKx} {ca : Nat → ClassId} {D : va_G} {A : Nat → Prop} {c0 : Nat × Nat} {a g0 g : Nat → Nat} (n : Nat) : ∀ (m : Nat) (u : zMu) (x1 : Int32) (x3 : Int32) (x4 : Int32) (x5 : Int32), zJ κ (zRf ca D) prog_13_method_62_code 6 rf_C (some .int) zri true 2 A c0 a g0 g u 62 [(0, .ref (a 0)), (1, .int x1), (3, .int x3), (4, .int x4), (5, .int x5)] [] (rf_strikes_L62 n m u x1 x3 x4 x5) := by
  intro m
  induction m with
  | zero => intro u x1 x3 x4 x5 r u' h; cases h
  | succ m ih =>
    intro u x1 x3 x4 x5
    unfold rf_strikes_L62
    refine z_iload (pc' := 64) (i := 5) 4 rfl ⟨by decide +kernel, rfl⟩ ?_
    refine z_iconst (pc' := 65) (n := (-1)) (v := (-1)) (by decide) ⟨by decide +kernel, rfl⟩ ?_
    refine z_icmp_eq (pc' := 68) (tgt := 100) (off := 35) ⟨by decide +kernel, rfl⟩ rfl (fun h1 => ?_) (fun h1 => ?_)
    · refine z_lv [0, 2, 3, 4] (lv' := [(0, .ref (a 0)), (3, .int x3), (4, .int x4), (5, .int x5)]) rfl ?_
      exact rf_strikes_J100_t n u x3 x4 x5
    · refine z_aload_n (pc' := 69) (k := 0) (i := 0) 0 rfl rfl ⟨by decide +kernel, rfl⟩ ?_
      refine z_getR (pc' := 72) (rff_mName ca D) rfl (y := a 40) rfl ⟨by decide +kernel, rfl⟩ ?_
      refine z_iload (pc' := 74) (i := 5) 4 rfl ⟨by decide +kernel, rfl⟩ ?_
      refine z_iald (pc' := 75) 40 rfl (zlt rfl) rfl rfl ⟨by decide +kernel, rfl⟩ ?_
      refine z_aload_n (pc' := 76) (k := 0) (i := 0) 0 rfl rfl ⟨by decide +kernel, rfl⟩ ?_
      refine z_getR (pc' := 79) (rff_siteName ca D) rfl (y := a 22) rfl ⟨by decide +kernel, rfl⟩ ?_
      refine z_iload_n (pc' := 80) (k := 1) (i := 1) 1 rfl rfl ⟨by decide +kernel, rfl⟩ ?_
      refine z_iald (pc' := 81) 22 rfl (zlt rfl) rfl rfl ⟨by decide +kernel, rfl⟩ ?_
      refine z_icmp_eq (pc' := 84) (tgt := 100) (off := 19) ⟨by decide +kernel, rfl⟩ rfl (fun h2 => ?_) (fun h2 => ?_)
      · refine z_lv [0, 2, 3, 4] (lv' := [(0, .ref (a 0)), (3, .int x3), (4, .int x4), (5, .int x5)]) rfl ?_
        exact rf_strikes_J100_t n u x3 x4 x5
      · refine z_iload (pc' := 86) (i := 5) 4 rfl ⟨by decide +kernel, rfl⟩ ?_
        refine z_istore (pc' := 88) (i := 4) (by decide) rfl ⟨by decide +kernel, rfl⟩ ?_
        refine z_aload_n (pc' := 89) (k := 0) (i := 0) 1 rfl rfl ⟨by decide +kernel, rfl⟩ ?_
        refine z_getR (pc' := 92) (rff_mNext ca D) rfl (y := a 42) rfl ⟨by decide +kernel, rfl⟩ ?_
        refine z_iload (pc' := 94) (i := 5) 4 rfl ⟨by decide +kernel, rfl⟩ ?_
        refine z_iald (pc' := 95) 42 rfl (zlt rfl) rfl rfl ⟨by decide +kernel, rfl⟩ ?_
        refine z_letI fun v3 => ?_
        refine z_istore (pc' := 97) (i := 5) (by decide) rfl ⟨by decide +kernel, rfl⟩ ?_
        refine z_goto (tgt := 62) (off := -35) (by decide +kernel) rfl ?_
        refine z_lv [2, 3, 4, 1, 0] (lv' := [(0, .ref (a 0)), (1, .int x1), (3, .int x3), (4, .int x5), (5, .int v3)]) rfl ?_
        exact ih u x1 x3 x5 v3
set_option maxRecDepth 20000 in
set_option maxHeartbeats 4000000 in
theorem rft_strikes {l : Launch} {ca : Nat → ClassId} {D : va_G} {a g : Nat → Nat} (n : Nat) (u : zMu) (x1 : Int32) (x2 : Int32) : zMet l (zRf ca D) rfY_strikes (.code rfY_strikes prog_13_method_62_code 6 (some .int)) zri true 2 a g [.ref (a 0), .int x1, .int x2] u (rf_strikes n u x1 x2) := by
  refine zMet.of rfl (Nat.le_of_ble_eq_true rfl) fun κ A hl => ?_
  subst hl
  unfold rf_strikes
  refine z_aload_n (pc' := 1) (k := 0) (i := 0) 0 rfl rfl ⟨by decide +kernel, rfl⟩ ?_
  refine z_dup (pc' := 2) rfl ⟨by decide +kernel, rfl⟩ ?_
  refine z_getI (pc' := 5) (rff_top ca D) rfl ⟨by decide +kernel, rfl⟩ ?_
  refine z_iconst (pc' := 6) (n := 1) (v := 1) (by decide) ⟨by decide +kernel, rfl⟩ ?_
  refine z_isub (pc' := 7) ⟨by decide +kernel, rfl⟩ ?_
  refine z_putI (pc' := 10) (rff_top ca D) rfl ⟨by decide +kernel, rfl⟩ (z_letU fun u1 => ?_)
  refine z_aload_n (pc' := 11) (k := 0) (i := 0) 0 rfl rfl ⟨by decide +kernel, rfl⟩ ?_
  refine z_getR (pc' := 14) (rff_vSort ca D) rfl (y := a 27) rfl ⟨by decide +kernel, rfl⟩ ?_
  refine z_aload_n (pc' := 15) (k := 0) (i := 0) 0 rfl rfl ⟨by decide +kernel, rfl⟩ ?_
  refine z_getI (pc' := 18) (rff_top ca D) rfl ⟨by decide +kernel, rfl⟩ ?_
  refine z_iald (pc' := 19) 27 rfl (zlt rfl) rfl rfl ⟨by decide +kernel, rfl⟩ ?_
  refine z_iconst (pc' := 20) (n := 2) (v := 2) (by decide) ⟨by decide +kernel, rfl⟩ ?_
  refine z_icmp_eq (pc' := 23) (tgt := 30) (off := 10) ⟨by decide +kernel, rfl⟩ rfl (fun h2 => ?_) (fun h2 => ?_)
  · refine z_aload_n (pc' := 31) (k := 0) (i := 0) 0 rfl rfl ⟨by decide +kernel, rfl⟩ ?_
    refine z_getR (pc' := 34) (rff_vNum ca D) rfl (y := a 31) rfl ⟨by decide +kernel, rfl⟩ ?_
    refine z_aload_n (pc' := 35) (k := 0) (i := 0) 0 rfl rfl ⟨by decide +kernel, rfl⟩ ?_
    refine z_getI (pc' := 38) (rff_top ca D) rfl ⟨by decide +kernel, rfl⟩ ?_
    refine z_lald (pc' := 39) 31 rfl (zlt rfl) rfl rfl ⟨by decide +kernel, rfl⟩ ?_
    refine z_l2i (pc' := 40) ⟨by decide +kernel, rfl⟩ ?_
    refine z_letI fun v3 => ?_
    refine z_istore_n (pc' := 41) (k := 3) (i := 3) rfl (by decide) rfl ⟨by decide +kernel, rfl⟩ ?_
    refine z_aload_n (pc' := 42) (k := 0) (i := 0) 1 rfl rfl ⟨by decide +kernel, rfl⟩ ?_
    refine z_getR (pc' := 45) (rff_ran ca D) rfl (y := a 52) rfl ⟨by decide +kernel, rfl⟩ ?_
    refine z_iload_n (pc' := 46) (k := 1) (i := 1) 2 rfl rfl ⟨by decide +kernel, rfl⟩ ?_
    refine z_dup2_11 (pc' := 47) rfl rfl ⟨by decide +kernel, rfl⟩ ?_
    refine z_iald (pc' := 48) 52 rfl (zlt rfl) rfl rfl ⟨by decide +kernel, rfl⟩ ?_
    refine z_iconst (pc' := 49) (n := 1) (v := 1) (by decide) ⟨by decide +kernel, rfl⟩ ?_
    refine z_iadd (pc' := 50) ⟨by decide +kernel, rfl⟩ ?_
    refine z_iast (pc' := 51) 52 rfl (zlt rfl) rfl rfl ⟨by decide +kernel, rfl⟩ (z_letU fun u4 => ?_)
    refine z_iconst (pc' := 52) (n := (-1)) (v := (-1)) (by decide) ⟨by decide +kernel, rfl⟩ ?_
    refine z_istore (pc' := 54) (i := 4) (by decide) rfl ⟨by decide +kernel, rfl⟩ ?_
    refine z_aload_n (pc' := 55) (k := 0) (i := 0) 2 rfl rfl ⟨by decide +kernel, rfl⟩ ?_
    refine z_getR (pc' := 58) (rff_oFirst ca D) rfl (y := a 37) rfl ⟨by decide +kernel, rfl⟩ ?_
    refine z_iload_n (pc' := 59) (k := 3) (i := 3) 1 rfl rfl ⟨by decide +kernel, rfl⟩ ?_
    refine z_iald (pc' := 60) 37 rfl (zlt rfl) rfl rfl ⟨by decide +kernel, rfl⟩ ?_
    refine z_letI fun v5 => ?_
    refine z_istore (pc' := 62) (i := 5) (by decide) rfl ⟨by decide +kernel, rfl⟩ ?_
    refine z_lv [3, 4, 2, 1, 0] (lv' := [(0, .ref (a 0)), (1, .int x1), (3, .int v3), (4, .int (-1)), (5, .int v5)]) rfl ?_
    exact rf_strikes_L62_t n n u4 x1 v3 (-1) v5
  · refine z_aload_n (pc' := 24) (k := 0) (i := 0) 0 rfl rfl ⟨by decide +kernel, rfl⟩ ?_
    refine z_iconst (pc' := 25) (n := 2) (v := 2) (by decide) ⟨by decide +kernel, rfl⟩ ?_
    refine z_iload_n (pc' := 26) (k := 2) (i := 2) 2 rfl rfl ⟨by decide +kernel, rfl⟩ ?_
    refine z_callVf (pc' := 29) 0 (rft_fails n u1 2 x2) (rfG_fails ca D) (rfO ca D) rfl (by omega) rfl rfl (Nat.le_of_ble_eq_true rfl) ⟨by decide +kernel, rfl⟩ (fun r6 u7 => ?_)
    exact z_iret (pc' := 30) ⟨by decide +kernel, rfl⟩
set_option maxRecDepth 20000 in
set_option maxHeartbeats 4000000 in
theorem rf_does_J513_t {κ : zKx} {ca : Nat → ClassId} {D : va_G} {A : Nat → Prop} {c0 : Nat × Nat} {a g0 g : Nat → Nat} (n : Nat) (u : zMu) (s0 : Int32) : zJ κ (zRf ca D) prog_13_method_48_code 7 rf_C (some .int) zri true 4 A c0 a g0 g u 513 [(0, .ref (a 0))] [.int s0] (rf_does_J513 n u s0) := by
  unfold rf_does_J513
  refine z_istore (pc' := 515) (i := 6) (by decide) rfl ⟨by decide +kernel, rfl⟩ ?_
  refine z_aload_n (pc' := 516) (k := 0) (i := 0) 1 rfl rfl ⟨by decide +kernel, rfl⟩ ?_
  refine z_getR (pc' := 519) (rff_vSort ca D) rfl (y := a 27) rfl ⟨by decide +kernel, rfl⟩ ?_
  refine z_aload_n (pc' := 520) (k := 0) (i := 0) 1 rfl rfl ⟨by decide +kernel, rfl⟩ ?_
  refine z_getI (pc' := 523) (rff_top ca D) rfl ⟨by decide +kernel, rfl⟩ ?_
  refine z_iconst (pc' := 524) (n := 1) (v := 1) (by decide) ⟨by decide +kernel, rfl⟩ ?_
  refine z_isub (pc' := 525) ⟨by decide +kernel, rfl⟩ ?_
  refine z_iconst (pc' := 526) (n := 1) (v := 1) (by decide) ⟨by decide +kernel, rfl⟩ ?_
  refine z_iast (pc' := 527) 27 rfl (zlt rfl) rfl rfl ⟨by decide +kernel, rfl⟩ (z_letU fun u1 => ?_)
  refine z_aload_n (pc' := 528) (k := 0) (i := 0) 1 rfl rfl ⟨by decide +kernel, rfl⟩ ?_
  refine z_getR (pc' := 531) (rff_vNum ca D) rfl (y := a 31) rfl ⟨by decide +kernel, rfl⟩ ?_
  refine z_aload_n (pc' := 532) (k := 0) (i := 0) 1 rfl rfl ⟨by decide +kernel, rfl⟩ ?_
  refine z_getI (pc' := 535) (rff_top ca D) rfl ⟨by decide +kernel, rfl⟩ ?_
  refine z_iconst (pc' := 536) (n := 1) (v := 1) (by decide) ⟨by decide +kernel, rfl⟩ ?_
  refine z_isub (pc' := 537) ⟨by decide +kernel, rfl⟩ ?_
  refine z_iload (pc' := 539) (i := 6) 0 rfl ⟨by decide +kernel, rfl⟩ ?_
  refine z_if_eq (pc' := 542) (tgt := 546) (off := 7) ⟨by decide +kernel, rfl⟩ rfl (fun h2 => ?_) (fun h2 => ?_)
  · refine z_lconst (pc' := 547) (n := 0) (v := 0) (by decide) ⟨by decide +kernel, rfl⟩ ?_
    refine z_last (pc' := 548) 31 rfl (zlt rfl) rfl rfl ⟨by decide +kernel, rfl⟩ (z_letU fun u3 => ?_)
    refine z_iconst (pc' := 549) (n := (-1)) (v := (-1)) (by decide) ⟨by decide +kernel, rfl⟩ ?_
    exact z_iret (pc' := 550) ⟨by decide +kernel, rfl⟩
  · refine z_lconst (pc' := 543) (n := 1) (v := 1) (by decide) ⟨by decide +kernel, rfl⟩ ?_
    refine z_goto (tgt := 547) (off := 4) (by decide +kernel) rfl ?_
    refine z_last (pc' := 548) 31 rfl (zlt rfl) rfl rfl ⟨by decide +kernel, rfl⟩ (z_letU fun u4 => ?_)
    refine z_iconst (pc' := 549) (n := (-1)) (v := (-1)) (by decide) ⟨by decide +kernel, rfl⟩ ?_
    exact z_iret (pc' := 550) ⟨by decide +kernel, rfl⟩
set_option maxRecDepth 20000 in
set_option maxHeartbeats 4000000 in
theorem rf_does_J508_t {κ : zKx} {ca : Nat → ClassId} {D : va_G} {A : Nat → Prop} {c0 : Nat × Nat} {a g0 g : Nat → Nat} (n : Nat) (u : zMu) : zJ κ (zRf ca D) prog_13_method_48_code 7 rf_C (some .int) zri true 4 A c0 a g0 g u 508 [(0, .ref (a 0))] [] (rf_does_J508 n u) := by
  unfold rf_does_J508
  refine z_iconst (pc' := 509) (n := 1) (v := 1) (by decide) ⟨by decide +kernel, rfl⟩ ?_
  refine z_goto (tgt := 513) (off := 4) (by decide +kernel) rfl ?_
  exact rf_does_J513_t n u 1
set_option maxRecDepth 20000 in
set_option maxHeartbeats 4000000 in
theorem rf_does_J512_t {κ : zKx} {ca : Nat → ClassId} {D : va_G} {A : Nat → Prop} {c0 : Nat × Nat} {a g0 g : Nat → Nat} (n : Nat) (u : zMu) : zJ κ (zRf ca D) prog_13_method_48_code 7 rf_C (some .int) zri true 4 A c0 a g0 g u 512 [(0, .ref (a 0))] [] (rf_does_J512 n u) := by
  unfold rf_does_J512
  refine z_iconst (pc' := 513) (n := 0) (v := 0) (by decide) ⟨by decide +kernel, rfl⟩ ?_
  exact rf_does_J513_t n u 0
set_option maxRecDepth 20000 in
set_option maxHeartbeats 4000000 in
theorem rft_does {l : Launch} {ca : Nat → ClassId} {D : va_G} {a g : Nat → Nat} (n : Nat) (u : zMu) (x1 : Int32) (x2 : Int32) : zMet l (zRf ca D) rfY_does (.code rfY_does prog_13_method_48_code 7 (some .int)) zri true 4 a g [.ref (a 0), .int x1, .int x2] u (rf_does n u x1 x2) := by
  refine zMet.of rfl (Nat.le_of_ble_eq_true rfl) fun κ A hl => ?_
  subst hl
  unfold rf_does
  refine z_aload_n (pc' := 1) (k := 0) (i := 0) 0 rfl rfl ⟨by decide +kernel, rfl⟩ ?_
  refine z_getR (pc' := 4) (rff_opA ca D) rfl (y := a 11) rfl ⟨by decide +kernel, rfl⟩ ?_
  refine z_iload_n (pc' := 5) (k := 2) (i := 2) 2 rfl rfl ⟨by decide +kernel, rfl⟩ ?_
  refine z_iald (pc' := 6) 11 rfl (zlt rfl) rfl rfl ⟨by decide +kernel, rfl⟩ ?_
  refine z_letI fun v1 => ?_
  refine z_istore_n (pc' := 7) (k := 3) (i := 3) rfl (by decide) rfl ⟨by decide +kernel, rfl⟩ ?_
  refine z_aload_n (pc' := 8) (k := 0) (i := 0) 1 rfl rfl ⟨by decide +kernel, rfl⟩ ?_
  refine z_getR (pc' := 11) (rff_opPlace ca D) rfl (y := a 13) rfl ⟨by decide +kernel, rfl⟩ ?_
  refine z_iload_n (pc' := 12) (k := 2) (i := 2) 3 rfl rfl ⟨by decide +kernel, rfl⟩ ?_
  refine z_iald (pc' := 13) 13 rfl (zlt rfl) rfl rfl ⟨by decide +kernel, rfl⟩ ?_
  refine z_letI fun v2 => ?_
  refine z_istore (pc' := 15) (i := 4) (by decide) rfl ⟨by decide +kernel, rfl⟩ ?_
  refine z_bipush (pc' := 17) (n := 12) (v := 12) (by decide) ⟨by decide +kernel, rfl⟩ ?_
  refine z_aload_n (pc' := 18) (k := 0) (i := 0) 2 rfl rfl ⟨by decide +kernel, rfl⟩ ?_
  refine z_getI (pc' := 21) (rff_depth ca D) rfl ⟨by decide +kernel, rfl⟩ ?_
  refine z_imul (pc' := 22) ⟨by decide +kernel, rfl⟩ ?_
  refine z_letI fun v3 => ?_
  refine z_istore (pc' := 24) (i := 5) (by decide) rfl ⟨by decide +kernel, rfl⟩ ?_
  refine z_iload_n (pc' := 25) (k := 1) (i := 1) 4 rfl rfl ⟨by decide +kernel, rfl⟩ ?_
  refine z_ite (fun h6 => ?_) (fun h6 => ?_)
  · refine z_tabIn (dflt := 585) (lo := 1) (hi := 20) (offs := #[95, 104, 112, 136, 561, 569, 577, 264, 278, 326, 414, 525, 533, 540, 547, 554, 585, 196, 585, 184]) (len := 95) (off := 95) (tgt := 120) h6 (by decide +kernel) (by decide) (by decide) rfl rfl ?_
    refine z_aload_n (pc' := 121) (k := 0) (i := 0) 3 rfl rfl ⟨by decide +kernel, rfl⟩ ?_
    refine z_iconst (pc' := 122) (n := 1) (v := 1) (by decide) ⟨by decide +kernel, rfl⟩ ?_
    refine z_iload_n (pc' := 123) (k := 3) (i := 3) 2 rfl rfl ⟨by decide +kernel, rfl⟩ ?_
    refine z_i2l (pc' := 124) ⟨by decide +kernel, rfl⟩ ?_
    refine z_callVf (pc' := 127) 0 (rft_pushes n u 1 (v1.toInt64)) (rfG_pushes ca D) (rfO ca D) rfl (by omega) rfl rfl (Nat.le_of_ble_eq_true rfl) ⟨by decide +kernel, rfl⟩ (fun _ u5 => ?_)
    refine z_iconst (pc' := 128) (n := (-1)) (v := (-1)) (by decide) ⟨by decide +kernel, rfl⟩ ?_
    exact z_iret (pc' := 129) ⟨by decide +kernel, rfl⟩
  refine z_ite (fun h9 => ?_) (fun h9 => ?_)
  · refine z_tabIn (dflt := 585) (lo := 1) (hi := 20) (offs := #[95, 104, 112, 136, 561, 569, 577, 264, 278, 326, 414, 525, 533, 540, 547, 554, 585, 196, 585, 184]) (len := 95) (off := 104) (tgt := 129) h9 (by decide +kernel) (by decide) (by decide) rfl rfl ?_
    refine z_aload_n (pc' := 130) (k := 0) (i := 0) 3 rfl rfl ⟨by decide +kernel, rfl⟩ ?_
    refine z_iconst (pc' := 131) (n := 0) (v := 0) (by decide) ⟨by decide +kernel, rfl⟩ ?_
    refine z_lconst (pc' := 132) (n := 0) (v := 0) (by decide) ⟨by decide +kernel, rfl⟩ ?_
    refine z_callVf (pc' := 135) 0 (rft_pushes n u 0 0) (rfG_pushes ca D) (rfO ca D) rfl (by omega) rfl rfl (Nat.le_of_ble_eq_true rfl) ⟨by decide +kernel, rfl⟩ (fun _ u8 => ?_)
    refine z_iconst (pc' := 136) (n := (-1)) (v := (-1)) (by decide) ⟨by decide +kernel, rfl⟩ ?_
    exact z_iret (pc' := 137) ⟨by decide +kernel, rfl⟩
  refine z_ite (fun h12 => ?_) (fun h12 => ?_)
  · refine z_tabIn (dflt := 585) (lo := 1) (hi := 20) (offs := #[95, 104, 112, 136, 561, 569, 577, 264, 278, 326, 414, 525, 533, 540, 547, 554, 585, 196, 585, 184]) (len := 95) (off := 112) (tgt := 137) h12 (by decide +kernel) (by decide) (by decide) rfl rfl ?_
    refine z_aload_n (pc' := 138) (k := 0) (i := 0) 3 rfl rfl ⟨by decide +kernel, rfl⟩ ?_
    refine z_aload_n (pc' := 139) (k := 0) (i := 0) 3 rfl rfl ⟨by decide +kernel, rfl⟩ ?_
    refine z_getR (pc' := 142) (rff_varSort ca D) rfl (y := a 28) rfl ⟨by decide +kernel, rfl⟩ ?_
    refine z_iload (pc' := 144) (i := 5) 0 rfl ⟨by decide +kernel, rfl⟩ ?_
    refine z_iload_n (pc' := 145) (k := 3) (i := 3) 2 rfl rfl ⟨by decide +kernel, rfl⟩ ?_
    refine z_iadd (pc' := 146) ⟨by decide +kernel, rfl⟩ ?_
    refine z_iald (pc' := 147) 28 rfl (zlt rfl) rfl rfl ⟨by decide +kernel, rfl⟩ ?_
    refine z_aload_n (pc' := 148) (k := 0) (i := 0) 3 rfl rfl ⟨by decide +kernel, rfl⟩ ?_
    refine z_getR (pc' := 151) (rff_varNum ca D) rfl (y := a 32) rfl ⟨by decide +kernel, rfl⟩ ?_
    refine z_iload (pc' := 153) (i := 5) 0 rfl ⟨by decide +kernel, rfl⟩ ?_
    refine z_iload_n (pc' := 154) (k := 3) (i := 3) 2 rfl rfl ⟨by decide +kernel, rfl⟩ ?_
    refine z_iadd (pc' := 155) ⟨by decide +kernel, rfl⟩ ?_
    refine z_lald (pc' := 156) 32 rfl (zlt rfl) rfl rfl ⟨by decide +kernel, rfl⟩ ?_
    refine z_callVf (pc' := 159) 0 (rft_pushes n u (zI u 28 (zx (v3 + v1))) (zL u 32 (zx (v3 + v1)))) (rfG_pushes ca D) (rfO ca D) rfl (by omega) rfl rfl (Nat.le_of_ble_eq_true rfl) ⟨by decide +kernel, rfl⟩ (fun _ u11 => ?_)
    refine z_iconst (pc' := 160) (n := (-1)) (v := (-1)) (by decide) ⟨by decide +kernel, rfl⟩ ?_
    exact z_iret (pc' := 161) ⟨by decide +kernel, rfl⟩
  refine z_ite (fun h16 => ?_) (fun h16 => ?_)
  · refine z_tabIn (dflt := 585) (lo := 1) (hi := 20) (offs := #[95, 104, 112, 136, 561, 569, 577, 264, 278, 326, 414, 525, 533, 540, 547, 554, 585, 196, 585, 184]) (len := 95) (off := 136) (tgt := 161) h16 (by decide +kernel) (by decide) (by decide) rfl rfl ?_
    refine z_aload_n (pc' := 162) (k := 0) (i := 0) 3 rfl rfl ⟨by decide +kernel, rfl⟩ ?_
    refine z_dup (pc' := 163) rfl ⟨by decide +kernel, rfl⟩ ?_
    refine z_getI (pc' := 166) (rff_top ca D) rfl ⟨by decide +kernel, rfl⟩ ?_
    refine z_iconst (pc' := 167) (n := 1) (v := 1) (by decide) ⟨by decide +kernel, rfl⟩ ?_
    refine z_isub (pc' := 168) ⟨by decide +kernel, rfl⟩ ?_
    refine z_putI (pc' := 171) (rff_top ca D) rfl ⟨by decide +kernel, rfl⟩ (z_letU fun u13 => ?_)
    refine z_aload_n (pc' := 172) (k := 0) (i := 0) 3 rfl rfl ⟨by decide +kernel, rfl⟩ ?_
    refine z_getR (pc' := 175) (rff_varSort ca D) rfl (y := a 28) rfl ⟨by decide +kernel, rfl⟩ ?_
    refine z_iload (pc' := 177) (i := 5) 0 rfl ⟨by decide +kernel, rfl⟩ ?_
    refine z_iload_n (pc' := 178) (k := 3) (i := 3) 2 rfl rfl ⟨by decide +kernel, rfl⟩ ?_
    refine z_iadd (pc' := 179) ⟨by decide +kernel, rfl⟩ ?_
    refine z_aload_n (pc' := 180) (k := 0) (i := 0) 3 rfl rfl ⟨by decide +kernel, rfl⟩ ?_
    refine z_getR (pc' := 183) (rff_vSort ca D) rfl (y := a 27) rfl ⟨by decide +kernel, rfl⟩ ?_
    refine z_aload_n (pc' := 184) (k := 0) (i := 0) 3 rfl rfl ⟨by decide +kernel, rfl⟩ ?_
    refine z_getI (pc' := 187) (rff_top ca D) rfl ⟨by decide +kernel, rfl⟩ ?_
    refine z_iald (pc' := 188) 27 rfl (zlt rfl) rfl rfl ⟨by decide +kernel, rfl⟩ ?_
    refine z_iast (pc' := 189) 28 rfl (zlt rfl) rfl rfl ⟨by decide +kernel, rfl⟩ (z_letU fun u14 => ?_)
    refine z_aload_n (pc' := 190) (k := 0) (i := 0) 3 rfl rfl ⟨by decide +kernel, rfl⟩ ?_
    refine z_getR (pc' := 193) (rff_varNum ca D) rfl (y := a 32) rfl ⟨by decide +kernel, rfl⟩ ?_
    refine z_iload (pc' := 195) (i := 5) 0 rfl ⟨by decide +kernel, rfl⟩ ?_
    refine z_iload_n (pc' := 196) (k := 3) (i := 3) 2 rfl rfl ⟨by decide +kernel, rfl⟩ ?_
    refine z_iadd (pc' := 197) ⟨by decide +kernel, rfl⟩ ?_
    refine z_aload_n (pc' := 198) (k := 0) (i := 0) 3 rfl rfl ⟨by decide +kernel, rfl⟩ ?_
    refine z_getR (pc' := 201) (rff_vNum ca D) rfl (y := a 31) rfl ⟨by decide +kernel, rfl⟩ ?_
    refine z_aload_n (pc' := 202) (k := 0) (i := 0) 3 rfl rfl ⟨by decide +kernel, rfl⟩ ?_
    refine z_getI (pc' := 205) (rff_top ca D) rfl ⟨by decide +kernel, rfl⟩ ?_
    refine z_lald (pc' := 206) 31 rfl (zlt rfl) rfl rfl ⟨by decide +kernel, rfl⟩ ?_
    refine z_last (pc' := 207) 32 rfl (zlt rfl) rfl rfl ⟨by decide +kernel, rfl⟩ (z_letU fun u15 => ?_)
    refine z_iconst (pc' := 208) (n := (-1)) (v := (-1)) (by decide) ⟨by decide +kernel, rfl⟩ ?_
    exact z_iret (pc' := 209) ⟨by decide +kernel, rfl⟩
  refine z_ite (fun h19 => ?_) (fun h19 => ?_)
  · refine z_tabIn (dflt := 585) (lo := 1) (hi := 20) (offs := #[95, 104, 112, 136, 561, 569, 577, 264, 278, 326, 414, 525, 533, 540, 547, 554, 585, 196, 585, 184]) (len := 95) (off := 561) (tgt := 586) h19 (by decide +kernel) (by decide) (by decide) rfl rfl ?_
    refine z_aload_n (pc' := 587) (k := 0) (i := 0) 3 rfl rfl ⟨by decide +kernel, rfl⟩ ?_
    refine z_iload_n (pc' := 588) (k := 3) (i := 3) 2 rfl rfl ⟨by decide +kernel, rfl⟩ ?_
    refine z_iload (pc' := 590) (i := 4) 1 rfl ⟨by decide +kernel, rfl⟩ ?_
    refine z_callVf (pc' := 593) 0 (rft_reads n u v1 v2) (rfG_reads ca D) (rfO ca D) rfl (by omega) rfl rfl (Nat.le_of_ble_eq_true rfl) ⟨by decide +kernel, rfl⟩ (fun r17 u18 => ?_)
    exact z_iret (pc' := 594) ⟨by decide +kernel, rfl⟩
  refine z_ite (fun h22 => ?_) (fun h22 => ?_)
  · refine z_tabIn (dflt := 585) (lo := 1) (hi := 20) (offs := #[95, 104, 112, 136, 561, 569, 577, 264, 278, 326, 414, 525, 533, 540, 547, 554, 585, 196, 585, 184]) (len := 95) (off := 569) (tgt := 594) h22 (by decide +kernel) (by decide) (by decide) rfl rfl ?_
    refine z_aload_n (pc' := 595) (k := 0) (i := 0) 3 rfl rfl ⟨by decide +kernel, rfl⟩ ?_
    refine z_iload_n (pc' := 596) (k := 3) (i := 3) 2 rfl rfl ⟨by decide +kernel, rfl⟩ ?_
    refine z_iload (pc' := 598) (i := 4) 1 rfl ⟨by decide +kernel, rfl⟩ ?_
    refine z_callVf (pc' := 601) 0 (rft_puts n u v1 v2) (rfG_puts ca D) (rfO ca D) rfl (by omega) rfl rfl (Nat.le_of_ble_eq_true rfl) ⟨by decide +kernel, rfl⟩ (fun r20 u21 => ?_)
    exact z_iret (pc' := 602) ⟨by decide +kernel, rfl⟩
  refine z_ite (fun h25 => ?_) (fun h25 => ?_)
  · refine z_tabIn (dflt := 585) (lo := 1) (hi := 20) (offs := #[95, 104, 112, 136, 561, 569, 577, 264, 278, 326, 414, 525, 533, 540, 547, 554, 585, 196, 585, 184]) (len := 95) (off := 577) (tgt := 602) h25 (by decide +kernel) (by decide) (by decide) rfl rfl ?_
    refine z_aload_n (pc' := 603) (k := 0) (i := 0) 3 rfl rfl ⟨by decide +kernel, rfl⟩ ?_
    refine z_iload_n (pc' := 604) (k := 3) (i := 3) 2 rfl rfl ⟨by decide +kernel, rfl⟩ ?_
    refine z_iload (pc' := 606) (i := 4) 1 rfl ⟨by decide +kernel, rfl⟩ ?_
    refine z_callVf (pc' := 609) 0 (rft_strikes n u v1 v2) (rfG_strikes ca D) (rfO ca D) rfl (by omega) rfl rfl (Nat.le_of_ble_eq_true rfl) ⟨by decide +kernel, rfl⟩ (fun r23 u24 => ?_)
    exact z_iret (pc' := 610) ⟨by decide +kernel, rfl⟩
  refine z_ite (fun h28 => ?_) (fun h28 => ?_)
  · refine z_tabIn (dflt := 585) (lo := 1) (hi := 20) (offs := #[95, 104, 112, 136, 561, 569, 577, 264, 278, 326, 414, 525, 533, 540, 547, 554, 585, 196, 585, 184]) (len := 95) (off := 264) (tgt := 289) h28 (by decide +kernel) (by decide) (by decide) rfl rfl ?_
    refine z_aload_n (pc' := 290) (k := 0) (i := 0) 3 rfl rfl ⟨by decide +kernel, rfl⟩ ?_
    refine z_iload_n (pc' := 291) (k := 3) (i := 3) 2 rfl rfl ⟨by decide +kernel, rfl⟩ ?_
    refine z_aload_n (pc' := 292) (k := 0) (i := 0) 3 rfl rfl ⟨by decide +kernel, rfl⟩ ?_
    refine z_getR (pc' := 295) (rff_opB ca D) rfl (y := a 12) rfl ⟨by decide +kernel, rfl⟩ ?_
    refine z_iload_n (pc' := 296) (k := 2) (i := 2) 5 rfl rfl ⟨by decide +kernel, rfl⟩ ?_
    refine z_iald (pc' := 297) 12 rfl (zlt rfl) rfl rfl ⟨by decide +kernel, rfl⟩ ?_
    refine z_iload (pc' := 299) (i := 4) 1 rfl ⟨by decide +kernel, rfl⟩ ?_
    refine z_callVf (pc' := 302) 0 (rft_sums n u v1 (zI u 12 (zx x2)) v2) (rfG_sums ca D) (rfO ca D) rfl (by omega) rfl rfl (Nat.le_of_ble_eq_true rfl) ⟨by decide +kernel, rfl⟩ (fun r26 u27 => ?_)
    exact z_iret (pc' := 303) ⟨by decide +kernel, rfl⟩
  refine z_ite (fun h33 => ?_) (fun h33 => ?_)
  · refine z_tabIn (dflt := 585) (lo := 1) (hi := 20) (offs := #[95, 104, 112, 136, 561, 569, 577, 264, 278, 326, 414, 525, 533, 540, 547, 554, 585, 196, 585, 184]) (len := 95) (off := 278) (tgt := 303) h33 (by decide +kernel) (by decide) (by decide) rfl rfl ?_
    refine z_aload_n (pc' := 304) (k := 0) (i := 0) 3 rfl rfl ⟨by decide +kernel, rfl⟩ ?_
    refine z_getR (pc' := 307) (rff_vSort ca D) rfl (y := a 27) rfl ⟨by decide +kernel, rfl⟩ ?_
    refine z_aload_n (pc' := 308) (k := 0) (i := 0) 3 rfl rfl ⟨by decide +kernel, rfl⟩ ?_
    refine z_getI (pc' := 311) (rff_top ca D) rfl ⟨by decide +kernel, rfl⟩ ?_
    refine z_iconst (pc' := 312) (n := 1) (v := 1) (by decide) ⟨by decide +kernel, rfl⟩ ?_
    refine z_isub (pc' := 313) ⟨by decide +kernel, rfl⟩ ?_
    refine z_iald (pc' := 314) 27 rfl (zlt rfl) rfl rfl ⟨by decide +kernel, rfl⟩ ?_
    refine z_iconst (pc' := 315) (n := 1) (v := 1) (by decide) ⟨by decide +kernel, rfl⟩ ?_
    refine z_icmp_eq (pc' := 318) (tgt := 326) (off := 11) ⟨by decide +kernel, rfl⟩ rfl (fun h29 => ?_) (fun h29 => ?_)
    · refine z_aload_n (pc' := 327) (k := 0) (i := 0) 3 rfl rfl ⟨by decide +kernel, rfl⟩ ?_
      refine z_getR (pc' := 330) (rff_vNum ca D) rfl (y := a 31) rfl ⟨by decide +kernel, rfl⟩ ?_
      refine z_aload_n (pc' := 331) (k := 0) (i := 0) 3 rfl rfl ⟨by decide +kernel, rfl⟩ ?_
      refine z_getI (pc' := 334) (rff_top ca D) rfl ⟨by decide +kernel, rfl⟩ ?_
      refine z_iconst (pc' := 335) (n := 1) (v := 1) (by decide) ⟨by decide +kernel, rfl⟩ ?_
      refine z_isub (pc' := 336) ⟨by decide +kernel, rfl⟩ ?_
      refine z_aload_n (pc' := 337) (k := 0) (i := 0) 3 rfl rfl ⟨by decide +kernel, rfl⟩ ?_
      refine z_getR (pc' := 340) (rff_vNum ca D) rfl (y := a 31) rfl ⟨by decide +kernel, rfl⟩ ?_
      refine z_aload_n (pc' := 341) (k := 0) (i := 0) 3 rfl rfl ⟨by decide +kernel, rfl⟩ ?_
      refine z_getI (pc' := 344) (rff_top ca D) rfl ⟨by decide +kernel, rfl⟩ ?_
      refine z_iconst (pc' := 345) (n := 1) (v := 1) (by decide) ⟨by decide +kernel, rfl⟩ ?_
      refine z_isub (pc' := 346) ⟨by decide +kernel, rfl⟩ ?_
      refine z_lald (pc' := 347) 31 rfl (zlt rfl) rfl rfl ⟨by decide +kernel, rfl⟩ ?_
      refine z_lneg (pc' := 348) ⟨by decide +kernel, rfl⟩ ?_
      refine z_last (pc' := 349) 31 rfl (zlt rfl) rfl rfl ⟨by decide +kernel, rfl⟩ (z_letU fun u30 => ?_)
      refine z_iconst (pc' := 350) (n := (-1)) (v := (-1)) (by decide) ⟨by decide +kernel, rfl⟩ ?_
      exact z_iret (pc' := 351) ⟨by decide +kernel, rfl⟩
    · refine z_aload_n (pc' := 319) (k := 0) (i := 0) 3 rfl rfl ⟨by decide +kernel, rfl⟩ ?_
      refine z_iconst (pc' := 320) (n := 1) (v := 1) (by decide) ⟨by decide +kernel, rfl⟩ ?_
      refine z_iload (pc' := 322) (i := 4) 1 rfl ⟨by decide +kernel, rfl⟩ ?_
      refine z_callVf (pc' := 325) 0 (rft_fails n u 1 v2) (rfG_fails ca D) (rfO ca D) rfl (by omega) rfl rfl (Nat.le_of_ble_eq_true rfl) ⟨by decide +kernel, rfl⟩ (fun r31 u32 => ?_)
      exact z_iret (pc' := 326) ⟨by decide +kernel, rfl⟩
  refine z_ite (fun h44 => ?_) (fun h44 => ?_)
  · refine z_tabIn (dflt := 585) (lo := 1) (hi := 20) (offs := #[95, 104, 112, 136, 561, 569, 577, 264, 278, 326, 414, 525, 533, 540, 547, 554, 585, 196, 585, 184]) (len := 95) (off := 326) (tgt := 351) h44 (by decide +kernel) (by decide) (by decide) rfl rfl ?_
    refine z_aload_n (pc' := 352) (k := 0) (i := 0) 3 rfl rfl ⟨by decide +kernel, rfl⟩ ?_
    refine z_dup (pc' := 353) rfl ⟨by decide +kernel, rfl⟩ ?_
    refine z_getI (pc' := 356) (rff_top ca D) rfl ⟨by decide +kernel, rfl⟩ ?_
    refine z_iconst (pc' := 357) (n := 1) (v := 1) (by decide) ⟨by decide +kernel, rfl⟩ ?_
    refine z_isub (pc' := 358) ⟨by decide +kernel, rfl⟩ ?_
    refine z_putI (pc' := 361) (rff_top ca D) rfl ⟨by decide +kernel, rfl⟩ (z_letU fun u34 => ?_)
    refine z_aload_n (pc' := 362) (k := 0) (i := 0) 3 rfl rfl ⟨by decide +kernel, rfl⟩ ?_
    refine z_getR (pc' := 365) (rff_vSort ca D) rfl (y := a 27) rfl ⟨by decide +kernel, rfl⟩ ?_
    refine z_aload_n (pc' := 366) (k := 0) (i := 0) 3 rfl rfl ⟨by decide +kernel, rfl⟩ ?_
    refine z_getI (pc' := 369) (rff_top ca D) rfl ⟨by decide +kernel, rfl⟩ ?_
    refine z_iald (pc' := 370) 27 rfl (zlt rfl) rfl rfl ⟨by decide +kernel, rfl⟩ ?_
    refine z_iconst (pc' := 371) (n := 1) (v := 1) (by decide) ⟨by decide +kernel, rfl⟩ ?_
    refine z_icmp_ne (pc' := 374) (tgt := 389) (off := 18) ⟨by decide +kernel, rfl⟩ rfl (fun h35 => ?_) (fun h35 => ?_)
    · refine z_aload_n (pc' := 375) (k := 0) (i := 0) 3 rfl rfl ⟨by decide +kernel, rfl⟩ ?_
      refine z_getR (pc' := 378) (rff_vSort ca D) rfl (y := a 27) rfl ⟨by decide +kernel, rfl⟩ ?_
      refine z_aload_n (pc' := 379) (k := 0) (i := 0) 3 rfl rfl ⟨by decide +kernel, rfl⟩ ?_
      refine z_getI (pc' := 382) (rff_top ca D) rfl ⟨by decide +kernel, rfl⟩ ?_
      refine z_iconst (pc' := 383) (n := 1) (v := 1) (by decide) ⟨by decide +kernel, rfl⟩ ?_
      refine z_isub (pc' := 384) ⟨by decide +kernel, rfl⟩ ?_
      refine z_iald (pc' := 385) 27 rfl (zlt rfl) rfl rfl ⟨by decide +kernel, rfl⟩ ?_
      refine z_iconst (pc' := 386) (n := 1) (v := 1) (by decide) ⟨by decide +kernel, rfl⟩ ?_
      refine z_icmp_eq (pc' := 389) (tgt := 397) (off := 11) ⟨by decide +kernel, rfl⟩ rfl (fun h36 => ?_) (fun h36 => ?_)
      · refine z_aload_n (pc' := 398) (k := 0) (i := 0) 3 rfl rfl ⟨by decide +kernel, rfl⟩ ?_
        refine z_getR (pc' := 401) (rff_vNum ca D) rfl (y := a 31) rfl ⟨by decide +kernel, rfl⟩ ?_
        refine z_aload_n (pc' := 402) (k := 0) (i := 0) 3 rfl rfl ⟨by decide +kernel, rfl⟩ ?_
        refine z_getI (pc' := 405) (rff_top ca D) rfl ⟨by decide +kernel, rfl⟩ ?_
        refine z_iconst (pc' := 406) (n := 1) (v := 1) (by decide) ⟨by decide +kernel, rfl⟩ ?_
        refine z_isub (pc' := 407) ⟨by decide +kernel, rfl⟩ ?_
        refine z_aload_n (pc' := 408) (k := 0) (i := 0) 3 rfl rfl ⟨by decide +kernel, rfl⟩ ?_
        refine z_getR (pc' := 411) (rff_vNum ca D) rfl (y := a 31) rfl ⟨by decide +kernel, rfl⟩ ?_
        refine z_aload_n (pc' := 412) (k := 0) (i := 0) 3 rfl rfl ⟨by decide +kernel, rfl⟩ ?_
        refine z_getI (pc' := 415) (rff_top ca D) rfl ⟨by decide +kernel, rfl⟩ ?_
        refine z_iconst (pc' := 416) (n := 1) (v := 1) (by decide) ⟨by decide +kernel, rfl⟩ ?_
        refine z_isub (pc' := 417) ⟨by decide +kernel, rfl⟩ ?_
        refine z_lald (pc' := 418) 31 rfl (zlt rfl) rfl rfl ⟨by decide +kernel, rfl⟩ ?_
        refine z_aload_n (pc' := 419) (k := 0) (i := 0) 3 rfl rfl ⟨by decide +kernel, rfl⟩ ?_
        refine z_getR (pc' := 422) (rff_vNum ca D) rfl (y := a 31) rfl ⟨by decide +kernel, rfl⟩ ?_
        refine z_aload_n (pc' := 423) (k := 0) (i := 0) 3 rfl rfl ⟨by decide +kernel, rfl⟩ ?_
        refine z_getI (pc' := 426) (rff_top ca D) rfl ⟨by decide +kernel, rfl⟩ ?_
        refine z_lald (pc' := 427) 31 rfl (zlt rfl) rfl rfl ⟨by decide +kernel, rfl⟩ ?_
        refine z_lcmp (pc' := 428) ⟨by decide +kernel, rfl⟩ ?_
        refine z_if_ge (pc' := 431) (tgt := 435) (off := 7) ⟨by decide +kernel, rfl⟩ rfl (fun h37 => ?_) (fun h37 => ?_)
        · refine z_lconst (pc' := 432) (n := 1) (v := 1) (by decide) ⟨by decide +kernel, rfl⟩ ?_
          refine z_goto (tgt := 436) (off := 4) (by decide +kernel) rfl ?_
          refine z_last (pc' := 437) 31 rfl (zlt rfl) rfl rfl ⟨by decide +kernel, rfl⟩ (z_letU fun u38 => ?_)
          refine z_iconst (pc' := 438) (n := (-1)) (v := (-1)) (by decide) ⟨by decide +kernel, rfl⟩ ?_
          exact z_iret (pc' := 439) ⟨by decide +kernel, rfl⟩
        · refine z_lconst (pc' := 436) (n := 0) (v := 0) (by decide) ⟨by decide +kernel, rfl⟩ ?_
          refine z_last (pc' := 437) 31 rfl (zlt rfl) rfl rfl ⟨by decide +kernel, rfl⟩ (z_letU fun u39 => ?_)
          refine z_iconst (pc' := 438) (n := (-1)) (v := (-1)) (by decide) ⟨by decide +kernel, rfl⟩ ?_
          exact z_iret (pc' := 439) ⟨by decide +kernel, rfl⟩
      · refine z_aload_n (pc' := 390) (k := 0) (i := 0) 3 rfl rfl ⟨by decide +kernel, rfl⟩ ?_
        refine z_iconst (pc' := 391) (n := 1) (v := 1) (by decide) ⟨by decide +kernel, rfl⟩ ?_
        refine z_iload (pc' := 393) (i := 4) 1 rfl ⟨by decide +kernel, rfl⟩ ?_
        refine z_callVf (pc' := 396) 0 (rft_fails n u34 1 v2) (rfG_fails ca D) (rfO ca D) rfl (by omega) rfl rfl (Nat.le_of_ble_eq_true rfl) ⟨by decide +kernel, rfl⟩ (fun r40 u41 => ?_)
        exact z_iret (pc' := 397) ⟨by decide +kernel, rfl⟩
    · refine z_aload_n (pc' := 390) (k := 0) (i := 0) 3 rfl rfl ⟨by decide +kernel, rfl⟩ ?_
      refine z_iconst (pc' := 391) (n := 1) (v := 1) (by decide) ⟨by decide +kernel, rfl⟩ ?_
      refine z_iload (pc' := 393) (i := 4) 1 rfl ⟨by decide +kernel, rfl⟩ ?_
      refine z_callVf (pc' := 396) 0 (rft_fails n u34 1 v2) (rfG_fails ca D) (rfO ca D) rfl (by omega) rfl rfl (Nat.le_of_ble_eq_true rfl) ⟨by decide +kernel, rfl⟩ (fun r42 u43 => ?_)
      exact z_iret (pc' := 397) ⟨by decide +kernel, rfl⟩
  refine z_ite (fun h49 => ?_) (fun h49 => ?_)
  · refine z_tabIn (dflt := 585) (lo := 1) (hi := 20) (offs := #[95, 104, 112, 136, 561, 569, 577, 264, 278, 326, 414, 525, 533, 540, 547, 554, 585, 196, 585, 184]) (len := 95) (off := 414) (tgt := 439) h49 (by decide +kernel) (by decide) (by decide) rfl rfl ?_
    refine z_aload_n (pc' := 440) (k := 0) (i := 0) 3 rfl rfl ⟨by decide +kernel, rfl⟩ ?_
    refine z_dup (pc' := 441) rfl ⟨by decide +kernel, rfl⟩ ?_
    refine z_getI (pc' := 444) (rff_top ca D) rfl ⟨by decide +kernel, rfl⟩ ?_
    refine z_iconst (pc' := 445) (n := 1) (v := 1) (by decide) ⟨by decide +kernel, rfl⟩ ?_
    refine z_isub (pc' := 446) ⟨by decide +kernel, rfl⟩ ?_
    refine z_putI (pc' := 449) (rff_top ca D) rfl ⟨by decide +kernel, rfl⟩ (z_letU fun u45 => ?_)
    refine z_aload_n (pc' := 450) (k := 0) (i := 0) 3 rfl rfl ⟨by decide +kernel, rfl⟩ ?_
    refine z_getR (pc' := 453) (rff_vSort ca D) rfl (y := a 27) rfl ⟨by decide +kernel, rfl⟩ ?_
    refine z_aload_n (pc' := 454) (k := 0) (i := 0) 3 rfl rfl ⟨by decide +kernel, rfl⟩ ?_
    refine z_getI (pc' := 457) (rff_top ca D) rfl ⟨by decide +kernel, rfl⟩ ?_
    refine z_iald (pc' := 458) 27 rfl (zlt rfl) rfl rfl ⟨by decide +kernel, rfl⟩ ?_
    refine z_aload_n (pc' := 459) (k := 0) (i := 0) 3 rfl rfl ⟨by decide +kernel, rfl⟩ ?_
    refine z_getR (pc' := 462) (rff_vSort ca D) rfl (y := a 27) rfl ⟨by decide +kernel, rfl⟩ ?_
    refine z_aload_n (pc' := 463) (k := 0) (i := 0) 3 rfl rfl ⟨by decide +kernel, rfl⟩ ?_
    refine z_getI (pc' := 466) (rff_top ca D) rfl ⟨by decide +kernel, rfl⟩ ?_
    refine z_iconst (pc' := 467) (n := 1) (v := 1) (by decide) ⟨by decide +kernel, rfl⟩ ?_
    refine z_isub (pc' := 468) ⟨by decide +kernel, rfl⟩ ?_
    refine z_iald (pc' := 469) 27 rfl (zlt rfl) rfl rfl ⟨by decide +kernel, rfl⟩ ?_
    refine z_icmp_ne (pc' := 472) (tgt := 512) (off := 43) ⟨by decide +kernel, rfl⟩ rfl (fun h46 => ?_) (fun h46 => ?_)
    · refine z_aload_n (pc' := 473) (k := 0) (i := 0) 3 rfl rfl ⟨by decide +kernel, rfl⟩ ?_
      refine z_getR (pc' := 476) (rff_vSort ca D) rfl (y := a 27) rfl ⟨by decide +kernel, rfl⟩ ?_
      refine z_aload_n (pc' := 477) (k := 0) (i := 0) 3 rfl rfl ⟨by decide +kernel, rfl⟩ ?_
      refine z_getI (pc' := 480) (rff_top ca D) rfl ⟨by decide +kernel, rfl⟩ ?_
      refine z_iald (pc' := 481) 27 rfl (zlt rfl) rfl rfl ⟨by decide +kernel, rfl⟩ ?_
      refine z_if_eq (pc' := 484) (tgt := 508) (off := 27) ⟨by decide +kernel, rfl⟩ rfl (fun h47 => ?_) (fun h47 => ?_)
      · refine z_lv [3] (lv' := [(0, .ref (a 0))]) rfl ?_
        exact rf_does_J508_t n u45
      · refine z_aload_n (pc' := 485) (k := 0) (i := 0) 3 rfl rfl ⟨by decide +kernel, rfl⟩ ?_
        refine z_getR (pc' := 488) (rff_vNum ca D) rfl (y := a 31) rfl ⟨by decide +kernel, rfl⟩ ?_
        refine z_aload_n (pc' := 489) (k := 0) (i := 0) 3 rfl rfl ⟨by decide +kernel, rfl⟩ ?_
        refine z_getI (pc' := 492) (rff_top ca D) rfl ⟨by decide +kernel, rfl⟩ ?_
        refine z_lald (pc' := 493) 31 rfl (zlt rfl) rfl rfl ⟨by decide +kernel, rfl⟩ ?_
        refine z_aload_n (pc' := 494) (k := 0) (i := 0) 3 rfl rfl ⟨by decide +kernel, rfl⟩ ?_
        refine z_getR (pc' := 497) (rff_vNum ca D) rfl (y := a 31) rfl ⟨by decide +kernel, rfl⟩ ?_
        refine z_aload_n (pc' := 498) (k := 0) (i := 0) 3 rfl rfl ⟨by decide +kernel, rfl⟩ ?_
        refine z_getI (pc' := 501) (rff_top ca D) rfl ⟨by decide +kernel, rfl⟩ ?_
        refine z_iconst (pc' := 502) (n := 1) (v := 1) (by decide) ⟨by decide +kernel, rfl⟩ ?_
        refine z_isub (pc' := 503) ⟨by decide +kernel, rfl⟩ ?_
        refine z_lald (pc' := 504) 31 rfl (zlt rfl) rfl rfl ⟨by decide +kernel, rfl⟩ ?_
        refine z_lcmp (pc' := 505) ⟨by decide +kernel, rfl⟩ ?_
        refine z_if_ne (pc' := 508) (tgt := 512) (off := 7) ⟨by decide +kernel, rfl⟩ rfl (fun h48 => ?_) (fun h48 => ?_)
        · refine z_lv [3] (lv' := [(0, .ref (a 0))]) rfl ?_
          exact rf_does_J508_t n u45
        · refine z_lv [3] (lv' := [(0, .ref (a 0))]) rfl ?_
          exact rf_does_J512_t n u45
    · refine z_lv [3] (lv' := [(0, .ref (a 0))]) rfl ?_
      exact rf_does_J512_t n u45
  refine z_ite (fun h52 => ?_) (fun h52 => ?_)
  · refine z_tabIn (dflt := 585) (lo := 1) (hi := 20) (offs := #[95, 104, 112, 136, 561, 569, 577, 264, 278, 326, 414, 525, 533, 540, 547, 554, 585, 196, 585, 184]) (len := 95) (off := 525) (tgt := 550) h52 (by decide +kernel) (by decide) (by decide) rfl rfl ?_
    refine z_aload_n (pc' := 551) (k := 0) (i := 0) 3 rfl rfl ⟨by decide +kernel, rfl⟩ ?_
    refine z_iload_n (pc' := 552) (k := 3) (i := 3) 2 rfl rfl ⟨by decide +kernel, rfl⟩ ?_
    refine z_iload (pc' := 554) (i := 4) 1 rfl ⟨by decide +kernel, rfl⟩ ?_
    refine z_callVf (pc' := 557) 0 (rft_news n u v1 v2) (rfG_news ca D) (rfO ca D) rfl (by omega) rfl rfl (Nat.le_of_ble_eq_true rfl) ⟨by decide +kernel, rfl⟩ (fun r50 u51 => ?_)
    exact z_iret (pc' := 558) ⟨by decide +kernel, rfl⟩
  refine z_ite (fun h55 => ?_) (fun h55 => ?_)
  · refine z_tabIn (dflt := 585) (lo := 1) (hi := 20) (offs := #[95, 104, 112, 136, 561, 569, 577, 264, 278, 326, 414, 525, 533, 540, 547, 554, 585, 196, 585, 184]) (len := 95) (off := 533) (tgt := 558) h55 (by decide +kernel) (by decide) (by decide) rfl rfl ?_
    refine z_aload_n (pc' := 559) (k := 0) (i := 0) 3 rfl rfl ⟨by decide +kernel, rfl⟩ ?_
    refine z_iload (pc' := 561) (i := 4) 1 rfl ⟨by decide +kernel, rfl⟩ ?_
    refine z_callVf (pc' := 564) 0 (rft_rowOf n u v2) (rfG_rowOf ca D) (rfO ca D) rfl (by omega) rfl rfl (Nat.le_of_ble_eq_true rfl) ⟨by decide +kernel, rfl⟩ (fun r53 u54 => ?_)
    exact z_iret (pc' := 565) ⟨by decide +kernel, rfl⟩
  refine z_ite (fun h58 => ?_) (fun h58 => ?_)
  · refine z_tabIn (dflt := 585) (lo := 1) (hi := 20) (offs := #[95, 104, 112, 136, 561, 569, 577, 264, 278, 326, 414, 525, 533, 540, 547, 554, 585, 196, 585, 184]) (len := 95) (off := 540) (tgt := 565) h58 (by decide +kernel) (by decide) (by decide) rfl rfl ?_
    refine z_aload_n (pc' := 566) (k := 0) (i := 0) 3 rfl rfl ⟨by decide +kernel, rfl⟩ ?_
    refine z_iload (pc' := 568) (i := 4) 1 rfl ⟨by decide +kernel, rfl⟩ ?_
    refine z_callVf (pc' := 571) 0 (rft_sizes n u v2) (rfG_sizes ca D) (rfO ca D) rfl (by omega) rfl rfl (Nat.le_of_ble_eq_true rfl) ⟨by decide +kernel, rfl⟩ (fun r56 u57 => ?_)
    exact z_iret (pc' := 572) ⟨by decide +kernel, rfl⟩
  refine z_ite (fun h61 => ?_) (fun h61 => ?_)
  · refine z_tabIn (dflt := 585) (lo := 1) (hi := 20) (offs := #[95, 104, 112, 136, 561, 569, 577, 264, 278, 326, 414, 525, 533, 540, 547, 554, 585, 196, 585, 184]) (len := 95) (off := 547) (tgt := 572) h61 (by decide +kernel) (by decide) (by decide) rfl rfl ?_
    refine z_aload_n (pc' := 573) (k := 0) (i := 0) 3 rfl rfl ⟨by decide +kernel, rfl⟩ ?_
    refine z_iload (pc' := 575) (i := 4) 1 rfl ⟨by decide +kernel, rfl⟩ ?_
    refine z_callVf (pc' := 578) 0 (rft_items n u v2) (rfG_items ca D) (rfO ca D) rfl (by omega) rfl rfl (Nat.le_of_ble_eq_true rfl) ⟨by decide +kernel, rfl⟩ (fun r59 u60 => ?_)
    exact z_iret (pc' := 579) ⟨by decide +kernel, rfl⟩
  refine z_ite (fun h64 => ?_) (fun h64 => ?_)
  · refine z_tabIn (dflt := 585) (lo := 1) (hi := 20) (offs := #[95, 104, 112, 136, 561, 569, 577, 264, 278, 326, 414, 525, 533, 540, 547, 554, 585, 196, 585, 184]) (len := 95) (off := 554) (tgt := 579) h64 (by decide +kernel) (by decide) (by decide) rfl rfl ?_
    refine z_aload_n (pc' := 580) (k := 0) (i := 0) 3 rfl rfl ⟨by decide +kernel, rfl⟩ ?_
    refine z_iload (pc' := 582) (i := 4) 1 rfl ⟨by decide +kernel, rfl⟩ ?_
    refine z_callVf (pc' := 585) 0 (rft_lays n u v2) (rfG_lays ca D) (rfO ca D) rfl (by omega) rfl rfl (Nat.le_of_ble_eq_true rfl) ⟨by decide +kernel, rfl⟩ (fun r62 u63 => ?_)
    exact z_iret (pc' := 586) ⟨by decide +kernel, rfl⟩
  refine z_ite (fun h71 => ?_) (fun h71 => ?_)
  · refine z_tabIn (dflt := 585) (lo := 1) (hi := 20) (offs := #[95, 104, 112, 136, 561, 569, 577, 264, 278, 326, 414, 525, 533, 540, 547, 554, 585, 196, 585, 184]) (len := 95) (off := 196) (tgt := 221) h71 (by decide +kernel) (by decide) (by decide) rfl rfl ?_
    refine z_aload_n (pc' := 222) (k := 0) (i := 0) 3 rfl rfl ⟨by decide +kernel, rfl⟩ ?_
    refine z_dup (pc' := 223) rfl ⟨by decide +kernel, rfl⟩ ?_
    refine z_getI (pc' := 226) (rff_top ca D) rfl ⟨by decide +kernel, rfl⟩ ?_
    refine z_iconst (pc' := 227) (n := 1) (v := 1) (by decide) ⟨by decide +kernel, rfl⟩ ?_
    refine z_isub (pc' := 228) ⟨by decide +kernel, rfl⟩ ?_
    refine z_putI (pc' := 231) (rff_top ca D) rfl ⟨by decide +kernel, rfl⟩ (z_letU fun u65 => ?_)
    refine z_aload_n (pc' := 232) (k := 0) (i := 0) 3 rfl rfl ⟨by decide +kernel, rfl⟩ ?_
    refine z_getI (pc' := 235) (rff_printedN ca D) rfl ⟨by decide +kernel, rfl⟩ ?_
    refine z_sipush (pc' := 238) (n := 200) (v := 200) (by decide) ⟨by decide +kernel, rfl⟩ ?_
    refine z_icmp_ge (pc' := 241) (tgt := 277) (off := 39) ⟨by decide +kernel, rfl⟩ rfl (fun h66 => ?_) (fun h66 => ?_)
    · refine z_aload_n (pc' := 242) (k := 0) (i := 0) 3 rfl rfl ⟨by decide +kernel, rfl⟩ ?_
      refine z_getR (pc' := 245) (rff_paperSort ca D) rfl (y := a 33) rfl ⟨by decide +kernel, rfl⟩ ?_
      refine z_aload_n (pc' := 246) (k := 0) (i := 0) 3 rfl rfl ⟨by decide +kernel, rfl⟩ ?_
      refine z_getI (pc' := 249) (rff_printedN ca D) rfl ⟨by decide +kernel, rfl⟩ ?_
      refine z_aload_n (pc' := 250) (k := 0) (i := 0) 3 rfl rfl ⟨by decide +kernel, rfl⟩ ?_
      refine z_getR (pc' := 253) (rff_vSort ca D) rfl (y := a 27) rfl ⟨by decide +kernel, rfl⟩ ?_
      refine z_aload_n (pc' := 254) (k := 0) (i := 0) 3 rfl rfl ⟨by decide +kernel, rfl⟩ ?_
      refine z_getI (pc' := 257) (rff_top ca D) rfl ⟨by decide +kernel, rfl⟩ ?_
      refine z_iald (pc' := 258) 27 rfl (zlt rfl) rfl rfl ⟨by decide +kernel, rfl⟩ ?_
      refine z_iast (pc' := 259) 33 rfl (zlt rfl) rfl rfl ⟨by decide +kernel, rfl⟩ (z_letU fun u67 => ?_)
      refine z_aload_n (pc' := 260) (k := 0) (i := 0) 3 rfl rfl ⟨by decide +kernel, rfl⟩ ?_
      refine z_getR (pc' := 263) (rff_paperNum ca D) rfl (y := a 34) rfl ⟨by decide +kernel, rfl⟩ ?_
      refine z_aload_n (pc' := 264) (k := 0) (i := 0) 3 rfl rfl ⟨by decide +kernel, rfl⟩ ?_
      refine z_getI (pc' := 267) (rff_printedN ca D) rfl ⟨by decide +kernel, rfl⟩ ?_
      refine z_aload_n (pc' := 268) (k := 0) (i := 0) 3 rfl rfl ⟨by decide +kernel, rfl⟩ ?_
      refine z_getR (pc' := 271) (rff_vNum ca D) rfl (y := a 31) rfl ⟨by decide +kernel, rfl⟩ ?_
      refine z_aload_n (pc' := 272) (k := 0) (i := 0) 3 rfl rfl ⟨by decide +kernel, rfl⟩ ?_
      refine z_getI (pc' := 275) (rff_top ca D) rfl ⟨by decide +kernel, rfl⟩ ?_
      refine z_lald (pc' := 276) 31 rfl (zlt rfl) rfl rfl ⟨by decide +kernel, rfl⟩ ?_
      refine z_last (pc' := 277) 34 rfl (zlt rfl) rfl rfl ⟨by decide +kernel, rfl⟩ (z_letU fun u68 => ?_)
      refine z_aload_n (pc' := 278) (k := 0) (i := 0) 3 rfl rfl ⟨by decide +kernel, rfl⟩ ?_
      refine z_dup (pc' := 279) rfl ⟨by decide +kernel, rfl⟩ ?_
      refine z_getI (pc' := 282) (rff_printedN ca D) rfl ⟨by decide +kernel, rfl⟩ ?_
      refine z_iconst (pc' := 283) (n := 1) (v := 1) (by decide) ⟨by decide +kernel, rfl⟩ ?_
      refine z_iadd (pc' := 284) ⟨by decide +kernel, rfl⟩ ?_
      refine z_putI (pc' := 287) (rff_printedN ca D) rfl ⟨by decide +kernel, rfl⟩ (z_letU fun u69 => ?_)
      refine z_iconst (pc' := 288) (n := (-1)) (v := (-1)) (by decide) ⟨by decide +kernel, rfl⟩ ?_
      exact z_iret (pc' := 289) ⟨by decide +kernel, rfl⟩
    · refine z_aload_n (pc' := 278) (k := 0) (i := 0) 3 rfl rfl ⟨by decide +kernel, rfl⟩ ?_
      refine z_dup (pc' := 279) rfl ⟨by decide +kernel, rfl⟩ ?_
      refine z_getI (pc' := 282) (rff_printedN ca D) rfl ⟨by decide +kernel, rfl⟩ ?_
      refine z_iconst (pc' := 283) (n := 1) (v := 1) (by decide) ⟨by decide +kernel, rfl⟩ ?_
      refine z_iadd (pc' := 284) ⟨by decide +kernel, rfl⟩ ?_
      refine z_putI (pc' := 287) (rff_printedN ca D) rfl ⟨by decide +kernel, rfl⟩ (z_letU fun u70 => ?_)
      refine z_iconst (pc' := 288) (n := (-1)) (v := (-1)) (by decide) ⟨by decide +kernel, rfl⟩ ?_
      exact z_iret (pc' := 289) ⟨by decide +kernel, rfl⟩
  refine z_ite (fun h73 => ?_) (fun h73 => ?_)
  · refine z_tabIn (dflt := 585) (lo := 1) (hi := 20) (offs := #[95, 104, 112, 136, 561, 569, 577, 264, 278, 326, 414, 525, 533, 540, 547, 554, 585, 196, 585, 184]) (len := 95) (off := 184) (tgt := 209) h73 (by decide +kernel) (by decide) (by decide) rfl rfl ?_
    refine z_aload_n (pc' := 210) (k := 0) (i := 0) 3 rfl rfl ⟨by decide +kernel, rfl⟩ ?_
    refine z_dup (pc' := 211) rfl ⟨by decide +kernel, rfl⟩ ?_
    refine z_getI (pc' := 214) (rff_top ca D) rfl ⟨by decide +kernel, rfl⟩ ?_
    refine z_iconst (pc' := 215) (n := 1) (v := 1) (by decide) ⟨by decide +kernel, rfl⟩ ?_
    refine z_isub (pc' := 216) ⟨by decide +kernel, rfl⟩ ?_
    refine z_putI (pc' := 219) (rff_top ca D) rfl ⟨by decide +kernel, rfl⟩ (z_letU fun u72 => ?_)
    refine z_iconst (pc' := 220) (n := (-1)) (v := (-1)) (by decide) ⟨by decide +kernel, rfl⟩ ?_
    exact z_iret (pc' := 221) ⟨by decide +kernel, rfl⟩
  by_cases h74 : x1 = 17
  · refine z_tabIn (dflt := 585) (lo := 1) (hi := 20) (offs := #[95, 104, 112, 136, 561, 569, 577, 264, 278, 326, 414, 525, 533, 540, 547, 554, 585, 196, 585, 184]) (len := 95) (off := 585) (tgt := 610) h74 (by decide +kernel) (by decide) (by decide) rfl rfl ?_
    refine z_iconst (pc' := 611) (n := (-1)) (v := (-1)) (by decide) ⟨by decide +kernel, rfl⟩ ?_
    exact z_iret (pc' := 612) ⟨by decide +kernel, rfl⟩
  by_cases h75 : x1 = 19
  · refine z_tabIn (dflt := 585) (lo := 1) (hi := 20) (offs := #[95, 104, 112, 136, 561, 569, 577, 264, 278, 326, 414, 525, 533, 540, 547, 554, 585, 196, 585, 184]) (len := 95) (off := 585) (tgt := 610) h75 (by decide +kernel) (by decide) (by decide) rfl rfl ?_
    refine z_iconst (pc' := 611) (n := (-1)) (v := (-1)) (by decide) ⟨by decide +kernel, rfl⟩ ?_
    exact z_iret (pc' := 612) ⟨by decide +kernel, rfl⟩
  refine z_tabOut (dflt := 585) (lo := 1) (hi := 20) (offs := #[95, 104, 112, 136, 561, 569, 577, 264, 278, 326, 414, 525, 533, 540, 547, 554, 585, 196, 585, 184]) (len := 95) (tgt := 610) (by decide +kernel) (by have h6' := lv_neT h6 (a := 1) (by decide); have h9' := lv_neT h9 (a := 2) (by decide); have h12' := lv_neT h12 (a := 3) (by decide); have h16' := lv_neT h16 (a := 4) (by decide); have h19' := lv_neT h19 (a := 5) (by decide); have h22' := lv_neT h22 (a := 6) (by decide); have h25' := lv_neT h25 (a := 7) (by decide); have h28' := lv_neT h28 (a := 8) (by decide); have h33' := lv_neT h33 (a := 9) (by decide); have h44' := lv_neT h44 (a := 10) (by decide); have h49' := lv_neT h49 (a := 11) (by decide); have h52' := lv_neT h52 (a := 12) (by decide); have h55' := lv_neT h55 (a := 13) (by decide); have h58' := lv_neT h58 (a := 14) (by decide); have h61' := lv_neT h61 (a := 15) (by decide); have h64' := lv_neT h64 (a := 16) (by decide); have h71' := lv_neT h71 (a := 18) (by decide); have h73' := lv_neT h73 (a := 20) (by decide); have h74' := lv_neT h74 (a := 17) (by decide); have h75' := lv_neT h75 (a := 19) (by decide); omega) rfl ?_
  refine z_iconst (pc' := 611) (n := (-1)) (v := (-1)) (by decide) ⟨by decide +kernel, rfl⟩ ?_
  exact z_iret (pc' := 612) ⟨by decide +kernel, rfl⟩
set_option maxRecDepth 20000 in
set_option maxHeartbeats 4000000 in
theorem rf_run_J197_t {κ : zKx} {ca : Nat → ClassId} {D : va_G} {A : Nat → Prop} {c0 : Nat × Nat} {a g0 g : Nat → Nat} (n : Nat) (k57 : zMu → Int32 → Int32 → Int32 → Option (Int32 × zMu)) (hk57 : ∀ (u : zMu) (x1 : Int32) (x2 : Int32) (x3 : Int32), zJ κ (zRf ca D) prog_13_method_44_code 5 rf_C (some .int) zri true 5 A c0 a g0 g u 57 [(0, .ref (a 0)), (1, .int x1), (2, .int x2), (3, .int x3)] [] (k57 u x1 x2 x3)) (u : zMu) (x1 : Int32) (x2 : Int32) (x3 : Int32) : zJ κ (zRf ca D) prog_13_method_44_code 5 rf_C (some .int) zri true 5 A c0 a g0 g u 197 [(0, .ref (a 0)), (1, .int x1), (2, .int x2), (3, .int x3)] [] (rf_run_J197 n k57 u x1 x2 x3) := by
  unfold rf_run_J197
  refine z_aload_n (pc' := 198) (k := 0) (i := 0) 0 rfl rfl ⟨by decide +kernel, rfl⟩ ?_
  refine z_getI (pc' := 201) (rff_depth ca D) rfl ⟨by decide +kernel, rfl⟩ ?_
  refine z_if_ne (pc' := 204) (tgt := 209) (off := 8) ⟨by decide +kernel, rfl⟩ rfl (fun h1 => ?_) (fun h1 => ?_)
  · refine z_iconst (pc' := 205) (n := 0) (v := 0) (by decide) ⟨by decide +kernel, rfl⟩ ?_
    refine z_istore_n (pc' := 206) (k := 3) (i := 3) rfl (by decide) rfl ⟨by decide +kernel, rfl⟩ ?_
    refine z_goto (tgt := 332) (off := 126) (by decide +kernel) rfl ?_
    refine z_goto (tgt := 57) (off := -275) (by decide +kernel) rfl ?_
    refine z_lv [1, 2, 3, 0] (lv' := [(0, .ref (a 0)), (1, .int x1), (2, .int x2), (3, .int 0)]) rfl ?_
    exact hk57 u x1 x2 0
  · refine z_aload_n (pc' := 210) (k := 0) (i := 0) 0 rfl rfl ⟨by decide +kernel, rfl⟩ ?_
    refine z_getR (pc' := 213) (rff_frameBack ca D) rfl (y := a 29) rfl ⟨by decide +kernel, rfl⟩ ?_
    refine z_aload_n (pc' := 214) (k := 0) (i := 0) 0 rfl rfl ⟨by decide +kernel, rfl⟩ ?_
    refine z_dup (pc' := 215) rfl ⟨by decide +kernel, rfl⟩ ?_
    refine z_getI (pc' := 218) (rff_depth ca D) rfl ⟨by decide +kernel, rfl⟩ ?_
    refine z_letI fun v2 => ?_
    refine z_dup_x1 (pc' := 219) rfl rfl ⟨by decide +kernel, rfl⟩ ?_
    refine z_iconst (pc' := 220) (n := 1) (v := 1) (by decide) ⟨by decide +kernel, rfl⟩ ?_
    refine z_isub (pc' := 221) ⟨by decide +kernel, rfl⟩ ?_
    refine z_putI (pc' := 224) (rff_depth ca D) rfl ⟨by decide +kernel, rfl⟩ (z_letU fun u3 => ?_)
    refine z_iald (pc' := 225) 29 rfl (zlt rfl) rfl rfl ⟨by decide +kernel, rfl⟩ ?_
    refine z_letI fun v4 => ?_
    refine z_istore_n (pc' := 226) (k := 2) (i := 2) rfl (by decide) rfl ⟨by decide +kernel, rfl⟩ ?_
    refine z_goto (tgt := 332) (off := 106) (by decide +kernel) rfl ?_
    refine z_goto (tgt := 57) (off := -275) (by decide +kernel) rfl ?_
    refine z_lv [1, 2, 0, 3] (lv' := [(0, .ref (a 0)), (1, .int x1), (2, .int v4), (3, .int x3)]) rfl ?_
    exact hk57 u3 x1 v4 x3
set_option maxRecDepth 20000 in
set_option maxHeartbeats 4000000 in
theorem rf_run_J184_t {κ : zKx} {ca : Nat → ClassId} {D : va_G} {A : Nat → Prop} {c0 : Nat × Nat} {a g0 g : Nat → Nat} (n : Nat) (k57 : zMu → Int32 → Int32 → Int32 → Option (Int32 × zMu)) (hk57 : ∀ (u : zMu) (x1 : Int32) (x2 : Int32) (x3 : Int32), zJ κ (zRf ca D) prog_13_method_44_code 5 rf_C (some .int) zri true 5 A c0 a g0 g u 57 [(0, .ref (a 0)), (1, .int x1), (2, .int x2), (3, .int x3)] [] (k57 u x1 x2 x3)) (u : zMu) (x1 : Int32) (x2 : Int32) (x3 : Int32) (x4 : Int32) : zJ κ (zRf ca D) prog_13_method_44_code 5 rf_C (some .int) zri true 5 A c0 a g0 g u 184 [(0, .ref (a 0)), (1, .int x1), (2, .int x2), (3, .int x3), (4, .int x4)] [] (rf_run_J184 n k57 u x1 x2 x3 x4) := by
  unfold rf_run_J184
  refine z_iload (pc' := 186) (i := 4) 4 rfl ⟨by decide +kernel, rfl⟩ ?_
  refine z_bipush (pc' := 188) (n := 23) (v := 23) (by decide) ⟨by decide +kernel, rfl⟩ ?_
  refine z_icmp_ne (pc' := 191) (tgt := 197) (off := 9) ⟨by decide +kernel, rfl⟩ rfl (fun h1 => ?_) (fun h1 => ?_)
  · refine z_aload_n (pc' := 192) (k := 0) (i := 0) 0 rfl rfl ⟨by decide +kernel, rfl⟩ ?_
    refine z_iconst (pc' := 193) (n := 0) (v := 0) (by decide) ⟨by decide +kernel, rfl⟩ ?_
    refine z_lconst (pc' := 194) (n := 0) (v := 0) (by decide) ⟨by decide +kernel, rfl⟩ ?_
    refine z_callVf (pc' := 197) 0 (rft_pushes n u 0 0) (rfG_pushes ca D) (rfO ca D) rfl (by omega) rfl rfl (Nat.le_of_ble_eq_true rfl) ⟨by decide +kernel, rfl⟩ (fun _ u3 => ?_)
    refine z_lv [0, 1, 2, 3] (lv' := [(0, .ref (a 0)), (1, .int x1), (2, .int x2), (3, .int x3)]) rfl ?_
    exact rf_run_J197_t n (k57) (hk57) u3 x1 x2 x3
  · refine z_lv [0, 1, 2, 3] (lv' := [(0, .ref (a 0)), (1, .int x1), (2, .int x2), (3, .int x3)]) rfl ?_
    exact rf_run_J197_t n (k57) (hk57) u x1 x2 x3
set_option maxRecDepth 20000 in
set_option maxHeartbeats 4000000 in
theorem rf_run_J102_t {κ : zKx} {ca : Nat → ClassId} {D : va_G} {A : Nat → Prop} {c0 : Nat × Nat} {a g0 g : Nat → Nat} (n : Nat) (k57 : zMu → Int32 → Int32 → Int32 → Option (Int32 × zMu)) (hk57 : ∀ (u : zMu) (x1 : Int32) (x2 : Int32) (x3 : Int32), zJ κ (zRf ca D) prog_13_method_44_code 5 rf_C (some .int) zri true 5 A c0 a g0 g u 57 [(0, .ref (a 0)), (1, .int x1), (2, .int x2), (3, .int x3)] [] (k57 u x1 x2 x3)) (u : zMu) (x1 : Int32) (x2 : Int32) (x3 : Int32) (x4 : Int32) : zJ κ (zRf ca D) prog_13_method_44_code 5 rf_C (some .int) zri true 5 A c0 a g0 g u 102 [(0, .ref (a 0)), (1, .int x1), (2, .int x2), (3, .int x3), (4, .int x4)] [] (rf_run_J102 n k57 u x1 x2 x3 x4) := by
  unfold rf_run_J102
  refine z_iload (pc' := 104) (i := 4) 4 rfl ⟨by decide +kernel, rfl⟩ ?_
  refine z_bipush (pc' := 106) (n := 17) (v := 17) (by decide) ⟨by decide +kernel, rfl⟩ ?_
  refine z_icmp_ne (pc' := 109) (tgt := 170) (off := 64) ⟨by decide +kernel, rfl⟩ rfl (fun h1 => ?_) (fun h1 => ?_)
  · refine z_aload_n (pc' := 110) (k := 0) (i := 0) 0 rfl rfl ⟨by decide +kernel, rfl⟩ ?_
    refine z_getI (pc' := 113) (rff_depth ca D) rfl ⟨by decide +kernel, rfl⟩ ?_
    refine z_bipush (pc' := 115) (n := 12) (v := 12) (by decide) ⟨by decide +kernel, rfl⟩ ?_
    refine z_icmp_ne (pc' := 118) (tgt := 133) (off := 18) ⟨by decide +kernel, rfl⟩ rfl (fun h2 => ?_) (fun h2 => ?_)
    · refine z_aload_n (pc' := 119) (k := 0) (i := 0) 0 rfl rfl ⟨by decide +kernel, rfl⟩ ?_
      refine z_iconst (pc' := 120) (n := 5) (v := 5) (by decide) ⟨by decide +kernel, rfl⟩ ?_
      refine z_aload_n (pc' := 121) (k := 0) (i := 0) 0 rfl rfl ⟨by decide +kernel, rfl⟩ ?_
      refine z_getR (pc' := 124) (rff_opPlace ca D) rfl (y := a 13) rfl ⟨by decide +kernel, rfl⟩ ?_
      refine z_iload_n (pc' := 125) (k := 2) (i := 2) 2 rfl rfl ⟨by decide +kernel, rfl⟩ ?_
      refine z_iald (pc' := 126) 13 rfl (zlt rfl) rfl rfl ⟨by decide +kernel, rfl⟩ ?_
      refine z_callVf (pc' := 129) 0 (rft_fails n u 5 (zI u 13 (zx x2))) (rfG_fails ca D) (rfO ca D) rfl (by omega) rfl rfl (Nat.le_of_ble_eq_true rfl) ⟨by decide +kernel, rfl⟩ (fun r3 u4 => ?_)
      refine z_istore_n (pc' := 130) (k := 3) (i := 3) rfl (by decide) rfl ⟨by decide +kernel, rfl⟩ ?_
      refine z_goto (tgt := 332) (off := 202) (by decide +kernel) rfl ?_
      refine z_goto (tgt := 57) (off := -275) (by decide +kernel) rfl ?_
      refine z_lv [1, 2, 3, 0] (lv' := [(0, .ref (a 0)), (1, .int x1), (2, .int x2), (3, .int r3)]) rfl ?_
      exact hk57 u4 x1 x2 r3
    · refine z_aload_n (pc' := 134) (k := 0) (i := 0) 0 rfl rfl ⟨by decide +kernel, rfl⟩ ?_
      refine z_aload_n (pc' := 135) (k := 0) (i := 0) 0 rfl rfl ⟨by decide +kernel, rfl⟩ ?_
      refine z_getR (pc' := 138) (rff_opA ca D) rfl (y := a 11) rfl ⟨by decide +kernel, rfl⟩ ?_
      refine z_iload_n (pc' := 139) (k := 2) (i := 2) 2 rfl rfl ⟨by decide +kernel, rfl⟩ ?_
      refine z_iald (pc' := 140) 11 rfl (zlt rfl) rfl rfl ⟨by decide +kernel, rfl⟩ ?_
      refine z_aload_n (pc' := 141) (k := 0) (i := 0) 0 rfl rfl ⟨by decide +kernel, rfl⟩ ?_
      refine z_getR (pc' := 144) (rff_opB ca D) rfl (y := a 12) rfl ⟨by decide +kernel, rfl⟩ ?_
      refine z_iload_n (pc' := 145) (k := 2) (i := 2) 2 rfl rfl ⟨by decide +kernel, rfl⟩ ?_
      refine z_iald (pc' := 146) 12 rfl (zlt rfl) rfl rfl ⟨by decide +kernel, rfl⟩ ?_
      refine z_iload_n (pc' := 147) (k := 2) (i := 2) 2 rfl rfl ⟨by decide +kernel, rfl⟩ ?_
      refine z_iconst (pc' := 148) (n := 1) (v := 1) (by decide) ⟨by decide +kernel, rfl⟩ ?_
      refine z_iadd (pc' := 149) ⟨by decide +kernel, rfl⟩ ?_
      refine z_callVf (pc' := 152) 0 (rft_enters n u (zI u 11 (zx x2)) (zI u 12 (zx x2)) (x2 + 1)) (rfG_enters ca D) (rfO ca D) rfl (by omega) rfl rfl (Nat.le_of_ble_eq_true rfl) ⟨by decide +kernel, rfl⟩ (fun _ u6 => ?_)
      refine z_aload_n (pc' := 153) (k := 0) (i := 0) 0 rfl rfl ⟨by decide +kernel, rfl⟩ ?_
      refine z_getR (pc' := 156) (rff_fnAt ca D) rfl (y := a 15) rfl ⟨by decide +kernel, rfl⟩ ?_
      refine z_aload_n (pc' := 157) (k := 0) (i := 0) 0 rfl rfl ⟨by decide +kernel, rfl⟩ ?_
      refine z_getR (pc' := 160) (rff_frameFn ca D) rfl (y := a 30) rfl ⟨by decide +kernel, rfl⟩ ?_
      refine z_aload_n (pc' := 161) (k := 0) (i := 0) 0 rfl rfl ⟨by decide +kernel, rfl⟩ ?_
      refine z_getI (pc' := 164) (rff_depth ca D) rfl ⟨by decide +kernel, rfl⟩ ?_
      refine z_iald (pc' := 165) 30 rfl (zlt rfl) rfl rfl ⟨by decide +kernel, rfl⟩ ?_
      refine z_iald (pc' := 166) 15 rfl (zlt rfl) rfl rfl ⟨by decide +kernel, rfl⟩ ?_
      refine z_letI fun v7 => ?_
      refine z_istore_n (pc' := 167) (k := 2) (i := 2) rfl (by decide) rfl ⟨by decide +kernel, rfl⟩ ?_
      refine z_goto (tgt := 332) (off := 165) (by decide +kernel) rfl ?_
      refine z_goto (tgt := 57) (off := -275) (by decide +kernel) rfl ?_
      refine z_lv [1, 2, 0, 3] (lv' := [(0, .ref (a 0)), (1, .int x1), (2, .int v7), (3, .int x3)]) rfl ?_
      exact hk57 u6 x1 v7 x3
  · refine z_iload (pc' := 172) (i := 4) 4 rfl ⟨by decide +kernel, rfl⟩ ?_
    refine z_bipush (pc' := 174) (n := 19) (v := 19) (by decide) ⟨by decide +kernel, rfl⟩ ?_
    refine z_icmp_eq (pc' := 177) (tgt := 184) (off := 10) ⟨by decide +kernel, rfl⟩ rfl (fun h8 => ?_) (fun h8 => ?_)
    · exact rf_run_J184_t n (k57) (hk57) u x1 x2 x3 x4
    · refine z_iload (pc' := 179) (i := 4) 4 rfl ⟨by decide +kernel, rfl⟩ ?_
      refine z_bipush (pc' := 181) (n := 23) (v := 23) (by decide) ⟨by decide +kernel, rfl⟩ ?_
      refine z_icmp_ne (pc' := 184) (tgt := 229) (off := 48) ⟨by decide +kernel, rfl⟩ rfl (fun h9 => ?_) (fun h9 => ?_)
      · exact rf_run_J184_t n (k57) (hk57) u x1 x2 x3 x4
      · refine z_iload (pc' := 231) (i := 4) 4 rfl ⟨by decide +kernel, rfl⟩ ?_
        refine z_bipush (pc' := 233) (n := 22) (v := 22) (by decide) ⟨by decide +kernel, rfl⟩ ?_
        refine z_icmp_ne (pc' := 236) (tgt := 246) (off := 13) ⟨by decide +kernel, rfl⟩ rfl (fun h10 => ?_) (fun h10 => ?_)
        · refine z_aload_n (pc' := 237) (k := 0) (i := 0) 0 rfl rfl ⟨by decide +kernel, rfl⟩ ?_
          refine z_getR (pc' := 240) (rff_opA ca D) rfl (y := a 11) rfl ⟨by decide +kernel, rfl⟩ ?_
          refine z_iload_n (pc' := 241) (k := 2) (i := 2) 2 rfl rfl ⟨by decide +kernel, rfl⟩ ?_
          refine z_iald (pc' := 242) 11 rfl (zlt rfl) rfl rfl ⟨by decide +kernel, rfl⟩ ?_
          refine z_letI fun v11 => ?_
          refine z_istore_n (pc' := 243) (k := 2) (i := 2) rfl (by decide) rfl ⟨by decide +kernel, rfl⟩ ?_
          refine z_goto (tgt := 332) (off := 89) (by decide +kernel) rfl ?_
          refine z_goto (tgt := 57) (off := -275) (by decide +kernel) rfl ?_
          refine z_lv [1, 2, 0, 3] (lv' := [(0, .ref (a 0)), (1, .int x1), (2, .int v11), (3, .int x3)]) rfl ?_
          exact hk57 u x1 v11 x3
        · refine z_iload (pc' := 248) (i := 4) 4 rfl ⟨by decide +kernel, rfl⟩ ?_
          refine z_bipush (pc' := 250) (n := 21) (v := 21) (by decide) ⟨by decide +kernel, rfl⟩ ?_
          refine z_icmp_ne (pc' := 253) (tgt := 321) (off := 71) ⟨by decide +kernel, rfl⟩ rfl (fun h12 => ?_) (fun h12 => ?_)
          · refine z_aload_n (pc' := 254) (k := 0) (i := 0) 0 rfl rfl ⟨by decide +kernel, rfl⟩ ?_
            refine z_dup (pc' := 255) rfl ⟨by decide +kernel, rfl⟩ ?_
            refine z_getI (pc' := 258) (rff_top ca D) rfl ⟨by decide +kernel, rfl⟩ ?_
            refine z_iconst (pc' := 259) (n := 1) (v := 1) (by decide) ⟨by decide +kernel, rfl⟩ ?_
            refine z_isub (pc' := 260) ⟨by decide +kernel, rfl⟩ ?_
            refine z_putI (pc' := 263) (rff_top ca D) rfl ⟨by decide +kernel, rfl⟩ (z_letU fun u13 => ?_)
            refine z_aload_n (pc' := 264) (k := 0) (i := 0) 0 rfl rfl ⟨by decide +kernel, rfl⟩ ?_
            refine z_getR (pc' := 267) (rff_vSort ca D) rfl (y := a 27) rfl ⟨by decide +kernel, rfl⟩ ?_
            refine z_aload_n (pc' := 268) (k := 0) (i := 0) 0 rfl rfl ⟨by decide +kernel, rfl⟩ ?_
            refine z_getI (pc' := 271) (rff_top ca D) rfl ⟨by decide +kernel, rfl⟩ ?_
            refine z_iald (pc' := 272) 27 rfl (zlt rfl) rfl rfl ⟨by decide +kernel, rfl⟩ ?_
            refine z_iconst (pc' := 273) (n := 1) (v := 1) (by decide) ⟨by decide +kernel, rfl⟩ ?_
            refine z_icmp_eq (pc' := 276) (tgt := 291) (off := 18) ⟨by decide +kernel, rfl⟩ rfl (fun h14 => ?_) (fun h14 => ?_)
            · refine z_aload_n (pc' := 292) (k := 0) (i := 0) 0 rfl rfl ⟨by decide +kernel, rfl⟩ ?_
              refine z_getR (pc' := 295) (rff_vNum ca D) rfl (y := a 31) rfl ⟨by decide +kernel, rfl⟩ ?_
              refine z_aload_n (pc' := 296) (k := 0) (i := 0) 0 rfl rfl ⟨by decide +kernel, rfl⟩ ?_
              refine z_getI (pc' := 299) (rff_top ca D) rfl ⟨by decide +kernel, rfl⟩ ?_
              refine z_lald (pc' := 300) 31 rfl (zlt rfl) rfl rfl ⟨by decide +kernel, rfl⟩ ?_
              refine z_lconst (pc' := 301) (n := 0) (v := 0) (by decide) ⟨by decide +kernel, rfl⟩ ?_
              refine z_lcmp (pc' := 302) ⟨by decide +kernel, rfl⟩ ?_
              refine z_if_ne (pc' := 305) (tgt := 314) (off := 12) ⟨by decide +kernel, rfl⟩ rfl (fun h15 => ?_) (fun h15 => ?_)
              · refine z_aload_n (pc' := 306) (k := 0) (i := 0) 0 rfl rfl ⟨by decide +kernel, rfl⟩ ?_
                refine z_getR (pc' := 309) (rff_opA ca D) rfl (y := a 11) rfl ⟨by decide +kernel, rfl⟩ ?_
                refine z_iload_n (pc' := 310) (k := 2) (i := 2) 2 rfl rfl ⟨by decide +kernel, rfl⟩ ?_
                refine z_iald (pc' := 311) 11 rfl (zlt rfl) rfl rfl ⟨by decide +kernel, rfl⟩ ?_
                refine z_goto (tgt := 317) (off := 6) (by decide +kernel) rfl ?_
                refine z_letI fun v16 => ?_
                refine z_istore_n (pc' := 318) (k := 2) (i := 2) rfl (by decide) rfl ⟨by decide +kernel, rfl⟩ ?_
                refine z_goto (tgt := 332) (off := 14) (by decide +kernel) rfl ?_
                refine z_goto (tgt := 57) (off := -275) (by decide +kernel) rfl ?_
                refine z_lv [1, 2, 0, 3] (lv' := [(0, .ref (a 0)), (1, .int x1), (2, .int v16), (3, .int x3)]) rfl ?_
                exact hk57 u13 x1 v16 x3
              · refine z_iload_n (pc' := 315) (k := 2) (i := 2) 2 rfl rfl ⟨by decide +kernel, rfl⟩ ?_
                refine z_iconst (pc' := 316) (n := 1) (v := 1) (by decide) ⟨by decide +kernel, rfl⟩ ?_
                refine z_iadd (pc' := 317) ⟨by decide +kernel, rfl⟩ ?_
                refine z_letI fun v17 => ?_
                refine z_istore_n (pc' := 318) (k := 2) (i := 2) rfl (by decide) rfl ⟨by decide +kernel, rfl⟩ ?_
                refine z_goto (tgt := 332) (off := 14) (by decide +kernel) rfl ?_
                refine z_goto (tgt := 57) (off := -275) (by decide +kernel) rfl ?_
                refine z_lv [1, 2, 0, 3] (lv' := [(0, .ref (a 0)), (1, .int x1), (2, .int v17), (3, .int x3)]) rfl ?_
                exact hk57 u13 x1 v17 x3
            · refine z_aload_n (pc' := 277) (k := 0) (i := 0) 0 rfl rfl ⟨by decide +kernel, rfl⟩ ?_
              refine z_iconst (pc' := 278) (n := 1) (v := 1) (by decide) ⟨by decide +kernel, rfl⟩ ?_
              refine z_aload_n (pc' := 279) (k := 0) (i := 0) 0 rfl rfl ⟨by decide +kernel, rfl⟩ ?_
              refine z_getR (pc' := 282) (rff_opPlace ca D) rfl (y := a 13) rfl ⟨by decide +kernel, rfl⟩ ?_
              refine z_iload_n (pc' := 283) (k := 2) (i := 2) 2 rfl rfl ⟨by decide +kernel, rfl⟩ ?_
              refine z_iald (pc' := 284) 13 rfl (zlt rfl) rfl rfl ⟨by decide +kernel, rfl⟩ ?_
              refine z_callVf (pc' := 287) 0 (rft_fails n u13 1 (zI u13 13 (zx x2))) (rfG_fails ca D) (rfO ca D) rfl (by omega) rfl rfl (Nat.le_of_ble_eq_true rfl) ⟨by decide +kernel, rfl⟩ (fun r18 u19 => ?_)
              refine z_istore_n (pc' := 288) (k := 3) (i := 3) rfl (by decide) rfl ⟨by decide +kernel, rfl⟩ ?_
              refine z_goto (tgt := 332) (off := 44) (by decide +kernel) rfl ?_
              refine z_goto (tgt := 57) (off := -275) (by decide +kernel) rfl ?_
              refine z_lv [1, 2, 3, 0] (lv' := [(0, .ref (a 0)), (1, .int x1), (2, .int x2), (3, .int r18)]) rfl ?_
              exact hk57 u19 x1 x2 r18
          · refine z_aload_n (pc' := 322) (k := 0) (i := 0) 0 rfl rfl ⟨by decide +kernel, rfl⟩ ?_
            refine z_iload (pc' := 324) (i := 4) 4 rfl ⟨by decide +kernel, rfl⟩ ?_
            refine z_iload_n (pc' := 325) (k := 2) (i := 2) 2 rfl rfl ⟨by decide +kernel, rfl⟩ ?_
            refine z_callVf (pc' := 328) 0 (rft_does n u x4 x2) (rfG_does ca D) (rfO ca D) rfl (by omega) rfl rfl (Nat.le_of_ble_eq_true rfl) ⟨by decide +kernel, rfl⟩ (fun r20 u21 => ?_)
            refine z_istore_n (pc' := 329) (k := 3) (i := 3) rfl (by decide) rfl ⟨by decide +kernel, rfl⟩ ?_
            refine z_iincN (pc' := 332) (i := 2) (n := 1) (c := 1) 3 rfl (by decide) (by decide) rfl ⟨by decide +kernel, rfl⟩ fun v22 => ?_
            refine z_goto (tgt := 57) (off := -275) (by decide +kernel) rfl ?_
            refine z_lv [2, 3, 0, 1] (lv' := [(0, .ref (a 0)), (1, .int x1), (2, .int v22), (3, .int r20)]) rfl ?_
            exact hk57 u21 x1 v22 r20
set_option maxRecDepth 20000 in
set_option maxHeartbeats 4000000 in
theorem rf_run_J82_t {κ : zKx} {ca : Nat → ClassId} {D : va_G} {A : Nat → Prop} {c0 : Nat × Nat} {a g0 g : Nat → Nat} (n : Nat) (k57 : zMu → Int32 → Int32 → Int32 → Option (Int32 × zMu)) (hk57 : ∀ (u : zMu) (x1 : Int32) (x2 : Int32) (x3 : Int32), zJ κ (zRf ca D) prog_13_method_44_code 5 rf_C (some .int) zri true 5 A c0 a g0 g u 57 [(0, .ref (a 0)), (1, .int x1), (2, .int x2), (3, .int x3)] [] (k57 u x1 x2 x3)) (u : zMu) (x1 : Int32) (x2 : Int32) (x3 : Int32) (x4 : Int32) : zJ κ (zRf ca D) prog_13_method_44_code 5 rf_C (some .int) zri true 5 A c0 a g0 g u 82 [(0, .ref (a 0)), (1, .int x1), (2, .int x2), (3, .int x3), (4, .int x4)] [] (rf_run_J82 n k57 u x1 x2 x3 x4) := by
  unfold rf_run_J82
  refine z_aload_n (pc' := 83) (k := 0) (i := 0) 0 rfl rfl ⟨by decide +kernel, rfl⟩ ?_
  refine z_getI (pc' := 86) (rff_steps ca D) rfl ⟨by decide +kernel, rfl⟩ ?_
  refine z_iload_n (pc' := 87) (k := 1) (i := 1) 1 rfl rfl ⟨by decide +kernel, rfl⟩ ?_
  refine z_icmp_ne (pc' := 90) (tgt := 92) (off := 5) ⟨by decide +kernel, rfl⟩ rfl (fun h1 => ?_) (fun h1 => ?_)
  · refine z_iconst (pc' := 91) (n := 2) (v := 2) (by decide) ⟨by decide +kernel, rfl⟩ ?_
    exact z_iret (pc' := 92) ⟨by decide +kernel, rfl⟩
  · refine z_aload_n (pc' := 93) (k := 0) (i := 0) 0 rfl rfl ⟨by decide +kernel, rfl⟩ ?_
    refine z_dup (pc' := 94) rfl ⟨by decide +kernel, rfl⟩ ?_
    refine z_getI (pc' := 97) (rff_steps ca D) rfl ⟨by decide +kernel, rfl⟩ ?_
    refine z_iconst (pc' := 98) (n := 1) (v := 1) (by decide) ⟨by decide +kernel, rfl⟩ ?_
    refine z_iadd (pc' := 99) ⟨by decide +kernel, rfl⟩ ?_
    refine z_putI (pc' := 102) (rff_steps ca D) rfl ⟨by decide +kernel, rfl⟩ (z_letU fun u2 => ?_)
    exact rf_run_J102_t n (k57) (hk57) u2 x1 x2 x3 x4
set_option maxRecDepth 20000 in
set_option maxHeartbeats 4000000 in
theorem rf_run_L57_t {κ : zKx} {ca : Nat → ClassId} {D : va_G} {A : Nat → Prop} {c0 : Nat × Nat} {a g0 g : Nat → Nat} (n : Nat) : ∀ (m : Nat) (u : zMu) (x1 : Int32) (x2 : Int32) (x3 : Int32), zJ κ (zRf ca D) prog_13_method_44_code 5 rf_C (some .int) zri true 5 A c0 a g0 g u 57 [(0, .ref (a 0)), (1, .int x1), (2, .int x2), (3, .int x3)] [] (rf_run_L57 n m u x1 x2 x3) := by
  intro m
  induction m with
  | zero => intro u x1 x2 x3 r u' h; cases h
  | succ m ih =>
    intro u x1 x2 x3
    unfold rf_run_L57
    refine z_iload_n (pc' := 58) (k := 3) (i := 3) 3 rfl rfl ⟨by decide +kernel, rfl⟩ ?_
    refine z_iconst (pc' := 59) (n := (-1)) (v := (-1)) (by decide) ⟨by decide +kernel, rfl⟩ ?_
    refine z_icmp_ne (pc' := 62) (tgt := 335) (off := 276) ⟨by decide +kernel, rfl⟩ rfl (fun h1 => ?_) (fun h1 => ?_)
    · refine z_aload_n (pc' := 63) (k := 0) (i := 0) 0 rfl rfl ⟨by decide +kernel, rfl⟩ ?_
      refine z_getR (pc' := 66) (rff_op ca D) rfl (y := a 10) rfl ⟨by decide +kernel, rfl⟩ ?_
      refine z_iload_n (pc' := 67) (k := 2) (i := 2) 2 rfl rfl ⟨by decide +kernel, rfl⟩ ?_
      refine z_iald (pc' := 68) 10 rfl (zlt rfl) rfl rfl ⟨by decide +kernel, rfl⟩ ?_
      refine z_letI fun v2 => ?_
      refine z_istore (pc' := 70) (i := 4) (by decide) rfl ⟨by decide +kernel, rfl⟩ ?_
      refine z_iload (pc' := 72) (i := 4) 0 rfl ⟨by decide +kernel, rfl⟩ ?_
      refine z_if_eq (pc' := 75) (tgt := 82) (off := 10) ⟨by decide +kernel, rfl⟩ rfl (fun h3 => ?_) (fun h3 => ?_)
      · refine z_lv [1, 2, 3, 4, 0] (lv' := [(0, .ref (a 0)), (1, .int x1), (2, .int x2), (3, .int x3), (4, .int v2)]) rfl ?_
        exact rf_run_J82_t n (rf_run_L57 n m) (ih) u x1 x2 x3 v2
      · refine z_iload (pc' := 77) (i := 4) 0 rfl ⟨by decide +kernel, rfl⟩ ?_
        refine z_bipush (pc' := 79) (n := 17) (v := 17) (by decide) ⟨by decide +kernel, rfl⟩ ?_
        refine z_icmp_ne (pc' := 82) (tgt := 102) (off := 23) ⟨by decide +kernel, rfl⟩ rfl (fun h4 => ?_) (fun h4 => ?_)
        · refine z_lv [1, 2, 3, 4, 0] (lv' := [(0, .ref (a 0)), (1, .int x1), (2, .int x2), (3, .int x3), (4, .int v2)]) rfl ?_
          exact rf_run_J82_t n (rf_run_L57 n m) (ih) u x1 x2 x3 v2
        · refine z_lv [1, 2, 3, 4, 0] (lv' := [(0, .ref (a 0)), (1, .int x1), (2, .int x2), (3, .int x3), (4, .int v2)]) rfl ?_
          exact rf_run_J102_t n (rf_run_L57 n m) (ih) u x1 x2 x3 v2
    · refine z_iload_n (pc' := 336) (k := 3) (i := 3) 3 rfl rfl ⟨by decide +kernel, rfl⟩ ?_
      exact z_iret (pc' := 337) ⟨by decide +kernel, rfl⟩
set_option maxRecDepth 20000 in
set_option maxHeartbeats 4000000 in
theorem rf_run_L31_t {κ : zKx} {ca : Nat → ClassId} {D : va_G} {A : Nat → Prop} {c0 : Nat × Nat} {a g0 g : Nat → Nat} (n : Nat) : ∀ (m : Nat) (u : zMu) (x1 : Int32) (x2 : Int32), zJ κ (zRf ca D) prog_13_method_44_code 5 rf_C (some .int) zri true 5 A c0 a g0 g u 31 [(0, .ref (a 0)), (1, .int x1), (2, .int x2)] [] (rf_run_L31 n m u x1 x2) := by
  intro m
  induction m with
  | zero => intro u x1 x2 r u' h; cases h
  | succ m ih =>
    intro u x1 x2
    unfold rf_run_L31
    refine z_iload_n (pc' := 32) (k := 2) (i := 2) 2 rfl rfl ⟨by decide +kernel, rfl⟩ ?_
    refine z_bipush (pc' := 34) (n := 12) (v := 12) (by decide) ⟨by decide +kernel, rfl⟩ ?_
    refine z_icmp_ge (pc' := 37) (tgt := 50) (off := 16) ⟨by decide +kernel, rfl⟩ rfl (fun h1 => ?_) (fun h1 => ?_)
    · refine z_aload_n (pc' := 38) (k := 0) (i := 0) 0 rfl rfl ⟨by decide +kernel, rfl⟩ ?_
      refine z_getR (pc' := 41) (rff_varSort ca D) rfl (y := a 28) rfl ⟨by decide +kernel, rfl⟩ ?_
      refine z_iload_n (pc' := 42) (k := 2) (i := 2) 2 rfl rfl ⟨by decide +kernel, rfl⟩ ?_
      refine z_iconst (pc' := 43) (n := 0) (v := 0) (by decide) ⟨by decide +kernel, rfl⟩ ?_
      refine z_iast (pc' := 44) 28 rfl (zlt rfl) rfl rfl ⟨by decide +kernel, rfl⟩ (z_letU fun u2 => ?_)
      refine z_iincN (pc' := 47) (i := 2) (n := 1) (c := 1) 2 rfl (by decide) (by decide) rfl ⟨by decide +kernel, rfl⟩ fun v3 => ?_
      refine z_goto (tgt := 31) (off := -16) (by decide +kernel) rfl ?_
      refine z_lv [1, 2, 0] (lv' := [(0, .ref (a 0)), (1, .int x1), (2, .int v3)]) rfl ?_
      exact ih u2 x1 v3
    · refine z_aload_n (pc' := 51) (k := 0) (i := 0) 0 rfl rfl ⟨by decide +kernel, rfl⟩ ?_
      refine z_getI (pc' := 54) (rff_mainAt ca D) rfl ⟨by decide +kernel, rfl⟩ ?_
      refine z_letI fun v4 => ?_
      refine z_istore_n (pc' := 55) (k := 2) (i := 2) rfl (by decide) rfl ⟨by decide +kernel, rfl⟩ ?_
      refine z_iconst (pc' := 56) (n := (-1)) (v := (-1)) (by decide) ⟨by decide +kernel, rfl⟩ ?_
      refine z_istore_n (pc' := 57) (k := 3) (i := 3) rfl (by decide) rfl ⟨by decide +kernel, rfl⟩ ?_
      refine z_lv [2, 3, 1, 0] (lv' := [(0, .ref (a 0)), (1, .int x1), (2, .int v4), (3, .int (-1))]) rfl ?_
      exact rf_run_L57_t n n u x1 v4 (-1)
set_option maxRecDepth 20000 in
set_option maxHeartbeats 4000000 in
theorem rft_run {l : Launch} {ca : Nat → ClassId} {D : va_G} {a g : Nat → Nat} (n : Nat) (u : zMu) (x1 : Int32) : zMet l (zRf ca D) rfY_run (.code rfY_run prog_13_method_44_code 5 (some .int)) zri true 5 a g [.ref (a 0), .int x1] u (rf_run n u x1) := by
  refine zMet.of rfl (Nat.le_of_ble_eq_true rfl) fun κ A hl => ?_
  subst hl
  unfold rf_run
  refine z_iload_n (pc' := 1) (k := 1) (i := 1) 1 rfl rfl ⟨by decide +kernel, rfl⟩ ?_
  refine z_iconst (pc' := 2) (n := 1) (v := 1) (by decide) ⟨by decide +kernel, rfl⟩ ?_
  refine z_icmp_lt (pc' := 5) (tgt := 12) (off := 10) ⟨by decide +kernel, rfl⟩ rfl (fun h1 => ?_) (fun h1 => ?_)
  · refine z_bipush (pc' := 14) (n := (-2)) (v := (-2)) (by decide) ⟨by decide +kernel, rfl⟩ ?_
    exact z_iret (pc' := 15) ⟨by decide +kernel, rfl⟩
  · refine z_iload_n (pc' := 6) (k := 1) (i := 1) 1 rfl rfl ⟨by decide +kernel, rfl⟩ ?_
    refine z_sipush (pc' := 9) (n := 20000) (v := 20000) (by decide) ⟨by decide +kernel, rfl⟩ ?_
    refine z_icmp_le (pc' := 12) (tgt := 15) (off := 6) ⟨by decide +kernel, rfl⟩ rfl (fun h2 => ?_) (fun h2 => ?_)
    · refine z_bipush (pc' := 14) (n := (-2)) (v := (-2)) (by decide) ⟨by decide +kernel, rfl⟩ ?_
      exact z_iret (pc' := 15) ⟨by decide +kernel, rfl⟩
    · refine z_aload_n (pc' := 16) (k := 0) (i := 0) 0 rfl rfl ⟨by decide +kernel, rfl⟩ ?_
      refine z_getI (pc' := 19) (rff_hasText ca D) rfl ⟨by decide +kernel, rfl⟩ ?_
      refine z_if_ne (pc' := 22) (tgt := 25) (off := 6) ⟨by decide +kernel, rfl⟩ rfl (fun h3 => ?_) (fun h3 => ?_)
      · refine z_bipush (pc' := 24) (n := (-3)) (v := (-3)) (by decide) ⟨by decide +kernel, rfl⟩ ?_
        exact z_iret (pc' := 25) ⟨by decide +kernel, rfl⟩
      · refine z_aload_n (pc' := 26) (k := 0) (i := 0) 0 rfl rfl ⟨by decide +kernel, rfl⟩ ?_
        refine z_callVf (pc' := 29) 0 (rft_anew n u) (rfG_anew ca D) (rfO ca D) rfl (by omega) rfl rfl (Nat.le_of_ble_eq_true rfl) ⟨by decide +kernel, rfl⟩ (fun _ u5 => ?_)
        refine z_iconst (pc' := 30) (n := 0) (v := 0) (by decide) ⟨by decide +kernel, rfl⟩ ?_
        refine z_istore_n (pc' := 31) (k := 2) (i := 2) rfl (by decide) rfl ⟨by decide +kernel, rfl⟩ ?_
        refine z_lv [1, 2, 0] (lv' := [(0, .ref (a 0)), (1, .int x1), (2, .int 0)]) rfl ?_
        exact rf_run_L31_t n n u5 x1 0
set_option maxRecDepth 20000 in
set_option maxHeartbeats 4000000 in
theorem rft_sortOf {l : Launch} {ca : Nat → ClassId} {D : va_G} {a g : Nat → Nat} (n : Nat) (u : zMu) (x0 : Int32) (x1 : Int64) : zMet l (zRf ca D) rfY_sortOf (.code rfY_sortOf prog_13_method_69_code 3 (some .int)) zri true 1 a g [.int x0, .long x1] u (rf_sortOf n u x0 x1) := by
  refine zMet.of rfl (Nat.le_of_ble_eq_true rfl) fun κ A hl => ?_
  subst hl
  unfold rf_sortOf
  refine z_iload_n (pc' := 1) (k := 0) (i := 0) 0 rfl rfl ⟨by decide +kernel, rfl⟩ ?_
  refine z_if_ne (pc' := 4) (tgt := 8) (off := 7) ⟨by decide +kernel, rfl⟩ rfl (fun h1 => ?_) (fun h1 => ?_)
  · refine z_iconst (pc' := 5) (n := 0) (v := 0) (by decide) ⟨by decide +kernel, rfl⟩ ?_
    refine z_goto (tgt := 31) (off := 26) (by decide +kernel) rfl ?_
    exact z_iret (pc' := 32) ⟨by decide +kernel, rfl⟩
  · refine z_iload_n (pc' := 9) (k := 0) (i := 0) 0 rfl rfl ⟨by decide +kernel, rfl⟩ ?_
    refine z_iconst (pc' := 10) (n := 1) (v := 1) (by decide) ⟨by decide +kernel, rfl⟩ ?_
    refine z_icmp_ne (pc' := 13) (tgt := 28) (off := 18) ⟨by decide +kernel, rfl⟩ rfl (fun h2 => ?_) (fun h2 => ?_)
    · refine z_lload_n (pc' := 14) (k := 1) (i := 1) 1 rfl rfl ⟨by decide +kernel, rfl⟩ ?_
      refine z_callSf (pc' := 17) (rft_isWhole n u x1) (rfG_isWhole ca D) (by omega) rfl rfl (Nat.le_of_ble_eq_true rfl) ⟨by decide +kernel, rfl⟩ (fun r3 u4 => ?_)
      refine z_if_eq (pc' := 20) (tgt := 24) (off := 7) ⟨by decide +kernel, rfl⟩ rfl (fun h5 => ?_) (fun h5 => ?_)
      · refine z_iconst (pc' := 25) (n := 2) (v := 2) (by decide) ⟨by decide +kernel, rfl⟩ ?_
        refine z_goto (tgt := 31) (off := 6) (by decide +kernel) rfl ?_
        exact z_iret (pc' := 32) ⟨by decide +kernel, rfl⟩
      · refine z_iconst (pc' := 21) (n := 1) (v := 1) (by decide) ⟨by decide +kernel, rfl⟩ ?_
        refine z_goto (tgt := 31) (off := 10) (by decide +kernel) rfl ?_
        exact z_iret (pc' := 32) ⟨by decide +kernel, rfl⟩
    · refine z_iload_n (pc' := 29) (k := 0) (i := 0) 0 rfl rfl ⟨by decide +kernel, rfl⟩ ?_
      refine z_iconst (pc' := 30) (n := 1) (v := 1) (by decide) ⟨by decide +kernel, rfl⟩ ?_
      refine z_iadd (pc' := 31) ⟨by decide +kernel, rfl⟩ ?_
      exact z_iret (pc' := 32) ⟨by decide +kernel, rfl⟩
set_option maxRecDepth 20000 in
set_option maxHeartbeats 4000000 in
theorem rft_told {l : Launch} {ca : Nat → ClassId} {D : va_G} {a g : Nat → Nat} (n : Nat) (u : zMu) (x1 : Int32) : zMet l (zRf ca D) rfY_told (.code rfY_told prog_13_method_70_code 2 (some .int)) zri true 0 a g [.ref (a 0), .int x1] u (rf_told n u x1) := by
  refine zMet.of rfl (Nat.le_of_ble_eq_true rfl) fun κ A hl => ?_
  subst hl
  unfold rf_told
  refine z_iload_n (pc' := 1) (k := 1) (i := 1) 1 rfl rfl ⟨by decide +kernel, rfl⟩ ?_
  refine z_ite (fun h1 => ?_) (fun h1 => ?_)
  · refine z_tabIn (dflt := 159) (lo := 0) (hi := 15) (offs := #[79, 84, 89, 94, 99, 104, 109, 114, 119, 124, 129, 134, 139, 144, 149, 154]) (len := 79) (off := 79) (tgt := 80) h1 (by decide +kernel) (by decide) (by decide) rfl rfl ?_
    refine z_aload_n (pc' := 81) (k := 0) (i := 0) 0 rfl rfl ⟨by decide +kernel, rfl⟩ ?_
    refine z_getI (pc' := 84) (rff_failure ca D) rfl ⟨by decide +kernel, rfl⟩ ?_
    exact z_iret (pc' := 85) ⟨by decide +kernel, rfl⟩
  refine z_ite (fun h2 => ?_) (fun h2 => ?_)
  · refine z_tabIn (dflt := 159) (lo := 0) (hi := 15) (offs := #[79, 84, 89, 94, 99, 104, 109, 114, 119, 124, 129, 134, 139, 144, 149, 154]) (len := 79) (off := 84) (tgt := 85) h2 (by decide +kernel) (by decide) (by decide) rfl rfl ?_
    refine z_aload_n (pc' := 86) (k := 0) (i := 0) 0 rfl rfl ⟨by decide +kernel, rfl⟩ ?_
    refine z_getI (pc' := 89) (rff_failedAt ca D) rfl ⟨by decide +kernel, rfl⟩ ?_
    exact z_iret (pc' := 90) ⟨by decide +kernel, rfl⟩
  refine z_ite (fun h3 => ?_) (fun h3 => ?_)
  · refine z_tabIn (dflt := 159) (lo := 0) (hi := 15) (offs := #[79, 84, 89, 94, 99, 104, 109, 114, 119, 124, 129, 134, 139, 144, 149, 154]) (len := 79) (off := 89) (tgt := 90) h3 (by decide +kernel) (by decide) (by decide) rfl rfl ?_
    refine z_aload_n (pc' := 91) (k := 0) (i := 0) 0 rfl rfl ⟨by decide +kernel, rfl⟩ ?_
    refine z_getI (pc' := 94) (rff_steps ca D) rfl ⟨by decide +kernel, rfl⟩ ?_
    exact z_iret (pc' := 95) ⟨by decide +kernel, rfl⟩
  refine z_ite (fun h4 => ?_) (fun h4 => ?_)
  · refine z_tabIn (dflt := 159) (lo := 0) (hi := 15) (offs := #[79, 84, 89, 94, 99, 104, 109, 114, 119, 124, 129, 134, 139, 144, 149, 154]) (len := 79) (off := 94) (tgt := 95) h4 (by decide +kernel) (by decide) (by decide) rfl rfl ?_
    refine z_aload_n (pc' := 96) (k := 0) (i := 0) 0 rfl rfl ⟨by decide +kernel, rfl⟩ ?_
    refine z_getI (pc' := 99) (rff_called ca D) rfl ⟨by decide +kernel, rfl⟩ ?_
    exact z_iret (pc' := 100) ⟨by decide +kernel, rfl⟩
  refine z_ite (fun h5 => ?_) (fun h5 => ?_)
  · refine z_tabIn (dflt := 159) (lo := 0) (hi := 15) (offs := #[79, 84, 89, 94, 99, 104, 109, 114, 119, 124, 129, 134, 139, 144, 149, 154]) (len := 79) (off := 99) (tgt := 100) h5 (by decide +kernel) (by decide) (by decide) rfl rfl ?_
    refine z_aload_n (pc' := 101) (k := 0) (i := 0) 0 rfl rfl ⟨by decide +kernel, rfl⟩ ?_
    refine z_getI (pc' := 104) (rff_objects ca D) rfl ⟨by decide +kernel, rfl⟩ ?_
    exact z_iret (pc' := 105) ⟨by decide +kernel, rfl⟩
  refine z_ite (fun h6 => ?_) (fun h6 => ?_)
  · refine z_tabIn (dflt := 159) (lo := 0) (hi := 15) (offs := #[79, 84, 89, 94, 99, 104, 109, 114, 119, 124, 129, 134, 139, 144, 149, 154]) (len := 79) (off := 104) (tgt := 105) h6 (by decide +kernel) (by decide) (by decide) rfl rfl ?_
    refine z_aload_n (pc' := 106) (k := 0) (i := 0) 0 rfl rfl ⟨by decide +kernel, rfl⟩ ?_
    refine z_getI (pc' := 109) (rff_shapes ca D) rfl ⟨by decide +kernel, rfl⟩ ?_
    exact z_iret (pc' := 110) ⟨by decide +kernel, rfl⟩
  refine z_ite (fun h7 => ?_) (fun h7 => ?_)
  · refine z_tabIn (dflt := 159) (lo := 0) (hi := 15) (offs := #[79, 84, 89, 94, 99, 104, 109, 114, 119, 124, 129, 134, 139, 144, 149, 154]) (len := 79) (off := 109) (tgt := 110) h7 (by decide +kernel) (by decide) (by decide) rfl rfl ?_
    refine z_aload_n (pc' := 111) (k := 0) (i := 0) 0 rfl rfl ⟨by decide +kernel, rfl⟩ ?_
    refine z_getI (pc' := 114) (rff_rows ca D) rfl ⟨by decide +kernel, rfl⟩ ?_
    exact z_iret (pc' := 115) ⟨by decide +kernel, rfl⟩
  refine z_ite (fun h8 => ?_) (fun h8 => ?_)
  · refine z_tabIn (dflt := 159) (lo := 0) (hi := 15) (offs := #[79, 84, 89, 94, 99, 104, 109, 114, 119, 124, 129, 134, 139, 144, 149, 154]) (len := 79) (off := 114) (tgt := 115) h8 (by decide +kernel) (by decide) (by decide) rfl rfl ?_
    refine z_aload_n (pc' := 116) (k := 0) (i := 0) 0 rfl rfl ⟨by decide +kernel, rfl⟩ ?_
    refine z_getI (pc' := 119) (rff_printedN ca D) rfl ⟨by decide +kernel, rfl⟩ ?_
    exact z_iret (pc' := 120) ⟨by decide +kernel, rfl⟩
  refine z_ite (fun h9 => ?_) (fun h9 => ?_)
  · refine z_tabIn (dflt := 159) (lo := 0) (hi := 15) (offs := #[79, 84, 89, 94, 99, 104, 109, 114, 119, 124, 129, 134, 139, 144, 149, 154]) (len := 79) (off := 119) (tgt := 120) h9 (by decide +kernel) (by decide) (by decide) rfl rfl ?_
    refine z_aload_n (pc' := 121) (k := 0) (i := 0) 0 rfl rfl ⟨by decide +kernel, rfl⟩ ?_
    refine z_getI (pc' := 124) (rff_dictionaries ca D) rfl ⟨by decide +kernel, rfl⟩ ?_
    exact z_iret (pc' := 125) ⟨by decide +kernel, rfl⟩
  refine z_ite (fun h10 => ?_) (fun h10 => ?_)
  · refine z_tabIn (dflt := 159) (lo := 0) (hi := 15) (offs := #[79, 84, 89, 94, 99, 104, 109, 114, 119, 124, 129, 134, 139, 144, 149, 154]) (len := 79) (off := 124) (tgt := 125) h10 (by decide +kernel) (by decide) (by decide) rfl rfl ?_
    refine z_aload_n (pc' := 126) (k := 0) (i := 0) 0 rfl rfl ⟨by decide +kernel, rfl⟩ ?_
    refine z_getI (pc' := 129) (rff_hits ca D) rfl ⟨by decide +kernel, rfl⟩ ?_
    exact z_iret (pc' := 130) ⟨by decide +kernel, rfl⟩
  refine z_ite (fun h11 => ?_) (fun h11 => ?_)
  · refine z_tabIn (dflt := 159) (lo := 0) (hi := 15) (offs := #[79, 84, 89, 94, 99, 104, 109, 114, 119, 124, 129, 134, 139, 144, 149, 154]) (len := 79) (off := 129) (tgt := 130) h11 (by decide +kernel) (by decide) (by decide) rfl rfl ?_
    refine z_aload_n (pc' := 131) (k := 0) (i := 0) 0 rfl rfl ⟨by decide +kernel, rfl⟩ ?_
    refine z_getI (pc' := 134) (rff_misses ca D) rfl ⟨by decide +kernel, rfl⟩ ?_
    exact z_iret (pc' := 135) ⟨by decide +kernel, rfl⟩
  refine z_ite (fun h12 => ?_) (fun h12 => ?_)
  · refine z_tabIn (dflt := 159) (lo := 0) (hi := 15) (offs := #[79, 84, 89, 94, 99, 104, 109, 114, 119, 124, 129, 134, 139, 144, 149, 154]) (len := 79) (off := 134) (tgt := 135) h12 (by decide +kernel) (by decide) (by decide) rfl rfl ?_
    refine z_aload_n (pc' := 136) (k := 0) (i := 0) 0 rfl rfl ⟨by decide +kernel, rfl⟩ ?_
    refine z_getI (pc' := 139) (rff_broken ca D) rfl ⟨by decide +kernel, rfl⟩ ?_
    exact z_iret (pc' := 140) ⟨by decide +kernel, rfl⟩
  refine z_ite (fun h13 => ?_) (fun h13 => ?_)
  · refine z_tabIn (dflt := 159) (lo := 0) (hi := 15) (offs := #[79, 84, 89, 94, 99, 104, 109, 114, 119, 124, 129, 134, 139, 144, 149, 154]) (len := 79) (off := 139) (tgt := 140) h13 (by decide +kernel) (by decide) (by decide) rfl rfl ?_
    refine z_aload_n (pc' := 141) (k := 0) (i := 0) 0 rfl rfl ⟨by decide +kernel, rfl⟩ ?_
    refine z_getI (pc' := 144) (rff_madeN ca D) rfl ⟨by decide +kernel, rfl⟩ ?_
    exact z_iret (pc' := 145) ⟨by decide +kernel, rfl⟩
  refine z_ite (fun h14 => ?_) (fun h14 => ?_)
  · refine z_tabIn (dflt := 159) (lo := 0) (hi := 15) (offs := #[79, 84, 89, 94, 99, 104, 109, 114, 119, 124, 129, 134, 139, 144, 149, 154]) (len := 79) (off := 144) (tgt := 145) h14 (by decide +kernel) (by decide) (by decide) rfl rfl ?_
    refine z_aload_n (pc' := 146) (k := 0) (i := 0) 0 rfl rfl ⟨by decide +kernel, rfl⟩ ?_
    refine z_getI (pc' := 149) (rff_leftN ca D) rfl ⟨by decide +kernel, rfl⟩ ?_
    exact z_iret (pc' := 150) ⟨by decide +kernel, rfl⟩
  refine z_ite (fun h15 => ?_) (fun h15 => ?_)
  · refine z_tabIn (dflt := 159) (lo := 0) (hi := 15) (offs := #[79, 84, 89, 94, 99, 104, 109, 114, 119, 124, 129, 134, 139, 144, 149, 154]) (len := 79) (off := 149) (tgt := 150) h15 (by decide +kernel) (by decide) (by decide) rfl rfl ?_
    refine z_aload_n (pc' := 151) (k := 0) (i := 0) 0 rfl rfl ⟨by decide +kernel, rfl⟩ ?_
    refine z_getI (pc' := 154) (rff_widened ca D) rfl ⟨by decide +kernel, rfl⟩ ?_
    exact z_iret (pc' := 155) ⟨by decide +kernel, rfl⟩
  refine z_ite (fun h16 => ?_) (fun h16 => ?_)
  · refine z_tabIn (dflt := 159) (lo := 0) (hi := 15) (offs := #[79, 84, 89, 94, 99, 104, 109, 114, 119, 124, 129, 134, 139, 144, 149, 154]) (len := 79) (off := 154) (tgt := 155) h16 (by decide +kernel) (by decide) (by decide) rfl rfl ?_
    refine z_aload_n (pc' := 156) (k := 0) (i := 0) 0 rfl rfl ⟨by decide +kernel, rfl⟩ ?_
    refine z_getI (pc' := 159) (rff_deepest ca D) rfl ⟨by decide +kernel, rfl⟩ ?_
    exact z_iret (pc' := 160) ⟨by decide +kernel, rfl⟩
  refine z_tabOut (dflt := 159) (lo := 0) (hi := 15) (offs := #[79, 84, 89, 94, 99, 104, 109, 114, 119, 124, 129, 134, 139, 144, 149, 154]) (len := 79) (tgt := 160) (by decide +kernel) (by have h1' := lv_neT h1 (a := 0) (by decide); have h2' := lv_neT h2 (a := 1) (by decide); have h3' := lv_neT h3 (a := 2) (by decide); have h4' := lv_neT h4 (a := 3) (by decide); have h5' := lv_neT h5 (a := 4) (by decide); have h6' := lv_neT h6 (a := 5) (by decide); have h7' := lv_neT h7 (a := 6) (by decide); have h8' := lv_neT h8 (a := 7) (by decide); have h9' := lv_neT h9 (a := 8) (by decide); have h10' := lv_neT h10 (a := 9) (by decide); have h11' := lv_neT h11 (a := 10) (by decide); have h12' := lv_neT h12 (a := 11) (by decide); have h13' := lv_neT h13 (a := 12) (by decide); have h14' := lv_neT h14 (a := 13) (by decide); have h15' := lv_neT h15 (a := 14) (by decide); have h16' := lv_neT h16 (a := 15) (by decide); omega) rfl ?_
  refine z_bipush (pc' := 162) (n := (-2)) (v := (-2)) (by decide) ⟨by decide +kernel, rfl⟩ ?_
  exact z_iret (pc' := 163) ⟨by decide +kernel, rfl⟩
