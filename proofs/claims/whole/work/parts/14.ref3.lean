/-! the reference's methods meet their models (printed by wip/gen/ref.py) -/
set_option maxRecDepth 20000 in
set_option maxHeartbeats 4000000 in
theorem rf_S_block_t {l : Launch} {ca : Nat → ClassId} {D : va_G} {a g : Nat → Nat} (n k : Nat) : ∀ j : Nat, (∀ (u : zMu), zMet l (zRf ca D) rfY_block (.code rfY_block prog_13_method_31_code 1 none) zrv true ((1 * k + 6) + j) a g [.ref (a 0)] u ((rf_S_block n k j).1 u)) ∧ (∀ (u : zMu), zMet l (zRf ca D) rfY_step (.code rfY_step prog_13_method_32_code 6 none) zrv true ((1 * k + 6) + j) a g [.ref (a 0)] u ((rf_S_block n k j).2 u))
  | 0 => ⟨(fun _ _ _ h => by cases h), (fun _ _ _ h => by cases h)⟩
  | j + 1 => by
    have ih := rf_S_block_t (l := l) (ca := ca) (D := D) (a := a) (g := g) n k j
    refine ⟨?_, ?_⟩
    · intro u 
      exact rft_block_b n k _ ih.2 (by omega) u 
    · intro u 
      exact rft_step_b n k _ ih.1 (by omega) u 
set_option maxRecDepth 20000 in
set_option maxHeartbeats 4000000 in
theorem rft_block {l : Launch} {ca : Nat → ClassId} {D : va_G} {a g : Nat → Nat} (n k : Nat) (u : zMu) : zMet l (zRf ca D) rfY_block (.code rfY_block prog_13_method_31_code 1 none) zrv true (2 * k + 6) a g [.ref (a 0)] u (rf_block n k u) := by
  have h := (rf_S_block_t (l := l) (ca := ca) (D := D) (a := a) (g := g) n k k).1 u
  have e : (1 * k + 6) + k = (2 * k + 6) := by omega
  rw [e] at h
  exact h
set_option maxRecDepth 20000 in
set_option maxHeartbeats 4000000 in
theorem rft_step {l : Launch} {ca : Nat → ClassId} {D : va_G} {a g : Nat → Nat} (n k : Nat) (u : zMu) : zMet l (zRf ca D) rfY_step (.code rfY_step prog_13_method_32_code 6 none) zrv true (2 * k + 6) a g [.ref (a 0)] u (rf_step n k u) := by
  have h := (rf_S_block_t (l := l) (ca := ca) (D := D) (a := a) (g := g) n k k).2 u
  have e : (1 * k + 6) + k = (2 * k + 6) := by omega
  rw [e] at h
  exact h
set_option maxRecDepth 20000 in
set_option maxHeartbeats 4000000 in
theorem rf_function_J268_t {κ : zKx} {ca : Nat → ClassId} {D : va_G} {A : Nat → Prop} {c0 : Nat × Nat} {a g0 g : Nat → Nat} (n k : Nat) (u : zMu) (x1 : Int32) (x2 : Int32) : zJ κ (zRf ca D) prog_13_method_35_code 4 rf_C none zrv true (2 * k + 7) A c0 a g0 g u 268 [(0, .ref (a 0)), (1, .int x1), (2, .int x2)] [] (rf_function_J268 n k u x1 x2) := by
  unfold rf_function_J268
  refine z_aload_n (pc' := 269) (k := 0) (i := 0) 0 rfl rfl ⟨by decide +kernel, rfl⟩ ?_
  refine z_bipush (pc' := 271) (n := 41) (v := 41) (by decide) ⟨by decide +kernel, rfl⟩ ?_
  refine z_callVf (pc' := 274) 0 (rft_closes n u 41) (rfG_closes ca D) (rfO ca D) rfl (by omega) rfl rfl (Nat.le_of_ble_eq_true rfl) ⟨by decide +kernel, rfl⟩ (fun _ u2 => ?_)
  refine z_aload_n (pc' := 275) (k := 0) (i := 0) 0 rfl rfl ⟨by decide +kernel, rfl⟩ ?_
  refine z_getR (pc' := 278) (rff_fnNames ca D) rfl (y := a 16) rfl ⟨by decide +kernel, rfl⟩ ?_
  refine z_iload_n (pc' := 279) (k := 1) (i := 1) 1 rfl rfl ⟨by decide +kernel, rfl⟩ ?_
  refine z_iload_n (pc' := 280) (k := 2) (i := 2) 2 rfl rfl ⟨by decide +kernel, rfl⟩ ?_
  refine z_iast (pc' := 281) 16 rfl (zlt rfl) rfl rfl ⟨by decide +kernel, rfl⟩ (z_letU fun u3 => ?_)
  refine z_aload_n (pc' := 282) (k := 0) (i := 0) 0 rfl rfl ⟨by decide +kernel, rfl⟩ ?_
  refine z_getR (pc' := 285) (rff_fnAt ca D) rfl (y := a 15) rfl ⟨by decide +kernel, rfl⟩ ?_
  refine z_iload_n (pc' := 286) (k := 1) (i := 1) 1 rfl rfl ⟨by decide +kernel, rfl⟩ ?_
  refine z_aload_n (pc' := 287) (k := 0) (i := 0) 0 rfl rfl ⟨by decide +kernel, rfl⟩ ?_
  refine z_getI (pc' := 290) (rff_codes ca D) rfl ⟨by decide +kernel, rfl⟩ ?_
  refine z_iast (pc' := 291) 15 rfl (zlt rfl) rfl rfl ⟨by decide +kernel, rfl⟩ (z_letU fun u4 => ?_)
  refine z_aload_n (pc' := 292) (k := 0) (i := 0) 0 rfl rfl ⟨by decide +kernel, rfl⟩ ?_
  refine z_dup (pc' := 293) rfl ⟨by decide +kernel, rfl⟩ ?_
  refine z_getI (pc' := 296) (rff_fns ca D) rfl ⟨by decide +kernel, rfl⟩ ?_
  refine z_iconst (pc' := 297) (n := 1) (v := 1) (by decide) ⟨by decide +kernel, rfl⟩ ?_
  refine z_iadd (pc' := 298) ⟨by decide +kernel, rfl⟩ ?_
  refine z_putI (pc' := 301) (rff_fns ca D) rfl ⟨by decide +kernel, rfl⟩ (z_letU fun u5 => ?_)
  refine z_aload_n (pc' := 302) (k := 0) (i := 0) 0 rfl rfl ⟨by decide +kernel, rfl⟩ ?_
  refine z_callVf (pc' := 305) 0 (rft_block n k u5) (rfG_block ca D) (rfO ca D) rfl (by omega) rfl rfl (Nat.le_of_ble_eq_true rfl) ⟨by decide +kernel, rfl⟩ (fun _ u7 => ?_)
  refine z_aload_n (pc' := 306) (k := 0) (i := 0) 0 rfl rfl ⟨by decide +kernel, rfl⟩ ?_
  refine z_bipush (pc' := 308) (n := 23) (v := 23) (by decide) ⟨by decide +kernel, rfl⟩ ?_
  refine z_iconst (pc' := 309) (n := 0) (v := 0) (by decide) ⟨by decide +kernel, rfl⟩ ?_
  refine z_iconst (pc' := 310) (n := 0) (v := 0) (by decide) ⟨by decide +kernel, rfl⟩ ?_
  refine z_iconst (pc' := 311) (n := 0) (v := 0) (by decide) ⟨by decide +kernel, rfl⟩ ?_
  refine z_callVf (pc' := 314) 0 (rft_emit n u7 23 0 0 0) (rfG_emit ca D) (rfO ca D) rfl (by omega) rfl rfl (Nat.le_of_ble_eq_true rfl) ⟨by decide +kernel, rfl⟩ (fun _ u9 => ?_)
  exact z_vret (pc' := 315) ⟨by decide +kernel, rfl⟩
set_option maxRecDepth 20000 in
set_option maxHeartbeats 4000000 in
theorem rf_function_J250_t {κ : zKx} {ca : Nat → ClassId} {D : va_G} {A : Nat → Prop} {c0 : Nat × Nat} {a g0 g : Nat → Nat} (n k : Nat) (k145 : zMu → Int32 → Int32 → Int32 → Option (Unit × zMu)) (hk145 : ∀ (u : zMu) (x1 : Int32) (x2 : Int32) (x3 : Int32), zJ κ (zRf ca D) prog_13_method_35_code 4 rf_C none zrv true (2 * k + 7) A c0 a g0 g u 145 [(0, .ref (a 0)), (1, .int x1), (2, .int x2), (3, .int x3)] [] (k145 u x1 x2 x3)) (u : zMu) (x1 : Int32) (x2 : Int32) (s0 : Int32) : zJ κ (zRf ca D) prog_13_method_35_code 4 rf_C none zrv true (2 * k + 7) A c0 a g0 g u 250 [(0, .ref (a 0)), (1, .int x1), (2, .int x2)] [.int s0] (rf_function_J250 n k k145 u x1 x2 s0) := by
  unfold rf_function_J250
  refine z_istore_n (pc' := 251) (k := 3) (i := 3) rfl (by decide) rfl ⟨by decide +kernel, rfl⟩ ?_
  refine z_iload_n (pc' := 252) (k := 3) (i := 3) 0 rfl rfl ⟨by decide +kernel, rfl⟩ ?_
  refine z_if_eq (pc' := 255) (tgt := 145) (off := -107) ⟨by decide +kernel, rfl⟩ rfl (fun h1 => ?_) (fun h1 => ?_)
  · refine z_lv [1, 2, 3, 0] (lv' := [(0, .ref (a 0)), (1, .int x1), (2, .int x2), (3, .int s0)]) rfl ?_
    exact hk145 u x1 x2 s0
  · refine z_aload_n (pc' := 256) (k := 0) (i := 0) 1 rfl rfl ⟨by decide +kernel, rfl⟩ ?_
    refine z_dup (pc' := 257) rfl ⟨by decide +kernel, rfl⟩ ?_
    refine z_getI (pc' := 260) (rff_at ca D) rfl ⟨by decide +kernel, rfl⟩ ?_
    refine z_iconst (pc' := 261) (n := 1) (v := 1) (by decide) ⟨by decide +kernel, rfl⟩ ?_
    refine z_iadd (pc' := 262) ⟨by decide +kernel, rfl⟩ ?_
    refine z_putI (pc' := 265) (rff_at ca D) rfl ⟨by decide +kernel, rfl⟩ (z_letU fun u2 => ?_)
    refine z_goto (tgt := 145) (off := -120) (by decide +kernel) rfl ?_
    refine z_lv [1, 2, 3, 0] (lv' := [(0, .ref (a 0)), (1, .int x1), (2, .int x2), (3, .int s0)]) rfl ?_
    exact hk145 u2 x1 x2 s0
set_option maxRecDepth 20000 in
set_option maxHeartbeats 4000000 in
theorem rf_function_J193_t {κ : zKx} {ca : Nat → ClassId} {D : va_G} {A : Nat → Prop} {c0 : Nat × Nat} {a g0 g : Nat → Nat} (n k : Nat) (k145 : zMu → Int32 → Int32 → Int32 → Option (Unit × zMu)) (hk145 : ∀ (u : zMu) (x1 : Int32) (x2 : Int32) (x3 : Int32), zJ κ (zRf ca D) prog_13_method_35_code 4 rf_C none zrv true (2 * k + 7) A c0 a g0 g u 145 [(0, .ref (a 0)), (1, .int x1), (2, .int x2), (3, .int x3)] [] (k145 u x1 x2 x3)) (u : zMu) (x1 : Int32) (x2 : Int32) : zJ κ (zRf ca D) prog_13_method_35_code 4 rf_C none zrv true (2 * k + 7) A c0 a g0 g u 193 [(0, .ref (a 0)), (1, .int x1), (2, .int x2)] [] (rf_function_J193 n k k145 u x1 x2) := by
  unfold rf_function_J193
  refine z_aload_n (pc' := 194) (k := 0) (i := 0) 0 rfl rfl ⟨by decide +kernel, rfl⟩ ?_
  refine z_getR (pc' := 197) (rff_varName ca D) rfl (y := a 18) rfl ⟨by decide +kernel, rfl⟩ ?_
  refine z_bipush (pc' := 199) (n := 13) (v := 13) (by decide) ⟨by decide +kernel, rfl⟩ ?_
  refine z_iload_n (pc' := 200) (k := 1) (i := 1) 1 rfl rfl ⟨by decide +kernel, rfl⟩ ?_
  refine z_imul (pc' := 201) ⟨by decide +kernel, rfl⟩ ?_
  refine z_aload_n (pc' := 202) (k := 0) (i := 0) 0 rfl rfl ⟨by decide +kernel, rfl⟩ ?_
  refine z_getR (pc' := 205) (rff_varN ca D) rfl (y := a 17) rfl ⟨by decide +kernel, rfl⟩ ?_
  refine z_iload_n (pc' := 206) (k := 1) (i := 1) 1 rfl rfl ⟨by decide +kernel, rfl⟩ ?_
  refine z_dup2_11 (pc' := 207) rfl rfl ⟨by decide +kernel, rfl⟩ ?_
  refine z_iald (pc' := 208) 17 rfl (zlt rfl) rfl rfl ⟨by decide +kernel, rfl⟩ ?_
  refine z_letI fun v1 => ?_
  refine z_dup_x2 (pc' := 209) rfl rfl rfl ⟨by decide +kernel, rfl⟩ ?_
  refine z_iconst (pc' := 210) (n := 1) (v := 1) (by decide) ⟨by decide +kernel, rfl⟩ ?_
  refine z_iadd (pc' := 211) ⟨by decide +kernel, rfl⟩ ?_
  refine z_iast (pc' := 212) 17 rfl (zlt rfl) rfl rfl ⟨by decide +kernel, rfl⟩ (z_letU fun u2 => ?_)
  refine z_iadd (pc' := 213) ⟨by decide +kernel, rfl⟩ ?_
  refine z_aload_n (pc' := 214) (k := 0) (i := 0) 0 rfl rfl ⟨by decide +kernel, rfl⟩ ?_
  refine z_getR (pc' := 217) (rff_tWorth ca D) rfl (y := a 6) rfl ⟨by decide +kernel, rfl⟩ ?_
  refine z_aload_n (pc' := 218) (k := 0) (i := 0) 0 rfl rfl ⟨by decide +kernel, rfl⟩ ?_
  refine z_getI (pc' := 221) (rff_at ca D) rfl ⟨by decide +kernel, rfl⟩ ?_
  refine z_iald (pc' := 222) 6 rfl (zlt rfl) rfl rfl ⟨by decide +kernel, rfl⟩ ?_
  refine z_iast (pc' := 223) 18 rfl (zlt rfl) rfl rfl ⟨by decide +kernel, rfl⟩ (z_letU fun u3 => ?_)
  refine z_iincN (pc' := 226) (i := 2) (n := 1) (c := 1) 2 rfl (by decide) (by decide) rfl ⟨by decide +kernel, rfl⟩ fun v4 => ?_
  refine z_aload_n (pc' := 227) (k := 0) (i := 0) 1 rfl rfl ⟨by decide +kernel, rfl⟩ ?_
  refine z_dup (pc' := 228) rfl ⟨by decide +kernel, rfl⟩ ?_
  refine z_getI (pc' := 231) (rff_at ca D) rfl ⟨by decide +kernel, rfl⟩ ?_
  refine z_iconst (pc' := 232) (n := 1) (v := 1) (by decide) ⟨by decide +kernel, rfl⟩ ?_
  refine z_iadd (pc' := 233) ⟨by decide +kernel, rfl⟩ ?_
  refine z_putI (pc' := 236) (rff_at ca D) rfl ⟨by decide +kernel, rfl⟩ (z_letU fun u5 => ?_)
  refine z_aload_n (pc' := 237) (k := 0) (i := 0) 1 rfl rfl ⟨by decide +kernel, rfl⟩ ?_
  refine z_callVf (pc' := 240) 0 (rft_now n u5) (rfG_now ca D) (rfO ca D) rfl (by omega) rfl rfl (Nat.le_of_ble_eq_true rfl) ⟨by decide +kernel, rfl⟩ (fun r6 u7 => ?_)
  refine z_bipush (pc' := 242) (n := 44) (v := 44) (by decide) ⟨by decide +kernel, rfl⟩ ?_
  refine z_icmp_ne (pc' := 245) (tgt := 249) (off := 7) ⟨by decide +kernel, rfl⟩ rfl (fun h8 => ?_) (fun h8 => ?_)
  · refine z_iconst (pc' := 246) (n := 1) (v := 1) (by decide) ⟨by decide +kernel, rfl⟩ ?_
    refine z_goto (tgt := 250) (off := 4) (by decide +kernel) rfl ?_
    refine z_lv [1, 2, 0] (lv' := [(0, .ref (a 0)), (1, .int x1), (2, .int v4)]) rfl ?_
    exact rf_function_J250_t n k (k145) (hk145) u7 x1 v4 1
  · refine z_iconst (pc' := 250) (n := 0) (v := 0) (by decide) ⟨by decide +kernel, rfl⟩ ?_
    refine z_lv [1, 2, 0] (lv' := [(0, .ref (a 0)), (1, .int x1), (2, .int v4)]) rfl ?_
    exact rf_function_J250_t n k (k145) (hk145) u7 x1 v4 0
set_option maxRecDepth 20000 in
set_option maxHeartbeats 4000000 in
theorem rf_function_L145_t {κ : zKx} {ca : Nat → ClassId} {D : va_G} {A : Nat → Prop} {c0 : Nat × Nat} {a g0 g : Nat → Nat} (n k : Nat) : ∀ (m : Nat) (u : zMu) (x1 : Int32) (x2 : Int32) (x3 : Int32), zJ κ (zRf ca D) prog_13_method_35_code 4 rf_C none zrv true (2 * k + 7) A c0 a g0 g u 145 [(0, .ref (a 0)), (1, .int x1), (2, .int x2), (3, .int x3)] [] (rf_function_L145 n k m u x1 x2 x3) := by
  intro m
  induction m with
  | zero => intro u x1 x2 x3 r u' h; cases h
  | succ m ih =>
    intro u x1 x2 x3
    unfold rf_function_L145
    refine z_iload_n (pc' := 146) (k := 3) (i := 3) 3 rfl rfl ⟨by decide +kernel, rfl⟩ ?_
    refine z_if_eq (pc' := 149) (tgt := 268) (off := 122) ⟨by decide +kernel, rfl⟩ rfl (fun h1 => ?_) (fun h1 => ?_)
    · refine z_lv [0, 1, 2] (lv' := [(0, .ref (a 0)), (1, .int x1), (2, .int x2)]) rfl ?_
      exact rf_function_J268_t n k u x1 x2
    · refine z_aload_n (pc' := 150) (k := 0) (i := 0) 0 rfl rfl ⟨by decide +kernel, rfl⟩ ?_
      refine z_callVf (pc' := 153) 0 (rft_now n u) (rfG_now ca D) (rfO ca D) rfl (by omega) rfl rfl (Nat.le_of_ble_eq_true rfl) ⟨by decide +kernel, rfl⟩ (fun r2 u3 => ?_)
      refine z_iconst (pc' := 154) (n := 1) (v := 1) (by decide) ⟨by decide +kernel, rfl⟩ ?_
      refine z_icmp_ne (pc' := 157) (tgt := 162) (off := 8) ⟨by decide +kernel, rfl⟩ rfl (fun h4 => ?_) (fun h4 => ?_)
      · refine z_iload_n (pc' := 158) (k := 2) (i := 2) 2 rfl rfl ⟨by decide +kernel, rfl⟩ ?_
        refine z_iconst (pc' := 159) (n := 4) (v := 4) (by decide) ⟨by decide +kernel, rfl⟩ ?_
        refine z_icmp_ne (pc' := 162) (tgt := 167) (off := 8) ⟨by decide +kernel, rfl⟩ rfl (fun h5 => ?_) (fun h5 => ?_)
        · refine z_aload_n (pc' := 163) (k := 0) (i := 0) 0 rfl rfl ⟨by decide +kernel, rfl⟩ ?_
          refine z_callVf (pc' := 166) 0 (rft_faulty n u3) (rfG_faulty ca D) (rfO ca D) rfl (by omega) rfl rfl (Nat.le_of_ble_eq_true rfl) ⟨by decide +kernel, rfl⟩ (fun _ u7 => ?_)
          exact z_vret (pc' := 167) ⟨by decide +kernel, rfl⟩
        · refine z_aload_n (pc' := 168) (k := 0) (i := 0) 0 rfl rfl ⟨by decide +kernel, rfl⟩ ?_
          refine z_aload_n (pc' := 169) (k := 0) (i := 0) 0 rfl rfl ⟨by decide +kernel, rfl⟩ ?_
          refine z_getR (pc' := 172) (rff_tWorth ca D) rfl (y := a 6) rfl ⟨by decide +kernel, rfl⟩ ?_
          refine z_aload_n (pc' := 173) (k := 0) (i := 0) 0 rfl rfl ⟨by decide +kernel, rfl⟩ ?_
          refine z_getI (pc' := 176) (rff_at ca D) rfl ⟨by decide +kernel, rfl⟩ ?_
          refine z_iald (pc' := 177) 6 rfl (zlt rfl) rfl rfl ⟨by decide +kernel, rfl⟩ ?_
          refine z_callVf (pc' := 180) 0 (rft_findVar n u3 (zI u3 6 (zx (zI u3 0 10)))) (rfG_findVar ca D) (rfO ca D) rfl (by omega) rfl rfl (Nat.le_of_ble_eq_true rfl) ⟨by decide +kernel, rfl⟩ (fun r8 u9 => ?_)
          refine z_iconst (pc' := 181) (n := (-1)) (v := (-1)) (by decide) ⟨by decide +kernel, rfl⟩ ?_
          refine z_icmp_eq (pc' := 184) (tgt := 193) (off := 12) ⟨by decide +kernel, rfl⟩ rfl (fun h10 => ?_) (fun h10 => ?_)
          · refine z_lv [0, 1, 2] (lv' := [(0, .ref (a 0)), (1, .int x1), (2, .int x2)]) rfl ?_
            exact rf_function_J193_t n k (rf_function_L145 n k m) (ih) u9 x1 x2
          · refine z_aload_n (pc' := 185) (k := 0) (i := 0) 0 rfl rfl ⟨by decide +kernel, rfl⟩ ?_
            refine z_aload_n (pc' := 186) (k := 0) (i := 0) 0 rfl rfl ⟨by decide +kernel, rfl⟩ ?_
            refine z_callVf (pc' := 189) 0 (rft_place n u9) (rfG_place ca D) (rfO ca D) rfl (by omega) rfl rfl (Nat.le_of_ble_eq_true rfl) ⟨by decide +kernel, rfl⟩ (fun r11 u12 => ?_)
            refine z_iconst (pc' := 190) (n := 3) (v := 3) (by decide) ⟨by decide +kernel, rfl⟩ ?_
            refine z_callVf (pc' := 193) 0 (rft_notes n u12 r11 3) (rfG_notes ca D) (rfO ca D) rfl (by omega) rfl rfl (Nat.le_of_ble_eq_true rfl) ⟨by decide +kernel, rfl⟩ (fun _ u14 => ?_)
            refine z_lv [0, 1, 2] (lv' := [(0, .ref (a 0)), (1, .int x1), (2, .int x2)]) rfl ?_
            exact rf_function_J193_t n k (rf_function_L145 n k m) (ih) u14 x1 x2
      · refine z_aload_n (pc' := 163) (k := 0) (i := 0) 0 rfl rfl ⟨by decide +kernel, rfl⟩ ?_
        refine z_callVf (pc' := 166) 0 (rft_faulty n u3) (rfG_faulty ca D) (rfO ca D) rfl (by omega) rfl rfl (Nat.le_of_ble_eq_true rfl) ⟨by decide +kernel, rfl⟩ (fun _ u16 => ?_)
        exact z_vret (pc' := 167) ⟨by decide +kernel, rfl⟩
set_option maxRecDepth 20000 in
set_option maxHeartbeats 4000000 in
theorem rf_function_L44_t {κ : zKx} {ca : Nat → ClassId} {D : va_G} {A : Nat → Prop} {c0 : Nat × Nat} {a g0 g : Nat → Nat} (n k : Nat) : ∀ (m : Nat) (u : zMu) (x1 : Int32) (x2 : Int32), zJ κ (zRf ca D) prog_13_method_35_code 4 rf_C none zrv true (2 * k + 7) A c0 a g0 g u 44 [(0, .ref (a 0)), (1, .int x1), (2, .int x2)] [] (rf_function_L44 n k m u x1 x2) := by
  intro m
  induction m with
  | zero => intro u x1 x2 r u' h; cases h
  | succ m ih =>
    intro u x1 x2
    unfold rf_function_L44
    refine z_iload_n (pc' := 45) (k := 2) (i := 2) 2 rfl rfl ⟨by decide +kernel, rfl⟩ ?_
    refine z_iload_n (pc' := 46) (k := 1) (i := 1) 1 rfl rfl ⟨by decide +kernel, rfl⟩ ?_
    refine z_icmp_ge (pc' := 49) (tgt := 82) (off := 36) ⟨by decide +kernel, rfl⟩ rfl (fun h1 => ?_) (fun h1 => ?_)
    · refine z_aload_n (pc' := 50) (k := 0) (i := 0) 0 rfl rfl ⟨by decide +kernel, rfl⟩ ?_
      refine z_getR (pc' := 53) (rff_fnName ca D) rfl (y := a 14) rfl ⟨by decide +kernel, rfl⟩ ?_
      refine z_iload_n (pc' := 54) (k := 2) (i := 2) 2 rfl rfl ⟨by decide +kernel, rfl⟩ ?_
      refine z_iald (pc' := 55) 14 rfl (zlt rfl) rfl rfl ⟨by decide +kernel, rfl⟩ ?_
      refine z_aload_n (pc' := 56) (k := 0) (i := 0) 0 rfl rfl ⟨by decide +kernel, rfl⟩ ?_
      refine z_getR (pc' := 59) (rff_tWorth ca D) rfl (y := a 6) rfl ⟨by decide +kernel, rfl⟩ ?_
      refine z_aload_n (pc' := 60) (k := 0) (i := 0) 0 rfl rfl ⟨by decide +kernel, rfl⟩ ?_
      refine z_getI (pc' := 63) (rff_at ca D) rfl ⟨by decide +kernel, rfl⟩ ?_
      refine z_iald (pc' := 64) 6 rfl (zlt rfl) rfl rfl ⟨by decide +kernel, rfl⟩ ?_
      refine z_icmp_ne (pc' := 67) (tgt := 76) (off := 12) ⟨by decide +kernel, rfl⟩ rfl (fun h2 => ?_) (fun h2 => ?_)
      · refine z_aload_n (pc' := 68) (k := 0) (i := 0) 0 rfl rfl ⟨by decide +kernel, rfl⟩ ?_
        refine z_aload_n (pc' := 69) (k := 0) (i := 0) 0 rfl rfl ⟨by decide +kernel, rfl⟩ ?_
        refine z_callVf (pc' := 72) 0 (rft_place n u) (rfG_place ca D) (rfO ca D) rfl (by omega) rfl rfl (Nat.le_of_ble_eq_true rfl) ⟨by decide +kernel, rfl⟩ (fun r3 u4 => ?_)
        refine z_iconst (pc' := 73) (n := 2) (v := 2) (by decide) ⟨by decide +kernel, rfl⟩ ?_
        refine z_callVf (pc' := 76) 0 (rft_notes n u4 r3 2) (rfG_notes ca D) (rfO ca D) rfl (by omega) rfl rfl (Nat.le_of_ble_eq_true rfl) ⟨by decide +kernel, rfl⟩ (fun _ u6 => ?_)
        refine z_iincN (pc' := 79) (i := 2) (n := 1) (c := 1) 2 rfl (by decide) (by decide) rfl ⟨by decide +kernel, rfl⟩ fun v7 => ?_
        refine z_goto (tgt := 44) (off := -35) (by decide +kernel) rfl ?_
        refine z_lv [1, 2, 0] (lv' := [(0, .ref (a 0)), (1, .int x1), (2, .int v7)]) rfl ?_
        exact ih u6 x1 v7
      · refine z_iincN (pc' := 79) (i := 2) (n := 1) (c := 1) 2 rfl (by decide) (by decide) rfl ⟨by decide +kernel, rfl⟩ fun v8 => ?_
        refine z_goto (tgt := 44) (off := -35) (by decide +kernel) rfl ?_
        refine z_lv [1, 2, 0] (lv' := [(0, .ref (a 0)), (1, .int x1), (2, .int v8)]) rfl ?_
        exact ih u x1 v8
    · refine z_aload_n (pc' := 83) (k := 0) (i := 0) 0 rfl rfl ⟨by decide +kernel, rfl⟩ ?_
      refine z_getR (pc' := 86) (rff_fnName ca D) rfl (y := a 14) rfl ⟨by decide +kernel, rfl⟩ ?_
      refine z_iload_n (pc' := 87) (k := 1) (i := 1) 1 rfl rfl ⟨by decide +kernel, rfl⟩ ?_
      refine z_aload_n (pc' := 88) (k := 0) (i := 0) 0 rfl rfl ⟨by decide +kernel, rfl⟩ ?_
      refine z_getR (pc' := 91) (rff_tWorth ca D) rfl (y := a 6) rfl ⟨by decide +kernel, rfl⟩ ?_
      refine z_aload_n (pc' := 92) (k := 0) (i := 0) 0 rfl rfl ⟨by decide +kernel, rfl⟩ ?_
      refine z_getI (pc' := 95) (rff_at ca D) rfl ⟨by decide +kernel, rfl⟩ ?_
      refine z_iald (pc' := 96) 6 rfl (zlt rfl) rfl rfl ⟨by decide +kernel, rfl⟩ ?_
      refine z_iast (pc' := 97) 14 rfl (zlt rfl) rfl rfl ⟨by decide +kernel, rfl⟩ (z_letU fun u9 => ?_)
      refine z_aload_n (pc' := 98) (k := 0) (i := 0) 0 rfl rfl ⟨by decide +kernel, rfl⟩ ?_
      refine z_dup (pc' := 99) rfl ⟨by decide +kernel, rfl⟩ ?_
      refine z_getI (pc' := 102) (rff_at ca D) rfl ⟨by decide +kernel, rfl⟩ ?_
      refine z_iconst (pc' := 103) (n := 1) (v := 1) (by decide) ⟨by decide +kernel, rfl⟩ ?_
      refine z_iadd (pc' := 104) ⟨by decide +kernel, rfl⟩ ?_
      refine z_putI (pc' := 107) (rff_at ca D) rfl ⟨by decide +kernel, rfl⟩ (z_letU fun u10 => ?_)
      refine z_aload_n (pc' := 108) (k := 0) (i := 0) 0 rfl rfl ⟨by decide +kernel, rfl⟩ ?_
      refine z_iload_n (pc' := 109) (k := 1) (i := 1) 1 rfl rfl ⟨by decide +kernel, rfl⟩ ?_
      refine z_putI (pc' := 112) (rff_routine ca D) rfl ⟨by decide +kernel, rfl⟩ (z_letU fun u11 => ?_)
      refine z_aload_n (pc' := 113) (k := 0) (i := 0) 0 rfl rfl ⟨by decide +kernel, rfl⟩ ?_
      refine z_getR (pc' := 116) (rff_varN ca D) rfl (y := a 17) rfl ⟨by decide +kernel, rfl⟩ ?_
      refine z_iload_n (pc' := 117) (k := 1) (i := 1) 1 rfl rfl ⟨by decide +kernel, rfl⟩ ?_
      refine z_iconst (pc' := 118) (n := 0) (v := 0) (by decide) ⟨by decide +kernel, rfl⟩ ?_
      refine z_iast (pc' := 119) 17 rfl (zlt rfl) rfl rfl ⟨by decide +kernel, rfl⟩ (z_letU fun u12 => ?_)
      refine z_iconst (pc' := 120) (n := 0) (v := 0) (by decide) ⟨by decide +kernel, rfl⟩ ?_
      refine z_istore_n (pc' := 121) (k := 2) (i := 2) rfl (by decide) rfl ⟨by decide +kernel, rfl⟩ ?_
      refine z_aload_n (pc' := 122) (k := 0) (i := 0) 1 rfl rfl ⟨by decide +kernel, rfl⟩ ?_
      refine z_bipush (pc' := 124) (n := 40) (v := 40) (by decide) ⟨by decide +kernel, rfl⟩ ?_
      refine z_callVf (pc' := 127) 0 (rft_opens n u12 40) (rfG_opens ca D) (rfO ca D) rfl (by omega) rfl rfl (Nat.le_of_ble_eq_true rfl) ⟨by decide +kernel, rfl⟩ (fun _ u14 => ?_)
      refine z_aload_n (pc' := 128) (k := 0) (i := 0) 1 rfl rfl ⟨by decide +kernel, rfl⟩ ?_
      refine z_callVf (pc' := 131) 0 (rft_isWrong n u14) (rfG_isWrong ca D) (rfO ca D) rfl (by omega) rfl rfl (Nat.le_of_ble_eq_true rfl) ⟨by decide +kernel, rfl⟩ (fun r15 u16 => ?_)
      refine z_if_ne (pc' := 134) (tgt := 268) (off := 137) ⟨by decide +kernel, rfl⟩ rfl (fun h17 => ?_) (fun h17 => ?_)
      · refine z_aload_n (pc' := 135) (k := 0) (i := 0) 1 rfl rfl ⟨by decide +kernel, rfl⟩ ?_
        refine z_callVf (pc' := 138) 0 (rft_now n u16) (rfG_now ca D) (rfO ca D) rfl (by omega) rfl rfl (Nat.le_of_ble_eq_true rfl) ⟨by decide +kernel, rfl⟩ (fun r18 u19 => ?_)
        refine z_bipush (pc' := 140) (n := 41) (v := 41) (by decide) ⟨by decide +kernel, rfl⟩ ?_
        refine z_icmp_eq (pc' := 143) (tgt := 268) (off := 128) ⟨by decide +kernel, rfl⟩ rfl (fun h20 => ?_) (fun h20 => ?_)
        · refine z_lv [1, 2, 0] (lv' := [(0, .ref (a 0)), (1, .int x1), (2, .int 0)]) rfl ?_
          exact rf_function_J268_t n k u19 x1 0
        · refine z_iconst (pc' := 144) (n := 1) (v := 1) (by decide) ⟨by decide +kernel, rfl⟩ ?_
          refine z_istore_n (pc' := 145) (k := 3) (i := 3) rfl (by decide) rfl ⟨by decide +kernel, rfl⟩ ?_
          refine z_lv [2, 3, 1, 0] (lv' := [(0, .ref (a 0)), (1, .int x1), (2, .int 0), (3, .int 1)]) rfl ?_
          exact rf_function_L145_t n k n u19 x1 0 1
      · refine z_lv [1, 2, 0] (lv' := [(0, .ref (a 0)), (1, .int x1), (2, .int 0)]) rfl ?_
        exact rf_function_J268_t n k u16 x1 0
set_option maxRecDepth 20000 in
set_option maxHeartbeats 4000000 in
theorem rft_function {l : Launch} {ca : Nat → ClassId} {D : va_G} {a g : Nat → Nat} (n k : Nat) (u : zMu) : zMet l (zRf ca D) rfY_function (.code rfY_function prog_13_method_35_code 4 none) zrv true (2 * k + 7) a g [.ref (a 0)] u (rf_function n k u) := by
  refine zMet.of rfl (Nat.le_of_ble_eq_true rfl) fun κ A hl => ?_
  subst hl
  unfold rf_function
  refine z_aload_n (pc' := 1) (k := 0) (i := 0) 0 rfl rfl ⟨by decide +kernel, rfl⟩ ?_
  refine z_getI (pc' := 4) (rff_fns ca D) rfl ⟨by decide +kernel, rfl⟩ ?_
  refine z_bipush (pc' := 6) (n := 8) (v := 8) (by decide) ⟨by decide +kernel, rfl⟩ ?_
  refine z_icmp_ne (pc' := 9) (tgt := 14) (off := 8) ⟨by decide +kernel, rfl⟩ rfl (fun h1 => ?_) (fun h1 => ?_)
  · refine z_aload_n (pc' := 10) (k := 0) (i := 0) 0 rfl rfl ⟨by decide +kernel, rfl⟩ ?_
    refine z_callVf (pc' := 13) 0 (rft_faulty n u) (rfG_faulty ca D) (rfO ca D) rfl (by omega) rfl rfl (Nat.le_of_ble_eq_true rfl) ⟨by decide +kernel, rfl⟩ (fun _ u3 => ?_)
    exact z_vret (pc' := 14) ⟨by decide +kernel, rfl⟩
  · refine z_aload_n (pc' := 15) (k := 0) (i := 0) 0 rfl rfl ⟨by decide +kernel, rfl⟩ ?_
    refine z_dup (pc' := 16) rfl ⟨by decide +kernel, rfl⟩ ?_
    refine z_getI (pc' := 19) (rff_at ca D) rfl ⟨by decide +kernel, rfl⟩ ?_
    refine z_iconst (pc' := 20) (n := 1) (v := 1) (by decide) ⟨by decide +kernel, rfl⟩ ?_
    refine z_iadd (pc' := 21) ⟨by decide +kernel, rfl⟩ ?_
    refine z_putI (pc' := 24) (rff_at ca D) rfl ⟨by decide +kernel, rfl⟩ (z_letU fun u4 => ?_)
    refine z_aload_n (pc' := 25) (k := 0) (i := 0) 0 rfl rfl ⟨by decide +kernel, rfl⟩ ?_
    refine z_callVf (pc' := 28) 0 (rft_now n u4) (rfG_now ca D) (rfO ca D) rfl (by omega) rfl rfl (Nat.le_of_ble_eq_true rfl) ⟨by decide +kernel, rfl⟩ (fun r5 u6 => ?_)
    refine z_iconst (pc' := 29) (n := 1) (v := 1) (by decide) ⟨by decide +kernel, rfl⟩ ?_
    refine z_icmp_eq (pc' := 32) (tgt := 37) (off := 8) ⟨by decide +kernel, rfl⟩ rfl (fun h7 => ?_) (fun h7 => ?_)
    · refine z_aload_n (pc' := 38) (k := 0) (i := 0) 0 rfl rfl ⟨by decide +kernel, rfl⟩ ?_
      refine z_getI (pc' := 41) (rff_fns ca D) rfl ⟨by decide +kernel, rfl⟩ ?_
      refine z_letI fun v8 => ?_
      refine z_istore_n (pc' := 42) (k := 1) (i := 1) rfl (by decide) rfl ⟨by decide +kernel, rfl⟩ ?_
      refine z_iconst (pc' := 43) (n := 0) (v := 0) (by decide) ⟨by decide +kernel, rfl⟩ ?_
      refine z_istore_n (pc' := 44) (k := 2) (i := 2) rfl (by decide) rfl ⟨by decide +kernel, rfl⟩ ?_
      refine z_lv [2, 1, 0] (lv' := [(0, .ref (a 0)), (1, .int v8), (2, .int 0)]) rfl ?_
      exact rf_function_L44_t n k n u6 v8 0
    · refine z_aload_n (pc' := 33) (k := 0) (i := 0) 0 rfl rfl ⟨by decide +kernel, rfl⟩ ?_
      refine z_callVf (pc' := 36) 0 (rft_faulty n u6) (rfG_faulty ca D) (rfO ca D) rfl (by omega) rfl rfl (Nat.le_of_ble_eq_true rfl) ⟨by decide +kernel, rfl⟩ (fun _ u10 => ?_)
      exact z_vret (pc' := 37) ⟨by decide +kernel, rfl⟩
set_option maxRecDepth 20000 in
set_option maxHeartbeats 4000000 in
theorem rf_links_L19_t {κ : zKx} {ca : Nat → ClassId} {D : va_G} {A : Nat → Prop} {c0 : Nat × Nat} {a g0 g : Nat → Nat} (n : Nat) (k2 : zMu → Int32 → Option (Unit × zMu)) (hk2 : ∀ (u : zMu) (x1 : Int32), zJ κ (zRf ca D) prog_13_method_36_code 4 rf_C none zrv true 1 A c0 a g0 g u 2 [(0, .ref (a 0)), (1, .int x1)] [] (k2 u x1)) : ∀ (m : Nat) (u : zMu) (x1 : Int32) (x2 : Int32) (x3 : Int32), zJ κ (zRf ca D) prog_13_method_36_code 4 rf_C none zrv true 1 A c0 a g0 g u 19 [(0, .ref (a 0)), (1, .int x1), (2, .int x2), (3, .int x3)] [] (rf_links_L19 n k2 m u x1 x2 x3) := by
  intro m
  induction m with
  | zero => intro u x1 x2 x3 r u' h; cases h
  | succ m ih =>
    intro u x1 x2 x3
    unfold rf_links_L19
    refine z_iload_n (pc' := 20) (k := 3) (i := 3) 3 rfl rfl ⟨by decide +kernel, rfl⟩ ?_
    refine z_if_lt (pc' := 23) (tgt := 46) (off := 26) ⟨by decide +kernel, rfl⟩ rfl (fun h1 => ?_) (fun h1 => ?_)
    · refine z_aload_n (pc' := 47) (k := 0) (i := 0) 0 rfl rfl ⟨by decide +kernel, rfl⟩ ?_
      refine z_getR (pc' := 50) (rff_opA ca D) rfl (y := a 11) rfl ⟨by decide +kernel, rfl⟩ ?_
      refine z_aload_n (pc' := 51) (k := 0) (i := 0) 0 rfl rfl ⟨by decide +kernel, rfl⟩ ?_
      refine z_getR (pc' := 54) (rff_callAt ca D) rfl (y := a 23) rfl ⟨by decide +kernel, rfl⟩ ?_
      refine z_iload_n (pc' := 55) (k := 1) (i := 1) 1 rfl rfl ⟨by decide +kernel, rfl⟩ ?_
      refine z_iald (pc' := 56) 23 rfl (zlt rfl) rfl rfl ⟨by decide +kernel, rfl⟩ ?_
      refine z_iload_n (pc' := 57) (k := 2) (i := 2) 2 rfl rfl ⟨by decide +kernel, rfl⟩ ?_
      refine z_iast (pc' := 58) 11 rfl (zlt rfl) rfl rfl ⟨by decide +kernel, rfl⟩ (z_letU fun u2 => ?_)
      refine z_iload_n (pc' := 59) (k := 2) (i := 2) 2 rfl rfl ⟨by decide +kernel, rfl⟩ ?_
      refine z_iconst (pc' := 60) (n := (-1)) (v := (-1)) (by decide) ⟨by decide +kernel, rfl⟩ ?_
      refine z_icmp_ne (pc' := 63) (tgt := 77) (off := 17) ⟨by decide +kernel, rfl⟩ rfl (fun h3 => ?_) (fun h3 => ?_)
      · refine z_aload_n (pc' := 64) (k := 0) (i := 0) 0 rfl rfl ⟨by decide +kernel, rfl⟩ ?_
        refine z_aload_n (pc' := 65) (k := 0) (i := 0) 0 rfl rfl ⟨by decide +kernel, rfl⟩ ?_
        refine z_getR (pc' := 68) (rff_callPlace ca D) rfl (y := a 26) rfl ⟨by decide +kernel, rfl⟩ ?_
        refine z_iload_n (pc' := 69) (k := 1) (i := 1) 1 rfl rfl ⟨by decide +kernel, rfl⟩ ?_
        refine z_iald (pc' := 70) 26 rfl (zlt rfl) rfl rfl ⟨by decide +kernel, rfl⟩ ?_
        refine z_iconst (pc' := 71) (n := 2) (v := 2) (by decide) ⟨by decide +kernel, rfl⟩ ?_
        refine z_callVf (pc' := 74) 0 (rft_notes n u2 (zI u2 26 (zx x1)) 2) (rfG_notes ca D) (rfO ca D) rfl (by omega) rfl rfl (Nat.le_of_ble_eq_true rfl) ⟨by decide +kernel, rfl⟩ (fun _ u5 => ?_)
        refine z_goto (tgt := 103) (off := 29) (by decide +kernel) rfl ?_
        refine z_iincN (pc' := 106) (i := 1) (n := 1) (c := 1) 1 rfl (by decide) (by decide) rfl ⟨by decide +kernel, rfl⟩ fun v6 => ?_
        refine z_goto (tgt := 2) (off := -104) (by decide +kernel) rfl ?_
        refine z_lv [1, 0] (lv' := [(0, .ref (a 0)), (1, .int v6)]) rfl ?_
        exact hk2 u5 v6
      · refine z_aload_n (pc' := 78) (k := 0) (i := 0) 0 rfl rfl ⟨by decide +kernel, rfl⟩ ?_
        refine z_getR (pc' := 81) (rff_fnNames ca D) rfl (y := a 16) rfl ⟨by decide +kernel, rfl⟩ ?_
        refine z_iload_n (pc' := 82) (k := 2) (i := 2) 2 rfl rfl ⟨by decide +kernel, rfl⟩ ?_
        refine z_iald (pc' := 83) 16 rfl (zlt rfl) rfl rfl ⟨by decide +kernel, rfl⟩ ?_
        refine z_aload_n (pc' := 84) (k := 0) (i := 0) 0 rfl rfl ⟨by decide +kernel, rfl⟩ ?_
        refine z_getR (pc' := 87) (rff_callN ca D) rfl (y := a 25) rfl ⟨by decide +kernel, rfl⟩ ?_
        refine z_iload_n (pc' := 88) (k := 1) (i := 1) 1 rfl rfl ⟨by decide +kernel, rfl⟩ ?_
        refine z_iald (pc' := 89) 25 rfl (zlt rfl) rfl rfl ⟨by decide +kernel, rfl⟩ ?_
        refine z_icmp_eq (pc' := 92) (tgt := 103) (off := 14) ⟨by decide +kernel, rfl⟩ rfl (fun h7 => ?_) (fun h7 => ?_)
        · refine z_iincN (pc' := 106) (i := 1) (n := 1) (c := 1) 1 rfl (by decide) (by decide) rfl ⟨by decide +kernel, rfl⟩ fun v8 => ?_
          refine z_goto (tgt := 2) (off := -104) (by decide +kernel) rfl ?_
          refine z_lv [1, 0] (lv' := [(0, .ref (a 0)), (1, .int v8)]) rfl ?_
          exact hk2 u2 v8
        · refine z_aload_n (pc' := 93) (k := 0) (i := 0) 0 rfl rfl ⟨by decide +kernel, rfl⟩ ?_
          refine z_aload_n (pc' := 94) (k := 0) (i := 0) 0 rfl rfl ⟨by decide +kernel, rfl⟩ ?_
          refine z_getR (pc' := 97) (rff_callPlace ca D) rfl (y := a 26) rfl ⟨by decide +kernel, rfl⟩ ?_
          refine z_iload_n (pc' := 98) (k := 1) (i := 1) 1 rfl rfl ⟨by decide +kernel, rfl⟩ ?_
          refine z_iald (pc' := 99) 26 rfl (zlt rfl) rfl rfl ⟨by decide +kernel, rfl⟩ ?_
          refine z_iconst (pc' := 100) (n := 3) (v := 3) (by decide) ⟨by decide +kernel, rfl⟩ ?_
          refine z_callVf (pc' := 103) 0 (rft_notes n u2 (zI u2 26 (zx x1)) 3) (rfG_notes ca D) (rfO ca D) rfl (by omega) rfl rfl (Nat.le_of_ble_eq_true rfl) ⟨by decide +kernel, rfl⟩ (fun _ u10 => ?_)
          refine z_iincN (pc' := 106) (i := 1) (n := 1) (c := 1) 1 rfl (by decide) (by decide) rfl ⟨by decide +kernel, rfl⟩ fun v11 => ?_
          refine z_goto (tgt := 2) (off := -104) (by decide +kernel) rfl ?_
          refine z_lv [1, 0] (lv' := [(0, .ref (a 0)), (1, .int v11)]) rfl ?_
          exact hk2 u10 v11
    · refine z_aload_n (pc' := 24) (k := 0) (i := 0) 0 rfl rfl ⟨by decide +kernel, rfl⟩ ?_
      refine z_getR (pc' := 27) (rff_fnName ca D) rfl (y := a 14) rfl ⟨by decide +kernel, rfl⟩ ?_
      refine z_iload_n (pc' := 28) (k := 3) (i := 3) 3 rfl rfl ⟨by decide +kernel, rfl⟩ ?_
      refine z_iald (pc' := 29) 14 rfl (zlt rfl) rfl rfl ⟨by decide +kernel, rfl⟩ ?_
      refine z_aload_n (pc' := 30) (k := 0) (i := 0) 0 rfl rfl ⟨by decide +kernel, rfl⟩ ?_
      refine z_getR (pc' := 33) (rff_callName ca D) rfl (y := a 24) rfl ⟨by decide +kernel, rfl⟩ ?_
      refine z_iload_n (pc' := 34) (k := 1) (i := 1) 1 rfl rfl ⟨by decide +kernel, rfl⟩ ?_
      refine z_iald (pc' := 35) 24 rfl (zlt rfl) rfl rfl ⟨by decide +kernel, rfl⟩ ?_
      refine z_icmp_ne (pc' := 38) (tgt := 40) (off := 5) ⟨by decide +kernel, rfl⟩ rfl (fun h12 => ?_) (fun h12 => ?_)
      · refine z_iload_n (pc' := 39) (k := 3) (i := 3) 3 rfl rfl ⟨by decide +kernel, rfl⟩ ?_
        refine z_istore_n (pc' := 40) (k := 2) (i := 2) rfl (by decide) rfl ⟨by decide +kernel, rfl⟩ ?_
        refine z_iincN (pc' := 43) (i := 3) (n := (-1)) (c := (-1)) 3 rfl (by decide) (by decide) rfl ⟨by decide +kernel, rfl⟩ fun v13 => ?_
        refine z_goto (tgt := 19) (off := -24) (by decide +kernel) rfl ?_
        refine z_lv [2, 3, 1, 0] (lv' := [(0, .ref (a 0)), (1, .int x1), (2, .int x3), (3, .int v13)]) rfl ?_
        exact ih u x1 x3 v13
      · refine z_iincN (pc' := 43) (i := 3) (n := (-1)) (c := (-1)) 3 rfl (by decide) (by decide) rfl ⟨by decide +kernel, rfl⟩ fun v14 => ?_
        refine z_goto (tgt := 19) (off := -24) (by decide +kernel) rfl ?_
        refine z_lv [1, 2, 3, 0] (lv' := [(0, .ref (a 0)), (1, .int x1), (2, .int x2), (3, .int v14)]) rfl ?_
        exact ih u x1 x2 v14
set_option maxRecDepth 20000 in
set_option maxHeartbeats 4000000 in
theorem rf_links_L2_t {κ : zKx} {ca : Nat → ClassId} {D : va_G} {A : Nat → Prop} {c0 : Nat × Nat} {a g0 g : Nat → Nat} (n : Nat) : ∀ (m : Nat) (u : zMu) (x1 : Int32), zJ κ (zRf ca D) prog_13_method_36_code 4 rf_C none zrv true 1 A c0 a g0 g u 2 [(0, .ref (a 0)), (1, .int x1)] [] (rf_links_L2 n m u x1) := by
  intro m
  induction m with
  | zero => intro u x1 r u' h; cases h
  | succ m ih =>
    intro u x1
    unfold rf_links_L2
    refine z_iload_n (pc' := 3) (k := 1) (i := 1) 1 rfl rfl ⟨by decide +kernel, rfl⟩ ?_
    refine z_aload_n (pc' := 4) (k := 0) (i := 0) 0 rfl rfl ⟨by decide +kernel, rfl⟩ ?_
    refine z_getI (pc' := 7) (rff_calls ca D) rfl ⟨by decide +kernel, rfl⟩ ?_
    refine z_icmp_ge (pc' := 10) (tgt := 109) (off := 102) ⟨by decide +kernel, rfl⟩ rfl (fun h1 => ?_) (fun h1 => ?_)
    · refine z_iconst (pc' := 11) (n := (-1)) (v := (-1)) (by decide) ⟨by decide +kernel, rfl⟩ ?_
      refine z_istore_n (pc' := 12) (k := 2) (i := 2) rfl (by decide) rfl ⟨by decide +kernel, rfl⟩ ?_
      refine z_aload_n (pc' := 13) (k := 0) (i := 0) 1 rfl rfl ⟨by decide +kernel, rfl⟩ ?_
      refine z_getI (pc' := 16) (rff_fns ca D) rfl ⟨by decide +kernel, rfl⟩ ?_
      refine z_iconst (pc' := 17) (n := 1) (v := 1) (by decide) ⟨by decide +kernel, rfl⟩ ?_
      refine z_isub (pc' := 18) ⟨by decide +kernel, rfl⟩ ?_
      refine z_letI fun v2 => ?_
      refine z_istore_n (pc' := 19) (k := 3) (i := 3) rfl (by decide) rfl ⟨by decide +kernel, rfl⟩ ?_
      refine z_lv [2, 3, 1, 0] (lv' := [(0, .ref (a 0)), (1, .int x1), (2, .int (-1)), (3, .int v2)]) rfl ?_
      exact rf_links_L19_t n (rf_links_L2 n m) (ih) n u x1 (-1) v2
    · exact z_vret (pc' := 110) ⟨by decide +kernel, rfl⟩
set_option maxRecDepth 20000 in
set_option maxHeartbeats 4000000 in
theorem rft_links {l : Launch} {ca : Nat → ClassId} {D : va_G} {a g : Nat → Nat} (n : Nat) (u : zMu) : zMet l (zRf ca D) rfY_links (.code rfY_links prog_13_method_36_code 4 none) zrv true 1 a g [.ref (a 0)] u (rf_links n u) := by
  refine zMet.of rfl (Nat.le_of_ble_eq_true rfl) fun κ A hl => ?_
  subst hl
  unfold rf_links
  refine z_iconst (pc' := 1) (n := 0) (v := 0) (by decide) ⟨by decide +kernel, rfl⟩ ?_
  refine z_istore_n (pc' := 2) (k := 1) (i := 1) rfl (by decide) rfl ⟨by decide +kernel, rfl⟩ ?_
  refine z_lv [1, 0] (lv' := [(0, .ref (a 0)), (1, .int 0)]) rfl ?_
  exact rf_links_L2_t n n u 0
set_option maxRecDepth 20000 in
set_option maxHeartbeats 4000000 in
theorem rf_takes_J115_t {κ : zKx} {ca : Nat → ClassId} {D : va_G} {A : Nat → Prop} {c0 : Nat × Nat} {a g0 g : Nat → Nat} (n k : Nat) (u : zMu) : zJ κ (zRf ca D) prog_13_method_37_code 1 rf_C none zrv true (2 * k + 8) A c0 a g0 g u 115 [(0, .ref (a 0))] [] (rf_takes_J115 n k u) := by
  unfold rf_takes_J115
  refine z_aload_n (pc' := 116) (k := 0) (i := 0) 0 rfl rfl ⟨by decide +kernel, rfl⟩ ?_
  refine z_bipush (pc' := 118) (n := 23) (v := 23) (by decide) ⟨by decide +kernel, rfl⟩ ?_
  refine z_iconst (pc' := 119) (n := 0) (v := 0) (by decide) ⟨by decide +kernel, rfl⟩ ?_
  refine z_iconst (pc' := 120) (n := 0) (v := 0) (by decide) ⟨by decide +kernel, rfl⟩ ?_
  refine z_iconst (pc' := 121) (n := 0) (v := 0) (by decide) ⟨by decide +kernel, rfl⟩ ?_
  refine z_callVf (pc' := 124) 0 (rft_emit n u 23 0 0 0) (rfG_emit ca D) (rfO ca D) rfl (by omega) rfl rfl (Nat.le_of_ble_eq_true rfl) ⟨by decide +kernel, rfl⟩ (fun _ u2 => ?_)
  refine z_aload_n (pc' := 125) (k := 0) (i := 0) 0 rfl rfl ⟨by decide +kernel, rfl⟩ ?_
  refine z_callVf (pc' := 128) 0 (rft_isWrong n u2) (rfG_isWrong ca D) (rfO ca D) rfl (by omega) rfl rfl (Nat.le_of_ble_eq_true rfl) ⟨by decide +kernel, rfl⟩ (fun r3 u4 => ?_)
  refine z_if_ne (pc' := 131) (tgt := 135) (off := 7) ⟨by decide +kernel, rfl⟩ rfl (fun h5 => ?_) (fun h5 => ?_)
  · refine z_aload_n (pc' := 132) (k := 0) (i := 0) 0 rfl rfl ⟨by decide +kernel, rfl⟩ ?_
    refine z_callVf (pc' := 135) 0 (rft_links n u4) (rfG_links ca D) (rfO ca D) rfl (by omega) rfl rfl (Nat.le_of_ble_eq_true rfl) ⟨by decide +kernel, rfl⟩ (fun _ u7 => ?_)
    exact z_vret (pc' := 136) ⟨by decide +kernel, rfl⟩
  · exact z_vret (pc' := 136) ⟨by decide +kernel, rfl⟩
set_option maxRecDepth 20000 in
set_option maxHeartbeats 4000000 in
theorem rf_takes_L94_t {κ : zKx} {ca : Nat → ClassId} {D : va_G} {A : Nat → Prop} {c0 : Nat × Nat} {a g0 g : Nat → Nat} (n k : Nat) : ∀ (m : Nat) (u : zMu), zJ κ (zRf ca D) prog_13_method_37_code 1 rf_C none zrv true (2 * k + 8) A c0 a g0 g u 94 [(0, .ref (a 0))] [] (rf_takes_L94 n k m u) := by
  intro m
  induction m with
  | zero => intro u r u' h; cases h
  | succ m ih =>
    intro u
    unfold rf_takes_L94
    refine z_aload_n (pc' := 95) (k := 0) (i := 0) 0 rfl rfl ⟨by decide +kernel, rfl⟩ ?_
    refine z_callVf (pc' := 98) 0 (rft_isWrong n u) (rfG_isWrong ca D) (rfO ca D) rfl (by omega) rfl rfl (Nat.le_of_ble_eq_true rfl) ⟨by decide +kernel, rfl⟩ (fun r1 u2 => ?_)
    refine z_if_ne (pc' := 101) (tgt := 115) (off := 17) ⟨by decide +kernel, rfl⟩ rfl (fun h3 => ?_) (fun h3 => ?_)
    · refine z_aload_n (pc' := 102) (k := 0) (i := 0) 0 rfl rfl ⟨by decide +kernel, rfl⟩ ?_
      refine z_callVf (pc' := 105) 0 (rft_now n u2) (rfG_now ca D) (rfO ca D) rfl (by omega) rfl rfl (Nat.le_of_ble_eq_true rfl) ⟨by decide +kernel, rfl⟩ (fun r4 u5 => ?_)
      refine z_if_eq (pc' := 108) (tgt := 115) (off := 10) ⟨by decide +kernel, rfl⟩ rfl (fun h6 => ?_) (fun h6 => ?_)
      · exact rf_takes_J115_t n k u5
      · refine z_aload_n (pc' := 109) (k := 0) (i := 0) 0 rfl rfl ⟨by decide +kernel, rfl⟩ ?_
        refine z_callVf (pc' := 112) 0 (rft_step n k u5) (rfG_step ca D) (rfO ca D) rfl (by omega) rfl rfl (Nat.le_of_ble_eq_true rfl) ⟨by decide +kernel, rfl⟩ (fun _ u8 => ?_)
        refine z_goto (tgt := 94) (off := -18) (by decide +kernel) rfl ?_
        exact ih u8
    · exact rf_takes_J115_t n k u2
set_option maxRecDepth 20000 in
set_option maxHeartbeats 4000000 in
theorem rf_takes_J73_t {κ : zKx} {ca : Nat → ClassId} {D : va_G} {A : Nat → Prop} {c0 : Nat × Nat} {a g0 g : Nat → Nat} (n k : Nat) (u : zMu) : zJ κ (zRf ca D) prog_13_method_37_code 1 rf_C none zrv true (2 * k + 8) A c0 a g0 g u 73 [(0, .ref (a 0))] [] (rf_takes_J73 n k u) := by
  unfold rf_takes_J73
  refine z_aload_n (pc' := 74) (k := 0) (i := 0) 0 rfl rfl ⟨by decide +kernel, rfl⟩ ?_
  refine z_iconst (pc' := 75) (n := (-1)) (v := (-1)) (by decide) ⟨by decide +kernel, rfl⟩ ?_
  refine z_putI (pc' := 78) (rff_routine ca D) rfl ⟨by decide +kernel, rfl⟩ (z_letU fun u1 => ?_)
  refine z_aload_n (pc' := 79) (k := 0) (i := 0) 0 rfl rfl ⟨by decide +kernel, rfl⟩ ?_
  refine z_getR (pc' := 82) (rff_varN ca D) rfl (y := a 17) rfl ⟨by decide +kernel, rfl⟩ ?_
  refine z_bipush (pc' := 84) (n := 9) (v := 9) (by decide) ⟨by decide +kernel, rfl⟩ ?_
  refine z_iconst (pc' := 85) (n := 0) (v := 0) (by decide) ⟨by decide +kernel, rfl⟩ ?_
  refine z_iast (pc' := 86) 17 rfl (zlt rfl) rfl rfl ⟨by decide +kernel, rfl⟩ (z_letU fun u2 => ?_)
  refine z_aload_n (pc' := 87) (k := 0) (i := 0) 0 rfl rfl ⟨by decide +kernel, rfl⟩ ?_
  refine z_aload_n (pc' := 88) (k := 0) (i := 0) 0 rfl rfl ⟨by decide +kernel, rfl⟩ ?_
  refine z_getI (pc' := 91) (rff_codes ca D) rfl ⟨by decide +kernel, rfl⟩ ?_
  refine z_putI (pc' := 94) (rff_mainAt ca D) rfl ⟨by decide +kernel, rfl⟩ (z_letU fun u3 => ?_)
  exact rf_takes_L94_t n k n u3
set_option maxRecDepth 20000 in
set_option maxHeartbeats 4000000 in
theorem rf_takes_L49_t {κ : zKx} {ca : Nat → ClassId} {D : va_G} {A : Nat → Prop} {c0 : Nat × Nat} {a g0 g : Nat → Nat} (n k : Nat) : ∀ (m : Nat) (u : zMu), zJ κ (zRf ca D) prog_13_method_37_code 1 rf_C none zrv true (2 * k + 8) A c0 a g0 g u 49 [(0, .ref (a 0))] [] (rf_takes_L49 n k m u) := by
  intro m
  induction m with
  | zero => intro u r u' h; cases h
  | succ m ih =>
    intro u
    unfold rf_takes_L49
    refine z_aload_n (pc' := 50) (k := 0) (i := 0) 0 rfl rfl ⟨by decide +kernel, rfl⟩ ?_
    refine z_callVf (pc' := 53) 0 (rft_isWrong n u) (rfG_isWrong ca D) (rfO ca D) rfl (by omega) rfl rfl (Nat.le_of_ble_eq_true rfl) ⟨by decide +kernel, rfl⟩ (fun r1 u2 => ?_)
    refine z_if_ne (pc' := 56) (tgt := 73) (off := 20) ⟨by decide +kernel, rfl⟩ rfl (fun h3 => ?_) (fun h3 => ?_)
    · refine z_aload_n (pc' := 57) (k := 0) (i := 0) 0 rfl rfl ⟨by decide +kernel, rfl⟩ ?_
      refine z_callVf (pc' := 60) 0 (rft_now n u2) (rfG_now ca D) (rfO ca D) rfl (by omega) rfl rfl (Nat.le_of_ble_eq_true rfl) ⟨by decide +kernel, rfl⟩ (fun r4 u5 => ?_)
      refine z_sipush (pc' := 63) (n := 200) (v := 200) (by decide) ⟨by decide +kernel, rfl⟩ ?_
      refine z_icmp_ne (pc' := 66) (tgt := 73) (off := 10) ⟨by decide +kernel, rfl⟩ rfl (fun h6 => ?_) (fun h6 => ?_)
      · refine z_aload_n (pc' := 67) (k := 0) (i := 0) 0 rfl rfl ⟨by decide +kernel, rfl⟩ ?_
        refine z_callVf (pc' := 70) 0 (rft_function n k u5) (rfG_function ca D) (rfO ca D) rfl (by omega) rfl rfl (Nat.le_of_ble_eq_true rfl) ⟨by decide +kernel, rfl⟩ (fun _ u8 => ?_)
        refine z_goto (tgt := 49) (off := -21) (by decide +kernel) rfl ?_
        exact ih u8
      · exact rf_takes_J73_t n k u5
    · exact rf_takes_J73_t n k u2
set_option maxRecDepth 20000 in
set_option maxHeartbeats 4000000 in
theorem rft_takes {l : Launch} {ca : Nat → ClassId} {D : va_G} {a g : Nat → Nat} (n k : Nat) (u : zMu) : zMet l (zRf ca D) rfY_takes (.code rfY_takes prog_13_method_37_code 1 none) zrv true (2 * k + 8) a g [.ref (a 0)] u (rf_takes n k u) := by
  refine zMet.of rfl (Nat.le_of_ble_eq_true rfl) fun κ A hl => ?_
  subst hl
  unfold rf_takes
  refine z_aload_n (pc' := 1) (k := 0) (i := 0) 0 rfl rfl ⟨by decide +kernel, rfl⟩ ?_
  refine z_callVf (pc' := 4) 0 (rft_cuts n u) (rfG_cuts ca D) (rfO ca D) rfl (by omega) rfl rfl (Nat.le_of_ble_eq_true rfl) ⟨by decide +kernel, rfl⟩ (fun _ u2 => ?_)
  refine z_aload_n (pc' := 5) (k := 0) (i := 0) 0 rfl rfl ⟨by decide +kernel, rfl⟩ ?_
  refine z_iconst (pc' := 6) (n := 0) (v := 0) (by decide) ⟨by decide +kernel, rfl⟩ ?_
  refine z_putI (pc' := 9) (rff_at ca D) rfl ⟨by decide +kernel, rfl⟩ (z_letU fun u3 => ?_)
  refine z_aload_n (pc' := 10) (k := 0) (i := 0) 0 rfl rfl ⟨by decide +kernel, rfl⟩ ?_
  refine z_iconst (pc' := 11) (n := (-1)) (v := (-1)) (by decide) ⟨by decide +kernel, rfl⟩ ?_
  refine z_putI (pc' := 14) (rff_wrong ca D) rfl ⟨by decide +kernel, rfl⟩ (z_letU fun u4 => ?_)
  refine z_aload_n (pc' := 15) (k := 0) (i := 0) 0 rfl rfl ⟨by decide +kernel, rfl⟩ ?_
  refine z_iconst (pc' := 16) (n := (-1)) (v := (-1)) (by decide) ⟨by decide +kernel, rfl⟩ ?_
  refine z_putI (pc' := 19) (rff_later ca D) rfl ⟨by decide +kernel, rfl⟩ (z_letU fun u5 => ?_)
  refine z_aload_n (pc' := 20) (k := 0) (i := 0) 0 rfl rfl ⟨by decide +kernel, rfl⟩ ?_
  refine z_iconst (pc' := 21) (n := 0) (v := 0) (by decide) ⟨by decide +kernel, rfl⟩ ?_
  refine z_putI (pc' := 24) (rff_laterKind ca D) rfl ⟨by decide +kernel, rfl⟩ (z_letU fun u6 => ?_)
  refine z_aload_n (pc' := 25) (k := 0) (i := 0) 0 rfl rfl ⟨by decide +kernel, rfl⟩ ?_
  refine z_iconst (pc' := 26) (n := 0) (v := 0) (by decide) ⟨by decide +kernel, rfl⟩ ?_
  refine z_putI (pc' := 29) (rff_codes ca D) rfl ⟨by decide +kernel, rfl⟩ (z_letU fun u7 => ?_)
  refine z_aload_n (pc' := 30) (k := 0) (i := 0) 0 rfl rfl ⟨by decide +kernel, rfl⟩ ?_
  refine z_iconst (pc' := 31) (n := 0) (v := 0) (by decide) ⟨by decide +kernel, rfl⟩ ?_
  refine z_putI (pc' := 34) (rff_open ca D) rfl ⟨by decide +kernel, rfl⟩ (z_letU fun u8 => ?_)
  refine z_aload_n (pc' := 35) (k := 0) (i := 0) 0 rfl rfl ⟨by decide +kernel, rfl⟩ ?_
  refine z_iconst (pc' := 36) (n := 0) (v := 0) (by decide) ⟨by decide +kernel, rfl⟩ ?_
  refine z_putI (pc' := 39) (rff_fns ca D) rfl ⟨by decide +kernel, rfl⟩ (z_letU fun u9 => ?_)
  refine z_aload_n (pc' := 40) (k := 0) (i := 0) 0 rfl rfl ⟨by decide +kernel, rfl⟩ ?_
  refine z_iconst (pc' := 41) (n := 0) (v := 0) (by decide) ⟨by decide +kernel, rfl⟩ ?_
  refine z_putI (pc' := 44) (rff_sites ca D) rfl ⟨by decide +kernel, rfl⟩ (z_letU fun u10 => ?_)
  refine z_aload_n (pc' := 45) (k := 0) (i := 0) 0 rfl rfl ⟨by decide +kernel, rfl⟩ ?_
  refine z_iconst (pc' := 46) (n := 0) (v := 0) (by decide) ⟨by decide +kernel, rfl⟩ ?_
  refine z_putI (pc' := 49) (rff_calls ca D) rfl ⟨by decide +kernel, rfl⟩ (z_letU fun u11 => ?_)
  exact rf_takes_L49_t n k n u11
set_option maxRecDepth 20000 in
set_option maxHeartbeats 4000000 in
theorem rf_anew_L146_t {κ : zKx} {ca : Nat → ClassId} {D : va_G} {A : Nat → Prop} {c0 : Nat × Nat} {a g0 g : Nat → Nat} (n : Nat) : ∀ (m : Nat) (u : zMu) (x1 : Int32), zJ κ (zRf ca D) prog_13_method_40_code 2 rf_C none zrv true 0 A c0 a g0 g u 146 [(0, .ref (a 0)), (1, .int x1)] [] (rf_anew_L146 n m u x1) := by
  intro m
  induction m with
  | zero => intro u x1 r u' h; cases h
  | succ m ih =>
    intro u x1
    unfold rf_anew_L146
    refine z_iload_n (pc' := 147) (k := 1) (i := 1) 1 rfl rfl ⟨by decide +kernel, rfl⟩ ?_
    refine z_bipush (pc' := 149) (n := 9) (v := 9) (by decide) ⟨by decide +kernel, rfl⟩ ?_
    refine z_icmp_ge (pc' := 152) (tgt := 207) (off := 58) ⟨by decide +kernel, rfl⟩ rfl (fun h1 => ?_) (fun h1 => ?_)
    · refine z_aload_n (pc' := 153) (k := 0) (i := 0) 0 rfl rfl ⟨by decide +kernel, rfl⟩ ?_
      refine z_getR (pc' := 156) (rff_fnCalls ca D) rfl (y := a 61) rfl ⟨by decide +kernel, rfl⟩ ?_
      refine z_iload_n (pc' := 157) (k := 1) (i := 1) 1 rfl rfl ⟨by decide +kernel, rfl⟩ ?_
      refine z_iconst (pc' := 158) (n := 0) (v := 0) (by decide) ⟨by decide +kernel, rfl⟩ ?_
      refine z_iast (pc' := 159) 61 rfl (zlt rfl) rfl rfl ⟨by decide +kernel, rfl⟩ (z_letU fun u2 => ?_)
      refine z_aload_n (pc' := 160) (k := 0) (i := 0) 0 rfl rfl ⟨by decide +kernel, rfl⟩ ?_
      refine z_getR (pc' := 163) (rff_fnCount ca D) rfl (y := a 62) rfl ⟨by decide +kernel, rfl⟩ ?_
      refine z_iload_n (pc' := 164) (k := 1) (i := 1) 1 rfl rfl ⟨by decide +kernel, rfl⟩ ?_
      refine z_iconst (pc' := 165) (n := 0) (v := 0) (by decide) ⟨by decide +kernel, rfl⟩ ?_
      refine z_iast (pc' := 166) 62 rfl (zlt rfl) rfl rfl ⟨by decide +kernel, rfl⟩ (z_letU fun u3 => ?_)
      refine z_aload_n (pc' := 167) (k := 0) (i := 0) 0 rfl rfl ⟨by decide +kernel, rfl⟩ ?_
      refine z_getR (pc' := 170) (rff_fnMade ca D) rfl (y := a 63) rfl ⟨by decide +kernel, rfl⟩ ?_
      refine z_iload_n (pc' := 171) (k := 1) (i := 1) 1 rfl rfl ⟨by decide +kernel, rfl⟩ ?_
      refine z_iconst (pc' := 172) (n := 0) (v := 0) (by decide) ⟨by decide +kernel, rfl⟩ ?_
      refine z_iast (pc' := 173) 63 rfl (zlt rfl) rfl rfl ⟨by decide +kernel, rfl⟩ (z_letU fun u4 => ?_)
      refine z_aload_n (pc' := 174) (k := 0) (i := 0) 0 rfl rfl ⟨by decide +kernel, rfl⟩ ?_
      refine z_getR (pc' := 177) (rff_fnLeft ca D) rfl (y := a 64) rfl ⟨by decide +kernel, rfl⟩ ?_
      refine z_iload_n (pc' := 178) (k := 1) (i := 1) 1 rfl rfl ⟨by decide +kernel, rfl⟩ ?_
      refine z_iconst (pc' := 179) (n := 0) (v := 0) (by decide) ⟨by decide +kernel, rfl⟩ ?_
      refine z_iast (pc' := 180) 64 rfl (zlt rfl) rfl rfl ⟨by decide +kernel, rfl⟩ (z_letU fun u5 => ?_)
      refine z_aload_n (pc' := 181) (k := 0) (i := 0) 0 rfl rfl ⟨by decide +kernel, rfl⟩ ?_
      refine z_getR (pc' := 184) (rff_fnSite ca D) rfl (y := a 65) rfl ⟨by decide +kernel, rfl⟩ ?_
      refine z_iload_n (pc' := 185) (k := 1) (i := 1) 1 rfl rfl ⟨by decide +kernel, rfl⟩ ?_
      refine z_iconst (pc' := 186) (n := (-1)) (v := (-1)) (by decide) ⟨by decide +kernel, rfl⟩ ?_
      refine z_iast (pc' := 187) 65 rfl (zlt rfl) rfl rfl ⟨by decide +kernel, rfl⟩ (z_letU fun u6 => ?_)
      refine z_aload_n (pc' := 188) (k := 0) (i := 0) 0 rfl rfl ⟨by decide +kernel, rfl⟩ ?_
      refine z_getR (pc' := 191) (rff_made ca D) rfl (y := a 66) rfl ⟨by decide +kernel, rfl⟩ ?_
      refine z_iload_n (pc' := 192) (k := 1) (i := 1) 1 rfl rfl ⟨by decide +kernel, rfl⟩ ?_
      refine z_iconst (pc' := 193) (n := 0) (v := 0) (by decide) ⟨by decide +kernel, rfl⟩ ?_
      refine z_zast (pc' := 194) 66 rfl (zlt rfl) rfl rfl ⟨by decide +kernel, rfl⟩ (z_letU fun u7 => ?_)
      refine z_aload_n (pc' := 195) (k := 0) (i := 0) 0 rfl rfl ⟨by decide +kernel, rfl⟩ ?_
      refine z_getR (pc' := 198) (rff_cold ca D) rfl (y := a 67) rfl ⟨by decide +kernel, rfl⟩ ?_
      refine z_iload_n (pc' := 199) (k := 1) (i := 1) 1 rfl rfl ⟨by decide +kernel, rfl⟩ ?_
      refine z_iconst (pc' := 200) (n := 0) (v := 0) (by decide) ⟨by decide +kernel, rfl⟩ ?_
      refine z_zast (pc' := 201) 67 rfl (zlt rfl) rfl rfl ⟨by decide +kernel, rfl⟩ (z_letU fun u8 => ?_)
      refine z_iincN (pc' := 204) (i := 1) (n := 1) (c := 1) 1 rfl (by decide) (by decide) rfl ⟨by decide +kernel, rfl⟩ fun v9 => ?_
      refine z_goto (tgt := 146) (off := -58) (by decide +kernel) rfl ?_
      refine z_lv [1, 0] (lv' := [(0, .ref (a 0)), (1, .int v9)]) rfl ?_
      exact ih u8 v9
    · exact z_vret (pc' := 208) ⟨by decide +kernel, rfl⟩
set_option maxRecDepth 20000 in
set_option maxHeartbeats 4000000 in
theorem rf_anew_L97_t {κ : zKx} {ca : Nat → ClassId} {D : va_G} {A : Nat → Prop} {c0 : Nat × Nat} {a g0 g : Nat → Nat} (n : Nat) : ∀ (m : Nat) (u : zMu) (x1 : Int32), zJ κ (zRf ca D) prog_13_method_40_code 2 rf_C none zrv true 0 A c0 a g0 g u 97 [(0, .ref (a 0)), (1, .int x1)] [] (rf_anew_L97 n m u x1) := by
  intro m
  induction m with
  | zero => intro u x1 r u' h; cases h
  | succ m ih =>
    intro u x1
    unfold rf_anew_L97
    refine z_iload_n (pc' := 98) (k := 1) (i := 1) 1 rfl rfl ⟨by decide +kernel, rfl⟩ ?_
    refine z_bipush (pc' := 100) (n := 81) (v := 81) (by decide) ⟨by decide +kernel, rfl⟩ ?_
    refine z_icmp_ge (pc' := 103) (tgt := 144) (off := 44) ⟨by decide +kernel, rfl⟩ rfl (fun h1 => ?_) (fun h1 => ?_)
    · refine z_aload_n (pc' := 104) (k := 0) (i := 0) 0 rfl rfl ⟨by decide +kernel, rfl⟩ ?_
      refine z_getR (pc' := 107) (rff_ran ca D) rfl (y := a 52) rfl ⟨by decide +kernel, rfl⟩ ?_
      refine z_iload_n (pc' := 108) (k := 1) (i := 1) 1 rfl rfl ⟨by decide +kernel, rfl⟩ ?_
      refine z_iconst (pc' := 109) (n := 0) (v := 0) (by decide) ⟨by decide +kernel, rfl⟩ ?_
      refine z_iast (pc' := 110) 52 rfl (zlt rfl) rfl rfl ⟨by decide +kernel, rfl⟩ (z_letU fun u2 => ?_)
      refine z_aload_n (pc' := 111) (k := 0) (i := 0) 0 rfl rfl ⟨by decide +kernel, rfl⟩ ?_
      refine z_getR (pc' := 114) (rff_siteHits ca D) rfl (y := a 53) rfl ⟨by decide +kernel, rfl⟩ ?_
      refine z_iload_n (pc' := 115) (k := 1) (i := 1) 1 rfl rfl ⟨by decide +kernel, rfl⟩ ?_
      refine z_iconst (pc' := 116) (n := 0) (v := 0) (by decide) ⟨by decide +kernel, rfl⟩ ?_
      refine z_iast (pc' := 117) 53 rfl (zlt rfl) rfl rfl ⟨by decide +kernel, rfl⟩ (z_letU fun u3 => ?_)
      refine z_aload_n (pc' := 118) (k := 0) (i := 0) 0 rfl rfl ⟨by decide +kernel, rfl⟩ ?_
      refine z_getR (pc' := 121) (rff_entries ca D) rfl (y := a 54) rfl ⟨by decide +kernel, rfl⟩ ?_
      refine z_iload_n (pc' := 122) (k := 1) (i := 1) 1 rfl rfl ⟨by decide +kernel, rfl⟩ ?_
      refine z_iconst (pc' := 123) (n := 0) (v := 0) (by decide) ⟨by decide +kernel, rfl⟩ ?_
      refine z_iast (pc' := 124) 54 rfl (zlt rfl) rfl rfl ⟨by decide +kernel, rfl⟩ (z_letU fun u4 => ?_)
      refine z_aload_n (pc' := 125) (k := 0) (i := 0) 0 rfl rfl ⟨by decide +kernel, rfl⟩ ?_
      refine z_getR (pc' := 128) (rff_many ca D) rfl (y := a 58) rfl ⟨by decide +kernel, rfl⟩ ?_
      refine z_iload_n (pc' := 129) (k := 1) (i := 1) 1 rfl rfl ⟨by decide +kernel, rfl⟩ ?_
      refine z_iconst (pc' := 130) (n := 0) (v := 0) (by decide) ⟨by decide +kernel, rfl⟩ ?_
      refine z_zast (pc' := 131) 58 rfl (zlt rfl) rfl rfl ⟨by decide +kernel, rfl⟩ (z_letU fun u5 => ?_)
      refine z_aload_n (pc' := 132) (k := 0) (i := 0) 0 rfl rfl ⟨by decide +kernel, rfl⟩ ?_
      refine z_getR (pc' := 135) (rff_guesses ca D) rfl (y := a 59) rfl ⟨by decide +kernel, rfl⟩ ?_
      refine z_iload_n (pc' := 136) (k := 1) (i := 1) 1 rfl rfl ⟨by decide +kernel, rfl⟩ ?_
      refine z_iconst (pc' := 137) (n := 0) (v := 0) (by decide) ⟨by decide +kernel, rfl⟩ ?_
      refine z_iast (pc' := 138) 59 rfl (zlt rfl) rfl rfl ⟨by decide +kernel, rfl⟩ (z_letU fun u6 => ?_)
      refine z_iincN (pc' := 141) (i := 1) (n := 1) (c := 1) 1 rfl (by decide) (by decide) rfl ⟨by decide +kernel, rfl⟩ fun v7 => ?_
      refine z_goto (tgt := 97) (off := -44) (by decide +kernel) rfl ?_
      refine z_lv [1, 0] (lv' := [(0, .ref (a 0)), (1, .int v7)]) rfl ?_
      exact ih u6 v7
    · refine z_iconst (pc' := 145) (n := 0) (v := 0) (by decide) ⟨by decide +kernel, rfl⟩ ?_
      refine z_istore_n (pc' := 146) (k := 1) (i := 1) rfl (by decide) rfl ⟨by decide +kernel, rfl⟩ ?_
      refine z_lv [1, 0] (lv' := [(0, .ref (a 0)), (1, .int 0)]) rfl ?_
      exact rf_anew_L146_t n n u 0
set_option maxRecDepth 20000 in
set_option maxHeartbeats 4000000 in
theorem rft_anew {l : Launch} {ca : Nat → ClassId} {D : va_G} {a g : Nat → Nat} (n : Nat) (u : zMu) : zMet l (zRf ca D) rfY_anew (.code rfY_anew prog_13_method_40_code 2 none) zrv true 0 a g [.ref (a 0)] u (rf_anew n u) := by
  refine zMet.of rfl (Nat.le_of_ble_eq_true rfl) fun κ A hl => ?_
  subst hl
  unfold rf_anew
  refine z_aload_n (pc' := 1) (k := 0) (i := 0) 0 rfl rfl ⟨by decide +kernel, rfl⟩ ?_
  refine z_iconst (pc' := 2) (n := 0) (v := 0) (by decide) ⟨by decide +kernel, rfl⟩ ?_
  refine z_putI (pc' := 5) (rff_top ca D) rfl ⟨by decide +kernel, rfl⟩ (z_letU fun u1 => ?_)
  refine z_aload_n (pc' := 6) (k := 0) (i := 0) 0 rfl rfl ⟨by decide +kernel, rfl⟩ ?_
  refine z_iconst (pc' := 7) (n := 0) (v := 0) (by decide) ⟨by decide +kernel, rfl⟩ ?_
  refine z_putI (pc' := 10) (rff_depth ca D) rfl ⟨by decide +kernel, rfl⟩ (z_letU fun u2 => ?_)
  refine z_aload_n (pc' := 11) (k := 0) (i := 0) 0 rfl rfl ⟨by decide +kernel, rfl⟩ ?_
  refine z_iconst (pc' := 12) (n := 0) (v := 0) (by decide) ⟨by decide +kernel, rfl⟩ ?_
  refine z_putI (pc' := 15) (rff_failure ca D) rfl ⟨by decide +kernel, rfl⟩ (z_letU fun u3 => ?_)
  refine z_aload_n (pc' := 16) (k := 0) (i := 0) 0 rfl rfl ⟨by decide +kernel, rfl⟩ ?_
  refine z_iconst (pc' := 17) (n := (-1)) (v := (-1)) (by decide) ⟨by decide +kernel, rfl⟩ ?_
  refine z_putI (pc' := 20) (rff_failedAt ca D) rfl ⟨by decide +kernel, rfl⟩ (z_letU fun u4 => ?_)
  refine z_aload_n (pc' := 21) (k := 0) (i := 0) 0 rfl rfl ⟨by decide +kernel, rfl⟩ ?_
  refine z_iconst (pc' := 22) (n := 0) (v := 0) (by decide) ⟨by decide +kernel, rfl⟩ ?_
  refine z_putI (pc' := 25) (rff_steps ca D) rfl ⟨by decide +kernel, rfl⟩ (z_letU fun u5 => ?_)
  refine z_aload_n (pc' := 26) (k := 0) (i := 0) 0 rfl rfl ⟨by decide +kernel, rfl⟩ ?_
  refine z_iconst (pc' := 27) (n := 0) (v := 0) (by decide) ⟨by decide +kernel, rfl⟩ ?_
  refine z_putI (pc' := 30) (rff_called ca D) rfl ⟨by decide +kernel, rfl⟩ (z_letU fun u6 => ?_)
  refine z_aload_n (pc' := 31) (k := 0) (i := 0) 0 rfl rfl ⟨by decide +kernel, rfl⟩ ?_
  refine z_iconst (pc' := 32) (n := 0) (v := 0) (by decide) ⟨by decide +kernel, rfl⟩ ?_
  refine z_putI (pc' := 35) (rff_objects ca D) rfl ⟨by decide +kernel, rfl⟩ (z_letU fun u7 => ?_)
  refine z_aload_n (pc' := 36) (k := 0) (i := 0) 0 rfl rfl ⟨by decide +kernel, rfl⟩ ?_
  refine z_iconst (pc' := 37) (n := 0) (v := 0) (by decide) ⟨by decide +kernel, rfl⟩ ?_
  refine z_putI (pc' := 40) (rff_shapes ca D) rfl ⟨by decide +kernel, rfl⟩ (z_letU fun u8 => ?_)
  refine z_aload_n (pc' := 41) (k := 0) (i := 0) 0 rfl rfl ⟨by decide +kernel, rfl⟩ ?_
  refine z_iconst (pc' := 42) (n := 0) (v := 0) (by decide) ⟨by decide +kernel, rfl⟩ ?_
  refine z_putI (pc' := 45) (rff_rows ca D) rfl ⟨by decide +kernel, rfl⟩ (z_letU fun u9 => ?_)
  refine z_aload_n (pc' := 46) (k := 0) (i := 0) 0 rfl rfl ⟨by decide +kernel, rfl⟩ ?_
  refine z_iconst (pc' := 47) (n := 0) (v := 0) (by decide) ⟨by decide +kernel, rfl⟩ ?_
  refine z_putI (pc' := 50) (rff_printedN ca D) rfl ⟨by decide +kernel, rfl⟩ (z_letU fun u10 => ?_)
  refine z_aload_n (pc' := 51) (k := 0) (i := 0) 0 rfl rfl ⟨by decide +kernel, rfl⟩ ?_
  refine z_iconst (pc' := 52) (n := 0) (v := 0) (by decide) ⟨by decide +kernel, rfl⟩ ?_
  refine z_putI (pc' := 55) (rff_dictionaries ca D) rfl ⟨by decide +kernel, rfl⟩ (z_letU fun u11 => ?_)
  refine z_aload_n (pc' := 56) (k := 0) (i := 0) 0 rfl rfl ⟨by decide +kernel, rfl⟩ ?_
  refine z_iconst (pc' := 57) (n := 0) (v := 0) (by decide) ⟨by decide +kernel, rfl⟩ ?_
  refine z_putI (pc' := 60) (rff_hits ca D) rfl ⟨by decide +kernel, rfl⟩ (z_letU fun u12 => ?_)
  refine z_aload_n (pc' := 61) (k := 0) (i := 0) 0 rfl rfl ⟨by decide +kernel, rfl⟩ ?_
  refine z_iconst (pc' := 62) (n := 0) (v := 0) (by decide) ⟨by decide +kernel, rfl⟩ ?_
  refine z_putI (pc' := 65) (rff_misses ca D) rfl ⟨by decide +kernel, rfl⟩ (z_letU fun u13 => ?_)
  refine z_aload_n (pc' := 66) (k := 0) (i := 0) 0 rfl rfl ⟨by decide +kernel, rfl⟩ ?_
  refine z_iconst (pc' := 67) (n := 0) (v := 0) (by decide) ⟨by decide +kernel, rfl⟩ ?_
  refine z_putI (pc' := 70) (rff_broken ca D) rfl ⟨by decide +kernel, rfl⟩ (z_letU fun u14 => ?_)
  refine z_aload_n (pc' := 71) (k := 0) (i := 0) 0 rfl rfl ⟨by decide +kernel, rfl⟩ ?_
  refine z_iconst (pc' := 72) (n := 0) (v := 0) (by decide) ⟨by decide +kernel, rfl⟩ ?_
  refine z_putI (pc' := 75) (rff_madeN ca D) rfl ⟨by decide +kernel, rfl⟩ (z_letU fun u15 => ?_)
  refine z_aload_n (pc' := 76) (k := 0) (i := 0) 0 rfl rfl ⟨by decide +kernel, rfl⟩ ?_
  refine z_iconst (pc' := 77) (n := 0) (v := 0) (by decide) ⟨by decide +kernel, rfl⟩ ?_
  refine z_putI (pc' := 80) (rff_leftN ca D) rfl ⟨by decide +kernel, rfl⟩ (z_letU fun u16 => ?_)
  refine z_aload_n (pc' := 81) (k := 0) (i := 0) 0 rfl rfl ⟨by decide +kernel, rfl⟩ ?_
  refine z_iconst (pc' := 82) (n := 0) (v := 0) (by decide) ⟨by decide +kernel, rfl⟩ ?_
  refine z_putI (pc' := 85) (rff_widened ca D) rfl ⟨by decide +kernel, rfl⟩ (z_letU fun u17 => ?_)
  refine z_aload_n (pc' := 86) (k := 0) (i := 0) 0 rfl rfl ⟨by decide +kernel, rfl⟩ ?_
  refine z_iconst (pc' := 87) (n := 0) (v := 0) (by decide) ⟨by decide +kernel, rfl⟩ ?_
  refine z_putI (pc' := 90) (rff_deepest ca D) rfl ⟨by decide +kernel, rfl⟩ (z_letU fun u18 => ?_)
  refine z_aload_n (pc' := 91) (k := 0) (i := 0) 0 rfl rfl ⟨by decide +kernel, rfl⟩ ?_
  refine z_iconst (pc' := 92) (n := 0) (v := 0) (by decide) ⟨by decide +kernel, rfl⟩ ?_
  refine z_putI (pc' := 95) (rff_members ca D) rfl ⟨by decide +kernel, rfl⟩ (z_letU fun u19 => ?_)
  refine z_iconst (pc' := 96) (n := 0) (v := 0) (by decide) ⟨by decide +kernel, rfl⟩ ?_
  refine z_istore_n (pc' := 97) (k := 1) (i := 1) rfl (by decide) rfl ⟨by decide +kernel, rfl⟩ ?_
  refine z_lv [1, 0] (lv' := [(0, .ref (a 0)), (1, .int 0)]) rfl ?_
  exact rf_anew_L97_t n n u19 0
set_option maxRecDepth 20000 in
set_option maxHeartbeats 4000000 in
theorem rf_read_L151_t {κ : zKx} {ca : Nat → ClassId} {D : va_G} {A : Nat → Prop} {c0 : Nat × Nat} {a g0 g : Nat → Nat} (n k : Nat) : ∀ (m : Nat) (u : zMu) (x1 : Int32) (x2 : Int32), zJ κ (zRf ca D) prog_13_method_38_code 3 rf_C (some .int) zri true (2 * k + 9) A c0 a g0 g u 151 [(0, .ref (a 0)), (1, .int x1), (2, .int x2)] [] (rf_read_L151 n k m u x1 x2) := by
  intro m
  induction m with
  | zero => intro u x1 x2 r u' h; cases h
  | succ m ih =>
    intro u x1 x2
    unfold rf_read_L151
    refine z_iload_n (pc' := 152) (k := 2) (i := 2) 2 rfl rfl ⟨by decide +kernel, rfl⟩ ?_
    refine z_iload_n (pc' := 153) (k := 1) (i := 1) 1 rfl rfl ⟨by decide +kernel, rfl⟩ ?_
    refine z_icmp_ge (pc' := 156) (tgt := 174) (off := 21) ⟨by decide +kernel, rfl⟩ rfl (fun h1 => ?_) (fun h1 => ?_)
    · refine z_aload_n (pc' := 157) (k := 0) (i := 0) 0 rfl rfl ⟨by decide +kernel, rfl⟩ ?_
      refine z_getR (pc' := 160) (rff_text ca D) rfl (y := a 2) rfl ⟨by decide +kernel, rfl⟩ ?_
      refine z_iload_n (pc' := 161) (k := 2) (i := 2) 2 rfl rfl ⟨by decide +kernel, rfl⟩ ?_
      refine z_aload_n (pc' := 162) (k := 0) (i := 0) 0 rfl rfl ⟨by decide +kernel, rfl⟩ ?_
      refine z_getR (pc' := 165) (rff_old ca D) rfl (y := a 3) rfl ⟨by decide +kernel, rfl⟩ ?_
      refine z_iload_n (pc' := 166) (k := 2) (i := 2) 2 rfl rfl ⟨by decide +kernel, rfl⟩ ?_
      refine z_iald (pc' := 167) 3 rfl (zlt rfl) rfl rfl ⟨by decide +kernel, rfl⟩ ?_
      refine z_iast (pc' := 168) 2 rfl (zlt rfl) rfl rfl ⟨by decide +kernel, rfl⟩ (z_letU fun u2 => ?_)
      refine z_iincN (pc' := 171) (i := 2) (n := 1) (c := 1) 2 rfl (by decide) (by decide) rfl ⟨by decide +kernel, rfl⟩ fun v3 => ?_
      refine z_goto (tgt := 151) (off := -20) (by decide +kernel) rfl ?_
      refine z_lv [1, 2, 0] (lv' := [(0, .ref (a 0)), (1, .int x1), (2, .int v3)]) rfl ?_
      exact ih u2 x1 v3
    · refine z_aload_n (pc' := 175) (k := 0) (i := 0) 0 rfl rfl ⟨by decide +kernel, rfl⟩ ?_
      refine z_iload_n (pc' := 176) (k := 1) (i := 1) 1 rfl rfl ⟨by decide +kernel, rfl⟩ ?_
      refine z_putI (pc' := 179) (rff_size ca D) rfl ⟨by decide +kernel, rfl⟩ (z_letU fun u4 => ?_)
      refine z_aload_n (pc' := 180) (k := 0) (i := 0) 0 rfl rfl ⟨by decide +kernel, rfl⟩ ?_
      refine z_callVf (pc' := 183) 0 (rft_takes n k u4) (rfG_takes ca D) (rfO ca D) rfl (by omega) rfl rfl (Nat.le_of_ble_eq_true rfl) ⟨by decide +kernel, rfl⟩ (fun _ u6 => ?_)
      refine z_bipush (pc' := 185) (n := (-10)) (v := (-10)) (by decide) ⟨by decide +kernel, rfl⟩ ?_
      refine z_aload_n (pc' := 186) (k := 0) (i := 0) 0 rfl rfl ⟨by decide +kernel, rfl⟩ ?_
      refine z_getI (pc' := 189) (rff_faultKind ca D) rfl ⟨by decide +kernel, rfl⟩ ?_
      refine z_isub (pc' := 190) ⟨by decide +kernel, rfl⟩ ?_
      exact z_iret (pc' := 191) ⟨by decide +kernel, rfl⟩
set_option maxRecDepth 20000 in
set_option maxHeartbeats 4000000 in
theorem rf_read_J125_t {κ : zKx} {ca : Nat → ClassId} {D : va_G} {A : Nat → Prop} {c0 : Nat × Nat} {a g0 g : Nat → Nat} (n k : Nat) (u : zMu) (x1 : Int32) (s1 : Int32) : zJ κ (zRf ca D) prog_13_method_38_code 3 rf_C (some .int) zri true (2 * k + 9) A c0 a g0 g u 125 [(0, .ref (a 0)), (1, .int x1)] [.int s1, .ref (a 0)] (rf_read_J125 n k u x1 s1) := by
  unfold rf_read_J125
  refine z_putI (pc' := 128) (rff_faultPlace ca D) rfl ⟨by decide +kernel, rfl⟩ (z_letU fun u1 => ?_)
  refine z_aload_n (pc' := 129) (k := 0) (i := 0) 0 rfl rfl ⟨by decide +kernel, rfl⟩ ?_
  refine z_getI (pc' := 132) (rff_faultKind ca D) rfl ⟨by decide +kernel, rfl⟩ ?_
  refine z_if_ne (pc' := 135) (tgt := 149) (off := 17) ⟨by decide +kernel, rfl⟩ rfl (fun h2 => ?_) (fun h2 => ?_)
  · refine z_aload_n (pc' := 136) (k := 0) (i := 0) 0 rfl rfl ⟨by decide +kernel, rfl⟩ ?_
    refine z_iconst (pc' := 137) (n := 1) (v := 1) (by decide) ⟨by decide +kernel, rfl⟩ ?_
    refine z_putZ (pc' := 140) (rff_hasText ca D) rfl (by decide) ⟨by decide +kernel, rfl⟩ (z_letU fun u3 => ?_)
    refine z_aload_n (pc' := 141) (k := 0) (i := 0) 0 rfl rfl ⟨by decide +kernel, rfl⟩ ?_
    refine z_callVf (pc' := 144) 0 (rft_anew n u3) (rfG_anew ca D) (rfO ca D) rfl (by omega) rfl rfl (Nat.le_of_ble_eq_true rfl) ⟨by decide +kernel, rfl⟩ (fun _ u5 => ?_)
    refine z_aload_n (pc' := 145) (k := 0) (i := 0) 0 rfl rfl ⟨by decide +kernel, rfl⟩ ?_
    refine z_getI (pc' := 148) (rff_sites ca D) rfl ⟨by decide +kernel, rfl⟩ ?_
    exact z_iret (pc' := 149) ⟨by decide +kernel, rfl⟩
  · refine z_iconst (pc' := 150) (n := 0) (v := 0) (by decide) ⟨by decide +kernel, rfl⟩ ?_
    refine z_istore_n (pc' := 151) (k := 2) (i := 2) rfl (by decide) rfl ⟨by decide +kernel, rfl⟩ ?_
    refine z_lv [1, 2, 0] (lv' := [(0, .ref (a 0)), (1, .int x1), (2, .int 0)]) rfl ?_
    exact rf_read_L151_t n k n u1 x1 0
set_option maxRecDepth 20000 in
set_option maxHeartbeats 4000000 in
theorem rf_read_J103_t {κ : zKx} {ca : Nat → ClassId} {D : va_G} {A : Nat → Prop} {c0 : Nat × Nat} {a g0 g : Nat → Nat} (n k : Nat) (u : zMu) (x1 : Int32) (s1 : Int32) : zJ κ (zRf ca D) prog_13_method_38_code 3 rf_C (some .int) zri true (2 * k + 9) A c0 a g0 g u 103 [(0, .ref (a 0)), (1, .int x1)] [.int s1, .ref (a 0)] (rf_read_J103 n k u x1 s1) := by
  unfold rf_read_J103
  refine z_putI (pc' := 106) (rff_faultKind ca D) rfl ⟨by decide +kernel, rfl⟩ (z_letU fun u1 => ?_)
  refine z_aload_n (pc' := 107) (k := 0) (i := 0) 0 rfl rfl ⟨by decide +kernel, rfl⟩ ?_
  refine z_aload_n (pc' := 108) (k := 0) (i := 0) 0 rfl rfl ⟨by decide +kernel, rfl⟩ ?_
  refine z_callVf (pc' := 111) 0 (rft_isWrong n u1) (rfG_isWrong ca D) (rfO ca D) rfl (by omega) rfl rfl (Nat.le_of_ble_eq_true rfl) ⟨by decide +kernel, rfl⟩ (fun r2 u3 => ?_)
  refine z_if_eq (pc' := 114) (tgt := 121) (off := 10) ⟨by decide +kernel, rfl⟩ rfl (fun h4 => ?_) (fun h4 => ?_)
  · refine z_aload_n (pc' := 122) (k := 0) (i := 0) 0 rfl rfl ⟨by decide +kernel, rfl⟩ ?_
    refine z_getI (pc' := 125) (rff_later ca D) rfl ⟨by decide +kernel, rfl⟩ ?_
    exact rf_read_J125_t n k u3 x1 (zI u3 0 16)
  · refine z_aload_n (pc' := 115) (k := 0) (i := 0) 0 rfl rfl ⟨by decide +kernel, rfl⟩ ?_
    refine z_getI (pc' := 118) (rff_wrong ca D) rfl ⟨by decide +kernel, rfl⟩ ?_
    refine z_goto (tgt := 125) (off := 7) (by decide +kernel) rfl ?_
    exact rf_read_J125_t n k u3 x1 (zI u3 0 15)
set_option maxRecDepth 20000 in
set_option maxHeartbeats 4000000 in
theorem rf_read_L32_t {κ : zKx} {ca : Nat → ClassId} {D : va_G} {A : Nat → Prop} {c0 : Nat × Nat} {a g0 g : Nat → Nat} (n k : Nat) : ∀ (m : Nat) (u : zMu) (x1 : Int32) (x2 : Int32), zJ κ (zRf ca D) prog_13_method_38_code 3 rf_C (some .int) zri true (2 * k + 9) A c0 a g0 g u 32 [(0, .ref (a 0)), (1, .int x1), (2, .int x2)] [] (rf_read_L32 n k m u x1 x2) := by
  intro m
  induction m with
  | zero => intro u x1 x2 r u' h; cases h
  | succ m ih =>
    intro u x1 x2
    unfold rf_read_L32
    refine z_iload_n (pc' := 33) (k := 2) (i := 2) 2 rfl rfl ⟨by decide +kernel, rfl⟩ ?_
    refine z_aload_n (pc' := 34) (k := 0) (i := 0) 0 rfl rfl ⟨by decide +kernel, rfl⟩ ?_
    refine z_getI (pc' := 37) (rff_taped ca D) rfl ⟨by decide +kernel, rfl⟩ ?_
    refine z_icmp_ge (pc' := 40) (tgt := 58) (off := 21) ⟨by decide +kernel, rfl⟩ rfl (fun h1 => ?_) (fun h1 => ?_)
    · refine z_aload_n (pc' := 41) (k := 0) (i := 0) 0 rfl rfl ⟨by decide +kernel, rfl⟩ ?_
      refine z_getR (pc' := 44) (rff_text ca D) rfl (y := a 2) rfl ⟨by decide +kernel, rfl⟩ ?_
      refine z_iload_n (pc' := 45) (k := 2) (i := 2) 2 rfl rfl ⟨by decide +kernel, rfl⟩ ?_
      refine z_aload_n (pc' := 46) (k := 0) (i := 0) 0 rfl rfl ⟨by decide +kernel, rfl⟩ ?_
      refine z_getR (pc' := 49) (rff_tape ca D) rfl (y := a 1) rfl ⟨by decide +kernel, rfl⟩ ?_
      refine z_iload_n (pc' := 50) (k := 2) (i := 2) 2 rfl rfl ⟨by decide +kernel, rfl⟩ ?_
      refine z_iald (pc' := 51) 1 rfl (zlt rfl) rfl rfl ⟨by decide +kernel, rfl⟩ ?_
      refine z_iast (pc' := 52) 2 rfl (zlt rfl) rfl rfl ⟨by decide +kernel, rfl⟩ (z_letU fun u2 => ?_)
      refine z_iincN (pc' := 55) (i := 2) (n := 1) (c := 1) 2 rfl (by decide) (by decide) rfl ⟨by decide +kernel, rfl⟩ fun v3 => ?_
      refine z_goto (tgt := 32) (off := -23) (by decide +kernel) rfl ?_
      refine z_lv [1, 2, 0] (lv' := [(0, .ref (a 0)), (1, .int x1), (2, .int v3)]) rfl ?_
      exact ih u2 x1 v3
    · refine z_aload_n (pc' := 59) (k := 0) (i := 0) 0 rfl rfl ⟨by decide +kernel, rfl⟩ ?_
      refine z_aload_n (pc' := 60) (k := 0) (i := 0) 0 rfl rfl ⟨by decide +kernel, rfl⟩ ?_
      refine z_getI (pc' := 63) (rff_taped ca D) rfl ⟨by decide +kernel, rfl⟩ ?_
      refine z_putI (pc' := 66) (rff_size ca D) rfl ⟨by decide +kernel, rfl⟩ (z_letU fun u4 => ?_)
      refine z_aload_n (pc' := 67) (k := 0) (i := 0) 0 rfl rfl ⟨by decide +kernel, rfl⟩ ?_
      refine z_iconst (pc' := 68) (n := 0) (v := 0) (by decide) ⟨by decide +kernel, rfl⟩ ?_
      refine z_putI (pc' := 71) (rff_taped ca D) rfl ⟨by decide +kernel, rfl⟩ (z_letU fun u5 => ?_)
      refine z_aload_n (pc' := 72) (k := 0) (i := 0) 0 rfl rfl ⟨by decide +kernel, rfl⟩ ?_
      refine z_callVf (pc' := 75) 0 (rft_takes n k u5) (rfG_takes ca D) (rfO ca D) rfl (by omega) rfl rfl (Nat.le_of_ble_eq_true rfl) ⟨by decide +kernel, rfl⟩ (fun _ u7 => ?_)
      refine z_aload_n (pc' := 76) (k := 0) (i := 0) 0 rfl rfl ⟨by decide +kernel, rfl⟩ ?_
      refine z_aload_n (pc' := 77) (k := 0) (i := 0) 0 rfl rfl ⟨by decide +kernel, rfl⟩ ?_
      refine z_callVf (pc' := 80) 0 (rft_isWrong n u7) (rfG_isWrong ca D) (rfO ca D) rfl (by omega) rfl rfl (Nat.le_of_ble_eq_true rfl) ⟨by decide +kernel, rfl⟩ (fun r8 u9 => ?_)
      refine z_if_eq (pc' := 83) (tgt := 87) (off := 7) ⟨by decide +kernel, rfl⟩ rfl (fun h10 => ?_) (fun h10 => ?_)
      · refine z_aload_n (pc' := 88) (k := 0) (i := 0) 0 rfl rfl ⟨by decide +kernel, rfl⟩ ?_
        refine z_getI (pc' := 91) (rff_later ca D) rfl ⟨by decide +kernel, rfl⟩ ?_
        refine z_iconst (pc' := 92) (n := (-1)) (v := (-1)) (by decide) ⟨by decide +kernel, rfl⟩ ?_
        refine z_icmp_ne (pc' := 95) (tgt := 99) (off := 7) ⟨by decide +kernel, rfl⟩ rfl (fun h11 => ?_) (fun h11 => ?_)
        · refine z_iconst (pc' := 96) (n := 0) (v := 0) (by decide) ⟨by decide +kernel, rfl⟩ ?_
          refine z_goto (tgt := 103) (off := 7) (by decide +kernel) rfl ?_
          refine z_lv [0, 1] (lv' := [(0, .ref (a 0)), (1, .int x1)]) rfl ?_
          exact rf_read_J103_t n k u9 x1 0
        · refine z_aload_n (pc' := 100) (k := 0) (i := 0) 0 rfl rfl ⟨by decide +kernel, rfl⟩ ?_
          refine z_getI (pc' := 103) (rff_laterKind ca D) rfl ⟨by decide +kernel, rfl⟩ ?_
          refine z_lv [0, 1] (lv' := [(0, .ref (a 0)), (1, .int x1)]) rfl ?_
          exact rf_read_J103_t n k u9 x1 (zI u9 0 17)
      · refine z_iconst (pc' := 84) (n := 1) (v := 1) (by decide) ⟨by decide +kernel, rfl⟩ ?_
        refine z_goto (tgt := 103) (off := 19) (by decide +kernel) rfl ?_
        refine z_lv [0, 1] (lv' := [(0, .ref (a 0)), (1, .int x1)]) rfl ?_
        exact rf_read_J103_t n k u9 x1 1
set_option maxRecDepth 20000 in
set_option maxHeartbeats 4000000 in
theorem rf_read_L7_t {κ : zKx} {ca : Nat → ClassId} {D : va_G} {A : Nat → Prop} {c0 : Nat × Nat} {a g0 g : Nat → Nat} (n k : Nat) : ∀ (m : Nat) (u : zMu) (x1 : Int32) (x2 : Int32), zJ κ (zRf ca D) prog_13_method_38_code 3 rf_C (some .int) zri true (2 * k + 9) A c0 a g0 g u 7 [(0, .ref (a 0)), (1, .int x1), (2, .int x2)] [] (rf_read_L7 n k m u x1 x2) := by
  intro m
  induction m with
  | zero => intro u x1 x2 r u' h; cases h
  | succ m ih =>
    intro u x1 x2
    unfold rf_read_L7
    refine z_iload_n (pc' := 8) (k := 2) (i := 2) 2 rfl rfl ⟨by decide +kernel, rfl⟩ ?_
    refine z_iload_n (pc' := 9) (k := 1) (i := 1) 1 rfl rfl ⟨by decide +kernel, rfl⟩ ?_
    refine z_icmp_ge (pc' := 12) (tgt := 30) (off := 21) ⟨by decide +kernel, rfl⟩ rfl (fun h1 => ?_) (fun h1 => ?_)
    · refine z_aload_n (pc' := 13) (k := 0) (i := 0) 0 rfl rfl ⟨by decide +kernel, rfl⟩ ?_
      refine z_getR (pc' := 16) (rff_old ca D) rfl (y := a 3) rfl ⟨by decide +kernel, rfl⟩ ?_
      refine z_iload_n (pc' := 17) (k := 2) (i := 2) 2 rfl rfl ⟨by decide +kernel, rfl⟩ ?_
      refine z_aload_n (pc' := 18) (k := 0) (i := 0) 0 rfl rfl ⟨by decide +kernel, rfl⟩ ?_
      refine z_getR (pc' := 21) (rff_text ca D) rfl (y := a 2) rfl ⟨by decide +kernel, rfl⟩ ?_
      refine z_iload_n (pc' := 22) (k := 2) (i := 2) 2 rfl rfl ⟨by decide +kernel, rfl⟩ ?_
      refine z_iald (pc' := 23) 2 rfl (zlt rfl) rfl rfl ⟨by decide +kernel, rfl⟩ ?_
      refine z_iast (pc' := 24) 3 rfl (zlt rfl) rfl rfl ⟨by decide +kernel, rfl⟩ (z_letU fun u2 => ?_)
      refine z_iincN (pc' := 27) (i := 2) (n := 1) (c := 1) 2 rfl (by decide) (by decide) rfl ⟨by decide +kernel, rfl⟩ fun v3 => ?_
      refine z_goto (tgt := 7) (off := -20) (by decide +kernel) rfl ?_
      refine z_lv [1, 2, 0] (lv' := [(0, .ref (a 0)), (1, .int x1), (2, .int v3)]) rfl ?_
      exact ih u2 x1 v3
    · refine z_iconst (pc' := 31) (n := 0) (v := 0) (by decide) ⟨by decide +kernel, rfl⟩ ?_
      refine z_istore_n (pc' := 32) (k := 2) (i := 2) rfl (by decide) rfl ⟨by decide +kernel, rfl⟩ ?_
      refine z_lv [1, 2, 0] (lv' := [(0, .ref (a 0)), (1, .int x1), (2, .int 0)]) rfl ?_
      exact rf_read_L32_t n k n u x1 0
set_option maxRecDepth 20000 in
set_option maxHeartbeats 4000000 in
theorem rft_read {l : Launch} {ca : Nat → ClassId} {D : va_G} {a g : Nat → Nat} (n k : Nat) (u : zMu) : zMet l (zRf ca D) rfY_read (.code rfY_read prog_13_method_38_code 3 (some .int)) zri true (2 * k + 9) a g [.ref (a 0)] u (rf_read n k u) := by
  refine zMet.of rfl (Nat.le_of_ble_eq_true rfl) fun κ A hl => ?_
  subst hl
  unfold rf_read
  refine z_aload_n (pc' := 1) (k := 0) (i := 0) 0 rfl rfl ⟨by decide +kernel, rfl⟩ ?_
  refine z_getI (pc' := 4) (rff_size ca D) rfl ⟨by decide +kernel, rfl⟩ ?_
  refine z_letI fun v1 => ?_
  refine z_istore_n (pc' := 5) (k := 1) (i := 1) rfl (by decide) rfl ⟨by decide +kernel, rfl⟩ ?_
  refine z_iconst (pc' := 6) (n := 0) (v := 0) (by decide) ⟨by decide +kernel, rfl⟩ ?_
  refine z_istore_n (pc' := 7) (k := 2) (i := 2) rfl (by decide) rfl ⟨by decide +kernel, rfl⟩ ?_
  refine z_lv [2, 1, 0] (lv' := [(0, .ref (a 0)), (1, .int v1), (2, .int 0)]) rfl ?_
  exact rf_read_L7_t n k n u v1 0
set_option maxRecDepth 20000 in
set_option maxHeartbeats 4000000 in
theorem rft_fault {l : Launch} {ca : Nat → ClassId} {D : va_G} {a g : Nat → Nat} (n : Nat) (u : zMu) (x1 : Int32) : zMet l (zRf ca D) rfY_fault (.code rfY_fault prog_13_method_39_code 2 (some .int)) zri true 0 a g [.ref (a 0), .int x1] u (rf_fault n u x1) := by
  refine zMet.of rfl (Nat.le_of_ble_eq_true rfl) fun κ A hl => ?_
  subst hl
  unfold rf_fault
  refine z_iload_n (pc' := 1) (k := 1) (i := 1) 1 rfl rfl ⟨by decide +kernel, rfl⟩ ?_
  refine z_if_ne (pc' := 4) (tgt := 11) (off := 10) ⟨by decide +kernel, rfl⟩ rfl (fun h1 => ?_) (fun h1 => ?_)
  · refine z_aload_n (pc' := 5) (k := 0) (i := 0) 0 rfl rfl ⟨by decide +kernel, rfl⟩ ?_
    refine z_getI (pc' := 8) (rff_faultKind ca D) rfl ⟨by decide +kernel, rfl⟩ ?_
    refine z_goto (tgt := 25) (off := 17) (by decide +kernel) rfl ?_
    exact z_iret (pc' := 26) ⟨by decide +kernel, rfl⟩
  · refine z_iload_n (pc' := 12) (k := 1) (i := 1) 1 rfl rfl ⟨by decide +kernel, rfl⟩ ?_
    refine z_iconst (pc' := 13) (n := 1) (v := 1) (by decide) ⟨by decide +kernel, rfl⟩ ?_
    refine z_icmp_ne (pc' := 16) (tgt := 23) (off := 10) ⟨by decide +kernel, rfl⟩ rfl (fun h2 => ?_) (fun h2 => ?_)
    · refine z_aload_n (pc' := 17) (k := 0) (i := 0) 0 rfl rfl ⟨by decide +kernel, rfl⟩ ?_
      refine z_getI (pc' := 20) (rff_faultPlace ca D) rfl ⟨by decide +kernel, rfl⟩ ?_
      refine z_goto (tgt := 25) (off := 5) (by decide +kernel) rfl ?_
      exact z_iret (pc' := 26) ⟨by decide +kernel, rfl⟩
    · refine z_bipush (pc' := 25) (n := (-2)) (v := (-2)) (by decide) ⟨by decide +kernel, rfl⟩ ?_
      exact z_iret (pc' := 26) ⟨by decide +kernel, rfl⟩
set_option maxRecDepth 20000 in
set_option maxHeartbeats 4000000 in
theorem rft_pushes {l : Launch} {ca : Nat → ClassId} {D : va_G} {a g : Nat → Nat} (n : Nat) (u : zMu) (x1 : Int32) (x2 : Int64) : zMet l (zRf ca D) rfY_pushes (.code rfY_pushes prog_13_method_41_code 4 none) zrv true 0 a g [.ref (a 0), .int x1, .long x2] u (rf_pushes n u x1 x2) := by
  refine zMet.of rfl (Nat.le_of_ble_eq_true rfl) fun κ A hl => ?_
  subst hl
  unfold rf_pushes
  refine z_aload_n (pc' := 1) (k := 0) (i := 0) 0 rfl rfl ⟨by decide +kernel, rfl⟩ ?_
  refine z_getR (pc' := 4) (rff_vSort ca D) rfl (y := a 27) rfl ⟨by decide +kernel, rfl⟩ ?_
  refine z_aload_n (pc' := 5) (k := 0) (i := 0) 0 rfl rfl ⟨by decide +kernel, rfl⟩ ?_
  refine z_getI (pc' := 8) (rff_top ca D) rfl ⟨by decide +kernel, rfl⟩ ?_
  refine z_iload_n (pc' := 9) (k := 1) (i := 1) 1 rfl rfl ⟨by decide +kernel, rfl⟩ ?_
  refine z_iast (pc' := 10) 27 rfl (zlt rfl) rfl rfl ⟨by decide +kernel, rfl⟩ (z_letU fun u1 => ?_)
  refine z_aload_n (pc' := 11) (k := 0) (i := 0) 0 rfl rfl ⟨by decide +kernel, rfl⟩ ?_
  refine z_getR (pc' := 14) (rff_vNum ca D) rfl (y := a 31) rfl ⟨by decide +kernel, rfl⟩ ?_
  refine z_aload_n (pc' := 15) (k := 0) (i := 0) 0 rfl rfl ⟨by decide +kernel, rfl⟩ ?_
  refine z_getI (pc' := 18) (rff_top ca D) rfl ⟨by decide +kernel, rfl⟩ ?_
  refine z_lload_n (pc' := 19) (k := 2) (i := 2) 2 rfl rfl ⟨by decide +kernel, rfl⟩ ?_
  refine z_last (pc' := 20) 31 rfl (zlt rfl) rfl rfl ⟨by decide +kernel, rfl⟩ (z_letU fun u2 => ?_)
  refine z_aload_n (pc' := 21) (k := 0) (i := 0) 0 rfl rfl ⟨by decide +kernel, rfl⟩ ?_
  refine z_dup (pc' := 22) rfl ⟨by decide +kernel, rfl⟩ ?_
  refine z_getI (pc' := 25) (rff_top ca D) rfl ⟨by decide +kernel, rfl⟩ ?_
  refine z_iconst (pc' := 26) (n := 1) (v := 1) (by decide) ⟨by decide +kernel, rfl⟩ ?_
  refine z_iadd (pc' := 27) ⟨by decide +kernel, rfl⟩ ?_
  refine z_putI (pc' := 30) (rff_top ca D) rfl ⟨by decide +kernel, rfl⟩ (z_letU fun u3 => ?_)
  exact z_vret (pc' := 31) ⟨by decide +kernel, rfl⟩
set_option maxRecDepth 20000 in
set_option maxHeartbeats 4000000 in
theorem rft_fails {l : Launch} {ca : Nat → ClassId} {D : va_G} {a g : Nat → Nat} (n : Nat) (u : zMu) (x1 : Int32) (x2 : Int32) : zMet l (zRf ca D) rfY_fails (.code rfY_fails prog_13_method_42_code 3 (some .int)) zri true 0 a g [.ref (a 0), .int x1, .int x2] u (rf_fails n u x1 x2) := by
  refine zMet.of rfl (Nat.le_of_ble_eq_true rfl) fun κ A hl => ?_
  subst hl
  unfold rf_fails
  refine z_aload_n (pc' := 1) (k := 0) (i := 0) 0 rfl rfl ⟨by decide +kernel, rfl⟩ ?_
  refine z_iload_n (pc' := 2) (k := 1) (i := 1) 1 rfl rfl ⟨by decide +kernel, rfl⟩ ?_
  refine z_putI (pc' := 5) (rff_failure ca D) rfl ⟨by decide +kernel, rfl⟩ (z_letU fun u1 => ?_)
  refine z_aload_n (pc' := 6) (k := 0) (i := 0) 0 rfl rfl ⟨by decide +kernel, rfl⟩ ?_
  refine z_iload_n (pc' := 7) (k := 2) (i := 2) 2 rfl rfl ⟨by decide +kernel, rfl⟩ ?_
  refine z_putI (pc' := 10) (rff_failedAt ca D) rfl ⟨by decide +kernel, rfl⟩ (z_letU fun u2 => ?_)
  refine z_iconst (pc' := 11) (n := 1) (v := 1) (by decide) ⟨by decide +kernel, rfl⟩ ?_
  exact z_iret (pc' := 12) ⟨by decide +kernel, rfl⟩
set_option maxRecDepth 20000 in
set_option maxHeartbeats 4000000 in
theorem rft_isWhole {l : Launch} {ca : Nat → ClassId} {D : va_G} {a g : Nat → Nat} (n : Nat) (u : zMu) (x0 : Int64) : zMet l (zRf ca D) rfY_isWhole (.code rfY_isWhole prog_13_method_43_code 2 (some .boolean)) zri true 0 a g [.long x0] u (rf_isWhole n u x0) := by
  refine zMet.of rfl (Nat.le_of_ble_eq_true rfl) fun κ A hl => ?_
  subst hl
  unfold rf_isWhole
  refine z_lload_n (pc' := 1) (k := 0) (i := 0) 0 rfl rfl ⟨by decide +kernel, rfl⟩ ?_
  refine z_ldc2 (pc' := 4) (v := (-1073741824)) (rf_w 4 rfl) ⟨by decide +kernel, rfl⟩ ?_
  refine z_lcmp (pc' := 5) ⟨by decide +kernel, rfl⟩ ?_
  refine z_if_lt (pc' := 8) (tgt := 20) (off := 15) ⟨by decide +kernel, rfl⟩ rfl (fun h1 => ?_) (fun h1 => ?_)
  · refine z_iconst (pc' := 21) (n := 0) (v := 0) (by decide) ⟨by decide +kernel, rfl⟩ ?_
    exact z_zret (pc' := 22) (by decide) ⟨by decide +kernel, rfl⟩
  · refine z_lload_n (pc' := 9) (k := 0) (i := 0) 0 rfl rfl ⟨by decide +kernel, rfl⟩ ?_
    refine z_ldc2 (pc' := 12) (v := 1073741823) (rf_w 5 rfl) ⟨by decide +kernel, rfl⟩ ?_
    refine z_lcmp (pc' := 13) ⟨by decide +kernel, rfl⟩ ?_
    refine z_if_gt (pc' := 16) (tgt := 20) (off := 7) ⟨by decide +kernel, rfl⟩ rfl (fun h2 => ?_) (fun h2 => ?_)
    · refine z_iconst (pc' := 21) (n := 0) (v := 0) (by decide) ⟨by decide +kernel, rfl⟩ ?_
      exact z_zret (pc' := 22) (by decide) ⟨by decide +kernel, rfl⟩
    · refine z_iconst (pc' := 17) (n := 1) (v := 1) (by decide) ⟨by decide +kernel, rfl⟩ ?_
      refine z_goto (tgt := 21) (off := 4) (by decide +kernel) rfl ?_
      exact z_zret (pc' := 22) (by decide) ⟨by decide +kernel, rfl⟩
set_option maxRecDepth 20000 in
set_option maxHeartbeats 4000000 in
theorem rf_makes_L77_t {κ : zKx} {ca : Nat → ClassId} {D : va_G} {A : Nat → Prop} {c0 : Nat × Nat} {a g0 g : Nat → Nat} (n : Nat) (k29 : zMu → Int32 → Int32 → Option (Unit × zMu)) (hk29 : ∀ (u : zMu) (x1 : Int32) (x2 : Int32), zJ κ (zRf ca D) prog_13_method_46_code 4 rf_C none zrv true 0 A c0 a g0 g u 29 [(0, .ref (a 0)), (1, .int x1), (2, .int x2)] [] (k29 u x1 x2)) : ∀ (m : Nat) (u : zMu) (x1 : Int32) (x2 : Int32) (x3 : Int32), zJ κ (zRf ca D) prog_13_method_46_code 4 rf_C none zrv true 0 A c0 a g0 g u 77 [(0, .ref (a 0)), (1, .int x1), (2, .int x2), (3, .int x3)] [] (rf_makes_L77 n k29 m u x1 x2 x3) := by
  intro m
  induction m with
  | zero => intro u x1 x2 x3 r u' h; cases h
  | succ m ih =>
    intro u x1 x2 x3
    unfold rf_makes_L77
    refine z_iload_n (pc' := 78) (k := 3) (i := 3) 3 rfl rfl ⟨by decide +kernel, rfl⟩ ?_
    refine z_aload_n (pc' := 79) (k := 0) (i := 0) 0 rfl rfl ⟨by decide +kernel, rfl⟩ ?_
    refine z_getR (pc' := 82) (rff_entries ca D) rfl (y := a 54) rfl ⟨by decide +kernel, rfl⟩ ?_
    refine z_iload_n (pc' := 83) (k := 2) (i := 2) 2 rfl rfl ⟨by decide +kernel, rfl⟩ ?_
    refine z_iald (pc' := 84) 54 rfl (zlt rfl) rfl rfl ⟨by decide +kernel, rfl⟩ ?_
    refine z_icmp_ge (pc' := 87) (tgt := 113) (off := 29) ⟨by decide +kernel, rfl⟩ rfl (fun h1 => ?_) (fun h1 => ?_)
    · refine z_aload_n (pc' := 88) (k := 0) (i := 0) 0 rfl rfl ⟨by decide +kernel, rfl⟩ ?_
      refine z_getR (pc' := 91) (rff_guess ca D) rfl (y := a 60) rfl ⟨by decide +kernel, rfl⟩ ?_
      refine z_iconst (pc' := 92) (n := 4) (v := 4) (by decide) ⟨by decide +kernel, rfl⟩ ?_
      refine z_iload_n (pc' := 93) (k := 2) (i := 2) 2 rfl rfl ⟨by decide +kernel, rfl⟩ ?_
      refine z_imul (pc' := 94) ⟨by decide +kernel, rfl⟩ ?_
      refine z_iload_n (pc' := 95) (k := 3) (i := 3) 3 rfl rfl ⟨by decide +kernel, rfl⟩ ?_
      refine z_iadd (pc' := 96) ⟨by decide +kernel, rfl⟩ ?_
      refine z_aload_n (pc' := 97) (k := 0) (i := 0) 0 rfl rfl ⟨by decide +kernel, rfl⟩ ?_
      refine z_getR (pc' := 100) (rff_entry ca D) rfl (y := a 55) rfl ⟨by decide +kernel, rfl⟩ ?_
      refine z_iconst (pc' := 101) (n := 4) (v := 4) (by decide) ⟨by decide +kernel, rfl⟩ ?_
      refine z_iload_n (pc' := 102) (k := 2) (i := 2) 2 rfl rfl ⟨by decide +kernel, rfl⟩ ?_
      refine z_imul (pc' := 103) ⟨by decide +kernel, rfl⟩ ?_
      refine z_iload_n (pc' := 104) (k := 3) (i := 3) 3 rfl rfl ⟨by decide +kernel, rfl⟩ ?_
      refine z_iadd (pc' := 105) ⟨by decide +kernel, rfl⟩ ?_
      refine z_iald (pc' := 106) 55 rfl (zlt rfl) rfl rfl ⟨by decide +kernel, rfl⟩ ?_
      refine z_iast (pc' := 107) 60 rfl (zlt rfl) rfl rfl ⟨by decide +kernel, rfl⟩ (z_letU fun u2 => ?_)
      refine z_iincN (pc' := 110) (i := 3) (n := 1) (c := 1) 3 rfl (by decide) (by decide) rfl ⟨by decide +kernel, rfl⟩ fun v3 => ?_
      refine z_goto (tgt := 77) (off := -33) (by decide +kernel) rfl ?_
      refine z_lv [1, 2, 3, 0] (lv' := [(0, .ref (a 0)), (1, .int x1), (2, .int x2), (3, .int v3)]) rfl ?_
      exact ih u2 x1 x2 v3
    · refine z_aload_n (pc' := 114) (k := 0) (i := 0) 0 rfl rfl ⟨by decide +kernel, rfl⟩ ?_
      refine z_getR (pc' := 117) (rff_guesses ca D) rfl (y := a 59) rfl ⟨by decide +kernel, rfl⟩ ?_
      refine z_iload_n (pc' := 118) (k := 2) (i := 2) 2 rfl rfl ⟨by decide +kernel, rfl⟩ ?_
      refine z_aload_n (pc' := 119) (k := 0) (i := 0) 0 rfl rfl ⟨by decide +kernel, rfl⟩ ?_
      refine z_getR (pc' := 122) (rff_entries ca D) rfl (y := a 54) rfl ⟨by decide +kernel, rfl⟩ ?_
      refine z_iload_n (pc' := 123) (k := 2) (i := 2) 2 rfl rfl ⟨by decide +kernel, rfl⟩ ?_
      refine z_iald (pc' := 124) 54 rfl (zlt rfl) rfl rfl ⟨by decide +kernel, rfl⟩ ?_
      refine z_iast (pc' := 125) 59 rfl (zlt rfl) rfl rfl ⟨by decide +kernel, rfl⟩ (z_letU fun u4 => ?_)
      refine z_goto (tgt := 155) (off := 30) (by decide +kernel) rfl ?_
      refine z_iincN (pc' := 158) (i := 2) (n := 1) (c := 1) 2 rfl (by decide) (by decide) rfl ⟨by decide +kernel, rfl⟩ fun v5 => ?_
      refine z_goto (tgt := 29) (off := -129) (by decide +kernel) rfl ?_
      refine z_lv [1, 2, 0] (lv' := [(0, .ref (a 0)), (1, .int x1), (2, .int v5)]) rfl ?_
      exact hk29 u4 x1 v5
set_option maxRecDepth 20000 in
set_option maxHeartbeats 4000000 in
theorem rf_makes_J128_t {κ : zKx} {ca : Nat → ClassId} {D : va_G} {A : Nat → Prop} {c0 : Nat × Nat} {a g0 g : Nat → Nat} (n : Nat) (k29 : zMu → Int32 → Int32 → Option (Unit × zMu)) (hk29 : ∀ (u : zMu) (x1 : Int32) (x2 : Int32), zJ κ (zRf ca D) prog_13_method_46_code 4 rf_C none zrv true 0 A c0 a g0 g u 29 [(0, .ref (a 0)), (1, .int x1), (2, .int x2)] [] (k29 u x1 x2)) (u : zMu) (x1 : Int32) (x2 : Int32) : zJ κ (zRf ca D) prog_13_method_46_code 4 rf_C none zrv true 0 A c0 a g0 g u 128 [(0, .ref (a 0)), (1, .int x1), (2, .int x2)] [] (rf_makes_J128 n k29 u x1 x2) := by
  unfold rf_makes_J128
  refine z_aload_n (pc' := 129) (k := 0) (i := 0) 0 rfl rfl ⟨by decide +kernel, rfl⟩ ?_
  refine z_getR (pc' := 132) (rff_siteKind ca D) rfl (y := a 19) rfl ⟨by decide +kernel, rfl⟩ ?_
  refine z_iload_n (pc' := 133) (k := 2) (i := 2) 2 rfl rfl ⟨by decide +kernel, rfl⟩ ?_
  refine z_iald (pc' := 134) 19 rfl (zlt rfl) rfl rfl ⟨by decide +kernel, rfl⟩ ?_
  refine z_iconst (pc' := 135) (n := 3) (v := 3) (by decide) ⟨by decide +kernel, rfl⟩ ?_
  refine z_icmp_ne (pc' := 138) (tgt := 155) (off := 20) ⟨by decide +kernel, rfl⟩ rfl (fun h1 => ?_) (fun h1 => ?_)
  · refine z_aload_n (pc' := 139) (k := 0) (i := 0) 0 rfl rfl ⟨by decide +kernel, rfl⟩ ?_
    refine z_getR (pc' := 142) (rff_entries ca D) rfl (y := a 54) rfl ⟨by decide +kernel, rfl⟩ ?_
    refine z_iload_n (pc' := 143) (k := 2) (i := 2) 2 rfl rfl ⟨by decide +kernel, rfl⟩ ?_
    refine z_iald (pc' := 144) 54 rfl (zlt rfl) rfl rfl ⟨by decide +kernel, rfl⟩ ?_
    refine z_iconst (pc' := 145) (n := 1) (v := 1) (by decide) ⟨by decide +kernel, rfl⟩ ?_
    refine z_icmp_ne (pc' := 148) (tgt := 155) (off := 10) ⟨by decide +kernel, rfl⟩ rfl (fun h2 => ?_) (fun h2 => ?_)
    · refine z_aload_n (pc' := 149) (k := 0) (i := 0) 0 rfl rfl ⟨by decide +kernel, rfl⟩ ?_
      refine z_getR (pc' := 152) (rff_guesses ca D) rfl (y := a 59) rfl ⟨by decide +kernel, rfl⟩ ?_
      refine z_iload_n (pc' := 153) (k := 2) (i := 2) 2 rfl rfl ⟨by decide +kernel, rfl⟩ ?_
      refine z_iconst (pc' := 154) (n := 1) (v := 1) (by decide) ⟨by decide +kernel, rfl⟩ ?_
      refine z_iast (pc' := 155) 59 rfl (zlt rfl) rfl rfl ⟨by decide +kernel, rfl⟩ (z_letU fun u3 => ?_)
      refine z_iincN (pc' := 158) (i := 2) (n := 1) (c := 1) 2 rfl (by decide) (by decide) rfl ⟨by decide +kernel, rfl⟩ fun v4 => ?_
      refine z_goto (tgt := 29) (off := -129) (by decide +kernel) rfl ?_
      refine z_lv [1, 2, 0] (lv' := [(0, .ref (a 0)), (1, .int x1), (2, .int v4)]) rfl ?_
      exact hk29 u3 x1 v4
    · refine z_iincN (pc' := 158) (i := 2) (n := 1) (c := 1) 2 rfl (by decide) (by decide) rfl ⟨by decide +kernel, rfl⟩ fun v5 => ?_
      refine z_goto (tgt := 29) (off := -129) (by decide +kernel) rfl ?_
      refine z_lv [1, 2, 0] (lv' := [(0, .ref (a 0)), (1, .int x1), (2, .int v5)]) rfl ?_
      exact hk29 u x1 v5
  · refine z_iincN (pc' := 158) (i := 2) (n := 1) (c := 1) 2 rfl (by decide) (by decide) rfl ⟨by decide +kernel, rfl⟩ fun v6 => ?_
    refine z_goto (tgt := 29) (off := -129) (by decide +kernel) rfl ?_
    refine z_lv [1, 2, 0] (lv' := [(0, .ref (a 0)), (1, .int x1), (2, .int v6)]) rfl ?_
    exact hk29 u x1 v6
set_option maxRecDepth 20000 in
set_option maxHeartbeats 4000000 in
theorem rf_makes_L29_t {κ : zKx} {ca : Nat → ClassId} {D : va_G} {A : Nat → Prop} {c0 : Nat × Nat} {a g0 g : Nat → Nat} (n : Nat) : ∀ (m : Nat) (u : zMu) (x1 : Int32) (x2 : Int32), zJ κ (zRf ca D) prog_13_method_46_code 4 rf_C none zrv true 0 A c0 a g0 g u 29 [(0, .ref (a 0)), (1, .int x1), (2, .int x2)] [] (rf_makes_L29 n m u x1 x2) := by
  intro m
  induction m with
  | zero => intro u x1 x2 r u' h; cases h
  | succ m ih =>
    intro u x1 x2
    unfold rf_makes_L29
    refine z_iload_n (pc' := 30) (k := 2) (i := 2) 2 rfl rfl ⟨by decide +kernel, rfl⟩ ?_
    refine z_aload_n (pc' := 31) (k := 0) (i := 0) 0 rfl rfl ⟨by decide +kernel, rfl⟩ ?_
    refine z_getI (pc' := 34) (rff_sites ca D) rfl ⟨by decide +kernel, rfl⟩ ?_
    refine z_icmp_ge (pc' := 37) (tgt := 161) (off := 127) ⟨by decide +kernel, rfl⟩ rfl (fun h1 => ?_) (fun h1 => ?_)
    · refine z_aload_n (pc' := 38) (k := 0) (i := 0) 0 rfl rfl ⟨by decide +kernel, rfl⟩ ?_
      refine z_getR (pc' := 41) (rff_siteFn ca D) rfl (y := a 21) rfl ⟨by decide +kernel, rfl⟩ ?_
      refine z_iload_n (pc' := 42) (k := 2) (i := 2) 2 rfl rfl ⟨by decide +kernel, rfl⟩ ?_
      refine z_iald (pc' := 43) 21 rfl (zlt rfl) rfl rfl ⟨by decide +kernel, rfl⟩ ?_
      refine z_iload_n (pc' := 44) (k := 1) (i := 1) 1 rfl rfl ⟨by decide +kernel, rfl⟩ ?_
      refine z_icmp_eq (pc' := 47) (tgt := 50) (off := 6) ⟨by decide +kernel, rfl⟩ rfl (fun h2 => ?_) (fun h2 => ?_)
      · refine z_aload_n (pc' := 51) (k := 0) (i := 0) 0 rfl rfl ⟨by decide +kernel, rfl⟩ ?_
        refine z_getR (pc' := 54) (rff_guesses ca D) rfl (y := a 59) rfl ⟨by decide +kernel, rfl⟩ ?_
        refine z_iload_n (pc' := 55) (k := 2) (i := 2) 2 rfl rfl ⟨by decide +kernel, rfl⟩ ?_
        refine z_iconst (pc' := 56) (n := 0) (v := 0) (by decide) ⟨by decide +kernel, rfl⟩ ?_
        refine z_iast (pc' := 57) 59 rfl (zlt rfl) rfl rfl ⟨by decide +kernel, rfl⟩ (z_letU fun u3 => ?_)
        refine z_aload_n (pc' := 58) (k := 0) (i := 0) 0 rfl rfl ⟨by decide +kernel, rfl⟩ ?_
        refine z_getR (pc' := 61) (rff_siteKind ca D) rfl (y := a 19) rfl ⟨by decide +kernel, rfl⟩ ?_
        refine z_iload_n (pc' := 62) (k := 2) (i := 2) 2 rfl rfl ⟨by decide +kernel, rfl⟩ ?_
        refine z_iald (pc' := 63) 19 rfl (zlt rfl) rfl rfl ⟨by decide +kernel, rfl⟩ ?_
        refine z_if_ne (pc' := 66) (tgt := 128) (off := 65) ⟨by decide +kernel, rfl⟩ rfl (fun h4 => ?_) (fun h4 => ?_)
        · refine z_aload_n (pc' := 67) (k := 0) (i := 0) 0 rfl rfl ⟨by decide +kernel, rfl⟩ ?_
          refine z_getR (pc' := 70) (rff_many ca D) rfl (y := a 58) rfl ⟨by decide +kernel, rfl⟩ ?_
          refine z_iload_n (pc' := 71) (k := 2) (i := 2) 2 rfl rfl ⟨by decide +kernel, rfl⟩ ?_
          refine z_zald (pc' := 72) 58 rfl (zlt rfl) rfl rfl ⟨by decide +kernel, rfl⟩ ?_
          refine z_if_ne (pc' := 75) (tgt := 128) (off := 56) ⟨by decide +kernel, rfl⟩ rfl (fun h5 => ?_) (fun h5 => ?_)
          · refine z_iconst (pc' := 76) (n := 0) (v := 0) (by decide) ⟨by decide +kernel, rfl⟩ ?_
            refine z_istore_n (pc' := 77) (k := 3) (i := 3) rfl (by decide) rfl ⟨by decide +kernel, rfl⟩ ?_
            refine z_lv [1, 2, 3, 0] (lv' := [(0, .ref (a 0)), (1, .int x1), (2, .int x2), (3, .int 0)]) rfl ?_
            exact rf_makes_L77_t n (rf_makes_L29 n m) (ih) n u3 x1 x2 0
          · exact rf_makes_J128_t n (rf_makes_L29 n m) (ih) u3 x1 x2
        · exact rf_makes_J128_t n (rf_makes_L29 n m) (ih) u3 x1 x2
      · refine z_goto (tgt := 155) (off := 108) (by decide +kernel) rfl ?_
        refine z_iincN (pc' := 158) (i := 2) (n := 1) (c := 1) 2 rfl (by decide) (by decide) rfl ⟨by decide +kernel, rfl⟩ fun v6 => ?_
        refine z_goto (tgt := 29) (off := -129) (by decide +kernel) rfl ?_
        refine z_lv [1, 2, 0] (lv' := [(0, .ref (a 0)), (1, .int x1), (2, .int v6)]) rfl ?_
        exact ih u x1 v6
    · exact z_vret (pc' := 162) ⟨by decide +kernel, rfl⟩
set_option maxRecDepth 20000 in
set_option maxHeartbeats 4000000 in
theorem rft_makes {l : Launch} {ca : Nat → ClassId} {D : va_G} {a g : Nat → Nat} (n : Nat) (u : zMu) (x1 : Int32) : zMet l (zRf ca D) rfY_makes (.code rfY_makes prog_13_method_46_code 4 none) zrv true 0 a g [.ref (a 0), .int x1] u (rf_makes n u x1) := by
  refine zMet.of rfl (Nat.le_of_ble_eq_true rfl) fun κ A hl => ?_
  subst hl
  unfold rf_makes
  refine z_aload_n (pc' := 1) (k := 0) (i := 0) 0 rfl rfl ⟨by decide +kernel, rfl⟩ ?_
  refine z_getR (pc' := 4) (rff_made ca D) rfl (y := a 66) rfl ⟨by decide +kernel, rfl⟩ ?_
  refine z_iload_n (pc' := 5) (k := 1) (i := 1) 1 rfl rfl ⟨by decide +kernel, rfl⟩ ?_
  refine z_iconst (pc' := 6) (n := 1) (v := 1) (by decide) ⟨by decide +kernel, rfl⟩ ?_
  refine z_zast (pc' := 7) 66 rfl (zlt rfl) rfl rfl ⟨by decide +kernel, rfl⟩ (z_letU fun u1 => ?_)
  refine z_aload_n (pc' := 8) (k := 0) (i := 0) 0 rfl rfl ⟨by decide +kernel, rfl⟩ ?_
  refine z_getR (pc' := 11) (rff_fnMade ca D) rfl (y := a 63) rfl ⟨by decide +kernel, rfl⟩ ?_
  refine z_iload_n (pc' := 12) (k := 1) (i := 1) 1 rfl rfl ⟨by decide +kernel, rfl⟩ ?_
  refine z_dup2_11 (pc' := 13) rfl rfl ⟨by decide +kernel, rfl⟩ ?_
  refine z_iald (pc' := 14) 63 rfl (zlt rfl) rfl rfl ⟨by decide +kernel, rfl⟩ ?_
  refine z_iconst (pc' := 15) (n := 1) (v := 1) (by decide) ⟨by decide +kernel, rfl⟩ ?_
  refine z_iadd (pc' := 16) ⟨by decide +kernel, rfl⟩ ?_
  refine z_iast (pc' := 17) 63 rfl (zlt rfl) rfl rfl ⟨by decide +kernel, rfl⟩ (z_letU fun u2 => ?_)
  refine z_aload_n (pc' := 18) (k := 0) (i := 0) 0 rfl rfl ⟨by decide +kernel, rfl⟩ ?_
  refine z_dup (pc' := 19) rfl ⟨by decide +kernel, rfl⟩ ?_
  refine z_getI (pc' := 22) (rff_madeN ca D) rfl ⟨by decide +kernel, rfl⟩ ?_
  refine z_iconst (pc' := 23) (n := 1) (v := 1) (by decide) ⟨by decide +kernel, rfl⟩ ?_
  refine z_iadd (pc' := 24) ⟨by decide +kernel, rfl⟩ ?_
  refine z_putI (pc' := 27) (rff_madeN ca D) rfl ⟨by decide +kernel, rfl⟩ (z_letU fun u3 => ?_)
  refine z_iconst (pc' := 28) (n := 0) (v := 0) (by decide) ⟨by decide +kernel, rfl⟩ ?_
  refine z_istore_n (pc' := 29) (k := 2) (i := 2) rfl (by decide) rfl ⟨by decide +kernel, rfl⟩ ?_
  refine z_lv [1, 2, 0] (lv' := [(0, .ref (a 0)), (1, .int x1), (2, .int 0)]) rfl ?_
  exact rf_makes_L29_t n n u3 x1 0
