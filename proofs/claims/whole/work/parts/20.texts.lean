/-! TEXTS: rules over the judgement, and the JDK's methods on them (printed by wip/gen/jdk.py) -/
section zTexts
variable {ρ σ : Type} {κ : zKx} {ca : Nat → ClassId} {D : va_G} {cc : ByteArray} {nL : Nat} {own : String} {rt : Option FieldType} {ret : ρ → Option Value} {fr : Bool} {d : Nat} {A : Nat → Prop} {c0 : Nat × Nat} {a g0 g : Nat → Nat} {u : zMu} {pc pc' : Nat} {lv : List (Nat × Value)} {st : List Value} {X : Option (ρ × zMu)}
variable {y : MethodName} {bytes : ByteArray} {maxL : Nat} {rt' : Option FieldType} {ret' : σ → Option Value} {d' idx n i : Nat} {As rest : List Value} {F : Option (σ × zMu)} {K : σ → zMu → Option (ρ × zMu)}
theorem z_none : zJ κ (zCe ca D) cc nL own rt ret fr d A c0 a g0 g u pc lv st (none : Option (ρ × zMu)) := fun _ _ h => by cases h
theorem z_stepA {st' : List Value} (f : zOk κ (zCe ca D) cc nL own rt → zStr D A (zKs κ) (zKs κ).heap → ∀ (ls : Array Slot) (H : Heap) (locs : List Loc) (cells slots : Nat) (Q : State → Prop), va_S A (zKs κ).heap H locs → zW κ H locs cells slots Q (F0 (zKm κ) pc' ls st') → zW κ H locs cells slots Q (F0 (zKm κ) pc ls st)) (k : zJ κ (zCe ca D) cc nL own rt ret fr d A c0 a g0 g u pc' lv st' X) : zJ κ (zCe ca D) cc nL own rt ret fr d A c0 a g0 g u pc lv st X :=
  fun r u' h => ⟨(k r u' h).1, fun h1 h2 h3 h4 h5 ls H locs hl hw => f h2 h5.2.1 ls H locs _ _ _ hw.2.2 ((k r u' h).2 h1 h2 h3 h4 h5 ls H locs hl hw)⟩
theorem t_val (hi : i < 13) (hw : Cond.fieldLink own idx "java/lang/String" "value" "[B" ∈ ce_gl) (hd : zD cc pc pc' (.getfield idx) 3) (k : zJ κ (zCe ca D) cc nL own rt ret fr d A c0 a g0 g u pc' lv (.ref (D.2 101 i) :: st) X) : zJ κ (zCe ca D) cc nL own rt ret fr d A c0 a g0 g u pc lv (.ref (D.2 100 i) :: st) X := by
  obtain ⟨hd, rfl⟩ := hd
  exact z_stepA (fun o e ls H locs _ _ _ hS k => vk_getf o.1 o.2.1 (e.1.1 i hi).2.2.1 hS o.2.2.2.1 (o.2.2.2.2.1 _ hw) (fun _ q => q) hd k) k
theorem t_cod (hi : i < 13) (hw : Cond.fieldLink own idx "java/lang/String" "coder" "B" ∈ ce_gl) (hd : zD cc pc pc' (.getfield idx) 3) (k : zJ κ (zCe ca D) cc nL own rt ret fr d A c0 a g0 g u pc' lv (.int 0 :: st) X) : zJ κ (zCe ca D) cc nL own rt ret fr d A c0 a g0 g u pc lv (.ref (D.2 100 i) :: st) X := by
  obtain ⟨hd, rfl⟩ := hd
  exact z_stepA (fun o e ls H locs _ _ _ hS k => vk_getf o.1 o.2.1 (e.1.1 i hi).2.1 hS o.2.2.2.1 (o.2.2.2.2.1 _ hw) (fun _ q => q) hd k) k
theorem t_cmp (hw : Cond.fieldLink own idx "java/lang/String" "COMPACT_STRINGS" "Z" ∈ ce_gl) (hd : zD cc pc pc' (.getstatic idx) 3) (k : zJ κ (zCe ca D) cc nL own rt ret fr d A c0 a g0 g u pc' lv (.int 1 :: st) X) : zJ κ (zCe ca D) cc nL own rt ret fr d A c0 a g0 g u pc lv st X := by
  obtain ⟨hd, rfl⟩ := hd
  exact z_stepA (fun o e ls H locs _ _ _ hS k => va_gets o.1 o.2.1 e.2.2.1 hS o.2.2.2.1 (o.2.2.2.2.1 _ hw) (fun _ q => q) hd k) k
theorem t_len (hi : i < 13) (hd : zD cc pc pc' .arraylength 1) (k : zJ κ (zCe ca D) cc nL own rt ret fr d A c0 a g0 g u pc' lv (.int (Int32.ofNat (zsLen.getD i 0)) :: st) X) : zJ κ (zCe ca D) cc nL own rt ret fr d A c0 a g0 g u pc lv (.ref (D.2 101 i) :: st) X := by
  obtain ⟨hd, rfl⟩ := hd
  exact z_stepA (fun o e ls H locs _ _ _ hS k => va_tlen o.1 o.2.1 (e.1.1 i hi).2.2.2 hS rfl hd k) k
theorem t_bal {x : Int32} (hi : i < 13) (hd : zD cc pc pc' .baload 1) (k : zJ κ (zCe ca D) cc nL own rt ret fr d A c0 a g0 g u pc' lv (.int ((zsByt.getD i []).getD (zx x) 0) :: st) X) : zJ κ (zCe ca D) cc nL own rt ret fr d A c0 a g0 g u pc lv (.int x :: .ref (D.2 101 i) :: st) (zgd (zin x (zsLen.getD i 0)) X) := by
  obtain ⟨hd, rfl⟩ := hd
  refine z_gd fun hx => ?_
  exact z_stepA (fun o e ls H locs _ _ _ hS k => va_tb o.1 o.2.1 (e.1.1 i hi).2.2.2 hS (zin_in hx) rfl hd k) k
theorem t_ldc (hi : i < 13) (ho : own = "ShapeEngine$Lexer") (hx : zsIdx.getD i 0 = idx) (hd : zD cc pc pc' (.ldc idx) 2) (k : zJ κ (zCe ca D) cc nL own rt ret fr d A c0 a g0 g u pc' lv (.ref (D.2 100 i) :: st) X) : zJ κ (zCe ca D) cc nL own rt ret fr d A c0 a g0 g u pc lv st X := by
  obtain ⟨hd, rfl⟩ := hd
  subst ho
  subst hx
  exact z_stepA (fun o e ls H locs _ _ _ hS k => va_ldcS o.1 o.2.1 o.2.2.2.1 (e.2.1 i hi) hd k) k
theorem z_ishr {x y : Int32} (hd : zD cc pc pc' .ishr 1) (k : zJ κ (zCe ca D) cc nL own rt ret fr d A c0 a g0 g u pc' lv (.int (x >>> (y &&& 31)) :: st) X) : zJ κ (zCe ca D) cc nL own rt ret fr d A c0 a g0 g u pc lv (.int y :: .int x :: st) X := by
  obtain ⟨hd, rfl⟩ := hd
  exact z_step (fun o ls H locs _ _ _ hl k => lv_ishr o.1 o.2.1 hd k) k
def zby (v : Int32) : Bool := decide (v.toInt8.toInt32 = v)
theorem z_bret {v : Int32} (hd : zD cc pc pc' .ireturn 1) : zJ κ (zCe ca D) cc nL own (some .byte) zri fr d A c0 a g0 g u pc lv [.int v] (zgd (zby v) (some (v, u))) := by
  obtain ⟨hd, -⟩ := hd
  refine z_gd fun hv => ?_
  have hv : v.toInt8.toInt32 = v := of_decide_eq_true hv
  intro r u' h
  cases h
  refine ⟨zrel_rf, fun h1 h2 h3 h4 h5 ls H locs hl hw => ?_⟩
  exact W.zret h2.1 h2.2.1 h2.2.2.2.2.2.1 (by show Value.int v.toInt8.toInt32 = Value.int v; rw [hv]) (fun t ht hW => ⟨rfl, ⟨g, h4, by rw [ht]; exact hw.1, va_K.moved hW.alike h2.2.2.2.2.2.2.2, hw.2.1⟩, hw.2.2.F ht⟩) hw.2.2.2.2 hd h2.2.2.2.2.2.2.1
/-- a call on a text -/
theorem z_callT (hM : zMet (zKl κ) (zCe ca D) y (.code y bytes maxL rt') ret' true d' a g (.ref (D.2 100 i) :: As) u F) (hG : zGV (zCe ca D) own idx "java/lang/String" y (.code y bytes maxL rt') n maxL) (hi : i < 13) (hdd : d' + 1 ≤ d) (hn : As.length = n) (hst : st = As.reverse ++ .ref (D.2 100 i) :: rest) (hW : (rest.map fun v => v.category).sum ≤ 8) (hd : zD cc pc pc' (.invokevirtual idx) 3)
    (k : ∀ (r1 : σ) (u1 : zMu), zJ κ (zCe ca D) cc nL own rt ret fr d A c0 a g0 g u1 pc' lv ((ret' r1).toList ++ rest) (K r1 u1)) : zJ κ (zCe ca D) cc nL own rt ret fr d A c0 a g0 g u pc lv st (zbd F K) := by
  refine z_call hM (fun _ => rfl) (fun o h5 r1 u1 ls H locs cells slots hl hw m2 hf hR1 hR2 => ?_) hd.2 (fun r1 u1 g1 hg => by rw [hg rfl]; exact k r1 u1)
  exact va_runV ⟨o.1, o.2.1, o.2.2.1, o.2.2.2.1, o.2.2.2.2.1⟩ m2 (cwV n o.2.2.2.2.1 hG.1 rfl rfl rfl hG.2.1 ⟨by rw [hR1]; exact hdd, by rw [hR2]; have := hG.2.2; show 8 + (maxL + 11) + 40 * d' ≤ 40 * d; omega⟩) ⟨zblind, vk_recv h5.2.1.1 hi hw.2.2, fun U hU hW => ⟨rfl, zpre h5 o.2.2.2.2.2.2.2 hw hU hW⟩⟩ rfl hn hl.1 hst (lv_room hW) hd.1 hf
end zTexts
theorem jsG_StringLatin188 (ca : Nat → ClassId) (D : va_G) : zGX (zCe ca D) "java/lang/StringLatin1" 88 jsY_canEncode (.code jsY_canEncode prog_18_method_4_code 1 (some .boolean)) 1 1 := ⟨ce_GX (ce_w20 32 rfl) (ce_w20 35 rfl) (ce_w20 34 rfl) (ce_w20 33 rfl), by decide +kernel, by decide⟩
theorem jsG_StringLatin195 (ca : Nat → ClassId) (D : va_G) : zGX (zCe ca D) "java/lang/StringLatin1" 95 jsY_indexOfChar (.code jsY_indexOfChar prog_18_method_23_code 6 (some .int)) 4 6 := ⟨ce_GX (ce_w20 36 rfl) (ce_w20 38 rfl) (ce_w20 34 rfl) (ce_w20 37 rfl), by decide +kernel, by decide⟩
theorem jsG_String335 (ca : Nat → ClassId) (D : va_G) : zGV (zCe ca D) "java/lang/String" 335 "java/lang/String" jsY_coder (.code jsY_coder prog_17_method_152_code 1 (some .byte)) 0 1 := ⟨ce_GV (ce_w20 39 rfl) (ce_w21 2 rfl) (ce_w21 3 rfl) (ce_w21 1 rfl) (ce_w21 0 rfl), by decide +kernel, by decide⟩
theorem jsG_String492 (ca : Nat → ClassId) (D : va_G) : zGV (zCe ca D) "java/lang/String" 492 "java/lang/String" jsY_isLatin1 (.code jsY_isLatin1 prog_17_method_154_code 1 (some .boolean)) 0 1 := ⟨ce_GV (ce_w21 4 rfl) (ce_w21 6 rfl) (ce_w21 7 rfl) (ce_w21 1 rfl) (ce_w21 5 rfl), by decide +kernel, by decide⟩
theorem jsG_String505 (ca : Nat → ClassId) (D : va_G) : zGV (zCe ca D) "java/lang/String" 505 "java/lang/String" jsY_length (.code jsY_length prog_17_method_54_code 1 (some .int)) 0 1 := ⟨ce_GV (ce_w21 8 rfl) (ce_w21 10 rfl) (ce_w21 11 rfl) (ce_w21 1 rfl) (ce_w21 9 rfl), by decide +kernel, by decide⟩
theorem jsG_String637 (ca : Nat → ClassId) (D : va_G) : zGX (zCe ca D) "java/lang/String" 637 jsY_indexOfB (.code jsY_indexOfB prog_18_method_22_code 4 (some .int)) 4 4 := ⟨ce_GX (ce_w21 12 rfl) (ce_w21 14 rfl) (ce_w20 34 rfl) (ce_w21 13 rfl), by decide +kernel, by decide⟩
theorem jsG_String633 (ca : Nat → ClassId) (D : va_G) : zGV (zCe ca D) "java/lang/String" 633 "java/lang/String" jsY_indexOf2 (.code jsY_indexOf2 prog_17_method_80_code 3 (some .int)) 2 3 := ⟨ce_GV (ce_w21 15 rfl) (ce_w21 17 rfl) (ce_w21 18 rfl) (ce_w21 1 rfl) (ce_w21 16 rfl), by decide +kernel, by decide⟩
theorem jsG_ShapeEngineLexer104 (ca : Nat → ClassId) (D : va_G) : zGV (zCe ca D) "ShapeEngine$Lexer" 104 "java/lang/String" jsY_indexOf1 (.code jsY_indexOf1 prog_17_method_79_code 2 (some .int)) 1 2 := ⟨ce_GV (ce_w21 19 rfl) (ce_w21 21 rfl) (ce_w21 22 rfl) (ce_w21 1 rfl) (ce_w21 20 rfl), by decide +kernel, by decide⟩
def js_canEncode (n i : Nat) (u : zMu) (x0 : Int32) : Option (Int32 × zMu) :=
  if x0 < 0 then
  (
    some (0, u)
  ) else (
    if 255 < x0 then
    (
      some (0, u)
    ) else (
      some (1, u)
    )
  )
def js_indexOfChar_L7 (n i : Nat) : Nat → zMu → Int32 → Int32 → Int32 → Option (Int32 × zMu)
  | 0, _, _, _, _ => none
  | m + 1, u, x3, x4, x5 =>
    if x5 < x3 then
    (
      zgd (zin x5 (zsLen.getD i 0)) <|
      if (zsByt.getD i []).getD (zx x5) 0 = x4 then
      (
        some (x5, u)
      ) else (
        zlet (x5 + 1) fun v3 =>
        js_indexOfChar_L7 n i m u x3 x4 v3
      )
    ) else (
      some ((-1), u)
    )
def js_indexOfChar (n i : Nat) (u : zMu) (x1 : Int32) (x2 : Int32) (x3 : Int32) : Option (Int32 × zMu) :=
  zlet (x1.toInt8.toInt32) fun v1 =>
  js_indexOfChar_L7 n i n u x3 v1 x2
def js_indexOfB (n i : Nat) (u : zMu) (x1 : Int32) (x2 : Int32) (x3 : Int32) : Option (Int32 × zMu) :=
  zbd (js_canEncode n i u x1) fun r1 u2 =>
  if r1 = 0 then
  (
    some ((-1), u2)
  ) else (
    zlet (if x2 < 0 then 0 else x2) fun v4 =>
    zlet (if Int32.ofNat (zsLen.getD i 0) < x3 then Int32.ofNat (zsLen.getD i 0) else x3) fun v5 =>
    if v4 < v5 then
    (
      zbd (js_indexOfChar n i u2 x1 v4 v5) fun r7 u8 =>
      some (r7, u8)
    ) else (
      some ((-1), u2)
    )
  )
def js_isLatin1 (n i : Nat) (u : zMu) : Option (Int32 × zMu) :=
  if (1 : Int32) = 0 then
  (
    some (0, u)
  ) else (
    if (0 : Int32) = 0 then
    (
      some (1, u)
    ) else (
      some (0, u)
    )
  )
def js_coder (n i : Nat) (u : zMu) : Option (Int32 × zMu) :=
  if (1 : Int32) = 0 then
  (
    zgd (zby 1) (some (1, u))
  ) else (
    zgd (zby 0) (some (0, u))
  )
def js_length (n i : Nat) (u : zMu) : Option (Int32 × zMu) :=
  zbd (js_coder n i u) fun r1 u2 =>
  some ((Int32.ofNat (zsLen.getD i 0)) >>> (r1 &&& 31), u2)
def js_indexOf2 (n i : Nat) (u : zMu) (x1 : Int32) (x2 : Int32) : Option (Int32 × zMu) :=
  zbd (js_isLatin1 n i u) fun r1 u2 =>
  if r1 = 0 then
  (
    none
  ) else (
    zbd (js_length n i u2) fun r4 u5 =>
    zbd (js_indexOfB n i u5 x1 x2 r4) fun r6 u7 =>
    some (r6, u7)
  )
def js_indexOf1 (n i : Nat) (u : zMu) (x1 : Int32) : Option (Int32 × zMu) :=
  zbd (js_indexOf2 n i u x1 0) fun r1 u2 =>
  some (r1, u2)
set_option maxRecDepth 20000 in
set_option maxHeartbeats 4000000 in
theorem jst_canEncode {l : Launch} {ca : Nat → ClassId} {D : va_G} {a g : Nat → Nat} (n i : Nat) (hi : i < 13) (u : zMu) (x0 : Int32) : zMet l (zCe ca D) jsY_canEncode (.code jsY_canEncode prog_18_method_4_code 1 (some .boolean)) zri true 1 a g [.int x0] u (js_canEncode n i u x0) := by
  refine zMet.of rfl (Nat.le_of_ble_eq_true rfl) fun κ A hl => ?_
  subst hl
  unfold js_canEncode
  refine z_iload_n (pc' := 1) (k := 0) (i := 0) 0 rfl rfl ⟨by decide +kernel, rfl⟩ ?_
  refine z_if_lt (pc' := 4) (tgt := 15) (off := 14) ⟨by decide +kernel, rfl⟩ rfl (fun h1 => ?_) (fun h1 => ?_)
  · refine z_iconst (pc' := 16) (n := 0) (v := 0) (by decide) ⟨by decide +kernel, rfl⟩ ?_
    exact z_zret (pc' := 17) (by decide) ⟨by decide +kernel, rfl⟩
  · refine z_iload_n (pc' := 5) (k := 0) (i := 0) 0 rfl rfl ⟨by decide +kernel, rfl⟩ ?_
    refine z_sipush (pc' := 8) (n := 255) (v := 255) (by decide) ⟨by decide +kernel, rfl⟩ ?_
    refine z_icmp_gt (pc' := 11) (tgt := 15) (off := 7) ⟨by decide +kernel, rfl⟩ rfl (fun h2 => ?_) (fun h2 => ?_)
    · refine z_iconst (pc' := 16) (n := 0) (v := 0) (by decide) ⟨by decide +kernel, rfl⟩ ?_
      exact z_zret (pc' := 17) (by decide) ⟨by decide +kernel, rfl⟩
    · refine z_iconst (pc' := 12) (n := 1) (v := 1) (by decide) ⟨by decide +kernel, rfl⟩ ?_
      refine z_goto (tgt := 16) (off := 4) (by decide +kernel) rfl ?_
      exact z_zret (pc' := 17) (by decide) ⟨by decide +kernel, rfl⟩
set_option maxRecDepth 20000 in
set_option maxHeartbeats 4000000 in
theorem js_indexOfChar_L7_t {κ : zKx} {ca : Nat → ClassId} {D : va_G} {A : Nat → Prop} {c0 : Nat × Nat} {a g0 g : Nat → Nat} (n i : Nat) (hi : i < 13) : ∀ (m : Nat) (u : zMu) (x3 : Int32) (x4 : Int32) (x5 : Int32), zJ κ (zCe ca D) prog_18_method_23_code 6 "java/lang/StringLatin1" (some .int) zri true 1 A c0 a g0 g u 7 [(0, .ref (D.2 101 i)), (3, .int x3), (4, .int x4), (5, .int x5)] [] (js_indexOfChar_L7 n i m u x3 x4 x5) := by
  intro m
  induction m with
  | zero => intro u x3 x4 x5 r u' h; cases h
  | succ m ih =>
    intro u x3 x4 x5
    unfold js_indexOfChar_L7
    refine z_iload (pc' := 9) (i := 5) 3 rfl ⟨by decide +kernel, rfl⟩ ?_
    refine z_iload_n (pc' := 10) (k := 3) (i := 3) 1 rfl rfl ⟨by decide +kernel, rfl⟩ ?_
    refine z_icmp_ge (pc' := 13) (tgt := 31) (off := 21) ⟨by decide +kernel, rfl⟩ rfl (fun h1 => ?_) (fun h1 => ?_)
    · refine z_aload_n (pc' := 14) (k := 0) (i := 0) 0 rfl rfl ⟨by decide +kernel, rfl⟩ ?_
      refine z_iload (pc' := 16) (i := 5) 3 rfl ⟨by decide +kernel, rfl⟩ ?_
      refine t_bal (pc' := 17) hi ⟨by decide +kernel, rfl⟩ ?_
      refine z_iload (pc' := 19) (i := 4) 2 rfl ⟨by decide +kernel, rfl⟩ ?_
      refine z_icmp_ne (pc' := 22) (tgt := 25) (off := 6) ⟨by decide +kernel, rfl⟩ rfl (fun h2 => ?_) (fun h2 => ?_)
      · refine z_iload (pc' := 24) (i := 5) 3 rfl ⟨by decide +kernel, rfl⟩ ?_
        exact z_iret (pc' := 25) ⟨by decide +kernel, rfl⟩
      · refine z_iincN (pc' := 28) (i := 5) (n := 1) (c := 1) 3 rfl (by decide) (by decide) rfl ⟨by decide +kernel, rfl⟩ fun v3 => ?_
        refine z_goto (tgt := 7) (off := -21) (by decide +kernel) rfl ?_
        refine z_lv [1, 2, 3, 0] (lv' := [(0, .ref (D.2 101 i)), (3, .int x3), (4, .int x4), (5, .int v3)]) rfl ?_
        exact ih u x3 x4 v3
    · refine z_iconst (pc' := 32) (n := (-1)) (v := (-1)) (by decide) ⟨by decide +kernel, rfl⟩ ?_
      exact z_iret (pc' := 33) ⟨by decide +kernel, rfl⟩
set_option maxRecDepth 20000 in
set_option maxHeartbeats 4000000 in
theorem jst_indexOfChar {l : Launch} {ca : Nat → ClassId} {D : va_G} {a g : Nat → Nat} (n i : Nat) (hi : i < 13) (u : zMu) (x1 : Int32) (x2 : Int32) (x3 : Int32) : zMet l (zCe ca D) jsY_indexOfChar (.code jsY_indexOfChar prog_18_method_23_code 6 (some .int)) zri true 1 a g [.ref (D.2 101 i), .int x1, .int x2, .int x3] u (js_indexOfChar n i u x1 x2 x3) := by
  refine zMet.of rfl (Nat.le_of_ble_eq_true rfl) fun κ A hl => ?_
  subst hl
  unfold js_indexOfChar
  refine z_iload_n (pc' := 1) (k := 1) (i := 1) 1 rfl rfl ⟨by decide +kernel, rfl⟩ ?_
  refine z_i2b (pc' := 2) ⟨by decide +kernel, rfl⟩ ?_
  refine z_letI fun v1 => ?_
  refine z_istore (pc' := 4) (i := 4) (by decide) rfl ⟨by decide +kernel, rfl⟩ ?_
  refine z_iload_n (pc' := 5) (k := 2) (i := 2) 3 rfl rfl ⟨by decide +kernel, rfl⟩ ?_
  refine z_istore (pc' := 7) (i := 5) (by decide) rfl ⟨by decide +kernel, rfl⟩ ?_
  refine z_lv [2, 5, 1, 0] (lv' := [(0, .ref (D.2 101 i)), (3, .int x3), (4, .int v1), (5, .int x2)]) rfl ?_
  exact js_indexOfChar_L7_t n i hi n u x3 v1 x2
set_option maxRecDepth 20000 in
set_option maxHeartbeats 4000000 in
theorem jst_indexOfB {l : Launch} {ca : Nat → ClassId} {D : va_G} {a g : Nat → Nat} (n i : Nat) (hi : i < 13) (u : zMu) (x1 : Int32) (x2 : Int32) (x3 : Int32) : zMet l (zCe ca D) jsY_indexOfB (.code jsY_indexOfB prog_18_method_22_code 4 (some .int)) zri true 2 a g [.ref (D.2 101 i), .int x1, .int x2, .int x3] u (js_indexOfB n i u x1 x2 x3) := by
  refine zMet.of rfl (Nat.le_of_ble_eq_true rfl) fun κ A hl => ?_
  subst hl
  unfold js_indexOfB
  refine z_iload_n (pc' := 1) (k := 1) (i := 1) 1 rfl rfl ⟨by decide +kernel, rfl⟩ ?_
  refine z_callXf (pc' := 4) (jst_canEncode n i hi u x1) (jsG_StringLatin188 ca D) (by decide) rfl rfl (Nat.le_of_ble_eq_true rfl) ⟨by decide +kernel, rfl⟩ (fun r1 u2 => ?_)
  refine z_if_ne (pc' := 7) (tgt := 9) (off := 5) ⟨by decide +kernel, rfl⟩ rfl (fun h3 => ?_) (fun h3 => ?_)
  · refine z_iconst (pc' := 8) (n := (-1)) (v := (-1)) (by decide) ⟨by decide +kernel, rfl⟩ ?_
    exact z_iret (pc' := 9) ⟨by decide +kernel, rfl⟩
  · refine z_iload_n (pc' := 10) (k := 2) (i := 2) 2 rfl rfl ⟨by decide +kernel, rfl⟩ ?_
    refine z_iconst (pc' := 11) (n := 0) (v := 0) (by decide) ⟨by decide +kernel, rfl⟩ ?_
    refine z_mmax (pc' := 14) (ce_w20 27 rfl) (ce_w0 3 rfl) (ce_w0 4 rfl) (ce_w0 5 rfl) (by decide) (Nat.le_of_ble_eq_true rfl) ⟨by decide +kernel, rfl⟩ ?_
    refine z_letI fun v4 => ?_
    refine z_istore_n (pc' := 15) (k := 2) (i := 2) rfl (by decide) rfl ⟨by decide +kernel, rfl⟩ ?_
    refine z_iload_n (pc' := 16) (k := 3) (i := 3) 3 rfl rfl ⟨by decide +kernel, rfl⟩ ?_
    refine z_aload_n (pc' := 17) (k := 0) (i := 0) 1 rfl rfl ⟨by decide +kernel, rfl⟩ ?_
    refine t_len (pc' := 18) hi ⟨by decide +kernel, rfl⟩ ?_
    refine z_mmin (pc' := 21) (ce_w20 28 rfl) (ce_w0 7 rfl) (ce_w0 4 rfl) (ce_w0 8 rfl) (by decide) (Nat.le_of_ble_eq_true rfl) ⟨by decide +kernel, rfl⟩ ?_
    refine z_letI fun v5 => ?_
    refine z_istore_n (pc' := 22) (k := 3) (i := 3) rfl (by decide) rfl ⟨by decide +kernel, rfl⟩ ?_
    refine z_iload_n (pc' := 23) (k := 2) (i := 2) 1 rfl rfl ⟨by decide +kernel, rfl⟩ ?_
    refine z_iload_n (pc' := 24) (k := 3) (i := 3) 0 rfl rfl ⟨by decide +kernel, rfl⟩ ?_
    refine z_icmp_lt (pc' := 27) (tgt := 29) (off := 5) ⟨by decide +kernel, rfl⟩ rfl (fun h6 => ?_) (fun h6 => ?_)
    · refine z_aload_n (pc' := 30) (k := 0) (i := 0) 2 rfl rfl ⟨by decide +kernel, rfl⟩ ?_
      refine z_iload_n (pc' := 31) (k := 1) (i := 1) 3 rfl rfl ⟨by decide +kernel, rfl⟩ ?_
      refine z_iload_n (pc' := 32) (k := 2) (i := 2) 1 rfl rfl ⟨by decide +kernel, rfl⟩ ?_
      refine z_iload_n (pc' := 33) (k := 3) (i := 3) 0 rfl rfl ⟨by decide +kernel, rfl⟩ ?_
      refine z_callXf (pc' := 36) (jst_indexOfChar n i hi u2 x1 v4 v5) (jsG_StringLatin195 ca D) (by decide) rfl rfl (Nat.le_of_ble_eq_true rfl) ⟨by decide +kernel, rfl⟩ (fun r7 u8 => ?_)
      exact z_iret (pc' := 37) ⟨by decide +kernel, rfl⟩
    · refine z_iconst (pc' := 28) (n := (-1)) (v := (-1)) (by decide) ⟨by decide +kernel, rfl⟩ ?_
      exact z_iret (pc' := 29) ⟨by decide +kernel, rfl⟩
set_option maxRecDepth 20000 in
set_option maxHeartbeats 4000000 in
theorem jst_isLatin1 {l : Launch} {ca : Nat → ClassId} {D : va_G} {a g : Nat → Nat} (n i : Nat) (hi : i < 13) (u : zMu) : zMet l (zCe ca D) jsY_isLatin1 (.code jsY_isLatin1 prog_17_method_154_code 1 (some .boolean)) zri true 1 a g [.ref (D.2 100 i)] u (js_isLatin1 n i u) := by
  refine zMet.of rfl (Nat.le_of_ble_eq_true rfl) fun κ A hl => ?_
  subst hl
  unfold js_isLatin1
  refine t_cmp (pc' := 3) (ce_w20 29 rfl) ⟨by decide +kernel, rfl⟩ ?_
  refine z_if_eq (pc' := 6) (tgt := 17) (off := 14) ⟨by decide +kernel, rfl⟩ rfl (fun h1 => ?_) (fun h1 => ?_)
  · refine z_iconst (pc' := 18) (n := 0) (v := 0) (by decide) ⟨by decide +kernel, rfl⟩ ?_
    exact z_zret (pc' := 19) (by decide) ⟨by decide +kernel, rfl⟩
  · refine z_aload_n (pc' := 7) (k := 0) (i := 0) 0 rfl rfl ⟨by decide +kernel, rfl⟩ ?_
    refine t_cod (pc' := 10) hi (ce_w20 30 rfl) ⟨by decide +kernel, rfl⟩ ?_
    refine z_if_ne (pc' := 13) (tgt := 17) (off := 7) ⟨by decide +kernel, rfl⟩ rfl (fun h2 => ?_) (fun h2 => ?_)
    · refine z_iconst (pc' := 14) (n := 1) (v := 1) (by decide) ⟨by decide +kernel, rfl⟩ ?_
      refine z_goto (tgt := 18) (off := 4) (by decide +kernel) rfl ?_
      exact z_zret (pc' := 19) (by decide) ⟨by decide +kernel, rfl⟩
    · refine z_iconst (pc' := 18) (n := 0) (v := 0) (by decide) ⟨by decide +kernel, rfl⟩ ?_
      exact z_zret (pc' := 19) (by decide) ⟨by decide +kernel, rfl⟩
set_option maxRecDepth 20000 in
set_option maxHeartbeats 4000000 in
theorem jst_coder {l : Launch} {ca : Nat → ClassId} {D : va_G} {a g : Nat → Nat} (n i : Nat) (hi : i < 13) (u : zMu) : zMet l (zCe ca D) jsY_coder (.code jsY_coder prog_17_method_152_code 1 (some .byte)) zri true 1 a g [.ref (D.2 100 i)] u (js_coder n i u) := by
  refine zMet.of rfl (Nat.le_of_ble_eq_true rfl) fun κ A hl => ?_
  subst hl
  unfold js_coder
  refine t_cmp (pc' := 3) (ce_w20 29 rfl) ⟨by decide +kernel, rfl⟩ ?_
  refine z_if_eq (pc' := 6) (tgt := 13) (off := 10) ⟨by decide +kernel, rfl⟩ rfl (fun h1 => ?_) (fun h1 => ?_)
  · refine z_iconst (pc' := 14) (n := 1) (v := 1) (by decide) ⟨by decide +kernel, rfl⟩ ?_
    exact z_bret (pc' := 15) ⟨by decide +kernel, rfl⟩
  · refine z_aload_n (pc' := 7) (k := 0) (i := 0) 0 rfl rfl ⟨by decide +kernel, rfl⟩ ?_
    refine t_cod (pc' := 10) hi (ce_w20 30 rfl) ⟨by decide +kernel, rfl⟩ ?_
    refine z_goto (tgt := 14) (off := 4) (by decide +kernel) rfl ?_
    exact z_bret (pc' := 15) ⟨by decide +kernel, rfl⟩
set_option maxRecDepth 20000 in
set_option maxHeartbeats 4000000 in
theorem jst_length {l : Launch} {ca : Nat → ClassId} {D : va_G} {a g : Nat → Nat} (n i : Nat) (hi : i < 13) (u : zMu) : zMet l (zCe ca D) jsY_length (.code jsY_length prog_17_method_54_code 1 (some .int)) zri true 2 a g [.ref (D.2 100 i)] u (js_length n i u) := by
  refine zMet.of rfl (Nat.le_of_ble_eq_true rfl) fun κ A hl => ?_
  subst hl
  unfold js_length
  refine z_aload_n (pc' := 1) (k := 0) (i := 0) 0 rfl rfl ⟨by decide +kernel, rfl⟩ ?_
  refine t_val (pc' := 4) hi (ce_w20 31 rfl) ⟨by decide +kernel, rfl⟩ ?_
  refine t_len (pc' := 5) hi ⟨by decide +kernel, rfl⟩ ?_
  refine z_aload_n (pc' := 6) (k := 0) (i := 0) 0 rfl rfl ⟨by decide +kernel, rfl⟩ ?_
  refine z_callT (pc' := 9) (i := i) (jst_coder n i hi u) (jsG_String335 ca D) hi (by decide) rfl rfl (Nat.le_of_ble_eq_true rfl) ⟨by decide +kernel, rfl⟩ (fun r1 u2 => ?_)
  refine z_ishr (pc' := 10) ⟨by decide +kernel, rfl⟩ ?_
  exact z_iret (pc' := 11) ⟨by decide +kernel, rfl⟩
set_option maxRecDepth 20000 in
set_option maxHeartbeats 4000000 in
theorem jst_indexOf2 {l : Launch} {ca : Nat → ClassId} {D : va_G} {a g : Nat → Nat} (n i : Nat) (hi : i < 13) (u : zMu) (x1 : Int32) (x2 : Int32) : zMet l (zCe ca D) jsY_indexOf2 (.code jsY_indexOf2 prog_17_method_80_code 3 (some .int)) zri true 3 a g [.ref (D.2 100 i), .int x1, .int x2] u (js_indexOf2 n i u x1 x2) := by
  refine zMet.of rfl (Nat.le_of_ble_eq_true rfl) fun κ A hl => ?_
  subst hl
  unfold js_indexOf2
  refine z_aload_n (pc' := 1) (k := 0) (i := 0) 0 rfl rfl ⟨by decide +kernel, rfl⟩ ?_
  refine z_callT (pc' := 4) (i := i) (jst_isLatin1 n i hi u) (jsG_String492 ca D) hi (by decide) rfl rfl (Nat.le_of_ble_eq_true rfl) ⟨by decide +kernel, rfl⟩ (fun r1 u2 => ?_)
  refine z_if_eq (pc' := 7) (tgt := 23) (off := 19) ⟨by decide +kernel, rfl⟩ rfl (fun h3 => ?_) (fun h3 => ?_)
  · exact z_none
  · refine z_aload_n (pc' := 8) (k := 0) (i := 0) 0 rfl rfl ⟨by decide +kernel, rfl⟩ ?_
    refine t_val (pc' := 11) hi (ce_w20 31 rfl) ⟨by decide +kernel, rfl⟩ ?_
    refine z_iload_n (pc' := 12) (k := 1) (i := 1) 1 rfl rfl ⟨by decide +kernel, rfl⟩ ?_
    refine z_iload_n (pc' := 13) (k := 2) (i := 2) 2 rfl rfl ⟨by decide +kernel, rfl⟩ ?_
    refine z_aload_n (pc' := 14) (k := 0) (i := 0) 0 rfl rfl ⟨by decide +kernel, rfl⟩ ?_
    refine z_callT (pc' := 17) (i := i) (jst_length n i hi u2) (jsG_String505 ca D) hi (by decide) rfl rfl (Nat.le_of_ble_eq_true rfl) ⟨by decide +kernel, rfl⟩ (fun r4 u5 => ?_)
    refine z_callXf (pc' := 20) (jst_indexOfB n i hi u5 x1 x2 r4) (jsG_String637 ca D) (by decide) rfl rfl (Nat.le_of_ble_eq_true rfl) ⟨by decide +kernel, rfl⟩ (fun r6 u7 => ?_)
    refine z_goto (tgt := 36) (off := 16) (by decide +kernel) rfl ?_
    exact z_iret (pc' := 37) ⟨by decide +kernel, rfl⟩
set_option maxRecDepth 20000 in
set_option maxHeartbeats 4000000 in
theorem jst_indexOf1 {l : Launch} {ca : Nat → ClassId} {D : va_G} {a g : Nat → Nat} (n i : Nat) (hi : i < 13) (u : zMu) (x1 : Int32) : zMet l (zCe ca D) jsY_indexOf1 (.code jsY_indexOf1 prog_17_method_79_code 2 (some .int)) zri true 4 a g [.ref (D.2 100 i), .int x1] u (js_indexOf1 n i u x1) := by
  refine zMet.of rfl (Nat.le_of_ble_eq_true rfl) fun κ A hl => ?_
  subst hl
  unfold js_indexOf1
  refine z_aload_n (pc' := 1) (k := 0) (i := 0) 0 rfl rfl ⟨by decide +kernel, rfl⟩ ?_
  refine z_iload_n (pc' := 2) (k := 1) (i := 1) 1 rfl rfl ⟨by decide +kernel, rfl⟩ ?_
  refine z_iconst (pc' := 3) (n := 0) (v := 0) (by decide) ⟨by decide +kernel, rfl⟩ ?_
  refine z_callT (pc' := 6) (i := i) (jst_indexOf2 n i hi u x1 0) (jsG_String633 ca D) hi (by decide) rfl rfl (Nat.le_of_ble_eq_true rfl) ⟨by decide +kernel, rfl⟩ (fun r1 u2 => ?_)
  exact z_iret (pc' := 7) ⟨by decide +kernel, rfl⟩
