/-! TEXTS while building: no cells yet (printed by wip/gen/ctext.py) -/
def zC0 (ca : Nat → ClassId) (D : va_G) : zSd := ((0, 0, ce_ct, ce_ft), ca, D, ce_cl, ce_gk, zStr D)
section sTexts
variable {ρ σ : Type} {κ : zKx} {ca : Nat → ClassId} {D : va_G} {cc : ByteArray} {nL : Nat} {own : String} {rt : Option FieldType} {ret : ρ → Option Value} {fr : Bool} {d : Nat} {A : Nat → Prop} {c0 : Nat × Nat} {a g0 g : Nat → Nat} {u : zMu} {pc pc' : Nat} {lv : List (Nat × Value)} {st : List Value} {X : Option (ρ × zMu)}
variable {y : MethodName} {bytes : ByteArray} {maxL : Nat} {rt' : Option FieldType} {ret' : σ → Option Value} {d' idx n i : Nat} {As rest : List Value} {F : Option (σ × zMu)} {K : σ → zMu → Option (ρ × zMu)}
theorem s_none : zJ κ (zC0 ca D) cc nL own rt ret fr d A c0 a g0 g u pc lv st (none : Option (ρ × zMu)) := fun _ _ h => by cases h
theorem s_stepA {st' : List Value} (f : zOk κ (zC0 ca D) cc nL own rt → zStr D A (zKs κ) (zKs κ).heap → ∀ (ls : Array Slot) (H : Heap) (locs : List Loc) (cells slots : Nat) (Q : State → Prop), va_S A (zKs κ).heap H locs → zW κ H locs cells slots Q (F0 (zKm κ) pc' ls st') → zW κ H locs cells slots Q (F0 (zKm κ) pc ls st)) (k : zJ κ (zC0 ca D) cc nL own rt ret fr d A c0 a g0 g u pc' lv st' X) : zJ κ (zC0 ca D) cc nL own rt ret fr d A c0 a g0 g u pc lv st X :=
  fun r u' h => ⟨(k r u' h).1, fun h1 h2 h3 h4 h5 ls H locs hl hw => f h2 h5.2.1 ls H locs _ _ _ hw.2.2 ((k r u' h).2 h1 h2 h3 h4 h5 ls H locs hl hw)⟩
theorem s_val (hi : i < 13) (hw : Cond.fieldLink own idx "java/lang/String" "value" "[B" ∈ ce_gk) (hd : zD cc pc pc' (.getfield idx) 3) (k : zJ κ (zC0 ca D) cc nL own rt ret fr d A c0 a g0 g u pc' lv (.ref (D.2 101 i) :: st) X) : zJ κ (zC0 ca D) cc nL own rt ret fr d A c0 a g0 g u pc lv (.ref (D.2 100 i) :: st) X := by
  obtain ⟨hd, rfl⟩ := hd
  exact s_stepA (fun o e ls H locs _ _ _ hS k => vk_getf o.1 o.2.1 (e.1.1 i hi).2.2.1 hS o.2.2.2.1 (o.2.2.2.2.1 _ hw) (fun _ q => q) hd k) k
theorem s_cod (hi : i < 13) (hw : Cond.fieldLink own idx "java/lang/String" "coder" "B" ∈ ce_gk) (hd : zD cc pc pc' (.getfield idx) 3) (k : zJ κ (zC0 ca D) cc nL own rt ret fr d A c0 a g0 g u pc' lv (.int 0 :: st) X) : zJ κ (zC0 ca D) cc nL own rt ret fr d A c0 a g0 g u pc lv (.ref (D.2 100 i) :: st) X := by
  obtain ⟨hd, rfl⟩ := hd
  exact s_stepA (fun o e ls H locs _ _ _ hS k => vk_getf o.1 o.2.1 (e.1.1 i hi).2.1 hS o.2.2.2.1 (o.2.2.2.2.1 _ hw) (fun _ q => q) hd k) k
theorem s_cmp (hw : Cond.fieldLink own idx "java/lang/String" "COMPACT_STRINGS" "Z" ∈ ce_gk) (hd : zD cc pc pc' (.getstatic idx) 3) (k : zJ κ (zC0 ca D) cc nL own rt ret fr d A c0 a g0 g u pc' lv (.int 1 :: st) X) : zJ κ (zC0 ca D) cc nL own rt ret fr d A c0 a g0 g u pc lv st X := by
  obtain ⟨hd, rfl⟩ := hd
  exact s_stepA (fun o e ls H locs _ _ _ hS k => va_gets o.1 o.2.1 e.2.2.1 hS o.2.2.2.1 (o.2.2.2.2.1 _ hw) (fun _ q => q) hd k) k
theorem s_len (hi : i < 13) (hd : zD cc pc pc' .arraylength 1) (k : zJ κ (zC0 ca D) cc nL own rt ret fr d A c0 a g0 g u pc' lv (.int (Int32.ofNat (zsLen.getD i 0)) :: st) X) : zJ κ (zC0 ca D) cc nL own rt ret fr d A c0 a g0 g u pc lv (.ref (D.2 101 i) :: st) X := by
  obtain ⟨hd, rfl⟩ := hd
  exact s_stepA (fun o e ls H locs _ _ _ hS k => va_tlen o.1 o.2.1 (e.1.1 i hi).2.2.2 hS rfl hd k) k
theorem s_bal {x : Int32} (hi : i < 13) (hd : zD cc pc pc' .baload 1) (k : zJ κ (zC0 ca D) cc nL own rt ret fr d A c0 a g0 g u pc' lv (.int ((zsByt.getD i []).getD (zx x) 0) :: st) X) : zJ κ (zC0 ca D) cc nL own rt ret fr d A c0 a g0 g u pc lv (.int x :: .ref (D.2 101 i) :: st) (zgd (zin x (zsLen.getD i 0)) X) := by
  obtain ⟨hd, rfl⟩ := hd
  refine z_gd fun hx => ?_
  exact s_stepA (fun o e ls H locs _ _ _ hS k => va_tb o.1 o.2.1 (e.1.1 i hi).2.2.2 hS (zin_in hx) rfl hd k) k
theorem s_ldc (hi : i < 13) (ho : own = "ShapeEngine$Lexer") (hx : zsIdx.getD i 0 = idx) (hd : zD cc pc pc' (.ldc idx) 2) (k : zJ κ (zC0 ca D) cc nL own rt ret fr d A c0 a g0 g u pc' lv (.ref (D.2 100 i) :: st) X) : zJ κ (zC0 ca D) cc nL own rt ret fr d A c0 a g0 g u pc lv st X := by
  obtain ⟨hd, rfl⟩ := hd
  subst ho
  subst hx
  exact s_stepA (fun o e ls H locs _ _ _ hS k => va_ldcS o.1 o.2.1 o.2.2.2.1 (e.2.1 i hi) hd k) k
theorem s_ishr {x y : Int32} (hd : zD cc pc pc' .ishr 1) (k : zJ κ (zC0 ca D) cc nL own rt ret fr d A c0 a g0 g u pc' lv (.int (x >>> (y &&& 31)) :: st) X) : zJ κ (zC0 ca D) cc nL own rt ret fr d A c0 a g0 g u pc lv (.int y :: .int x :: st) X := by
  obtain ⟨hd, rfl⟩ := hd
  exact z_step (fun o ls H locs _ _ _ hl k => lv_ishr o.1 o.2.1 hd k) k
theorem s_bret {v : Int32} (hd : zD cc pc pc' .ireturn 1) : zJ κ (zC0 ca D) cc nL own (some .byte) zri fr d A c0 a g0 g u pc lv [.int v] (zgd (zby v) (some (v, u))) := by
  obtain ⟨hd, -⟩ := hd
  refine z_gd fun hv => ?_
  have hv : v.toInt8.toInt32 = v := of_decide_eq_true hv
  intro r u' h
  cases h
  refine ⟨zrel_rf, fun h1 h2 h3 h4 h5 ls H locs hl hw => ?_⟩
  exact W.zret h2.1 h2.2.1 h2.2.2.2.2.2.1 (by show Value.int v.toInt8.toInt32 = Value.int v; rw [hv]) (fun t ht hW => ⟨rfl, ⟨g, h4, by rw [ht]; exact hw.1, va_K.moved hW.alike h2.2.2.2.2.2.2.2, hw.2.1⟩, hw.2.2.F ht⟩) hw.2.2.2.2 hd h2.2.2.2.2.2.2.1
/-- a call on a text -/
theorem s_callT (hM : zMet (zKl κ) (zC0 ca D) y (.code y bytes maxL rt') ret' true d' a g (.ref (D.2 100 i) :: As) u F) (hG : zGV (zC0 ca D) own idx "java/lang/String" y (.code y bytes maxL rt') n maxL) (hi : i < 13) (hdd : d' + 1 ≤ d) (hn : As.length = n) (hst : st = As.reverse ++ .ref (D.2 100 i) :: rest) (hW : (rest.map fun v => v.category).sum ≤ 8) (hd : zD cc pc pc' (.invokevirtual idx) 3)
    (k : ∀ (r1 : σ) (u1 : zMu), zJ κ (zC0 ca D) cc nL own rt ret fr d A c0 a g0 g u1 pc' lv ((ret' r1).toList ++ rest) (K r1 u1)) : zJ κ (zC0 ca D) cc nL own rt ret fr d A c0 a g0 g u pc lv st (zbd F K) := by
  refine z_call hM (fun _ => rfl) (fun o h5 r1 u1 ls H locs cells slots hl hw m2 hf hR1 hR2 => ?_) hd.2 (fun r1 u1 g1 hg => by rw [hg rfl]; exact k r1 u1)
  exact va_runV ⟨o.1, o.2.1, o.2.2.1, o.2.2.2.1, o.2.2.2.2.1⟩ m2 (cwV n o.2.2.2.2.1 hG.1 rfl rfl rfl hG.2.1 ⟨by rw [hR1]; exact hdd, by rw [hR2]; have := hG.2.2; show 8 + (maxL + 11) + 40 * d' ≤ 40 * d; omega⟩) ⟨zblind, vk_recv h5.2.1.1 hi hw.2.2, fun U hU hW => ⟨rfl, zpre h5 o.2.2.2.2.2.2.2 hw hU hW⟩⟩ rfl hn hl.1 hst (lv_room hW) hd.1 hf
end sTexts
theorem cek_GV {own C : String} {idx : Nat} {y : MethodName} {cd : Cond} (h1 : Cond.methodLink own idx y ∈ ce_gk) (h2 : Cond.instanceMethod y ∈ ce_gk) (h3 : Cond.selects C y y ∈ ce_gk) (h4 : Cond.initialized C ∈ ce_gk) (h5 : cd ∈ ce_gk) : GoodIn ce_gk (wsV own idx C y (cd :: ce_gk)) := by
  intro c hc
  have h : c ∈ ce_gk := by
    rcases List.mem_append.mp hc with hc | hc
    · simp only [List.mem_cons, List.not_mem_nil, or_false] at hc
      rcases hc with rfl | rfl | rfl | rfl <;> assumption
    · rcases List.mem_cons.mp hc with rfl | hc <;> assumption
  exact cek_goodIn c h
theorem cek_GX {own : String} {idx : Nat} {y : MethodName} {cd : Cond} (h1 : Cond.methodLink own idx y ∈ ce_gk) (h2 : Cond.static y ∈ ce_gk) (h4 : Cond.initialized y.cls ∈ ce_gk) (h5 : cd ∈ ce_gk) : GoodIn ce_gk (va_wsS own idx y (cd :: ce_gk)) := by
  intro c hc
  have h : c ∈ ce_gk := by
    rcases List.mem_append.mp hc with hc | hc
    · simp only [List.mem_cons, List.not_mem_nil, or_false] at hc
      rcases hc with rfl | rfl | rfl <;> assumption
    · rcases List.mem_cons.mp hc with rfl | hc <;> assumption
  exact cek_goodIn c h
theorem ksG_String335 (ca : Nat → ClassId) (D : va_G) : zGV (zC0 ca D) "java/lang/String" 335 "java/lang/String" jsY_coder (.code jsY_coder prog_17_method_152_code 1 (some .byte)) 0 1 := ⟨cek_GV (cek_w4 9 rfl) (cek_w4 10 rfl) (cek_w4 11 rfl) (cek_w3 39 rfl) (cek_w4 12 rfl), by decide +kernel, by decide⟩
theorem ksG_String492 (ca : Nat → ClassId) (D : va_G) : zGV (zC0 ca D) "java/lang/String" 492 "java/lang/String" jsY_isLatin1 (.code jsY_isLatin1 prog_17_method_154_code 1 (some .boolean)) 0 1 := ⟨cek_GV (cek_w4 13 rfl) (cek_w4 14 rfl) (cek_w4 15 rfl) (cek_w3 39 rfl) (cek_w4 16 rfl), by decide +kernel, by decide⟩
theorem ksG_len (ca : Nat → ClassId) (D : va_G) : zGV (zC0 ca D) ce_RX 110 "java/lang/String" jsY_length (.code jsY_length prog_17_method_54_code 1 (some .int)) 0 1 := ⟨cek_GV (cek_w4 17 rfl) (cek_w4 18 rfl) (cek_w4 19 rfl) (cek_w3 39 rfl) (cek_w4 20 rfl), by decide +kernel, by decide⟩
theorem ksG_checkP (ca : Nat → ClassId) (D : va_G) : zGX (zC0 ca D) "java/lang/String" 1059 ksY_checkP (.code ksY_checkP prog_22_method_11_code 3 (some .int)) 3 3 := ⟨cek_GX (cek_w3 33 rfl) (cek_w3 34 rfl) (cek_w3 35 rfl) (cek_w3 36 rfl), by decide +kernel, by decide⟩
theorem ksG_checkS (ca : Nat → ClassId) (D : va_G) : zGX (zC0 ca D) "java/lang/StringLatin1" 9 ksY_checkS (.code ksY_checkS prog_17_method_155_code 2 none) 2 2 := ⟨cek_GX (cek_w3 37 rfl) (cek_w3 38 rfl) (cek_w3 39 rfl) (cek_w4 0 rfl), by decide +kernel, by decide⟩
theorem ksG_charAtB (ca : Nat → ClassId) (D : va_G) : zGX (zC0 ca D) "java/lang/String" 495 ksY_charAtB (.code ksY_charAtB prog_18_method_2_code 2 (some .char)) 2 2 := ⟨cek_GX (cek_w4 1 rfl) (cek_w4 2 rfl) (cek_w4 3 rfl) (cek_w4 4 rfl), by decide +kernel, by decide⟩
theorem ksG_charAt (ca : Nat → ClassId) (D : va_G) : zGV (zC0 ca D) ce_RX 114 "java/lang/String" ksY_charAt (.code ksY_charAt prog_17_method_56_code 2 (some .char)) 1 2 := ⟨cek_GV (cek_w4 5 rfl) (cek_w4 6 rfl) (cek_w4 7 rfl) (cek_w3 39 rfl) (cek_w4 8 rfl), by decide +kernel, by decide⟩
theorem ksG_packed (ca : Nat → ClassId) (D : va_G) : zGX (zC0 ca D) ce_RX 11 ksY_packed (.code ksY_packed prog_5_method_11_code 4 (some .long)) 1 4 := ⟨cek_GX (cek_w2 32 rfl) (cek_w2 33 rfl) (cek_w2 34 rfl) (cek_w2 35 rfl), by decide +kernel, by decide⟩
set_option maxRecDepth 20000 in
set_option maxHeartbeats 4000000 in
theorem kst_isLatin1 {l : Launch} {ca : Nat → ClassId} {D : va_G} {a g : Nat → Nat} (n i : Nat) (hi : i < 13) (u : zMu) : zMet l (zC0 ca D) jsY_isLatin1 (.code jsY_isLatin1 prog_17_method_154_code 1 (some .boolean)) zri true 1 a g [.ref (D.2 100 i)] u (js_isLatin1 n i u) := by
  refine zMet.of rfl (Nat.le_of_ble_eq_true rfl) fun κ A hl => ?_
  subst hl
  unfold js_isLatin1
  refine s_cmp (pc' := 3) (cek_up (ce_w20 29 rfl)) ⟨by decide +kernel, rfl⟩ ?_
  refine z_if_eq (pc' := 6) (tgt := 17) (off := 14) ⟨by decide +kernel, rfl⟩ rfl (fun h1 => ?_) (fun h1 => ?_)
  · refine z_iconst (pc' := 18) (n := 0) (v := 0) (by decide) ⟨by decide +kernel, rfl⟩ ?_
    exact z_zret (pc' := 19) (by decide) ⟨by decide +kernel, rfl⟩
  · refine z_aload_n (pc' := 7) (k := 0) (i := 0) 0 rfl rfl ⟨by decide +kernel, rfl⟩ ?_
    refine s_cod (pc' := 10) hi (cek_up (ce_w20 30 rfl)) ⟨by decide +kernel, rfl⟩ ?_
    refine z_if_ne (pc' := 13) (tgt := 17) (off := 7) ⟨by decide +kernel, rfl⟩ rfl (fun h2 => ?_) (fun h2 => ?_)
    · refine z_iconst (pc' := 14) (n := 1) (v := 1) (by decide) ⟨by decide +kernel, rfl⟩ ?_
      refine z_goto (tgt := 18) (off := 4) (by decide +kernel) rfl ?_
      exact z_zret (pc' := 19) (by decide) ⟨by decide +kernel, rfl⟩
    · refine z_iconst (pc' := 18) (n := 0) (v := 0) (by decide) ⟨by decide +kernel, rfl⟩ ?_
      exact z_zret (pc' := 19) (by decide) ⟨by decide +kernel, rfl⟩
set_option maxRecDepth 20000 in
set_option maxHeartbeats 4000000 in
theorem kst_coder {l : Launch} {ca : Nat → ClassId} {D : va_G} {a g : Nat → Nat} (n i : Nat) (hi : i < 13) (u : zMu) : zMet l (zC0 ca D) jsY_coder (.code jsY_coder prog_17_method_152_code 1 (some .byte)) zri true 1 a g [.ref (D.2 100 i)] u (js_coder n i u) := by
  refine zMet.of rfl (Nat.le_of_ble_eq_true rfl) fun κ A hl => ?_
  subst hl
  unfold js_coder
  refine s_cmp (pc' := 3) (cek_up (ce_w20 29 rfl)) ⟨by decide +kernel, rfl⟩ ?_
  refine z_if_eq (pc' := 6) (tgt := 13) (off := 10) ⟨by decide +kernel, rfl⟩ rfl (fun h1 => ?_) (fun h1 => ?_)
  · refine z_iconst (pc' := 14) (n := 1) (v := 1) (by decide) ⟨by decide +kernel, rfl⟩ ?_
    exact s_bret (pc' := 15) ⟨by decide +kernel, rfl⟩
  · refine z_aload_n (pc' := 7) (k := 0) (i := 0) 0 rfl rfl ⟨by decide +kernel, rfl⟩ ?_
    refine s_cod (pc' := 10) hi (cek_up (ce_w20 30 rfl)) ⟨by decide +kernel, rfl⟩ ?_
    refine z_goto (tgt := 14) (off := 4) (by decide +kernel) rfl ?_
    exact s_bret (pc' := 15) ⟨by decide +kernel, rfl⟩
set_option maxRecDepth 20000 in
set_option maxHeartbeats 4000000 in
theorem kst_length {l : Launch} {ca : Nat → ClassId} {D : va_G} {a g : Nat → Nat} (n i : Nat) (hi : i < 13) (u : zMu) : zMet l (zC0 ca D) jsY_length (.code jsY_length prog_17_method_54_code 1 (some .int)) zri true 2 a g [.ref (D.2 100 i)] u (js_length n i u) := by
  refine zMet.of rfl (Nat.le_of_ble_eq_true rfl) fun κ A hl => ?_
  subst hl
  unfold js_length
  refine z_aload_n (pc' := 1) (k := 0) (i := 0) 0 rfl rfl ⟨by decide +kernel, rfl⟩ ?_
  refine s_val (pc' := 4) hi (cek_up (ce_w20 31 rfl)) ⟨by decide +kernel, rfl⟩ ?_
  refine s_len (pc' := 5) hi ⟨by decide +kernel, rfl⟩ ?_
  refine z_aload_n (pc' := 6) (k := 0) (i := 0) 0 rfl rfl ⟨by decide +kernel, rfl⟩ ?_
  refine s_callT (pc' := 9) (i := i) (kst_coder n i hi u) (ksG_String335 ca D) hi (by decide) rfl rfl (Nat.le_of_ble_eq_true rfl) ⟨by decide +kernel, rfl⟩ (fun r1 u2 => ?_)
  refine s_ishr (pc' := 10) ⟨by decide +kernel, rfl⟩ ?_
  exact z_iret (pc' := 11) ⟨by decide +kernel, rfl⟩
section sChars
variable {ρ : Type} {κ : zKx} {ca : Nat → ClassId} {D : va_G} {cc : ByteArray} {nL : Nat} {own : String} {rt : Option FieldType} {ret : ρ → Option Value} {fr : Bool} {d : Nat} {A : Nat → Prop} {c0 : Nat × Nat} {a g0 g : Nat → Nat} {u : zMu} {pc pc' : Nat} {lv : List (Nat × Value)} {st : List Value} {X : Option (ρ × zMu)}
def zch (v : Int32) : Bool := decide ((v.toUInt32 % 65536).toInt32 = v)
theorem s_cret {v : Int32} (hd : zD cc pc pc' .ireturn 1) : zJ κ (zC0 ca D) cc nL own (some .char) zri fr d A c0 a g0 g u pc lv [.int v] (zgd (zch v) (some (v, u))) := by
  obtain ⟨hd, -⟩ := hd
  refine z_gd fun hv => ?_
  have hv : (v.toUInt32 % 65536).toInt32 = v := of_decide_eq_true hv
  intro r u' h
  cases h
  refine ⟨zrel_rf, fun h1 h2 h3 h4 h5 ls H locs hl hw => ?_⟩
  exact W.zret h2.1 h2.2.1 h2.2.2.2.2.2.1 (by show Value.int (v.toUInt32 % 65536).toInt32 = Value.int v; rw [hv]) (fun t ht hW => ⟨rfl, ⟨g, h4, by rw [ht]; exact hw.1, va_K.moved hW.alike h2.2.2.2.2.2.2.2, hw.2.1⟩, hw.2.2.F ht⟩) hw.2.2.2.2 hd h2.2.2.2.2.2.2.1
/-- the formatter: some reference, or none -/
def zfo (v : Value) : Prop := v = .null ∨ ∃ t : Nat, v = .ref t
theorem zfo.cat {v : Value} (h : zfo v) : v.category = 1 := by
  rcases h with rfl | ⟨t, rfl⟩ <;> rfl
theorem s_fmt {idx : Nat} (hw : Cond.fieldLink own idx "jdk/internal/util/Preconditions" "SIOOBE_FORMATTER" "Ljava/util/function/BiFunction;" ∈ ce_gk) (hd : zD cc pc pc' (.getstatic idx) 3) (k : ∀ fo : Value, zfo fo → zJ κ (zC0 ca D) cc nL own rt ret fr d A c0 a g0 g u pc' lv (fo :: st) X) : zJ κ (zC0 ca D) cc nL own rt ret fr d A c0 a g0 g u pc lv st X := by
  obtain ⟨hd, rfl⟩ := hd
  intro r u' h
  refine ⟨(k .null (Or.inl rfl) r u' h).1, fun h1 h2 h3 h4 h5 ls H locs hl hw' => ?_⟩
  rcases h5.2.1.2.2.2 with e | ⟨t, e⟩
  · exact va_gets h2.1 h2.2.1 e hw'.2.2 h2.2.2.2.1 (h2.2.2.2.2.1 _ hw) (fun _ q => q) hd ((k .null (Or.inl rfl) r u' h).2 h1 h2 h3 h4 h5 ls H locs hl hw')
  · exact va_gets h2.1 h2.2.1 e hw'.2.2 h2.2.2.2.1 (h2.2.2.2.2.1 _ hw) (fun _ q => q) hd ((k (.ref t) (Or.inr ⟨t, rfl⟩) r u' h).2 h1 h2 h3 h4 h5 ls H locs hl hw')
end sChars
def ks_checkP (u : zMu) (x0 x1 : Int32) : Option (Int32 × zMu) := if x0 < 0 then none else if x0 < x1 then some (x0, u) else none
def ks_checkS (u : zMu) (x0 x1 : Int32) : Option (Unit × zMu) := zbd (ks_checkP u x0 x1) fun _ u2 => some ((), u2)
def ks_charAtB (i : Nat) (u : zMu) (x1 : Int32) : Option (Int32 × zMu) := zbd (ks_checkS u x1 (Int32.ofNat (zsLen.getD i 0))) fun _ u2 => zgd (zin x1 (zsLen.getD i 0)) <| zgd (zch ((((zsByt.getD i []).getD (zx x1) 0) &&& 255).toUInt32 % 65536).toInt32) (some (((((zsByt.getD i []).getD (zx x1) 0) &&& 255).toUInt32 % 65536).toInt32, u2))
def ks_charAt (n i : Nat) (u : zMu) (x1 : Int32) : Option (Int32 × zMu) := zbd (js_isLatin1 n i u) fun r1 u2 => if r1 = 0 then none else zbd (ks_charAtB i u2 x1) fun r2 u3 => zgd (zch r2) (some (r2, u3))
def ks_packed_L4 (n i : Nat) : Nat → zMu → Int64 → Int32 → Option (Int64 × zMu)
  | 0, _, _, _ => none
  | m + 1, u, x1, x3 => zbd (js_length n i u) fun r1 u2 => if x3 < r1 then zbd (ks_charAt n i u2 x3) fun r2 u3 => ks_packed_L4 n i m u3 (x1 ||| (r2.toInt64 <<< ((8 * x3).toInt64 &&& 63))) (x3 + 1) else some (x1, u2)
theorem kst_checkP {l : Launch} {ca : Nat → ClassId} {D : va_G} {a g : Nat → Nat} (fo : Value) (hfo : zfo fo) (u : zMu) (x0 x1 : Int32) : zMet l (zC0 ca D) ksY_checkP (.code ksY_checkP prog_22_method_11_code 3 (some .int)) zri true 0 a g [.int x0, .int x1, fo] u (ks_checkP u x0 x1) := by
  have main : ∀ fo : Value, zfo fo → (lg_sl [.int x0, .int x1, fo]).length ≤ 3 → (∀ (κ : zKx) (A : Nat → Prop) (v2 : List (Nat × Value)), zKl κ = l → zJ κ (zC0 ca D) prog_22_method_11_code 3 "jdk/internal/util/Preconditions" (some .int) zri true 0 A (zc u) a g g u 0 ((0, .int x0) :: (1, .int x1) :: v2) [] (ks_checkP u x0 x1)) → zMet l (zC0 ca D) ksY_checkP (.code ksY_checkP prog_22_method_11_code 3 (some .int)) zri true 0 a g [.int x0, .int x1, fo] u (ks_checkP u x0 x1) := by
    intro fo h hl k
    refine zMet.of (by decide +kernel) hl fun κ A hk => ?_
    rcases h with rfl | ⟨t, rfl⟩
    · exact k κ A _ hk
    · exact k κ A _ hk
  refine main fo hfo (by rcases hfo with rfl | ⟨t, rfl⟩ <;> exact Nat.le_of_ble_eq_true rfl) fun κ A v2 hl => ?_
  subst hl
  unfold ks_checkP
  refine z_iload_n (pc' := 1) (k := 0) (i := 0) 0 rfl rfl ⟨by decide +kernel, rfl⟩ ?_
  refine z_if_lt (pc' := 4) (tgt := 9) (off := 8) ⟨by decide +kernel, rfl⟩ rfl (fun h1 => s_none) (fun h1 => ?_)
  refine z_iload_n (pc' := 5) (k := 0) (i := 0) 0 rfl rfl ⟨by decide +kernel, rfl⟩ ?_
  refine z_iload_n (pc' := 6) (k := 1) (i := 1) 1 rfl rfl ⟨by decide +kernel, rfl⟩ ?_
  refine z_icmp_lt (pc' := 9) (tgt := 16) (off := 10) ⟨by decide +kernel, rfl⟩ rfl (fun h2 => ?_) (fun h2 => s_none)
  refine z_iload_n (pc' := 17) (k := 0) (i := 0) 0 rfl rfl ⟨by decide +kernel, rfl⟩ ?_
  exact z_iret (pc' := 18) ⟨by decide +kernel, rfl⟩
theorem kst_checkS {l : Launch} {ca : Nat → ClassId} {D : va_G} {a g : Nat → Nat} (u : zMu) (x0 x1 : Int32) : zMet l (zC0 ca D) ksY_checkS (.code ksY_checkS prog_17_method_155_code 2 none) zrv true 1 a g [.int x0, .int x1] u (ks_checkS u x0 x1) := by
  refine zMet.of (by decide +kernel) (Nat.le_of_ble_eq_true rfl) fun κ A hl => ?_
  subst hl
  unfold ks_checkS
  refine z_iload_n (pc' := 1) (k := 0) (i := 0) 0 rfl rfl ⟨by decide +kernel, rfl⟩ ?_
  refine z_iload_n (pc' := 2) (k := 1) (i := 1) 1 rfl rfl ⟨by decide +kernel, rfl⟩ ?_
  refine s_fmt (pc' := 5) (cek_w4 21 rfl) ⟨by decide +kernel, rfl⟩ (fun fo hfo => ?_)
  refine z_callXf (pc' := 8) (kst_checkP fo hfo u x0 x1) (ksG_checkP ca D) (by decide) rfl rfl (Nat.le_of_ble_eq_true rfl) ⟨by decide +kernel, rfl⟩ (fun r1 u2 => ?_)
  refine z_pop (pc' := 9) rfl ⟨by decide +kernel, rfl⟩ ?_
  exact z_vret (pc' := 10) ⟨by decide +kernel, rfl⟩
theorem kst_charAtB {l : Launch} {ca : Nat → ClassId} {D : va_G} {a g : Nat → Nat} (i : Nat) (hi : i < 13) (u : zMu) (x1 : Int32) : zMet l (zC0 ca D) ksY_charAtB (.code ksY_charAtB prog_18_method_2_code 2 (some .char)) zri true 2 a g [.ref (D.2 101 i), .int x1] u (ks_charAtB i u x1) := by
  refine zMet.of (by decide +kernel) (Nat.le_of_ble_eq_true rfl) fun κ A hl => ?_
  subst hl
  unfold ks_charAtB
  refine z_iload_n (pc' := 1) (k := 1) (i := 1) 1 rfl rfl ⟨by decide +kernel, rfl⟩ ?_
  refine z_aload_n (pc' := 2) (k := 0) (i := 0) 0 rfl rfl ⟨by decide +kernel, rfl⟩ ?_
  refine s_len (pc' := 3) hi ⟨by decide +kernel, rfl⟩ ?_
  refine z_callXf (pc' := 6) (kst_checkS u x1 (Int32.ofNat (zsLen.getD i 0))) (ksG_checkS ca D) (by decide) rfl rfl (Nat.le_of_ble_eq_true rfl) ⟨by decide +kernel, rfl⟩ (fun r1 u2 => ?_)
  refine z_aload_n (pc' := 7) (k := 0) (i := 0) 0 rfl rfl ⟨by decide +kernel, rfl⟩ ?_
  refine z_iload_n (pc' := 8) (k := 1) (i := 1) 1 rfl rfl ⟨by decide +kernel, rfl⟩ ?_
  refine s_bal (pc' := 9) hi ⟨by decide +kernel, rfl⟩ ?_
  refine z_sipush (pc' := 12) (n := 255) (v := 255) (by decide) ⟨by decide +kernel, rfl⟩ ?_
  refine z_iand (pc' := 13) ⟨by decide +kernel, rfl⟩ ?_
  refine z_i2c (pc' := 14) ⟨by decide +kernel, rfl⟩ ?_
  exact s_cret (pc' := 15) ⟨by decide +kernel, rfl⟩
theorem kst_charAt {l : Launch} {ca : Nat → ClassId} {D : va_G} {a g : Nat → Nat} (n i : Nat) (hi : i < 13) (u : zMu) (x1 : Int32) : zMet l (zC0 ca D) ksY_charAt (.code ksY_charAt prog_17_method_56_code 2 (some .char)) zri true 3 a g [.ref (D.2 100 i), .int x1] u (ks_charAt n i u x1) := by
  refine zMet.of (by decide +kernel) (Nat.le_of_ble_eq_true rfl) fun κ A hl => ?_
  subst hl
  unfold ks_charAt
  refine z_aload_n (pc' := 1) (k := 0) (i := 0) 0 rfl rfl ⟨by decide +kernel, rfl⟩ ?_
  refine s_callT (pc' := 4) (i := i) (kst_isLatin1 n i hi u) (ksG_String492 ca D) hi (by decide) rfl rfl (Nat.le_of_ble_eq_true rfl) ⟨by decide +kernel, rfl⟩ (fun r1 u2 => ?_)
  refine z_if_eq (pc' := 7) (tgt := 16) (off := 12) ⟨by decide +kernel, rfl⟩ rfl (fun h1 => s_none) (fun h1 => ?_)
  refine z_aload_n (pc' := 8) (k := 0) (i := 0) 0 rfl rfl ⟨by decide +kernel, rfl⟩ ?_
  refine s_val (pc' := 11) hi (cek_w4 22 rfl) ⟨by decide +kernel, rfl⟩ ?_
  refine z_iload_n (pc' := 12) (k := 1) (i := 1) 1 rfl rfl ⟨by decide +kernel, rfl⟩ ?_
  refine z_callXf (pc' := 15) (kst_charAtB i hi u2 x1) (ksG_charAtB ca D) (by decide) rfl rfl (Nat.le_of_ble_eq_true rfl) ⟨by decide +kernel, rfl⟩ (fun r2 u3 => ?_)
  exact s_cret (pc' := 16) ⟨by decide +kernel, rfl⟩
theorem kst_packed_L4 {κ : zKx} {ca : Nat → ClassId} {D : va_G} {A : Nat → Prop} {c0 : Nat × Nat} {a g0 g : Nat → Nat} (n i : Nat) (hi : i < 13) : ∀ (m : Nat) (u : zMu) (x1 : Int64) (x3 : Int32), zJ κ (zC0 ca D) prog_5_method_11_code 4 ce_RX (some .long) zrl true 4 A c0 a g0 g u 4 [(0, .ref (D.2 100 i)), (1, .long x1), (3, .int x3)] [] (ks_packed_L4 n i m u x1 x3) := by
  intro m
  induction m with
  | zero => intro u x1 x3; exact s_none
  | succ m ih =>
    intro u x1 x3
    unfold ks_packed_L4
    refine z_iload_n (pc' := 5) (k := 3) (i := 3) 2 rfl rfl ⟨by decide +kernel, rfl⟩ ?_
    refine z_aload_n (pc' := 6) (k := 0) (i := 0) 0 rfl rfl ⟨by decide +kernel, rfl⟩ ?_
    refine s_callT (pc' := 9) (i := i) (kst_length n i hi u) (ksG_len ca D) hi (by decide) rfl rfl (Nat.le_of_ble_eq_true rfl) ⟨by decide +kernel, rfl⟩ (fun r1 u2 => ?_)
    refine z_icmp_ge (pc' := 12) (tgt := 32) (off := 23) ⟨by decide +kernel, rfl⟩ rfl (fun h1 => ?_) (fun h1 => ?_)
    · refine z_lload_n (pc' := 13) (k := 1) (i := 1) 1 rfl rfl ⟨by decide +kernel, rfl⟩ ?_
      refine z_aload_n (pc' := 14) (k := 0) (i := 0) 0 rfl rfl ⟨by decide +kernel, rfl⟩ ?_
      refine z_iload_n (pc' := 15) (k := 3) (i := 3) 2 rfl rfl ⟨by decide +kernel, rfl⟩ ?_
      refine s_callT (pc' := 18) (i := i) (kst_charAt n i hi u2 x3) (ksG_charAt ca D) hi (by decide) rfl rfl (Nat.le_of_ble_eq_true rfl) ⟨by decide +kernel, rfl⟩ (fun r2 u3 => ?_)
      refine z_i2l (pc' := 19) ⟨by decide +kernel, rfl⟩ ?_
      refine z_bipush (pc' := 21) (n := 8) (v := 8) (by decide) ⟨by decide +kernel, rfl⟩ ?_
      refine z_iload_n (pc' := 22) (k := 3) (i := 3) 2 rfl rfl ⟨by decide +kernel, rfl⟩ ?_
      refine z_imul (pc' := 23) ⟨by decide +kernel, rfl⟩ ?_
      refine z_lshl (pc' := 24) ⟨by decide +kernel, rfl⟩ ?_
      refine z_lor (pc' := 25) ⟨by decide +kernel, rfl⟩ ?_
      refine z_lstore_n (pc' := 26) (k := 1) (i := 1) rfl (by decide) rfl ⟨by decide +kernel, rfl⟩ ?_
      refine z_iinc (pc' := 29) (i := 3) (n := 1) 2 rfl (v := x3 + 1) rfl (by decide) rfl ⟨by decide +kernel, rfl⟩ ?_
      refine z_goto (tgt := 4) (off := -25) (by decide +kernel) rfl ?_
      exact z_lv [2, 1, 0] rfl (ih u3 _ _)
    · refine z_lload_n (pc' := 33) (k := 1) (i := 1) 1 rfl rfl ⟨by decide +kernel, rfl⟩ ?_
      exact z_lret (pc' := 34) ⟨by decide +kernel, rfl⟩
theorem kst_packed {l : Launch} {ca : Nat → ClassId} {D : va_G} {a g : Nat → Nat} (n i : Nat) (hi : i < 13) (u : zMu) : zMet l (zC0 ca D) ksY_packed (.code ksY_packed prog_5_method_11_code 4 (some .long)) zrl true 4 a g [.ref (D.2 100 i)] u (ks_packed_L4 n i n u 0 0) := by
  refine zMet.of (by decide +kernel) (Nat.le_of_ble_eq_true rfl) fun κ A hl => ?_
  subst hl
  refine z_lconst (pc' := 1) (n := 0) (v := 0) (by decide) ⟨by decide +kernel, rfl⟩ ?_
  refine z_lstore_n (pc' := 2) (k := 1) (i := 1) rfl (by decide) rfl ⟨by decide +kernel, rfl⟩ ?_
  refine z_iconst (pc' := 3) (n := 0) (v := 0) (by decide) ⟨by decide +kernel, rfl⟩ ?_
  refine z_istore_n (pc' := 4) (k := 3) (i := 3) rfl (by decide) rfl ⟨by decide +kernel, rfl⟩ ?_
  exact z_lv [2, 1, 0] rfl (kst_packed_L4 n i hi n u 0 0)
/-- what it gives -/
theorem ks_keys (u : zMu) : ∀ i, i < 12 → ks_packed_L4 9 i 9 u 0 0 = some (lN (pkn kl (kst i) (kln i)), u) := by
  intro i hi
  have : i = 0 ∨ i = 1 ∨ i = 2 ∨ i = 3 ∨ i = 4 ∨ i = 5 ∨ i = 6 ∨ i = 7 ∨ i = 8 ∨ i = 9 ∨ i = 10 ∨ i = 11 := by omega
  rcases this with rfl | rfl | rfl | rfl | rfl | rfl | rfl | rfl | rfl | rfl | rfl | rfl <;> rfl
