/-! THE REFERENCE'S CONSTRUCTOR (printed by wip/gen/rctor.py) -/
def rfY_init : MethodName := ⟨rf_C, "<init>", "()V"⟩
def rfk0 : List Cond := [Cond.methodLink rf_C 1 Lib.objectInit, Cond.instanceMethod Lib.objectInit, Cond.code Lib.objectInit ⟨#[0xb1]⟩ 1 none, Cond.arrayClass .int, Cond.fieldLink rf_C 7 "ShapeEngineModel" "tape" "[I", Cond.fieldLink rf_C 13 "ShapeEngineModel" "text" "[I", Cond.fieldLink rf_C 16 "ShapeEngineModel" "old" "[I", Cond.fieldLink rf_C 19 "ShapeEngineModel" "tKind" "[I", Cond.fieldLink rf_C 22 "ShapeEngineModel" "tPlace" "[I", Cond.fieldLink rf_C 25 "ShapeEngineModel" "tWorth" "[I", Cond.fieldLink rf_C 28 "ShapeEngineModel" "nBegin" "[I", Cond.fieldLink rf_C 31 "ShapeEngineModel" "nSize" "[I", Cond.fieldLink rf_C 34 "ShapeEngineModel" "keyLetters" "[I", Cond.fieldLink rf_C 37 "ShapeEngineModel" "op" "[I", Cond.fieldLink rf_C 40 "ShapeEngineModel" "opA" "[I", Cond.fieldLink rf_C 43 "ShapeEngineModel" "opB" "[I", Cond.fieldLink rf_C 46 "ShapeEngineModel" "opPlace" "[I", Cond.fieldLink rf_C 49 "ShapeEngineModel" "fnName" "[I", Cond.fieldLink rf_C 52 "ShapeEngineModel" "fnAt" "[I", Cond.fieldLink rf_C 55 "ShapeEngineModel" "fnNames" "[I", Cond.fieldLink rf_C 58 "ShapeEngineModel" "varN" "[I", Cond.fieldLink rf_C 61 "ShapeEngineModel" "varName" "[I", Cond.fieldLink rf_C 64 "ShapeEngineModel" "siteKind" "[I", Cond.fieldLink rf_C 67 "ShapeEngineModel" "sitePlace" "[I", Cond.fieldLink rf_C 70 "ShapeEngineModel" "siteFn" "[I", Cond.fieldLink rf_C 73 "ShapeEngineModel" "siteName" "[I", Cond.fieldLink rf_C 76 "ShapeEngineModel" "callAt" "[I", Cond.fieldLink rf_C 79 "ShapeEngineModel" "callName" "[I", Cond.fieldLink rf_C 82 "ShapeEngineModel" "callN" "[I", Cond.fieldLink rf_C 85 "ShapeEngineModel" "callPlace" "[I", Cond.fieldLink rf_C 88 "ShapeEngineModel" "vSort" "[I", Cond.fieldLink rf_C 91 "ShapeEngineModel" "varSort" "[I", Cond.fieldLink rf_C 94 "ShapeEngineModel" "frameBack" "[I", Cond.fieldLink rf_C 97 "ShapeEngineModel" "frameFn" "[I", Cond.arrayClass .long, Cond.fieldLink rf_C 100 "ShapeEngineModel" "vNum" "[J", Cond.fieldLink rf_C 104 "ShapeEngineModel" "varNum" "[J", Cond.fieldLink rf_C 107 "ShapeEngineModel" "paperSort" "[I", Cond.fieldLink rf_C 110 "ShapeEngineModel" "paperNum" "[J", Cond.fieldLink rf_C 113 "ShapeEngineModel" "oParent" "[I"]
def rfk1 : List Cond := [Cond.fieldLink rf_C 116 "ShapeEngineModel" "oShape" "[I", Cond.fieldLink rf_C 119 "ShapeEngineModel" "oFirst" "[I", Cond.fieldLink rf_C 122 "ShapeEngineModel" "oLast" "[I", Cond.fieldLink rf_C 125 "ShapeEngineModel" "oSize" "[I", Cond.fieldLink rf_C 128 "ShapeEngineModel" "mName" "[I", Cond.fieldLink rf_C 131 "ShapeEngineModel" "mSort" "[I", Cond.fieldLink rf_C 134 "ShapeEngineModel" "mNext" "[I", Cond.fieldLink rf_C 137 "ShapeEngineModel" "mNum" "[J", Cond.fieldLink rf_C 140 "ShapeEngineModel" "sParent" "[I", Cond.fieldLink rf_C 143 "ShapeEngineModel" "sUp" "[I", Cond.fieldLink rf_C 146 "ShapeEngineModel" "sName" "[I", Cond.fieldLink rf_C 149 "ShapeEngineModel" "sSize" "[I", Cond.fieldLink rf_C 152 "ShapeEngineModel" "rKind" "[I", Cond.fieldLink rf_C 155 "ShapeEngineModel" "rSize" "[I", Cond.fieldLink rf_C 158 "ShapeEngineModel" "iSort" "[I", Cond.fieldLink rf_C 161 "ShapeEngineModel" "iNum" "[J", Cond.fieldLink rf_C 164 "ShapeEngineModel" "ran" "[I", Cond.fieldLink rf_C 167 "ShapeEngineModel" "siteHits" "[I", Cond.fieldLink rf_C 170 "ShapeEngineModel" "entries" "[I", Cond.fieldLink rf_C 173 "ShapeEngineModel" "entry" "[I", Cond.fieldLink rf_C 176 "ShapeEngineModel" "wayFrom" "[I", Cond.fieldLink rf_C 179 "ShapeEngineModel" "wayTo" "[I", Cond.arrayClass .boolean, Cond.fieldLink rf_C 182 "ShapeEngineModel" "many" "[Z", Cond.fieldLink rf_C 186 "ShapeEngineModel" "guesses" "[I", Cond.fieldLink rf_C 189 "ShapeEngineModel" "guess" "[I", Cond.fieldLink rf_C 192 "ShapeEngineModel" "fnCalls" "[I", Cond.fieldLink rf_C 195 "ShapeEngineModel" "fnCount" "[I", Cond.fieldLink rf_C 198 "ShapeEngineModel" "fnMade" "[I", Cond.fieldLink rf_C 201 "ShapeEngineModel" "fnLeft" "[I", Cond.fieldLink rf_C 204 "ShapeEngineModel" "fnSite" "[I", Cond.fieldLink rf_C 207 "ShapeEngineModel" "made" "[Z", Cond.fieldLink rf_C 210 "ShapeEngineModel" "cold" "[Z", Cond.fieldLink rf_C 213 "ShapeEngineModel" "faultPlace" "I"]
def rf_gk : List Cond := rfk0 ++ (rfk1 ++ (rf_gl))
theorem rfk_w0 {w : Cond} (i : Nat) (h : rfk0[i]? = some w) : w ∈ rf_gk := List.mem_append_left _ (List.mem_of_getElem? h)
theorem rfk_w1 {w : Cond} (i : Nat) (h : rfk1[i]? = some w) : w ∈ rf_gk := List.mem_append_right _ (List.mem_append_left _ (List.mem_of_getElem? h))
theorem rfk_up {w : Cond} (h : w ∈ rf_gl) : w ∈ rf_gk := List.mem_append_right _ (List.mem_append_right _ (h))
set_option maxRecDepth 100000 in
theorem rfk_good : ((rfk0 ++ rfk1).all goodWord) = true := by decide +kernel
theorem rfk_goodIn : GoodIn rf_gk rf_gk := by
  intro c hc
  refine ⟨hc, ?_⟩
  have e : rf_gk = (rfk0 ++ rfk1) ++ rf_gl := by unfold rf_gk; simp only [List.append_assoc]
  rw [e] at hc
  rcases List.mem_append.mp hc with h | h
  · exact good_of_word (List.all_eq_true.mp rfk_good c h)
  · exact (rf_goodIn c h).2
theorem rfk_z : zCl rf_gk rf_C rf_T 105 rf_ty := ⟨fun w hw => rfk_up (rf_zcl.1 w hw), rf_zcl.2⟩
def zRk (ca : Nat → ClassId) (D : va_G) : zSd := (rf_tb, ca, D, rf_cl, rf_gk, fun _ _ _ => True)
def kyI (m : Nat) : Nat → Int32 := fun j => if j < m then nI (kl j) else 0
theorem kyI_0 : kyI 0 = fun _ => 0 := funext fun j => if_neg (by omega)
theorem kyI_s (m : Nat) : upd (kyI m) m (nI (kl m)) = kyI (m + 1) := by
  funext j
  unfold upd kyI
  by_cases c : j = m
  · subst c; rw [if_pos rfl, if_pos (by omega)]
  · rw [if_neg c]
    by_cases d : j < m
    · rw [if_pos d, if_pos (by omega)]
    · rw [if_neg d, if_neg (by omega)]
theorem b_keyI {κ : zKx} {ca : Nat → ClassId} {D : va_G} {cc : ByteArray} {nL : Nat} {own : String} {d mc ms : Nat} {A : Nat → Prop} {W1 : (Nat → Nat) → va_W} {ws : va_W} {cells slots pc pc' : Nat} {lv : List (Nat × Value)} {st : List Value} {i x : Nat} {v w : Int32} (q0 : Nat) (he : ws[q0]? = some (x, .inl (ca 1, 56, .inl (kyI i)))) (hi : i < 56) (hv : v = nI i) (hw : w = nI (kl i)) (hd : zD cc pc pc' .iastore 1) (k : bJ κ (zRk ca D) cc nL own d mc ms A W1 (ws.set q0 (x, .inl (ca 1, 56, .inl (kyI (i + 1))))) cells slots pc' lv st) : bJ κ (zRk ca D) cc nL own d mc ms A W1 ws cells slots pc lv (.int w :: .int v :: .ref x :: st) := by
  obtain ⟨hd, rfl⟩ := hd
  subst hv; subst hw
  intro h1 h2 h3 h4 ls H locs hl hP hD hS
  refine va_iast h2.1 h2.2.1 h2.2.2.2.2.2.2.2 hP hD hS q0 0 he rfl (vp_in_nI hi (by decide)) hd (fun H1 locs1 hP hD hS => ?_)
  rw [nI_clamp (by omega), kyI_s] at hP hD
  exact k h1 h2 h3 h4 ls H1 locs1 hl hP hD hS
def uR0 : zMu := (fun a => match a with
  | 0 => fun j => match j with
    | 19 => -1
    | _ => 0
  | 9 => kyI 56
  | _ => fun _ => 0, fun _ _ => 0, fun _ _ => 0, fun _ => 0, 0, 0)
set_option maxRecDepth 20000 in
set_option maxHeartbeats 8000000 in
theorem rc_init (l : Launch) (ca : Nat → ClassId) (D : va_G) (n x : Nat) (u1 : zMu) (hu : rf_anew n uR0 = some ((), u1)) : bMet l (zRk ca D) rfY_init (.code rfY_init prog_13_method_1_code 1 none) 2 67 137692 [.ref x] [(x, .inr (0, [.null, .null, .null, .int 0, .int 0, .int 0, .null, .null, .null, .int 0, .int 0, .null, .null, .int 0, .null, .int 0, .int 0, .int 0, .int 0, .int 0, .null, .null, .null, .null, .int 0, .int 0, .int 0, .int 0, .null, .null, .null, .null, .null, .int 0, .int 0, .null, .null, .null, .null, .int 0, .null, .null, .null, .null, .int 0, .null, .null, .null, .null, .null, .null, .int 0, .int 0, .int 0, .int 0, .int 0, .int 0, .int 0, .int 0, .int 0, .int 0, .int 0, .int 0, .int 0, .int 0, .int 0, .int 0, .int 0, .int 0, .null, .null, .null, .null, .null, .null, .null, .null, .null, .null, .null, .int 0, .null, .null, .null, .null, .null, .null, .null, .null, .null, .null, .null, .null, .null, .null, .null, .null, .null, .null, .null, .null, .null, .null, .null, .null]))] (fun g => zw rf_tb ca (zad rf_tb (bX x g) (bX x g)) u1) := by
  refine bMet.of (by decide +kernel) rfl (Nat.le_of_ble_eq_true rfl) fun κ A hl => ?_
  subst hl
  refine b_aload (pc' := 1) (k := 0) (i := 0) 0 rfl rfl ⟨by decide +kernel, rfl⟩ ?_
  refine b_oinit (pc' := 4) (idx := 1) (rfk_w0 0 rfl) (rfk_w0 1 rfl) (rfk_w0 2 rfl) (Nat.le_of_ble_eq_true rfl) ⟨by decide +kernel, rfl⟩ ?_
  refine b_aload (pc' := 5) (k := 0) (i := 0) 0 rfl rfl ⟨by decide +kernel, rfl⟩ ?_
  refine b_sipush (pc' := 8) (n := 1500) (v := 1500) (by decide) ⟨by decide +kernel, rfl⟩ ?_
  refine b_newa (pc' := 10) (atype := .int) (ty := .int) (t := 1) (N := 1500) (a0 := (1500, .inl (fun _ => 0))) (rfk_w0 3 rfl) rfl ⟨0, by decide, rfl⟩ (fun _ => rfl) (by decide) (by decide) (Nat.le_of_ble_eq_true rfl) (Nat.le_of_ble_eq_true rfl) (Nat.le_of_ble_eq_true rfl) (Or.inl rfl) ⟨by decide +kernel, rfl⟩ (fun q1 => ?_)
  refine b_put (pc' := 13) (idx := 7) (ci := 0) (N := 105) (j := 0) (f := true) (ty := .array .int) 0 ⟨rf_C, rf_T, rf_ty, rfl, rfk_z, (Nat.le_of_ble_eq_true rfl), (rfk_w0 4 rfl), rfl, rfl, rfl⟩ rfl rfl rfl rfl ⟨by decide +kernel, rfl⟩ ?_
  simp only [List.cons_append, List.nil_append, List.set_cons_zero, List.set_cons_succ]
  refine b_aload (pc' := 14) (k := 0) (i := 0) 0 rfl rfl ⟨by decide +kernel, rfl⟩ ?_
  refine b_sipush (pc' := 17) (n := 1500) (v := 1500) (by decide) ⟨by decide +kernel, rfl⟩ ?_
  refine b_newa (pc' := 19) (atype := .int) (ty := .int) (t := 1) (N := 1500) (a0 := (1500, .inl (fun _ => 0))) (rfk_w0 3 rfl) rfl ⟨0, by decide, rfl⟩ (fun _ => rfl) (by decide) (by decide) (Nat.le_of_ble_eq_true rfl) (Nat.le_of_ble_eq_true rfl) (Nat.le_of_ble_eq_true rfl) (Or.inl rfl) ⟨by decide +kernel, rfl⟩ (fun q2 => ?_)
  refine b_put (pc' := 22) (idx := 13) (ci := 0) (N := 105) (j := 1) (f := true) (ty := .array .int) 0 ⟨rf_C, rf_T, rf_ty, rfl, rfk_z, (Nat.le_of_ble_eq_true rfl), (rfk_w0 5 rfl), rfl, rfl, rfl⟩ rfl rfl rfl rfl ⟨by decide +kernel, rfl⟩ ?_
  simp only [List.cons_append, List.nil_append, List.set_cons_zero, List.set_cons_succ]
  refine b_aload (pc' := 23) (k := 0) (i := 0) 0 rfl rfl ⟨by decide +kernel, rfl⟩ ?_
  refine b_sipush (pc' := 26) (n := 1500) (v := 1500) (by decide) ⟨by decide +kernel, rfl⟩ ?_
  refine b_newa (pc' := 28) (atype := .int) (ty := .int) (t := 1) (N := 1500) (a0 := (1500, .inl (fun _ => 0))) (rfk_w0 3 rfl) rfl ⟨0, by decide, rfl⟩ (fun _ => rfl) (by decide) (by decide) (Nat.le_of_ble_eq_true rfl) (Nat.le_of_ble_eq_true rfl) (Nat.le_of_ble_eq_true rfl) (Or.inl rfl) ⟨by decide +kernel, rfl⟩ (fun q3 => ?_)
  refine b_put (pc' := 31) (idx := 16) (ci := 0) (N := 105) (j := 2) (f := true) (ty := .array .int) 0 ⟨rf_C, rf_T, rf_ty, rfl, rfk_z, (Nat.le_of_ble_eq_true rfl), (rfk_w0 6 rfl), rfl, rfl, rfl⟩ rfl rfl rfl rfl ⟨by decide +kernel, rfl⟩ ?_
  simp only [List.cons_append, List.nil_append, List.set_cons_zero, List.set_cons_succ]
  refine b_aload (pc' := 32) (k := 0) (i := 0) 0 rfl rfl ⟨by decide +kernel, rfl⟩ ?_
  refine b_sipush (pc' := 35) (n := 1502) (v := 1502) (by decide) ⟨by decide +kernel, rfl⟩ ?_
  refine b_newa (pc' := 37) (atype := .int) (ty := .int) (t := 1) (N := 1502) (a0 := (1502, .inl (fun _ => 0))) (rfk_w0 3 rfl) rfl ⟨0, by decide, rfl⟩ (fun _ => rfl) (by decide) (by decide) (Nat.le_of_ble_eq_true rfl) (Nat.le_of_ble_eq_true rfl) (Nat.le_of_ble_eq_true rfl) (Or.inl rfl) ⟨by decide +kernel, rfl⟩ (fun q4 => ?_)
  refine b_put (pc' := 40) (idx := 19) (ci := 0) (N := 105) (j := 6) (f := true) (ty := .array .int) 0 ⟨rf_C, rf_T, rf_ty, rfl, rfk_z, (Nat.le_of_ble_eq_true rfl), (rfk_w0 7 rfl), rfl, rfl, rfl⟩ rfl rfl rfl rfl ⟨by decide +kernel, rfl⟩ ?_
  simp only [List.cons_append, List.nil_append, List.set_cons_zero, List.set_cons_succ]
  refine b_aload (pc' := 41) (k := 0) (i := 0) 0 rfl rfl ⟨by decide +kernel, rfl⟩ ?_
  refine b_sipush (pc' := 44) (n := 1502) (v := 1502) (by decide) ⟨by decide +kernel, rfl⟩ ?_
  refine b_newa (pc' := 46) (atype := .int) (ty := .int) (t := 1) (N := 1502) (a0 := (1502, .inl (fun _ => 0))) (rfk_w0 3 rfl) rfl ⟨0, by decide, rfl⟩ (fun _ => rfl) (by decide) (by decide) (Nat.le_of_ble_eq_true rfl) (Nat.le_of_ble_eq_true rfl) (Nat.le_of_ble_eq_true rfl) (Or.inl rfl) ⟨by decide +kernel, rfl⟩ (fun q5 => ?_)
  refine b_put (pc' := 49) (idx := 22) (ci := 0) (N := 105) (j := 7) (f := true) (ty := .array .int) 0 ⟨rf_C, rf_T, rf_ty, rfl, rfk_z, (Nat.le_of_ble_eq_true rfl), (rfk_w0 8 rfl), rfl, rfl, rfl⟩ rfl rfl rfl rfl ⟨by decide +kernel, rfl⟩ ?_
  simp only [List.cons_append, List.nil_append, List.set_cons_zero, List.set_cons_succ]
  refine b_aload (pc' := 50) (k := 0) (i := 0) 0 rfl rfl ⟨by decide +kernel, rfl⟩ ?_
  refine b_sipush (pc' := 53) (n := 1502) (v := 1502) (by decide) ⟨by decide +kernel, rfl⟩ ?_
  refine b_newa (pc' := 55) (atype := .int) (ty := .int) (t := 1) (N := 1502) (a0 := (1502, .inl (fun _ => 0))) (rfk_w0 3 rfl) rfl ⟨0, by decide, rfl⟩ (fun _ => rfl) (by decide) (by decide) (Nat.le_of_ble_eq_true rfl) (Nat.le_of_ble_eq_true rfl) (Nat.le_of_ble_eq_true rfl) (Or.inl rfl) ⟨by decide +kernel, rfl⟩ (fun q6 => ?_)
  refine b_put (pc' := 58) (idx := 25) (ci := 0) (N := 105) (j := 8) (f := true) (ty := .array .int) 0 ⟨rf_C, rf_T, rf_ty, rfl, rfk_z, (Nat.le_of_ble_eq_true rfl), (rfk_w0 9 rfl), rfl, rfl, rfl⟩ rfl rfl rfl rfl ⟨by decide +kernel, rfl⟩ ?_
  simp only [List.cons_append, List.nil_append, List.set_cons_zero, List.set_cons_succ]
  refine b_aload (pc' := 59) (k := 0) (i := 0) 0 rfl rfl ⟨by decide +kernel, rfl⟩ ?_
  refine b_sipush (pc' := 62) (n := 1500) (v := 1500) (by decide) ⟨by decide +kernel, rfl⟩ ?_
  refine b_newa (pc' := 64) (atype := .int) (ty := .int) (t := 1) (N := 1500) (a0 := (1500, .inl (fun _ => 0))) (rfk_w0 3 rfl) rfl ⟨0, by decide, rfl⟩ (fun _ => rfl) (by decide) (by decide) (Nat.le_of_ble_eq_true rfl) (Nat.le_of_ble_eq_true rfl) (Nat.le_of_ble_eq_true rfl) (Or.inl rfl) ⟨by decide +kernel, rfl⟩ (fun q7 => ?_)
  refine b_put (pc' := 67) (idx := 28) (ci := 0) (N := 105) (j := 11) (f := true) (ty := .array .int) 0 ⟨rf_C, rf_T, rf_ty, rfl, rfk_z, (Nat.le_of_ble_eq_true rfl), (rfk_w0 10 rfl), rfl, rfl, rfl⟩ rfl rfl rfl rfl ⟨by decide +kernel, rfl⟩ ?_
  simp only [List.cons_append, List.nil_append, List.set_cons_zero, List.set_cons_succ]
  refine b_aload (pc' := 68) (k := 0) (i := 0) 0 rfl rfl ⟨by decide +kernel, rfl⟩ ?_
  refine b_sipush (pc' := 71) (n := 1500) (v := 1500) (by decide) ⟨by decide +kernel, rfl⟩ ?_
  refine b_newa (pc' := 73) (atype := .int) (ty := .int) (t := 1) (N := 1500) (a0 := (1500, .inl (fun _ => 0))) (rfk_w0 3 rfl) rfl ⟨0, by decide, rfl⟩ (fun _ => rfl) (by decide) (by decide) (Nat.le_of_ble_eq_true rfl) (Nat.le_of_ble_eq_true rfl) (Nat.le_of_ble_eq_true rfl) (Or.inl rfl) ⟨by decide +kernel, rfl⟩ (fun q8 => ?_)
  refine b_put (pc' := 76) (idx := 31) (ci := 0) (N := 105) (j := 12) (f := true) (ty := .array .int) 0 ⟨rf_C, rf_T, rf_ty, rfl, rfk_z, (Nat.le_of_ble_eq_true rfl), (rfk_w0 11 rfl), rfl, rfl, rfl⟩ rfl rfl rfl rfl ⟨by decide +kernel, rfl⟩ ?_
  simp only [List.cons_append, List.nil_append, List.set_cons_zero, List.set_cons_succ]
  refine b_aload (pc' := 77) (k := 0) (i := 0) 0 rfl rfl ⟨by decide +kernel, rfl⟩ ?_
  refine b_bipush (pc' := 79) (n := 56) (v := 56) (by decide) ⟨by decide +kernel, rfl⟩ ?_
  refine b_newa (pc' := 81) (atype := .int) (ty := .int) (t := 1) (N := 56) (a0 := (56, .inl (kyI 0))) (rfk_w0 3 rfl) rfl ⟨0, by decide, rfl⟩ (fun _ => by rw [kyI_0]; rfl) (by decide) (by decide) (Nat.le_of_ble_eq_true rfl) (Nat.le_of_ble_eq_true rfl) (Nat.le_of_ble_eq_true rfl) (Or.inl rfl) ⟨by decide +kernel, rfl⟩ (fun q9 => ?_)
  simp only [List.cons_append, List.nil_append]
  refine b_dup (pc' := 82) rfl ⟨by decide +kernel, rfl⟩ ?_
  refine b_iconst (pc' := 83) (n := 0) (v := 0) (by decide) ⟨by decide +kernel, rfl⟩ ?_
  refine b_bipush (pc' := 85) (n := 102) (v := 102) (by decide) ⟨by decide +kernel, rfl⟩ ?_
  refine b_keyI (pc' := 86) (i := 0) 9 rfl (by decide) (by decide) (by decide) ⟨by decide +kernel, rfl⟩ ?_
  simp only [List.cons_append, List.nil_append, List.set_cons_zero, List.set_cons_succ]
  refine b_dup (pc' := 87) rfl ⟨by decide +kernel, rfl⟩ ?_
  refine b_iconst (pc' := 88) (n := 1) (v := 1) (by decide) ⟨by decide +kernel, rfl⟩ ?_
  refine b_bipush (pc' := 90) (n := 110) (v := 110) (by decide) ⟨by decide +kernel, rfl⟩ ?_
  refine b_keyI (pc' := 91) (i := 1) 9 rfl (by decide) (by decide) (by decide) ⟨by decide +kernel, rfl⟩ ?_
  simp only [List.cons_append, List.nil_append, List.set_cons_zero, List.set_cons_succ]
  refine b_dup (pc' := 92) rfl ⟨by decide +kernel, rfl⟩ ?_
  refine b_iconst (pc' := 93) (n := 2) (v := 2) (by decide) ⟨by decide +kernel, rfl⟩ ?_
  refine b_iconst (pc' := 94) (n := 0) (v := 0) (by decide) ⟨by decide +kernel, rfl⟩ ?_
  refine b_keyI (pc' := 95) (i := 2) 9 rfl (by decide) (by decide) (by decide) ⟨by decide +kernel, rfl⟩ ?_
  simp only [List.cons_append, List.nil_append, List.set_cons_zero, List.set_cons_succ]
  refine b_dup (pc' := 96) rfl ⟨by decide +kernel, rfl⟩ ?_
  refine b_iconst (pc' := 97) (n := 3) (v := 3) (by decide) ⟨by decide +kernel, rfl⟩ ?_
  refine b_bipush (pc' := 99) (n := 108) (v := 108) (by decide) ⟨by decide +kernel, rfl⟩ ?_
  refine b_keyI (pc' := 100) (i := 3) 9 rfl (by decide) (by decide) (by decide) ⟨by decide +kernel, rfl⟩ ?_
  simp only [List.cons_append, List.nil_append, List.set_cons_zero, List.set_cons_succ]
  refine b_dup (pc' := 101) rfl ⟨by decide +kernel, rfl⟩ ?_
  refine b_iconst (pc' := 102) (n := 4) (v := 4) (by decide) ⟨by decide +kernel, rfl⟩ ?_
  refine b_bipush (pc' := 104) (n := 101) (v := 101) (by decide) ⟨by decide +kernel, rfl⟩ ?_
  refine b_keyI (pc' := 105) (i := 4) 9 rfl (by decide) (by decide) (by decide) ⟨by decide +kernel, rfl⟩ ?_
  simp only [List.cons_append, List.nil_append, List.set_cons_zero, List.set_cons_succ]
  refine b_dup (pc' := 106) rfl ⟨by decide +kernel, rfl⟩ ?_
  refine b_iconst (pc' := 107) (n := 5) (v := 5) (by decide) ⟨by decide +kernel, rfl⟩ ?_
  refine b_bipush (pc' := 109) (n := 116) (v := 116) (by decide) ⟨by decide +kernel, rfl⟩ ?_
  refine b_keyI (pc' := 110) (i := 5) 9 rfl (by decide) (by decide) (by decide) ⟨by decide +kernel, rfl⟩ ?_
  simp only [List.cons_append, List.nil_append, List.set_cons_zero, List.set_cons_succ]
  refine b_dup (pc' := 111) rfl ⟨by decide +kernel, rfl⟩ ?_
  refine b_bipush (pc' := 113) (n := 6) (v := 6) (by decide) ⟨by decide +kernel, rfl⟩ ?_
  refine b_iconst (pc' := 114) (n := 0) (v := 0) (by decide) ⟨by decide +kernel, rfl⟩ ?_
  refine b_keyI (pc' := 115) (i := 6) 9 rfl (by decide) (by decide) (by decide) ⟨by decide +kernel, rfl⟩ ?_
  simp only [List.cons_append, List.nil_append, List.set_cons_zero, List.set_cons_succ]
  refine b_dup (pc' := 116) rfl ⟨by decide +kernel, rfl⟩ ?_
  refine b_bipush (pc' := 118) (n := 7) (v := 7) (by decide) ⟨by decide +kernel, rfl⟩ ?_
  refine b_bipush (pc' := 120) (n := 105) (v := 105) (by decide) ⟨by decide +kernel, rfl⟩ ?_
  refine b_keyI (pc' := 121) (i := 7) 9 rfl (by decide) (by decide) (by decide) ⟨by decide +kernel, rfl⟩ ?_
  simp only [List.cons_append, List.nil_append, List.set_cons_zero, List.set_cons_succ]
  refine b_dup (pc' := 122) rfl ⟨by decide +kernel, rfl⟩ ?_
  refine b_bipush (pc' := 124) (n := 8) (v := 8) (by decide) ⟨by decide +kernel, rfl⟩ ?_
  refine b_bipush (pc' := 126) (n := 102) (v := 102) (by decide) ⟨by decide +kernel, rfl⟩ ?_
  refine b_keyI (pc' := 127) (i := 8) 9 rfl (by decide) (by decide) (by decide) ⟨by decide +kernel, rfl⟩ ?_
  simp only [List.cons_append, List.nil_append, List.set_cons_zero, List.set_cons_succ]
  refine b_dup (pc' := 128) rfl ⟨by decide +kernel, rfl⟩ ?_
  refine b_bipush (pc' := 130) (n := 9) (v := 9) (by decide) ⟨by decide +kernel, rfl⟩ ?_
  refine b_iconst (pc' := 131) (n := 0) (v := 0) (by decide) ⟨by decide +kernel, rfl⟩ ?_
  refine b_keyI (pc' := 132) (i := 9) 9 rfl (by decide) (by decide) (by decide) ⟨by decide +kernel, rfl⟩ ?_
  simp only [List.cons_append, List.nil_append, List.set_cons_zero, List.set_cons_succ]
  refine b_dup (pc' := 133) rfl ⟨by decide +kernel, rfl⟩ ?_
  refine b_bipush (pc' := 135) (n := 10) (v := 10) (by decide) ⟨by decide +kernel, rfl⟩ ?_
  refine b_bipush (pc' := 137) (n := 101) (v := 101) (by decide) ⟨by decide +kernel, rfl⟩ ?_
  refine b_keyI (pc' := 138) (i := 10) 9 rfl (by decide) (by decide) (by decide) ⟨by decide +kernel, rfl⟩ ?_
  simp only [List.cons_append, List.nil_append, List.set_cons_zero, List.set_cons_succ]
  refine b_dup (pc' := 139) rfl ⟨by decide +kernel, rfl⟩ ?_
  refine b_bipush (pc' := 141) (n := 11) (v := 11) (by decide) ⟨by decide +kernel, rfl⟩ ?_
  refine b_bipush (pc' := 143) (n := 108) (v := 108) (by decide) ⟨by decide +kernel, rfl⟩ ?_
  refine b_keyI (pc' := 144) (i := 11) 9 rfl (by decide) (by decide) (by decide) ⟨by decide +kernel, rfl⟩ ?_
  simp only [List.cons_append, List.nil_append, List.set_cons_zero, List.set_cons_succ]
  refine b_dup (pc' := 145) rfl ⟨by decide +kernel, rfl⟩ ?_
  refine b_bipush (pc' := 147) (n := 12) (v := 12) (by decide) ⟨by decide +kernel, rfl⟩ ?_
  refine b_bipush (pc' := 149) (n := 115) (v := 115) (by decide) ⟨by decide +kernel, rfl⟩ ?_
  refine b_keyI (pc' := 150) (i := 12) 9 rfl (by decide) (by decide) (by decide) ⟨by decide +kernel, rfl⟩ ?_
  simp only [List.cons_append, List.nil_append, List.set_cons_zero, List.set_cons_succ]
  refine b_dup (pc' := 151) rfl ⟨by decide +kernel, rfl⟩ ?_
  refine b_bipush (pc' := 153) (n := 13) (v := 13) (by decide) ⟨by decide +kernel, rfl⟩ ?_
  refine b_bipush (pc' := 155) (n := 101) (v := 101) (by decide) ⟨by decide +kernel, rfl⟩ ?_
  refine b_keyI (pc' := 156) (i := 13) 9 rfl (by decide) (by decide) (by decide) ⟨by decide +kernel, rfl⟩ ?_
  simp only [List.cons_append, List.nil_append, List.set_cons_zero, List.set_cons_succ]
  refine b_dup (pc' := 157) rfl ⟨by decide +kernel, rfl⟩ ?_
  refine b_bipush (pc' := 159) (n := 14) (v := 14) (by decide) ⟨by decide +kernel, rfl⟩ ?_
  refine b_iconst (pc' := 160) (n := 0) (v := 0) (by decide) ⟨by decide +kernel, rfl⟩ ?_
  refine b_keyI (pc' := 161) (i := 14) 9 rfl (by decide) (by decide) (by decide) ⟨by decide +kernel, rfl⟩ ?_
  simp only [List.cons_append, List.nil_append, List.set_cons_zero, List.set_cons_succ]
  refine b_dup (pc' := 162) rfl ⟨by decide +kernel, rfl⟩ ?_
  refine b_bipush (pc' := 164) (n := 15) (v := 15) (by decide) ⟨by decide +kernel, rfl⟩ ?_
  refine b_bipush (pc' := 166) (n := 119) (v := 119) (by decide) ⟨by decide +kernel, rfl⟩ ?_
  refine b_keyI (pc' := 167) (i := 15) 9 rfl (by decide) (by decide) (by decide) ⟨by decide +kernel, rfl⟩ ?_
  simp only [List.cons_append, List.nil_append, List.set_cons_zero, List.set_cons_succ]
  refine b_dup (pc' := 168) rfl ⟨by decide +kernel, rfl⟩ ?_
  refine b_bipush (pc' := 170) (n := 16) (v := 16) (by decide) ⟨by decide +kernel, rfl⟩ ?_
  refine b_bipush (pc' := 172) (n := 104) (v := 104) (by decide) ⟨by decide +kernel, rfl⟩ ?_
  refine b_keyI (pc' := 173) (i := 16) 9 rfl (by decide) (by decide) (by decide) ⟨by decide +kernel, rfl⟩ ?_
  simp only [List.cons_append, List.nil_append, List.set_cons_zero, List.set_cons_succ]
  refine b_dup (pc' := 174) rfl ⟨by decide +kernel, rfl⟩ ?_
  refine b_bipush (pc' := 176) (n := 17) (v := 17) (by decide) ⟨by decide +kernel, rfl⟩ ?_
  refine b_bipush (pc' := 178) (n := 105) (v := 105) (by decide) ⟨by decide +kernel, rfl⟩ ?_
  refine b_keyI (pc' := 179) (i := 17) 9 rfl (by decide) (by decide) (by decide) ⟨by decide +kernel, rfl⟩ ?_
  simp only [List.cons_append, List.nil_append, List.set_cons_zero, List.set_cons_succ]
  refine b_dup (pc' := 180) rfl ⟨by decide +kernel, rfl⟩ ?_
  refine b_bipush (pc' := 182) (n := 18) (v := 18) (by decide) ⟨by decide +kernel, rfl⟩ ?_
  refine b_bipush (pc' := 184) (n := 108) (v := 108) (by decide) ⟨by decide +kernel, rfl⟩ ?_
  refine b_keyI (pc' := 185) (i := 18) 9 rfl (by decide) (by decide) (by decide) ⟨by decide +kernel, rfl⟩ ?_
  simp only [List.cons_append, List.nil_append, List.set_cons_zero, List.set_cons_succ]
  refine b_dup (pc' := 186) rfl ⟨by decide +kernel, rfl⟩ ?_
  refine b_bipush (pc' := 188) (n := 19) (v := 19) (by decide) ⟨by decide +kernel, rfl⟩ ?_
  refine b_bipush (pc' := 190) (n := 101) (v := 101) (by decide) ⟨by decide +kernel, rfl⟩ ?_
  refine b_keyI (pc' := 191) (i := 19) 9 rfl (by decide) (by decide) (by decide) ⟨by decide +kernel, rfl⟩ ?_
  simp only [List.cons_append, List.nil_append, List.set_cons_zero, List.set_cons_succ]
  refine b_dup (pc' := 192) rfl ⟨by decide +kernel, rfl⟩ ?_
  refine b_bipush (pc' := 194) (n := 20) (v := 20) (by decide) ⟨by decide +kernel, rfl⟩ ?_
  refine b_iconst (pc' := 195) (n := 0) (v := 0) (by decide) ⟨by decide +kernel, rfl⟩ ?_
  refine b_keyI (pc' := 196) (i := 20) 9 rfl (by decide) (by decide) (by decide) ⟨by decide +kernel, rfl⟩ ?_
  simp only [List.cons_append, List.nil_append, List.set_cons_zero, List.set_cons_succ]
  refine b_dup (pc' := 197) rfl ⟨by decide +kernel, rfl⟩ ?_
  refine b_bipush (pc' := 199) (n := 21) (v := 21) (by decide) ⟨by decide +kernel, rfl⟩ ?_
  refine b_bipush (pc' := 201) (n := 112) (v := 112) (by decide) ⟨by decide +kernel, rfl⟩ ?_
  refine b_keyI (pc' := 202) (i := 21) 9 rfl (by decide) (by decide) (by decide) ⟨by decide +kernel, rfl⟩ ?_
  simp only [List.cons_append, List.nil_append, List.set_cons_zero, List.set_cons_succ]
  refine b_dup (pc' := 203) rfl ⟨by decide +kernel, rfl⟩ ?_
  refine b_bipush (pc' := 205) (n := 22) (v := 22) (by decide) ⟨by decide +kernel, rfl⟩ ?_
  refine b_bipush (pc' := 207) (n := 114) (v := 114) (by decide) ⟨by decide +kernel, rfl⟩ ?_
  refine b_keyI (pc' := 208) (i := 22) 9 rfl (by decide) (by decide) (by decide) ⟨by decide +kernel, rfl⟩ ?_
  simp only [List.cons_append, List.nil_append, List.set_cons_zero, List.set_cons_succ]
  refine b_dup (pc' := 209) rfl ⟨by decide +kernel, rfl⟩ ?_
  refine b_bipush (pc' := 211) (n := 23) (v := 23) (by decide) ⟨by decide +kernel, rfl⟩ ?_
  refine b_bipush (pc' := 213) (n := 105) (v := 105) (by decide) ⟨by decide +kernel, rfl⟩ ?_
  refine b_keyI (pc' := 214) (i := 23) 9 rfl (by decide) (by decide) (by decide) ⟨by decide +kernel, rfl⟩ ?_
  simp only [List.cons_append, List.nil_append, List.set_cons_zero, List.set_cons_succ]
  refine b_dup (pc' := 215) rfl ⟨by decide +kernel, rfl⟩ ?_
  refine b_bipush (pc' := 217) (n := 24) (v := 24) (by decide) ⟨by decide +kernel, rfl⟩ ?_
  refine b_bipush (pc' := 219) (n := 110) (v := 110) (by decide) ⟨by decide +kernel, rfl⟩ ?_
  refine b_keyI (pc' := 220) (i := 24) 9 rfl (by decide) (by decide) (by decide) ⟨by decide +kernel, rfl⟩ ?_
  simp only [List.cons_append, List.nil_append, List.set_cons_zero, List.set_cons_succ]
  refine b_dup (pc' := 221) rfl ⟨by decide +kernel, rfl⟩ ?_
  refine b_bipush (pc' := 223) (n := 25) (v := 25) (by decide) ⟨by decide +kernel, rfl⟩ ?_
  refine b_bipush (pc' := 225) (n := 116) (v := 116) (by decide) ⟨by decide +kernel, rfl⟩ ?_
  refine b_keyI (pc' := 226) (i := 25) 9 rfl (by decide) (by decide) (by decide) ⟨by decide +kernel, rfl⟩ ?_
  simp only [List.cons_append, List.nil_append, List.set_cons_zero, List.set_cons_succ]
  refine b_dup (pc' := 227) rfl ⟨by decide +kernel, rfl⟩ ?_
  refine b_bipush (pc' := 229) (n := 26) (v := 26) (by decide) ⟨by decide +kernel, rfl⟩ ?_
  refine b_iconst (pc' := 230) (n := 0) (v := 0) (by decide) ⟨by decide +kernel, rfl⟩ ?_
  refine b_keyI (pc' := 231) (i := 26) 9 rfl (by decide) (by decide) (by decide) ⟨by decide +kernel, rfl⟩ ?_
  simp only [List.cons_append, List.nil_append, List.set_cons_zero, List.set_cons_succ]
  refine b_dup (pc' := 232) rfl ⟨by decide +kernel, rfl⟩ ?_
  refine b_bipush (pc' := 234) (n := 27) (v := 27) (by decide) ⟨by decide +kernel, rfl⟩ ?_
  refine b_bipush (pc' := 236) (n := 114) (v := 114) (by decide) ⟨by decide +kernel, rfl⟩ ?_
  refine b_keyI (pc' := 237) (i := 27) 9 rfl (by decide) (by decide) (by decide) ⟨by decide +kernel, rfl⟩ ?_
  simp only [List.cons_append, List.nil_append, List.set_cons_zero, List.set_cons_succ]
  refine b_dup (pc' := 238) rfl ⟨by decide +kernel, rfl⟩ ?_
  refine b_bipush (pc' := 240) (n := 28) (v := 28) (by decide) ⟨by decide +kernel, rfl⟩ ?_
  refine b_bipush (pc' := 242) (n := 101) (v := 101) (by decide) ⟨by decide +kernel, rfl⟩ ?_
  refine b_keyI (pc' := 243) (i := 28) 9 rfl (by decide) (by decide) (by decide) ⟨by decide +kernel, rfl⟩ ?_
  simp only [List.cons_append, List.nil_append, List.set_cons_zero, List.set_cons_succ]
  refine b_dup (pc' := 244) rfl ⟨by decide +kernel, rfl⟩ ?_
  refine b_bipush (pc' := 246) (n := 29) (v := 29) (by decide) ⟨by decide +kernel, rfl⟩ ?_
  refine b_bipush (pc' := 248) (n := 116) (v := 116) (by decide) ⟨by decide +kernel, rfl⟩ ?_
  refine b_keyI (pc' := 249) (i := 29) 9 rfl (by decide) (by decide) (by decide) ⟨by decide +kernel, rfl⟩ ?_
  simp only [List.cons_append, List.nil_append, List.set_cons_zero, List.set_cons_succ]
  refine b_dup (pc' := 250) rfl ⟨by decide +kernel, rfl⟩ ?_
  refine b_bipush (pc' := 252) (n := 30) (v := 30) (by decide) ⟨by decide +kernel, rfl⟩ ?_
  refine b_bipush (pc' := 254) (n := 117) (v := 117) (by decide) ⟨by decide +kernel, rfl⟩ ?_
  refine b_keyI (pc' := 255) (i := 30) 9 rfl (by decide) (by decide) (by decide) ⟨by decide +kernel, rfl⟩ ?_
  simp only [List.cons_append, List.nil_append, List.set_cons_zero, List.set_cons_succ]
  refine b_dup (pc' := 256) rfl ⟨by decide +kernel, rfl⟩ ?_
  refine b_bipush (pc' := 258) (n := 31) (v := 31) (by decide) ⟨by decide +kernel, rfl⟩ ?_
  refine b_bipush (pc' := 260) (n := 114) (v := 114) (by decide) ⟨by decide +kernel, rfl⟩ ?_
  refine b_keyI (pc' := 261) (i := 31) 9 rfl (by decide) (by decide) (by decide) ⟨by decide +kernel, rfl⟩ ?_
  simp only [List.cons_append, List.nil_append, List.set_cons_zero, List.set_cons_succ]
  refine b_dup (pc' := 262) rfl ⟨by decide +kernel, rfl⟩ ?_
  refine b_bipush (pc' := 264) (n := 32) (v := 32) (by decide) ⟨by decide +kernel, rfl⟩ ?_
  refine b_bipush (pc' := 266) (n := 110) (v := 110) (by decide) ⟨by decide +kernel, rfl⟩ ?_
  refine b_keyI (pc' := 267) (i := 32) 9 rfl (by decide) (by decide) (by decide) ⟨by decide +kernel, rfl⟩ ?_
  simp only [List.cons_append, List.nil_append, List.set_cons_zero, List.set_cons_succ]
  refine b_dup (pc' := 268) rfl ⟨by decide +kernel, rfl⟩ ?_
  refine b_bipush (pc' := 270) (n := 33) (v := 33) (by decide) ⟨by decide +kernel, rfl⟩ ?_
  refine b_iconst (pc' := 271) (n := 0) (v := 0) (by decide) ⟨by decide +kernel, rfl⟩ ?_
  refine b_keyI (pc' := 272) (i := 33) 9 rfl (by decide) (by decide) (by decide) ⟨by decide +kernel, rfl⟩ ?_
  simp only [List.cons_append, List.nil_append, List.set_cons_zero, List.set_cons_succ]
  refine b_dup (pc' := 273) rfl ⟨by decide +kernel, rfl⟩ ?_
  refine b_bipush (pc' := 275) (n := 34) (v := 34) (by decide) ⟨by decide +kernel, rfl⟩ ?_
  refine b_bipush (pc' := 277) (n := 100) (v := 100) (by decide) ⟨by decide +kernel, rfl⟩ ?_
  refine b_keyI (pc' := 278) (i := 34) 9 rfl (by decide) (by decide) (by decide) ⟨by decide +kernel, rfl⟩ ?_
  simp only [List.cons_append, List.nil_append, List.set_cons_zero, List.set_cons_succ]
  refine b_dup (pc' := 279) rfl ⟨by decide +kernel, rfl⟩ ?_
  refine b_bipush (pc' := 281) (n := 35) (v := 35) (by decide) ⟨by decide +kernel, rfl⟩ ?_
  refine b_bipush (pc' := 283) (n := 101) (v := 101) (by decide) ⟨by decide +kernel, rfl⟩ ?_
  refine b_keyI (pc' := 284) (i := 35) 9 rfl (by decide) (by decide) (by decide) ⟨by decide +kernel, rfl⟩ ?_
  simp only [List.cons_append, List.nil_append, List.set_cons_zero, List.set_cons_succ]
  refine b_dup (pc' := 285) rfl ⟨by decide +kernel, rfl⟩ ?_
  refine b_bipush (pc' := 287) (n := 36) (v := 36) (by decide) ⟨by decide +kernel, rfl⟩ ?_
  refine b_bipush (pc' := 289) (n := 108) (v := 108) (by decide) ⟨by decide +kernel, rfl⟩ ?_
  refine b_keyI (pc' := 290) (i := 36) 9 rfl (by decide) (by decide) (by decide) ⟨by decide +kernel, rfl⟩ ?_
  simp only [List.cons_append, List.nil_append, List.set_cons_zero, List.set_cons_succ]
  refine b_dup (pc' := 291) rfl ⟨by decide +kernel, rfl⟩ ?_
  refine b_bipush (pc' := 293) (n := 37) (v := 37) (by decide) ⟨by decide +kernel, rfl⟩ ?_
  refine b_iconst (pc' := 294) (n := 0) (v := 0) (by decide) ⟨by decide +kernel, rfl⟩ ?_
  refine b_keyI (pc' := 295) (i := 37) 9 rfl (by decide) (by decide) (by decide) ⟨by decide +kernel, rfl⟩ ?_
  simp only [List.cons_append, List.nil_append, List.set_cons_zero, List.set_cons_succ]
  refine b_dup (pc' := 296) rfl ⟨by decide +kernel, rfl⟩ ?_
  refine b_bipush (pc' := 298) (n := 38) (v := 38) (by decide) ⟨by decide +kernel, rfl⟩ ?_
  refine b_bipush (pc' := 300) (n := 110) (v := 110) (by decide) ⟨by decide +kernel, rfl⟩ ?_
  refine b_keyI (pc' := 301) (i := 38) 9 rfl (by decide) (by decide) (by decide) ⟨by decide +kernel, rfl⟩ ?_
  simp only [List.cons_append, List.nil_append, List.set_cons_zero, List.set_cons_succ]
  refine b_dup (pc' := 302) rfl ⟨by decide +kernel, rfl⟩ ?_
  refine b_bipush (pc' := 304) (n := 39) (v := 39) (by decide) ⟨by decide +kernel, rfl⟩ ?_
  refine b_bipush (pc' := 306) (n := 101) (v := 101) (by decide) ⟨by decide +kernel, rfl⟩ ?_
  refine b_keyI (pc' := 307) (i := 39) 9 rfl (by decide) (by decide) (by decide) ⟨by decide +kernel, rfl⟩ ?_
  simp only [List.cons_append, List.nil_append, List.set_cons_zero, List.set_cons_succ]
  refine b_dup (pc' := 308) rfl ⟨by decide +kernel, rfl⟩ ?_
  refine b_bipush (pc' := 310) (n := 40) (v := 40) (by decide) ⟨by decide +kernel, rfl⟩ ?_
  refine b_bipush (pc' := 312) (n := 119) (v := 119) (by decide) ⟨by decide +kernel, rfl⟩ ?_
  refine b_keyI (pc' := 313) (i := 40) 9 rfl (by decide) (by decide) (by decide) ⟨by decide +kernel, rfl⟩ ?_
  simp only [List.cons_append, List.nil_append, List.set_cons_zero, List.set_cons_succ]
  refine b_dup (pc' := 314) rfl ⟨by decide +kernel, rfl⟩ ?_
  refine b_bipush (pc' := 316) (n := 41) (v := 41) (by decide) ⟨by decide +kernel, rfl⟩ ?_
  refine b_iconst (pc' := 317) (n := 0) (v := 0) (by decide) ⟨by decide +kernel, rfl⟩ ?_
  refine b_keyI (pc' := 318) (i := 41) 9 rfl (by decide) (by decide) (by decide) ⟨by decide +kernel, rfl⟩ ?_
  simp only [List.cons_append, List.nil_append, List.set_cons_zero, List.set_cons_succ]
  refine b_dup (pc' := 319) rfl ⟨by decide +kernel, rfl⟩ ?_
  refine b_bipush (pc' := 321) (n := 42) (v := 42) (by decide) ⟨by decide +kernel, rfl⟩ ?_
  refine b_bipush (pc' := 323) (n := 114) (v := 114) (by decide) ⟨by decide +kernel, rfl⟩ ?_
  refine b_keyI (pc' := 324) (i := 42) 9 rfl (by decide) (by decide) (by decide) ⟨by decide +kernel, rfl⟩ ?_
  simp only [List.cons_append, List.nil_append, List.set_cons_zero, List.set_cons_succ]
  refine b_dup (pc' := 325) rfl ⟨by decide +kernel, rfl⟩ ?_
  refine b_bipush (pc' := 327) (n := 43) (v := 43) (by decide) ⟨by decide +kernel, rfl⟩ ?_
  refine b_bipush (pc' := 329) (n := 111) (v := 111) (by decide) ⟨by decide +kernel, rfl⟩ ?_
  refine b_keyI (pc' := 330) (i := 43) 9 rfl (by decide) (by decide) (by decide) ⟨by decide +kernel, rfl⟩ ?_
  simp only [List.cons_append, List.nil_append, List.set_cons_zero, List.set_cons_succ]
  refine b_dup (pc' := 331) rfl ⟨by decide +kernel, rfl⟩ ?_
  refine b_bipush (pc' := 333) (n := 44) (v := 44) (by decide) ⟨by decide +kernel, rfl⟩ ?_
  refine b_bipush (pc' := 335) (n := 119) (v := 119) (by decide) ⟨by decide +kernel, rfl⟩ ?_
  refine b_keyI (pc' := 336) (i := 44) 9 rfl (by decide) (by decide) (by decide) ⟨by decide +kernel, rfl⟩ ?_
  simp only [List.cons_append, List.nil_append, List.set_cons_zero, List.set_cons_succ]
  refine b_dup (pc' := 337) rfl ⟨by decide +kernel, rfl⟩ ?_
  refine b_bipush (pc' := 339) (n := 45) (v := 45) (by decide) ⟨by decide +kernel, rfl⟩ ?_
  refine b_iconst (pc' := 340) (n := 0) (v := 0) (by decide) ⟨by decide +kernel, rfl⟩ ?_
  refine b_keyI (pc' := 341) (i := 45) 9 rfl (by decide) (by decide) (by decide) ⟨by decide +kernel, rfl⟩ ?_
  simp only [List.cons_append, List.nil_append, List.set_cons_zero, List.set_cons_succ]
  refine b_dup (pc' := 342) rfl ⟨by decide +kernel, rfl⟩ ?_
  refine b_bipush (pc' := 344) (n := 46) (v := 46) (by decide) ⟨by decide +kernel, rfl⟩ ?_
  refine b_bipush (pc' := 346) (n := 115) (v := 115) (by decide) ⟨by decide +kernel, rfl⟩ ?_
  refine b_keyI (pc' := 347) (i := 46) 9 rfl (by decide) (by decide) (by decide) ⟨by decide +kernel, rfl⟩ ?_
  simp only [List.cons_append, List.nil_append, List.set_cons_zero, List.set_cons_succ]
  refine b_dup (pc' := 348) rfl ⟨by decide +kernel, rfl⟩ ?_
  refine b_bipush (pc' := 350) (n := 47) (v := 47) (by decide) ⟨by decide +kernel, rfl⟩ ?_
  refine b_bipush (pc' := 352) (n := 105) (v := 105) (by decide) ⟨by decide +kernel, rfl⟩ ?_
  refine b_keyI (pc' := 353) (i := 47) 9 rfl (by decide) (by decide) (by decide) ⟨by decide +kernel, rfl⟩ ?_
  simp only [List.cons_append, List.nil_append, List.set_cons_zero, List.set_cons_succ]
  refine b_dup (pc' := 354) rfl ⟨by decide +kernel, rfl⟩ ?_
  refine b_bipush (pc' := 356) (n := 48) (v := 48) (by decide) ⟨by decide +kernel, rfl⟩ ?_
  refine b_bipush (pc' := 358) (n := 122) (v := 122) (by decide) ⟨by decide +kernel, rfl⟩ ?_
  refine b_keyI (pc' := 359) (i := 48) 9 rfl (by decide) (by decide) (by decide) ⟨by decide +kernel, rfl⟩ ?_
  simp only [List.cons_append, List.nil_append, List.set_cons_zero, List.set_cons_succ]
  refine b_dup (pc' := 360) rfl ⟨by decide +kernel, rfl⟩ ?_
  refine b_bipush (pc' := 362) (n := 49) (v := 49) (by decide) ⟨by decide +kernel, rfl⟩ ?_
  refine b_bipush (pc' := 364) (n := 101) (v := 101) (by decide) ⟨by decide +kernel, rfl⟩ ?_
  refine b_keyI (pc' := 365) (i := 49) 9 rfl (by decide) (by decide) (by decide) ⟨by decide +kernel, rfl⟩ ?_
  simp only [List.cons_append, List.nil_append, List.set_cons_zero, List.set_cons_succ]
  refine b_dup (pc' := 366) rfl ⟨by decide +kernel, rfl⟩ ?_
  refine b_bipush (pc' := 368) (n := 50) (v := 50) (by decide) ⟨by decide +kernel, rfl⟩ ?_
  refine b_iconst (pc' := 369) (n := 0) (v := 0) (by decide) ⟨by decide +kernel, rfl⟩ ?_
  refine b_keyI (pc' := 370) (i := 50) 9 rfl (by decide) (by decide) (by decide) ⟨by decide +kernel, rfl⟩ ?_
  simp only [List.cons_append, List.nil_append, List.set_cons_zero, List.set_cons_succ]
  refine b_dup (pc' := 371) rfl ⟨by decide +kernel, rfl⟩ ?_
  refine b_bipush (pc' := 373) (n := 51) (v := 51) (by decide) ⟨by decide +kernel, rfl⟩ ?_
  refine b_bipush (pc' := 375) (n := 110) (v := 110) (by decide) ⟨by decide +kernel, rfl⟩ ?_
  refine b_keyI (pc' := 376) (i := 51) 9 rfl (by decide) (by decide) (by decide) ⟨by decide +kernel, rfl⟩ ?_
  simp only [List.cons_append, List.nil_append, List.set_cons_zero, List.set_cons_succ]
  refine b_dup (pc' := 377) rfl ⟨by decide +kernel, rfl⟩ ?_
  refine b_bipush (pc' := 379) (n := 52) (v := 52) (by decide) ⟨by decide +kernel, rfl⟩ ?_
  refine b_bipush (pc' := 381) (n := 111) (v := 111) (by decide) ⟨by decide +kernel, rfl⟩ ?_
  refine b_keyI (pc' := 382) (i := 52) 9 rfl (by decide) (by decide) (by decide) ⟨by decide +kernel, rfl⟩ ?_
  simp only [List.cons_append, List.nil_append, List.set_cons_zero, List.set_cons_succ]
  refine b_dup (pc' := 383) rfl ⟨by decide +kernel, rfl⟩ ?_
  refine b_bipush (pc' := 385) (n := 53) (v := 53) (by decide) ⟨by decide +kernel, rfl⟩ ?_
  refine b_bipush (pc' := 387) (n := 110) (v := 110) (by decide) ⟨by decide +kernel, rfl⟩ ?_
  refine b_keyI (pc' := 388) (i := 53) 9 rfl (by decide) (by decide) (by decide) ⟨by decide +kernel, rfl⟩ ?_
  simp only [List.cons_append, List.nil_append, List.set_cons_zero, List.set_cons_succ]
  refine b_dup (pc' := 389) rfl ⟨by decide +kernel, rfl⟩ ?_
  refine b_bipush (pc' := 391) (n := 54) (v := 54) (by decide) ⟨by decide +kernel, rfl⟩ ?_
  refine b_bipush (pc' := 393) (n := 101) (v := 101) (by decide) ⟨by decide +kernel, rfl⟩ ?_
  refine b_keyI (pc' := 394) (i := 54) 9 rfl (by decide) (by decide) (by decide) ⟨by decide +kernel, rfl⟩ ?_
  simp only [List.cons_append, List.nil_append, List.set_cons_zero, List.set_cons_succ]
  refine b_dup (pc' := 395) rfl ⟨by decide +kernel, rfl⟩ ?_
  refine b_bipush (pc' := 397) (n := 55) (v := 55) (by decide) ⟨by decide +kernel, rfl⟩ ?_
  refine b_iconst (pc' := 398) (n := 0) (v := 0) (by decide) ⟨by decide +kernel, rfl⟩ ?_
  refine b_keyI (pc' := 399) (i := 55) 9 rfl (by decide) (by decide) (by decide) ⟨by decide +kernel, rfl⟩ ?_
  simp only [List.cons_append, List.nil_append, List.set_cons_zero, List.set_cons_succ]
  refine b_put (pc' := 402) (idx := 34) (ci := 0) (N := 105) (j := 14) (f := true) (ty := .array .int) 0 ⟨rf_C, rf_T, rf_ty, rfl, rfk_z, (Nat.le_of_ble_eq_true rfl), (rfk_w0 12 rfl), rfl, rfl, rfl⟩ rfl rfl rfl rfl ⟨by decide +kernel, rfl⟩ ?_
  simp only [List.cons_append, List.nil_append, List.set_cons_zero, List.set_cons_succ]
  refine b_aload (pc' := 403) (k := 0) (i := 0) 0 rfl rfl ⟨by decide +kernel, rfl⟩ ?_
  refine b_sipush (pc' := 406) (n := 4000) (v := 4000) (by decide) ⟨by decide +kernel, rfl⟩ ?_
  refine b_newa (pc' := 408) (atype := .int) (ty := .int) (t := 1) (N := 4000) (a0 := (4000, .inl (fun _ => 0))) (rfk_w0 3 rfl) rfl ⟨0, by decide, rfl⟩ (fun _ => rfl) (by decide) (by decide) (Nat.le_of_ble_eq_true rfl) (Nat.le_of_ble_eq_true rfl) (Nat.le_of_ble_eq_true rfl) (Or.inl rfl) ⟨by decide +kernel, rfl⟩ (fun q10 => ?_)
  refine b_put (pc' := 411) (idx := 37) (ci := 0) (N := 105) (j := 20) (f := true) (ty := .array .int) 0 ⟨rf_C, rf_T, rf_ty, rfl, rfk_z, (Nat.le_of_ble_eq_true rfl), (rfk_w0 13 rfl), rfl, rfl, rfl⟩ rfl rfl rfl rfl ⟨by decide +kernel, rfl⟩ ?_
  simp only [List.cons_append, List.nil_append, List.set_cons_zero, List.set_cons_succ]
  refine b_aload (pc' := 412) (k := 0) (i := 0) 0 rfl rfl ⟨by decide +kernel, rfl⟩ ?_
  refine b_sipush (pc' := 415) (n := 4000) (v := 4000) (by decide) ⟨by decide +kernel, rfl⟩ ?_
  refine b_newa (pc' := 417) (atype := .int) (ty := .int) (t := 1) (N := 4000) (a0 := (4000, .inl (fun _ => 0))) (rfk_w0 3 rfl) rfl ⟨0, by decide, rfl⟩ (fun _ => rfl) (by decide) (by decide) (Nat.le_of_ble_eq_true rfl) (Nat.le_of_ble_eq_true rfl) (Nat.le_of_ble_eq_true rfl) (Or.inl rfl) ⟨by decide +kernel, rfl⟩ (fun q11 => ?_)
  refine b_put (pc' := 420) (idx := 40) (ci := 0) (N := 105) (j := 21) (f := true) (ty := .array .int) 0 ⟨rf_C, rf_T, rf_ty, rfl, rfk_z, (Nat.le_of_ble_eq_true rfl), (rfk_w0 14 rfl), rfl, rfl, rfl⟩ rfl rfl rfl rfl ⟨by decide +kernel, rfl⟩ ?_
  simp only [List.cons_append, List.nil_append, List.set_cons_zero, List.set_cons_succ]
  refine b_aload (pc' := 421) (k := 0) (i := 0) 0 rfl rfl ⟨by decide +kernel, rfl⟩ ?_
  refine b_sipush (pc' := 424) (n := 4000) (v := 4000) (by decide) ⟨by decide +kernel, rfl⟩ ?_
  refine b_newa (pc' := 426) (atype := .int) (ty := .int) (t := 1) (N := 4000) (a0 := (4000, .inl (fun _ => 0))) (rfk_w0 3 rfl) rfl ⟨0, by decide, rfl⟩ (fun _ => rfl) (by decide) (by decide) (Nat.le_of_ble_eq_true rfl) (Nat.le_of_ble_eq_true rfl) (Nat.le_of_ble_eq_true rfl) (Or.inl rfl) ⟨by decide +kernel, rfl⟩ (fun q12 => ?_)
  refine b_put (pc' := 429) (idx := 43) (ci := 0) (N := 105) (j := 22) (f := true) (ty := .array .int) 0 ⟨rf_C, rf_T, rf_ty, rfl, rfk_z, (Nat.le_of_ble_eq_true rfl), (rfk_w0 15 rfl), rfl, rfl, rfl⟩ rfl rfl rfl rfl ⟨by decide +kernel, rfl⟩ ?_
  simp only [List.cons_append, List.nil_append, List.set_cons_zero, List.set_cons_succ]
  refine b_aload (pc' := 430) (k := 0) (i := 0) 0 rfl rfl ⟨by decide +kernel, rfl⟩ ?_
  refine b_sipush (pc' := 433) (n := 4000) (v := 4000) (by decide) ⟨by decide +kernel, rfl⟩ ?_
  refine b_newa (pc' := 435) (atype := .int) (ty := .int) (t := 1) (N := 4000) (a0 := (4000, .inl (fun _ => 0))) (rfk_w0 3 rfl) rfl ⟨0, by decide, rfl⟩ (fun _ => rfl) (by decide) (by decide) (Nat.le_of_ble_eq_true rfl) (Nat.le_of_ble_eq_true rfl) (Nat.le_of_ble_eq_true rfl) (Or.inl rfl) ⟨by decide +kernel, rfl⟩ (fun q13 => ?_)
  refine b_put (pc' := 438) (idx := 46) (ci := 0) (N := 105) (j := 23) (f := true) (ty := .array .int) 0 ⟨rf_C, rf_T, rf_ty, rfl, rfk_z, (Nat.le_of_ble_eq_true rfl), (rfk_w0 16 rfl), rfl, rfl, rfl⟩ rfl rfl rfl rfl ⟨by decide +kernel, rfl⟩ ?_
  simp only [List.cons_append, List.nil_append, List.set_cons_zero, List.set_cons_succ]
  refine b_aload (pc' := 439) (k := 0) (i := 0) 0 rfl rfl ⟨by decide +kernel, rfl⟩ ?_
  refine b_bipush (pc' := 441) (n := 9) (v := 9) (by decide) ⟨by decide +kernel, rfl⟩ ?_
  refine b_newa (pc' := 443) (atype := .int) (ty := .int) (t := 1) (N := 9) (a0 := (9, .inl (fun _ => 0))) (rfk_w0 3 rfl) rfl ⟨0, by decide, rfl⟩ (fun _ => rfl) (by decide) (by decide) (Nat.le_of_ble_eq_true rfl) (Nat.le_of_ble_eq_true rfl) (Nat.le_of_ble_eq_true rfl) (Or.inl rfl) ⟨by decide +kernel, rfl⟩ (fun q14 => ?_)
  refine b_put (pc' := 446) (idx := 49) (ci := 0) (N := 105) (j := 28) (f := true) (ty := .array .int) 0 ⟨rf_C, rf_T, rf_ty, rfl, rfk_z, (Nat.le_of_ble_eq_true rfl), (rfk_w0 17 rfl), rfl, rfl, rfl⟩ rfl rfl rfl rfl ⟨by decide +kernel, rfl⟩ ?_
  simp only [List.cons_append, List.nil_append, List.set_cons_zero, List.set_cons_succ]
  refine b_aload (pc' := 447) (k := 0) (i := 0) 0 rfl rfl ⟨by decide +kernel, rfl⟩ ?_
  refine b_bipush (pc' := 449) (n := 9) (v := 9) (by decide) ⟨by decide +kernel, rfl⟩ ?_
  refine b_newa (pc' := 451) (atype := .int) (ty := .int) (t := 1) (N := 9) (a0 := (9, .inl (fun _ => 0))) (rfk_w0 3 rfl) rfl ⟨0, by decide, rfl⟩ (fun _ => rfl) (by decide) (by decide) (Nat.le_of_ble_eq_true rfl) (Nat.le_of_ble_eq_true rfl) (Nat.le_of_ble_eq_true rfl) (Or.inl rfl) ⟨by decide +kernel, rfl⟩ (fun q15 => ?_)
  refine b_put (pc' := 454) (idx := 52) (ci := 0) (N := 105) (j := 29) (f := true) (ty := .array .int) 0 ⟨rf_C, rf_T, rf_ty, rfl, rfk_z, (Nat.le_of_ble_eq_true rfl), (rfk_w0 18 rfl), rfl, rfl, rfl⟩ rfl rfl rfl rfl ⟨by decide +kernel, rfl⟩ ?_
  simp only [List.cons_append, List.nil_append, List.set_cons_zero, List.set_cons_succ]
  refine b_aload (pc' := 455) (k := 0) (i := 0) 0 rfl rfl ⟨by decide +kernel, rfl⟩ ?_
  refine b_bipush (pc' := 457) (n := 9) (v := 9) (by decide) ⟨by decide +kernel, rfl⟩ ?_
  refine b_newa (pc' := 459) (atype := .int) (ty := .int) (t := 1) (N := 9) (a0 := (9, .inl (fun _ => 0))) (rfk_w0 3 rfl) rfl ⟨0, by decide, rfl⟩ (fun _ => rfl) (by decide) (by decide) (Nat.le_of_ble_eq_true rfl) (Nat.le_of_ble_eq_true rfl) (Nat.le_of_ble_eq_true rfl) (Or.inl rfl) ⟨by decide +kernel, rfl⟩ (fun q16 => ?_)
  refine b_put (pc' := 462) (idx := 55) (ci := 0) (N := 105) (j := 30) (f := true) (ty := .array .int) 0 ⟨rf_C, rf_T, rf_ty, rfl, rfk_z, (Nat.le_of_ble_eq_true rfl), (rfk_w0 19 rfl), rfl, rfl, rfl⟩ rfl rfl rfl rfl ⟨by decide +kernel, rfl⟩ ?_
  simp only [List.cons_append, List.nil_append, List.set_cons_zero, List.set_cons_succ]
  refine b_aload (pc' := 463) (k := 0) (i := 0) 0 rfl rfl ⟨by decide +kernel, rfl⟩ ?_
  refine b_bipush (pc' := 465) (n := 10) (v := 10) (by decide) ⟨by decide +kernel, rfl⟩ ?_
  refine b_newa (pc' := 467) (atype := .int) (ty := .int) (t := 1) (N := 10) (a0 := (10, .inl (fun _ => 0))) (rfk_w0 3 rfl) rfl ⟨0, by decide, rfl⟩ (fun _ => rfl) (by decide) (by decide) (Nat.le_of_ble_eq_true rfl) (Nat.le_of_ble_eq_true rfl) (Nat.le_of_ble_eq_true rfl) (Or.inl rfl) ⟨by decide +kernel, rfl⟩ (fun q17 => ?_)
  refine b_put (pc' := 470) (idx := 58) (ci := 0) (N := 105) (j := 31) (f := true) (ty := .array .int) 0 ⟨rf_C, rf_T, rf_ty, rfl, rfk_z, (Nat.le_of_ble_eq_true rfl), (rfk_w0 20 rfl), rfl, rfl, rfl⟩ rfl rfl rfl rfl ⟨by decide +kernel, rfl⟩ ?_
  simp only [List.cons_append, List.nil_append, List.set_cons_zero, List.set_cons_succ]
  refine b_aload (pc' := 471) (k := 0) (i := 0) 0 rfl rfl ⟨by decide +kernel, rfl⟩ ?_
  refine b_sipush (pc' := 474) (n := 130) (v := 130) (by decide) ⟨by decide +kernel, rfl⟩ ?_
  refine b_newa (pc' := 476) (atype := .int) (ty := .int) (t := 1) (N := 130) (a0 := (130, .inl (fun _ => 0))) (rfk_w0 3 rfl) rfl ⟨0, by decide, rfl⟩ (fun _ => rfl) (by decide) (by decide) (Nat.le_of_ble_eq_true rfl) (Nat.le_of_ble_eq_true rfl) (Nat.le_of_ble_eq_true rfl) (Or.inl rfl) ⟨by decide +kernel, rfl⟩ (fun q18 => ?_)
  refine b_put (pc' := 479) (idx := 61) (ci := 0) (N := 105) (j := 32) (f := true) (ty := .array .int) 0 ⟨rf_C, rf_T, rf_ty, rfl, rfk_z, (Nat.le_of_ble_eq_true rfl), (rfk_w0 21 rfl), rfl, rfl, rfl⟩ rfl rfl rfl rfl ⟨by decide +kernel, rfl⟩ ?_
  simp only [List.cons_append, List.nil_append, List.set_cons_zero, List.set_cons_succ]
  refine b_aload (pc' := 480) (k := 0) (i := 0) 0 rfl rfl ⟨by decide +kernel, rfl⟩ ?_
  refine b_sipush (pc' := 483) (n := 800) (v := 800) (by decide) ⟨by decide +kernel, rfl⟩ ?_
  refine b_newa (pc' := 485) (atype := .int) (ty := .int) (t := 1) (N := 800) (a0 := (800, .inl (fun _ => 0))) (rfk_w0 3 rfl) rfl ⟨0, by decide, rfl⟩ (fun _ => rfl) (by decide) (by decide) (Nat.le_of_ble_eq_true rfl) (Nat.le_of_ble_eq_true rfl) (Nat.le_of_ble_eq_true rfl) (Or.inl rfl) ⟨by decide +kernel, rfl⟩ (fun q19 => ?_)
  refine b_put (pc' := 488) (idx := 64) (ci := 0) (N := 105) (j := 35) (f := true) (ty := .array .int) 0 ⟨rf_C, rf_T, rf_ty, rfl, rfk_z, (Nat.le_of_ble_eq_true rfl), (rfk_w0 22 rfl), rfl, rfl, rfl⟩ rfl rfl rfl rfl ⟨by decide +kernel, rfl⟩ ?_
  simp only [List.cons_append, List.nil_append, List.set_cons_zero, List.set_cons_succ]
  refine b_aload (pc' := 489) (k := 0) (i := 0) 0 rfl rfl ⟨by decide +kernel, rfl⟩ ?_
  refine b_sipush (pc' := 492) (n := 800) (v := 800) (by decide) ⟨by decide +kernel, rfl⟩ ?_
  refine b_newa (pc' := 494) (atype := .int) (ty := .int) (t := 1) (N := 800) (a0 := (800, .inl (fun _ => 0))) (rfk_w0 3 rfl) rfl ⟨0, by decide, rfl⟩ (fun _ => rfl) (by decide) (by decide) (Nat.le_of_ble_eq_true rfl) (Nat.le_of_ble_eq_true rfl) (Nat.le_of_ble_eq_true rfl) (Or.inl rfl) ⟨by decide +kernel, rfl⟩ (fun q20 => ?_)
  refine b_put (pc' := 497) (idx := 67) (ci := 0) (N := 105) (j := 36) (f := true) (ty := .array .int) 0 ⟨rf_C, rf_T, rf_ty, rfl, rfk_z, (Nat.le_of_ble_eq_true rfl), (rfk_w0 23 rfl), rfl, rfl, rfl⟩ rfl rfl rfl rfl ⟨by decide +kernel, rfl⟩ ?_
  simp only [List.cons_append, List.nil_append, List.set_cons_zero, List.set_cons_succ]
  refine b_aload (pc' := 498) (k := 0) (i := 0) 0 rfl rfl ⟨by decide +kernel, rfl⟩ ?_
  refine b_sipush (pc' := 501) (n := 800) (v := 800) (by decide) ⟨by decide +kernel, rfl⟩ ?_
  refine b_newa (pc' := 503) (atype := .int) (ty := .int) (t := 1) (N := 800) (a0 := (800, .inl (fun _ => 0))) (rfk_w0 3 rfl) rfl ⟨0, by decide, rfl⟩ (fun _ => rfl) (by decide) (by decide) (Nat.le_of_ble_eq_true rfl) (Nat.le_of_ble_eq_true rfl) (Nat.le_of_ble_eq_true rfl) (Or.inl rfl) ⟨by decide +kernel, rfl⟩ (fun q21 => ?_)
  refine b_put (pc' := 506) (idx := 70) (ci := 0) (N := 105) (j := 37) (f := true) (ty := .array .int) 0 ⟨rf_C, rf_T, rf_ty, rfl, rfk_z, (Nat.le_of_ble_eq_true rfl), (rfk_w0 24 rfl), rfl, rfl, rfl⟩ rfl rfl rfl rfl ⟨by decide +kernel, rfl⟩ ?_
  simp only [List.cons_append, List.nil_append, List.set_cons_zero, List.set_cons_succ]
  refine b_aload (pc' := 507) (k := 0) (i := 0) 0 rfl rfl ⟨by decide +kernel, rfl⟩ ?_
  refine b_sipush (pc' := 510) (n := 800) (v := 800) (by decide) ⟨by decide +kernel, rfl⟩ ?_
  refine b_newa (pc' := 512) (atype := .int) (ty := .int) (t := 1) (N := 800) (a0 := (800, .inl (fun _ => 0))) (rfk_w0 3 rfl) rfl ⟨0, by decide, rfl⟩ (fun _ => rfl) (by decide) (by decide) (Nat.le_of_ble_eq_true rfl) (Nat.le_of_ble_eq_true rfl) (Nat.le_of_ble_eq_true rfl) (Or.inl rfl) ⟨by decide +kernel, rfl⟩ (fun q22 => ?_)
  refine b_put (pc' := 515) (idx := 73) (ci := 0) (N := 105) (j := 38) (f := true) (ty := .array .int) 0 ⟨rf_C, rf_T, rf_ty, rfl, rfk_z, (Nat.le_of_ble_eq_true rfl), (rfk_w0 25 rfl), rfl, rfl, rfl⟩ rfl rfl rfl rfl ⟨by decide +kernel, rfl⟩ ?_
  simp only [List.cons_append, List.nil_append, List.set_cons_zero, List.set_cons_succ]
  refine b_aload (pc' := 516) (k := 0) (i := 0) 0 rfl rfl ⟨by decide +kernel, rfl⟩ ?_
  refine b_sipush (pc' := 519) (n := 800) (v := 800) (by decide) ⟨by decide +kernel, rfl⟩ ?_
  refine b_newa (pc' := 521) (atype := .int) (ty := .int) (t := 1) (N := 800) (a0 := (800, .inl (fun _ => 0))) (rfk_w0 3 rfl) rfl ⟨0, by decide, rfl⟩ (fun _ => rfl) (by decide) (by decide) (Nat.le_of_ble_eq_true rfl) (Nat.le_of_ble_eq_true rfl) (Nat.le_of_ble_eq_true rfl) (Or.inl rfl) ⟨by decide +kernel, rfl⟩ (fun q23 => ?_)
  refine b_put (pc' := 524) (idx := 76) (ci := 0) (N := 105) (j := 40) (f := true) (ty := .array .int) 0 ⟨rf_C, rf_T, rf_ty, rfl, rfk_z, (Nat.le_of_ble_eq_true rfl), (rfk_w0 26 rfl), rfl, rfl, rfl⟩ rfl rfl rfl rfl ⟨by decide +kernel, rfl⟩ ?_
  simp only [List.cons_append, List.nil_append, List.set_cons_zero, List.set_cons_succ]
  refine b_aload (pc' := 525) (k := 0) (i := 0) 0 rfl rfl ⟨by decide +kernel, rfl⟩ ?_
  refine b_sipush (pc' := 528) (n := 800) (v := 800) (by decide) ⟨by decide +kernel, rfl⟩ ?_
  refine b_newa (pc' := 530) (atype := .int) (ty := .int) (t := 1) (N := 800) (a0 := (800, .inl (fun _ => 0))) (rfk_w0 3 rfl) rfl ⟨0, by decide, rfl⟩ (fun _ => rfl) (by decide) (by decide) (Nat.le_of_ble_eq_true rfl) (Nat.le_of_ble_eq_true rfl) (Nat.le_of_ble_eq_true rfl) (Or.inl rfl) ⟨by decide +kernel, rfl⟩ (fun q24 => ?_)
  refine b_put (pc' := 533) (idx := 79) (ci := 0) (N := 105) (j := 41) (f := true) (ty := .array .int) 0 ⟨rf_C, rf_T, rf_ty, rfl, rfk_z, (Nat.le_of_ble_eq_true rfl), (rfk_w0 27 rfl), rfl, rfl, rfl⟩ rfl rfl rfl rfl ⟨by decide +kernel, rfl⟩ ?_
  simp only [List.cons_append, List.nil_append, List.set_cons_zero, List.set_cons_succ]
  refine b_aload (pc' := 534) (k := 0) (i := 0) 0 rfl rfl ⟨by decide +kernel, rfl⟩ ?_
  refine b_sipush (pc' := 537) (n := 800) (v := 800) (by decide) ⟨by decide +kernel, rfl⟩ ?_
  refine b_newa (pc' := 539) (atype := .int) (ty := .int) (t := 1) (N := 800) (a0 := (800, .inl (fun _ => 0))) (rfk_w0 3 rfl) rfl ⟨0, by decide, rfl⟩ (fun _ => rfl) (by decide) (by decide) (Nat.le_of_ble_eq_true rfl) (Nat.le_of_ble_eq_true rfl) (Nat.le_of_ble_eq_true rfl) (Or.inl rfl) ⟨by decide +kernel, rfl⟩ (fun q25 => ?_)
  refine b_put (pc' := 542) (idx := 82) (ci := 0) (N := 105) (j := 42) (f := true) (ty := .array .int) 0 ⟨rf_C, rf_T, rf_ty, rfl, rfk_z, (Nat.le_of_ble_eq_true rfl), (rfk_w0 28 rfl), rfl, rfl, rfl⟩ rfl rfl rfl rfl ⟨by decide +kernel, rfl⟩ ?_
  simp only [List.cons_append, List.nil_append, List.set_cons_zero, List.set_cons_succ]
  refine b_aload (pc' := 543) (k := 0) (i := 0) 0 rfl rfl ⟨by decide +kernel, rfl⟩ ?_
  refine b_sipush (pc' := 546) (n := 800) (v := 800) (by decide) ⟨by decide +kernel, rfl⟩ ?_
  refine b_newa (pc' := 548) (atype := .int) (ty := .int) (t := 1) (N := 800) (a0 := (800, .inl (fun _ => 0))) (rfk_w0 3 rfl) rfl ⟨0, by decide, rfl⟩ (fun _ => rfl) (by decide) (by decide) (Nat.le_of_ble_eq_true rfl) (Nat.le_of_ble_eq_true rfl) (Nat.le_of_ble_eq_true rfl) (Or.inl rfl) ⟨by decide +kernel, rfl⟩ (fun q26 => ?_)
  refine b_put (pc' := 551) (idx := 85) (ci := 0) (N := 105) (j := 43) (f := true) (ty := .array .int) 0 ⟨rf_C, rf_T, rf_ty, rfl, rfk_z, (Nat.le_of_ble_eq_true rfl), (rfk_w0 29 rfl), rfl, rfl, rfl⟩ rfl rfl rfl rfl ⟨by decide +kernel, rfl⟩ ?_
  simp only [List.cons_append, List.nil_append, List.set_cons_zero, List.set_cons_succ]
  refine b_aload (pc' := 552) (k := 0) (i := 0) 0 rfl rfl ⟨by decide +kernel, rfl⟩ ?_
  refine b_sipush (pc' := 555) (n := 2200) (v := 2200) (by decide) ⟨by decide +kernel, rfl⟩ ?_
  refine b_newa (pc' := 557) (atype := .int) (ty := .int) (t := 1) (N := 2200) (a0 := (2200, .inl (fun _ => 0))) (rfk_w0 3 rfl) rfl ⟨0, by decide, rfl⟩ (fun _ => rfl) (by decide) (by decide) (Nat.le_of_ble_eq_true rfl) (Nat.le_of_ble_eq_true rfl) (Nat.le_of_ble_eq_true rfl) (Or.inl rfl) ⟨by decide +kernel, rfl⟩ (fun q27 => ?_)
  refine b_put (pc' := 560) (idx := 88) (ci := 0) (N := 105) (j := 45) (f := true) (ty := .array .int) 0 ⟨rf_C, rf_T, rf_ty, rfl, rfk_z, (Nat.le_of_ble_eq_true rfl), (rfk_w0 30 rfl), rfl, rfl, rfl⟩ rfl rfl rfl rfl ⟨by decide +kernel, rfl⟩ ?_
  simp only [List.cons_append, List.nil_append, List.set_cons_zero, List.set_cons_succ]
  refine b_aload (pc' := 561) (k := 0) (i := 0) 0 rfl rfl ⟨by decide +kernel, rfl⟩ ?_
  refine b_sipush (pc' := 564) (n := 160) (v := 160) (by decide) ⟨by decide +kernel, rfl⟩ ?_
  refine b_newa (pc' := 566) (atype := .int) (ty := .int) (t := 1) (N := 160) (a0 := (160, .inl (fun _ => 0))) (rfk_w0 3 rfl) rfl ⟨0, by decide, rfl⟩ (fun _ => rfl) (by decide) (by decide) (Nat.le_of_ble_eq_true rfl) (Nat.le_of_ble_eq_true rfl) (Nat.le_of_ble_eq_true rfl) (Or.inl rfl) ⟨by decide +kernel, rfl⟩ (fun q28 => ?_)
  refine b_put (pc' := 569) (idx := 91) (ci := 0) (N := 105) (j := 46) (f := true) (ty := .array .int) 0 ⟨rf_C, rf_T, rf_ty, rfl, rfk_z, (Nat.le_of_ble_eq_true rfl), (rfk_w0 31 rfl), rfl, rfl, rfl⟩ rfl rfl rfl rfl ⟨by decide +kernel, rfl⟩ ?_
  simp only [List.cons_append, List.nil_append, List.set_cons_zero, List.set_cons_succ]
  refine b_aload (pc' := 570) (k := 0) (i := 0) 0 rfl rfl ⟨by decide +kernel, rfl⟩ ?_
  refine b_bipush (pc' := 572) (n := 14) (v := 14) (by decide) ⟨by decide +kernel, rfl⟩ ?_
  refine b_newa (pc' := 574) (atype := .int) (ty := .int) (t := 1) (N := 14) (a0 := (14, .inl (fun _ => 0))) (rfk_w0 3 rfl) rfl ⟨0, by decide, rfl⟩ (fun _ => rfl) (by decide) (by decide) (Nat.le_of_ble_eq_true rfl) (Nat.le_of_ble_eq_true rfl) (Nat.le_of_ble_eq_true rfl) (Or.inl rfl) ⟨by decide +kernel, rfl⟩ (fun q29 => ?_)
  refine b_put (pc' := 577) (idx := 94) (ci := 0) (N := 105) (j := 47) (f := true) (ty := .array .int) 0 ⟨rf_C, rf_T, rf_ty, rfl, rfk_z, (Nat.le_of_ble_eq_true rfl), (rfk_w0 32 rfl), rfl, rfl, rfl⟩ rfl rfl rfl rfl ⟨by decide +kernel, rfl⟩ ?_
  simp only [List.cons_append, List.nil_append, List.set_cons_zero, List.set_cons_succ]
  refine b_aload (pc' := 578) (k := 0) (i := 0) 0 rfl rfl ⟨by decide +kernel, rfl⟩ ?_
  refine b_bipush (pc' := 580) (n := 14) (v := 14) (by decide) ⟨by decide +kernel, rfl⟩ ?_
  refine b_newa (pc' := 582) (atype := .int) (ty := .int) (t := 1) (N := 14) (a0 := (14, .inl (fun _ => 0))) (rfk_w0 3 rfl) rfl ⟨0, by decide, rfl⟩ (fun _ => rfl) (by decide) (by decide) (Nat.le_of_ble_eq_true rfl) (Nat.le_of_ble_eq_true rfl) (Nat.le_of_ble_eq_true rfl) (Or.inl rfl) ⟨by decide +kernel, rfl⟩ (fun q30 => ?_)
  refine b_put (pc' := 585) (idx := 97) (ci := 0) (N := 105) (j := 48) (f := true) (ty := .array .int) 0 ⟨rf_C, rf_T, rf_ty, rfl, rfk_z, (Nat.le_of_ble_eq_true rfl), (rfk_w0 33 rfl), rfl, rfl, rfl⟩ rfl rfl rfl rfl ⟨by decide +kernel, rfl⟩ ?_
  simp only [List.cons_append, List.nil_append, List.set_cons_zero, List.set_cons_succ]
  refine b_aload (pc' := 586) (k := 0) (i := 0) 0 rfl rfl ⟨by decide +kernel, rfl⟩ ?_
  refine b_sipush (pc' := 589) (n := 2200) (v := 2200) (by decide) ⟨by decide +kernel, rfl⟩ ?_
  refine b_newa (pc' := 591) (atype := .long) (ty := .long) (t := 5) (N := 2200) (a0 := (2200, .inr (.inl (fun _ => 0)))) (rfk_w0 34 rfl) rfl ⟨4, by decide, rfl⟩ (fun _ => rfl) (by decide) (by decide) (Nat.le_of_ble_eq_true rfl) (Nat.le_of_ble_eq_true rfl) (Nat.le_of_ble_eq_true rfl) (Or.inr (Or.inr (Or.inr (Or.inr rfl)))) ⟨by decide +kernel, rfl⟩ (fun q31 => ?_)
  refine b_put (pc' := 594) (idx := 100) (ci := 0) (N := 105) (j := 49) (f := true) (ty := .array .long) 0 ⟨rf_C, rf_T, rf_ty, rfl, rfk_z, (Nat.le_of_ble_eq_true rfl), (rfk_w0 35 rfl), rfl, rfl, rfl⟩ rfl rfl rfl rfl ⟨by decide +kernel, rfl⟩ ?_
  simp only [List.cons_append, List.nil_append, List.set_cons_zero, List.set_cons_succ]
  refine b_aload (pc' := 595) (k := 0) (i := 0) 0 rfl rfl ⟨by decide +kernel, rfl⟩ ?_
  refine b_sipush (pc' := 598) (n := 160) (v := 160) (by decide) ⟨by decide +kernel, rfl⟩ ?_
  refine b_newa (pc' := 600) (atype := .long) (ty := .long) (t := 5) (N := 160) (a0 := (160, .inr (.inl (fun _ => 0)))) (rfk_w0 34 rfl) rfl ⟨4, by decide, rfl⟩ (fun _ => rfl) (by decide) (by decide) (Nat.le_of_ble_eq_true rfl) (Nat.le_of_ble_eq_true rfl) (Nat.le_of_ble_eq_true rfl) (Or.inr (Or.inr (Or.inr (Or.inr rfl)))) ⟨by decide +kernel, rfl⟩ (fun q32 => ?_)
  refine b_put (pc' := 603) (idx := 104) (ci := 0) (N := 105) (j := 50) (f := true) (ty := .array .long) 0 ⟨rf_C, rf_T, rf_ty, rfl, rfk_z, (Nat.le_of_ble_eq_true rfl), (rfk_w0 36 rfl), rfl, rfl, rfl⟩ rfl rfl rfl rfl ⟨by decide +kernel, rfl⟩ ?_
  simp only [List.cons_append, List.nil_append, List.set_cons_zero, List.set_cons_succ]
  refine b_aload (pc' := 604) (k := 0) (i := 0) 0 rfl rfl ⟨by decide +kernel, rfl⟩ ?_
  refine b_sipush (pc' := 607) (n := 200) (v := 200) (by decide) ⟨by decide +kernel, rfl⟩ ?_
  refine b_newa (pc' := 609) (atype := .int) (ty := .int) (t := 1) (N := 200) (a0 := (200, .inl (fun _ => 0))) (rfk_w0 3 rfl) rfl ⟨0, by decide, rfl⟩ (fun _ => rfl) (by decide) (by decide) (Nat.le_of_ble_eq_true rfl) (Nat.le_of_ble_eq_true rfl) (Nat.le_of_ble_eq_true rfl) (Or.inl rfl) ⟨by decide +kernel, rfl⟩ (fun q33 => ?_)
  refine b_put (pc' := 612) (idx := 107) (ci := 0) (N := 105) (j := 69) (f := true) (ty := .array .int) 0 ⟨rf_C, rf_T, rf_ty, rfl, rfk_z, (Nat.le_of_ble_eq_true rfl), (rfk_w0 37 rfl), rfl, rfl, rfl⟩ rfl rfl rfl rfl ⟨by decide +kernel, rfl⟩ ?_
  simp only [List.cons_append, List.nil_append, List.set_cons_zero, List.set_cons_succ]
  refine b_aload (pc' := 613) (k := 0) (i := 0) 0 rfl rfl ⟨by decide +kernel, rfl⟩ ?_
  refine b_sipush (pc' := 616) (n := 200) (v := 200) (by decide) ⟨by decide +kernel, rfl⟩ ?_
  refine b_newa (pc' := 618) (atype := .long) (ty := .long) (t := 5) (N := 200) (a0 := (200, .inr (.inl (fun _ => 0)))) (rfk_w0 34 rfl) rfl ⟨4, by decide, rfl⟩ (fun _ => rfl) (by decide) (by decide) (Nat.le_of_ble_eq_true rfl) (Nat.le_of_ble_eq_true rfl) (Nat.le_of_ble_eq_true rfl) (Or.inr (Or.inr (Or.inr (Or.inr rfl)))) ⟨by decide +kernel, rfl⟩ (fun q34 => ?_)
  refine b_put (pc' := 621) (idx := 110) (ci := 0) (N := 105) (j := 70) (f := true) (ty := .array .long) 0 ⟨rf_C, rf_T, rf_ty, rfl, rfk_z, (Nat.le_of_ble_eq_true rfl), (rfk_w0 38 rfl), rfl, rfl, rfl⟩ rfl rfl rfl rfl ⟨by decide +kernel, rfl⟩ ?_
  simp only [List.cons_append, List.nil_append, List.set_cons_zero, List.set_cons_succ]
  refine b_aload (pc' := 622) (k := 0) (i := 0) 0 rfl rfl ⟨by decide +kernel, rfl⟩ ?_
  refine b_sipush (pc' := 625) (n := 201) (v := 201) (by decide) ⟨by decide +kernel, rfl⟩ ?_
  refine b_newa (pc' := 627) (atype := .int) (ty := .int) (t := 1) (N := 201) (a0 := (201, .inl (fun _ => 0))) (rfk_w0 3 rfl) rfl ⟨0, by decide, rfl⟩ (fun _ => rfl) (by decide) (by decide) (Nat.le_of_ble_eq_true rfl) (Nat.le_of_ble_eq_true rfl) (Nat.le_of_ble_eq_true rfl) (Or.inl rfl) ⟨by decide +kernel, rfl⟩ (fun q35 => ?_)
  refine b_put (pc' := 630) (idx := 113) (ci := 0) (N := 105) (j := 71) (f := true) (ty := .array .int) 0 ⟨rf_C, rf_T, rf_ty, rfl, rfk_z, (Nat.le_of_ble_eq_true rfl), (rfk_w0 39 rfl), rfl, rfl, rfl⟩ rfl rfl rfl rfl ⟨by decide +kernel, rfl⟩ ?_
  simp only [List.cons_append, List.nil_append, List.set_cons_zero, List.set_cons_succ]
  refine b_aload (pc' := 631) (k := 0) (i := 0) 0 rfl rfl ⟨by decide +kernel, rfl⟩ ?_
  refine b_sipush (pc' := 634) (n := 201) (v := 201) (by decide) ⟨by decide +kernel, rfl⟩ ?_
  refine b_newa (pc' := 636) (atype := .int) (ty := .int) (t := 1) (N := 201) (a0 := (201, .inl (fun _ => 0))) (rfk_w0 3 rfl) rfl ⟨0, by decide, rfl⟩ (fun _ => rfl) (by decide) (by decide) (Nat.le_of_ble_eq_true rfl) (Nat.le_of_ble_eq_true rfl) (Nat.le_of_ble_eq_true rfl) (Or.inl rfl) ⟨by decide +kernel, rfl⟩ (fun q36 => ?_)
  refine b_put (pc' := 639) (idx := 116) (ci := 0) (N := 105) (j := 72) (f := true) (ty := .array .int) 0 ⟨rf_C, rf_T, rf_ty, rfl, rfk_z, (Nat.le_of_ble_eq_true rfl), (rfk_w1 0 rfl), rfl, rfl, rfl⟩ rfl rfl rfl rfl ⟨by decide +kernel, rfl⟩ ?_
  simp only [List.cons_append, List.nil_append, List.set_cons_zero, List.set_cons_succ]
  refine b_aload (pc' := 640) (k := 0) (i := 0) 0 rfl rfl ⟨by decide +kernel, rfl⟩ ?_
  refine b_sipush (pc' := 643) (n := 201) (v := 201) (by decide) ⟨by decide +kernel, rfl⟩ ?_
  refine b_newa (pc' := 645) (atype := .int) (ty := .int) (t := 1) (N := 201) (a0 := (201, .inl (fun _ => 0))) (rfk_w0 3 rfl) rfl ⟨0, by decide, rfl⟩ (fun _ => rfl) (by decide) (by decide) (Nat.le_of_ble_eq_true rfl) (Nat.le_of_ble_eq_true rfl) (Nat.le_of_ble_eq_true rfl) (Or.inl rfl) ⟨by decide +kernel, rfl⟩ (fun q37 => ?_)
  refine b_put (pc' := 648) (idx := 119) (ci := 0) (N := 105) (j := 73) (f := true) (ty := .array .int) 0 ⟨rf_C, rf_T, rf_ty, rfl, rfk_z, (Nat.le_of_ble_eq_true rfl), (rfk_w1 1 rfl), rfl, rfl, rfl⟩ rfl rfl rfl rfl ⟨by decide +kernel, rfl⟩ ?_
  simp only [List.cons_append, List.nil_append, List.set_cons_zero, List.set_cons_succ]
  refine b_aload (pc' := 649) (k := 0) (i := 0) 0 rfl rfl ⟨by decide +kernel, rfl⟩ ?_
  refine b_sipush (pc' := 652) (n := 201) (v := 201) (by decide) ⟨by decide +kernel, rfl⟩ ?_
  refine b_newa (pc' := 654) (atype := .int) (ty := .int) (t := 1) (N := 201) (a0 := (201, .inl (fun _ => 0))) (rfk_w0 3 rfl) rfl ⟨0, by decide, rfl⟩ (fun _ => rfl) (by decide) (by decide) (Nat.le_of_ble_eq_true rfl) (Nat.le_of_ble_eq_true rfl) (Nat.le_of_ble_eq_true rfl) (Or.inl rfl) ⟨by decide +kernel, rfl⟩ (fun q38 => ?_)
  refine b_put (pc' := 657) (idx := 122) (ci := 0) (N := 105) (j := 74) (f := true) (ty := .array .int) 0 ⟨rf_C, rf_T, rf_ty, rfl, rfk_z, (Nat.le_of_ble_eq_true rfl), (rfk_w1 2 rfl), rfl, rfl, rfl⟩ rfl rfl rfl rfl ⟨by decide +kernel, rfl⟩ ?_
  simp only [List.cons_append, List.nil_append, List.set_cons_zero, List.set_cons_succ]
  refine b_aload (pc' := 658) (k := 0) (i := 0) 0 rfl rfl ⟨by decide +kernel, rfl⟩ ?_
  refine b_sipush (pc' := 661) (n := 201) (v := 201) (by decide) ⟨by decide +kernel, rfl⟩ ?_
  refine b_newa (pc' := 663) (atype := .int) (ty := .int) (t := 1) (N := 201) (a0 := (201, .inl (fun _ => 0))) (rfk_w0 3 rfl) rfl ⟨0, by decide, rfl⟩ (fun _ => rfl) (by decide) (by decide) (Nat.le_of_ble_eq_true rfl) (Nat.le_of_ble_eq_true rfl) (Nat.le_of_ble_eq_true rfl) (Or.inl rfl) ⟨by decide +kernel, rfl⟩ (fun q39 => ?_)
  refine b_put (pc' := 666) (idx := 125) (ci := 0) (N := 105) (j := 75) (f := true) (ty := .array .int) 0 ⟨rf_C, rf_T, rf_ty, rfl, rfk_z, (Nat.le_of_ble_eq_true rfl), (rfk_w1 3 rfl), rfl, rfl, rfl⟩ rfl rfl rfl rfl ⟨by decide +kernel, rfl⟩ ?_
  simp only [List.cons_append, List.nil_append, List.set_cons_zero, List.set_cons_succ]
  refine b_aload (pc' := 667) (k := 0) (i := 0) 0 rfl rfl ⟨by decide +kernel, rfl⟩ ?_
  refine b_sipush (pc' := 670) (n := 20100) (v := 20100) (by decide) ⟨by decide +kernel, rfl⟩ ?_
  refine b_newa (pc' := 672) (atype := .int) (ty := .int) (t := 1) (N := 20100) (a0 := (20100, .inl (fun _ => 0))) (rfk_w0 3 rfl) rfl ⟨0, by decide, rfl⟩ (fun _ => rfl) (by decide) (by decide) (Nat.le_of_ble_eq_true rfl) (Nat.le_of_ble_eq_true rfl) (Nat.le_of_ble_eq_true rfl) (Or.inl rfl) ⟨by decide +kernel, rfl⟩ (fun q40 => ?_)
  refine b_put (pc' := 675) (idx := 128) (ci := 0) (N := 105) (j := 76) (f := true) (ty := .array .int) 0 ⟨rf_C, rf_T, rf_ty, rfl, rfk_z, (Nat.le_of_ble_eq_true rfl), (rfk_w1 4 rfl), rfl, rfl, rfl⟩ rfl rfl rfl rfl ⟨by decide +kernel, rfl⟩ ?_
  simp only [List.cons_append, List.nil_append, List.set_cons_zero, List.set_cons_succ]
  refine b_aload (pc' := 676) (k := 0) (i := 0) 0 rfl rfl ⟨by decide +kernel, rfl⟩ ?_
  refine b_sipush (pc' := 679) (n := 20100) (v := 20100) (by decide) ⟨by decide +kernel, rfl⟩ ?_
  refine b_newa (pc' := 681) (atype := .int) (ty := .int) (t := 1) (N := 20100) (a0 := (20100, .inl (fun _ => 0))) (rfk_w0 3 rfl) rfl ⟨0, by decide, rfl⟩ (fun _ => rfl) (by decide) (by decide) (Nat.le_of_ble_eq_true rfl) (Nat.le_of_ble_eq_true rfl) (Nat.le_of_ble_eq_true rfl) (Or.inl rfl) ⟨by decide +kernel, rfl⟩ (fun q41 => ?_)
  refine b_put (pc' := 684) (idx := 131) (ci := 0) (N := 105) (j := 77) (f := true) (ty := .array .int) 0 ⟨rf_C, rf_T, rf_ty, rfl, rfk_z, (Nat.le_of_ble_eq_true rfl), (rfk_w1 5 rfl), rfl, rfl, rfl⟩ rfl rfl rfl rfl ⟨by decide +kernel, rfl⟩ ?_
  simp only [List.cons_append, List.nil_append, List.set_cons_zero, List.set_cons_succ]
  refine b_aload (pc' := 685) (k := 0) (i := 0) 0 rfl rfl ⟨by decide +kernel, rfl⟩ ?_
  refine b_sipush (pc' := 688) (n := 20100) (v := 20100) (by decide) ⟨by decide +kernel, rfl⟩ ?_
  refine b_newa (pc' := 690) (atype := .int) (ty := .int) (t := 1) (N := 20100) (a0 := (20100, .inl (fun _ => 0))) (rfk_w0 3 rfl) rfl ⟨0, by decide, rfl⟩ (fun _ => rfl) (by decide) (by decide) (Nat.le_of_ble_eq_true rfl) (Nat.le_of_ble_eq_true rfl) (Nat.le_of_ble_eq_true rfl) (Or.inl rfl) ⟨by decide +kernel, rfl⟩ (fun q42 => ?_)
  refine b_put (pc' := 693) (idx := 134) (ci := 0) (N := 105) (j := 78) (f := true) (ty := .array .int) 0 ⟨rf_C, rf_T, rf_ty, rfl, rfk_z, (Nat.le_of_ble_eq_true rfl), (rfk_w1 6 rfl), rfl, rfl, rfl⟩ rfl rfl rfl rfl ⟨by decide +kernel, rfl⟩ ?_
  simp only [List.cons_append, List.nil_append, List.set_cons_zero, List.set_cons_succ]
  refine b_aload (pc' := 694) (k := 0) (i := 0) 0 rfl rfl ⟨by decide +kernel, rfl⟩ ?_
  refine b_sipush (pc' := 697) (n := 20100) (v := 20100) (by decide) ⟨by decide +kernel, rfl⟩ ?_
  refine b_newa (pc' := 699) (atype := .long) (ty := .long) (t := 5) (N := 20100) (a0 := (20100, .inr (.inl (fun _ => 0)))) (rfk_w0 34 rfl) rfl ⟨4, by decide, rfl⟩ (fun _ => rfl) (by decide) (by decide) (Nat.le_of_ble_eq_true rfl) (Nat.le_of_ble_eq_true rfl) (Nat.le_of_ble_eq_true rfl) (Or.inr (Or.inr (Or.inr (Or.inr rfl)))) ⟨by decide +kernel, rfl⟩ (fun q43 => ?_)
  refine b_put (pc' := 702) (idx := 137) (ci := 0) (N := 105) (j := 79) (f := true) (ty := .array .long) 0 ⟨rf_C, rf_T, rf_ty, rfl, rfk_z, (Nat.le_of_ble_eq_true rfl), (rfk_w1 7 rfl), rfl, rfl, rfl⟩ rfl rfl rfl rfl ⟨by decide +kernel, rfl⟩ ?_
  simp only [List.cons_append, List.nil_append, List.set_cons_zero, List.set_cons_succ]
  refine b_aload (pc' := 703) (k := 0) (i := 0) 0 rfl rfl ⟨by decide +kernel, rfl⟩ ?_
  refine b_sipush (pc' := 706) (n := 2100) (v := 2100) (by decide) ⟨by decide +kernel, rfl⟩ ?_
  refine b_newa (pc' := 708) (atype := .int) (ty := .int) (t := 1) (N := 2100) (a0 := (2100, .inl (fun _ => 0))) (rfk_w0 3 rfl) rfl ⟨0, by decide, rfl⟩ (fun _ => rfl) (by decide) (by decide) (Nat.le_of_ble_eq_true rfl) (Nat.le_of_ble_eq_true rfl) (Nat.le_of_ble_eq_true rfl) (Or.inl rfl) ⟨by decide +kernel, rfl⟩ (fun q44 => ?_)
  refine b_put (pc' := 711) (idx := 140) (ci := 0) (N := 105) (j := 81) (f := true) (ty := .array .int) 0 ⟨rf_C, rf_T, rf_ty, rfl, rfk_z, (Nat.le_of_ble_eq_true rfl), (rfk_w1 8 rfl), rfl, rfl, rfl⟩ rfl rfl rfl rfl ⟨by decide +kernel, rfl⟩ ?_
  simp only [List.cons_append, List.nil_append, List.set_cons_zero, List.set_cons_succ]
  refine b_aload (pc' := 712) (k := 0) (i := 0) 0 rfl rfl ⟨by decide +kernel, rfl⟩ ?_
  refine b_sipush (pc' := 715) (n := 2100) (v := 2100) (by decide) ⟨by decide +kernel, rfl⟩ ?_
  refine b_newa (pc' := 717) (atype := .int) (ty := .int) (t := 1) (N := 2100) (a0 := (2100, .inl (fun _ => 0))) (rfk_w0 3 rfl) rfl ⟨0, by decide, rfl⟩ (fun _ => rfl) (by decide) (by decide) (Nat.le_of_ble_eq_true rfl) (Nat.le_of_ble_eq_true rfl) (Nat.le_of_ble_eq_true rfl) (Or.inl rfl) ⟨by decide +kernel, rfl⟩ (fun q45 => ?_)
  refine b_put (pc' := 720) (idx := 143) (ci := 0) (N := 105) (j := 82) (f := true) (ty := .array .int) 0 ⟨rf_C, rf_T, rf_ty, rfl, rfk_z, (Nat.le_of_ble_eq_true rfl), (rfk_w1 9 rfl), rfl, rfl, rfl⟩ rfl rfl rfl rfl ⟨by decide +kernel, rfl⟩ ?_
  simp only [List.cons_append, List.nil_append, List.set_cons_zero, List.set_cons_succ]
  refine b_aload (pc' := 721) (k := 0) (i := 0) 0 rfl rfl ⟨by decide +kernel, rfl⟩ ?_
  refine b_sipush (pc' := 724) (n := 2100) (v := 2100) (by decide) ⟨by decide +kernel, rfl⟩ ?_
  refine b_newa (pc' := 726) (atype := .int) (ty := .int) (t := 1) (N := 2100) (a0 := (2100, .inl (fun _ => 0))) (rfk_w0 3 rfl) rfl ⟨0, by decide, rfl⟩ (fun _ => rfl) (by decide) (by decide) (Nat.le_of_ble_eq_true rfl) (Nat.le_of_ble_eq_true rfl) (Nat.le_of_ble_eq_true rfl) (Or.inl rfl) ⟨by decide +kernel, rfl⟩ (fun q46 => ?_)
  refine b_put (pc' := 729) (idx := 146) (ci := 0) (N := 105) (j := 83) (f := true) (ty := .array .int) 0 ⟨rf_C, rf_T, rf_ty, rfl, rfk_z, (Nat.le_of_ble_eq_true rfl), (rfk_w1 10 rfl), rfl, rfl, rfl⟩ rfl rfl rfl rfl ⟨by decide +kernel, rfl⟩ ?_
  simp only [List.cons_append, List.nil_append, List.set_cons_zero, List.set_cons_succ]
  refine b_aload (pc' := 730) (k := 0) (i := 0) 0 rfl rfl ⟨by decide +kernel, rfl⟩ ?_
  refine b_sipush (pc' := 733) (n := 2100) (v := 2100) (by decide) ⟨by decide +kernel, rfl⟩ ?_
  refine b_newa (pc' := 735) (atype := .int) (ty := .int) (t := 1) (N := 2100) (a0 := (2100, .inl (fun _ => 0))) (rfk_w0 3 rfl) rfl ⟨0, by decide, rfl⟩ (fun _ => rfl) (by decide) (by decide) (Nat.le_of_ble_eq_true rfl) (Nat.le_of_ble_eq_true rfl) (Nat.le_of_ble_eq_true rfl) (Or.inl rfl) ⟨by decide +kernel, rfl⟩ (fun q47 => ?_)
  refine b_put (pc' := 738) (idx := 149) (ci := 0) (N := 105) (j := 84) (f := true) (ty := .array .int) 0 ⟨rf_C, rf_T, rf_ty, rfl, rfk_z, (Nat.le_of_ble_eq_true rfl), (rfk_w1 11 rfl), rfl, rfl, rfl⟩ rfl rfl rfl rfl ⟨by decide +kernel, rfl⟩ ?_
  simp only [List.cons_append, List.nil_append, List.set_cons_zero, List.set_cons_succ]
  refine b_aload (pc' := 739) (k := 0) (i := 0) 0 rfl rfl ⟨by decide +kernel, rfl⟩ ?_
  refine b_bipush (pc' := 741) (n := 61) (v := 61) (by decide) ⟨by decide +kernel, rfl⟩ ?_
  refine b_newa (pc' := 743) (atype := .int) (ty := .int) (t := 1) (N := 61) (a0 := (61, .inl (fun _ => 0))) (rfk_w0 3 rfl) rfl ⟨0, by decide, rfl⟩ (fun _ => rfl) (by decide) (by decide) (Nat.le_of_ble_eq_true rfl) (Nat.le_of_ble_eq_true rfl) (Nat.le_of_ble_eq_true rfl) (Or.inl rfl) ⟨by decide +kernel, rfl⟩ (fun q48 => ?_)
  refine b_put (pc' := 746) (idx := 152) (ci := 0) (N := 105) (j := 85) (f := true) (ty := .array .int) 0 ⟨rf_C, rf_T, rf_ty, rfl, rfk_z, (Nat.le_of_ble_eq_true rfl), (rfk_w1 12 rfl), rfl, rfl, rfl⟩ rfl rfl rfl rfl ⟨by decide +kernel, rfl⟩ ?_
  simp only [List.cons_append, List.nil_append, List.set_cons_zero, List.set_cons_succ]
  refine b_aload (pc' := 747) (k := 0) (i := 0) 0 rfl rfl ⟨by decide +kernel, rfl⟩ ?_
  refine b_bipush (pc' := 749) (n := 61) (v := 61) (by decide) ⟨by decide +kernel, rfl⟩ ?_
  refine b_newa (pc' := 751) (atype := .int) (ty := .int) (t := 1) (N := 61) (a0 := (61, .inl (fun _ => 0))) (rfk_w0 3 rfl) rfl ⟨0, by decide, rfl⟩ (fun _ => rfl) (by decide) (by decide) (Nat.le_of_ble_eq_true rfl) (Nat.le_of_ble_eq_true rfl) (Nat.le_of_ble_eq_true rfl) (Or.inl rfl) ⟨by decide +kernel, rfl⟩ (fun q49 => ?_)
  refine b_put (pc' := 754) (idx := 155) (ci := 0) (N := 105) (j := 86) (f := true) (ty := .array .int) 0 ⟨rf_C, rf_T, rf_ty, rfl, rfk_z, (Nat.le_of_ble_eq_true rfl), (rfk_w1 13 rfl), rfl, rfl, rfl⟩ rfl rfl rfl rfl ⟨by decide +kernel, rfl⟩ ?_
  simp only [List.cons_append, List.nil_append, List.set_cons_zero, List.set_cons_succ]
  refine b_aload (pc' := 755) (k := 0) (i := 0) 0 rfl rfl ⟨by decide +kernel, rfl⟩ ?_
  refine b_sipush (pc' := 758) (n := 3100) (v := 3100) (by decide) ⟨by decide +kernel, rfl⟩ ?_
  refine b_newa (pc' := 760) (atype := .int) (ty := .int) (t := 1) (N := 3100) (a0 := (3100, .inl (fun _ => 0))) (rfk_w0 3 rfl) rfl ⟨0, by decide, rfl⟩ (fun _ => rfl) (by decide) (by decide) (Nat.le_of_ble_eq_true rfl) (Nat.le_of_ble_eq_true rfl) (Nat.le_of_ble_eq_true rfl) (Or.inl rfl) ⟨by decide +kernel, rfl⟩ (fun q50 => ?_)
  refine b_put (pc' := 763) (idx := 158) (ci := 0) (N := 105) (j := 87) (f := true) (ty := .array .int) 0 ⟨rf_C, rf_T, rf_ty, rfl, rfk_z, (Nat.le_of_ble_eq_true rfl), (rfk_w1 14 rfl), rfl, rfl, rfl⟩ rfl rfl rfl rfl ⟨by decide +kernel, rfl⟩ ?_
  simp only [List.cons_append, List.nil_append, List.set_cons_zero, List.set_cons_succ]
  refine b_aload (pc' := 764) (k := 0) (i := 0) 0 rfl rfl ⟨by decide +kernel, rfl⟩ ?_
  refine b_sipush (pc' := 767) (n := 3100) (v := 3100) (by decide) ⟨by decide +kernel, rfl⟩ ?_
  refine b_newa (pc' := 769) (atype := .long) (ty := .long) (t := 5) (N := 3100) (a0 := (3100, .inr (.inl (fun _ => 0)))) (rfk_w0 34 rfl) rfl ⟨4, by decide, rfl⟩ (fun _ => rfl) (by decide) (by decide) (Nat.le_of_ble_eq_true rfl) (Nat.le_of_ble_eq_true rfl) (Nat.le_of_ble_eq_true rfl) (Or.inr (Or.inr (Or.inr (Or.inr rfl)))) ⟨by decide +kernel, rfl⟩ (fun q51 => ?_)
  refine b_put (pc' := 772) (idx := 161) (ci := 0) (N := 105) (j := 88) (f := true) (ty := .array .long) 0 ⟨rf_C, rf_T, rf_ty, rfl, rfk_z, (Nat.le_of_ble_eq_true rfl), (rfk_w1 15 rfl), rfl, rfl, rfl⟩ rfl rfl rfl rfl ⟨by decide +kernel, rfl⟩ ?_
  simp only [List.cons_append, List.nil_append, List.set_cons_zero, List.set_cons_succ]
  refine b_aload (pc' := 773) (k := 0) (i := 0) 0 rfl rfl ⟨by decide +kernel, rfl⟩ ?_
  refine b_bipush (pc' := 775) (n := 81) (v := 81) (by decide) ⟨by decide +kernel, rfl⟩ ?_
  refine b_newa (pc' := 777) (atype := .int) (ty := .int) (t := 1) (N := 81) (a0 := (81, .inl (fun _ => 0))) (rfk_w0 3 rfl) rfl ⟨0, by decide, rfl⟩ (fun _ => rfl) (by decide) (by decide) (Nat.le_of_ble_eq_true rfl) (Nat.le_of_ble_eq_true rfl) (Nat.le_of_ble_eq_true rfl) (Or.inl rfl) ⟨by decide +kernel, rfl⟩ (fun q52 => ?_)
  refine b_put (pc' := 780) (idx := 164) (ci := 0) (N := 105) (j := 89) (f := true) (ty := .array .int) 0 ⟨rf_C, rf_T, rf_ty, rfl, rfk_z, (Nat.le_of_ble_eq_true rfl), (rfk_w1 16 rfl), rfl, rfl, rfl⟩ rfl rfl rfl rfl ⟨by decide +kernel, rfl⟩ ?_
  simp only [List.cons_append, List.nil_append, List.set_cons_zero, List.set_cons_succ]
  refine b_aload (pc' := 781) (k := 0) (i := 0) 0 rfl rfl ⟨by decide +kernel, rfl⟩ ?_
  refine b_bipush (pc' := 783) (n := 81) (v := 81) (by decide) ⟨by decide +kernel, rfl⟩ ?_
  refine b_newa (pc' := 785) (atype := .int) (ty := .int) (t := 1) (N := 81) (a0 := (81, .inl (fun _ => 0))) (rfk_w0 3 rfl) rfl ⟨0, by decide, rfl⟩ (fun _ => rfl) (by decide) (by decide) (Nat.le_of_ble_eq_true rfl) (Nat.le_of_ble_eq_true rfl) (Nat.le_of_ble_eq_true rfl) (Or.inl rfl) ⟨by decide +kernel, rfl⟩ (fun q53 => ?_)
  refine b_put (pc' := 788) (idx := 167) (ci := 0) (N := 105) (j := 90) (f := true) (ty := .array .int) 0 ⟨rf_C, rf_T, rf_ty, rfl, rfk_z, (Nat.le_of_ble_eq_true rfl), (rfk_w1 17 rfl), rfl, rfl, rfl⟩ rfl rfl rfl rfl ⟨by decide +kernel, rfl⟩ ?_
  simp only [List.cons_append, List.nil_append, List.set_cons_zero, List.set_cons_succ]
  refine b_aload (pc' := 789) (k := 0) (i := 0) 0 rfl rfl ⟨by decide +kernel, rfl⟩ ?_
  refine b_bipush (pc' := 791) (n := 81) (v := 81) (by decide) ⟨by decide +kernel, rfl⟩ ?_
  refine b_newa (pc' := 793) (atype := .int) (ty := .int) (t := 1) (N := 81) (a0 := (81, .inl (fun _ => 0))) (rfk_w0 3 rfl) rfl ⟨0, by decide, rfl⟩ (fun _ => rfl) (by decide) (by decide) (Nat.le_of_ble_eq_true rfl) (Nat.le_of_ble_eq_true rfl) (Nat.le_of_ble_eq_true rfl) (Or.inl rfl) ⟨by decide +kernel, rfl⟩ (fun q54 => ?_)
  refine b_put (pc' := 796) (idx := 170) (ci := 0) (N := 105) (j := 91) (f := true) (ty := .array .int) 0 ⟨rf_C, rf_T, rf_ty, rfl, rfk_z, (Nat.le_of_ble_eq_true rfl), (rfk_w1 18 rfl), rfl, rfl, rfl⟩ rfl rfl rfl rfl ⟨by decide +kernel, rfl⟩ ?_
  simp only [List.cons_append, List.nil_append, List.set_cons_zero, List.set_cons_succ]
  refine b_aload (pc' := 797) (k := 0) (i := 0) 0 rfl rfl ⟨by decide +kernel, rfl⟩ ?_
  refine b_sipush (pc' := 800) (n := 330) (v := 330) (by decide) ⟨by decide +kernel, rfl⟩ ?_
  refine b_newa (pc' := 802) (atype := .int) (ty := .int) (t := 1) (N := 330) (a0 := (330, .inl (fun _ => 0))) (rfk_w0 3 rfl) rfl ⟨0, by decide, rfl⟩ (fun _ => rfl) (by decide) (by decide) (Nat.le_of_ble_eq_true rfl) (Nat.le_of_ble_eq_true rfl) (Nat.le_of_ble_eq_true rfl) (Or.inl rfl) ⟨by decide +kernel, rfl⟩ (fun q55 => ?_)
  refine b_put (pc' := 805) (idx := 173) (ci := 0) (N := 105) (j := 92) (f := true) (ty := .array .int) 0 ⟨rf_C, rf_T, rf_ty, rfl, rfk_z, (Nat.le_of_ble_eq_true rfl), (rfk_w1 19 rfl), rfl, rfl, rfl⟩ rfl rfl rfl rfl ⟨by decide +kernel, rfl⟩ ?_
  simp only [List.cons_append, List.nil_append, List.set_cons_zero, List.set_cons_succ]
  refine b_aload (pc' := 806) (k := 0) (i := 0) 0 rfl rfl ⟨by decide +kernel, rfl⟩ ?_
  refine b_sipush (pc' := 809) (n := 330) (v := 330) (by decide) ⟨by decide +kernel, rfl⟩ ?_
  refine b_newa (pc' := 811) (atype := .int) (ty := .int) (t := 1) (N := 330) (a0 := (330, .inl (fun _ => 0))) (rfk_w0 3 rfl) rfl ⟨0, by decide, rfl⟩ (fun _ => rfl) (by decide) (by decide) (Nat.le_of_ble_eq_true rfl) (Nat.le_of_ble_eq_true rfl) (Nat.le_of_ble_eq_true rfl) (Or.inl rfl) ⟨by decide +kernel, rfl⟩ (fun q56 => ?_)
  refine b_put (pc' := 814) (idx := 176) (ci := 0) (N := 105) (j := 93) (f := true) (ty := .array .int) 0 ⟨rf_C, rf_T, rf_ty, rfl, rfk_z, (Nat.le_of_ble_eq_true rfl), (rfk_w1 20 rfl), rfl, rfl, rfl⟩ rfl rfl rfl rfl ⟨by decide +kernel, rfl⟩ ?_
  simp only [List.cons_append, List.nil_append, List.set_cons_zero, List.set_cons_succ]
  refine b_aload (pc' := 815) (k := 0) (i := 0) 0 rfl rfl ⟨by decide +kernel, rfl⟩ ?_
  refine b_sipush (pc' := 818) (n := 330) (v := 330) (by decide) ⟨by decide +kernel, rfl⟩ ?_
  refine b_newa (pc' := 820) (atype := .int) (ty := .int) (t := 1) (N := 330) (a0 := (330, .inl (fun _ => 0))) (rfk_w0 3 rfl) rfl ⟨0, by decide, rfl⟩ (fun _ => rfl) (by decide) (by decide) (Nat.le_of_ble_eq_true rfl) (Nat.le_of_ble_eq_true rfl) (Nat.le_of_ble_eq_true rfl) (Or.inl rfl) ⟨by decide +kernel, rfl⟩ (fun q57 => ?_)
  refine b_put (pc' := 823) (idx := 179) (ci := 0) (N := 105) (j := 94) (f := true) (ty := .array .int) 0 ⟨rf_C, rf_T, rf_ty, rfl, rfk_z, (Nat.le_of_ble_eq_true rfl), (rfk_w1 21 rfl), rfl, rfl, rfl⟩ rfl rfl rfl rfl ⟨by decide +kernel, rfl⟩ ?_
  simp only [List.cons_append, List.nil_append, List.set_cons_zero, List.set_cons_succ]
  refine b_aload (pc' := 824) (k := 0) (i := 0) 0 rfl rfl ⟨by decide +kernel, rfl⟩ ?_
  refine b_bipush (pc' := 826) (n := 81) (v := 81) (by decide) ⟨by decide +kernel, rfl⟩ ?_
  refine b_newa (pc' := 828) (atype := .boolean) (ty := .boolean) (t := 4) (N := 81) (a0 := (81, .inl (fun _ => 0))) (rfk_w1 22 rfl) rfl ⟨3, by decide, rfl⟩ (fun _ => rfl) (by decide) (by decide) (Nat.le_of_ble_eq_true rfl) (Nat.le_of_ble_eq_true rfl) (Nat.le_of_ble_eq_true rfl) (Or.inr (Or.inr (Or.inr (Or.inl rfl)))) ⟨by decide +kernel, rfl⟩ (fun q58 => ?_)
  refine b_put (pc' := 831) (idx := 182) (ci := 0) (N := 105) (j := 95) (f := true) (ty := .array .boolean) 0 ⟨rf_C, rf_T, rf_ty, rfl, rfk_z, (Nat.le_of_ble_eq_true rfl), (rfk_w1 23 rfl), rfl, rfl, rfl⟩ rfl rfl rfl rfl ⟨by decide +kernel, rfl⟩ ?_
  simp only [List.cons_append, List.nil_append, List.set_cons_zero, List.set_cons_succ]
  refine b_aload (pc' := 832) (k := 0) (i := 0) 0 rfl rfl ⟨by decide +kernel, rfl⟩ ?_
  refine b_bipush (pc' := 834) (n := 81) (v := 81) (by decide) ⟨by decide +kernel, rfl⟩ ?_
  refine b_newa (pc' := 836) (atype := .int) (ty := .int) (t := 1) (N := 81) (a0 := (81, .inl (fun _ => 0))) (rfk_w0 3 rfl) rfl ⟨0, by decide, rfl⟩ (fun _ => rfl) (by decide) (by decide) (Nat.le_of_ble_eq_true rfl) (Nat.le_of_ble_eq_true rfl) (Nat.le_of_ble_eq_true rfl) (Or.inl rfl) ⟨by decide +kernel, rfl⟩ (fun q59 => ?_)
  refine b_put (pc' := 839) (idx := 186) (ci := 0) (N := 105) (j := 96) (f := true) (ty := .array .int) 0 ⟨rf_C, rf_T, rf_ty, rfl, rfk_z, (Nat.le_of_ble_eq_true rfl), (rfk_w1 24 rfl), rfl, rfl, rfl⟩ rfl rfl rfl rfl ⟨by decide +kernel, rfl⟩ ?_
  simp only [List.cons_append, List.nil_append, List.set_cons_zero, List.set_cons_succ]
  refine b_aload (pc' := 840) (k := 0) (i := 0) 0 rfl rfl ⟨by decide +kernel, rfl⟩ ?_
  refine b_sipush (pc' := 843) (n := 330) (v := 330) (by decide) ⟨by decide +kernel, rfl⟩ ?_
  refine b_newa (pc' := 845) (atype := .int) (ty := .int) (t := 1) (N := 330) (a0 := (330, .inl (fun _ => 0))) (rfk_w0 3 rfl) rfl ⟨0, by decide, rfl⟩ (fun _ => rfl) (by decide) (by decide) (Nat.le_of_ble_eq_true rfl) (Nat.le_of_ble_eq_true rfl) (Nat.le_of_ble_eq_true rfl) (Or.inl rfl) ⟨by decide +kernel, rfl⟩ (fun q60 => ?_)
  refine b_put (pc' := 848) (idx := 189) (ci := 0) (N := 105) (j := 97) (f := true) (ty := .array .int) 0 ⟨rf_C, rf_T, rf_ty, rfl, rfk_z, (Nat.le_of_ble_eq_true rfl), (rfk_w1 25 rfl), rfl, rfl, rfl⟩ rfl rfl rfl rfl ⟨by decide +kernel, rfl⟩ ?_
  simp only [List.cons_append, List.nil_append, List.set_cons_zero, List.set_cons_succ]
  refine b_aload (pc' := 849) (k := 0) (i := 0) 0 rfl rfl ⟨by decide +kernel, rfl⟩ ?_
  refine b_bipush (pc' := 851) (n := 9) (v := 9) (by decide) ⟨by decide +kernel, rfl⟩ ?_
  refine b_newa (pc' := 853) (atype := .int) (ty := .int) (t := 1) (N := 9) (a0 := (9, .inl (fun _ => 0))) (rfk_w0 3 rfl) rfl ⟨0, by decide, rfl⟩ (fun _ => rfl) (by decide) (by decide) (Nat.le_of_ble_eq_true rfl) (Nat.le_of_ble_eq_true rfl) (Nat.le_of_ble_eq_true rfl) (Or.inl rfl) ⟨by decide +kernel, rfl⟩ (fun q61 => ?_)
  refine b_put (pc' := 856) (idx := 192) (ci := 0) (N := 105) (j := 98) (f := true) (ty := .array .int) 0 ⟨rf_C, rf_T, rf_ty, rfl, rfk_z, (Nat.le_of_ble_eq_true rfl), (rfk_w1 26 rfl), rfl, rfl, rfl⟩ rfl rfl rfl rfl ⟨by decide +kernel, rfl⟩ ?_
  simp only [List.cons_append, List.nil_append, List.set_cons_zero, List.set_cons_succ]
  refine b_aload (pc' := 857) (k := 0) (i := 0) 0 rfl rfl ⟨by decide +kernel, rfl⟩ ?_
  refine b_bipush (pc' := 859) (n := 9) (v := 9) (by decide) ⟨by decide +kernel, rfl⟩ ?_
  refine b_newa (pc' := 861) (atype := .int) (ty := .int) (t := 1) (N := 9) (a0 := (9, .inl (fun _ => 0))) (rfk_w0 3 rfl) rfl ⟨0, by decide, rfl⟩ (fun _ => rfl) (by decide) (by decide) (Nat.le_of_ble_eq_true rfl) (Nat.le_of_ble_eq_true rfl) (Nat.le_of_ble_eq_true rfl) (Or.inl rfl) ⟨by decide +kernel, rfl⟩ (fun q62 => ?_)
  refine b_put (pc' := 864) (idx := 195) (ci := 0) (N := 105) (j := 99) (f := true) (ty := .array .int) 0 ⟨rf_C, rf_T, rf_ty, rfl, rfk_z, (Nat.le_of_ble_eq_true rfl), (rfk_w1 27 rfl), rfl, rfl, rfl⟩ rfl rfl rfl rfl ⟨by decide +kernel, rfl⟩ ?_
  simp only [List.cons_append, List.nil_append, List.set_cons_zero, List.set_cons_succ]
  refine b_aload (pc' := 865) (k := 0) (i := 0) 0 rfl rfl ⟨by decide +kernel, rfl⟩ ?_
  refine b_bipush (pc' := 867) (n := 9) (v := 9) (by decide) ⟨by decide +kernel, rfl⟩ ?_
  refine b_newa (pc' := 869) (atype := .int) (ty := .int) (t := 1) (N := 9) (a0 := (9, .inl (fun _ => 0))) (rfk_w0 3 rfl) rfl ⟨0, by decide, rfl⟩ (fun _ => rfl) (by decide) (by decide) (Nat.le_of_ble_eq_true rfl) (Nat.le_of_ble_eq_true rfl) (Nat.le_of_ble_eq_true rfl) (Or.inl rfl) ⟨by decide +kernel, rfl⟩ (fun q63 => ?_)
  refine b_put (pc' := 872) (idx := 198) (ci := 0) (N := 105) (j := 100) (f := true) (ty := .array .int) 0 ⟨rf_C, rf_T, rf_ty, rfl, rfk_z, (Nat.le_of_ble_eq_true rfl), (rfk_w1 28 rfl), rfl, rfl, rfl⟩ rfl rfl rfl rfl ⟨by decide +kernel, rfl⟩ ?_
  simp only [List.cons_append, List.nil_append, List.set_cons_zero, List.set_cons_succ]
  refine b_aload (pc' := 873) (k := 0) (i := 0) 0 rfl rfl ⟨by decide +kernel, rfl⟩ ?_
  refine b_bipush (pc' := 875) (n := 9) (v := 9) (by decide) ⟨by decide +kernel, rfl⟩ ?_
  refine b_newa (pc' := 877) (atype := .int) (ty := .int) (t := 1) (N := 9) (a0 := (9, .inl (fun _ => 0))) (rfk_w0 3 rfl) rfl ⟨0, by decide, rfl⟩ (fun _ => rfl) (by decide) (by decide) (Nat.le_of_ble_eq_true rfl) (Nat.le_of_ble_eq_true rfl) (Nat.le_of_ble_eq_true rfl) (Or.inl rfl) ⟨by decide +kernel, rfl⟩ (fun q64 => ?_)
  refine b_put (pc' := 880) (idx := 201) (ci := 0) (N := 105) (j := 101) (f := true) (ty := .array .int) 0 ⟨rf_C, rf_T, rf_ty, rfl, rfk_z, (Nat.le_of_ble_eq_true rfl), (rfk_w1 29 rfl), rfl, rfl, rfl⟩ rfl rfl rfl rfl ⟨by decide +kernel, rfl⟩ ?_
  simp only [List.cons_append, List.nil_append, List.set_cons_zero, List.set_cons_succ]
  refine b_aload (pc' := 881) (k := 0) (i := 0) 0 rfl rfl ⟨by decide +kernel, rfl⟩ ?_
  refine b_bipush (pc' := 883) (n := 9) (v := 9) (by decide) ⟨by decide +kernel, rfl⟩ ?_
  refine b_newa (pc' := 885) (atype := .int) (ty := .int) (t := 1) (N := 9) (a0 := (9, .inl (fun _ => 0))) (rfk_w0 3 rfl) rfl ⟨0, by decide, rfl⟩ (fun _ => rfl) (by decide) (by decide) (Nat.le_of_ble_eq_true rfl) (Nat.le_of_ble_eq_true rfl) (Nat.le_of_ble_eq_true rfl) (Or.inl rfl) ⟨by decide +kernel, rfl⟩ (fun q65 => ?_)
  refine b_put (pc' := 888) (idx := 204) (ci := 0) (N := 105) (j := 102) (f := true) (ty := .array .int) 0 ⟨rf_C, rf_T, rf_ty, rfl, rfk_z, (Nat.le_of_ble_eq_true rfl), (rfk_w1 30 rfl), rfl, rfl, rfl⟩ rfl rfl rfl rfl ⟨by decide +kernel, rfl⟩ ?_
  simp only [List.cons_append, List.nil_append, List.set_cons_zero, List.set_cons_succ]
  refine b_aload (pc' := 889) (k := 0) (i := 0) 0 rfl rfl ⟨by decide +kernel, rfl⟩ ?_
  refine b_bipush (pc' := 891) (n := 9) (v := 9) (by decide) ⟨by decide +kernel, rfl⟩ ?_
  refine b_newa (pc' := 893) (atype := .boolean) (ty := .boolean) (t := 4) (N := 9) (a0 := (9, .inl (fun _ => 0))) (rfk_w1 22 rfl) rfl ⟨3, by decide, rfl⟩ (fun _ => rfl) (by decide) (by decide) (Nat.le_of_ble_eq_true rfl) (Nat.le_of_ble_eq_true rfl) (Nat.le_of_ble_eq_true rfl) (Or.inr (Or.inr (Or.inr (Or.inl rfl)))) ⟨by decide +kernel, rfl⟩ (fun q66 => ?_)
  refine b_put (pc' := 896) (idx := 207) (ci := 0) (N := 105) (j := 103) (f := true) (ty := .array .boolean) 0 ⟨rf_C, rf_T, rf_ty, rfl, rfk_z, (Nat.le_of_ble_eq_true rfl), (rfk_w1 31 rfl), rfl, rfl, rfl⟩ rfl rfl rfl rfl ⟨by decide +kernel, rfl⟩ ?_
  simp only [List.cons_append, List.nil_append, List.set_cons_zero, List.set_cons_succ]
  refine b_aload (pc' := 897) (k := 0) (i := 0) 0 rfl rfl ⟨by decide +kernel, rfl⟩ ?_
  refine b_bipush (pc' := 899) (n := 9) (v := 9) (by decide) ⟨by decide +kernel, rfl⟩ ?_
  refine b_newa (pc' := 901) (atype := .boolean) (ty := .boolean) (t := 4) (N := 9) (a0 := (9, .inl (fun _ => 0))) (rfk_w1 22 rfl) rfl ⟨3, by decide, rfl⟩ (fun _ => rfl) (by decide) (by decide) (Nat.le_of_ble_eq_true rfl) (Nat.le_of_ble_eq_true rfl) (Nat.le_of_ble_eq_true rfl) (Or.inr (Or.inr (Or.inr (Or.inl rfl)))) ⟨by decide +kernel, rfl⟩ (fun q67 => ?_)
  refine b_put (pc' := 904) (idx := 210) (ci := 0) (N := 105) (j := 104) (f := true) (ty := .array .boolean) 0 ⟨rf_C, rf_T, rf_ty, rfl, rfk_z, (Nat.le_of_ble_eq_true rfl), (rfk_w1 32 rfl), rfl, rfl, rfl⟩ rfl rfl rfl rfl ⟨by decide +kernel, rfl⟩ ?_
  simp only [List.cons_append, List.nil_append, List.set_cons_zero, List.set_cons_succ]
  refine b_aload (pc' := 905) (k := 0) (i := 0) 0 rfl rfl ⟨by decide +kernel, rfl⟩ ?_
  refine b_iconst (pc' := 906) (n := -1) (v := -1) (by decide) ⟨by decide +kernel, rfl⟩ ?_
  refine b_put (pc' := 909) (idx := 213) (ci := 0) (N := 105) (j := 19) (f := false) (ty := .int) 0 ⟨rf_C, rf_T, rf_ty, rfl, rfk_z, (Nat.le_of_ble_eq_true rfl), (rfk_w1 33 rfl), rfl, rfl, rfl⟩ rfl rfl rfl rfl ⟨by decide +kernel, rfl⟩ ?_
  simp only [List.cons_append, List.nil_append, List.set_cons_zero, List.set_cons_succ]
  refine b_aload (pc' := 910) (k := 0) (i := 0) 0 rfl rfl ⟨by decide +kernel, rfl⟩ ?_
  refine b_perm (ws' := zw rf_tb ca (zad rf_tb (bG0 [x, q1, q2, q3, q4, q5, q6, q7, q8, q9, q10, q11, q12, q13, q14, q15, q16, q17, q18, q19, q20, q21, q22, q23, q24, q25, q26, q27, q28, q29, q30, q31, q32, q33, q34, q35, q36, q37, q38, q39, q40, q41, q42, q43, q44, q45, q46, q47, q48, q49, q50, q51, q52, q53, q54, q55, q56, q57, q58, q59, q60, q61, q62, q63, q64, q65, q66, q67]) (bG0 [x, q1, q2, q3, q4, q5, q6, q7, q8, q9, q10, q11, q12, q13, q14, q15, q16, q17, q18, q19, q20, q21, q22, q23, q24, q25, q26, q27, q28, q29, q30, q31, q32, q33, q34, q35, q36, q37, q38, q39, q40, q41, q42, q43, q44, q45, q46, q47, q48, q49, q50, q51, q52, q53, q54, q55, q56, q57, q58, q59, q60, q61, q62, q63, q64, q65, q66, q67])) uR0) [0, 1, 2, 3, 4, 5, 6, 7, 8, 9, 10, 11, 12, 13, 14, 15, 16, 17, 18, 19, 20, 21, 22, 23, 24, 25, 26, 27, 28, 29, 30, 31, 32, 33, 34, 35, 36, 37, 38, 39, 40, 41, 42, 43, 44, 45, 46, 47, 48, 49, 50, 51, 52, 53, 54, 55, 56, 57, 58, 59, 60, 61, 62, 63, 64, 65, 66, 67] (by decide +kernel) rfl ?_
  refine b_meth (pc' := 913) (Λ := zRk ca D) (gl0 := rf_gl) (idx := 217) (C := rf_C) (n := 0) (a := bG0 [x, q1, q2, q3, q4, q5, q6, q7, q8, q9, q10, q11, q12, q13, q14, q15, q16, q17, q18, q19, q20, q21, q22, q23, q24, q25, q26, q27, q28, q29, q30, q31, q32, q33, q34, q35, q36, q37, q38, q39, q40, q41, q42, q43, q44, q45, q46, q47, q48, q49, q50, q51, q52, q53, q54, q55, q56, q57, q58, q59, q60, q61, q62, q63, q64, q65, q66, q67]) (u := uR0) (u' := u1) 0 (by rw [← hu]; exact rft_anew n uR0) (fun _ _ _ h => h) ⟨fun _ _ _ _ _ h => h, fun _ _ _ _ _ h => h, fun _ _ _ _ _ h => h, fun _ _ _ _ _ h => h⟩ (fun c hc => ⟨rfk_up ((rfG_anew ca D).1 c hc).1, ((rfG_anew ca D).1 c hc).2⟩) (rfG_anew ca D).2.1 (Nat.le_of_ble_eq_true rfl) ⟨rf_T, 105, 0, rfl, zlt rfl, rfl⟩ rfl (Nat.le_of_ble_eq_true rfl) rfl rfl (Nat.le_of_ble_eq_true rfl) (Nat.le_of_ble_eq_true rfl) ⟨by decide +kernel, rfl⟩ ?_
  exact b_end (pc' := 914) (bG0 [x, q1, q2, q3, q4, q5, q6, q7, q8, q9, q10, q11, q12, q13, q14, q15, q16, q17, q18, q19, q20, q21, q22, q23, q24, q25, q26, q27, q28, q29, q30, q31, q32, q33, q34, q35, q36, q37, q38, q39, q40, q41, q42, q43, q44, q45, q46, q47, q48, q49, q50, q51, q52, q53, q54, q55, q56, q57, q58, q59, q60, q61, q62, q63, q64, q65, q66, q67]) (zwX (x := x) rfl) rfl rfl ⟨by decide +kernel, rfl⟩
