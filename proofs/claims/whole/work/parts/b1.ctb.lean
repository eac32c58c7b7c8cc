/-! CONSTRUCTORS of the class: words (printed by wip/gen/ctor.py) -/
def ceY_E_init : MethodName := ⟨ce_RE, "<init>", "()V"⟩
def ceY_C_init : MethodName := ⟨ce_RC, "<init>", "()V"⟩
def ceY_X_init : MethodName := ⟨ce_RX, "<init>", "()V"⟩
def ceY_P_init : MethodName := ⟨ce_RP, "<init>", "()V"⟩
def ceY_M_init : MethodName := ⟨ce_RM, "<init>", "()V"⟩
def ceY_H_init : MethodName := ⟨ce_RH, "<init>", "()V"⟩
def ceY_S_init : MethodName := ⟨ce_RS, "<init>", "()V"⟩
def ceY_R_init : MethodName := ⟨ce_RR, "<init>", "()V"⟩
def ceY_T_init : MethodName := ⟨ce_RT, "<init>", "()V"⟩
def ceY_F_init : MethodName := ⟨ce_RF, "<init>", "()V"⟩
def ceY_V_init : MethodName := ⟨ce_RV, "<init>", "(II)V"⟩
def ksY_charAt : MethodName := ⟨"java/lang/String", "charAt", "(I)C"⟩
def ksY_charAtB : MethodName := ⟨"java/lang/StringLatin1", "charAt", "([BI)C"⟩
def ksY_checkS : MethodName := ⟨"java/lang/String", "checkIndex", "(II)V"⟩
def ksY_checkP : MethodName := ⟨"jdk/internal/util/Preconditions", "checkIndex", "(IILjava/util/function/BiFunction;)I"⟩
def ksY_packed : MethodName := ⟨ce_RX, "packed", "(Ljava/lang/String;)J"⟩
def cek0 : List Cond := [Cond.methodLink ce_RV 3 Lib.objectInit, Cond.instanceMethod Lib.objectInit, Cond.code Lib.objectInit ⟨#[0xb1]⟩ 1 none, Cond.methodLink ce_RV 9 Lib.Math.max.name, Cond.static Lib.Math.max.name, Cond.initialized "java/lang/Math", Cond.code Lib.Math.max.name Lib.Math.max.code 2 (some .int), Cond.fieldLink ce_RV 15 "ShapeEngine$Values" "most" "I", Cond.arrayClass .byte, Cond.fieldLink ce_RV 21 "ShapeEngine$Values" "sorts" "[B", Cond.arrayClass .long, Cond.fieldLink ce_RV 25 "ShapeEngine$Values" "numbers" "[J", Cond.methodLink ce_RS 3 Lib.objectInit, Cond.arrayClass .int, Cond.fieldLink ce_RS 9 "ShapeEngine$Shapes" "roots" "[I", Cond.fieldLink ce_RS 15 "ShapeEngine$Shapes" "parents" "[I", Cond.fieldLink ce_RS 18 "ShapeEngine$Shapes" "lengths" "[I", Cond.fieldLink ce_RS 21 "ShapeEngine$Shapes" "shorter" "[I", Cond.fieldLink ce_RS 24 "ShapeEngine$Shapes" "longer" "[I", Cond.fieldLink ce_RS 27 "ShapeEngine$Shapes" "names" "[J", Cond.fieldLink ce_RS 31 "ShapeEngine$Shapes" "firstLonger" "[I", Cond.fieldLink ce_RS 34 "ShapeEngine$Shapes" "nextSibling" "[I", Cond.methodLink ce_RT 3 Lib.objectInit, Cond.fieldLink ce_RT 9 "ShapeEngine$Sites" "ran" "[I", Cond.fieldLink ce_RT 15 "ShapeEngine$Sites" "hits" "[I", Cond.fieldLink ce_RT 18 "ShapeEngine$Sites" "sizes" "[I", Cond.fieldLink ce_RT 21 "ShapeEngine$Sites" "many" "[I", Cond.fieldLink ce_RT 24 "ShapeEngine$Sites" "gave" "[I", Cond.fieldLink ce_RT 27 "ShapeEngine$Sites" "entries" "[I", Cond.fieldLink ce_RT 30 "ShapeEngine$Sites" "wayEnds" "[I", Cond.fieldLink ce_RT 33 "ShapeEngine$Sites" "guesses" "[I", Cond.fieldLink ce_RT 36 "ShapeEngine$Sites" "guessSizes" "[I", Cond.methodLink ce_RF 3 Lib.objectInit, Cond.fieldLink ce_RF 9 "ShapeEngine$Functions" "calls" "[I", Cond.fieldLink ce_RF 15 "ShapeEngine$Functions" "counts" "[I", Cond.fieldLink ce_RF 18 "ShapeEngine$Functions" "made" "[I", Cond.fieldLink ce_RF 21 "ShapeEngine$Functions" "mades" "[I", Cond.fieldLink ce_RF 24 "ShapeEngine$Functions" "lefts" "[I", Cond.fieldLink ce_RF 27 "ShapeEngine$Functions" "leftAt" "[I", Cond.methodLink ce_RP 3 Lib.objectInit]
def cek1 : List Cond := [Cond.fieldLink ce_RP 11 "ShapeEngine$Program" "ops" "[B", Cond.fieldLink ce_RP 15 "ShapeEngine$Program" "args" "[I", Cond.arrayClass .short, Cond.fieldLink ce_RP 19 "ShapeEngine$Program" "places" "[S", Cond.fieldLink ce_RP 23 "ShapeEngine$Program" "siteKinds" "[I", Cond.fieldLink ce_RP 26 "ShapeEngine$Program" "sitePlaces" "[I", Cond.fieldLink ce_RP 29 "ShapeEngine$Program" "siteFns" "[I", Cond.fieldLink ce_RP 32 "ShapeEngine$Program" "siteNames" "[J", Cond.fieldLink ce_RP 36 "ShapeEngine$Program" "fnNames" "[J", Cond.fieldLink ce_RP 39 "ShapeEngine$Program" "fnStarts" "[I", Cond.fieldLink ce_RP 42 "ShapeEngine$Program" "fnTakes" "[I", Cond.methodLink ce_RR 3 Lib.objectInit, Cond.fieldLink ce_RR 9 "ShapeEngine$Rows" "kinds" "[I", Cond.fieldLink ce_RR 15 "ShapeEngine$Rows" "sizes" "[I", Cond.fieldLink ce_RR 18 "ShapeEngine$Rows" "starts" "[I", Cond.classLink ce_RR 21 ce_RV, Cond.instantiable ce_RV 3, Cond.initialized ce_RV, Cond.methodLink ce_RR 23 ceY_V_init, Cond.instanceMethod ceY_V_init, Cond.code ceY_V_init prog_11_method_1_code 3 none, Cond.fieldLink ce_RR 26 "ShapeEngine$Rows" "items" "LShapeEngine$Values;", Cond.methodLink ce_RH 3 Lib.objectInit, Cond.classLink ce_RH 9 ce_RS, Cond.instantiable ce_RS 9, Cond.initialized ce_RS, Cond.methodLink ce_RH 11 ceY_S_init, Cond.instanceMethod ceY_S_init, Cond.code ceY_S_init prog_9_method_1_code 1 none, Cond.fieldLink ce_RH 12 "ShapeEngine$Heap" "shapes" "LShapeEngine$Shapes;", Cond.fieldLink ce_RH 18 "ShapeEngine$Heap" "forms" "[I", Cond.fieldLink ce_RH 22 "ShapeEngine$Heap" "parents" "[I", Cond.fieldLink ce_RH 25 "ShapeEngine$Heap" "sizes" "[I", Cond.fieldLink ce_RH 28 "ShapeEngine$Heap" "firsts" "[I", Cond.fieldLink ce_RH 31 "ShapeEngine$Heap" "lasts" "[I", Cond.fieldLink ce_RH 34 "ShapeEngine$Heap" "lines" "[J", Cond.fieldLink ce_RH 38 "ShapeEngine$Heap" "names" "[J", Cond.fieldLink ce_RH 41 "ShapeEngine$Heap" "nexts" "[I", Cond.classLink ce_RH 44 ce_RV, Cond.methodLink ce_RH 46 ceY_V_init]
def cek2 : List Cond := [Cond.fieldLink ce_RH 49 "ShapeEngine$Heap" "values" "LShapeEngine$Values;", Cond.methodLink ce_RM 3 Lib.objectInit, Cond.classLink ce_RM 9 ce_RH, Cond.instantiable ce_RH 14, Cond.initialized ce_RH, Cond.methodLink ce_RM 11 ceY_H_init, Cond.instanceMethod ceY_H_init, Cond.code ceY_H_init prog_4_method_1_code 1 none, Cond.fieldLink ce_RM 12 "ShapeEngine$Machine" "heap" "LShapeEngine$Heap;", Cond.classLink ce_RM 18 ce_RR, Cond.instantiable ce_RR 7, Cond.initialized ce_RR, Cond.methodLink ce_RM 20 ceY_R_init, Cond.instanceMethod ceY_R_init, Cond.code ceY_R_init prog_8_method_1_code 1 none, Cond.fieldLink ce_RM 21 "ShapeEngine$Machine" "rows" "LShapeEngine$Rows;", Cond.classLink ce_RM 25 ce_RT, Cond.instantiable ce_RT 12, Cond.initialized ce_RT, Cond.methodLink ce_RM 27 ceY_T_init, Cond.instanceMethod ceY_T_init, Cond.code ceY_T_init prog_10_method_1_code 1 none, Cond.fieldLink ce_RM 28 "ShapeEngine$Machine" "sites" "LShapeEngine$Sites;", Cond.classLink ce_RM 32 ce_RF, Cond.instantiable ce_RF 8, Cond.initialized ce_RF, Cond.methodLink ce_RM 34 ceY_F_init, Cond.instanceMethod ceY_F_init, Cond.code ceY_F_init prog_3_method_1_code 1 none, Cond.fieldLink ce_RM 35 "ShapeEngine$Machine" "functions" "LShapeEngine$Functions;", Cond.classLink ce_RM 39 ce_RV, Cond.methodLink ce_RM 41 ceY_V_init, Cond.fieldLink ce_RM 44 "ShapeEngine$Machine" "sheet" "LShapeEngine$Values;", Cond.fieldLink ce_RM 48 "ShapeEngine$Machine" "stack" "LShapeEngine$Values;", Cond.fieldLink ce_RM 51 "ShapeEngine$Machine" "variables" "LShapeEngine$Values;", Cond.fieldLink ce_RM 54 "ShapeEngine$Machine" "returns" "[I", Cond.methodLink "java/lang/String" 1059 ksY_checkP, Cond.static ksY_checkP, Cond.initialized "jdk/internal/util/Preconditions", Cond.code ksY_checkP prog_22_method_11_code 3 (some .int)]
def cek3 : List Cond := [Cond.methodLink "java/lang/StringLatin1" 9 ksY_checkS, Cond.static ksY_checkS, Cond.initialized "java/lang/String", Cond.code ksY_checkS prog_17_method_155_code 2 none, Cond.methodLink "java/lang/String" 495 ksY_charAtB, Cond.static ksY_charAtB, Cond.initialized "java/lang/StringLatin1", Cond.code ksY_charAtB prog_18_method_2_code 2 (some .char), Cond.methodLink ce_RX 114 ksY_charAt, Cond.instanceMethod ksY_charAt, Cond.selects "java/lang/String" ksY_charAt ksY_charAt, Cond.code ksY_charAt prog_17_method_56_code 2 (some .char), Cond.methodLink "java/lang/String" 335 jsY_coder, Cond.instanceMethod jsY_coder, Cond.selects "java/lang/String" jsY_coder jsY_coder, Cond.code jsY_coder prog_17_method_152_code 1 (some .byte), Cond.methodLink "java/lang/String" 492 jsY_isLatin1, Cond.instanceMethod jsY_isLatin1, Cond.selects "java/lang/String" jsY_isLatin1 jsY_isLatin1, Cond.code jsY_isLatin1 prog_17_method_154_code 1 (some .boolean), Cond.methodLink ce_RX 110 jsY_length, Cond.instanceMethod jsY_length, Cond.selects "java/lang/String" jsY_length jsY_length, Cond.code jsY_length prog_17_method_54_code 1 (some .int), Cond.fieldLink "java/lang/String" 1053 "jdk/internal/util/Preconditions" "SIOOBE_FORMATTER" "Ljava/util/function/BiFunction;", Cond.fieldLink "java/lang/String" 9 "java/lang/String" "value" "[B", Cond.methodLink ce_RX 11 ksY_packed, Cond.static ksY_packed, Cond.initialized ce_RX, Cond.code ksY_packed prog_5_method_12_code 4 (some .long), Cond.code ceY_P_init prog_7_method_1_code 1 none, Cond.code ceY_M_init prog_6_method_1_code 1 none, Cond.code ceY_C_init prog_2_method_1_code 1 none, Cond.code ceY_X_init prog_5_method_1_code 1 none]
def ce_gk : List Cond := cek0 ++ (cek1 ++ (cek2 ++ (cek3 ++ (ce_gl))))
theorem cek_w0 {w : Cond} (i : Nat) (h : cek0[i]? = some w) : w ∈ ce_gk := List.mem_append_left _ (List.mem_of_getElem? h)
theorem cek_w1 {w : Cond} (i : Nat) (h : cek1[i]? = some w) : w ∈ ce_gk := List.mem_append_right _ (List.mem_append_left _ (List.mem_of_getElem? h))
theorem cek_w2 {w : Cond} (i : Nat) (h : cek2[i]? = some w) : w ∈ ce_gk := List.mem_append_right _ (List.mem_append_right _ (List.mem_append_left _ (List.mem_of_getElem? h)))
theorem cek_w3 {w : Cond} (i : Nat) (h : cek3[i]? = some w) : w ∈ ce_gk := List.mem_append_right _ (List.mem_append_right _ (List.mem_append_right _ (List.mem_append_left _ (List.mem_of_getElem? h))))
theorem cek_up {w : Cond} (h : w ∈ ce_gl) : w ∈ ce_gk := List.mem_append_right _ (List.mem_append_right _ (List.mem_append_right _ (List.mem_append_right _ (h))))
set_option maxRecDepth 100000 in
theorem cek_good : ((cek0 ++ cek1 ++ cek2 ++ cek3).all goodWord) = true := by decide +kernel
theorem cek_goodIn : GoodIn ce_gk ce_gk := by
  intro c hc
  refine ⟨hc, ?_⟩
  have e : ce_gk = (cek0 ++ cek1 ++ cek2 ++ cek3) ++ ce_gl := by unfold ce_gk; simp only [List.append_assoc]
  rw [e] at hc
  rcases List.mem_append.mp hc with h | h
  · exact good_of_word (List.all_eq_true.mp cek_good c h)
  · exact (ce_goodIn c h).2
theorem cek_G {y : MethodName} {b : ByteArray} {n : Nat} (h : Cond.code y b n none ∈ ce_gk) : GoodIn ce_gk (.code y b n none :: ce_gk) := fun c hc => by
  rcases List.mem_cons.mp hc with rfl | hc
  · exact cek_goodIn _ h
  · exact cek_goodIn c hc
theorem zCl_up {C : String} {Tt : u_T} {N : Nat} {ty : Nat → FieldType} (h : zCl ce_gl C Tt N ty) : zCl ce_gk C Tt N ty := ⟨fun w hw => cek_up (h.1 w hw), h.2⟩
theorem cek_zE : zCl ce_gk ce_RE ce_TE 7 ce_tyE := zCl_up ce_zclE
theorem cek_zC : zCl ce_gk ce_RC ce_TC 13 ce_tyC := zCl_up ce_zclC
theorem cek_zX : zCl ce_gk ce_RX ce_TX 9 ce_tyX := zCl_up ce_zclX
theorem cek_zP : zCl ce_gk ce_RP ce_TP 16 ce_tyP := zCl_up ce_zclP
theorem cek_zM : zCl ce_gk ce_RM ce_TM 20 ce_tyM := zCl_up ce_zclM
theorem cek_zH : zCl ce_gk ce_RH ce_TH 14 ce_tyH := zCl_up ce_zclH
theorem cek_zS : zCl ce_gk ce_RS ce_TS 9 ce_tyS := zCl_up ce_zclS
theorem cek_zR : zCl ce_gk ce_RR ce_TR 7 ce_tyR := zCl_up ce_zclR
theorem cek_zT : zCl ce_gk ce_RT ce_TT 12 ce_tyT := zCl_up ce_zclT
theorem cek_zF : zCl ce_gk ce_RF ce_TF 8 ce_tyF := zCl_up ce_zclF
theorem cek_zV : zCl ce_gk ce_RV ce_TV 3 ce_tyV := zCl_up ce_zclV
theorem cek_gC : GoodIn ce_gk (.code ceY_C_init prog_2_method_1_code 1 none :: ce_gk) := cek_G (cek_w3 32 rfl)
theorem cek_gX : GoodIn ce_gk (.code ceY_X_init prog_5_method_1_code 1 none :: ce_gk) := cek_G (cek_w3 33 rfl)
theorem cek_gP : GoodIn ce_gk (.code ceY_P_init prog_7_method_1_code 1 none :: ce_gk) := cek_G (cek_w3 30 rfl)
theorem cek_gM : GoodIn ce_gk (.code ceY_M_init prog_6_method_1_code 1 none :: ce_gk) := cek_G (cek_w3 31 rfl)
theorem cek_gH : GoodIn ce_gk (.code ceY_H_init prog_4_method_1_code 1 none :: ce_gk) := cek_G (cek_w2 7 rfl)
theorem cek_gS : GoodIn ce_gk (.code ceY_S_init prog_9_method_1_code 1 none :: ce_gk) := cek_G (cek_w1 28 rfl)
theorem cek_gR : GoodIn ce_gk (.code ceY_R_init prog_8_method_1_code 1 none :: ce_gk) := cek_G (cek_w2 14 rfl)
theorem cek_gT : GoodIn ce_gk (.code ceY_T_init prog_10_method_1_code 1 none :: ce_gk) := cek_G (cek_w2 21 rfl)
theorem cek_gF : GoodIn ce_gk (.code ceY_F_init prog_3_method_1_code 1 none :: ce_gk) := cek_G (cek_w2 28 rfl)
theorem cek_gV : GoodIn ce_gk (.code ceY_V_init prog_11_method_1_code 3 none :: ce_gk) := cek_G (cek_w1 20 rfl)
def zCk (ca : Nat → ClassId) (D : va_G) : zSd := (ce_tb, ca, D, ce_cl, ce_gk, zStr D)
def bGs (l : List Nat) (k : Nat) : Nat := (l[k - 1]?).getD 0
theorem b_end {κ : zKx} {Λ : zSd} {cc : ByteArray} {nL : Nat} {own : String} {d mc ms : Nat} {A : Nat → Prop} {W1 : (Nat → Nat) → va_W} {ws : va_W} {cells slots pc pc' : Nat} {lv : List (Nat × Value)} (g : Nat → Nat) (hs : ws = W1 g) (hc : cells = mc) (hs2 : slots = ms) (hd : zD cc pc pc' .return_ 1) : bJ κ Λ cc nL own d mc ms A W1 ws cells slots pc lv [] := by
  obtain ⟨hd, -⟩ := hd
  subst hc; subst hs2; subst hs
  intro h1 h2 h3 h4 ls H locs hl hP hD hS
  exact W.vret h2.1 h2.2.1 h2.2.2.2.2.2.1 (fun t ht hW => ⟨⟨g, rfl, trivial, by rw [ht]; exact hP, va_K.moved hW.alike h2.2.2.2.2.2.2.2, hD⟩, hS.F ht⟩) hS.2.2 hd h2.2.2.2.2.2.2.1
theorem b_max {κ : zKx} {Λ : zSd} {cc : ByteArray} {nL : Nat} {own : String} {d mc ms : Nat} {A : Nat → Prop} {W1 : (Nat → Nat) → va_W} {ws : va_W} {cells slots pc pc' : Nat} {lv : List (Nat × Value)} {st : List Value} {idx : Nat} {x y : Int32} (h1 : Cond.methodLink own idx Lib.Math.max.name ∈ Λ.2.2.2.2.1) (h2 : Cond.static Lib.Math.max.name ∈ Λ.2.2.2.2.1) (h3 : Cond.initialized "java/lang/Math" ∈ Λ.2.2.2.2.1) (h4 : Cond.code Lib.Math.max.name Lib.Math.max.code 2 (some .int) ∈ Λ.2.2.2.2.1) (hd0 : 1 ≤ d) (hc : cells ≤ mc) (hs : slots ≤ ms) (hd : zD cc pc pc' (.invokestatic idx) 3) (hst : (st.map fun v => v.category).sum + 13 ≤ 40) (k : bJ κ Λ cc nL own d mc ms A W1 ws cells slots pc' lv (.int (if x < y then y else x) :: st)) : bJ κ Λ cc nL own d mc ms A W1 ws cells slots pc lv (.int y :: .int x :: st) := by
  obtain ⟨hd, rfl⟩ := hd
  intro q1 o q3 q4 ls H locs hl hP hD hS
  exact va_mmax o.1 o.2.1 (o.2.2.1.trans hl.1.symm) o.2.2.2.1 (o.2.2.2.2.1 _ h1) (o.2.2.2.2.1 _ h2) (o.2.2.2.2.1 _ h3) (o.2.2.2.2.1 _ h4) (by rw [q1]; exact hd0) (by rw [q1]; show _ ≤ 40 * d; omega) (by rw [q1]; exact hc) (by rw [q1]; exact hs) hd (k q1 o q3 q4 ls H locs hl hP hD hS)
