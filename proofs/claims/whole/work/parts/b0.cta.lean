/-! BUILDING: constructors -/
abbrev bRm (d mc ms : Nat) : Room := { frames := d, cells := mc, slots := ms, locals := 40 * d }
def bPre (Λ : zSd) (w : va_W) (sz : Nat) (U : State) : Prop := U.heap.size = sz ∧ (va_P Λ.2.2.1 Λ.2.2.2.1 w U.heap ∧ va_K Λ.2.2.1 Λ.2.2.2.1 (zTys Λ.2.1) U ∧ va_D (fun _ => True) w) ∧ Λ.2.2.2.2.2 (va_A w sz) U U.heap ∧ zExOk Λ.2.2.2.2.2
/-- what a constructor leaves: a world over the addresses that it found -/
def bB (Λ : zSd) (W1 : (Nat → Nat) → va_W) (A : Nat → Prop) : (Nat → Nat) → State → Prop := fun g t => va_P Λ.2.2.1 Λ.2.2.2.1 (W1 g) t.heap ∧ va_K Λ.2.2.1 Λ.2.2.2.1 (zTys Λ.2.1) t ∧ va_D A (W1 g)
abbrev bQ (Λ : zSd) (W1 : (Nat → Nat) → va_W) (A : Nat → Prop) : Array Value → State → Outcome → State → Prop := va_Qv (fun _ : Nat → Nat => True) (bB Λ W1 A) A
def bMet (l : Launch) (Λ : zSd) (y : MethodName) (cd : Cond) (d mc ms : Nat) (args : List Value) (w0 : va_W) (W1 : (Nat → Nat) → va_W) : Prop := ∀ sz : Nat, Met l y (cd :: Λ.2.2.2.2.1) (bRm d mc ms) (va_Pc args (bPre Λ w0 sz)) (bQ Λ W1 (va_A w0 sz)) mc ms (va_A w0 sz)
def bJ (κ : zKx) (Λ : zSd) (cc : ByteArray) (nL : Nat) (own : String) (d mc ms : Nat) (A : Nat → Prop) (W1 : (Nat → Nat) → va_W) (ws : va_W) (cells slots pc : Nat) (lv : List (Nat × Value)) (st : List Value) : Prop :=
  zKR κ = bRm d mc ms → zOk κ Λ cc nL own none → (zKt κ).name = "<init>" → zAx κ Λ A → ∀ (ls : Array Slot) (H : Heap) (locs : List Loc), lv_has ls nL lv → va_P Λ.2.2.1 Λ.2.2.2.1 ws H → va_D A ws → va_S A (zKs κ).heap H locs →
    zW κ H locs cells slots (MQ (zKb κ) (bQ Λ W1 A) (zKa κ) (zKs κ) mc ms A) (F0 (zKm κ) pc ls st)
theorem bMet.of {l : Launch} {Λ : zSd} {y : MethodName} {cc : ByteArray} {nL d mc ms : Nat} {args : List Value} {w0 : va_W} {W1 : (Nat → Nat) → va_W} (hy : plainName y.cls = true) (hy1 : y.name = "<init>") (hn : (lg_sl args).length ≤ nL)
    (h : ∀ (κ : zKx) (A : Nat → Prop), zKl κ = l → bJ κ Λ cc nL y.cls d mc ms A W1 w0 0 0 0 (lv_args 0 args) []) : bMet l Λ y (.code y cc nL none) d mc ms args w0 W1 := by
  intro sz
  refine Met.ofW (cc := cc) (maxL := nL) (ret := none) hy rfl ?_
  intro p e s m args1 below meth c s₁ B hml hv
  obtain ⟨rfl, hsz, ⟨hP, hK, hD0⟩, hE, hEo⟩ := hv
  subst hsz
  have hD := hD0.self (sz := s.heap.size)
  have hts := atoms_spec (ws := .code y cc nL none :: Λ.2.2.2.2.1) B.pre
  have hown : s.vm.findClass y.cls = some m.cls := findClass_of_methodNamed B.named
  have hin : meth.name = "<init>" := (name_of_methodNamed B.named B.method).1.trans hy1
  have hl := lv_entry args (n := nL) hn
  rw [lg_entry_eq]
  exact h (p, l, e, bRm d mc ms, s, m, args.toArray, below, meth, c) (va_A w0 s.heap.size) rfl rfl ⟨B.exec, B.bytes, hml, hown, fun w hw => hts w (List.mem_cons_of_mem _ hw), B.returns, B.notSynchronized, hK⟩ hin ⟨fun q hq => Or.inr hq, hE, hEo⟩ _ s.heap [] hl hP hD va_S.rf
section bRules
variable {κ : zKx} {Λ : zSd} {cc : ByteArray} {nL : Nat} {own : String} {d mc ms : Nat} {A : Nat → Prop} {W1 : (Nat → Nat) → va_W} {ws : va_W} {cells slots pc pc' : Nat} {lv : List (Nat × Value)} {st : List Value}
theorem b_step {st' : List Value} (f : zOk κ Λ cc nL own none → ∀ (ls : Array Slot) (H : Heap) (locs : List Loc) (cells slots : Nat) (Q : State → Prop), lv_has ls nL lv → zW κ H locs cells slots Q (F0 (zKm κ) pc' ls st') → zW κ H locs cells slots Q (F0 (zKm κ) pc ls st)) (k : bJ κ Λ cc nL own d mc ms A W1 ws cells slots pc' lv st') : bJ κ Λ cc nL own d mc ms A W1 ws cells slots pc lv st :=
  fun h1 h2 h3 h4 ls H locs hl hP hD hS => f h2 ls H locs _ _ _ hl (k h1 h2 h3 h4 ls H locs hl hP hD hS)
theorem b_iconst {n : Int} {v : Int32} (hv : Int32.ofInt n = v) (hd : zD cc pc pc' (.iconst n) 1) (k : bJ κ Λ cc nL own d mc ms A W1 ws cells slots pc' lv (.int v :: st)) : bJ κ Λ cc nL own d mc ms A W1 ws cells slots pc lv st := by
  obtain ⟨hd, rfl⟩ := hd
  exact b_step (fun o ls H locs _ _ _ hl k => lv_iconst o.1 o.2.1 hd hv k) k
theorem b_bipush {n : Int} {v : Int32} (hv : (Int8.ofInt n).toInt32 = v) (hd : zD cc pc pc' (.bipush n) 2) (k : bJ κ Λ cc nL own d mc ms A W1 ws cells slots pc' lv (.int v :: st)) : bJ κ Λ cc nL own d mc ms A W1 ws cells slots pc lv st := by
  obtain ⟨hd, rfl⟩ := hd
  exact b_step (fun o ls H locs _ _ _ hl k => lv_bipush o.1 o.2.1 hd hv k) k
theorem b_sipush {n : Int} {v : Int32} (hv : (Int16.ofInt n).toInt32 = v) (hd : zD cc pc pc' (.sipush n) 3) (k : bJ κ Λ cc nL own d mc ms A W1 ws cells slots pc' lv (.int v :: st)) : bJ κ Λ cc nL own d mc ms A W1 ws cells slots pc lv st := by
  obtain ⟨hd, rfl⟩ := hd
  exact b_step (fun o ls H locs _ _ _ hl k => lv_sipush o.1 o.2.1 hd hv k) k
theorem b_iload_n {k : Fin 4} {i : Nat} {x : Int32} (q : Nat) (hi : (k : Nat) = i) (hq : lv[q]? = some (i, .int x)) (hd : zD cc pc pc' (.iload_n k) 1) (k : bJ κ Λ cc nL own d mc ms A W1 ws cells slots pc' lv (.int x :: st)) : bJ κ Λ cc nL own d mc ms A W1 ws cells slots pc lv st := by
  obtain ⟨hd, rfl⟩ := hd
  exact b_step (fun o ls H locs _ _ _ hl k => lv_iload_n o.1 o.2.1 hd hi (lv_at hl q hq) k) k
theorem b_aload {k : Fin 4} {i : Nat} {x : Nat} (q : Nat) (hi : (k : Nat) = i) (hq : lv[q]? = some (i, .ref x)) (hd : zD cc pc pc' (.aload_n k) 1) (k : bJ κ Λ cc nL own d mc ms A W1 ws cells slots pc' lv (.ref x :: st)) : bJ κ Λ cc nL own d mc ms A W1 ws cells slots pc lv st := by
  obtain ⟨hd, rfl⟩ := hd
  exact b_step (fun o ls H locs _ _ _ hl k => lv_aload_n o.1 o.2.1 hd hi (lv_at hl q hq) k) k
theorem b_dup {va : Value} (ha : va.category = 1) (hd : zD cc pc pc' .dup 1) (k : bJ κ Λ cc nL own d mc ms A W1 ws cells slots pc' lv (va :: va :: st)) : bJ κ Λ cc nL own d mc ms A W1 ws cells slots pc lv (va :: st) := by
  obtain ⟨hd, rfl⟩ := hd
  exact b_step (fun o ls H locs _ _ _ hl k => lv_dup o.1 o.2.1 hd ha k) k
/-- Object() -/
theorem b_oinit {idx x : Nat} (hw : Cond.methodLink own idx Lib.objectInit ∈ Λ.2.2.2.2.1) (hw2 : Cond.instanceMethod Lib.objectInit ∈ Λ.2.2.2.2.1) (hw3 : Cond.code Lib.objectInit ⟨#[0xb1]⟩ 1 none ∈ Λ.2.2.2.2.1) (h1d : 1 ≤ d) (hd : zD cc pc pc' (.invokespecial idx) 3) (k : bJ κ Λ cc nL own d mc ms A W1 ws cells slots pc' lv []) : bJ κ Λ cc nL own d mc ms A W1 ws cells slots pc lv [.ref x] := by
  obtain ⟨hd, rfl⟩ := hd
  intro h1 h2 h3 h4 ls H locs hl hP hD hS
  refine W.objInit h2.1 h2.2.1 h2.2.2.2.1 (h2.2.2.2.2.1 _ hw) (h2.2.2.2.2.1 _ hw2) (h2.2.2.2.2.1 _ hw3) (rest := []) rfl (hl.1.trans h2.2.2.1.symm) rfl hd (by rw [h1]; exact h1d) (by rw [h1]; show 2 * 0 + 0 + 12 ≤ 40 * d; omega) ?_
  exact W.eq rfl (k h1 h2 h3 h4 ls H locs hl hP hD hS)
/-- a new row of n: its type is the t-th -/
theorem b_newa {atype : ArrayType} {ty : FieldType} {t : Nat} {n : Int32} {N : Nat} {a0 : vp_A} (hw : Cond.arrayClass (newarray.typeOf atype) ∈ Λ.2.2.2.2.1) (hty : newarray.typeOf atype = ty) (ht : ∃ i, i < 5 ∧ (zTys Λ.2.1)[i]? = some (Λ.2.1 t, ty)) (ha : ∀ cA : ClassId, vp_cell cA a0 = arrV cA N (fun _ => defaultValue ty)) (hn : ¬ n < 0) (hN : n.toNatClampNeg = N) (hby : N * componentBytes ty ≤ 536870912) (hc : cells + 1 ≤ mc) (hs : slots + N ≤ ms) (hpr : ty = .int ∨ ty = .byte ∨ ty = .short ∨ ty = .boolean ∨ ty = .long) (hd : zD cc pc pc' (.newarray atype) 2)
    (k : ∀ q : Nat, bJ κ Λ cc nL own d mc ms A W1 (ws ++ [(q, .inl (Λ.2.1 t, a0))]) (cells + 1) (slots + N) pc' lv (.ref q :: st)) : bJ κ Λ cc nL own d mc ms A W1 ws cells slots pc lv (.int n :: st) := by
  obtain ⟨hd, rfl⟩ := hd
  intro h1 h2 h3 h4 ls H locs hl hP hD hS
  refine va_newa h2.1 h2.2.1 (h2.2.2.2.2.1 _ hw) hty h2.2.2.2.2.2.2.2 hP hD hS h4.1 ha hn hN hby (by rw [h1]; exact hc) (by rw [h1]; exact hs) hd (fun q cA H1 hK1 hP hD hS => ?_)
  obtain ⟨i, hi, ht⟩ := ht
  have e2 := hK1.2 5 _ rfl
  have e1 := hK1.2 i (Λ.2.1 t, ty) (by rw [List.getElem?_append_left (by show i < 5; exact hi)]; exact ht)
  have ec : cA = Λ.2.1 t := by
    rcases hpr with rfl | rfl | rfl | rfl | rfl <;> exact Option.some.inj (e2.2.symm.trans e1.2)
  subst ec
  exact k q h1 h2 h3 h4 ls H1 locs hl hP hD hS
/-- a field of the object that is built -/
def bFl (Λ : zSd) (own : String) (idx ci N j : Nat) (f : Bool) (ty : FieldType) : Prop := ∃ (C : String) (Tt : u_T) (tf : Nat → FieldType), Λ.2.2.2.1[ci]? = some (C, Tt, N) ∧ zCl Λ.2.2.2.2.1 C Tt N tf ∧ j < N ∧ Cond.fieldLink own idx (Tt j).1 (Tt j).2.1 (Tt j).2.2.1 ∈ Λ.2.2.2.2.1 ∧ (Tt j).2.2.2 = f ∧ tf j = ty ∧ (Tt j).1 = own
theorem b_put {idx ci N j x : Nat} {f : Bool} {ty : FieldType} {fs : List Value} {v : Value} (q0 : Nat) (hf : bFl Λ own idx ci N j f ty) (he : ws[q0]? = some (x, .inr (ci, fs))) (hl0 : fs.length = N) (hn : narrow ty v = v) (hfit : fits ty v = true) (hd : zD cc pc pc' (.putfield idx) 3)
    (k : bJ κ Λ cc nL own d mc ms A W1 (ws.set q0 (x, .inr (ci, fs.set j v))) cells slots pc' lv st) : bJ κ Λ cc nL own d mc ms A W1 ws cells slots pc lv (v :: .ref x :: st) := by
  obtain ⟨hd, rfl⟩ := hd
  obtain ⟨C, Tt, tf, g1, g2, g3, g4, g5, g6, g7⟩ := hf
  intro h1 h2 h3 h4 ls H locs hl hP hD hS
  cases f with
  | false => exact va_put h2.1 h2.2.1 h2.2.2.2.2.1 g2.1 tf g2.2.1 g2.2.2 h2.2.2.2.1 h2.2.2.2.2.2.2.2 hP hD hS q0 he g1 j g3 (h2.2.2.2.2.1 _ g4) (fun _ q => q) g5 (by rw [g2.2.1 _ g3, g6]) hn hfit (by rw [hl0]; exact g3) hd (fun H1 locs1 hP hD hS => k h1 h2 h3 h4 ls H1 locs1 hl hP hD hS)
  | true => exact va_putF h2.1 h2.2.1 h2.2.2.2.2.1 g2.1 tf g2.2.1 g2.2.2 h2.2.2.2.1 h2.2.2.2.2.2.2.2 hP hD hS q0 he g1 j g3 (h2.2.2.2.2.1 _ g4) (fun _ q => q) g5 h3 g7 (by rw [g2.2.1 _ g3, g6]) hn hfit (by rw [hl0]; exact g3) hd (fun H1 locs1 hP hD hS => k h1 h2 h3 h4 ls H1 locs1 hl hP hD hS)
/-- new -/
theorem b_new {idx ci N : Nat} {C : String} {Tt : u_T} {tf : Nat → FieldType} {fs : List Value} (hc : Λ.2.2.2.1[ci]? = some (C, Tt, N)) (hz : zCl Λ.2.2.2.2.1 C Tt N tf) (hw1 : Cond.classLink own idx C ∈ Λ.2.2.2.2.1) (hw2 : Cond.instantiable C N ∈ Λ.2.2.2.2.1) (hw3 : Cond.initialized C ∈ Λ.2.2.2.2.1) (hfs : ∀ j, j < N → defaultValue (tf j) = vp_V fs j) (hcc : cells + 1 ≤ mc) (hs : slots + N ≤ ms) (hd : zD cc pc pc' (.new idx) 3)
    (k : ∀ q : Nat, bJ κ Λ cc nL own d mc ms A W1 (ws ++ [(q, .inr (ci, fs))]) (cells + 1) (slots + N) pc' lv (.ref q :: st)) : bJ κ Λ cc nL own d mc ms A W1 ws cells slots pc lv st := by
  obtain ⟨hd, rfl⟩ := hd
  intro h1 h2 h3 h4 ls H locs hl hP hD hS
  exact va_new h2.1 h2.2.1 h2.2.2.2.2.1 hz.1 tf hz.2.1 h2.2.2.2.1 (h2.2.2.2.2.1 _ hw1) (h2.2.2.2.2.1 _ hw2) (h2.2.2.2.2.1 _ hw3) h2.2.2.2.2.2.2.2 hP hD hS h4.1 hc hfs (by rw [h1]; exact hcc) (by rw [h1]; exact hs) hd (fun q H1 hP hD hS => k q h1 h2 h3 h4 ls H1 locs hl hP hD hS)
theorem bblind {av : List Value} {sz : Nat} {w : va_W} : FrameBlind (va_Pc av (bPre Λ w sz)) := by
  intro a U g mk q
  obtain ⟨q0, q1, ⟨qP, qK, qD⟩, qE, qO⟩ := q
  exact ⟨q0, q1, ⟨qP, va_K.moved (u := U) (U := U.calling g mk a) (Vm.Alike.refl U.vm) qK, qD⟩, qO.2.1 _ U (U.calling g mk a) _ rfl qE, qO⟩
/-- a callee's start, of a part wc of the caller's world -/
theorem bpre {H : Heap} {locs : List Loc} {U : State} {wc : va_W} (hA : zAx κ Λ A) (hK : va_K Λ.2.2.1 Λ.2.2.2.1 (zTys Λ.2.1) (zKs κ)) (hP : va_P Λ.2.2.1 Λ.2.2.2.1 wc H) (hD : va_D A wc) (hS : va_S A (zKs κ).heap H locs) (hU : U.heap = H) (hW : (zKs κ).WarmedH U.vm) : bPre Λ wc H.size U := by
  refine ⟨by rw [hU], ⟨by rw [hU]; exact hP, va_K.moved hW.alike hK, hD.weaken (fun _ _ _ _ => trivial)⟩, ?_, hA.2.2⟩
  rw [hU]
  refine hA.2.2.1 _ _ _ _ hW (hA.2.2.2.2.2 A _ _ _ (fun q hq => ?_) (hA.2.2.2.2.1 _ _ _ _ (fun q q1 q2 => hS.2.1 q q1 q2) hA.2.1))
  rcases hq with ⟨i, e, hi⟩ | hq
  · exact hD.2 i _ hi
  · exact hA.1 q (Nat.le_trans hS.1 hq)
theorem bget_l {w1 w2 : va_W} {k : Nat} {q : Nat × va_E} (h : w1[k]? = some q) : (w1 ++ w2)[k]? = some q := by
  rw [List.getElem?_append_left (List.getElem?_eq_some_iff.mp h).1]; exact h
theorem bget_r {w1 w2 : va_W} {k : Nat} {q : Nat × va_E} (h : w2[k]? = some q) : (w1 ++ w2)[w1.length + k]? = some q := by
  rw [List.getElem?_append_right (by omega), show w1.length + k - w1.length = k by omega]; exact h
/-- behind a call on the last cells wc: what the callee made of them -/
theorem bjoin {wc w1 : va_W} {H H1 : Heap} {A0 : Nat → Prop} {D : va_G} {cl : List vw_C} (hP : va_P D cl (ws ++ wc) H) (hD : va_D A0 (ws ++ wc)) (hk : ∀ q : Nat, q < H.size → ¬ va_A wc H.size q → H1[q]? = H[q]?) (hF : ∀ q, va_A wc H.size q → A0 q) (hP1 : va_P D cl w1 H1) (hD1 : va_D (va_A wc H.size) w1) : va_P D cl (ws ++ w1) H1 ∧ va_D A0 (ws ++ w1) := by
  have apart : ∀ (k : Nat) (q : Nat × va_E), ws[k]? = some q → q.1 < H.size ∧ ¬ va_A wc H.size q.1 := by
    intro k q hq
    have hl := (hP k q (bget_l hq)).lt
    refine ⟨hl, fun h => ?_⟩
    rcases h with ⟨j, e, h⟩ | h
    · have := hD.1 k (ws.length + j) q (q.1, e) (bget_l hq) (bget_r h) rfl
      have := (List.getElem?_eq_some_iff.mp hq).1
      omega
    · omega
  refine ⟨va_P.app (fun k q hq => ?_) hP1, va_D.app ⟨fun i j p q hi hj e => hD.1 i j p q (bget_l hi) (bget_l hj) e, fun k q hq => hD.2 k q (bget_l hq)⟩ (hD1.weaken (fun k q _ h => hF q.1 h)) (fun i j x y hx hy hxy => ?_)⟩
  · obtain ⟨g1, g2⟩ := apart k q hq
    exact (hP k q (bget_l hq)).kept (hk q.1 g1 g2)
  · exact (apart i x hx).2 (by rw [hxy]; exact hD1.2 j y hy)
/-- a constructor is called on the cell made last -/
theorem b_ctor {y : MethodName} {bytes : ByteArray} {maxL d' mc' ms' idx n x : Nat} {e : va_E} {As : List Value} {st0 : List Value} {w1 : (Nat → Nat) → va_W} (hM : bMet (zKl κ) Λ y (.code y bytes maxL none) d' mc' ms' (.ref x :: As) [(x, e)] w1)
    (hG : GoodIn Λ.2.2.2.2.1 (.code y bytes maxL none :: Λ.2.2.2.2.1)) (hw1 : Cond.initialized y.cls ∈ Λ.2.2.2.2.1) (hw2 : Cond.methodLink own idx y ∈ Λ.2.2.2.2.1) (hw3 : Cond.instanceMethod y ∈ Λ.2.2.2.2.1) (hy1 : y.name = "<init>")
    (hyd : y.cls ≠ "java/lang/invoke/MethodHandle" ∧ y.cls ≠ "java/lang/invoke/VarHandle" ∧ (parseMethodDescriptor y.desc).map (fun d => d.parameters.length) = some n) (hdd : d' + 1 ≤ d) (hm : maxL ≤ 21) (hn : As.length = n) (hst : st0 = As.reverse ++ .ref x :: st) (hW : (st.map fun v => v.category).sum ≤ 8) (hc : cells + mc' ≤ mc) (hs : slots + ms' ≤ ms) (hd : zD cc pc pc' (.invokespecial idx) 3)
    (k : ∀ g : Nat → Nat, bJ κ Λ cc nL own d mc ms A W1 (ws ++ w1 g) (cells + mc') (slots + ms') pc' lv st) : bJ κ Λ cc nL own d mc ms A W1 (ws ++ [(x, e)]) cells slots pc lv st0 := by
  obtain ⟨hd, rfl⟩ := hd
  intro h1 h2 h3 h4 ls H locs hl hP hD hS
  have hPc : va_P Λ.2.2.1 Λ.2.2.2.1 [(x, e)] H := fun k q hq => hP (ws.length + k) q (bget_r hq)
  have hDc : va_D A [(x, e)] := ⟨fun i j p q hi hj he => by have := hD.1 (ws.length + i) (ws.length + j) p q (bget_r hi) (bget_r hj) he; omega, fun k q hq => hD.2 (ws.length + k) q (bget_r hq)⟩
  have hF : ∀ q, va_A [(x, e)] H.size q → A q := by
    intro q hq
    rcases hq with ⟨i, e, hi⟩ | hq
    · exact hDc.2 i _ hi
    · exact h4.1 q (Nat.le_trans hS.1 hq)
  refine va_callv (va_runI (As := As) (rest := st) ⟨h2.1, h2.2.1, h2.2.2.1, h2.2.2.2.1, h2.2.2.2.2.1⟩ (hM H.size) (cwI n h2.2.2.2.2.1 hG rfl rfl rfl (h2.2.2.2.2.1 _ hw1) (h2.2.2.2.2.1 _ hw2) (h2.2.2.2.2.1 _ hw3) hy1 hyd ⟨by rw [h1]; exact hdd, by rw [h1]; show 8 + (maxL + 11) + 40 * d' ≤ 40 * d; omega⟩) ⟨bblind, fun U hU hW => ⟨rfl, bpre h4 h2.2.2.2.2.2.2.2 hPc hDc hS hU hW⟩⟩ rfl hn hl.1 hst (lv_room hW) hd ⟨by rw [h1]; exact hc, by rw [h1]; exact hs⟩) hS (fun q _ h => hF q h) hF (fun g t H1 locs ht hvm _ hB hz1 hk1 hS => ?_)
  obtain ⟨hP1, hK1, hD1⟩ := hB
  rw [ht] at hP1
  obtain ⟨hP, hD⟩ := bjoin hP hD hk1 hF hP1 hD1
  exact k g h1 h2 h3 h4 ls H1 locs hl hP hD hS
/-- the same, of a nest mate -/
theorem b_ctorN {y : MethodName} {bytes : ByteArray} {maxL d' mc' ms' idx n x : Nat} {e : va_E} {As : List Value} {st0 : List Value} {w1 : (Nat → Nat) → va_W} (hM : bMet (zKl κ) Λ y (.code y bytes maxL none) d' mc' ms' (.ref x :: As) [(x, e)] w1)
    (hG : GoodIn Λ.2.2.2.2.1 (.code y bytes maxL none :: Λ.2.2.2.2.1)) (hw1 : Cond.initialized y.cls ∈ Λ.2.2.2.2.1) {host : String} (hN : ∀ (A : Nat → Prop) (U : State) (H : Heap), Λ.2.2.2.2.2 A U H → va_Nw (.methodLinkNest own idx y host) U) (hw3 : Cond.instanceMethod y ∈ Λ.2.2.2.2.1) (hy1 : y.name = "<init>")
    (hyd : y.cls ≠ "java/lang/invoke/MethodHandle" ∧ y.cls ≠ "java/lang/invoke/VarHandle" ∧ (parseMethodDescriptor y.desc).map (fun d => d.parameters.length) = some n) (hdd : d' + 1 ≤ d) (hm : maxL ≤ 21) (hn : As.length = n) (hst : st0 = As.reverse ++ .ref x :: st) (hW : (st.map fun v => v.category).sum ≤ 8) (hc : cells + mc' ≤ mc) (hs : slots + ms' ≤ ms) (hd : zD cc pc pc' (.invokespecial idx) 3)
    (k : ∀ g : Nat → Nat, bJ κ Λ cc nL own d mc ms A W1 (ws ++ w1 g) (cells + mc') (slots + ms') pc' lv st) : bJ κ Λ cc nL own d mc ms A W1 (ws ++ [(x, e)]) cells slots pc lv st0 := by
  obtain ⟨hd, rfl⟩ := hd
  intro h1 h2 h3 h4 ls H locs hl hP hD hS
  have hPc : va_P Λ.2.2.1 Λ.2.2.2.1 [(x, e)] H := fun k q hq => hP (ws.length + k) q (bget_r hq)
  have hDc : va_D A [(x, e)] := ⟨fun i j p q hi hj he => by have := hD.1 (ws.length + i) (ws.length + j) p q (bget_r hi) (bget_r hj) he; omega, fun k q hq => hD.2 (ws.length + k) q (bget_r hq)⟩
  have hF : ∀ q, va_A [(x, e)] H.size q → A q := by
    intro q hq
    rcases hq with ⟨i, e, hi⟩ | hq
    · exact hDc.2 i _ hi
    · exact h4.1 q (Nat.le_trans hS.1 hq)
  refine va_callv (va_runIN (host := host) (As := As) (rest := st) ⟨h2.1, h2.2.1, h2.2.2.1, h2.2.2.2.1, h2.2.2.2.2.1⟩ (hM H.size) ⟨va_cnB n h2.2.2.2.2.1 hG rfl rfl rfl (hN _ _ _ h4.2.1) (h2.2.2.2.2.1 _ hw1) hyd ⟨by rw [h1]; exact hdd, by rw [h1]; show 8 + (maxL + 11) + 40 * d' ≤ 40 * d; omega⟩, hy1, h2.2.2.2.2.1 _ hw3⟩ ⟨bblind, fun U hU hW => ⟨rfl, bpre h4 h2.2.2.2.2.2.2.2 hPc hDc hS hU hW⟩⟩ rfl hn hl.1 hst (lv_room hW) hd ⟨by rw [h1]; exact hc, by rw [h1]; exact hs⟩) hS (fun q _ h => hF q h) hF (fun g t H1 locs ht hvm _ hB hz1 hk1 hS => ?_)
  obtain ⟨hP1, hK1, hD1⟩ := hB
  rw [ht] at hP1
  obtain ⟨hP, hD⟩ := bjoin hP hD hk1 hF hP1 hD1
  exact k g h1 h2 h3 h4 ls H1 locs hl hP hD hS
/-- the end -/
theorem b_ret (g : Nat → Nat) (is : List Nat) (hn : va_nd is = true) (hs : is.map (fun i => ws[i]?) = (W1 g).map some) (hc : cells = mc) (hs2 : slots = ms) (hd : zD cc pc pc' .return_ 1) : bJ κ Λ cc nL own d mc ms A W1 ws cells slots pc lv [] := by
  obtain ⟨hd, -⟩ := hd
  subst hc; subst hs2
  intro h1 h2 h3 h4 ls H locs hl hP hD hS
  have hD9 := hD.sub is hn hs
  have hP9 : va_P Λ.2.2.1 Λ.2.2.2.1 (W1 g) H := by
    intro k q hq
    have h1 : (is.map (fun i => ws[i]?))[k]? = some (some q) := by rw [hs, List.getElem?_map, hq]; rfl
    rw [List.getElem?_map] at h1
    cases hi : is[k]? with
    | none => rw [hi] at h1; cases h1
    | some i => rw [hi] at h1; exact hP i q (Option.some.inj h1)
  exact W.vret h2.1 h2.2.1 h2.2.2.2.2.2.1 (fun t ht hW => ⟨⟨g, rfl, trivial, by rw [ht]; exact hP9, va_K.moved hW.alike h2.2.2.2.2.2.2.2, hD9⟩, hS.F ht⟩) hS.2.2 hd h2.2.2.2.2.2.2.1
end bRules
