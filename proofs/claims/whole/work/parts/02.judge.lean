/-! THE JUDGEMENT: from this place of the method, with this picture, the machine comes to the method's end with what the model says -/
abbrev zKx : Type := Program × Launch × Env × Room × State × MethodId × Array Value × List Frame × Method × Code
abbrev zKl (κ : zKx) : Launch := κ.2.1
abbrev zKR (κ : zKx) : Room := κ.2.2.2.1
abbrev zKs (κ : zKx) : State := κ.2.2.2.2.1
abbrev zKm (κ : zKx) : MethodId := κ.2.2.2.2.2.1
abbrev zKa (κ : zKx) : Array Value := κ.2.2.2.2.2.2.1
abbrev zKb (κ : zKx) : List Frame := κ.2.2.2.2.2.2.2.1
abbrev zKt (κ : zKx) : Method := κ.2.2.2.2.2.2.2.2.1
abbrev zKc (κ : zKx) : Code := κ.2.2.2.2.2.2.2.2.2
abbrev zW (κ : zKx) (H : Heap) (locs : List Loc) (cells slots : Nat) (Q : State → Prop) (g : JFrame) : Prop := W κ.1 (zKl κ) κ.2.2.1 (zKR κ) (zKs κ) (zKm κ) (zKa κ) (zKb κ) (zKt κ) (zKc κ) H locs cells slots Q g
/-- a side: its tables, the array classes, the numbers of classes and slots, the classes, the words -/
abbrev zEx : Type := (Nat → Prop) → State → Heap → Prop
abbrev zSd : Type := zTb × (Nat → ClassId) × va_G × List vw_C × List Cond × zEx
/-- what else holds of the heap, outside the side's cells: it stays as the machine goes on -/
def zExOk (ex : zEx) : Prop := (∀ (A : Nat → Prop) (u U : State) (H : Heap), u.WarmedH U.vm → ex A u H → ex A U H) ∧ (∀ (A : Nat → Prop) (u U : State) (H : Heap), U.vm = u.vm → ex A u H → ex A U H) ∧ (∀ (A : Nat → Prop) (u : State) (H H1 : Heap), (∀ q : Nat, q < H.size → ¬ A q → H1[q]? = H[q]?) → ex A u H → ex A u H1) ∧ (∀ (A B : Nat → Prop) (u : State) (H : Heap), (∀ q, B q → A q) → ex A u H → ex B u H)
abbrev zTys (ca : Nat → ClassId) : List (ClassId × FieldType) := [(ca 1, .int), (ca 2, .byte), (ca 3, .short), (ca 4, .boolean), (ca 5, .long)]
def zOk (κ : zKx) (Λ : zSd) (cc : ByteArray) (nL : Nat) (own : String) (rt : Option FieldType) : Prop :=
  κ.1.tables.exec = Jvm.exec ∧ (zKc κ).code = cc ∧ (zKc κ).maxLocals = nL ∧ (zKs κ).vm.findClass own = some (zKm κ).cls ∧ (∀ w ∈ Λ.2.2.2.2.1, w.before (zKa κ) (zKs κ) = true) ∧ (zKt κ).sig.returnType = rt ∧ (zKt κ).locks = false ∧ va_K Λ.2.2.1 Λ.2.2.2.1 (zTys Λ.2.1) (zKs κ)
def zWd (Λ : zSd) (ad : Nat → Nat) (u : zMu) (A : Nat → Prop) (H0 H : Heap) (locs : List Loc) : Prop := va_P Λ.2.2.1 Λ.2.2.2.1 (zw Λ.1 Λ.2.1 ad u) H ∧ va_D A (zw Λ.1 Λ.2.1 ad u) ∧ va_S A H0 H locs
def zWo (Λ : zSd) (ad : Nat → Nat) (u : zMu) (A : Nat → Prop) (U : State) : Prop := va_P Λ.2.2.1 Λ.2.2.2.1 (zw Λ.1 Λ.2.1 ad u) U.heap ∧ va_K Λ.2.2.1 Λ.2.2.2.1 (zTys Λ.2.1) U ∧ va_D A (zw Λ.1 Λ.2.1 ad u)
def zAx (κ : zKx) (Λ : zSd) (A : Nat → Prop) : Prop := (∀ q : Nat, (zKs κ).heap.size ≤ q → A q) ∧ Λ.2.2.2.2.2 A (zKs κ) (zKs κ).heap ∧ zExOk Λ.2.2.2.2.2
/-- a method's start -/
def zPre (Λ : zSd) (ad : Nat → Nat) (u : zMu) (sz : Nat) (U : State) : Prop := U.heap.size = sz ∧ zWo Λ ad u (fun _ => True) U ∧ Λ.2.2.2.2.2 (va_A (zw Λ.1 Λ.2.1 ad u) sz) U U.heap ∧ zExOk Λ.2.2.2.2.2
def zrel (fr : Bool) (a b : Nat × Nat) : Prop := a.1 ≤ b.1 ∧ a.2 ≤ b.2 ∧ (fr = true → a = b)
theorem zrel_rf {fr : Bool} {a : Nat × Nat} : zrel fr a a := ⟨Nat.le_refl _, Nat.le_refl _, fun _ => rfl⟩
theorem zrel_tr {fr : Bool} {a b c : Nat × Nat} (h : zrel fr a b) (k : zrel fr b c) : zrel fr a c := ⟨Nat.le_trans h.1 k.1, Nat.le_trans h.2.1 k.2.1, fun q => (h.2.2 q).trans (k.2.2 q)⟩
theorem zrel_up {fr fr' : Bool} {a b : Nat × Nat} (h : zrel fr a b) (k : fr' = true → fr = true) : zrel fr' a b := ⟨h.1, h.2.1, fun q => h.2.2 (k q)⟩
def zroom (d : Nat) (a b : Nat × Nat) : Room := { frames := d, cells := b.1 - a.1, slots := b.2 - a.2, locals := 40 * d }
def zQ {ρ : Type} (Λ : zSd) (ret : ρ → Option Value) (fr : Bool) (A : Nat → Prop) (a g0 : Nat → Nat) (r : ρ) (u' : zMu) : Array Value → State → Outcome → State → Prop := fun _ st oc t =>
  oc = .returned (ret r) ∧ (∃ g' : Nat → Nat, (fr = true → g' = g0) ∧ zWo Λ (zad Λ.1 a g') u' A t) ∧ va_F A st t
def zJ {ρ : Type} (κ : zKx) (Λ : zSd) (cc : ByteArray) (nL : Nat) (own : String) (rt : Option FieldType) (ret : ρ → Option Value) (fr : Bool) (d : Nat) (A : Nat → Prop) (c0 : Nat × Nat) (a g0 g : Nat → Nat) (u : zMu) (pc : Nat) (lv : List (Nat × Value)) (st : List Value) (X : Option (ρ × zMu)) : Prop :=
  ∀ (r : ρ) (u' : zMu), X = some (r, u') → zrel fr (zc u) (zc u') ∧ (zKR κ = zroom d c0 (zc u') → zOk κ Λ cc nL own rt → zrel fr c0 (zc u) → (fr = true → g = g0) → zAx κ Λ A →
    ∀ (ls : Array Slot) (H : Heap) (locs : List Loc), lv_has ls nL lv → zWd Λ (zad Λ.1 a g) u A (zKs κ).heap H locs →
      zW κ H locs ((zc u).1 - c0.1) ((zc u).2 - c0.2) (MQ (zKb κ) (zQ Λ ret fr A a g0 r u') (zKa κ) (zKs κ) ((zc u').1 - c0.1) ((zc u').2 - c0.2) A) (F0 (zKm κ) pc ls st))
/-- a method's contract over the picture -/
def zMet {ρ : Type} (l : Launch) (Λ : zSd) (y : MethodName) (cd : Cond) (ret : ρ → Option Value) (fr : Bool) (d : Nat) (a g : Nat → Nat) (args : List Value) (u : zMu) (X : Option (ρ × zMu)) : Prop :=
  ∀ (r : ρ) (u' : zMu), X = some (r, u') → (zKx → zrel fr (zc u) (zc u')) ∧ ∀ sz : Nat, Met l y (cd :: Λ.2.2.2.2.1) (zroom d (zc u) (zc u')) (va_Pc args (zPre Λ (zad Λ.1 a g) u sz)) (zQ Λ ret fr (va_A (zw Λ.1 Λ.2.1 (zad Λ.1 a g) u) sz) a g r u') ((zc u').1 - (zc u).1) ((zc u').2 - (zc u).2) (va_A (zw Λ.1 Λ.2.1 (zad Λ.1 a g) u) sz)
abbrev zri : Int32 → Option Value := fun v => some (.int v)
abbrev zrl : Int64 → Option Value := fun v => some (.long v)
abbrev zrv : Unit → Option Value := fun _ => none
/-- where an instruction stands, and the next one; a branch and where it goes -/
def zD (cc : ByteArray) (pc pc' : Nat) (i : Instr) (n : Nat) : Prop := decode cc pc = .ok (i, n) ∧ pc' = pc + n
theorem zMet.of {ρ : Type} {l : Launch} {Λ : zSd} {y : MethodName} {cc : ByteArray} {nL : Nat} {rt : Option FieldType} {ret : ρ → Option Value} {fr : Bool} {d : Nat} {a g : Nat → Nat} {args : List Value} {u : zMu} {X : Option (ρ × zMu)} (hy : plainName y.cls = true) (hn : (lg_sl args).length ≤ nL)
    (h : ∀ (κ : zKx) (A : Nat → Prop), zKl κ = l → zJ κ Λ cc nL y.cls rt ret fr d A (zc u) a g g u 0 (lv_args 0 args) [] X) : zMet l Λ y (.code y cc nL rt) ret fr d a g args u X := by
  intro r u' hX
  refine ⟨fun κ => ?_, fun sz => ?_⟩
  · exact (h (κ.1, l, κ.2.2) (fun _ => True) rfl r u' hX).1
  · refine Met.ofW (cc := cc) (maxL := nL) (ret := rt) hy rfl ?_
    intro p e s m args1 below meth c s₁ B hml hv
    obtain ⟨rfl, hsz, ⟨hP, hK, hD0⟩, hE, hEo⟩ := hv
    subst hsz
    have hD := hD0.self (sz := s.heap.size)
    have hts := atoms_spec (ws := .code y cc nL rt :: Λ.2.2.2.2.1) B.pre
    have hown : s.vm.findClass y.cls = some m.cls := findClass_of_methodNamed B.named
    have hl := lv_entry args (n := nL) hn
    rw [lg_entry_eq]
    have k := (h (p, l, e, zroom d (zc u) (zc u'), s, m, args.toArray, below, meth, c) (va_A (zw Λ.1 Λ.2.1 (zad Λ.1 a g) u) s.heap.size) rfl r u' hX).2 rfl ⟨B.exec, B.bytes, hml, hown, fun w hw => hts w (List.mem_cons_of_mem _ hw), B.returns, B.notSynchronized, hK⟩ zrel_rf (fun _ => rfl) ⟨fun q hq => Or.inr hq, hE, hEo⟩ _ s.heap [] hl ⟨hP, hD, va_S.rf⟩
    rw [Nat.sub_self, Nat.sub_self] at k
    exact k
