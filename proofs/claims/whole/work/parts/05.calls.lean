/-! CALLS over the judgement -/
section zCalls
variable {ρ σ : Type} {κ : zKx} {Λ : zSd} {cc : ByteArray} {nL : Nat} {own : String} {rt : Option FieldType} {ret : ρ → Option Value} {fr : Bool} {d : Nat} {A : Nat → Prop} {c0 : Nat × Nat} {a g0 g : Nat → Nat} {u : zMu} {pc pc' : Nat} {lv : List (Nat × Value)} {st : List Value} {X : Option (ρ × zMu)}
variable {y : MethodName} {bytes : ByteArray} {maxL : Nat} {rt' : Option FieldType} {ret' : σ → Option Value} {fr' : Bool} {d' idx n : Nat} {As rest args1 : List Value} {F : Option (σ × zMu)} {K : σ → zMu → Option (ρ × zMu)}
theorem zblind {av : List Value} {sz : Nat} {ad : Nat → Nat} : FrameBlind (va_Pc av (zPre Λ ad u sz)) := by
  intro a U g mk q
  obtain ⟨q0, q1, ⟨qP, qK, qD⟩, qE, qO⟩ := q
  exact ⟨q0, q1, ⟨qP, va_K.moved (u := U) (U := U.calling g mk a) (Vm.Alike.refl U.vm) qK, qD⟩, qO.2.1 _ U (U.calling g mk a) _ rfl qE, qO⟩
/-- a callee's start, at the caller's heap -/
theorem zpre {H : Heap} {locs : List Loc} {U : State} (hA : zAx κ Λ A) (hK : va_K Λ.2.2.1 Λ.2.2.2.1 (zTys Λ.2.1) (zKs κ)) (hw : zWd Λ (zad Λ.1 a g) u A (zKs κ).heap H locs) (hU : U.heap = H) (hW : (zKs κ).WarmedH U.vm) : zPre Λ (zad Λ.1 a g) u H.size U := by
  refine ⟨by rw [hU], ⟨by rw [hU]; exact hw.1, va_K.moved hW.alike hK, hw.2.1.weaken (fun _ _ _ _ => trivial)⟩, ?_, hA.2.2⟩
  rw [hU]
  refine hA.2.2.1 _ _ _ _ hW (hA.2.2.2.2.2 A _ _ _ (fun q hq => ?_) (hA.2.2.2.2.1 _ _ _ _ (fun q q1 q2 => hw.2.2.2.1 q q1 q2) hA.2.1))
  rcases hq with ⟨i, e, hi⟩ | hq
  · exact hw.2.1.2 i _ hi
  · exact hA.1 q (Nat.le_trans hw.2.2.1 hq)
theorem z_call (hM : zMet (zKl κ) Λ y (.code y bytes maxL rt') ret' fr' d' a g args1 u F) (hfr : fr = true → fr' = true)
    (run : zOk κ Λ cc nL own rt → zAx κ Λ A → ∀ (r1 : σ) (u1 : zMu) (ls : Array Slot) (H : Heap) (locs : List Loc) (cells slots : Nat), lv_has ls nL lv → zWd Λ (zad Λ.1 a g) u A (zKs κ).heap H locs →
      Met (zKl κ) y (.code y bytes maxL rt' :: Λ.2.2.2.2.1) (zroom d' (zc u) (zc u1)) (va_Pc args1 (zPre Λ (zad Λ.1 a g) u H.size)) (zQ Λ ret' fr' (va_A (zw Λ.1 Λ.2.1 (zad Λ.1 a g) u) H.size) a g r1 u1) ((zc u1).1 - (zc u).1) ((zc u1).2 - (zc u).2) (va_A (zw Λ.1 Λ.2.1 (zad Λ.1 a g) u) H.size) →
      (cells + ((zc u1).1 - (zc u).1) ≤ (zKR κ).cells ∧ slots + ((zc u1).2 - (zc u).2) ≤ (zKR κ).slots) → (zKR κ).frames = d → (zKR κ).locals = 40 * d →
      va_Run κ.1 (zKl κ) κ.2.2.1 (zKR κ) (zKs κ) (zKm κ) (zKa κ) (zKb κ) (zKt κ) (zKc κ) H locs cells slots ((zc u1).1 - (zc u).1) ((zc u1).2 - (zc u).2) (F0 (zKm κ) pc ls st) rest (zQ Λ ret' fr' (va_A (zw Λ.1 Λ.2.1 (zad Λ.1 a g) u) H.size) a g r1 u1 args1.toArray) (va_A (zw Λ.1 Λ.2.1 (zad Λ.1 a g) u) H.size))
    (hp : pc' = pc + 3)
    (k : ∀ (r1 : σ) (u1 : zMu) (g1 : Nat → Nat), (fr' = true → g1 = g) → zJ κ Λ cc nL own rt ret fr d A c0 a g0 g1 u1 pc' lv ((ret' r1).toList ++ rest) (K r1 u1)) : zJ κ Λ cc nL own rt ret fr d A c0 a g0 g u pc lv st (zbd F K) := by
  intro r u' h
  obtain ⟨r1, u1, hF, hK⟩ := zbd_some h
  obtain ⟨m1, m2⟩ := hM r1 u1 hF
  have hz := m1 κ
  have hz2 := (k r1 u1 g (fun _ => rfl) r u' hK).1
  refine ⟨zrel_tr (zrel_up hz hfr) hz2, fun h1 o h3 h4 h5 ls H locs hl hw => ?_⟩
  have hc1 : (zc u).1 - c0.1 + ((zc u1).1 - (zc u).1) = (zc u1).1 - c0.1 := by have := hz.1; have := h3.1; omega
  have hc2 : (zc u).2 - c0.2 + ((zc u1).2 - (zc u).2) = (zc u1).2 - c0.2 := by have := hz.2.1; have := h3.2.1; omega
  have hr := run o h5 r1 u1 ls H locs ((zc u).1 - c0.1) ((zc u).2 - c0.2) hl hw (m2 H.size) (by
    rw [h1, hc1, hc2]
    exact ⟨Nat.sub_le_sub_right hz2.1 _, Nat.sub_le_sub_right hz2.2.1 _⟩) (by rw [h1]; rfl) (by rw [h1]; rfl)
  intro T hT S
  obtain ⟨v, st₀, t, T', L, e0, S', hL, e1, e2, ⟨hv, ⟨g', hg', hP1, hK1, hD1⟩, hz1, hk1⟩, go⟩ := hr T hT S
  cases hv
  rw [hc1, hc2] at S'
  rw [e0] at hz1 hk1
  have hAA : ∀ q, va_A (zw Λ.1 Λ.2.1 (zad Λ.1 a g) u) H.size q → A q := by
    intro q hq
    rcases hq with ⟨i, e, hi⟩ | hq
    · exact hw.2.1.2 i _ hi
    · exact h5.1 q (Nat.le_trans hw.2.2.1 hq)
  have kk := (k r1 u1 g' hg' r u' hK).2 h1 o (zrel_tr h3 (zrel_up hz hfr)) (fun q => (hg' (hfr q)).trans (h4 q)) h5 ls T'.heap (locs ++ L) hl ⟨by rw [e1]; exact hP1, hD1.weaken (fun i q _ hq => hAA q.1 hq), by
    refine ⟨Nat.le_trans hw.2.2.1 (by rw [e1]; exact hz1), fun q q1 q2 => ?_, fun q hq => ?_⟩
    · rw [e1, hk1 q (Nat.lt_of_lt_of_le q1 hw.2.2.1) (fun z => q2 (hAA q z))]
      exact hw.2.2.2.1 q q1 q2
    · rcases List.mem_append.mp hq with hq | hq
      · exact hw.2.2.2.2 q hq
      · exact hAA _ (hL q hq)⟩
  subst hp
  obtain ⟨t2, a1, b1⟩ := kk T' rfl S'
  exact ⟨t2, go t2 a1, b1⟩
/-- the words of a call -/
def zGV (Λ : zSd) (own : String) (idx : Nat) (C : String) (y : MethodName) (cd : Cond) (n maxL : Nat) : Prop := GoodIn Λ.2.2.2.2.1 (wsV own idx C y (cd :: Λ.2.2.2.2.1)) ∧ (y.cls = C ∧ y.cls ≠ "java/lang/invoke/MethodHandle" ∧ y.cls ≠ "java/lang/invoke/VarHandle" ∧ (parseMethodDescriptor y.desc).map (fun d => d.parameters.length) = some n) ∧ maxL ≤ 21
def zGS (Λ : zSd) (own : String) (idx : Nat) (y : MethodName) (cd : Cond) (n maxL : Nat) : Prop := GoodIn Λ.2.2.2.2.1 (wsS own idx y (cd :: Λ.2.2.2.2.1)) ∧ (y.cls = own ∧ y.cls ≠ "java/lang/invoke/MethodHandle" ∧ y.cls ≠ "java/lang/invoke/VarHandle" ∧ (parseMethodDescriptor y.desc).map (fun d => d.parameters.length) = some n) ∧ maxL ≤ 21
/-- a cell that is an object of class C -/
def zOb (Λ : zSd) (k : Nat) (C : String) : Prop := ∃ (Tt : u_T) (N ci : Nat), Λ.1.2.2.1 k = (0, ci, N) ∧ k < Λ.1.1 ∧ Λ.2.2.2.1[ci]? = some (C, Tt, N)
theorem zpreV {H : Heap} {locs : List Loc} {C : String} {k b : Nat} (hA : zAx κ Λ A) (hK : va_K Λ.2.2.1 Λ.2.2.2.1 (zTys Λ.2.1) (zKs κ)) (hw : zWd Λ (zad Λ.1 a g) u A (zKs κ).heap H locs) (ho : zOb Λ k C) (hb : zad Λ.1 a g k = b) : PreV (zKs κ) H C b (va_Pc (.ref b :: As) (zPre Λ (zad Λ.1 a g) u H.size)) As := by
  obtain ⟨Tt, N, ci, h1, h2, h3⟩ := ho
  subst hb
  exact ⟨zblind, va_recv hK hw.1 h3 (by rw [zw_get h2, zE_obj h1]), fun U hU hW => ⟨rfl, zpre hA hK hw hU hW⟩⟩
theorem z_callV {C : String} {b : Nat} (k0 : Nat) (hM : zMet (zKl κ) Λ y (.code y bytes maxL rt') ret' fr' d' a g (.ref b :: As) u F) (hG : zGV Λ own idx C y (.code y bytes maxL rt') n maxL) (ho : zOb Λ k0 C) (hb : zad Λ.1 a g k0 = b) (hfr : fr = true → fr' = true) (hdd : d' + 1 ≤ d) (hn : As.length = n) (hst : st = As.reverse ++ .ref b :: rest) (hW : (rest.map fun v => v.category).sum ≤ 8) (hd : zD cc pc pc' (.invokevirtual idx) 3)
    (k : ∀ (r1 : σ) (u1 : zMu) (g1 : Nat → Nat), (fr' = true → g1 = g) → zJ κ Λ cc nL own rt ret fr d A c0 a g0 g1 u1 pc' lv ((ret' r1).toList ++ rest) (K r1 u1)) : zJ κ Λ cc nL own rt ret fr d A c0 a g0 g u pc lv st (zbd F K) := by
  refine z_call hM hfr (fun o h5 r1 u1 ls H locs cells slots hl hw m2 hf hR1 hR2 => ?_) hd.2 k
  exact va_runV ⟨o.1, o.2.1, o.2.2.1, o.2.2.2.1, o.2.2.2.2.1⟩ m2 (cwV n o.2.2.2.2.1 hG.1 rfl rfl rfl hG.2.1 ⟨by rw [hR1]; exact hdd, by rw [hR2]; have := hG.2.2; show 8 + (maxL + 11) + 40 * d' ≤ 40 * d; omega⟩) (zpreV h5 o.2.2.2.2.2.2.2 hw ho hb) rfl hn hl.1 hst (lv_room hW) hd.1 hf
theorem z_callS (hM : zMet (zKl κ) Λ y (.code y bytes maxL rt') ret' fr' d' a g As u F) (hG : zGS Λ own idx y (.code y bytes maxL rt') n maxL) (hfr : fr = true → fr' = true) (hdd : d' + 1 ≤ d) (hn : As.length = n) (hst : st = As.reverse ++ rest) (hW : (rest.map fun v => v.category).sum ≤ 8) (hd : zD cc pc pc' (.invokestatic idx) 3)
    (k : ∀ (r1 : σ) (u1 : zMu) (g1 : Nat → Nat), (fr' = true → g1 = g) → zJ κ Λ cc nL own rt ret fr d A c0 a g0 g1 u1 pc' lv ((ret' r1).toList ++ rest) (K r1 u1)) : zJ κ Λ cc nL own rt ret fr d A c0 a g0 g u pc lv st (zbd F K) := by
  refine z_call hM hfr (fun o h5 r1 u1 ls H locs cells slots hl hw m2 hf hR1 hR2 => ?_) hd.2 k
  exact va_runS ⟨o.1, o.2.1, o.2.2.1, o.2.2.2.1, o.2.2.2.2.1⟩ m2 (cwS n o.2.2.2.2.1 hG.1 rfl rfl rfl hG.2.1 ⟨by rw [hR1]; exact hdd, by rw [hR2]; have := hG.2.2; show 8 + (maxL + 11) + 40 * d' ≤ 40 * d; omega⟩) ⟨zblind, fun U hU hW => ⟨rfl, zpre h5 o.2.2.2.2.2.2.2 hw hU hW⟩⟩ rfl hn hl.1 hst (lv_room hW) hd.1 hf
/-- calls of methods that make nothing -/
theorem z_callVf {C : String} {b : Nat} (k0 : Nat) (hM : zMet (zKl κ) Λ y (.code y bytes maxL rt') ret' true d' a g (.ref b :: As) u F) (hG : zGV Λ own idx C y (.code y bytes maxL rt') n maxL) (ho : zOb Λ k0 C) (hb : zad Λ.1 a g k0 = b) (hdd : d' + 1 ≤ d) (hn : As.length = n) (hst : st = As.reverse ++ .ref b :: rest) (hW : (rest.map fun v => v.category).sum ≤ 8) (hd : zD cc pc pc' (.invokevirtual idx) 3)
    (k : ∀ (r1 : σ) (u1 : zMu), zJ κ Λ cc nL own rt ret fr d A c0 a g0 g u1 pc' lv ((ret' r1).toList ++ rest) (K r1 u1)) : zJ κ Λ cc nL own rt ret fr d A c0 a g0 g u pc lv st (zbd F K) :=
  z_callV k0 hM hG ho hb (fun _ => rfl) hdd hn hst hW hd (fun r1 u1 g1 hg => by rw [hg rfl]; exact k r1 u1)
theorem z_callSf (hM : zMet (zKl κ) Λ y (.code y bytes maxL rt') ret' true d' a g As u F) (hG : zGS Λ own idx y (.code y bytes maxL rt') n maxL) (hdd : d' + 1 ≤ d) (hn : As.length = n) (hst : st = As.reverse ++ rest) (hW : (rest.map fun v => v.category).sum ≤ 8) (hd : zD cc pc pc' (.invokestatic idx) 3)
    (k : ∀ (r1 : σ) (u1 : zMu), zJ κ Λ cc nL own rt ret fr d A c0 a g0 g u1 pc' lv ((ret' r1).toList ++ rest) (K r1 u1)) : zJ κ Λ cc nL own rt ret fr d A c0 a g0 g u pc lv st (zbd F K) :=
  z_callS hM hG (fun _ => rfl) hdd hn hst hW hd (fun r1 u1 g1 hg => by rw [hg rfl]; exact k r1 u1)
/-- switches: the model's choice has been made -/
theorem z_tabIn {dflt lo hi : Int} {offs : Array Int} {len tgt : Nat} {x v : Int32} {off : Int} (hx : x = v) (hd : decode cc pc = .ok (.tableswitch dflt lo hi offs, len)) (h1 : ¬ v.toInt < lo) (h2 : ¬ hi < v.toInt) (ho : offs[(v.toInt - lo).toNat]? = some off) (ht : (pc : Int) + off = (tgt : Int)) (k : zJ κ Λ cc nL own rt ret fr d A c0 a g0 g u tgt lv st X) : zJ κ Λ cc nL own rt ret fr d A c0 a g0 g u pc lv (.int x :: st) X := by
  subst hx
  exact z_step (fun o ls H locs _ _ _ hl k => lv_tableIn o.1 o.2.1 hd h1 h2 ho ht k) k
theorem z_tabOut {dflt lo hi : Int} {offs : Array Int} {len tgt : Nat} {x : Int32} (hd : decode cc pc = .ok (.tableswitch dflt lo hi offs, len)) (h : x.toInt < lo ∨ hi < x.toInt) (ht : (pc : Int) + dflt = (tgt : Int)) (k : zJ κ Λ cc nL own rt ret fr d A c0 a g0 g u tgt lv st X) : zJ κ Λ cc nL own rt ret fr d A c0 a g0 g u pc lv (.int x :: st) X :=
  z_step (fun o ls H locs _ _ _ hl k => lv_tableOut o.1 o.2.1 hd h ht k) k
theorem z_look {dflt : Int} {ps : Array (Int × Int)} {len tgt : Nat} {x : Int32} {off : Int} (hd : decode cc pc = .ok (.lookupswitch dflt ps, len)) (hp : (ps.toList.zip (ps.toList.drop 1)).all (fun (a, next) => a.1 < next.1) = true) (ho : Op.lookupswitch.offset ps.toList dflt x.toInt = off) (ht : (pc : Int) + off = (tgt : Int)) (k : zJ κ Λ cc nL own rt ret fr d A c0 a g0 g u tgt lv st X) : zJ κ Λ cc nL own rt ret fr d A c0 a g0 g u pc lv (.int x :: st) X :=
  z_step (fun o ls H locs _ _ _ hl k => lv_lookup o.1 o.2.1 hd hp ho ht k) k
/-- ldc -/
theorem z_ldc {idx : Nat} {v : Int32} (hw : Cond.constant own idx v ∈ Λ.2.2.2.2.1) (hd : zD cc pc pc' (.ldc idx) 2) (k : zJ κ Λ cc nL own rt ret fr d A c0 a g0 g u pc' lv (.int v :: st) X) : zJ κ Λ cc nL own rt ret fr d A c0 a g0 g u pc lv st X := by
  obtain ⟨hd, rfl⟩ := hd
  exact z_step (fun o ls H locs _ _ _ hl k => lv_ldc o.1 o.2.1 o.2.2.2.1 (o.2.2.2.2.1 _ hw) hd k) k
theorem z_ldc2 {idx : Nat} {v : Int64} (hw : Cond.constantLong own idx v ∈ Λ.2.2.2.2.1) (hd : zD cc pc pc' (.ldc2_w idx) 3) (k : zJ κ Λ cc nL own rt ret fr d A c0 a g0 g u pc' lv (.long v :: st) X) : zJ κ Λ cc nL own rt ret fr d A c0 a g0 g u pc lv st X := by
  obtain ⟨hd, rfl⟩ := hd
  exact z_step (fun o ls H locs _ _ _ hl k => lv_ldc2 o.1 o.2.1 o.2.2.2.1 (o.2.2.2.2.1 _ hw) hd k) k
end zCalls
