/-! THE LAW: its calls -/
def R_lawN : String := "ShapeEngineLaw"
def lC (κ : zKx) : Prop := κ.1.tables.exec = Jvm.exec ∧ (zKc κ).code = code ∧ (zKc κ).maxLocals = 4 ∧ (zKs κ).vm.findClass R_lawN = some (zKm κ).cls ∧ (∀ w ∈ lw_tbl, w.before (zKa κ) (zKs κ) = true) ∧ zKR κ = room_1
theorem va_D_swap {A : Nat → Prop} {w1 w2 : va_W} (h : va_D A (w1 ++ w2)) : va_D A (w2 ++ w1) := by
  have hl : ∀ (k : Nat) (q : Nat × va_E), (w2 ++ w1)[k]? = some q → (k < w2.length ∧ (w1 ++ w2)[w1.length + k]? = some q) ∨ (w2.length ≤ k ∧ (w1 ++ w2)[k - w2.length]? = some q) := by
    intro k q hq
    by_cases c : k < w2.length
    · rw [List.getElem?_append_left c] at hq
      exact Or.inl ⟨c, bget_r hq⟩
    · rw [List.getElem?_append_right (by omega)] at hq
      exact Or.inr ⟨by omega, bget_l hq⟩
  refine ⟨fun i j p q hi hj e => ?_, fun k q hq => ?_⟩
  · rcases hl i p hi with ⟨a1, a2⟩ | ⟨a1, a2⟩
    · rcases hl j q hj with ⟨b1, b2⟩ | ⟨b1, b2⟩
      · have := h.1 _ _ p q a2 b2 e; omega
      · have := h.1 _ _ p q a2 b2 e
        have := (List.getElem?_eq_some_iff.mp b2).1
        rw [List.getElem?_append_right (by omega)] at hj
        have := (List.getElem?_eq_some_iff.mp hj).1
        omega
    · rcases hl j q hj with ⟨b1, b2⟩ | ⟨b1, b2⟩
      · have := h.1 _ _ p q a2 b2 e
        rw [List.getElem?_append_right (by omega)] at hi
        have := (List.getElem?_eq_some_iff.mp hi).1
        omega
      · have := h.1 _ _ p q a2 b2 e; omega
  · rcases hl k q hq with ⟨-, a2⟩ | ⟨-, a2⟩
    · exact h.2 _ q a2
    · exact h.2 _ q a2
theorem va_D_l {A : Nat → Prop} {w1 w2 : va_W} (h : va_D A (w1 ++ w2)) : va_D A w1 := ⟨fun i j p q hi hj e => h.1 i j p q (bget_l hi) (bget_l hj) e, fun k q hq => h.2 k q (bget_l hq)⟩
theorem va_D_apart {A : Nat → Prop} {w1 w2 : va_W} (h : va_D A (w1 ++ w2)) {i j : Nat} {p q : Nat × va_E} (hi : w1[i]? = some p) (hj : w2[j]? = some q) : p.1 ≠ q.1 := fun e => by
  have := h.1 i (w1.length + j) p q (bget_l hi) (bget_r hj) e
  have := (List.getElem?_eq_some_iff.mp hi).1
  omega
/-- behind a call on the cells wc: another world stays -/
theorem lw_join {wc w1 w2 : va_W} {H H1 : Heap} {A0 : Nat → Prop} {D2 : va_G} {cl2 : List vw_C} (hP2 : va_P D2 cl2 w2 H) (hD : va_D A0 (wc ++ w2)) (hk : ∀ q : Nat, q < H.size → ¬ va_A wc H.size q → H1[q]? = H[q]?) (hF : ∀ q, va_A wc H.size q → A0 q) (hD1 : va_D (va_A wc H.size) w1) : va_P D2 cl2 w2 H1 ∧ va_D A0 (w1 ++ w2) := by
  have apart : ∀ (k : Nat) (q : Nat × va_E), w2[k]? = some q → q.1 < H.size ∧ ¬ va_A wc H.size q.1 := by
    intro k q hq
    have hl := (hP2 k q hq).lt
    refine ⟨hl, fun h => ?_⟩
    rcases h with ⟨j, e, h⟩ | h
    · exact va_D_apart hD h hq rfl
    · omega
  refine ⟨fun k q hq => (hP2 k q hq).kept (hk q.1 (apart k q hq).1 (apart k q hq).2), va_D.app (hD1.weaken (fun k q _ h => hF q.1 h)) (va_D_l (va_D_swap hD)) (fun i j x y hx hy hxy => ?_)⟩
  exact (apart j y hy).2 (by rw [← hxy]; exact hD1.2 i x hx)
section lwCalls
variable {κ : zKx} {Λ : zSd} {A : Nat → Prop} {D2 : va_G} {cl2 : List vw_C} {w2 : va_W} {H : Heap} {locs : List Loc} {cells slots pc : Nat} {Q : State → Prop} {ls : Array Slot} {rest : List Value}
theorem lw_call {ρ : Type} {y : MethodName} {bytes : ByteArray} {maxL : Nat} {rt' : Option FieldType} {ret' : ρ → Option Value} {fr' : Bool} {d' idx n b k0 : Nat} {As : List Value} {a g : Nat → Nat} {u u' : zMu} {r : ρ} {C : String} (h : lC κ) (hM : zMet (zKl κ) Λ y (.code y bytes maxL rt') ret' fr' d' a g (.ref b :: As) u (some (r, u')))
    (hG : GoodIn lw_tbl (wsV R_lawN idx C y (.code y bytes maxL rt' :: Λ.2.2.2.2.1))) (hyd : y.cls = C ∧ y.cls ≠ "java/lang/invoke/MethodHandle" ∧ y.cls ≠ "java/lang/invoke/VarHandle" ∧ (parseMethodDescriptor y.desc).map (fun d => d.parameters.length) = some n) (hm : maxL ≤ 21) (hdd : d' ≤ 2000) (ho : zOb Λ k0 C) (hb : zad Λ.1 a g k0 = b) (hA : zAx κ Λ A) (hK : va_K Λ.2.2.1 Λ.2.2.2.1 (zTys Λ.2.1) (zKs κ))
    (hP : va_P Λ.2.2.1 Λ.2.2.2.1 (zw Λ.1 Λ.2.1 (zad Λ.1 a g) u) H) (hP2 : va_P D2 cl2 w2 H) (hD : va_D A (zw Λ.1 Λ.2.1 (zad Λ.1 a g) u ++ w2)) (hS : va_S A (zKs κ).heap H locs) (hl : ls.size = 4) (hn : As.length = n) (hW : (rest.map fun v => v.category).sum ≤ 8) (hc : cells + ((zc u').1 - (zc u).1) ≤ 600000) (hs : slots + ((zc u').2 - (zc u).2) ≤ 7302250) (hd : decode code pc = .ok (.invokevirtual idx, 3))
    (k : ∀ (g' : Nat → Nat) (H1 : Heap) (locs1 : List Loc), (fr' = true → g' = g) → va_P Λ.2.2.1 Λ.2.2.2.1 (zw Λ.1 Λ.2.1 (zad Λ.1 a g') u') H1 → va_P D2 cl2 w2 H1 → va_D A (zw Λ.1 Λ.2.1 (zad Λ.1 a g') u' ++ w2) → va_S A (zKs κ).heap H1 locs1 → zW κ H1 locs1 (cells + ((zc u').1 - (zc u).1)) (slots + ((zc u').2 - (zc u).2)) Q (F0 (zKm κ) (pc + 3) ls ((ret' r).toList ++ rest))) : zW κ H locs cells slots Q (F0 (zKm κ) pc ls (As.reverse ++ .ref b :: rest)) := by
  obtain ⟨m1, m2⟩ := hM r u' rfl
  obtain ⟨c1, c2, c3, c4, c5, c6⟩ := h
  have hw : zWd Λ (zad Λ.1 a g) u A (zKs κ).heap H locs := ⟨hP, va_D_l hD, hS⟩
  have hr := va_runV (p := κ.1) (l := zKl κ) (e := κ.2.2.1) (R := zKR κ) (s := zKs κ) (m := zKm κ) (args := zKa κ) (below := zKb κ) (meth := zKt κ) (c := zKc κ) (H := H) (locs := locs) (cells := cells) (slots := slots) (rest := rest) (As := As) (g := F0 (zKm κ) pc ls (As.reverse ++ .ref b :: rest)) ⟨c1, c2, c3, c4, c5⟩ (m2 H.size) (cwV n c5 hG rfl rfl rfl hyd ⟨by rw [c6]; show d' + 1 ≤ 2048; omega, by rw [c6]; show 8 + (maxL + 11) + 40 * d' ≤ 84000; omega⟩) (zpreV hA hK hw ho hb) rfl hn hl rfl (lv_room hW) hd ⟨by rw [c6]; exact hc, by rw [c6]; exact hs⟩
  intro T hT S
  obtain ⟨v, st₀, t, T', L, e0, S', hL, e1, e2, ⟨hv, ⟨g', hg', hP1, hK1, hD1⟩, hz1, hk1⟩, go⟩ := hr T hT S
  cases hv
  rw [e0] at hz1 hk1
  have hAA : ∀ q, va_A (zw Λ.1 Λ.2.1 (zad Λ.1 a g) u) H.size q → A q := by
    intro q hq
    rcases hq with ⟨i, e, hi⟩ | hq
    · exact (va_D_l hD).2 i _ hi
    · exact hA.1 q (Nat.le_trans hS.1 hq)
  rw [← e1] at hP1 hk1 hz1
  obtain ⟨j1, j2⟩ := lw_join hP2 hD hk1 hAA hD1
  obtain ⟨t2, a1, b1⟩ := k g' T'.heap (locs ++ L) hg' hP1 j1 j2 (by
    refine ⟨Nat.le_trans hS.1 hz1, fun q q1 q2 => ?_, fun q hq => ?_⟩
    · rw [hk1 q (Nat.lt_of_lt_of_le q1 hS.1) (fun z => q2 (hAA q z))]
      exact hS.2.1 q q1 q2
    · rcases List.mem_append.mp hq with hq | hq
      · exact hS.2.2 q hq
      · exact hAA _ (hL q hq)) T' rfl S'
  exact ⟨t2, go t2 a1, b1⟩
/-- a constructor of the law's objects -/
theorem lw_ctor {y : MethodName} {bytes : ByteArray} {maxL d' mc' ms' idx x : Nat} {e : va_E} {w1 : (Nat → Nat) → va_W} (h : lC κ) (hM : bMet (zKl κ) Λ y (.code y bytes maxL none) d' mc' ms' [.ref x] [(x, e)] w1) (hG : GoodIn lw_tbl (.code y bytes maxL none :: Λ.2.2.2.2.1)) (hw1 : Cond.initialized y.cls ∈ lw_tbl) (hw2 : Cond.methodLink R_lawN idx y ∈ lw_tbl) (hw3 : Cond.instanceMethod y ∈ lw_tbl) (hy1 : y.name = "<init>")
    (hyd : y.cls ≠ "java/lang/invoke/MethodHandle" ∧ y.cls ≠ "java/lang/invoke/VarHandle" ∧ (parseMethodDescriptor y.desc).map (fun d => d.parameters.length) = some 0) (hm : maxL ≤ 21) (hdd : d' ≤ 2000) (hA : zAx κ Λ A) (hK : va_K Λ.2.2.1 Λ.2.2.2.1 (zTys Λ.2.1) (zKs κ)) (hP : va_P Λ.2.2.1 Λ.2.2.2.1 [(x, e)] H) (hD : va_D A [(x, e)]) (hS : va_S A (zKs κ).heap H locs) (hl : ls.size = 4) (hW : (rest.map fun v => v.category).sum ≤ 8) (hc : cells + mc' ≤ 600000) (hs : slots + ms' ≤ 7302250) (hd : decode code pc = .ok (.invokespecial idx, 3))
    (k : ∀ (g : Nat → Nat) (H1 : Heap) (locs1 : List Loc), va_P Λ.2.2.1 Λ.2.2.2.1 (w1 g) H1 → va_D (va_A [(x, e)] H.size) (w1 g) → (∀ q : Nat, q < H.size → ¬ va_A [(x, e)] H.size q → H1[q]? = H[q]?) → va_S A (zKs κ).heap H1 locs1 → zW κ H1 locs1 (cells + mc') (slots + ms') Q (F0 (zKm κ) (pc + 3) ls rest)) : zW κ H locs cells slots Q (F0 (zKm κ) pc ls (.ref x :: rest)) := by
  obtain ⟨c1, c2, c3, c4, c5, c6⟩ := h
  have hF : ∀ q, va_A [(x, e)] H.size q → A q := by
    intro q hq
    rcases hq with ⟨i, e, hi⟩ | hq
    · exact hD.2 i _ hi
    · exact hA.1 q (Nat.le_trans hS.1 hq)
  refine va_callv (va_runI (As := []) (rest := rest) ⟨c1, c2, c3, c4, c5⟩ (hM H.size) (cwI 0 c5 hG rfl rfl rfl (c5 _ hw1) (c5 _ hw2) (c5 _ hw3) hy1 hyd ⟨by rw [c6]; show d' + 1 ≤ 2048; omega, by rw [c6]; show 8 + (maxL + 11) + 40 * d' ≤ 84000; omega⟩) ⟨bblind, fun U hU hW => ⟨rfl, bpre hA hK hP hD hS hU hW⟩⟩ rfl rfl hl rfl (lv_room hW) hd ⟨by rw [c6]; exact hc, by rw [c6]; exact hs⟩) hS (fun q _ h => hF q h) hF (fun g t H1 locs ht hvm _ hB hz1 hk1 hS => ?_)
  obtain ⟨hP1, hK1, hD1⟩ := hB
  rw [ht] at hP1
  exact k g H1 locs hP1 hD1 hk1 hS
end lwCalls
