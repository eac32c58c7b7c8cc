/-! BUILDING: the end, over the whole picture -/
def bG0 (l : List Nat) (k : Nat) : Nat := (l[k]?).getD 0
/-- the object itself is the first cell -/
def bX (x : Nat) (g : Nat → Nat) : Nat → Nat := fun k => if k = 0 then x else g k
theorem bX_of {x : Nat} {g : Nat → Nat} (h : g 0 = x) : bX x g = g := funext fun k => by
  unfold bX
  by_cases c : k = 0
  · rw [if_pos c, c, h]
  · rw [if_neg c]
theorem zwX {T : zTb} {ca : Nat → ClassId} {u : zMu} {x : Nat} {g : Nat → Nat} (h : g 0 = x) : zw T ca (zad T g g) u = zw T ca (zad T (bX x g) (bX x g)) u := by rw [bX_of h]
section bWhole
variable {κ : zKx} {Λ : zSd} {cc : ByteArray} {nL : Nat} {own : String} {d mc ms : Nat} {A : Nat → Prop} {W1 : (Nat → Nat) → va_W} {ws : va_W} {cells slots pc pc' : Nat} {lv : List (Nat × Value)} {st : List Value}
theorem b_get {idx ci N j x : Nat} {f : Bool} {ty : FieldType} {fs : List Value} {v : Value} (q0 : Nat) (hf : bFl Λ own idx ci N j f ty) (he : ws[q0]? = some (x, .inr (ci, fs))) (hv : fs[j]? = some v) (hd : zD cc pc pc' (.getfield idx) 3) (k : bJ κ Λ cc nL own d mc ms A W1 ws cells slots pc' lv (v :: st)) : bJ κ Λ cc nL own d mc ms A W1 ws cells slots pc lv (.ref x :: st) := by
  obtain ⟨hd, rfl⟩ := hd
  obtain ⟨C, Tt, tf, g1, g2, g3, g4, g5, g6, g7⟩ := hf
  intro h1 h2 h3 h4 ls H locs hl hP hD hS
  exact va_get h2.1 h2.2.1 h2.2.2.2.2.1 g2.1 h2.2.2.2.1 h2.2.2.2.2.2.2.2 hP q0 he g1 j g3 (h2.2.2.2.2.1 _ g4) (fun _ q => q) hv hd (k h1 h2 h3 h4 ls H locs hl hP hD hS)
theorem b_perm {ws' : va_W} (is : List Nat) (hn : va_nd is = true) (hs : is.map (fun i => ws[i]?) = ws'.map some) (k : bJ κ Λ cc nL own d mc ms A W1 ws' cells slots pc lv st) : bJ κ Λ cc nL own d mc ms A W1 ws cells slots pc lv st := by
  intro h1 h2 h3 h4 ls H locs hl hP hD hS
  refine k h1 h2 h3 h4 ls H locs hl (fun k q hq => ?_) (hD.sub is hn hs) hS
  have h1 : (is.map (fun i => ws[i]?))[k]? = some (some q) := by rw [hs, List.getElem?_map, hq]; rfl
  rw [List.getElem?_map] at h1
  cases hi : is[k]? with
  | none => rw [hi] at h1; cases h1
  | some i => rw [hi] at h1; exact hP i q (Option.some.inj h1)
/-- a method of the whole object is called -/
theorem b_meth {gl0 : List Cond} {ex0 : zEx} {y : MethodName} {bytes : ByteArray} {maxL d' idx n : Nat} {C : String} {b : Nat} {As st0 : List Value} {a : Nat → Nat} {u u' : zMu} (k0 : Nat) (hM : zMet (zKl κ) (Λ.1, Λ.2.1, Λ.2.2.1, Λ.2.2.2.1, gl0, ex0) y (.code y bytes maxL none) zrv true d' a a (.ref b :: As) u (some ((), u')))
    (hex : ∀ (A : Nat → Prop) (U : State) (H : Heap), Λ.2.2.2.2.2 A U H → ex0 A U H) (hexk : zExOk ex0) (hG : GoodIn Λ.2.2.2.2.1 (wsV own idx C y (.code y bytes maxL none :: gl0))) (hyd : y.cls = C ∧ y.cls ≠ "java/lang/invoke/MethodHandle" ∧ y.cls ≠ "java/lang/invoke/VarHandle" ∧ (parseMethodDescriptor y.desc).map (fun d => d.parameters.length) = some n) (hm : maxL ≤ 21) (ho : zOb Λ k0 C) (hb : zad Λ.1 a a k0 = b) (hdd : d' + 1 ≤ d) (hn : As.length = n) (hst : st0 = As.reverse ++ [.ref b]) (hcc : cells ≤ mc) (hss : slots ≤ ms) (hd : zD cc pc pc' (.invokevirtual idx) 3)
    (k : bJ κ Λ cc nL own d mc ms A W1 (zw Λ.1 Λ.2.1 (zad Λ.1 a a) u') cells slots pc' lv []) : bJ κ Λ cc nL own d mc ms A W1 (zw Λ.1 Λ.2.1 (zad Λ.1 a a) u) cells slots pc lv st0 := by
  obtain ⟨hd, rfl⟩ := hd
  intro h1 h2 h3 h4 ls H locs hl hP hD hS
  obtain ⟨m1, m2⟩ := hM () u' rfl
  have e : zc u = zc u' := (m1 κ).2.2 rfl
  have m2 := m2 H.size
  rw [← e, Nat.sub_self, Nat.sub_self] at m2
  have hR : zKR κ = bRm d mc ms := h1
  have hw : zWd Λ (zad Λ.1 a a) u A (zKs κ).heap H locs := ⟨hP, hD, hS⟩
  obtain ⟨Tt, N, ci, o1, o2, o3⟩ := ho
  subst hb
  have hr := va_runV (p := κ.1) (l := zKl κ) (e := κ.2.2.1) (R := zKR κ) (s := zKs κ) (m := zKm κ) (args := zKa κ) (below := zKb κ) (meth := zKt κ) (c := zKc κ) (H := H) (locs := locs) (cells := cells) (slots := slots) (rest := []) (As := As) (g := F0 (zKm κ) pc ls st0) ⟨h2.1, h2.2.1, h2.2.2.1, h2.2.2.2.1, h2.2.2.2.2.1⟩ m2 (cwV n h2.2.2.2.2.1 hG rfl (Nat.sub_self _) (Nat.sub_self _) hyd ⟨by rw [hR]; exact hdd, by rw [hR]; show 8 + (maxL + 11) + 40 * d' ≤ 40 * d; omega⟩) ⟨zblind, va_recv h2.2.2.2.2.2.2.2 hP o3 (by rw [zw_get o2, zE_obj o1]), fun U hU hW => by
    obtain ⟨z1, z2, z3, z4⟩ := zpre (Λ := Λ) h4 h2.2.2.2.2.2.2.2 hw hU hW
    exact ⟨rfl, z1, z2, hex _ _ _ z3, hexk⟩⟩ rfl hn hl.1 hst (lv_room (Nat.le_of_ble_eq_true rfl)) hd ⟨by rw [hR]; exact hcc, by rw [hR]; exact hss⟩
  intro T hT S
  obtain ⟨v, st₀, t, T', L, e0, S', hL, e1, e2, ⟨hv, ⟨g', hg', hP1, hK1, hD1⟩, hz1, hk1⟩, go⟩ := hr T hT S
  cases hv
  have hg' := hg' rfl
  subst hg'
  rw [e0] at hz1 hk1
  have hAA : ∀ q, va_A (zw Λ.1 Λ.2.1 (zad Λ.1 g' g') u) H.size q → A q := by
    intro q hq
    rcases hq with ⟨i, e, hi⟩ | hq
    · exact hD.2 i _ hi
    · exact h4.1 q (Nat.le_trans hS.1 hq)
  obtain ⟨t2, a1, b1⟩ := k h1 h2 h3 h4 ls T'.heap (locs ++ L) hl (by rw [e1]; exact hP1) (hD1.weaken (fun i q _ hq => hAA q.1 hq)) (by
    refine ⟨Nat.le_trans hS.1 (by rw [e1]; exact hz1), fun q q1 q2 => ?_, fun q hq => ?_⟩
    · rw [e1, hk1 q (Nat.lt_of_lt_of_le q1 hS.1) (fun z => q2 (hAA q z))]
      exact hS.2.1 q q1 q2
    · rcases List.mem_append.mp hq with hq | hq
      · exact hS.2.2 q hq
      · exact hAA _ (hL q hq)) T' rfl S'
  exact ⟨t2, go t2 a1, b1⟩
end bWhole
