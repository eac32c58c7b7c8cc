/-! MORE RULES: references that move, the JDK's max and min, static methods of any class -/
section zMore
variable {ρ σ : Type} {κ : zKx} {Λ : zSd} {cc : ByteArray} {nL : Nat} {own : String} {rt : Option FieldType} {ret : ρ → Option Value} {fr : Bool} {d : Nat} {A : Nat → Prop} {c0 : Nat × Nat} {a g0 g : Nat → Nat} {u : zMu} {pc pc' : Nat} {lv : List (Nat × Value)} {st : List Value} {X : Option (ρ × zMu)}
variable {y : MethodName} {bytes : ByteArray} {maxL : Nat} {rt' : Option FieldType} {ret' : σ → Option Value} {fr' : Bool} {d' idx n : Nat} {As rest args1 : List Value} {F : Option (σ × zMu)} {K : σ → zMu → Option (ρ × zMu)}
/-- a moving reference is read: it is one of those that the guard b knows -/
theorem z_getG {idx k j x : Nat} {f : Bool} {ty : FieldType} {b : Nat → Bool} {h : Nat → Option (ρ × zMu)} (hf : zFld Λ own idx k j 3 f ty) (hx : zad Λ.1 a g k = x) (ha : ∀ p : Nat, b p = true → ¬ p = 0 ∧ zad Λ.1 a g p = a p) (hd : zD cc pc pc' (.getfield idx) 3) (kk : ∀ p : Nat, b p = true → zJ κ Λ cc nL own rt ret fr d A c0 a g0 g u pc' lv (.ref (a p) :: st) (h p)) : zJ κ Λ cc nL own rt ret fr d A c0 a g0 g u pc lv (.ref x :: st) (zgd (b (zR u k j)) (zlet (zR u k j) h)) :=
  z_gd fun hb => z_getM hf hx (ha _ hb).1 (ha _ hb).2 hd (kk _ hb)
theorem z_mmax {idx : Nat} {x y : Int32} (h1 : Cond.methodLink own idx Lib.Math.max.name ∈ Λ.2.2.2.2.1) (h2 : Cond.static Lib.Math.max.name ∈ Λ.2.2.2.2.1) (h3 : Cond.initialized "java/lang/Math" ∈ Λ.2.2.2.2.1) (h4 : Cond.code Lib.Math.max.name Lib.Math.max.code 2 (some .int) ∈ Λ.2.2.2.2.1) (hd0 : 1 ≤ d) (hW : (st.map fun v => v.category).sum ≤ 8) (hd : zD cc pc pc' (.invokestatic idx) 3) (k : zJ κ Λ cc nL own rt ret fr d A c0 a g0 g u pc' lv (.int (if x < y then y else x) :: st) X) : zJ κ Λ cc nL own rt ret fr d A c0 a g0 g u pc lv (.int y :: .int x :: st) X := by
  obtain ⟨hd, rfl⟩ := hd
  intro r u' h
  have k := k r u' h
  refine ⟨k.1, fun q1 o q3 q4 q5 ls H locs hl hw => ?_⟩
  refine va_mmax o.1 o.2.1 (o.2.2.1.trans hl.1.symm) o.2.2.2.1 (o.2.2.2.2.1 _ h1) (o.2.2.2.2.1 _ h2) (o.2.2.2.2.1 _ h3) (o.2.2.2.2.1 _ h4) (by rw [q1]; exact hd0) (by rw [q1]; show _ ≤ 40 * d; omega) (by rw [q1]; exact Nat.sub_le_sub_right k.1.1 _) (by rw [q1]; exact Nat.sub_le_sub_right k.1.2.1 _) hd (k.2 q1 o q3 q4 q5 ls H locs hl hw)
theorem z_mmin {idx : Nat} {x y : Int32} (h1 : Cond.methodLink own idx Lib.Math.min.name ∈ Λ.2.2.2.2.1) (h2 : Cond.static Lib.Math.min.name ∈ Λ.2.2.2.2.1) (h3 : Cond.initialized "java/lang/Math" ∈ Λ.2.2.2.2.1) (h4 : Cond.code Lib.Math.min.name Lib.Math.min.code 2 (some .int) ∈ Λ.2.2.2.2.1) (hd0 : 1 ≤ d) (hW : (st.map fun v => v.category).sum ≤ 8) (hd : zD cc pc pc' (.invokestatic idx) 3) (k : zJ κ Λ cc nL own rt ret fr d A c0 a g0 g u pc' lv (.int (if y < x then y else x) :: st) X) : zJ κ Λ cc nL own rt ret fr d A c0 a g0 g u pc lv (.int y :: .int x :: st) X := by
  obtain ⟨hd, rfl⟩ := hd
  intro r u' h
  have k := k r u' h
  refine ⟨k.1, fun q1 o q3 q4 q5 ls H locs hl hw => ?_⟩
  refine va_mmin o.1 o.2.1 (o.2.2.1.trans hl.1.symm) o.2.2.2.1 (o.2.2.2.2.1 _ h1) (o.2.2.2.2.1 _ h2) (o.2.2.2.2.1 _ h3) (o.2.2.2.2.1 _ h4) (by rw [q1]; exact hd0) (by rw [q1]; show _ ≤ 40 * d; omega) (by rw [q1]; exact Nat.sub_le_sub_right k.1.1 _) (by rw [q1]; exact Nat.sub_le_sub_right k.1.2.1 _) hd (k.2 q1 o q3 q4 q5 ls H locs hl hw)
theorem z_idiv {x y : Int32} (hne : ¬ y = 0) (hd : zD cc pc pc' .idiv 1) (k : zJ κ Λ cc nL own rt ret fr d A c0 a g0 g u pc' lv (.int (x / y) :: st) X) : zJ κ Λ cc nL own rt ret fr d A c0 a g0 g u pc lv (.int y :: .int x :: st) X := by
  obtain ⟨hd, rfl⟩ := hd
  exact z_step (fun o ls H locs _ _ _ hl k => lv_idiv o.1 o.2.1 hd hne k) k
theorem z_irem {x y : Int32} (hne : ¬ y = 0) (hd : zD cc pc pc' .irem 1) (k : zJ κ Λ cc nL own rt ret fr d A c0 a g0 g u pc' lv (.int (x - x / y * y) :: st) X) : zJ κ Λ cc nL own rt ret fr d A c0 a g0 g u pc lv (.int y :: .int x :: st) X := by
  obtain ⟨hd, rfl⟩ := hd
  exact z_step (fun o ls H locs _ _ _ hl k => lv_irem o.1 o.2.1 hd hne k) k
/-- the words of a call of a static method of any class -/
def zGX (Λ : zSd) (own : String) (idx : Nat) (y : MethodName) (cd : Cond) (n maxL : Nat) : Prop := GoodIn Λ.2.2.2.2.1 (va_wsS own idx y (cd :: Λ.2.2.2.2.1)) ∧ (y.cls ≠ "java/lang/invoke/MethodHandle" ∧ y.cls ≠ "java/lang/invoke/VarHandle" ∧ (parseMethodDescriptor y.desc).map (fun d => d.parameters.length) = some n) ∧ maxL ≤ 21
theorem z_callXf (hM : zMet (zKl κ) Λ y (.code y bytes maxL rt') ret' true d' a g As u F) (hG : zGX Λ own idx y (.code y bytes maxL rt') n maxL) (hdd : d' + 1 ≤ d) (hn : As.length = n) (hst : st = As.reverse ++ rest) (hW : (rest.map fun v => v.category).sum ≤ 8) (hd : zD cc pc pc' (.invokestatic idx) 3)
    (k : ∀ (r1 : σ) (u1 : zMu), zJ κ Λ cc nL own rt ret fr d A c0 a g0 g u1 pc' lv ((ret' r1).toList ++ rest) (K r1 u1)) : zJ κ Λ cc nL own rt ret fr d A c0 a g0 g u pc lv st (zbd F K) := by
  refine z_call hM (fun _ => rfl) (fun o h5 r1 u1 ls H locs cells slots hl hw m2 hf hR1 hR2 => ?_) hd.2 (fun r1 u1 g1 hg => by rw [hg rfl]; exact k r1 u1)
  exact va_runS ⟨o.1, o.2.1, o.2.2.1, o.2.2.2.1, o.2.2.2.2.1⟩ m2 (va_cwS n o.2.2.2.2.1 hG.1 rfl rfl rfl hG.2.1 ⟨by rw [hR1]; exact hdd, by rw [hR2]; have := hG.2.2; show 8 + (maxL + 11) + 40 * d' ≤ 40 * d; omega⟩) ⟨zblind, fun U hU hW => ⟨rfl, zpre h5 o.2.2.2.2.2.2.2 hw hU hW⟩⟩ rfl hn hl.1 hst (lv_room hW) hd.1 hf
end zMore
