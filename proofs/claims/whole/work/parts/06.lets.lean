/-! NAMES for what the model works out -/
def zlet {α β : Type} (x : α) (f : α → β) : β := f x
def zbo (v : Int32) : Bool := decide (v = 0 ∨ v = 1)
theorem zlt {m n : Nat} (h : Nat.ble (m + 1) n = true) : m < n := Nat.le_of_ble_eq_true h
section zLets
variable {ρ : Type} {κ : zKx} {Λ : zSd} {cc : ByteArray} {nL : Nat} {own : String} {rt : Option FieldType} {ret : ρ → Option Value} {fr : Bool} {d : Nat} {A : Nat → Prop} {c0 : Nat × Nat} {a g0 g : Nat → Nat} {u : zMu} {pc pc' : Nat} {lv : List (Nat × Value)} {st : List Value} {X : Option (ρ × zMu)}
theorem z_letU {f : zMu → Option (ρ × zMu)} (k : ∀ u1 : zMu, zJ κ Λ cc nL own rt ret fr d A c0 a g0 g u1 pc lv (st) (f u1)) : zJ κ Λ cc nL own rt ret fr d A c0 a g0 g u pc lv (st) (zlet u f) := k u
theorem z_letI {x : Int32} {f : Int32 → Option (ρ × zMu)} (k : ∀ y : Int32, zJ κ Λ cc nL own rt ret fr d A c0 a g0 g u pc lv (.int y :: st) (f y)) : zJ κ Λ cc nL own rt ret fr d A c0 a g0 g u pc lv (.int x :: st) (zlet x f) := k x
theorem z_letL {x : Int64} {f : Int64 → Option (ρ × zMu)} (k : ∀ y : Int64, zJ κ Λ cc nL own rt ret fr d A c0 a g0 g u pc lv (.long y :: st) (f y)) : zJ κ Λ cc nL own rt ret fr d A c0 a g0 g u pc lv (.long x :: st) (zlet x f) := k x
theorem z_iincN {i : Nat} {n : Int} {x c : Int32} (q : Nat) (hq : lv[q]? = some (i, .int x)) (hc : Int32.ofInt n = c) (hn : i < nL) {lv1 : List (Nat × Value)} (hl' : lv.filter (fun q => !(q.1 == i) && !(q.1 + 1 == i && q.2.category == 2)) = lv1) (hd : zD cc pc pc' (.iinc i n) 3) {f : Int32 → Option (ρ × zMu)} (k : ∀ y : Int32, zJ κ Λ cc nL own rt ret fr d A c0 a g0 g u pc' ((i, Value.int y) :: lv1) st (f y)) : zJ κ Λ cc nL own rt ret fr d A c0 a g0 g u pc lv (st) (zlet (x + c) f) := by
  subst hc
  exact z_iinc q hq rfl hn (by rw [hl']) hd (k _)
theorem z_lv (ks : List Nat) {lv' : List (Nat × Value)} (h : lv_pick lv ks = lv') (k : zJ κ Λ cc nL own rt ret fr d A c0 a g0 g u pc lv' (st) X) : zJ κ Λ cc nL own rt ret fr d A c0 a g0 g u pc lv (st) X :=
  fun r u' h0 => ⟨(k r u' h0).1, fun h1 h2 h3 h4 h5 ls H locs hl hw => (k r u' h0).2 h1 h2 h3 h4 h5 ls H locs (lv_sub hl ks h) hw⟩
theorem zbo_or {v : Int32} (h : zbo v = true) : v = 0 ∨ v = 1 := of_decide_eq_true h
theorem z_gd {b : Bool} (k : b = true → zJ κ Λ cc nL own rt ret fr d A c0 a g0 g u pc lv (st) X) : zJ κ Λ cc nL own rt ret fr d A c0 a g0 g u pc lv (st) (zgd b X) := fun r u' h => k (zgd_some h).1 r u' (zgd_some h).2
theorem z_zretG {v : Int32} (hd : zD cc pc pc' .ireturn 1) : zJ κ Λ cc nL own (some .boolean) zri fr d A c0 a g0 g u pc lv [.int v] (zgd (zbo v) (some (v, u))) := z_gd fun h => z_zret (zbo_or h) hd
end zLets
