/-! A SIDE'S MEMORY AS A PICTURE: its cells are numbered; ints and longs by (cell, slot), moving references, lengths of rows that grow, what was made so far -/
abbrev zMu : Type := (Nat → Nat → Int32) × (Nat → Nat → Int64) × (Nat → Nat → Nat) × (Nat → Nat) × Nat × Nat
def zI (u : zMu) (k j : Nat) : Int32 := u.1 k j
def zL (u : zMu) (k j : Nat) : Int64 := u.2.1 k j
def zR (u : zMu) (k j : Nat) : Nat := u.2.2.1 k j
def zN (u : zMu) (k : Nat) : Nat := u.2.2.2.1 k
def zc (u : zMu) : Nat × Nat := u.2.2.2.2
def zsI (u : zMu) (k j : Nat) (v : Int32) : zMu := (fun a b => if a = k ∧ b = j then v else u.1 a b, u.2)
def zsL (u : zMu) (k j : Nat) (v : Int64) : zMu := (u.1, fun a b => if a = k ∧ b = j then v else u.2.1 a b, u.2.2)
def zsR (u : zMu) (k j : Nat) (v : Nat) : zMu := (u.1, u.2.1, fun a b => if a = k ∧ b = j then v else u.2.2.1 a b, u.2.2.2)
/-- an index as a place; whether it is in a row of n -/
def zx (i : Int32) : Nat := i.toNatClampNeg
def zin (i : Int32) (n : Nat) : Bool := decide (¬ (i < 0 ∨ n ≤ i.toNatClampNeg))
theorem zin_in {i : Int32} {n : Nat} (h : zin i n = true) : vp_in i n := of_decide_eq_true (p := ¬ (i < 0 ∨ n ≤ i.toNatClampNeg)) h
def zgd {α : Type} (b : Bool) (x : Option α) : Option α := match b with
  | true => x
  | false => none
theorem zgd_some {α : Type} {b : Bool} {x : Option α} {y : α} (h : zgd b x = some y) : b = true ∧ x = some y := by
  cases b
  · cases h
  · exact ⟨rfl, h⟩
def zbd {ρ σ : Type} (x : Option (ρ × zMu)) (f : ρ → zMu → Option (σ × zMu)) : Option (σ × zMu) := match x with
  | some (r, u) => f r u
  | none => none
theorem zbd_some {ρ σ : Type} {x : Option (ρ × zMu)} {f : ρ → zMu → Option (σ × zMu)} {y : σ × zMu} (h : zbd x f = some y) : ∃ r u, x = some (r, u) ∧ f r u = some y := by
  cases x with
  | none => cases h
  | some q => exact ⟨q.1, q.2, rfl, h⟩
/-- the tables: how many cells, how many of them never move, each cell's kind, each field's kind -/
abbrev zTb : Type := Nat × Nat × (Nat → Nat × Nat × Nat) × (Nat → Nat → Nat × Nat)
def zad (T : zTb) (a g : Nat → Nat) (k : Nat) : Nat := if k < T.2.1 then a k else if (T.2.2.1 k).2.2 = 0 then g k else a k
def zlen (T : zTb) (u : zMu) (k : Nat) : Nat := if (T.2.2.1 k).2.2 = 0 then zN u k else (T.2.2.1 k).2.2
def zF (T : zTb) (ad : Nat → Nat) (u : zMu) (k j : Nat) : Value := match (T.2.2.2 k j).1 with
  | 0 => .int (zI u k j)
  | 1 => .long (zL u k j)
  | 2 => .ref (ad (T.2.2.2 k j).2)
  | _ => if zR u k j = 0 then .null else .ref (ad (zR u k j))
def zE (T : zTb) (ca : Nat → ClassId) (ad : Nat → Nat) (u : zMu) (k : Nat) : va_E := match (T.2.2.1 k).1 with
  | 0 => .inr ((T.2.2.1 k).2.1, (List.range (T.2.2.1 k).2.2).map (zF T ad u k))
  | 5 => .inl (ca 5, zlen T u k, .inr (.inl (u.2.1 k)))
  | n => .inl (ca n, zlen T u k, .inl (u.1 k))
def zw (T : zTb) (ca : Nat → ClassId) (ad : Nat → Nat) (u : zMu) : va_W := (List.range T.1).map (fun k => (ad k, zE T ca ad u k))
theorem zw_get {T : zTb} {ca : Nat → ClassId} {ad : Nat → Nat} {u : zMu} {k : Nat} (h : k < T.1) : (zw T ca ad u)[k]? = some (ad k, zE T ca ad u k) := by
  simp [zw, h]
theorem zw_set {T : zTb} {ca : Nat → ClassId} {ad : Nat → Nat} {u u' : zMu} {k : Nat} {x : va_E} (hx : x = zE T ca ad u' k) (hn : ∀ j, j ≠ k → zE T ca ad u' j = zE T ca ad u j) : (zw T ca ad u).set k (ad k, x) = zw T ca ad u' := by
  subst hx
  apply List.ext_getElem?
  intro i
  rw [List.getElem?_set]
  by_cases h : k = i
  · subst h
    by_cases hk : k < T.1
    · simp [zw, hk]
    · simp [zw, hk]
  · rw [if_neg h]
    by_cases hi : i < T.1
    · rw [zw_get hi, zw_get hi, hn i (fun q => h q.symm)]
    · simp [zw, hi]
theorem zF_nI {T : zTb} {ad : Nat → Nat} {u : zMu} {k j : Nat} {v : Int32} {a b : Nat} (h : ¬ (a = k ∧ b = j)) : zF T ad (zsI u k j v) a b = zF T ad u a b := by
  unfold zF
  have e : zI (zsI u k j v) a b = zI u a b := if_neg h
  rw [e]
  rfl
theorem zF_nL {T : zTb} {ad : Nat → Nat} {u : zMu} {k j : Nat} {v : Int64} {a b : Nat} (h : ¬ (a = k ∧ b = j)) : zF T ad (zsL u k j v) a b = zF T ad u a b := by
  unfold zF
  have e : zL (zsL u k j v) a b = zL u a b := if_neg h
  rw [e]
  rfl
theorem zF_nR {T : zTb} {ad : Nat → Nat} {u : zMu} {k j : Nat} {v : Nat} {a b : Nat} (h : ¬ (a = k ∧ b = j)) : zF T ad (zsR u k j v) a b = zF T ad u a b := by
  unfold zF
  have e : zR (zsR u k j v) a b = zR u a b := if_neg h
  rw [e]
  rfl
theorem zE_nI {T : zTb} {ca : Nat → ClassId} {ad : Nat → Nat} {u : zMu} {k j : Nat} {v : Int32} (i : Nat) (h : i ≠ k) : zE T ca ad (zsI u k j v) i = zE T ca ad u i := by
  have e : (zsI u k j v).1 i = u.1 i := funext fun b => if_neg fun q => h q.1
  have e2 : zF T ad (zsI u k j v) i = zF T ad u i := funext fun b => zF_nI fun q => h q.1
  unfold zE
  rw [e, e2]
  rfl
theorem zE_nL {T : zTb} {ca : Nat → ClassId} {ad : Nat → Nat} {u : zMu} {k j : Nat} {v : Int64} (i : Nat) (h : i ≠ k) : zE T ca ad (zsL u k j v) i = zE T ca ad u i := by
  have e : (zsL u k j v).2.1 i = u.2.1 i := funext fun b => if_neg fun q => h q.1
  have e2 : zF T ad (zsL u k j v) i = zF T ad u i := funext fun b => zF_nL fun q => h q.1
  unfold zE
  rw [e, e2]
  rfl
theorem zE_nR {T : zTb} {ca : Nat → ClassId} {ad : Nat → Nat} {u : zMu} {k j : Nat} {v : Nat} (i : Nat) (h : i ≠ k) : zE T ca ad (zsR u k j v) i = zE T ca ad u i := by
  have e2 : zF T ad (zsR u k j v) i = zF T ad u i := funext fun b => zF_nR fun q => h q.1
  unfold zE
  rw [e2]
  rfl
theorem zE_obj {T : zTb} {ca : Nat → ClassId} {ad : Nat → Nat} {u : zMu} {k ci N : Nat} (h : T.2.2.1 k = (0, ci, N)) : zE T ca ad u k = .inr (ci, (List.range N).map (zF T ad u k)) := by
  unfold zE
  rw [h]
  rfl
theorem zE_long {T : zTb} {ca : Nat → ClassId} {ad : Nat → Nat} {u : zMu} {k : Nat} (h : (T.2.2.1 k).1 = 5) : zE T ca ad u k = .inl (ca 5, zlen T u k, .inr (.inl (u.2.1 k))) := by
  unfold zE
  rw [h]
  rfl
theorem zE_int {T : zTb} {ca : Nat → ClassId} {ad : Nat → Nat} {u : zMu} {k t : Nat} (h : (T.2.2.1 k).1 = t) (h0 : t ≠ 0) (h5 : t ≠ 5) : zE T ca ad u k = .inl (ca t, zlen T u k, .inl (u.1 k)) := by
  unfold zE
  rw [h]
  split
  · exact absurd rfl h0
  · exact absurd rfl h5
  · rfl
theorem zrow_set {N k : Nat} {f f' : Nat → Value} {v : Value} (hv : f' k = v) (hn : ∀ j, j ≠ k → f' j = f j) : ((List.range N).map f).set k v = (List.range N).map f' := by
  apply List.ext_getElem?
  intro i
  rw [List.getElem?_set]
  by_cases h : k = i
  · subst h
    by_cases hk : k < N
    · simp [hk, hv]
    · simp [hk]
  · rw [if_neg h]
    by_cases hi : i < N
    · simp [hi, hn i (fun q => h q.symm)]
    · simp [hi]
