/-- a class of the side: its words are among the side's, its types, its names -/
def zCl (GL : List Cond) (C : String) (Tt : u_T) (N : Nat) (ty : Nat → FieldType) : Prop := (∀ w ∈ u_ws C Tt N, w ∈ GL) ∧ (∀ k, k < N → parseFieldDescriptor (Tt k).2.2.1 = some (ty k)) ∧ (∀ a, a < N → ∀ b, b < N → a ≠ b → (Tt a).2.1 ≠ (Tt b).2.1)
/-- field j of cell k, by its link of the class own; t its kind, f whether it is final, ty its type -/
def zFld (Λ : zSd) (own : String) (idx k j t : Nat) (f : Bool) (ty : FieldType) : Prop := ∃ (C : String) (Tt : u_T) (N ci : Nat) (tf : Nat → FieldType), Λ.1.2.2.1 k = (0, ci, N) ∧ k < Λ.1.1 ∧ Λ.2.2.2.1[ci]? = some (C, Tt, N) ∧ zCl Λ.2.2.2.2.1 C Tt N tf ∧ j < N ∧ Cond.fieldLink own idx (Tt j).1 (Tt j).2.1 (Tt j).2.2.1 ∈ Λ.2.2.2.2.1 ∧ (Λ.1.2.2.2 k j).1 = t ∧ (Tt j).2.2.2 = f ∧ tf j = ty
section zHeap
variable {ρ : Type} {κ : zKx} {Λ : zSd} {cc : ByteArray} {nL : Nat} {own : String} {rt : Option FieldType} {ret : ρ → Option Value} {fr : Bool} {d : Nat} {A : Nat → Prop} {c0 : Nat × Nat} {a g0 g : Nat → Nat} {u : zMu} {pc pc' : Nat} {lv : List (Nat × Value)} {st : List Value} {X : Option (ρ × zMu)}
/-- an instruction that reads the heap -/
theorem z_stepH {st' : List Value} (f : zOk κ Λ cc nL own rt → ∀ (ls : Array Slot) (H : Heap) (locs : List Loc) (cells slots : Nat) (Q : State → Prop), zWd Λ (zad Λ.1 a g) u A (zKs κ).heap H locs → zW κ H locs cells slots Q (F0 (zKm κ) pc' ls st') → zW κ H locs cells slots Q (F0 (zKm κ) pc ls st)) (k : zJ κ Λ cc nL own rt ret fr d A c0 a g0 g u pc' lv (st') X) : zJ κ Λ cc nL own rt ret fr d A c0 a g0 g u pc lv (st) X :=
  fun r u' h => ⟨(k r u' h).1, fun h1 h2 h3 h4 h5 ls H locs hl hw => f h2 ls H locs _ _ _ hw ((k r u' h).2 h1 h2 h3 h4 h5 ls H locs hl hw)⟩
/-- an instruction that writes the heap, with nothing made -/
theorem z_stepP {u1 : zMu} {st' : List Value} (hc : zc u1 = zc u) (f : zOk κ Λ cc nL own rt → ∀ (ls : Array Slot) (H : Heap) (locs : List Loc) (cells slots : Nat) (Q : State → Prop), zWd Λ (zad Λ.1 a g) u A (zKs κ).heap H locs → (∀ (H1 : Heap) (locs1 : List Loc), zWd Λ (zad Λ.1 a g) u1 A (zKs κ).heap H1 locs1 → zW κ H1 locs1 cells slots Q (F0 (zKm κ) pc' ls st')) → zW κ H locs cells slots Q (F0 (zKm κ) pc ls st)) (k : zJ κ Λ cc nL own rt ret fr d A c0 a g0 g u1 pc' lv (st') X) : zJ κ Λ cc nL own rt ret fr d A c0 a g0 g u pc lv (st) X := by
  intro r u' h
  have k := k r u' h
  rw [hc] at k
  exact ⟨k.1, fun h1 h2 h3 h4 h5 ls H locs hl hw => f h2 ls H locs _ _ _ hw (fun H1 locs1 hw1 => k.2 h1 h2 h3 h4 h5 ls H1 locs1 hl hw1)⟩
theorem z_getI {idx k j x : Nat} {f : Bool} {ty : FieldType} (hf : zFld Λ own idx k j 0 f ty) (hx : zad Λ.1 a g k = x) (hd : zD cc pc pc' (.getfield idx) 3) (kk : zJ κ Λ cc nL own rt ret fr d A c0 a g0 g u pc' lv (.int (zI u k j) :: st) X) : zJ κ Λ cc nL own rt ret fr d A c0 a g0 g u pc lv (.ref x :: st) X := by
  obtain ⟨hd, rfl⟩ := hd
  obtain ⟨C, Tt, N, ci, tf, h1, h2, h3, h4, h5, h6, h7, h8, h9⟩ := hf
  subst hx
  refine z_stepH (fun o ls H locs _ _ _ hw k1 => ?_) kk
  refine va_get o.1 o.2.1 o.2.2.2.2.1 h4.1 o.2.2.2.1 o.2.2.2.2.2.2.2 hw.1 _ (by rw [zw_get h2, zE_obj h1]) h3 _ h5 (o.2.2.2.2.1 _ h6) (fun _ q => q) (by rw [List.getElem?_map, List.getElem?_range h5]; rfl) hd ?_
  have e : zF Λ.1 (zad Λ.1 a g) u k j = .int (zI u k j) := by unfold zF; rw [h7]; rfl
  rw [e]; exact k1
theorem z_getL {idx k j x : Nat} {f : Bool} {ty : FieldType} (hf : zFld Λ own idx k j 1 f ty) (hx : zad Λ.1 a g k = x) (hd : zD cc pc pc' (.getfield idx) 3) (kk : zJ κ Λ cc nL own rt ret fr d A c0 a g0 g u pc' lv (.long (zL u k j) :: st) X) : zJ κ Λ cc nL own rt ret fr d A c0 a g0 g u pc lv (.ref x :: st) X := by
  obtain ⟨hd, rfl⟩ := hd
  obtain ⟨C, Tt, N, ci, tf, h1, h2, h3, h4, h5, h6, h7, h8, h9⟩ := hf
  subst hx
  refine z_stepH (fun o ls H locs _ _ _ hw k1 => ?_) kk
  refine va_get o.1 o.2.1 o.2.2.2.2.1 h4.1 o.2.2.2.1 o.2.2.2.2.2.2.2 hw.1 _ (by rw [zw_get h2, zE_obj h1]) h3 _ h5 (o.2.2.2.2.1 _ h6) (fun _ q => q) (by rw [List.getElem?_map, List.getElem?_range h5]; rfl) hd ?_
  have e : zF Λ.1 (zad Λ.1 a g) u k j = .long (zL u k j) := by unfold zF; rw [h7]; rfl
  rw [e]; exact k1
theorem z_getR {idx k j x : Nat} {f : Bool} {ty : FieldType} (hf : zFld Λ own idx k j 2 f ty) (hx : zad Λ.1 a g k = x) {y : Nat} (hy : zad Λ.1 a g (Λ.1.2.2.2 k j).2 = y) (hd : zD cc pc pc' (.getfield idx) 3) (kk : zJ κ Λ cc nL own rt ret fr d A c0 a g0 g u pc' lv (.ref y :: st) X) : zJ κ Λ cc nL own rt ret fr d A c0 a g0 g u pc lv (.ref x :: st) X := by
  obtain ⟨hd, rfl⟩ := hd
  obtain ⟨C, Tt, N, ci, tf, h1, h2, h3, h4, h5, h6, h7, h8, h9⟩ := hf
  subst hx
  subst hy
  refine z_stepH (fun o ls H locs _ _ _ hw k1 => ?_) kk
  refine va_get o.1 o.2.1 o.2.2.2.2.1 h4.1 o.2.2.2.1 o.2.2.2.2.2.2.2 hw.1 _ (by rw [zw_get h2, zE_obj h1]) h3 _ h5 (o.2.2.2.2.1 _ h6) (fun _ q => q) (by rw [List.getElem?_map, List.getElem?_range h5]; rfl) hd ?_
  have e : zF Λ.1 (zad Λ.1 a g) u k j = .ref (zad Λ.1 a g (Λ.1.2.2.2 k j).2) := by unfold zF; rw [h7]; rfl
  rw [e]; exact k1
theorem z_getM {idx k j x : Nat} {f : Bool} {ty : FieldType} (hf : zFld Λ own idx k j 3 f ty) (hx : zad Λ.1 a g k = x) {y : Nat} (h0 : ¬ zR u k j = 0) (hy : zad Λ.1 a g (zR u k j) = y) (hd : zD cc pc pc' (.getfield idx) 3) (kk : zJ κ Λ cc nL own rt ret fr d A c0 a g0 g u pc' lv (.ref y :: st) X) : zJ κ Λ cc nL own rt ret fr d A c0 a g0 g u pc lv (.ref x :: st) X := by
  obtain ⟨hd, rfl⟩ := hd
  obtain ⟨C, Tt, N, ci, tf, h1, h2, h3, h4, h5, h6, h7, h8, h9⟩ := hf
  subst hx
  subst hy
  refine z_stepH (fun o ls H locs _ _ _ hw k1 => ?_) kk
  refine va_get o.1 o.2.1 o.2.2.2.2.1 h4.1 o.2.2.2.1 o.2.2.2.2.2.2.2 hw.1 _ (by rw [zw_get h2, zE_obj h1]) h3 _ h5 (o.2.2.2.2.1 _ h6) (fun _ q => q) (by rw [List.getElem?_map, List.getElem?_range h5]; rfl) hd ?_
  have e : zF Λ.1 (zad Λ.1 a g) u k j = .ref (zad Λ.1 a g (zR u k j)) := by unfold zF; rw [h7]; exact if_neg h0
  rw [e]; exact k1
theorem z_putI {idx k j x : Nat} {v : Int32} (hf : zFld Λ own idx k j 0 false .int) (hx : zad Λ.1 a g k = x) (hd : zD cc pc pc' (.putfield idx) 3) (kk : zJ κ Λ cc nL own rt ret fr d A c0 a g0 g (zsI u k j v) pc' lv (st) X) : zJ κ Λ cc nL own rt ret fr d A c0 a g0 g u pc lv (.int v :: .ref x :: st) X := by
  obtain ⟨hd, rfl⟩ := hd
  obtain ⟨C, Tt, N, ci, tf, h1, h2, h3, h4, h5, h6, h7, h8, h9⟩ := hf
  subst hx
  refine z_stepP (u1 := zsI u k j v) rfl (fun o ls H locs _ _ _ hw k1 => ?_) kk
  refine va_put o.1 o.2.1 o.2.2.2.2.1 h4.1 tf h4.2.1 h4.2.2 o.2.2.2.1 o.2.2.2.2.2.2.2 hw.1 hw.2.1 hw.2.2 _ (by rw [zw_get h2, zE_obj h1]) h3 _ h5 (o.2.2.2.2.1 _ h6) (fun _ q => q) h8 (by rw [h4.2.1 _ h5, h9]) rfl rfl (by simp [h5]) hd (fun H1 locs1 hP hD hS => ?_)
  have e := zw_set (T := Λ.1) (ca := Λ.2.1) (ad := zad Λ.1 a g) (u := u) (u' := zsI u k j v) (zE_obj h1).symm (fun i hi => zE_nI i hi)
  have e2 := zrow_set (N := N) (f := zF Λ.1 (zad Λ.1 a g) u k) (f' := zF Λ.1 (zad Λ.1 a g) (zsI u k j v) k) (v := .int v) (by unfold zF; rw [h7]; simp [zI, zsI]) (fun i hi => zF_nI (fun q => hi q.2))
  rw [e2, e] at hP hD
  exact k1 H1 locs1 ⟨hP, hD, hS⟩
theorem z_putZ {idx k j x : Nat} {v : Int32} (hf : zFld Λ own idx k j 0 false .boolean) (hx : zad Λ.1 a g k = x) (hb : v = 0 ∨ v = 1) (hd : zD cc pc pc' (.putfield idx) 3) (kk : zJ κ Λ cc nL own rt ret fr d A c0 a g0 g (zsI u k j v) pc' lv (st) X) : zJ κ Λ cc nL own rt ret fr d A c0 a g0 g u pc lv (.int v :: .ref x :: st) X := by
  obtain ⟨hd, rfl⟩ := hd
  obtain ⟨C, Tt, N, ci, tf, h1, h2, h3, h4, h5, h6, h7, h8, h9⟩ := hf
  subst hx
  refine z_stepP (u1 := zsI u k j v) rfl (fun o ls H locs _ _ _ hw k1 => ?_) kk
  refine va_put o.1 o.2.1 o.2.2.2.2.1 h4.1 tf h4.2.1 h4.2.2 o.2.2.2.1 o.2.2.2.2.2.2.2 hw.1 hw.2.1 hw.2.2 _ (by rw [zw_get h2, zE_obj h1]) h3 _ h5 (o.2.2.2.2.1 _ h6) (fun _ q => q) h8 (by rw [h4.2.1 _ h5, h9]) (by rcases hb with rfl | rfl <;> rfl) (by rcases hb with rfl | rfl <;> rfl) (by simp [h5]) hd (fun H1 locs1 hP hD hS => ?_)
  have e := zw_set (T := Λ.1) (ca := Λ.2.1) (ad := zad Λ.1 a g) (u := u) (u' := zsI u k j v) (zE_obj h1).symm (fun i hi => zE_nI i hi)
  have e2 := zrow_set (N := N) (f := zF Λ.1 (zad Λ.1 a g) u k) (f' := zF Λ.1 (zad Λ.1 a g) (zsI u k j v) k) (v := .int v) (by unfold zF; rw [h7]; simp [zI, zsI]) (fun i hi => zF_nI (fun q => hi q.2))
  rw [e2, e] at hP hD
  exact k1 H1 locs1 ⟨hP, hD, hS⟩
theorem z_putL {idx k j x : Nat} {v : Int64} (hf : zFld Λ own idx k j 1 false .long) (hx : zad Λ.1 a g k = x) (hd : zD cc pc pc' (.putfield idx) 3) (kk : zJ κ Λ cc nL own rt ret fr d A c0 a g0 g (zsL u k j v) pc' lv (st) X) : zJ κ Λ cc nL own rt ret fr d A c0 a g0 g u pc lv (.long v :: .ref x :: st) X := by
  obtain ⟨hd, rfl⟩ := hd
  obtain ⟨C, Tt, N, ci, tf, h1, h2, h3, h4, h5, h6, h7, h8, h9⟩ := hf
  subst hx
  refine z_stepP (u1 := zsL u k j v) rfl (fun o ls H locs _ _ _ hw k1 => ?_) kk
  refine va_put o.1 o.2.1 o.2.2.2.2.1 h4.1 tf h4.2.1 h4.2.2 o.2.2.2.1 o.2.2.2.2.2.2.2 hw.1 hw.2.1 hw.2.2 _ (by rw [zw_get h2, zE_obj h1]) h3 _ h5 (o.2.2.2.2.1 _ h6) (fun _ q => q) h8 (by rw [h4.2.1 _ h5, h9]) rfl rfl (by simp [h5]) hd (fun H1 locs1 hP hD hS => ?_)
  have e := zw_set (T := Λ.1) (ca := Λ.2.1) (ad := zad Λ.1 a g) (u := u) (u' := zsL u k j v) (zE_obj h1).symm (fun i hi => zE_nL i hi)
  have e2 := zrow_set (N := N) (f := zF Λ.1 (zad Λ.1 a g) u k) (f' := zF Λ.1 (zad Λ.1 a g) (zsL u k j v) k) (v := .long v) (by unfold zF; rw [h7]; simp [zL, zsL]) (fun i hi => zF_nL (fun q => hi q.2))
  rw [e2, e] at hP hD
  exact k1 H1 locs1 ⟨hP, hD, hS⟩
theorem z_putM {idx k j x y v : Nat} {C' : String} (hf : zFld Λ own idx k j 3 false (.object C')) (hx : zad Λ.1 a g k = x) (h0 : ¬ v = 0) (hy : zad Λ.1 a g v = y) (hd : zD cc pc pc' (.putfield idx) 3) (kk : zJ κ Λ cc nL own rt ret fr d A c0 a g0 g (zsR u k j v) pc' lv (st) X) : zJ κ Λ cc nL own rt ret fr d A c0 a g0 g u pc lv (.ref y :: .ref x :: st) X := by
  obtain ⟨hd, rfl⟩ := hd
  obtain ⟨C, Tt, N, ci, tf, h1, h2, h3, h4, h5, h6, h7, h8, h9⟩ := hf
  subst hx
  subst hy
  refine z_stepP (u1 := zsR u k j v) rfl (fun o ls H locs _ _ _ hw k1 => ?_) kk
  refine va_put o.1 o.2.1 o.2.2.2.2.1 h4.1 tf h4.2.1 h4.2.2 o.2.2.2.1 o.2.2.2.2.2.2.2 hw.1 hw.2.1 hw.2.2 _ (by rw [zw_get h2, zE_obj h1]) h3 _ h5 (o.2.2.2.2.1 _ h6) (fun _ q => q) h8 (by rw [h4.2.1 _ h5, h9]) rfl rfl (by simp [h5]) hd (fun H1 locs1 hP hD hS => ?_)
  have e := zw_set (T := Λ.1) (ca := Λ.2.1) (ad := zad Λ.1 a g) (u := u) (u' := zsR u k j v) (zE_obj h1).symm (fun i hi => zE_nR i hi)
  have e2 := zrow_set (N := N) (f := zF Λ.1 (zad Λ.1 a g) u k) (f' := zF Λ.1 (zad Λ.1 a g) (zsR u k j v) k) (v := .ref (zad Λ.1 a g v)) (by unfold zF; rw [h7]; simp [zR, zsR, h0]) (fun i hi => zF_nR (fun q => hi q.2))
  rw [e2, e] at hP hD
  exact k1 H1 locs1 ⟨hP, hD, hS⟩
theorem z_iald {x : Nat} (k : Nat) {n : Nat} {i : Int32} (hk : (Λ.1.2.2.1 k).1 = 1) (hkn : k < Λ.1.1) (hn : zlen Λ.1 u k = n) (hx : zad Λ.1 a g k = x) (hd : zD cc pc pc' .iaload 1) (kk : zJ κ Λ cc nL own rt ret fr d A c0 a g0 g u pc' lv (.int (zI u k (zx i)) :: st) X) : zJ κ Λ cc nL own rt ret fr d A c0 a g0 g u pc lv (.int i :: .ref x :: st) (zgd (zin i n) X) := by
  obtain ⟨hd, rfl⟩ := hd
  subst hx; subst hn
  intro r u' h
  obtain ⟨hi, h⟩ := zgd_some h
  exact z_stepH (fun o ls H locs _ _ _ hw k => va_iald o.1 o.2.1 o.2.2.2.2.2.2.2 hw.1 _ 0 (by rw [zw_get hkn, zE_int hk (by decide) (by decide)]; rfl) rfl (zin_in hi) hd k) kk r u' h
theorem z_iast {x : Nat} (k : Nat) {n : Nat} {i : Int32} {v : Int32} (hk : (Λ.1.2.2.1 k).1 = 1) (hkn : k < Λ.1.1) (hn : zlen Λ.1 u k = n) (hx : zad Λ.1 a g k = x) (hd : zD cc pc pc' .iastore 1) (kk : zJ κ Λ cc nL own rt ret fr d A c0 a g0 g (zsI u k (zx i) v) pc' lv (st) X) : zJ κ Λ cc nL own rt ret fr d A c0 a g0 g u pc lv (.int v :: .int i :: .ref x :: st) (zgd (zin i n) X) := by
  obtain ⟨hd, rfl⟩ := hd
  subst hx; subst hn
  intro r u' h
  obtain ⟨hi, h⟩ := zgd_some h
  refine z_stepP (u := u) (u1 := zsI u k (zx i) v) rfl (fun o ls H locs _ _ _ hw k1 => ?_) kk r u' h
  refine va_iast o.1 o.2.1 o.2.2.2.2.2.2.2 hw.1 hw.2.1 hw.2.2 _ 0 (by rw [zw_get hkn, zE_int hk (by decide) (by decide)]) rfl (zin_in hi) hd (fun H1 locs1 hP hD hS => ?_)
  have e := zw_set (T := Λ.1) (ca := Λ.2.1) (ad := zad Λ.1 a g) (u := u) (u' := zsI u k (zx i) v) (zE_int hk (by decide) (by decide)).symm (fun j hj => zE_nI j hj)
  have e2 : upd (u.1 k) i.toNatClampNeg v = (zsI u k (zx i) v).1 k := funext fun j => by simp [upd, zsI, zx]
  rw [e2] at hP hD
  have hP := (congrArg (fun z => va_P Λ.2.2.1 Λ.2.2.2.1 z H1) e).mp hP
  have hD := (congrArg (fun z => va_D A z) e).mp hD
  exact k1 H1 locs1 ⟨hP, hD, hS⟩
theorem z_bald {x : Nat} (k : Nat) {n : Nat} {i : Int32} (hk : (Λ.1.2.2.1 k).1 = 2) (hkn : k < Λ.1.1) (hn : zlen Λ.1 u k = n) (hx : zad Λ.1 a g k = x) (hd : zD cc pc pc' .baload 1) (kk : zJ κ Λ cc nL own rt ret fr d A c0 a g0 g u pc' lv (.int (zI u k (zx i)) :: st) X) : zJ κ Λ cc nL own rt ret fr d A c0 a g0 g u pc lv (.int i :: .ref x :: st) (zgd (zin i n) X) := by
  obtain ⟨hd, rfl⟩ := hd
  subst hx; subst hn
  intro r u' h
  obtain ⟨hi, h⟩ := zgd_some h
  exact z_stepH (fun o ls H locs _ _ _ hw k => va_bald o.1 o.2.1 o.2.2.2.2.2.2.2 hw.1 _ 1 (by rw [zw_get hkn, zE_int hk (by decide) (by decide)]; rfl) rfl (zin_in hi) hd k) kk r u' h
theorem z_bast {x : Nat} (k : Nat) {n : Nat} {i : Int32} {v : Int32} (hk : (Λ.1.2.2.1 k).1 = 2) (hkn : k < Λ.1.1) (hn : zlen Λ.1 u k = n) (hx : zad Λ.1 a g k = x) (hd : zD cc pc pc' .bastore 1) (kk : zJ κ Λ cc nL own rt ret fr d A c0 a g0 g (zsI u k (zx i) (vp_nar .byte v)) pc' lv (st) X) : zJ κ Λ cc nL own rt ret fr d A c0 a g0 g u pc lv (.int v :: .int i :: .ref x :: st) (zgd (zin i n) X) := by
  obtain ⟨hd, rfl⟩ := hd
  subst hx; subst hn
  intro r u' h
  obtain ⟨hi, h⟩ := zgd_some h
  refine z_stepP (u := u) (u1 := zsI u k (zx i) (vp_nar .byte v)) rfl (fun o ls H locs _ _ _ hw k1 => ?_) kk r u' h
  refine va_bast o.1 o.2.1 o.2.2.2.2.2.2.2 hw.1 hw.2.1 hw.2.2 _ 1 (by rw [zw_get hkn, zE_int hk (by decide) (by decide)]) rfl (zin_in hi) hd (fun H1 locs1 hP hD hS => ?_)
  have e := zw_set (T := Λ.1) (ca := Λ.2.1) (ad := zad Λ.1 a g) (u := u) (u' := zsI u k (zx i) (vp_nar .byte v)) (zE_int hk (by decide) (by decide)).symm (fun j hj => zE_nI j hj)
  have e2 : upd (u.1 k) i.toNatClampNeg (vp_nar .byte v) = (zsI u k (zx i) (vp_nar .byte v)).1 k := funext fun j => by simp [upd, zsI, zx]
  rw [e2] at hP hD
  have hP := (congrArg (fun z => va_P Λ.2.2.1 Λ.2.2.2.1 z H1) e).mp hP
  have hD := (congrArg (fun z => va_D A z) e).mp hD
  exact k1 H1 locs1 ⟨hP, hD, hS⟩
theorem z_sald {x : Nat} (k : Nat) {n : Nat} {i : Int32} (hk : (Λ.1.2.2.1 k).1 = 3) (hkn : k < Λ.1.1) (hn : zlen Λ.1 u k = n) (hx : zad Λ.1 a g k = x) (hd : zD cc pc pc' .saload 1) (kk : zJ κ Λ cc nL own rt ret fr d A c0 a g0 g u pc' lv (.int (zI u k (zx i)) :: st) X) : zJ κ Λ cc nL own rt ret fr d A c0 a g0 g u pc lv (.int i :: .ref x :: st) (zgd (zin i n) X) := by
  obtain ⟨hd, rfl⟩ := hd
  subst hx; subst hn
  intro r u' h
  obtain ⟨hi, h⟩ := zgd_some h
  exact z_stepH (fun o ls H locs _ _ _ hw k => va_sald o.1 o.2.1 o.2.2.2.2.2.2.2 hw.1 _ 2 (by rw [zw_get hkn, zE_int hk (by decide) (by decide)]; rfl) rfl (zin_in hi) hd k) kk r u' h
theorem z_sast {x : Nat} (k : Nat) {n : Nat} {i : Int32} {v : Int32} (hk : (Λ.1.2.2.1 k).1 = 3) (hkn : k < Λ.1.1) (hn : zlen Λ.1 u k = n) (hx : zad Λ.1 a g k = x) (hd : zD cc pc pc' .sastore 1) (kk : zJ κ Λ cc nL own rt ret fr d A c0 a g0 g (zsI u k (zx i) (vp_nar .short v)) pc' lv (st) X) : zJ κ Λ cc nL own rt ret fr d A c0 a g0 g u pc lv (.int v :: .int i :: .ref x :: st) (zgd (zin i n) X) := by
  obtain ⟨hd, rfl⟩ := hd
  subst hx; subst hn
  intro r u' h
  obtain ⟨hi, h⟩ := zgd_some h
  refine z_stepP (u := u) (u1 := zsI u k (zx i) (vp_nar .short v)) rfl (fun o ls H locs _ _ _ hw k1 => ?_) kk r u' h
  refine va_sast o.1 o.2.1 o.2.2.2.2.2.2.2 hw.1 hw.2.1 hw.2.2 _ 2 (by rw [zw_get hkn, zE_int hk (by decide) (by decide)]) rfl (zin_in hi) hd (fun H1 locs1 hP hD hS => ?_)
  have e := zw_set (T := Λ.1) (ca := Λ.2.1) (ad := zad Λ.1 a g) (u := u) (u' := zsI u k (zx i) (vp_nar .short v)) (zE_int hk (by decide) (by decide)).symm (fun j hj => zE_nI j hj)
  have e2 : upd (u.1 k) i.toNatClampNeg (vp_nar .short v) = (zsI u k (zx i) (vp_nar .short v)).1 k := funext fun j => by simp [upd, zsI, zx]
  rw [e2] at hP hD
  have hP := (congrArg (fun z => va_P Λ.2.2.1 Λ.2.2.2.1 z H1) e).mp hP
  have hD := (congrArg (fun z => va_D A z) e).mp hD
  exact k1 H1 locs1 ⟨hP, hD, hS⟩
theorem z_zald {x : Nat} (k : Nat) {n : Nat} {i : Int32} (hk : (Λ.1.2.2.1 k).1 = 4) (hkn : k < Λ.1.1) (hn : zlen Λ.1 u k = n) (hx : zad Λ.1 a g k = x) (hd : zD cc pc pc' .baload 1) (kk : zJ κ Λ cc nL own rt ret fr d A c0 a g0 g u pc' lv (.int (zI u k (zx i)) :: st) X) : zJ κ Λ cc nL own rt ret fr d A c0 a g0 g u pc lv (.int i :: .ref x :: st) (zgd (zin i n) X) := by
  obtain ⟨hd, rfl⟩ := hd
  subst hx; subst hn
  intro r u' h
  obtain ⟨hi, h⟩ := zgd_some h
  exact z_stepH (fun o ls H locs _ _ _ hw k => va_zald o.1 o.2.1 o.2.2.2.2.2.2.2 hw.1 _ 3 (by rw [zw_get hkn, zE_int hk (by decide) (by decide)]; rfl) rfl (zin_in hi) hd k) kk r u' h
theorem z_zast {x : Nat} (k : Nat) {n : Nat} {i : Int32} {v : Int32} (hk : (Λ.1.2.2.1 k).1 = 4) (hkn : k < Λ.1.1) (hn : zlen Λ.1 u k = n) (hx : zad Λ.1 a g k = x) (hd : zD cc pc pc' .bastore 1) (kk : zJ κ Λ cc nL own rt ret fr d A c0 a g0 g (zsI u k (zx i) (vp_nar .boolean v)) pc' lv (st) X) : zJ κ Λ cc nL own rt ret fr d A c0 a g0 g u pc lv (.int v :: .int i :: .ref x :: st) (zgd (zin i n) X) := by
  obtain ⟨hd, rfl⟩ := hd
  subst hx; subst hn
  intro r u' h
  obtain ⟨hi, h⟩ := zgd_some h
  refine z_stepP (u := u) (u1 := zsI u k (zx i) (vp_nar .boolean v)) rfl (fun o ls H locs _ _ _ hw k1 => ?_) kk r u' h
  refine va_zast o.1 o.2.1 o.2.2.2.2.2.2.2 hw.1 hw.2.1 hw.2.2 _ 3 (by rw [zw_get hkn, zE_int hk (by decide) (by decide)]) rfl (zin_in hi) hd (fun H1 locs1 hP hD hS => ?_)
  have e := zw_set (T := Λ.1) (ca := Λ.2.1) (ad := zad Λ.1 a g) (u := u) (u' := zsI u k (zx i) (vp_nar .boolean v)) (zE_int hk (by decide) (by decide)).symm (fun j hj => zE_nI j hj)
  have e2 : upd (u.1 k) i.toNatClampNeg (vp_nar .boolean v) = (zsI u k (zx i) (vp_nar .boolean v)).1 k := funext fun j => by simp [upd, zsI, zx]
  rw [e2] at hP hD
  have hP := (congrArg (fun z => va_P Λ.2.2.1 Λ.2.2.2.1 z H1) e).mp hP
  have hD := (congrArg (fun z => va_D A z) e).mp hD
  exact k1 H1 locs1 ⟨hP, hD, hS⟩
theorem z_lald {x : Nat} (k : Nat) {n : Nat} {i : Int32} (hk : (Λ.1.2.2.1 k).1 = 5) (hkn : k < Λ.1.1) (hn : zlen Λ.1 u k = n) (hx : zad Λ.1 a g k = x) (hd : zD cc pc pc' .laload 1) (kk : zJ κ Λ cc nL own rt ret fr d A c0 a g0 g u pc' lv (.long (zL u k (zx i)) :: st) X) : zJ κ Λ cc nL own rt ret fr d A c0 a g0 g u pc lv (.int i :: .ref x :: st) (zgd (zin i n) X) := by
  obtain ⟨hd, rfl⟩ := hd
  subst hx; subst hn
  intro r u' h
  obtain ⟨hi, h⟩ := zgd_some h
  exact z_stepH (fun o ls H locs _ _ _ hw k => va_lald o.1 o.2.1 o.2.2.2.2.2.2.2 hw.1 _ 4 (by rw [zw_get hkn, zE_long hk]; rfl) rfl (zin_in hi) hd k) kk r u' h
theorem z_last {x : Nat} (k : Nat) {n : Nat} {i : Int32} {v : Int64} (hk : (Λ.1.2.2.1 k).1 = 5) (hkn : k < Λ.1.1) (hn : zlen Λ.1 u k = n) (hx : zad Λ.1 a g k = x) (hd : zD cc pc pc' .lastore 1) (kk : zJ κ Λ cc nL own rt ret fr d A c0 a g0 g (zsL u k (zx i) v) pc' lv (st) X) : zJ κ Λ cc nL own rt ret fr d A c0 a g0 g u pc lv (.long v :: .int i :: .ref x :: st) (zgd (zin i n) X) := by
  obtain ⟨hd, rfl⟩ := hd
  subst hx; subst hn
  intro r u' h
  obtain ⟨hi, h⟩ := zgd_some h
  refine z_stepP (u := u) (u1 := zsL u k (zx i) v) rfl (fun o ls H locs _ _ _ hw k1 => ?_) kk r u' h
  refine va_last o.1 o.2.1 o.2.2.2.2.2.2.2 hw.1 hw.2.1 hw.2.2 _ 4 (by rw [zw_get hkn, zE_long hk]) rfl (zin_in hi) hd (fun H1 locs1 hP hD hS => ?_)
  have e := zw_set (T := Λ.1) (ca := Λ.2.1) (ad := zad Λ.1 a g) (u := u) (u' := zsL u k (zx i) v) (zE_long hk).symm (fun j hj => zE_nL j hj)
  have e2 : vp_updL (u.2.1 k) i.toNatClampNeg v = (zsL u k (zx i) v).2.1 k := funext fun j => by simp [vp_updL, zsL, zx]
  rw [e2] at hP hD
  have hP := (congrArg (fun z => va_P Λ.2.2.1 Λ.2.2.2.1 z H1) e).mp hP
  have hD := (congrArg (fun z => va_D A z) e).mp hD
  exact k1 H1 locs1 ⟨hP, hD, hS⟩
theorem z_alen {x : Nat} (k : Nat) {t p n : Nat} {ty : FieldType} {v : Int32} (hk : (Λ.1.2.2.1 k).1 = t) (ht : (zTys Λ.2.1)[p]? = some (Λ.2.1 t, ty)) (h0 : t ≠ 0) (hkn : k < Λ.1.1) (hn : zlen Λ.1 u k = n) (hx : zad Λ.1 a g k = x) (hv : Int32.ofNat n = v) (hd : zD cc pc pc' .arraylength 1) (kk : zJ κ Λ cc nL own rt ret fr d A c0 a g0 g u pc' lv (.int v :: st) X) : zJ κ Λ cc nL own rt ret fr d A c0 a g0 g u pc lv (.ref x :: st) X := by
  obtain ⟨hd, rfl⟩ := hd
  subst hx; subst hn; subst hv
  by_cases h5 : t = 5
  · subst h5
    exact z_stepH (fun o ls H locs _ _ _ hw k => va_alen o.1 o.2.1 o.2.2.2.2.2.2.2 hw.1 _ p (by rw [zw_get hkn, zE_long hk]) ht rfl hd k) kk
  · exact z_stepH (fun o ls H locs _ _ _ hw k => va_alen o.1 o.2.1 o.2.2.2.2.2.2.2 hw.1 _ p (by rw [zw_get hkn, zE_int hk h0 h5]) ht rfl hd k) kk
theorem z_iret {v : Int32} (hd : zD cc pc pc' .ireturn 1) : zJ κ Λ cc nL own (some .int) zri fr d A c0 a g0 g u pc lv [.int v] (some (v, u)) := by
  obtain ⟨hd, -⟩ := hd
  intro r u' h
  cases h
  refine ⟨zrel_rf, fun h1 h2 h3 h4 h5 ls H locs hl hw => ?_⟩
  exact W.iret h2.1 h2.2.1 h2.2.2.2.2.2.1 (fun t ht hW => ⟨rfl, ⟨g, h4, by rw [ht]; exact hw.1, va_K.moved hW.alike h2.2.2.2.2.2.2.2, hw.2.1⟩, hw.2.2.F ht⟩) hw.2.2.2.2 hd h2.2.2.2.2.2.2.1
theorem z_lret {v : Int64} (hd : zD cc pc pc' .lreturn 1) : zJ κ Λ cc nL own (some .long) zrl fr d A c0 a g0 g u pc lv [.long v] (some (v, u)) := by
  obtain ⟨hd, -⟩ := hd
  intro r u' h
  cases h
  refine ⟨zrel_rf, fun h1 h2 h3 h4 h5 ls H locs hl hw => ?_⟩
  exact W.lret h2.1 h2.2.1 h2.2.2.2.2.2.1 (fun t ht hW => ⟨rfl, ⟨g, h4, by rw [ht]; exact hw.1, va_K.moved hW.alike h2.2.2.2.2.2.2.2, hw.2.1⟩, hw.2.2.F ht⟩) hw.2.2.2.2 hd h2.2.2.2.2.2.2.1
theorem z_vret (hd : zD cc pc pc' .return_ 1) : zJ κ Λ cc nL own (none) zrv fr d A c0 a g0 g u pc lv [] (some ((), u)) := by
  obtain ⟨hd, -⟩ := hd
  intro r u' h
  cases h
  refine ⟨zrel_rf, fun h1 h2 h3 h4 h5 ls H locs hl hw => ?_⟩
  exact W.vret h2.1 h2.2.1 h2.2.2.2.2.2.1 (fun t ht hW => ⟨rfl, ⟨g, h4, by rw [ht]; exact hw.1, va_K.moved hW.alike h2.2.2.2.2.2.2.2, hw.2.1⟩, hw.2.2.F ht⟩) hw.2.2.2.2 hd h2.2.2.2.2.2.2.1
theorem z_zret {v : Int32} (hb : v = 0 ∨ v = 1) (hd : zD cc pc pc' .ireturn 1) : zJ κ Λ cc nL own (some .boolean) zri fr d A c0 a g0 g u pc lv [.int v] (some (v, u)) := by
  obtain ⟨hd, -⟩ := hd
  intro r u' h
  cases h
  refine ⟨zrel_rf, fun h1 h2 h3 h4 h5 ls H locs hl hw => ?_⟩
  exact W.zret h2.1 h2.2.1 h2.2.2.2.2.2.1 (by rcases hb with rfl | rfl <;> rfl) (fun t ht hW => ⟨rfl, ⟨g, h4, by rw [ht]; exact hw.1, va_K.moved hW.alike h2.2.2.2.2.2.2.2, hw.2.1⟩, hw.2.2.F ht⟩) hw.2.2.2.2 hd h2.2.2.2.2.2.2.1
end zHeap
