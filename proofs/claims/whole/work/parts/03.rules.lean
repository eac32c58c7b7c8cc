section zRules
variable {ρ : Type} {κ : zKx} {Λ : zSd} {cc : ByteArray} {nL : Nat} {own : String} {rt : Option FieldType} {ret : ρ → Option Value} {fr : Bool} {d : Nat} {A : Nat → Prop} {c0 : Nat × Nat} {a g0 g : Nat → Nat} {u : zMu} {pc pc' : Nat} {lv : List (Nat × Value)} {st : List Value} {X : Option (ρ × zMu)}
/-- an instruction that leaves the heap and the locals -/
theorem z_step {st' : List Value} (f : zOk κ Λ cc nL own rt → ∀ (ls : Array Slot) (H : Heap) (locs : List Loc) (cells slots : Nat) (Q : State → Prop), lv_has ls nL lv → zW κ H locs cells slots Q (F0 (zKm κ) pc' ls st') → zW κ H locs cells slots Q (F0 (zKm κ) pc ls st)) (k : zJ κ Λ cc nL own rt ret fr d A c0 a g0 g u pc' lv (st') X) : zJ κ Λ cc nL own rt ret fr d A c0 a g0 g u pc lv (st) X :=
  fun r u' h => ⟨(k r u' h).1, fun h1 h2 h3 h4 h5 ls H locs hl hw => f h2 ls H locs _ _ _ hl ((k r u' h).2 h1 h2 h3 h4 h5 ls H locs hl hw)⟩
/-- an instruction that leaves the heap -/
theorem z_stepL {lv' : List (Nat × Value)} {st' : List Value} (f : zOk κ Λ cc nL own rt → ∀ (ls : Array Slot) (H : Heap) (locs : List Loc) (cells slots : Nat) (Q : State → Prop), lv_has ls nL lv → (∀ ls' : Array Slot, lv_has ls' nL lv' → zW κ H locs cells slots Q (F0 (zKm κ) pc' ls' st')) → zW κ H locs cells slots Q (F0 (zKm κ) pc ls st)) (k : zJ κ Λ cc nL own rt ret fr d A c0 a g0 g u pc' lv' (st') X) : zJ κ Λ cc nL own rt ret fr d A c0 a g0 g u pc lv (st) X :=
  fun r u' h => ⟨(k r u' h).1, fun h1 h2 h3 h4 h5 ls H locs hl hw => f h2 ls H locs _ _ _ hl (fun ls' hl' => (k r u' h).2 h1 h2 h3 h4 h5 ls' H locs hl' hw)⟩
theorem z_iconst {n : Int} {v : Int32} (hv : Int32.ofInt n = v) (hd : zD cc pc pc' (.iconst n) 1) (k : zJ κ Λ cc nL own rt ret fr d A c0 a g0 g u pc' lv (.int v :: st) X) : zJ κ Λ cc nL own rt ret fr d A c0 a g0 g u pc lv (st) X := by
  obtain ⟨hd, rfl⟩ := hd
  exact z_step (fun o ls H locs _ _ _ hl k => lv_iconst o.1 o.2.1 hd hv k) k
theorem z_bipush {n : Int} {v : Int32} (hv : (Int8.ofInt n).toInt32 = v) (hd : zD cc pc pc' (.bipush n) 2) (k : zJ κ Λ cc nL own rt ret fr d A c0 a g0 g u pc' lv (.int v :: st) X) : zJ κ Λ cc nL own rt ret fr d A c0 a g0 g u pc lv (st) X := by
  obtain ⟨hd, rfl⟩ := hd
  exact z_step (fun o ls H locs _ _ _ hl k => lv_bipush o.1 o.2.1 hd hv k) k
theorem z_sipush {n : Int} {v : Int32} (hv : (Int16.ofInt n).toInt32 = v) (hd : zD cc pc pc' (.sipush n) 3) (k : zJ κ Λ cc nL own rt ret fr d A c0 a g0 g u pc' lv (.int v :: st) X) : zJ κ Λ cc nL own rt ret fr d A c0 a g0 g u pc lv (st) X := by
  obtain ⟨hd, rfl⟩ := hd
  exact z_step (fun o ls H locs _ _ _ hl k => lv_sipush o.1 o.2.1 hd hv k) k
theorem z_lconst {n : Fin 2} {v : Int64} (hv : Int64.ofNat (n : Nat) = v) (hd : zD cc pc pc' (.lconst n) 1) (k : zJ κ Λ cc nL own rt ret fr d A c0 a g0 g u pc' lv (.long v :: st) X) : zJ κ Λ cc nL own rt ret fr d A c0 a g0 g u pc lv (st) X := by
  obtain ⟨hd, rfl⟩ := hd
  exact z_step (fun o ls H locs _ _ _ hl k => lv_lconst o.1 o.2.1 hd hv k) k
theorem z_iload_n {k : Fin 4} {i : Nat} {x : Int32} (q : Nat) (hi : (k : Nat) = i) (hq : lv[q]? = some (i, .int x)) (hd : zD cc pc pc' (.iload_n k) 1) (k : zJ κ Λ cc nL own rt ret fr d A c0 a g0 g u pc' lv (.int x :: st) X) : zJ κ Λ cc nL own rt ret fr d A c0 a g0 g u pc lv (st) X := by
  obtain ⟨hd, rfl⟩ := hd
  exact z_step (fun o ls H locs _ _ _ hl k => lv_iload_n o.1 o.2.1 hd hi (lv_at hl q hq) k) k
theorem z_iload {i : Nat} {x : Int32} (q : Nat) (hq : lv[q]? = some (i, .int x)) (hd : zD cc pc pc' (.iload i) 2) (k : zJ κ Λ cc nL own rt ret fr d A c0 a g0 g u pc' lv (.int x :: st) X) : zJ κ Λ cc nL own rt ret fr d A c0 a g0 g u pc lv (st) X := by
  obtain ⟨hd, rfl⟩ := hd
  exact z_step (fun o ls H locs _ _ _ hl k => lv_iload o.1 o.2.1 hd (lv_at hl q hq) k) k
theorem z_lload_n {k : Fin 4} {i : Nat} {x : Int64} (q : Nat) (hi : (k : Nat) = i) (hq : lv[q]? = some (i, .long x)) (hd : zD cc pc pc' (.lload_n k) 1) (k : zJ κ Λ cc nL own rt ret fr d A c0 a g0 g u pc' lv (.long x :: st) X) : zJ κ Λ cc nL own rt ret fr d A c0 a g0 g u pc lv (st) X := by
  obtain ⟨hd, rfl⟩ := hd
  exact z_step (fun o ls H locs _ _ _ hl k => lv_lload_n o.1 o.2.1 hd hi (lv_at hl q hq) k) k
theorem z_lload {i : Nat} {x : Int64} (q : Nat) (hq : lv[q]? = some (i, .long x)) (hd : zD cc pc pc' (.lload i) 2) (k : zJ κ Λ cc nL own rt ret fr d A c0 a g0 g u pc' lv (.long x :: st) X) : zJ κ Λ cc nL own rt ret fr d A c0 a g0 g u pc lv (st) X := by
  obtain ⟨hd, rfl⟩ := hd
  exact z_step (fun o ls H locs _ _ _ hl k => lv_lload o.1 o.2.1 hd (lv_at hl q hq) k) k
theorem z_aload_n {k : Fin 4} {i : Nat} {x : Nat} (q : Nat) (hi : (k : Nat) = i) (hq : lv[q]? = some (i, .ref x)) (hd : zD cc pc pc' (.aload_n k) 1) (k : zJ κ Λ cc nL own rt ret fr d A c0 a g0 g u pc' lv (.ref x :: st) X) : zJ κ Λ cc nL own rt ret fr d A c0 a g0 g u pc lv (st) X := by
  obtain ⟨hd, rfl⟩ := hd
  exact z_step (fun o ls H locs _ _ _ hl k => lv_aload_n o.1 o.2.1 hd hi (lv_at hl q hq) k) k
theorem z_aload {i : Nat} {x : Nat} (q : Nat) (hq : lv[q]? = some (i, .ref x)) (hd : zD cc pc pc' (.aload i) 2) (k : zJ κ Λ cc nL own rt ret fr d A c0 a g0 g u pc' lv (.ref x :: st) X) : zJ κ Λ cc nL own rt ret fr d A c0 a g0 g u pc lv (st) X := by
  obtain ⟨hd, rfl⟩ := hd
  exact z_step (fun o ls H locs _ _ _ hl k => lv_aload o.1 o.2.1 hd (lv_at hl q hq) k) k
theorem z_iadd {x y : Int32} (hd : zD cc pc pc' .iadd 1) (k : zJ κ Λ cc nL own rt ret fr d A c0 a g0 g u pc' lv (.int (x + y) :: st) X) : zJ κ Λ cc nL own rt ret fr d A c0 a g0 g u pc lv (.int y :: .int x :: st) X := by
  obtain ⟨hd, rfl⟩ := hd
  exact z_step (fun o ls H locs _ _ _ hl k => lv_iadd o.1 o.2.1 hd k) k
theorem z_isub {x y : Int32} (hd : zD cc pc pc' .isub 1) (k : zJ κ Λ cc nL own rt ret fr d A c0 a g0 g u pc' lv (.int (x - y) :: st) X) : zJ κ Λ cc nL own rt ret fr d A c0 a g0 g u pc lv (.int y :: .int x :: st) X := by
  obtain ⟨hd, rfl⟩ := hd
  exact z_step (fun o ls H locs _ _ _ hl k => lv_isub o.1 o.2.1 hd k) k
theorem z_imul {x y : Int32} (hd : zD cc pc pc' .imul 1) (k : zJ κ Λ cc nL own rt ret fr d A c0 a g0 g u pc' lv (.int (x * y) :: st) X) : zJ κ Λ cc nL own rt ret fr d A c0 a g0 g u pc lv (.int y :: .int x :: st) X := by
  obtain ⟨hd, rfl⟩ := hd
  exact z_step (fun o ls H locs _ _ _ hl k => lv_imul o.1 o.2.1 hd k) k
theorem z_iand {x y : Int32} (hd : zD cc pc pc' .iand 1) (k : zJ κ Λ cc nL own rt ret fr d A c0 a g0 g u pc' lv (.int (x &&& y) :: st) X) : zJ κ Λ cc nL own rt ret fr d A c0 a g0 g u pc lv (.int y :: .int x :: st) X := by
  obtain ⟨hd, rfl⟩ := hd
  exact z_step (fun o ls H locs _ _ _ hl k => lv_iand o.1 o.2.1 hd k) k
theorem z_ior {x y : Int32} (hd : zD cc pc pc' .ior 1) (k : zJ κ Λ cc nL own rt ret fr d A c0 a g0 g u pc' lv (.int (x ||| y) :: st) X) : zJ κ Λ cc nL own rt ret fr d A c0 a g0 g u pc lv (.int y :: .int x :: st) X := by
  obtain ⟨hd, rfl⟩ := hd
  exact z_step (fun o ls H locs _ _ _ hl k => lv_ior o.1 o.2.1 hd k) k
theorem z_ixor {x y : Int32} (hd : zD cc pc pc' .ixor 1) (k : zJ κ Λ cc nL own rt ret fr d A c0 a g0 g u pc' lv (.int (x ^^^ y) :: st) X) : zJ κ Λ cc nL own rt ret fr d A c0 a g0 g u pc lv (.int y :: .int x :: st) X := by
  obtain ⟨hd, rfl⟩ := hd
  exact z_step (fun o ls H locs _ _ _ hl k => lv_ixor o.1 o.2.1 hd k) k
theorem z_ladd {x y : Int64} (hd : zD cc pc pc' .ladd 1) (k : zJ κ Λ cc nL own rt ret fr d A c0 a g0 g u pc' lv (.long (x + y) :: st) X) : zJ κ Λ cc nL own rt ret fr d A c0 a g0 g u pc lv (.long y :: .long x :: st) X := by
  obtain ⟨hd, rfl⟩ := hd
  exact z_step (fun o ls H locs _ _ _ hl k => lv_ladd o.1 o.2.1 hd k) k
theorem z_lsub {x y : Int64} (hd : zD cc pc pc' .lsub 1) (k : zJ κ Λ cc nL own rt ret fr d A c0 a g0 g u pc' lv (.long (x - y) :: st) X) : zJ κ Λ cc nL own rt ret fr d A c0 a g0 g u pc lv (.long y :: .long x :: st) X := by
  obtain ⟨hd, rfl⟩ := hd
  exact z_step (fun o ls H locs _ _ _ hl k => lv_lsub o.1 o.2.1 hd k) k
theorem z_lmul {x y : Int64} (hd : zD cc pc pc' .lmul 1) (k : zJ κ Λ cc nL own rt ret fr d A c0 a g0 g u pc' lv (.long (x * y) :: st) X) : zJ κ Λ cc nL own rt ret fr d A c0 a g0 g u pc lv (.long y :: .long x :: st) X := by
  obtain ⟨hd, rfl⟩ := hd
  exact z_step (fun o ls H locs _ _ _ hl k => lv_lmul o.1 o.2.1 hd k) k
theorem z_land {x y : Int64} (hd : zD cc pc pc' .land 1) (k : zJ κ Λ cc nL own rt ret fr d A c0 a g0 g u pc' lv (.long (x &&& y) :: st) X) : zJ κ Λ cc nL own rt ret fr d A c0 a g0 g u pc lv (.long y :: .long x :: st) X := by
  obtain ⟨hd, rfl⟩ := hd
  exact z_step (fun o ls H locs _ _ _ hl k => lv_land o.1 o.2.1 hd k) k
theorem z_lor {x y : Int64} (hd : zD cc pc pc' .lor 1) (k : zJ κ Λ cc nL own rt ret fr d A c0 a g0 g u pc' lv (.long (x ||| y) :: st) X) : zJ κ Λ cc nL own rt ret fr d A c0 a g0 g u pc lv (.long y :: .long x :: st) X := by
  obtain ⟨hd, rfl⟩ := hd
  exact z_step (fun o ls H locs _ _ _ hl k => lv_lor o.1 o.2.1 hd k) k
theorem z_lxor {x y : Int64} (hd : zD cc pc pc' .lxor 1) (k : zJ κ Λ cc nL own rt ret fr d A c0 a g0 g u pc' lv (.long (x ^^^ y) :: st) X) : zJ κ Λ cc nL own rt ret fr d A c0 a g0 g u pc lv (.long y :: .long x :: st) X := by
  obtain ⟨hd, rfl⟩ := hd
  exact z_step (fun o ls H locs _ _ _ hl k => lv_lxor o.1 o.2.1 hd k) k
theorem z_lneg {x : Int64} (hd : zD cc pc pc' .lneg 1) (k : zJ κ Λ cc nL own rt ret fr d A c0 a g0 g u pc' lv (.long (-x) :: st) X) : zJ κ Λ cc nL own rt ret fr d A c0 a g0 g u pc lv (.long x :: st) X := by
  obtain ⟨hd, rfl⟩ := hd
  exact z_step (fun o ls H locs _ _ _ hl k => lv_lneg o.1 o.2.1 hd k) k
theorem z_ineg {x : Int32} (hd : zD cc pc pc' .ineg 1) (k : zJ κ Λ cc nL own rt ret fr d A c0 a g0 g u pc' lv (.int (-x) :: st) X) : zJ κ Λ cc nL own rt ret fr d A c0 a g0 g u pc lv (.int x :: st) X := by
  obtain ⟨hd, rfl⟩ := hd
  exact z_step (fun o ls H locs _ _ _ hl k => lv_ineg o.1 o.2.1 hd k) k
theorem z_i2l {x : Int32} (hd : zD cc pc pc' .i2l 1) (k : zJ κ Λ cc nL own rt ret fr d A c0 a g0 g u pc' lv (.long x.toInt64 :: st) X) : zJ κ Λ cc nL own rt ret fr d A c0 a g0 g u pc lv (.int x :: st) X := by
  obtain ⟨hd, rfl⟩ := hd
  exact z_step (fun o ls H locs _ _ _ hl k => lv_i2l o.1 o.2.1 hd rfl k) k
theorem z_l2i {x : Int64} (hd : zD cc pc pc' .l2i 1) (k : zJ κ Λ cc nL own rt ret fr d A c0 a g0 g u pc' lv (.int x.toInt32 :: st) X) : zJ κ Λ cc nL own rt ret fr d A c0 a g0 g u pc lv (.long x :: st) X := by
  obtain ⟨hd, rfl⟩ := hd
  exact z_step (fun o ls H locs _ _ _ hl k => lv_l2i o.1 o.2.1 hd rfl k) k
theorem z_i2b {x : Int32} (hd : zD cc pc pc' .i2b 1) (k : zJ κ Λ cc nL own rt ret fr d A c0 a g0 g u pc' lv (.int x.toInt8.toInt32 :: st) X) : zJ κ Λ cc nL own rt ret fr d A c0 a g0 g u pc lv (.int x :: st) X := by
  obtain ⟨hd, rfl⟩ := hd
  exact z_step (fun o ls H locs _ _ _ hl k => lv_i2b o.1 o.2.1 hd rfl k) k
theorem z_i2s {x : Int32} (hd : zD cc pc pc' .i2s 1) (k : zJ κ Λ cc nL own rt ret fr d A c0 a g0 g u pc' lv (.int x.toInt16.toInt32 :: st) X) : zJ κ Λ cc nL own rt ret fr d A c0 a g0 g u pc lv (.int x :: st) X := by
  obtain ⟨hd, rfl⟩ := hd
  exact z_step (fun o ls H locs _ _ _ hl k => lv_i2s o.1 o.2.1 hd rfl k) k
theorem z_i2c {x : Int32} (hd : zD cc pc pc' .i2c 1) (k : zJ κ Λ cc nL own rt ret fr d A c0 a g0 g u pc' lv (.int (x.toUInt32 % 65536).toInt32 :: st) X) : zJ κ Λ cc nL own rt ret fr d A c0 a g0 g u pc lv (.int x :: st) X := by
  obtain ⟨hd, rfl⟩ := hd
  exact z_step (fun o ls H locs _ _ _ hl k => lv_i2c o.1 o.2.1 hd rfl k) k
theorem z_lushr {x : Int64} {y : Int32} (hd : zD cc pc pc' .lushr 1) (k : zJ κ Λ cc nL own rt ret fr d A c0 a g0 g u pc' lv (.long (x.toUInt64 >>> (y.toInt64.toUInt64 &&& Int64.toUInt64 63)).toInt64 :: st) X) : zJ κ Λ cc nL own rt ret fr d A c0 a g0 g u pc lv (.int y :: .long x :: st) X := by
  obtain ⟨hd, rfl⟩ := hd
  exact z_step (fun o ls H locs _ _ _ hl k => lv_lushr o.1 o.2.1 hd rfl k) k
theorem z_lshl {x : Int64} {y : Int32} (hd : zD cc pc pc' .lshl 1) (k : zJ κ Λ cc nL own rt ret fr d A c0 a g0 g u pc' lv (.long (x <<< (y.toInt64 &&& 63)) :: st) X) : zJ κ Λ cc nL own rt ret fr d A c0 a g0 g u pc lv (.int y :: .long x :: st) X := by
  obtain ⟨hd, rfl⟩ := hd
  exact z_step (fun o ls H locs _ _ _ hl k => lv_lshl o.1 o.2.1 hd rfl k) k
theorem z_lshr {x : Int64} {y : Int32} (hd : zD cc pc pc' .lshr 1) (k : zJ κ Λ cc nL own rt ret fr d A c0 a g0 g u pc' lv (.long (x >>> (y.toInt64 &&& 63)) :: st) X) : zJ κ Λ cc nL own rt ret fr d A c0 a g0 g u pc lv (.int y :: .long x :: st) X := by
  obtain ⟨hd, rfl⟩ := hd
  exact z_step (fun o ls H locs _ _ _ hl k => lv_lshr o.1 o.2.1 hd rfl k) k
theorem z_lcmp {x y : Int64} (hd : zD cc pc pc' .lcmp 1) (k : zJ κ Λ cc nL own rt ret fr d A c0 a g0 g u pc' lv (.int (lg_cmp x y) :: st) X) : zJ κ Λ cc nL own rt ret fr d A c0 a g0 g u pc lv (.long y :: .long x :: st) X := by
  obtain ⟨hd, rfl⟩ := hd
  exact z_step (fun o ls H locs _ _ _ hl k => W.lcmp o.1 o.2.1 hd k) k
theorem z_dup {va : Value} (ha : va.category = 1) (hd : zD cc pc pc' .dup 1) (k : zJ κ Λ cc nL own rt ret fr d A c0 a g0 g u pc' lv (va :: va :: st) X) : zJ κ Λ cc nL own rt ret fr d A c0 a g0 g u pc lv (va :: st) X := by
  obtain ⟨hd, rfl⟩ := hd
  exact z_step (fun o ls H locs _ _ _ hl k => lv_dup o.1 o.2.1 hd ha k) k
theorem z_pop {va : Value} (ha : va.category = 1) (hd : zD cc pc pc' .pop 1) (k : zJ κ Λ cc nL own rt ret fr d A c0 a g0 g u pc' lv (st) X) : zJ κ Λ cc nL own rt ret fr d A c0 a g0 g u pc lv (va :: st) X := by
  obtain ⟨hd, rfl⟩ := hd
  exact z_step (fun o ls H locs _ _ _ hl k => lv_pop o.1 o.2.1 hd ha k) k
theorem z_dup_x1 {va vb : Value} (ha : va.category = 1) (hv : vb.category = 1) (hd : zD cc pc pc' .dup_x1 1) (k : zJ κ Λ cc nL own rt ret fr d A c0 a g0 g u pc' lv (va :: vb :: va :: st) X) : zJ κ Λ cc nL own rt ret fr d A c0 a g0 g u pc lv (va :: vb :: st) X := by
  obtain ⟨hd, rfl⟩ := hd
  exact z_step (fun o ls H locs _ _ _ hl k => lv_dup_x1 o.1 o.2.1 hd ha hv k) k
theorem z_dup_x2 {va vb vd : Value} (ha : va.category = 1) (hv : vb.category = 1) (hw : vd.category = 1) (hd : zD cc pc pc' .dup_x2 1) (k : zJ κ Λ cc nL own rt ret fr d A c0 a g0 g u pc' lv (va :: vb :: vd :: va :: st) X) : zJ κ Λ cc nL own rt ret fr d A c0 a g0 g u pc lv (va :: vb :: vd :: st) X := by
  obtain ⟨hd, rfl⟩ := hd
  exact z_step (fun o ls H locs _ _ _ hl k => lv_dup_x2 o.1 o.2.1 hd ha hv hw k) k
theorem z_dup2_11 {va vb : Value} (ha : va.category = 1) (hv : vb.category = 1) (hd : zD cc pc pc' .dup2 1) (k : zJ κ Λ cc nL own rt ret fr d A c0 a g0 g u pc' lv (va :: vb :: va :: vb :: st) X) : zJ κ Λ cc nL own rt ret fr d A c0 a g0 g u pc lv (va :: vb :: st) X := by
  obtain ⟨hd, rfl⟩ := hd
  exact z_step (fun o ls H locs _ _ _ hl k => lv_dup2_11 o.1 o.2.1 hd ha hv k) k
theorem z_dup2_2 {va : Value} (ha : va.category = 2) (hd : zD cc pc pc' .dup2 1) (k : zJ κ Λ cc nL own rt ret fr d A c0 a g0 g u pc' lv (va :: va :: st) X) : zJ κ Λ cc nL own rt ret fr d A c0 a g0 g u pc lv (va :: st) X := by
  obtain ⟨hd, rfl⟩ := hd
  exact z_step (fun o ls H locs _ _ _ hl k => lv_dup2_2 o.1 o.2.1 hd ha k) k
theorem z_pop2_2 {va : Value} (ha : va.category = 2) (hd : zD cc pc pc' .pop2 1) (k : zJ κ Λ cc nL own rt ret fr d A c0 a g0 g u pc' lv (st) X) : zJ κ Λ cc nL own rt ret fr d A c0 a g0 g u pc lv (va :: st) X := by
  obtain ⟨hd, rfl⟩ := hd
  exact z_step (fun o ls H locs _ _ _ hl k => lv_pop2_2 o.1 o.2.1 hd ha k) k
theorem z_istore_n {k : Fin 4} {i : Nat} {x : Int32} (hi : (k : Nat) = i) (hn : i < nL) {lv' : List (Nat × Value)} (hl' : (i, Value.int x) :: lv.filter (fun q => !(q.1 == i) && !(q.1 + 1 == i && q.2.category == 2)) = lv') (hd : zD cc pc pc' (.istore_n k) 1) (k : zJ κ Λ cc nL own rt ret fr d A c0 a g0 g u pc' lv' (st) X) : zJ κ Λ cc nL own rt ret fr d A c0 a g0 g u pc lv (.int x :: st) X := by
  obtain ⟨hd, rfl⟩ := hd
  exact z_stepL (fun o ls H locs _ _ _ hl k => lv_istore_n o.1 o.2.1 hd hi hl hn hl' (fun ls' hl' => k ls' hl')) k
theorem z_istore {i : Nat} {x : Int32} (hn : i < nL) {lv' : List (Nat × Value)} (hl' : (i, Value.int x) :: lv.filter (fun q => !(q.1 == i) && !(q.1 + 1 == i && q.2.category == 2)) = lv') (hd : zD cc pc pc' (.istore i) 2) (k : zJ κ Λ cc nL own rt ret fr d A c0 a g0 g u pc' lv' (st) X) : zJ κ Λ cc nL own rt ret fr d A c0 a g0 g u pc lv (.int x :: st) X := by
  obtain ⟨hd, rfl⟩ := hd
  exact z_stepL (fun o ls H locs _ _ _ hl k => lv_istore o.1 o.2.1 hd hl hn hl' (fun ls' hl' => k ls' hl')) k
theorem z_astore_n {k : Fin 4} {i : Nat} {x : Nat} (hi : (k : Nat) = i) (hn : i < nL) {lv' : List (Nat × Value)} (hl' : (i, Value.ref x) :: lv.filter (fun q => !(q.1 == i) && !(q.1 + 1 == i && q.2.category == 2)) = lv') (hd : zD cc pc pc' (.astore_n k) 1) (k : zJ κ Λ cc nL own rt ret fr d A c0 a g0 g u pc' lv' (st) X) : zJ κ Λ cc nL own rt ret fr d A c0 a g0 g u pc lv (.ref x :: st) X := by
  obtain ⟨hd, rfl⟩ := hd
  exact z_stepL (fun o ls H locs _ _ _ hl k => lv_astore_n o.1 o.2.1 hd hi hl hn hl' (fun ls' hl' => k ls' hl')) k
theorem z_astore {i : Nat} {x : Nat} (hn : i < nL) {lv' : List (Nat × Value)} (hl' : (i, Value.ref x) :: lv.filter (fun q => !(q.1 == i) && !(q.1 + 1 == i && q.2.category == 2)) = lv') (hd : zD cc pc pc' (.astore i) 2) (k : zJ κ Λ cc nL own rt ret fr d A c0 a g0 g u pc' lv' (st) X) : zJ κ Λ cc nL own rt ret fr d A c0 a g0 g u pc lv (.ref x :: st) X := by
  obtain ⟨hd, rfl⟩ := hd
  exact z_stepL (fun o ls H locs _ _ _ hl k => lv_astore o.1 o.2.1 hd hl hn hl' (fun ls' hl' => k ls' hl')) k
theorem z_lstore_n {k : Fin 4} {i : Nat} {x : Int64} (hi : (k : Nat) = i) (hn : i + 1 < nL) {lv' : List (Nat × Value)} (hl' : (i, Value.long x) :: lv.filter (fun q => !(q.1 == i) && (!(q.1 == i + 1) && !(q.1 + 1 == i && q.2.category == 2))) = lv') (hd : zD cc pc pc' (.lstore_n k) 1) (k : zJ κ Λ cc nL own rt ret fr d A c0 a g0 g u pc' lv' (st) X) : zJ κ Λ cc nL own rt ret fr d A c0 a g0 g u pc lv (.long x :: st) X := by
  obtain ⟨hd, rfl⟩ := hd
  exact z_stepL (fun o ls H locs _ _ _ hl k => lv_lstore_n o.1 o.2.1 hd hi hl hn hl' (fun ls' hl' => k ls' hl')) k
theorem z_lstore {i : Nat} {x : Int64} (hn : i + 1 < nL) {lv' : List (Nat × Value)} (hl' : (i, Value.long x) :: lv.filter (fun q => !(q.1 == i) && (!(q.1 == i + 1) && !(q.1 + 1 == i && q.2.category == 2))) = lv') (hd : zD cc pc pc' (.lstore i) 2) (k : zJ κ Λ cc nL own rt ret fr d A c0 a g0 g u pc' lv' (st) X) : zJ κ Λ cc nL own rt ret fr d A c0 a g0 g u pc lv (.long x :: st) X := by
  obtain ⟨hd, rfl⟩ := hd
  exact z_stepL (fun o ls H locs _ _ _ hl k => lv_lstore o.1 o.2.1 hd hl hn hl' (fun ls' hl' => k ls' hl')) k
theorem z_iinc {i : Nat} {n : Int} {x : Int32} (q : Nat) (hq : lv[q]? = some (i, .int x)) {v : Int32} (hv : x + Int32.ofInt n = v) (hn : i < nL) {lv' : List (Nat × Value)} (hl' : (i, Value.int v) :: lv.filter (fun q => !(q.1 == i) && !(q.1 + 1 == i && q.2.category == 2)) = lv') (hd : zD cc pc pc' (.iinc i n) 3) (k : zJ κ Λ cc nL own rt ret fr d A c0 a g0 g u pc' lv' (st) X) : zJ κ Λ cc nL own rt ret fr d A c0 a g0 g u pc lv (st) X := by
  obtain ⟨hd, rfl⟩ := hd
  exact z_stepL (fun o ls H locs _ _ _ hl k => lv_iinc o.1 o.2.1 hd hl hq hv hn hl' (fun ls' hl' => k ls' hl')) k
theorem z_goto {off : Int} {tgt : Nat} (hd : decode cc pc = .ok (.goto off, 3)) (ht : (pc : Int) + off = (tgt : Int)) (k : zJ κ Λ cc nL own rt ret fr d A c0 a g0 g u tgt lv (st) X) : zJ κ Λ cc nL own rt ret fr d A c0 a g0 g u pc lv (st) X := z_step (fun o ls H locs _ _ _ hl k => lv_goto o.1 o.2.1 hd ht k) k
/-- a choice of the model -/
theorem z_ite {b : Prop} [Decidable b] {X1 X2 : Option (ρ × zMu)} (k1 : b → zJ κ Λ cc nL own rt ret fr d A c0 a g0 g u pc lv (st) X1) (k2 : ¬ b → zJ κ Λ cc nL own rt ret fr d A c0 a g0 g u pc lv (st) X2) : zJ κ Λ cc nL own rt ret fr d A c0 a g0 g u pc lv (st) (if b then X1 else X2) := by
  by_cases h : b
  · rw [if_pos h]; exact k1 h
  · rw [if_neg h]; exact k2 h
theorem z_br {b : Prop} [Decidable b] {X1 X2 : Option (ρ × zMu)} {p1 p2 : Nat} {st' : List Value} (f : zOk κ Λ cc nL own rt → ∀ (ls : Array Slot) (H : Heap) (locs : List Loc) (cells slots : Nat) (Q : State → Prop), (b → zW κ H locs cells slots Q (F0 (zKm κ) p1 ls st')) → (¬ b → zW κ H locs cells slots Q (F0 (zKm κ) p2 ls st')) → zW κ H locs cells slots Q (F0 (zKm κ) pc ls st))
    (k1 : b → zJ κ Λ cc nL own rt ret fr d A c0 a g0 g u p1 lv (st') X1) (k2 : ¬ b → zJ κ Λ cc nL own rt ret fr d A c0 a g0 g u p2 lv (st') X2) : zJ κ Λ cc nL own rt ret fr d A c0 a g0 g u pc lv (st) (if b then X1 else X2) := by
  by_cases h : b
  · rw [if_pos h]; exact z_step (fun o ls H locs _ _ _ hl k => f o ls H locs _ _ _ (fun _ => k) (fun q => absurd h q)) (k1 h)
  · rw [if_neg h]; exact z_step (fun o ls H locs _ _ _ hl k => f o ls H locs _ _ _ (fun q => absurd q h) (fun _ => k)) (k2 h)
theorem z_if_eq {x : Int32} {off : Int} {tgt : Nat} {X1 X2 : Option (ρ × zMu)} (hd : zD cc pc pc' (.ifCond .eq off) 3) (ht : (pc : Int) + off = (tgt : Int)) (k1 : x = 0 → zJ κ Λ cc nL own rt ret fr d A c0 a g0 g u tgt lv (st) X1) (k2 : ¬ x = 0 → zJ κ Λ cc nL own rt ret fr d A c0 a g0 g u pc' lv (st) X2) : zJ κ Λ cc nL own rt ret fr d A c0 a g0 g u pc lv (.int x :: st) (if x = 0 then X1 else X2) := by
  obtain ⟨hd, rfl⟩ := hd
  exact z_br (b := x = 0) (fun o ls H locs _ _ _ k1 k2 => lv_if_eq o.1 o.2.1 hd ht (fun q => k1 q) (fun q => k2 q)) k1 k2
theorem z_if_ne {x : Int32} {off : Int} {tgt : Nat} {X1 X2 : Option (ρ × zMu)} (hd : zD cc pc pc' (.ifCond .ne off) 3) (ht : (pc : Int) + off = (tgt : Int)) (k1 : x = 0 → zJ κ Λ cc nL own rt ret fr d A c0 a g0 g u pc' lv (st) X1) (k2 : ¬ x = 0 → zJ κ Λ cc nL own rt ret fr d A c0 a g0 g u tgt lv (st) X2) : zJ κ Λ cc nL own rt ret fr d A c0 a g0 g u pc lv (.int x :: st) (if x = 0 then X1 else X2) := by
  obtain ⟨hd, rfl⟩ := hd
  exact z_br (b := x = 0) (fun o ls H locs _ _ _ k1 k2 => lv_if_ne o.1 o.2.1 hd ht (fun q => k2 q) (fun q => k1 q)) k1 k2
theorem z_if_lt {x : Int32} {off : Int} {tgt : Nat} {X1 X2 : Option (ρ × zMu)} (hd : zD cc pc pc' (.ifCond .lt off) 3) (ht : (pc : Int) + off = (tgt : Int)) (k1 : x < 0 → zJ κ Λ cc nL own rt ret fr d A c0 a g0 g u tgt lv (st) X1) (k2 : ¬ x < 0 → zJ κ Λ cc nL own rt ret fr d A c0 a g0 g u pc' lv (st) X2) : zJ κ Λ cc nL own rt ret fr d A c0 a g0 g u pc lv (.int x :: st) (if x < 0 then X1 else X2) := by
  obtain ⟨hd, rfl⟩ := hd
  exact z_br (b := x < 0) (fun o ls H locs _ _ _ k1 k2 => lv_if_lt o.1 o.2.1 hd ht (fun q => k1 q) (fun q => k2 q)) k1 k2
theorem z_if_ge {x : Int32} {off : Int} {tgt : Nat} {X1 X2 : Option (ρ × zMu)} (hd : zD cc pc pc' (.ifCond .ge off) 3) (ht : (pc : Int) + off = (tgt : Int)) (k1 : x < 0 → zJ κ Λ cc nL own rt ret fr d A c0 a g0 g u pc' lv (st) X1) (k2 : ¬ x < 0 → zJ κ Λ cc nL own rt ret fr d A c0 a g0 g u tgt lv (st) X2) : zJ κ Λ cc nL own rt ret fr d A c0 a g0 g u pc lv (.int x :: st) (if x < 0 then X1 else X2) := by
  obtain ⟨hd, rfl⟩ := hd
  exact z_br (b := x < 0) (fun o ls H locs _ _ _ k1 k2 => lv_if_ge o.1 o.2.1 hd ht (fun q => k2 (Int32.not_lt.mpr q)) (fun q => k1 (Int32.not_le.mp q))) k1 k2
theorem z_if_gt {x : Int32} {off : Int} {tgt : Nat} {X1 X2 : Option (ρ × zMu)} (hd : zD cc pc pc' (.ifCond .gt off) 3) (ht : (pc : Int) + off = (tgt : Int)) (k1 : 0 < x → zJ κ Λ cc nL own rt ret fr d A c0 a g0 g u tgt lv (st) X1) (k2 : ¬ 0 < x → zJ κ Λ cc nL own rt ret fr d A c0 a g0 g u pc' lv (st) X2) : zJ κ Λ cc nL own rt ret fr d A c0 a g0 g u pc lv (.int x :: st) (if 0 < x then X1 else X2) := by
  obtain ⟨hd, rfl⟩ := hd
  exact z_br (b := 0 < x) (fun o ls H locs _ _ _ k1 k2 => lv_if_gt o.1 o.2.1 hd ht (fun q => k1 q) (fun q => k2 q)) k1 k2
theorem z_if_le {x : Int32} {off : Int} {tgt : Nat} {X1 X2 : Option (ρ × zMu)} (hd : zD cc pc pc' (.ifCond .le off) 3) (ht : (pc : Int) + off = (tgt : Int)) (k1 : 0 < x → zJ κ Λ cc nL own rt ret fr d A c0 a g0 g u pc' lv (st) X1) (k2 : ¬ 0 < x → zJ κ Λ cc nL own rt ret fr d A c0 a g0 g u tgt lv (st) X2) : zJ κ Λ cc nL own rt ret fr d A c0 a g0 g u pc lv (.int x :: st) (if 0 < x then X1 else X2) := by
  obtain ⟨hd, rfl⟩ := hd
  exact z_br (b := 0 < x) (fun o ls H locs _ _ _ k1 k2 => lv_if_le o.1 o.2.1 hd ht (fun q => k2 (Int32.not_lt.mpr q)) (fun q => k1 (Int32.not_le.mp q))) k1 k2
theorem z_icmp_eq {x y : Int32} {off : Int} {tgt : Nat} {X1 X2 : Option (ρ × zMu)} (hd : zD cc pc pc' (.if_icmp .eq off) 3) (ht : (pc : Int) + off = (tgt : Int)) (k1 : x = y → zJ κ Λ cc nL own rt ret fr d A c0 a g0 g u tgt lv (st) X1) (k2 : ¬ x = y → zJ κ Λ cc nL own rt ret fr d A c0 a g0 g u pc' lv (st) X2) : zJ κ Λ cc nL own rt ret fr d A c0 a g0 g u pc lv (.int y :: .int x :: st) (if x = y then X1 else X2) := by
  obtain ⟨hd, rfl⟩ := hd
  exact z_br (b := x = y) (fun o ls H locs _ _ _ k1 k2 => lv_icmp_eq o.1 o.2.1 hd ht (fun q => k1 q) (fun q => k2 q)) k1 k2
theorem z_icmp_ne {x y : Int32} {off : Int} {tgt : Nat} {X1 X2 : Option (ρ × zMu)} (hd : zD cc pc pc' (.if_icmp .ne off) 3) (ht : (pc : Int) + off = (tgt : Int)) (k1 : x = y → zJ κ Λ cc nL own rt ret fr d A c0 a g0 g u pc' lv (st) X1) (k2 : ¬ x = y → zJ κ Λ cc nL own rt ret fr d A c0 a g0 g u tgt lv (st) X2) : zJ κ Λ cc nL own rt ret fr d A c0 a g0 g u pc lv (.int y :: .int x :: st) (if x = y then X1 else X2) := by
  obtain ⟨hd, rfl⟩ := hd
  exact z_br (b := x = y) (fun o ls H locs _ _ _ k1 k2 => lv_icmp_ne o.1 o.2.1 hd ht (fun q => k2 q) (fun q => k1 q)) k1 k2
theorem z_icmp_lt {x y : Int32} {off : Int} {tgt : Nat} {X1 X2 : Option (ρ × zMu)} (hd : zD cc pc pc' (.if_icmp .lt off) 3) (ht : (pc : Int) + off = (tgt : Int)) (k1 : x < y → zJ κ Λ cc nL own rt ret fr d A c0 a g0 g u tgt lv (st) X1) (k2 : ¬ x < y → zJ κ Λ cc nL own rt ret fr d A c0 a g0 g u pc' lv (st) X2) : zJ κ Λ cc nL own rt ret fr d A c0 a g0 g u pc lv (.int y :: .int x :: st) (if x < y then X1 else X2) := by
  obtain ⟨hd, rfl⟩ := hd
  exact z_br (b := x < y) (fun o ls H locs _ _ _ k1 k2 => lv_icmp_lt o.1 o.2.1 hd ht (fun q => k1 q) (fun q => k2 q)) k1 k2
theorem z_icmp_ge {x y : Int32} {off : Int} {tgt : Nat} {X1 X2 : Option (ρ × zMu)} (hd : zD cc pc pc' (.if_icmp .ge off) 3) (ht : (pc : Int) + off = (tgt : Int)) (k1 : x < y → zJ κ Λ cc nL own rt ret fr d A c0 a g0 g u pc' lv (st) X1) (k2 : ¬ x < y → zJ κ Λ cc nL own rt ret fr d A c0 a g0 g u tgt lv (st) X2) : zJ κ Λ cc nL own rt ret fr d A c0 a g0 g u pc lv (.int y :: .int x :: st) (if x < y then X1 else X2) := by
  obtain ⟨hd, rfl⟩ := hd
  exact z_br (b := x < y) (fun o ls H locs _ _ _ k1 k2 => lv_icmp_ge o.1 o.2.1 hd ht (fun q => k2 (Int32.not_lt.mpr q)) (fun q => k1 (Int32.not_le.mp q))) k1 k2
theorem z_icmp_gt {x y : Int32} {off : Int} {tgt : Nat} {X1 X2 : Option (ρ × zMu)} (hd : zD cc pc pc' (.if_icmp .gt off) 3) (ht : (pc : Int) + off = (tgt : Int)) (k1 : y < x → zJ κ Λ cc nL own rt ret fr d A c0 a g0 g u tgt lv (st) X1) (k2 : ¬ y < x → zJ κ Λ cc nL own rt ret fr d A c0 a g0 g u pc' lv (st) X2) : zJ κ Λ cc nL own rt ret fr d A c0 a g0 g u pc lv (.int y :: .int x :: st) (if y < x then X1 else X2) := by
  obtain ⟨hd, rfl⟩ := hd
  exact z_br (b := y < x) (fun o ls H locs _ _ _ k1 k2 => lv_icmp_gt o.1 o.2.1 hd ht (fun q => k1 q) (fun q => k2 q)) k1 k2
theorem z_icmp_le {x y : Int32} {off : Int} {tgt : Nat} {X1 X2 : Option (ρ × zMu)} (hd : zD cc pc pc' (.if_icmp .le off) 3) (ht : (pc : Int) + off = (tgt : Int)) (k1 : y < x → zJ κ Λ cc nL own rt ret fr d A c0 a g0 g u pc' lv (st) X1) (k2 : ¬ y < x → zJ κ Λ cc nL own rt ret fr d A c0 a g0 g u tgt lv (st) X2) : zJ κ Λ cc nL own rt ret fr d A c0 a g0 g u pc lv (.int y :: .int x :: st) (if y < x then X1 else X2) := by
  obtain ⟨hd, rfl⟩ := hd
  exact z_br (b := y < x) (fun o ls H locs _ _ _ k1 k2 => lv_icmp_le o.1 o.2.1 hd ht (fun q => k2 (Int32.not_lt.mpr q)) (fun q => k1 (Int32.not_le.mp q))) k1 k2
end zRules
