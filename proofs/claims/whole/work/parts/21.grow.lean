/-! ROWS THAT GROW: a new row takes the old one's place; the signs -/
theorem zlt2 {m n : Nat} (h : Nat.ble m n = true) : m ≤ n := Nat.le_of_ble_eq_true h
def zgrI (u : zMu) (c n : Nat) : zMu := (fun a b => if a = c then (if b < zN u c then u.1 c b else 0) else u.1 a b, u.2.1, u.2.2.1, fun a => if a = c then n else zN u a, (zc u).1 + 1, (zc u).2 + n)
def zgrL (u : zMu) (c n : Nat) : zMu := (u.1, fun a b => if a = c then (if b < zN u c then u.2.1 c b else 0) else u.2.1 a b, u.2.2.1, fun a => if a = c then n else zN u a, (zc u).1 + 1, (zc u).2 + n)
def zgokI (u : zMu) (c : Nat) (n : Int32) : Bool := decide (¬ n < 0 ∧ zN u c < n.toNatClampNeg ∧ n.toNatClampNeg < 100000 ∧ zdy u = true)
def zgokL (u : zMu) (c : Nat) (n : Int32) : Bool := zgokI u c n
def zgokB (u : zMu) (c : Nat) (n : Int32) : Bool := zgokI u c n && (List.range (zN u c)).all (fun i => fits .byte (.int (zI u c i)))
set_option maxRecDepth 20000 in
theorem z_copyI_met (l : Launch) (ca : Nat → ClassId) (D : va_G) (x n0 n1 : Nat) (f : Nat → Int32) (len : Int32) (sz : Nat) (h1 : ¬ len < 0) (h2 : len.toNatClampNeg = n1) (h3 : n0 < n1) (h4 : n1 < 100000) : Met l ceY_copyI (.code ceY_copyI prog_21_method_123_code 3 (some (.array .int)) :: ce_gl) { frames := 1, cells := 1, slots := n1, locals := 40 } (va_Pc [.ref x, .int len] (fun U => U.heap.size = sz ∧ va_P D ce_cl [(x, .inl (ca 1, n0, .inl f))] U.heap ∧ va_K D ce_cl (zTys ca) U ∧ va_D (fun _ => True) [(x, .inl (ca 1, n0, .inl f))])) (va_Qr (S := Unit) (fun _ => True) (fun _ q t => va_P D ce_cl [(x, .inl (ca 1, n0, .inl f)), (q, .inl (ca 1, n1, .inl (fun b => if b < n0 then f b else 0)))] t.heap ∧ va_D (va_A [(x, .inl (ca 1, n0, .inl f))] sz) [(x, .inl (ca 1, n0, .inl f)), (q, .inl (ca 1, n1, .inl (fun b => if b < n0 then f b else 0)))]) (va_A [(x, .inl (ca 1, n0, .inl f))] sz)) 1 n1 (va_A [(x, .inl (ca 1, n0, .inl f))] sz) := by
  refine Met.ofW (cc := prog_21_method_123_code) (maxL := 3) (ret := (some (.array .int))) (by decide +kernel) rfl ?_
  intro p e s m args below meth c s₁ B hml hv
  obtain ⟨rfl, hsz, hP, hK, hD0⟩ := hv
  have hx := B.exec
  have hb := B.bytes
  have hr := B.returns
  have hts := atoms_spec (ws := .code ceY_copyI prog_21_method_123_code 3 (some (.array .int)) :: ce_gl) B.pre
  have hts : ∀ w ∈ ce_gl, w.before _ s = true := fun w hw => hts w (List.mem_cons_of_mem _ hw)
  have hown : s.vm.findClass ce_RA = some m.cls := findClass_of_methodNamed B.named
  have hlocks := B.notSynchronized
  subst hsz
  have hD := hD0.self (sz := s.heap.size)
  generalize hAe : va_A [(x, .inl (ca 1, n0, .inl f))] s.heap.size = A at hD ⊢
  have hA : ∀ q : Nat, s.heap.size ≤ q → A q := fun q h => by rw [← hAe]; exact Or.inr h
  have hS : va_S A s.heap s.heap [] := va_S.rf
  have hl := lv_entry ([.ref x, .int len]) (n := 3) (Nat.le_of_ble_eq_true rfl)
  rw [lg_entry_eq]
  generalize (lg_sl ([.ref x, .int len]) ++ List.replicate (3 - (lg_sl ([.ref x, .int len])).length) Slot.unset).toArray = ls at hl ⊢
  have hl : lv_has ls 3 [(0, .ref x), (1, .int len)] := hl
  have hlen : len = nI n1 := by
    obtain ⟨j, hj, rfl⟩ := nI_of h1
    rw [nI_clamp hj] at h2; rw [h2]
  have hmm : ¬ len = Int32.ofNat n0 := fun q => by rw [hlen] at q; exact absurd ((nI_eq (by omega) (by omega)).mp q) (by omega)
  refine lv_iload_n (k := 1) (i := 1) hx hb (by decide +kernel) rfl (lv_at hl 1 rfl) ?_
  refine lv_aload_n (k := 0) (i := 0) hx hb (by decide +kernel) rfl (lv_at hl 0 rfl) ?_
  refine va_alen hx hb hK hP 0 0 rfl rfl rfl (by decide +kernel) ?_
  refine lv_icmp_ne (off := 11) (tgt := 14) hx hb (by decide +kernel) rfl (fun _ => ?_) (fun q => absurd q hmm)
  refine lv_iload_n (k := 1) (i := 1) hx hb (by decide +kernel) rfl (lv_at hl 1 rfl) ?_
  refine va_newa (atype := .int) (ty := .int) (a0 := (n1, .inl (fun _ => 0))) hx hb (hts (.arrayClass .int) (ce_w21 24 rfl)) rfl hK hP hD hS hA (fun _ => rfl) h1 h2 (by show n1 * 4 ≤ 536870912; omega) (Nat.le_refl _) (by show 0 + n1 ≤ n1; omega) (by decide +kernel) (fun q cA H1 hK1 hP hD hS => ?_)
  have ec : cA = ca 1 := Option.some.inj ((hK1.2 5 _ rfl).2.symm.trans (hK1.2 0 _ rfl).2)
  subst ec
  refine lv_astore_n (k := 2) (i := 2) (lv' := [(2, .ref q), (0, .ref x), (1, .int len)]) hx hb (by decide +kernel) rfl hl (by decide) rfl (fun ls1 hl => ?_)
  refine lv_aload_n (k := 0) (i := 0) hx hb (by decide +kernel) rfl (lv_at hl 1 rfl) ?_
  refine lv_iconst (n := 0) (v := 0) hx hb (by decide +kernel) (by decide) ?_
  refine lv_aload_n (k := 2) (i := 2) hx hb (by decide +kernel) rfl (lv_at hl 0 rfl) ?_
  refine lv_iconst (n := 0) (v := 0) hx hb (by decide +kernel) (by decide) ?_
  refine lv_aload_n (k := 0) (i := 0) hx hb (by decide +kernel) rfl (lv_at hl 1 rfl) ?_
  refine va_alen hx hb hK1 hP 0 0 rfl rfl rfl (by decide +kernel) ?_
  refine lv_iload_n (k := 1) (i := 1) hx hb (by decide +kernel) rfl (lv_at hl 2 rfl) ?_
  refine va_mmin hx hb (hml.trans hl.1.symm) hown (hts _ (ce_w21 26 rfl)) (hts _ (ce_w0 7 rfl)) (hts _ (ce_w0 4 rfl)) (hts _ (ce_w0 8 rfl)) (Nat.le_refl 1) (Nat.le_of_ble_eq_true rfl) (Nat.le_refl _) (by show 0 + n1 ≤ n1; omega) (by decide +kernel) ?_
  have emin : (if len < Int32.ofNat n0 then len else Int32.ofNat n0) = nI n0 := by rw [if_neg (by rw [hlen]; exact nI_nlt (by omega) (by omega))]; rfl
  rw [show (if len < Int32.ofNat n0 then len else Int32.ofNat n0) = nI n0 from emin]
  refine va_copyi (rest := []) hx hb (hml.trans hl.1.symm) hown (hts _ (ce_w21 27 rfl)) (hts _ (ce_w21 28 rfl)) (hts _ (ce_w21 29 rfl)) (hts _ (ce_w21 30 rfl)) hK1 hP hD hS 0 1 0 0 rfl rfl rfl rfl rfl (sp := 0) (dp := 0) (n := nI n0) (by decide) (by decide) (nI_pos (by omega)) (by rw [nI_clamp (by omega)]; show 0 + n0 ≤ n0; omega) (by rw [nI_clamp (by omega)]; show 0 + n0 ≤ n1; omega) (fun _ _ => rfl) (Nat.le_refl 1) (by show 0 + (nativeFrameWords "java/lang/System" "arraycopy" 5 + 11) ≤ 40; decide +kernel) (by decide +kernel) (fun H2 locs2 hP hD hS => ?_)
  refine lv_aload_n (k := 2) (i := 2) hx hb (by decide +kernel) rfl (lv_at hl 0 rfl) ?_
  have ef : va_cpy f (fun _ => (0 : Int32)) (0 : Int32).toNatClampNeg (0 : Int32).toNatClampNeg (nI n0).toNatClampNeg = (fun b => if b < n0 then f b else 0) := by
    funext b
    rw [nI_clamp (by omega)]
    show (if 0 ≤ b ∧ b < 0 + n0 then f (0 + (b - 0)) else 0) = if b < n0 then f b else 0
    by_cases hbn : b < n0
    · rw [if_pos ⟨Nat.zero_le b, by omega⟩, if_pos hbn]; congr 1; omega
    · rw [if_neg (fun q => hbn (by omega)), if_neg hbn]
  rw [ef] at hP hD
  have hP : va_P D ce_cl [(x, .inl (ca 1, n0, .inl f)), (q, .inl (ca 1, n1, .inl (fun b => if b < n0 then f b else 0)))] H2 := hP
  have hD : va_D A [(x, .inl (ca 1, n0, .inl f)), (q, .inl (ca 1, n1, .inl (fun b => if b < n0 then f b else 0)))] := hD
  refine W.widen (k := 1) (n := n1) (Nat.le_refl _) (by show 0 + n1 ≤ n1; omega) ?_
  exact W.aret hx hb hr (Or.inr ⟨_, rfl⟩) (Or.inr ⟨q, rfl⟩) (fun t ht hW => ⟨⟨(), q, rfl, trivial, by rw [ht]; exact hP, hD⟩, hS.F ht⟩) hS.2.2 (by decide +kernel)
set_option maxRecDepth 20000 in
theorem z_copyB_met (l : Launch) (ca : Nat → ClassId) (D : va_G) (x n0 n1 : Nat) (f : Nat → Int32) (len : Int32) (sz : Nat) (h1 : ¬ len < 0) (h2 : len.toNatClampNeg = n1) (h3 : n0 < n1) (h4 : n1 < 100000) (hfit : ∀ i, i < n0 → fits .byte (.int (f i)) = true) : Met l ceY_copyB (.code ceY_copyB prog_21_method_121_code 3 (some (.array .byte)) :: ce_gl) { frames := 1, cells := 1, slots := n1, locals := 40 } (va_Pc [.ref x, .int len] (fun U => U.heap.size = sz ∧ va_P D ce_cl [(x, .inl (ca 2, n0, .inl f))] U.heap ∧ va_K D ce_cl (zTys ca) U ∧ va_D (fun _ => True) [(x, .inl (ca 2, n0, .inl f))])) (va_Qr (S := Unit) (fun _ => True) (fun _ q t => va_P D ce_cl [(x, .inl (ca 2, n0, .inl f)), (q, .inl (ca 2, n1, .inl (fun b => if b < n0 then f b else 0)))] t.heap ∧ va_D (va_A [(x, .inl (ca 2, n0, .inl f))] sz) [(x, .inl (ca 2, n0, .inl f)), (q, .inl (ca 2, n1, .inl (fun b => if b < n0 then f b else 0)))]) (va_A [(x, .inl (ca 2, n0, .inl f))] sz)) 1 n1 (va_A [(x, .inl (ca 2, n0, .inl f))] sz) := by
  refine Met.ofW (cc := prog_21_method_121_code) (maxL := 3) (ret := (some (.array .byte))) (by decide +kernel) rfl ?_
  intro p e s m args below meth c s₁ B hml hv
  obtain ⟨rfl, hsz, hP, hK, hD0⟩ := hv
  have hx := B.exec
  have hb := B.bytes
  have hr := B.returns
  have hts := atoms_spec (ws := .code ceY_copyB prog_21_method_121_code 3 (some (.array .byte)) :: ce_gl) B.pre
  have hts : ∀ w ∈ ce_gl, w.before _ s = true := fun w hw => hts w (List.mem_cons_of_mem _ hw)
  have hown : s.vm.findClass ce_RA = some m.cls := findClass_of_methodNamed B.named
  have hlocks := B.notSynchronized
  subst hsz
  have hD := hD0.self (sz := s.heap.size)
  generalize hAe : va_A [(x, .inl (ca 2, n0, .inl f))] s.heap.size = A at hD ⊢
  have hA : ∀ q : Nat, s.heap.size ≤ q → A q := fun q h => by rw [← hAe]; exact Or.inr h
  have hS : va_S A s.heap s.heap [] := va_S.rf
  have hl := lv_entry ([.ref x, .int len]) (n := 3) (Nat.le_of_ble_eq_true rfl)
  rw [lg_entry_eq]
  generalize (lg_sl ([.ref x, .int len]) ++ List.replicate (3 - (lg_sl ([.ref x, .int len])).length) Slot.unset).toArray = ls at hl ⊢
  have hl : lv_has ls 3 [(0, .ref x), (1, .int len)] := hl
  have hlen : len = nI n1 := by
    obtain ⟨j, hj, rfl⟩ := nI_of h1
    rw [nI_clamp hj] at h2; rw [h2]
  have hmm : ¬ len = Int32.ofNat n0 := fun q => by rw [hlen] at q; exact absurd ((nI_eq (by omega) (by omega)).mp q) (by omega)
  refine lv_iload_n (k := 1) (i := 1) hx hb (by decide +kernel) rfl (lv_at hl 1 rfl) ?_
  refine lv_aload_n (k := 0) (i := 0) hx hb (by decide +kernel) rfl (lv_at hl 0 rfl) ?_
  refine va_alen hx hb hK hP 0 1 rfl rfl rfl (by decide +kernel) ?_
  refine lv_icmp_ne (off := 11) (tgt := 14) hx hb (by decide +kernel) rfl (fun _ => ?_) (fun q => absurd q hmm)
  refine lv_iload_n (k := 1) (i := 1) hx hb (by decide +kernel) rfl (lv_at hl 1 rfl) ?_
  refine va_newa (atype := .byte) (ty := .byte) (a0 := (n1, .inl (fun _ => 0))) hx hb (hts (.arrayClass .byte) (ce_w21 23 rfl)) rfl hK hP hD hS hA (fun _ => rfl) h1 h2 (by show n1 * 1 ≤ 536870912; omega) (Nat.le_refl _) (by show 0 + n1 ≤ n1; omega) (by decide +kernel) (fun q cA H1 hK1 hP hD hS => ?_)
  have ec : cA = ca 2 := Option.some.inj ((hK1.2 5 _ rfl).2.symm.trans (hK1.2 1 _ rfl).2)
  subst ec
  refine lv_astore_n (k := 2) (i := 2) (lv' := [(2, .ref q), (0, .ref x), (1, .int len)]) hx hb (by decide +kernel) rfl hl (by decide) rfl (fun ls1 hl => ?_)
  refine lv_aload_n (k := 0) (i := 0) hx hb (by decide +kernel) rfl (lv_at hl 1 rfl) ?_
  refine lv_iconst (n := 0) (v := 0) hx hb (by decide +kernel) (by decide) ?_
  refine lv_aload_n (k := 2) (i := 2) hx hb (by decide +kernel) rfl (lv_at hl 0 rfl) ?_
  refine lv_iconst (n := 0) (v := 0) hx hb (by decide +kernel) (by decide) ?_
  refine lv_aload_n (k := 0) (i := 0) hx hb (by decide +kernel) rfl (lv_at hl 1 rfl) ?_
  refine va_alen hx hb hK1 hP 0 1 rfl rfl rfl (by decide +kernel) ?_
  refine lv_iload_n (k := 1) (i := 1) hx hb (by decide +kernel) rfl (lv_at hl 2 rfl) ?_
  refine va_mmin hx hb (hml.trans hl.1.symm) hown (hts _ (ce_w21 26 rfl)) (hts _ (ce_w0 7 rfl)) (hts _ (ce_w0 4 rfl)) (hts _ (ce_w0 8 rfl)) (Nat.le_refl 1) (Nat.le_of_ble_eq_true rfl) (Nat.le_refl _) (by show 0 + n1 ≤ n1; omega) (by decide +kernel) ?_
  have emin : (if len < Int32.ofNat n0 then len else Int32.ofNat n0) = nI n0 := by rw [if_neg (by rw [hlen]; exact nI_nlt (by omega) (by omega))]; rfl
  rw [show (if len < Int32.ofNat n0 then len else Int32.ofNat n0) = nI n0 from emin]
  refine va_copyi (rest := []) hx hb (hml.trans hl.1.symm) hown (hts _ (ce_w21 27 rfl)) (hts _ (ce_w21 28 rfl)) (hts _ (ce_w21 29 rfl)) (hts _ (ce_w21 30 rfl)) hK1 hP hD hS 0 1 1 1 rfl rfl rfl rfl rfl (sp := 0) (dp := 0) (n := nI n0) (by decide) (by decide) (nI_pos (by omega)) (by rw [nI_clamp (by omega)]; show 0 + n0 ≤ n0; omega) (by rw [nI_clamp (by omega)]; show 0 + n0 ≤ n1; omega) (fun i hi => by rw [nI_clamp (by omega)] at hi; have := hfit i hi; rwa [show (0 : Int32).toNatClampNeg + i = i from Nat.zero_add i]) (Nat.le_refl 1) (by show 0 + (nativeFrameWords "java/lang/System" "arraycopy" 5 + 11) ≤ 40; decide +kernel) (by decide +kernel) (fun H2 locs2 hP hD hS => ?_)
  refine lv_aload_n (k := 2) (i := 2) hx hb (by decide +kernel) rfl (lv_at hl 0 rfl) ?_
  have ef : va_cpy f (fun _ => (0 : Int32)) (0 : Int32).toNatClampNeg (0 : Int32).toNatClampNeg (nI n0).toNatClampNeg = (fun b => if b < n0 then f b else 0) := by
    funext b
    rw [nI_clamp (by omega)]
    show (if 0 ≤ b ∧ b < 0 + n0 then f (0 + (b - 0)) else 0) = if b < n0 then f b else 0
    by_cases hbn : b < n0
    · rw [if_pos ⟨Nat.zero_le b, by omega⟩, if_pos hbn]; congr 1; omega
    · rw [if_neg (fun q => hbn (by omega)), if_neg hbn]
  rw [ef] at hP hD
  have hP : va_P D ce_cl [(x, .inl (ca 2, n0, .inl f)), (q, .inl (ca 2, n1, .inl (fun b => if b < n0 then f b else 0)))] H2 := hP
  have hD : va_D A [(x, .inl (ca 2, n0, .inl f)), (q, .inl (ca 2, n1, .inl (fun b => if b < n0 then f b else 0)))] := hD
  refine W.widen (k := 1) (n := n1) (Nat.le_refl _) (by show 0 + n1 ≤ n1; omega) ?_
  exact W.aret hx hb hr (Or.inr ⟨_, rfl⟩) (Or.inr ⟨q, rfl⟩) (fun t ht hW => ⟨⟨(), q, rfl, trivial, by rw [ht]; exact hP, hD⟩, hS.F ht⟩) hS.2.2 (by decide +kernel)
set_option maxRecDepth 20000 in
theorem z_copyL_met (l : Launch) (ca : Nat → ClassId) (D : va_G) (x n0 n1 : Nat) (f : Nat → Int64) (len : Int32) (sz : Nat) (h1 : ¬ len < 0) (h2 : len.toNatClampNeg = n1) (h3 : n0 < n1) (h4 : n1 < 100000) : Met l ceY_copyL (.code ceY_copyL prog_21_method_124_code 3 (some (.array .long)) :: ce_gl) { frames := 1, cells := 1, slots := n1, locals := 40 } (va_Pc [.ref x, .int len] (fun U => U.heap.size = sz ∧ va_P D ce_cl [(x, .inl (ca 5, n0, .inr (.inl f)))] U.heap ∧ va_K D ce_cl (zTys ca) U ∧ va_D (fun _ => True) [(x, .inl (ca 5, n0, .inr (.inl f)))])) (va_Qr (S := Unit) (fun _ => True) (fun _ q t => va_P D ce_cl [(x, .inl (ca 5, n0, .inr (.inl f))), (q, .inl (ca 5, n1, .inr (.inl (fun b => if b < n0 then f b else 0))))] t.heap ∧ va_D (va_A [(x, .inl (ca 5, n0, .inr (.inl f)))] sz) [(x, .inl (ca 5, n0, .inr (.inl f))), (q, .inl (ca 5, n1, .inr (.inl (fun b => if b < n0 then f b else 0))))]) (va_A [(x, .inl (ca 5, n0, .inr (.inl f)))] sz)) 1 n1 (va_A [(x, .inl (ca 5, n0, .inr (.inl f)))] sz) := by
  refine Met.ofW (cc := prog_21_method_124_code) (maxL := 3) (ret := (some (.array .long))) (by decide +kernel) rfl ?_
  intro p e s m args below meth c s₁ B hml hv
  obtain ⟨rfl, hsz, hP, hK, hD0⟩ := hv
  have hx := B.exec
  have hb := B.bytes
  have hr := B.returns
  have hts := atoms_spec (ws := .code ceY_copyL prog_21_method_124_code 3 (some (.array .long)) :: ce_gl) B.pre
  have hts : ∀ w ∈ ce_gl, w.before _ s = true := fun w hw => hts w (List.mem_cons_of_mem _ hw)
  have hown : s.vm.findClass ce_RA = some m.cls := findClass_of_methodNamed B.named
  have hlocks := B.notSynchronized
  subst hsz
  have hD := hD0.self (sz := s.heap.size)
  generalize hAe : va_A [(x, .inl (ca 5, n0, .inr (.inl f)))] s.heap.size = A at hD ⊢
  have hA : ∀ q : Nat, s.heap.size ≤ q → A q := fun q h => by rw [← hAe]; exact Or.inr h
  have hS : va_S A s.heap s.heap [] := va_S.rf
  have hl := lv_entry ([.ref x, .int len]) (n := 3) (Nat.le_of_ble_eq_true rfl)
  rw [lg_entry_eq]
  generalize (lg_sl ([.ref x, .int len]) ++ List.replicate (3 - (lg_sl ([.ref x, .int len])).length) Slot.unset).toArray = ls at hl ⊢
  have hl : lv_has ls 3 [(0, .ref x), (1, .int len)] := hl
  have hlen : len = nI n1 := by
    obtain ⟨j, hj, rfl⟩ := nI_of h1
    rw [nI_clamp hj] at h2; rw [h2]
  have hmm : ¬ len = Int32.ofNat n0 := fun q => by rw [hlen] at q; exact absurd ((nI_eq (by omega) (by omega)).mp q) (by omega)
  refine lv_iload_n (k := 1) (i := 1) hx hb (by decide +kernel) rfl (lv_at hl 1 rfl) ?_
  refine lv_aload_n (k := 0) (i := 0) hx hb (by decide +kernel) rfl (lv_at hl 0 rfl) ?_
  refine va_alen hx hb hK hP 0 4 rfl rfl rfl (by decide +kernel) ?_
  refine lv_icmp_ne (off := 11) (tgt := 14) hx hb (by decide +kernel) rfl (fun _ => ?_) (fun q => absurd q hmm)
  refine lv_iload_n (k := 1) (i := 1) hx hb (by decide +kernel) rfl (lv_at hl 1 rfl) ?_
  refine va_newa (atype := .long) (ty := .long) (a0 := (n1, .inr (.inl (fun _ => 0)))) hx hb (hts (.arrayClass .long) (ce_w21 25 rfl)) rfl hK hP hD hS hA (fun _ => rfl) h1 h2 (by show n1 * 8 ≤ 536870912; omega) (Nat.le_refl _) (by show 0 + n1 ≤ n1; omega) (by decide +kernel) (fun q cA H1 hK1 hP hD hS => ?_)
  have ec : cA = ca 5 := Option.some.inj ((hK1.2 5 _ rfl).2.symm.trans (hK1.2 4 _ rfl).2)
  subst ec
  refine lv_astore_n (k := 2) (i := 2) (lv' := [(2, .ref q), (0, .ref x), (1, .int len)]) hx hb (by decide +kernel) rfl hl (by decide) rfl (fun ls1 hl => ?_)
  refine lv_aload_n (k := 0) (i := 0) hx hb (by decide +kernel) rfl (lv_at hl 1 rfl) ?_
  refine lv_iconst (n := 0) (v := 0) hx hb (by decide +kernel) (by decide) ?_
  refine lv_aload_n (k := 2) (i := 2) hx hb (by decide +kernel) rfl (lv_at hl 0 rfl) ?_
  refine lv_iconst (n := 0) (v := 0) hx hb (by decide +kernel) (by decide) ?_
  refine lv_aload_n (k := 0) (i := 0) hx hb (by decide +kernel) rfl (lv_at hl 1 rfl) ?_
  refine va_alen hx hb hK1 hP 0 4 rfl rfl rfl (by decide +kernel) ?_
  refine lv_iload_n (k := 1) (i := 1) hx hb (by decide +kernel) rfl (lv_at hl 2 rfl) ?_
  refine va_mmin hx hb (hml.trans hl.1.symm) hown (hts _ (ce_w21 26 rfl)) (hts _ (ce_w0 7 rfl)) (hts _ (ce_w0 4 rfl)) (hts _ (ce_w0 8 rfl)) (Nat.le_refl 1) (Nat.le_of_ble_eq_true rfl) (Nat.le_refl _) (by show 0 + n1 ≤ n1; omega) (by decide +kernel) ?_
  have emin : (if len < Int32.ofNat n0 then len else Int32.ofNat n0) = nI n0 := by rw [if_neg (by rw [hlen]; exact nI_nlt (by omega) (by omega))]; rfl
  rw [show (if len < Int32.ofNat n0 then len else Int32.ofNat n0) = nI n0 from emin]
  refine va_copyl (rest := []) hx hb (hml.trans hl.1.symm) hown (hts _ (ce_w21 27 rfl)) (hts _ (ce_w21 28 rfl)) (hts _ (ce_w21 29 rfl)) (hts _ (ce_w21 30 rfl)) hK1 hP hD hS 0 1 4 4 rfl rfl rfl rfl rfl (sp := 0) (dp := 0) (n := nI n0) (by decide) (by decide) (nI_pos (by omega)) (by rw [nI_clamp (by omega)]; show 0 + n0 ≤ n0; omega) (by rw [nI_clamp (by omega)]; show 0 + n0 ≤ n1; omega) (fun _ _ => rfl) (Nat.le_refl 1) (by show 0 + (nativeFrameWords "java/lang/System" "arraycopy" 5 + 11) ≤ 40; decide +kernel) (by decide +kernel) (fun H2 locs2 hP hD hS => ?_)
  refine lv_aload_n (k := 2) (i := 2) hx hb (by decide +kernel) rfl (lv_at hl 0 rfl) ?_
  have ef : va_cpy f (fun _ => (0 : Int64)) (0 : Int32).toNatClampNeg (0 : Int32).toNatClampNeg (nI n0).toNatClampNeg = (fun b => if b < n0 then f b else 0) := by
    funext b
    rw [nI_clamp (by omega)]
    show (if 0 ≤ b ∧ b < 0 + n0 then f (0 + (b - 0)) else 0) = if b < n0 then f b else 0
    by_cases hbn : b < n0
    · rw [if_pos ⟨Nat.zero_le b, by omega⟩, if_pos hbn]; congr 1; omega
    · rw [if_neg (fun q => hbn (by omega)), if_neg hbn]
  rw [ef] at hP hD
  have hP : va_P D ce_cl [(x, .inl (ca 5, n0, .inr (.inl f))), (q, .inl (ca 5, n1, .inr (.inl (fun b => if b < n0 then f b else 0))))] H2 := hP
  have hD : va_D A [(x, .inl (ca 5, n0, .inr (.inl f))), (q, .inl (ca 5, n1, .inr (.inl (fun b => if b < n0 then f b else 0))))] := hD
  refine W.widen (k := 1) (n := n1) (Nat.le_refl _) (by show 0 + n1 ≤ n1; omega) ?_
  exact W.aret hx hb hr (Or.inr ⟨_, rfl⟩) (Or.inr ⟨q, rfl⟩) (fun t ht hW => ⟨⟨(), q, rfl, trivial, by rw [ht]; exact hP, hD⟩, hS.F ht⟩) hS.2.2 (by decide +kernel)
theorem z_one {A : Nat → Prop} {x : Nat} {e : va_E} (h : A x) : va_D A [(x, e)] := by
  refine ⟨fun i j p q hi hj _ => ?_, fun i q hi => ?_⟩
  · have h1 : i < 1 := (List.getElem?_eq_some_iff.mp hi).1
    have h2 : j < 1 := (List.getElem?_eq_some_iff.mp hj).1
    omega
  · have h1 : i < 1 := (List.getElem?_eq_some_iff.mp hi).1
    have h0 : i = 0 := by omega
    subst h0
    cases hi
    exact h
/-- behind a growth: the owner's field points at the new row, all else is as it was -/
theorem zgw {T : zTb} {ca : Nat → ClassId} {D : va_G} {cl : List vw_C} {ad ad' : Nat → Nat} {u u1 : zMu} {c q o j ci N : Nat} {H : Heap} (ho : T.2.2.1 o = (0, ci, N)) (hoK : o < T.1) (hoc : o ≠ c) (hP : va_P D cl ((zw T ca ad u).set o (ad o, .inr (ci, ((List.range N).map (zF T ad u o)).set j (.ref q)))) H) (hq : va_at D cl (q, zE T ca ad' u1 c) H) (hadc : ad' c = q) (had : ∀ k, k ≠ c → ad' k = ad k) (hfo : zF T ad' u1 o j = .ref q) (hfn : ∀ i, i < N → i ≠ j → zF T ad' u1 o i = zF T ad u o i) (hE : ∀ k, k < T.1 → k ≠ c → k ≠ o → zE T ca ad' u1 k = zE T ca ad u k) : va_P D cl (zw T ca ad' u1) H := by
  intro k x hk
  by_cases hkK : k < T.1
  · rw [zw_get hkK] at hk
    cases hk
    by_cases hkc : k = c
    · subst hkc
      rw [hadc]
      exact hq
    · have h := hP k
      rw [List.getElem?_set] at h
      by_cases hko : o = k
      · subst hko
        rw [if_pos rfl, if_pos (by simpa [zw] using hoK)] at h
        have h := h _ rfl
        rw [had _ hkc, zE_obj ho]
        have e : ((List.range N).map (zF T ad u o)).set j (.ref q) = (List.range N).map (zF T ad' u1 o) := by
          apply List.ext_getElem?
          intro i
          rw [List.getElem?_set]
          by_cases h1 : j = i
          · subst h1
            by_cases hj : j < N
            · simp [hj, hfo]
            · simp [hj]
          · rw [if_neg h1]
            by_cases hi : i < N
            · simp [hi, hfn i hi (fun e => h1 e.symm)]
            · simp [hi]
        rw [e] at h
        exact h
      · rw [if_neg hko, zw_get hkK] at h
        have h := h _ rfl
        rw [had _ hkc, hE k hkK hkc (fun e => hko e.symm)]
        exact h
  · rw [List.getElem?_eq_none (by simp [zw]; omega)] at hk
    cases hk
theorem zgd_apart {T : zTb} {ca : Nat → ClassId} {D : va_G} {cl : List vw_C} {A : Nat → Prop} {ad ad' : Nat → Nat} {u u1 : zMu} {c q : Nat} {H : Heap} (hP : va_P D cl (zw T ca ad u) H) (hD : va_D A (zw T ca ad u)) (hq : H.size ≤ q) (hA : A q) (hadc : ad' c = q) (had : ∀ k, k ≠ c → ad' k = ad k) : va_D A (zw T ca ad' u1) := by
  have hlt : ∀ k, k < T.1 → ad k < H.size := fun k hk => (hP k _ (zw_get hk)).lt
  have key : ∀ (k : Nat) (x : Nat × va_E), (zw T ca ad' u1)[k]? = some x → k < T.1 ∧ x.1 = ad' k := by
    intro k x hk
    by_cases hkK : k < T.1
    · rw [zw_get hkK] at hk
      cases hk
      exact ⟨hkK, rfl⟩
    · rw [List.getElem?_eq_none (by simp [zw]; omega)] at hk
      cases hk
  refine ⟨fun i j x y hi hj hxy => ?_, fun k x hk => ?_⟩
  · obtain ⟨i1, i2⟩ := key i x hi
    obtain ⟨j1, j2⟩ := key j y hj
    rw [i2, j2] at hxy
    by_cases ic : i = c
    · by_cases jc : j = c
      · rw [ic, jc]
      · rw [ic, hadc, had j jc] at hxy
        have := hlt j j1
        omega
    · by_cases jc : j = c
      · rw [jc, hadc, had i ic] at hxy
        have := hlt i i1
        omega
      · rw [had i ic, had j jc] at hxy
        exact hD.1 i j _ _ (zw_get i1) (zw_get j1) hxy
  · obtain ⟨i1, i2⟩ := key k x hk
    rw [i2]
    by_cases ic : k = c
    · rw [ic, hadc]; exact hA
    · rw [had k ic]; exact hD.2 k _ (zw_get i1)
/-- the class's tables: a growing row is one field's alone; moving references point at none -/
theorem ce_uniq {k j : Nat} (hk : k < 90) (hk0 : (ce_ct k).1 = 0) (hj : j < (ce_ct k).2.2) : ((ce_ft k j).1 = 2 → (ce_ct (ce_ft k j).2).2.2 = 0 → ce_ow (ce_ft k j).2 = (k, j)) ∧ ((ce_ft k j).1 = 3 → (k = 0 ∧ j = 4) ∨ (k = 0 ∧ j = 5) ∨ (k = 2 ∧ j = 1) ∨ (k = 34 ∧ j = 6)) ∧ (ce_ft k j).1 ≤ 3 := by
  have h := List.all_eq_true.mp ce_chk_ok k (List.mem_range.mpr hk)
  simp only [hk0, bne_self_eq_false, Bool.false_or] at h
  have h := List.all_eq_true.mp h j (List.mem_range.mpr hj)
  simp only [Bool.and_eq_true, Bool.or_eq_true, bne_iff_ne, ne_eq, beq_iff_eq, decide_eq_true_eq] at h
  obtain ⟨⟨h1, h2⟩, h3⟩ := h
  refine ⟨fun e1 e2 => ?_, fun e => ?_, h3⟩
  · rcases h1 with (h1 | h1) | h1
    · exact absurd e1 h1
    · exact absurd e2 h1
    · exact h1
  · omega
/-- a field of another place is as it was, when the row c went to q -/
theorem ce_fkeep {a g : Nat → Nat} {u u1 : zMu} {c q o j k i : Nat} (hu : u1.2.2.1 = u.2.2.1) (hI : ∀ b, (ce_ct k).1 = 0 → u1.1 k b = u.1 k b) (hL : ∀ b, (ce_ct k).1 = 0 → u1.2.1 k b = u.2.1 k b) (hoc : ce_ow c = (o, j)) (hcg : (ce_ct c).2.2 = 0) (hcN : 66 ≤ c) (hdy : zdy u = true) (hk : k < 90) (hk0 : (ce_ct k).1 = 0) (hi : i < (ce_ct k).2.2) (hne : ¬ (k = o ∧ i = j)) : zF ce_tb (zad ce_tb a (fun z => if z = c then q else g z)) u1 k i = zF ce_tb (zad ce_tb a g) u k i := by
  obtain ⟨h1, h2, h3⟩ := ce_uniq hk hk0 hi
  have had : ∀ z, z ≠ c → zad ce_tb a (fun z => if z = c then q else g z) z = zad ce_tb a g z := fun z hz => by unfold zad; simp [hz]
  unfold zF
  show (match (ce_ft k i).1 with | 0 => _ | 1 => _ | 2 => _ | _ => _) = (match (ce_ft k i).1 with | 0 => _ | 1 => _ | 2 => _ | _ => _)
  have hc : (ce_ft k i).1 = 0 ∨ (ce_ft k i).1 = 1 ∨ (ce_ft k i).1 = 2 ∨ (ce_ft k i).1 = 3 := by omega
  rcases hc with e | e | e | e
  · rw [e]
    show Value.int (u1.1 k i) = Value.int (u.1 k i)
    rw [hI i hk0]
  · rw [e]
    show Value.long (u1.2.1 k i) = Value.long (u.2.1 k i)
    rw [hL i hk0]
  · rw [e]
    show Value.ref (zad ce_tb a (fun z => if z = c then q else g z) (ce_ft k i).2) = Value.ref (zad ce_tb a g (ce_ft k i).2)
    rw [had _ (fun e2 => ?_)]
    have := h1 e (by rw [e2]; exact hcg)
    rw [e2, hoc] at this
    exact hne ⟨(Prod.mk.inj this).1.symm, (Prod.mk.inj this).2.symm⟩
  · rw [e]
    show (if zR u1 k i = 0 then Value.null else Value.ref (zad ce_tb a (fun z => if z = c then q else g z) (zR u1 k i))) = (if zR u k i = 0 then Value.null else Value.ref (zad ce_tb a g (zR u k i)))
    have er : zR u1 k i = zR u k i := by unfold zR; rw [hu]
    rw [er, had _ (fun e2 => ?_)]
    have hd := h2 e
    unfold zdy at hdy
    have hdy := of_decide_eq_true hdy
    rcases hd with ⟨rfl, rfl⟩ | ⟨rfl, rfl⟩ | ⟨rfl, rfl⟩ | ⟨rfl, rfl⟩ <;> omega
theorem z_growI {ρ : Type} {κ : zKx} {ca : Nat → ClassId} {D : va_G} {cc : ByteArray} {nL : Nat} {own : String} {rt : Option FieldType} {ret : ρ → Option Value} {d : Nat} {A : Nat → Prop} {c0 : Nat × Nat} {a g0 g : Nat → Nat} {u : zMu} {pc pc' : Nat} {lv : List (Nat × Value)} {st : List Value} {idx idx2 o j c x y : Nat} {len : Int32} {f : zMu → Option (ρ × zMu)} (hf : zFld (zCe ca D) own idx2 o j 2 false (.array .int)) (hc : (ce_ft o j).2 = c) (hg : (ce_ct c).1 = 1 ∧ (ce_ct c).2.2 = 0 ∧ c < ce_tb.1 ∧ ce_tb.2.1 ≤ c) (hx : zad ce_tb a g o = x) (hy : zad ce_tb a g c = y) (hG : zGX (zCe ca D) own idx ceY_copyI (.code ceY_copyI prog_21_method_123_code 3 (some (.array .int))) 2 3) (hdd : 2 ≤ d) (hW : (st.map fun v => v.category).sum ≤ 7) (hd1 : decode cc pc = .ok (.invokestatic idx, 3)) (hd2 : decode cc (pc + 3) = .ok (.putfield idx2, 3)) (hp : pc' = pc + 6)
    (k : ∀ (u1 : zMu) (g1 : Nat → Nat), zJ κ (zCe ca D) cc nL own rt ret false d A c0 a g0 g1 u1 pc' lv st (f u1)) : zJ κ (zCe ca D) cc nL own rt ret false d A c0 a g0 g u pc lv (.int len :: .ref y :: .ref x :: st) (zgd (zgokI u c len) (zlet (zgrI u c (zx len)) f)) := by
  refine z_gd fun hok => ?_
  have hok0 : zgokI u c len = true := hok
  obtain ⟨o1, o2, o3, o4⟩ := of_decide_eq_true (p := ¬ len < 0 ∧ zN u c < len.toNatClampNeg ∧ len.toNatClampNeg < 100000 ∧ zdy u = true) hok0
  intro r u' hX
  have hX : f (zgrI u c (zx len)) = some (r, u') := hX
  have hc1 : (zc (zgrI u c (zx len))).1 = (zc u).1 + 1 := rfl
  have hc2 : (zc (zgrI u c (zx len))).2 = (zc u).2 + zx len := rfl
  have hz := (k (zgrI u c (zx len)) g r u' hX).1
  have z1 := hz.1; have z2 := hz.2.1
  rw [hc1] at z1; rw [hc2] at z2
  refine ⟨⟨by omega, by omega, fun h => by cases h⟩, fun h1 ok h3 h4 h5 ls H locs hl hw => ?_⟩
  obtain ⟨C, Tt, N, ci, tf, f1, f2, f3, f4, f5, f6, f7, f8, f9⟩ := hf
  have q1 := h3.1; have q2 := h3.2.1
  subst hc
  have hlen0 : zlen ce_tb u (ce_ft o j).2 = zN u (ce_ft o j).2 := by unfold zlen; rw [show (ce_tb.2.2.1 (ce_ft o j).2).2.2 = 0 from hg.2.1]; rfl
  have hcell : (zw ce_tb ca (zad ce_tb a g) u)[(ce_ft o j).2]? = some (y, .inl (ca 1, zN u (ce_ft o j).2, .inl (u.1 (ce_ft o j).2))) := by rw [zw_get hg.2.2.1, zE_int (T := ce_tb) hg.1 (by decide) (by decide), hlen0, hy]
  have hPc := hw.1.sub (ws' := [(y, .inl (ca 1, zN u (ce_ft o j).2, .inl (u.1 (ce_ft o j).2)))]) [(ce_ft o j).2] (by rw [List.filterMap_cons]; simp only [hcell, List.filterMap_nil])
  have hFc : ∀ q, va_A [(y, .inl (ca 1, zN u (ce_ft o j).2, .inl (u.1 (ce_ft o j).2)))] H.size q → A q := va_free (wc := [(y, .inl (ca 1, zN u (ce_ft o j).2, .inl (u.1 (ce_ft o j).2)))]) hw.2.1 hw.2.2 h5.1 [(ce_ft o j).2] (by simp only [List.map_cons, hcell, List.map_nil])
  have hM := z_copyI_met (zKl κ) ca D y (zN u (ce_ft o j).2) (zx len) (u.1 (ce_ft o j).2) len H.size o1 rfl o2 o3
  have hRf : (zKR κ).frames = d := by rw [h1]; rfl
  have hRl : (zKR κ).locals = 40 * d := by rw [h1]; rfl
  have hRc : (zKR κ).cells = (zc u').1 - c0.1 := by rw [h1]; rfl
  have hRs : (zKR κ).slots = (zc u').2 - c0.2 := by rw [h1]; rfl
  have hrun := va_runS (e := κ.2.2.1) (below := zKb κ) (meth := zKt κ) (g := F0 (zKm κ) pc ls (.int len :: .ref y :: .ref x :: st)) (rest := .ref x :: st) ⟨ok.1, ok.2.1, ok.2.2.1, ok.2.2.2.1, ok.2.2.2.2.1⟩ hM (va_cwS 2 ok.2.2.2.2.1 hG.1 rfl rfl rfl hG.2.1 ⟨by rw [hRf]; exact hdd, by rw [hRl]; show 8 + (3 + 11) + 40 ≤ 40 * d; omega⟩) ⟨fun a' U g' mk q => by obtain ⟨e0, e1, e2, e3, e4⟩ := q; exact ⟨e0, e1, e2, va_K.moved (u := U) (U := U.calling g' mk a') (Vm.Alike.refl U.vm) e3, e4⟩, fun U hU hWm => ⟨rfl, by rw [hU], by rw [hU]; exact hPc, va_K.moved hWm.alike ok.2.2.2.2.2.2.2, z_one trivial⟩⟩ rfl rfl hl.1 rfl (lv_room (by show 1 + (st.map fun v => v.category).sum ≤ 8; omega)) hd1 (cells := (zc u).1 - c0.1) (slots := (zc u).2 - c0.2) (locs := locs) ⟨by rw [hRc]; omega, by rw [hRs]; omega⟩
  refine va_callr hrun hw.2.2 (fun q _ h => hFc q h) hFc (fun _ q t H1 locs1 ht hvm _ hB hz1 hk1 hS => ?_)
  obtain ⟨hP1, hD1⟩ := hB
  rw [ht] at hP1
  have hqn : H.size ≤ q := by
    rcases hD1.2 1 _ rfl with ⟨i, e, hi⟩ | h
    · cases i with
      | zero => cases hi; exact absurd (hD1.1 0 1 _ _ rfl rfl rfl) (by decide)
      | succ i => cases hi
    · exact h
  have hPk : va_P D ce_cl (zw ce_tb ca (zad ce_tb a g) u) H1 := by
    refine hw.1.kept (fun k x hk => ?_)
    by_cases hxy : x.1 = y
    · rw [hxy]; exact (hP1 0 _ rfl).trans (hPc 0 _ rfl).symm
    · refine hk1 x.1 ((hw.1 k x hk).lt) (fun h => ?_)
      rcases h with ⟨i, e, hi⟩ | h
      · cases i with
        | zero => cases hi; exact hxy rfl
        | succ i => cases hi
      · exact absurd ((hw.1 k x hk).lt) (Nat.not_lt.mpr h)
  have hPq : va_P D ce_cl [(q, .inl (ca 1, zx len, .inl (fun b => if b < zN u (ce_ft o j).2 then u.1 (ce_ft o j).2 b else 0)))] H1 := hP1.sub [1] rfl
  have hAq : A q := h5.1 q (Nat.le_trans hw.2.2.1 hqn)
  have hDq : va_D A (zw ce_tb ca (zad ce_tb a g) u ++ [(q, .inl (ca 1, zx len, .inl (fun b => if b < zN u (ce_ft o j).2 then u.1 (ce_ft o j).2 b else 0)))]) := by
    refine va_D.app hw.2.1 (z_one hAq) (fun i j' x x' hx' hy' hxy => ?_)
    cases j' with
    | zero =>
      cases hy'
      have := (hw.1 i x hx').lt
      rw [hxy] at this
      exact absurd this (Nat.not_lt.mpr hqn)
    | succ j' => cases hy'
  have hoL : o < (zw ce_tb ca (zad ce_tb a g) u).length := by simpa [zw] using f2
  subst hx
  refine va_put (ws := zw ce_tb ca (zad ce_tb a g) u ++ [(q, .inl (ca 1, zx len, .inl (fun b => if b < zN u (ce_ft o j).2 then u.1 (ce_ft o j).2 b else 0)))]) ok.1 ok.2.1 ok.2.2.2.2.1 f4.1 tf f4.2.1 f4.2.2 ok.2.2.2.1 ok.2.2.2.2.2.2.2 (hPk.app hPq) hDq hS o (by rw [List.getElem?_append_left hoL, zw_get f2, zE_obj f1]) f3 j f5 (ok.2.2.2.2.1 _ f6) (fun _ q => q) f8 (by rw [f4.2.1 _ f5, f9]) rfl rfl (by simp [f5]) hd2 (fun H2 locs2 hP2 hD2 hS2 => ?_)
  rw [List.set_append_left _ _ hoL] at hP2
  have hlen2 : ∀ z : Nat × va_E, ((zw ce_tb ca (zad ce_tb a g) u).set o z).length = ce_tb.1 := fun z => by simp [zw]
  have hP2a : va_P D ce_cl _ H2 := fun k x hk => hP2 k x (by rw [List.getElem?_append_left (List.getElem?_eq_some_iff.mp hk).1]; exact hk)
  have hq2 := hP2 ce_tb.1 _ (by rw [List.getElem?_append_right (by rw [hlen2]; exact Nat.le_refl _), hlen2, Nat.sub_self]; rfl)
  have hct : (ce_ct o).1 = 0 ∧ (ce_ct o).2.2 = N := by rw [show ce_ct o = (0, ci, N) from f1]; exact ⟨rfl, rfl⟩
  have huq := ce_uniq (k := o) (j := j) f2 hct.1 (by rw [hct.2]; exact f5)
  have how := huq.1 f7 hg.2.1
  have hoc : o ≠ (ce_ft o j).2 := fun e => by have h1 := hg.1; rw [← e, hct.1] at h1; exact absurd h1 (by decide)
  have hadc : zad ce_tb a (fun z => if z = (ce_ft o j).2 then q else g z) (ce_ft o j).2 = q := by
    unfold zad
    rw [if_neg (Nat.not_lt.mpr hg.2.2.2), if_pos (show (ce_tb.2.2.1 (ce_ft o j).2).2.2 = 0 from hg.2.1)]; exact if_pos rfl
  have had : ∀ k, k ≠ (ce_ft o j).2 → zad ce_tb a (fun z => if z = (ce_ft o j).2 then q else g z) k = zad ce_tb a g k := fun k hk => by unfold zad; simp [hk]
  have hIk : ∀ k b, k ≠ (ce_ft o j).2 → (zgrI u (ce_ft o j).2 (zx len)).1 k b = u.1 k b := fun k b hk => if_neg hk
  have hLk : ∀ k b, k ≠ (ce_ft o j).2 → (zgrI u (ce_ft o j).2 (zx len)).2.1 k b = u.2.1 k b := fun k b hk => rfl
  have hNk : ∀ k, k ≠ (ce_ft o j).2 → zN (zgrI u (ce_ft o j).2 (zx len)) k = zN u k := fun k hk => if_neg hk
  have hfk : ∀ k i, k ≠ (ce_ft o j).2 → k < 90 → (ce_ct k).1 = 0 → i < (ce_ct k).2.2 → ¬ (k = o ∧ i = j) → zF ce_tb (zad ce_tb a (fun z => if z = (ce_ft o j).2 then q else g z)) (zgrI u (ce_ft o j).2 (zx len)) k i = zF ce_tb (zad ce_tb a g) u k i := fun k i hkc hk hk0 hi hne => ce_fkeep rfl (fun b _ => hIk k b hkc) (fun b _ => hLk k b hkc) how hg.2.1 hg.2.2.2 o4 hk hk0 hi hne
  have hE : ∀ k, k < ce_tb.1 → k ≠ (ce_ft o j).2 → k ≠ o → zE ce_tb ca (zad ce_tb a (fun z => if z = (ce_ft o j).2 then q else g z)) (zgrI u (ce_ft o j).2 (zx len)) k = zE ce_tb ca (zad ce_tb a g) u k := by
    intro k hk hkc hko
    by_cases h0 : (ce_ct k).1 = 0
    · have e0 : ce_tb.2.2.1 k = (0, (ce_ct k).2.1, (ce_ct k).2.2) := by show ce_ct k = _; rw [← h0]
      rw [zE_obj e0, zE_obj e0]
      congr 2
      exact List.map_congr_left (fun i hi => hfk k i hkc hk h0 (List.mem_range.mp hi) (fun q => hko q.1))
    · have el : zlen ce_tb (zgrI u (ce_ft o j).2 (zx len)) k = zlen ce_tb u k := by unfold zlen; rw [hNk k hkc]
      by_cases h5' : (ce_ct k).1 = 5
      · rw [zE_long (T := ce_tb) h5', zE_long (T := ce_tb) h5', el, show (zgrI u (ce_ft o j).2 (zx len)).2.1 k = u.2.1 k from funext fun b => hLk k b hkc]
      · rw [zE_int (T := ce_tb) rfl h0 h5', zE_int (T := ce_tb) rfl h0 h5', el, show (zgrI u (ce_ft o j).2 (zx len)).1 k = u.1 k from funext fun b => hIk k b hkc]
  have hnew : zE ce_tb ca (zad ce_tb a (fun z => if z = (ce_ft o j).2 then q else g z)) (zgrI u (ce_ft o j).2 (zx len)) (ce_ft o j).2 = .inl (ca 1, zx len, .inl (fun b => if b < zN u (ce_ft o j).2 then u.1 (ce_ft o j).2 b else 0)) := by
    rw [zE_int (T := ce_tb) hg.1 (by decide) (by decide)]
    have el : zlen ce_tb (zgrI u (ce_ft o j).2 (zx len)) (ce_ft o j).2 = zx len := by unfold zlen; rw [if_pos (show (ce_tb.2.2.1 (ce_ft o j).2).2.2 = 0 from hg.2.1)]; exact if_pos rfl
    rw [el, show (zgrI u (ce_ft o j).2 (zx len)).1 (ce_ft o j).2 = (fun b => if b < zN u (ce_ft o j).2 then u.1 (ce_ft o j).2 b else 0) from funext fun b => if_pos rfl]
  have hPn := zgw (T := ce_tb) (ca := ca) (ad' := zad ce_tb a (fun z => if z = (ce_ft o j).2 then q else g z)) (u1 := zgrI u (ce_ft o j).2 (zx len)) f1 f2 hoc hP2a (by rw [hnew]; exact hq2) hadc had (by unfold zF; rw [show (ce_tb.2.2.2 o j).1 = 2 from f7]; exact congrArg Value.ref hadc) (fun i hi hij => hfk o i hoc f2 hct.1 (by rw [hct.2]; exact hi) (fun q => hij q.2)) hE
  have hDn := zgd_apart (T := ce_tb) (ca := ca) (ad' := zad ce_tb a (fun z => if z = (ce_ft o j).2 then q else g z)) (u1 := zgrI u (ce_ft o j).2 (zx len)) hw.1 hw.2.1 hqn hAq hadc had
  have kk := (k (zgrI u (ce_ft o j).2 (zx len)) (fun z => if z = (ce_ft o j).2 then q else g z) r u' hX).2 h1 ok ⟨by rw [hc1]; omega, by rw [hc2]; omega, fun h => by cases h⟩ (fun h => by cases h) h5 ls H2 locs2 hl ⟨hPn, hDn, hS2⟩
  rw [hc1, hc2] at kk
  have e1 : (zc u).1 - c0.1 + 1 = (zc u).1 + 1 - c0.1 := by omega
  have e2 : (zc u).2 - c0.2 + zx len = (zc u).2 + zx len - c0.2 := by omega
  rw [e1, e2]
  subst hp
  exact kk
theorem z_growB {ρ : Type} {κ : zKx} {ca : Nat → ClassId} {D : va_G} {cc : ByteArray} {nL : Nat} {own : String} {rt : Option FieldType} {ret : ρ → Option Value} {d : Nat} {A : Nat → Prop} {c0 : Nat × Nat} {a g0 g : Nat → Nat} {u : zMu} {pc pc' : Nat} {lv : List (Nat × Value)} {st : List Value} {idx idx2 o j c x y : Nat} {len : Int32} {f : zMu → Option (ρ × zMu)} (hf : zFld (zCe ca D) own idx2 o j 2 false (.array .byte)) (hc : (ce_ft o j).2 = c) (hg : (ce_ct c).1 = 2 ∧ (ce_ct c).2.2 = 0 ∧ c < ce_tb.1 ∧ ce_tb.2.1 ≤ c) (hx : zad ce_tb a g o = x) (hy : zad ce_tb a g c = y) (hG : zGX (zCe ca D) own idx ceY_copyB (.code ceY_copyB prog_21_method_121_code 3 (some (.array .byte))) 2 3) (hdd : 2 ≤ d) (hW : (st.map fun v => v.category).sum ≤ 7) (hd1 : decode cc pc = .ok (.invokestatic idx, 3)) (hd2 : decode cc (pc + 3) = .ok (.putfield idx2, 3)) (hp : pc' = pc + 6)
    (k : ∀ (u1 : zMu) (g1 : Nat → Nat), zJ κ (zCe ca D) cc nL own rt ret false d A c0 a g0 g1 u1 pc' lv st (f u1)) : zJ κ (zCe ca D) cc nL own rt ret false d A c0 a g0 g u pc lv (.int len :: .ref y :: .ref x :: st) (zgd (zgokB u c len) (zlet (zgrI u c (zx len)) f)) := by
  refine z_gd fun hok => ?_
  have hok0 : zgokI u c len = true := by unfold zgokB at hok; exact (Bool.and_eq_true_iff.mp hok).1
  have hfit : ∀ i, i < zN u c → fits .byte (.int (u.1 c i)) = true := by
    unfold zgokB at hok
    have h := List.all_eq_true.mp (Bool.and_eq_true_iff.mp hok).2
    exact fun i hi => h i (List.mem_range.mpr hi)
  obtain ⟨o1, o2, o3, o4⟩ := of_decide_eq_true (p := ¬ len < 0 ∧ zN u c < len.toNatClampNeg ∧ len.toNatClampNeg < 100000 ∧ zdy u = true) hok0
  intro r u' hX
  have hX : f (zgrI u c (zx len)) = some (r, u') := hX
  have hc1 : (zc (zgrI u c (zx len))).1 = (zc u).1 + 1 := rfl
  have hc2 : (zc (zgrI u c (zx len))).2 = (zc u).2 + zx len := rfl
  have hz := (k (zgrI u c (zx len)) g r u' hX).1
  have z1 := hz.1; have z2 := hz.2.1
  rw [hc1] at z1; rw [hc2] at z2
  refine ⟨⟨by omega, by omega, fun h => by cases h⟩, fun h1 ok h3 h4 h5 ls H locs hl hw => ?_⟩
  obtain ⟨C, Tt, N, ci, tf, f1, f2, f3, f4, f5, f6, f7, f8, f9⟩ := hf
  have q1 := h3.1; have q2 := h3.2.1
  subst hc
  have hlen0 : zlen ce_tb u (ce_ft o j).2 = zN u (ce_ft o j).2 := by unfold zlen; rw [show (ce_tb.2.2.1 (ce_ft o j).2).2.2 = 0 from hg.2.1]; rfl
  have hcell : (zw ce_tb ca (zad ce_tb a g) u)[(ce_ft o j).2]? = some (y, .inl (ca 2, zN u (ce_ft o j).2, .inl (u.1 (ce_ft o j).2))) := by rw [zw_get hg.2.2.1, zE_int (T := ce_tb) hg.1 (by decide) (by decide), hlen0, hy]
  have hPc := hw.1.sub (ws' := [(y, .inl (ca 2, zN u (ce_ft o j).2, .inl (u.1 (ce_ft o j).2)))]) [(ce_ft o j).2] (by rw [List.filterMap_cons]; simp only [hcell, List.filterMap_nil])
  have hFc : ∀ q, va_A [(y, .inl (ca 2, zN u (ce_ft o j).2, .inl (u.1 (ce_ft o j).2)))] H.size q → A q := va_free (wc := [(y, .inl (ca 2, zN u (ce_ft o j).2, .inl (u.1 (ce_ft o j).2)))]) hw.2.1 hw.2.2 h5.1 [(ce_ft o j).2] (by simp only [List.map_cons, hcell, List.map_nil])
  have hM := z_copyB_met (zKl κ) ca D y (zN u (ce_ft o j).2) (zx len) (u.1 (ce_ft o j).2) len H.size o1 rfl o2 o3 hfit
  have hRf : (zKR κ).frames = d := by rw [h1]; rfl
  have hRl : (zKR κ).locals = 40 * d := by rw [h1]; rfl
  have hRc : (zKR κ).cells = (zc u').1 - c0.1 := by rw [h1]; rfl
  have hRs : (zKR κ).slots = (zc u').2 - c0.2 := by rw [h1]; rfl
  have hrun := va_runS (e := κ.2.2.1) (below := zKb κ) (meth := zKt κ) (g := F0 (zKm κ) pc ls (.int len :: .ref y :: .ref x :: st)) (rest := .ref x :: st) ⟨ok.1, ok.2.1, ok.2.2.1, ok.2.2.2.1, ok.2.2.2.2.1⟩ hM (va_cwS 2 ok.2.2.2.2.1 hG.1 rfl rfl rfl hG.2.1 ⟨by rw [hRf]; exact hdd, by rw [hRl]; show 8 + (3 + 11) + 40 ≤ 40 * d; omega⟩) ⟨fun a' U g' mk q => by obtain ⟨e0, e1, e2, e3, e4⟩ := q; exact ⟨e0, e1, e2, va_K.moved (u := U) (U := U.calling g' mk a') (Vm.Alike.refl U.vm) e3, e4⟩, fun U hU hWm => ⟨rfl, by rw [hU], by rw [hU]; exact hPc, va_K.moved hWm.alike ok.2.2.2.2.2.2.2, z_one trivial⟩⟩ rfl rfl hl.1 rfl (lv_room (by show 1 + (st.map fun v => v.category).sum ≤ 8; omega)) hd1 (cells := (zc u).1 - c0.1) (slots := (zc u).2 - c0.2) (locs := locs) ⟨by rw [hRc]; omega, by rw [hRs]; omega⟩
  refine va_callr hrun hw.2.2 (fun q _ h => hFc q h) hFc (fun _ q t H1 locs1 ht hvm _ hB hz1 hk1 hS => ?_)
  obtain ⟨hP1, hD1⟩ := hB
  rw [ht] at hP1
  have hqn : H.size ≤ q := by
    rcases hD1.2 1 _ rfl with ⟨i, e, hi⟩ | h
    · cases i with
      | zero => cases hi; exact absurd (hD1.1 0 1 _ _ rfl rfl rfl) (by decide)
      | succ i => cases hi
    · exact h
  have hPk : va_P D ce_cl (zw ce_tb ca (zad ce_tb a g) u) H1 := by
    refine hw.1.kept (fun k x hk => ?_)
    by_cases hxy : x.1 = y
    · rw [hxy]; exact (hP1 0 _ rfl).trans (hPc 0 _ rfl).symm
    · refine hk1 x.1 ((hw.1 k x hk).lt) (fun h => ?_)
      rcases h with ⟨i, e, hi⟩ | h
      · cases i with
        | zero => cases hi; exact hxy rfl
        | succ i => cases hi
      · exact absurd ((hw.1 k x hk).lt) (Nat.not_lt.mpr h)
  have hPq : va_P D ce_cl [(q, .inl (ca 2, zx len, .inl (fun b => if b < zN u (ce_ft o j).2 then u.1 (ce_ft o j).2 b else 0)))] H1 := hP1.sub [1] rfl
  have hAq : A q := h5.1 q (Nat.le_trans hw.2.2.1 hqn)
  have hDq : va_D A (zw ce_tb ca (zad ce_tb a g) u ++ [(q, .inl (ca 2, zx len, .inl (fun b => if b < zN u (ce_ft o j).2 then u.1 (ce_ft o j).2 b else 0)))]) := by
    refine va_D.app hw.2.1 (z_one hAq) (fun i j' x x' hx' hy' hxy => ?_)
    cases j' with
    | zero =>
      cases hy'
      have := (hw.1 i x hx').lt
      rw [hxy] at this
      exact absurd this (Nat.not_lt.mpr hqn)
    | succ j' => cases hy'
  have hoL : o < (zw ce_tb ca (zad ce_tb a g) u).length := by simpa [zw] using f2
  subst hx
  refine va_put (ws := zw ce_tb ca (zad ce_tb a g) u ++ [(q, .inl (ca 2, zx len, .inl (fun b => if b < zN u (ce_ft o j).2 then u.1 (ce_ft o j).2 b else 0)))]) ok.1 ok.2.1 ok.2.2.2.2.1 f4.1 tf f4.2.1 f4.2.2 ok.2.2.2.1 ok.2.2.2.2.2.2.2 (hPk.app hPq) hDq hS o (by rw [List.getElem?_append_left hoL, zw_get f2, zE_obj f1]) f3 j f5 (ok.2.2.2.2.1 _ f6) (fun _ q => q) f8 (by rw [f4.2.1 _ f5, f9]) rfl rfl (by simp [f5]) hd2 (fun H2 locs2 hP2 hD2 hS2 => ?_)
  rw [List.set_append_left _ _ hoL] at hP2
  have hlen2 : ∀ z : Nat × va_E, ((zw ce_tb ca (zad ce_tb a g) u).set o z).length = ce_tb.1 := fun z => by simp [zw]
  have hP2a : va_P D ce_cl _ H2 := fun k x hk => hP2 k x (by rw [List.getElem?_append_left (List.getElem?_eq_some_iff.mp hk).1]; exact hk)
  have hq2 := hP2 ce_tb.1 _ (by rw [List.getElem?_append_right (by rw [hlen2]; exact Nat.le_refl _), hlen2, Nat.sub_self]; rfl)
  have hct : (ce_ct o).1 = 0 ∧ (ce_ct o).2.2 = N := by rw [show ce_ct o = (0, ci, N) from f1]; exact ⟨rfl, rfl⟩
  have huq := ce_uniq (k := o) (j := j) f2 hct.1 (by rw [hct.2]; exact f5)
  have how := huq.1 f7 hg.2.1
  have hoc : o ≠ (ce_ft o j).2 := fun e => by have h1 := hg.1; rw [← e, hct.1] at h1; exact absurd h1 (by decide)
  have hadc : zad ce_tb a (fun z => if z = (ce_ft o j).2 then q else g z) (ce_ft o j).2 = q := by
    unfold zad
    rw [if_neg (Nat.not_lt.mpr hg.2.2.2), if_pos (show (ce_tb.2.2.1 (ce_ft o j).2).2.2 = 0 from hg.2.1)]; exact if_pos rfl
  have had : ∀ k, k ≠ (ce_ft o j).2 → zad ce_tb a (fun z => if z = (ce_ft o j).2 then q else g z) k = zad ce_tb a g k := fun k hk => by unfold zad; simp [hk]
  have hIk : ∀ k b, k ≠ (ce_ft o j).2 → (zgrI u (ce_ft o j).2 (zx len)).1 k b = u.1 k b := fun k b hk => if_neg hk
  have hLk : ∀ k b, k ≠ (ce_ft o j).2 → (zgrI u (ce_ft o j).2 (zx len)).2.1 k b = u.2.1 k b := fun k b hk => rfl
  have hNk : ∀ k, k ≠ (ce_ft o j).2 → zN (zgrI u (ce_ft o j).2 (zx len)) k = zN u k := fun k hk => if_neg hk
  have hfk : ∀ k i, k ≠ (ce_ft o j).2 → k < 90 → (ce_ct k).1 = 0 → i < (ce_ct k).2.2 → ¬ (k = o ∧ i = j) → zF ce_tb (zad ce_tb a (fun z => if z = (ce_ft o j).2 then q else g z)) (zgrI u (ce_ft o j).2 (zx len)) k i = zF ce_tb (zad ce_tb a g) u k i := fun k i hkc hk hk0 hi hne => ce_fkeep rfl (fun b _ => hIk k b hkc) (fun b _ => hLk k b hkc) how hg.2.1 hg.2.2.2 o4 hk hk0 hi hne
  have hE : ∀ k, k < ce_tb.1 → k ≠ (ce_ft o j).2 → k ≠ o → zE ce_tb ca (zad ce_tb a (fun z => if z = (ce_ft o j).2 then q else g z)) (zgrI u (ce_ft o j).2 (zx len)) k = zE ce_tb ca (zad ce_tb a g) u k := by
    intro k hk hkc hko
    by_cases h0 : (ce_ct k).1 = 0
    · have e0 : ce_tb.2.2.1 k = (0, (ce_ct k).2.1, (ce_ct k).2.2) := by show ce_ct k = _; rw [← h0]
      rw [zE_obj e0, zE_obj e0]
      congr 2
      exact List.map_congr_left (fun i hi => hfk k i hkc hk h0 (List.mem_range.mp hi) (fun q => hko q.1))
    · have el : zlen ce_tb (zgrI u (ce_ft o j).2 (zx len)) k = zlen ce_tb u k := by unfold zlen; rw [hNk k hkc]
      by_cases h5' : (ce_ct k).1 = 5
      · rw [zE_long (T := ce_tb) h5', zE_long (T := ce_tb) h5', el, show (zgrI u (ce_ft o j).2 (zx len)).2.1 k = u.2.1 k from funext fun b => hLk k b hkc]
      · rw [zE_int (T := ce_tb) rfl h0 h5', zE_int (T := ce_tb) rfl h0 h5', el, show (zgrI u (ce_ft o j).2 (zx len)).1 k = u.1 k from funext fun b => hIk k b hkc]
  have hnew : zE ce_tb ca (zad ce_tb a (fun z => if z = (ce_ft o j).2 then q else g z)) (zgrI u (ce_ft o j).2 (zx len)) (ce_ft o j).2 = .inl (ca 2, zx len, .inl (fun b => if b < zN u (ce_ft o j).2 then u.1 (ce_ft o j).2 b else 0)) := by
    rw [zE_int (T := ce_tb) hg.1 (by decide) (by decide)]
    have el : zlen ce_tb (zgrI u (ce_ft o j).2 (zx len)) (ce_ft o j).2 = zx len := by unfold zlen; rw [if_pos (show (ce_tb.2.2.1 (ce_ft o j).2).2.2 = 0 from hg.2.1)]; exact if_pos rfl
    rw [el, show (zgrI u (ce_ft o j).2 (zx len)).1 (ce_ft o j).2 = (fun b => if b < zN u (ce_ft o j).2 then u.1 (ce_ft o j).2 b else 0) from funext fun b => if_pos rfl]
  have hPn := zgw (T := ce_tb) (ca := ca) (ad' := zad ce_tb a (fun z => if z = (ce_ft o j).2 then q else g z)) (u1 := zgrI u (ce_ft o j).2 (zx len)) f1 f2 hoc hP2a (by rw [hnew]; exact hq2) hadc had (by unfold zF; rw [show (ce_tb.2.2.2 o j).1 = 2 from f7]; exact congrArg Value.ref hadc) (fun i hi hij => hfk o i hoc f2 hct.1 (by rw [hct.2]; exact hi) (fun q => hij q.2)) hE
  have hDn := zgd_apart (T := ce_tb) (ca := ca) (ad' := zad ce_tb a (fun z => if z = (ce_ft o j).2 then q else g z)) (u1 := zgrI u (ce_ft o j).2 (zx len)) hw.1 hw.2.1 hqn hAq hadc had
  have kk := (k (zgrI u (ce_ft o j).2 (zx len)) (fun z => if z = (ce_ft o j).2 then q else g z) r u' hX).2 h1 ok ⟨by rw [hc1]; omega, by rw [hc2]; omega, fun h => by cases h⟩ (fun h => by cases h) h5 ls H2 locs2 hl ⟨hPn, hDn, hS2⟩
  rw [hc1, hc2] at kk
  have e1 : (zc u).1 - c0.1 + 1 = (zc u).1 + 1 - c0.1 := by omega
  have e2 : (zc u).2 - c0.2 + zx len = (zc u).2 + zx len - c0.2 := by omega
  rw [e1, e2]
  subst hp
  exact kk
theorem z_growL {ρ : Type} {κ : zKx} {ca : Nat → ClassId} {D : va_G} {cc : ByteArray} {nL : Nat} {own : String} {rt : Option FieldType} {ret : ρ → Option Value} {d : Nat} {A : Nat → Prop} {c0 : Nat × Nat} {a g0 g : Nat → Nat} {u : zMu} {pc pc' : Nat} {lv : List (Nat × Value)} {st : List Value} {idx idx2 o j c x y : Nat} {len : Int32} {f : zMu → Option (ρ × zMu)} (hf : zFld (zCe ca D) own idx2 o j 2 false (.array .long)) (hc : (ce_ft o j).2 = c) (hg : (ce_ct c).1 = 5 ∧ (ce_ct c).2.2 = 0 ∧ c < ce_tb.1 ∧ ce_tb.2.1 ≤ c) (hx : zad ce_tb a g o = x) (hy : zad ce_tb a g c = y) (hG : zGX (zCe ca D) own idx ceY_copyL (.code ceY_copyL prog_21_method_124_code 3 (some (.array .long))) 2 3) (hdd : 2 ≤ d) (hW : (st.map fun v => v.category).sum ≤ 7) (hd1 : decode cc pc = .ok (.invokestatic idx, 3)) (hd2 : decode cc (pc + 3) = .ok (.putfield idx2, 3)) (hp : pc' = pc + 6)
    (k : ∀ (u1 : zMu) (g1 : Nat → Nat), zJ κ (zCe ca D) cc nL own rt ret false d A c0 a g0 g1 u1 pc' lv st (f u1)) : zJ κ (zCe ca D) cc nL own rt ret false d A c0 a g0 g u pc lv (.int len :: .ref y :: .ref x :: st) (zgd (zgokL u c len) (zlet (zgrL u c (zx len)) f)) := by
  refine z_gd fun hok => ?_
  have hok0 : zgokI u c len = true := hok
  obtain ⟨o1, o2, o3, o4⟩ := of_decide_eq_true (p := ¬ len < 0 ∧ zN u c < len.toNatClampNeg ∧ len.toNatClampNeg < 100000 ∧ zdy u = true) hok0
  intro r u' hX
  have hX : f (zgrL u c (zx len)) = some (r, u') := hX
  have hc1 : (zc (zgrL u c (zx len))).1 = (zc u).1 + 1 := rfl
  have hc2 : (zc (zgrL u c (zx len))).2 = (zc u).2 + zx len := rfl
  have hz := (k (zgrL u c (zx len)) g r u' hX).1
  have z1 := hz.1; have z2 := hz.2.1
  rw [hc1] at z1; rw [hc2] at z2
  refine ⟨⟨by omega, by omega, fun h => by cases h⟩, fun h1 ok h3 h4 h5 ls H locs hl hw => ?_⟩
  obtain ⟨C, Tt, N, ci, tf, f1, f2, f3, f4, f5, f6, f7, f8, f9⟩ := hf
  have q1 := h3.1; have q2 := h3.2.1
  subst hc
  have hlen0 : zlen ce_tb u (ce_ft o j).2 = zN u (ce_ft o j).2 := by unfold zlen; rw [show (ce_tb.2.2.1 (ce_ft o j).2).2.2 = 0 from hg.2.1]; rfl
  have hcell : (zw ce_tb ca (zad ce_tb a g) u)[(ce_ft o j).2]? = some (y, .inl (ca 5, zN u (ce_ft o j).2, .inr (.inl (u.2.1 (ce_ft o j).2)))) := by rw [zw_get hg.2.2.1, zE_long (T := ce_tb) hg.1, hlen0, hy]
  have hPc := hw.1.sub (ws' := [(y, .inl (ca 5, zN u (ce_ft o j).2, .inr (.inl (u.2.1 (ce_ft o j).2))))]) [(ce_ft o j).2] (by rw [List.filterMap_cons]; simp only [hcell, List.filterMap_nil])
  have hFc : ∀ q, va_A [(y, .inl (ca 5, zN u (ce_ft o j).2, .inr (.inl (u.2.1 (ce_ft o j).2))))] H.size q → A q := va_free (wc := [(y, .inl (ca 5, zN u (ce_ft o j).2, .inr (.inl (u.2.1 (ce_ft o j).2))))]) hw.2.1 hw.2.2 h5.1 [(ce_ft o j).2] (by simp only [List.map_cons, hcell, List.map_nil])
  have hM := z_copyL_met (zKl κ) ca D y (zN u (ce_ft o j).2) (zx len) (u.2.1 (ce_ft o j).2) len H.size o1 rfl o2 o3
  have hRf : (zKR κ).frames = d := by rw [h1]; rfl
  have hRl : (zKR κ).locals = 40 * d := by rw [h1]; rfl
  have hRc : (zKR κ).cells = (zc u').1 - c0.1 := by rw [h1]; rfl
  have hRs : (zKR κ).slots = (zc u').2 - c0.2 := by rw [h1]; rfl
  have hrun := va_runS (e := κ.2.2.1) (below := zKb κ) (meth := zKt κ) (g := F0 (zKm κ) pc ls (.int len :: .ref y :: .ref x :: st)) (rest := .ref x :: st) ⟨ok.1, ok.2.1, ok.2.2.1, ok.2.2.2.1, ok.2.2.2.2.1⟩ hM (va_cwS 2 ok.2.2.2.2.1 hG.1 rfl rfl rfl hG.2.1 ⟨by rw [hRf]; exact hdd, by rw [hRl]; show 8 + (3 + 11) + 40 ≤ 40 * d; omega⟩) ⟨fun a' U g' mk q => by obtain ⟨e0, e1, e2, e3, e4⟩ := q; exact ⟨e0, e1, e2, va_K.moved (u := U) (U := U.calling g' mk a') (Vm.Alike.refl U.vm) e3, e4⟩, fun U hU hWm => ⟨rfl, by rw [hU], by rw [hU]; exact hPc, va_K.moved hWm.alike ok.2.2.2.2.2.2.2, z_one trivial⟩⟩ rfl rfl hl.1 rfl (lv_room (by show 1 + (st.map fun v => v.category).sum ≤ 8; omega)) hd1 (cells := (zc u).1 - c0.1) (slots := (zc u).2 - c0.2) (locs := locs) ⟨by rw [hRc]; omega, by rw [hRs]; omega⟩
  refine va_callr hrun hw.2.2 (fun q _ h => hFc q h) hFc (fun _ q t H1 locs1 ht hvm _ hB hz1 hk1 hS => ?_)
  obtain ⟨hP1, hD1⟩ := hB
  rw [ht] at hP1
  have hqn : H.size ≤ q := by
    rcases hD1.2 1 _ rfl with ⟨i, e, hi⟩ | h
    · cases i with
      | zero => cases hi; exact absurd (hD1.1 0 1 _ _ rfl rfl rfl) (by decide)
      | succ i => cases hi
    · exact h
  have hPk : va_P D ce_cl (zw ce_tb ca (zad ce_tb a g) u) H1 := by
    refine hw.1.kept (fun k x hk => ?_)
    by_cases hxy : x.1 = y
    · rw [hxy]; exact (hP1 0 _ rfl).trans (hPc 0 _ rfl).symm
    · refine hk1 x.1 ((hw.1 k x hk).lt) (fun h => ?_)
      rcases h with ⟨i, e, hi⟩ | h
      · cases i with
        | zero => cases hi; exact hxy rfl
        | succ i => cases hi
      · exact absurd ((hw.1 k x hk).lt) (Nat.not_lt.mpr h)
  have hPq : va_P D ce_cl [(q, .inl (ca 5, zx len, .inr (.inl (fun b => if b < zN u (ce_ft o j).2 then u.2.1 (ce_ft o j).2 b else 0))))] H1 := hP1.sub [1] rfl
  have hAq : A q := h5.1 q (Nat.le_trans hw.2.2.1 hqn)
  have hDq : va_D A (zw ce_tb ca (zad ce_tb a g) u ++ [(q, .inl (ca 5, zx len, .inr (.inl (fun b => if b < zN u (ce_ft o j).2 then u.2.1 (ce_ft o j).2 b else 0))))]) := by
    refine va_D.app hw.2.1 (z_one hAq) (fun i j' x x' hx' hy' hxy => ?_)
    cases j' with
    | zero =>
      cases hy'
      have := (hw.1 i x hx').lt
      rw [hxy] at this
      exact absurd this (Nat.not_lt.mpr hqn)
    | succ j' => cases hy'
  have hoL : o < (zw ce_tb ca (zad ce_tb a g) u).length := by simpa [zw] using f2
  subst hx
  refine va_put (ws := zw ce_tb ca (zad ce_tb a g) u ++ [(q, .inl (ca 5, zx len, .inr (.inl (fun b => if b < zN u (ce_ft o j).2 then u.2.1 (ce_ft o j).2 b else 0))))]) ok.1 ok.2.1 ok.2.2.2.2.1 f4.1 tf f4.2.1 f4.2.2 ok.2.2.2.1 ok.2.2.2.2.2.2.2 (hPk.app hPq) hDq hS o (by rw [List.getElem?_append_left hoL, zw_get f2, zE_obj f1]) f3 j f5 (ok.2.2.2.2.1 _ f6) (fun _ q => q) f8 (by rw [f4.2.1 _ f5, f9]) rfl rfl (by simp [f5]) hd2 (fun H2 locs2 hP2 hD2 hS2 => ?_)
  rw [List.set_append_left _ _ hoL] at hP2
  have hlen2 : ∀ z : Nat × va_E, ((zw ce_tb ca (zad ce_tb a g) u).set o z).length = ce_tb.1 := fun z => by simp [zw]
  have hP2a : va_P D ce_cl _ H2 := fun k x hk => hP2 k x (by rw [List.getElem?_append_left (List.getElem?_eq_some_iff.mp hk).1]; exact hk)
  have hq2 := hP2 ce_tb.1 _ (by rw [List.getElem?_append_right (by rw [hlen2]; exact Nat.le_refl _), hlen2, Nat.sub_self]; rfl)
  have hct : (ce_ct o).1 = 0 ∧ (ce_ct o).2.2 = N := by rw [show ce_ct o = (0, ci, N) from f1]; exact ⟨rfl, rfl⟩
  have huq := ce_uniq (k := o) (j := j) f2 hct.1 (by rw [hct.2]; exact f5)
  have how := huq.1 f7 hg.2.1
  have hoc : o ≠ (ce_ft o j).2 := fun e => by have h1 := hg.1; rw [← e, hct.1] at h1; exact absurd h1 (by decide)
  have hadc : zad ce_tb a (fun z => if z = (ce_ft o j).2 then q else g z) (ce_ft o j).2 = q := by
    unfold zad
    rw [if_neg (Nat.not_lt.mpr hg.2.2.2), if_pos (show (ce_tb.2.2.1 (ce_ft o j).2).2.2 = 0 from hg.2.1)]; exact if_pos rfl
  have had : ∀ k, k ≠ (ce_ft o j).2 → zad ce_tb a (fun z => if z = (ce_ft o j).2 then q else g z) k = zad ce_tb a g k := fun k hk => by unfold zad; simp [hk]
  have hIk : ∀ k b, k ≠ (ce_ft o j).2 → (zgrL u (ce_ft o j).2 (zx len)).1 k b = u.1 k b := fun k b hk => rfl
  have hLk : ∀ k b, k ≠ (ce_ft o j).2 → (zgrL u (ce_ft o j).2 (zx len)).2.1 k b = u.2.1 k b := fun k b hk => if_neg hk
  have hNk : ∀ k, k ≠ (ce_ft o j).2 → zN (zgrL u (ce_ft o j).2 (zx len)) k = zN u k := fun k hk => if_neg hk
  have hfk : ∀ k i, k ≠ (ce_ft o j).2 → k < 90 → (ce_ct k).1 = 0 → i < (ce_ct k).2.2 → ¬ (k = o ∧ i = j) → zF ce_tb (zad ce_tb a (fun z => if z = (ce_ft o j).2 then q else g z)) (zgrL u (ce_ft o j).2 (zx len)) k i = zF ce_tb (zad ce_tb a g) u k i := fun k i hkc hk hk0 hi hne => ce_fkeep rfl (fun b _ => hIk k b hkc) (fun b _ => hLk k b hkc) how hg.2.1 hg.2.2.2 o4 hk hk0 hi hne
  have hE : ∀ k, k < ce_tb.1 → k ≠ (ce_ft o j).2 → k ≠ o → zE ce_tb ca (zad ce_tb a (fun z => if z = (ce_ft o j).2 then q else g z)) (zgrL u (ce_ft o j).2 (zx len)) k = zE ce_tb ca (zad ce_tb a g) u k := by
    intro k hk hkc hko
    by_cases h0 : (ce_ct k).1 = 0
    · have e0 : ce_tb.2.2.1 k = (0, (ce_ct k).2.1, (ce_ct k).2.2) := by show ce_ct k = _; rw [← h0]
      rw [zE_obj e0, zE_obj e0]
      congr 2
      exact List.map_congr_left (fun i hi => hfk k i hkc hk h0 (List.mem_range.mp hi) (fun q => hko q.1))
    · have el : zlen ce_tb (zgrL u (ce_ft o j).2 (zx len)) k = zlen ce_tb u k := by unfold zlen; rw [hNk k hkc]
      by_cases h5' : (ce_ct k).1 = 5
      · rw [zE_long (T := ce_tb) h5', zE_long (T := ce_tb) h5', el, show (zgrL u (ce_ft o j).2 (zx len)).2.1 k = u.2.1 k from funext fun b => hLk k b hkc]
      · rw [zE_int (T := ce_tb) rfl h0 h5', zE_int (T := ce_tb) rfl h0 h5', el, show (zgrL u (ce_ft o j).2 (zx len)).1 k = u.1 k from funext fun b => hIk k b hkc]
  have hnew : zE ce_tb ca (zad ce_tb a (fun z => if z = (ce_ft o j).2 then q else g z)) (zgrL u (ce_ft o j).2 (zx len)) (ce_ft o j).2 = .inl (ca 5, zx len, .inr (.inl (fun b => if b < zN u (ce_ft o j).2 then u.2.1 (ce_ft o j).2 b else 0))) := by
    rw [zE_long (T := ce_tb) hg.1]
    have el : zlen ce_tb (zgrL u (ce_ft o j).2 (zx len)) (ce_ft o j).2 = zx len := by unfold zlen; rw [if_pos (show (ce_tb.2.2.1 (ce_ft o j).2).2.2 = 0 from hg.2.1)]; exact if_pos rfl
    rw [el, show (zgrL u (ce_ft o j).2 (zx len)).2.1 (ce_ft o j).2 = (fun b => if b < zN u (ce_ft o j).2 then u.2.1 (ce_ft o j).2 b else 0) from funext fun b => if_pos rfl]
  have hPn := zgw (T := ce_tb) (ca := ca) (ad' := zad ce_tb a (fun z => if z = (ce_ft o j).2 then q else g z)) (u1 := zgrL u (ce_ft o j).2 (zx len)) f1 f2 hoc hP2a (by rw [hnew]; exact hq2) hadc had (by unfold zF; rw [show (ce_tb.2.2.2 o j).1 = 2 from f7]; exact congrArg Value.ref hadc) (fun i hi hij => hfk o i hoc f2 hct.1 (by rw [hct.2]; exact hi) (fun q => hij q.2)) hE
  have hDn := zgd_apart (T := ce_tb) (ca := ca) (ad' := zad ce_tb a (fun z => if z = (ce_ft o j).2 then q else g z)) (u1 := zgrL u (ce_ft o j).2 (zx len)) hw.1 hw.2.1 hqn hAq hadc had
  have kk := (k (zgrL u (ce_ft o j).2 (zx len)) (fun z => if z = (ce_ft o j).2 then q else g z) r u' hX).2 h1 ok ⟨by rw [hc1]; omega, by rw [hc2]; omega, fun h => by cases h⟩ (fun h => by cases h) h5 ls H2 locs2 hl ⟨hPn, hDn, hS2⟩
  rw [hc1, hc2] at kk
  have e1 : (zc u).1 - c0.1 + 1 = (zc u).1 + 1 - c0.1 := by omega
  have e2 : (zc u).2 - c0.2 + zx len = (zc u).2 + zx len - c0.2 := by omega
  rw [e1, e2]
  subst hp
  exact kk
