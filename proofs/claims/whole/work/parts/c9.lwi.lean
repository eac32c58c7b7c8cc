/-! THE LAW: its loop, and its body -/
theorem and31 (x : Int32) : ∃ j, j < 32 ∧ x &&& 31 = nI j := by
  refine ⟨x.toBitVec.toNat % 32, Nat.mod_lt _ (by decide), ?_⟩
  refine Int32.toBitVec_inj.mp ?_
  show x.toBitVec &&& 31#32 = BitVec.ofNat 32 (x.toBitVec.toNat % 32)
  apply BitVec.eq_of_toNat_eq
  rw [BitVec.toNat_and, BitVec.toNat_ofNat, BitVec.toNat_ofNat, show (31 % 2 ^ 32 : Nat) = 2 ^ 5 - 1 from rfl, Nat.and_two_pow_sub_one_eq_mod]
  have := Nat.mod_lt x.toBitVec.toNat (show 32 > 0 by decide)
  rw [Nat.mod_eq_of_lt (a := x.toBitVec.toNat % 32) (by omega)]
theorem lw_go {i L : Nat} (hi : i < 2 ^ 31) (hL : L ≤ 2048) (h : ¬ nI L - 4 < nI i) : i + 4 ≤ L := by
  by_cases c : L < 4
  · exfalso
    have h2 : nI L - 4 < 0 := by
      have : L = 0 ∨ L = 1 ∨ L = 2 ∨ L = 3 := by omega
      rcases this with rfl | rfl | rfl | rfl <;> decide
    exact nI_pos hi (Int32.lt_of_le_of_lt (Int32.not_lt.mp h) h2)
  · rw [show nI L - 4 = nI (L - 4) from nI_sub (b := 4) (by omega)] at h
    by_cases d : L - 4 < i
    · exact absurd (nI_lt d hi) h
    · omega
theorem lw_tab : decode code 32 = .ok (.tableswitch 628 0 16 #[84, 147, 160, 183, 206, 229, 262, 286, 319, 362, 396, 439, 472, 506, 539, 572, 605], 84) := by decide +kernel
set_option maxRecDepth 20000 in
theorem lw_loop {κ : zKx} {ca : Nat → ClassId} {D1 D2 : va_G} {Q : State → Prop} {b L n k : Nat} {xs : Nat → Int32} (hn : 50000000 ≤ n) (hk : 120 ≤ k) (hk2 : k ≤ 900) (hF : lF κ ca D1 D2) (hX : va_X b L xs (zKs κ) (zKs κ).heap) (hbl : b < (zKs κ).heap.size) (hL : L ≤ 2048) (hend : ∀ (H : Heap) (locs : List Loc) (cells slots : Nat) (ls : Array Slot), va_S (lA (zKs κ)) (zKs κ).heap H locs → cells ≤ 600000 → slots ≤ 7302250 → zW κ H locs cells slots Q (F0 (zKm κ) 666 ls [])) :
    ∀ (f i : Nat) (ur uc : zMu) (a1 g1 a2 : Nat → Nat) (H : Heap) (locs : List Loc) (ls : Array Slot), L + 1 ≤ i + f → i ≤ L → lv_has ls 4 (lV b i a1 a2) → oI n k (0, 0) ur uc → lS κ ca D1 D2 ur uc a1 g1 a2 H locs → zW κ H locs (158 + (zc uc).1) (165191 + (zc uc).2) Q (F0 (zKm κ) 18 ls []) := by
  intro f
  induction f with
  | zero => intro i ur uc a1 g1 a2 H locs ls h1 h2; omega
  | succ f ih =>
    intro i ur uc a1 g1 a2 H locs ls h1 h2 hl hI hS
    obtain ⟨c1, c2, c3, c4, c5, c6⟩ := hF.1
    have hbd := lw_bd hI
    refine lv_iload_n (pc := 18) (k := 3) (i := 3) c1 c2 (by decide +kernel) rfl (lv_at hl 3 rfl) ?_
    refine lv_aload_n (pc := 19) (k := 0) (i := 0) c1 c2 (by decide +kernel) rfl (lv_at hl 0 rfl) ?_
    refine va_slen (pc := 20) c1 c2 hX hbl (Nat.not_le.mpr hbl) hS.2.2.2 (by decide +kernel) ?_
    refine lv_iconst (pc := 21) (n := 4) (v := 4) c1 c2 (by decide +kernel) (by decide) ?_
    refine lv_isub (pc := 22) c1 c2 (by decide +kernel) ?_
    refine lv_icmp_gt (pc := 23) (off := 643) (tgt := 666) c1 c2 (by decide +kernel) rfl (fun _ => hend _ _ _ _ _ hS.2.2.2 (by omega) (by omega)) (fun hc => ?_)
    have hi : i + 4 ≤ L := lw_go (by omega) hL hc
    have k660 : ∀ (ur' uc' : zMu) (g' : Nat → Nat) (H1 : Heap) (locs1 : List Loc), oI n k (0, 0) ur' uc' → lS κ ca D1 D2 ur' uc' a1 g' a2 H1 locs1 → zW κ H1 locs1 (158 + (zc uc').1) (165191 + (zc uc').2) Q (F0 (zKm κ) 660 ls []) := by
      intro ur' uc' g' H1 locs1 hI' hS'
      refine lv_iinc (pc := 660) (i := 3) (n := 4) (v := nI (i + 4)) (lv' := [(3, .int (nI (i + 4))), (0, .ref b), (1, .ref (a1 0)), (2, .ref (a2 0))]) c1 c2 (by decide +kernel) hl (k := 3) rfl (by show nI i + nI 4 = _; rw [nI_add]) (by decide) rfl (fun ls1 hl1 => ?_)
      refine lv_goto (pc := 663) (off := -645) (tgt := 18) c1 c2 (by decide +kernel) rfl ?_
      exact ih (i + 4) ur' uc' a1 g' a2 H1 locs1 ls1 (by omega) hi (lv_sub hl1 [1, 2, 3, 0] rfl) hI' hS'
    refine lv_aload_n (pc := 26) (k := 0) (i := 0) c1 c2 (by decide +kernel) rfl (lv_at hl 0 rfl) ?_
    refine lv_iload_n (pc := 27) (k := 3) (i := 3) c1 c2 (by decide +kernel) rfl (lv_at hl 3 rfl) ?_
    refine va_sld (pc := 28) c1 c2 hX hbl (Nat.not_le.mpr hbl) hS.2.2.2 (vp_in_nI (by omega) (by omega)) (by decide +kernel) ?_
    rw [nI_clamp (by omega)]
    refine lv_bipush (pc := 29) (n := 31) (v := 31) c1 c2 (by decide +kernel) (by decide) ?_
    refine lv_iand (pc := 31) c1 c2 (by decide +kernel) ?_
    obtain ⟨j, hj, ej⟩ := and31 (xs i)
    rw [ej]
    by_cases h16 : j ≤ 16
    · have : j = 0 ∨ j = 1 ∨ j = 2 ∨ j = 3 ∨ j = 4 ∨ j = 5 ∨ j = 6 ∨ j = 7 ∨ j = 8 ∨ j = 9 ∨ j = 10 ∨ j = 11 ∨ j = 12 ∨ j = 13 ∨ j = 14 ∨ j = 15 ∨ j = 16 := by omega
      rcases this with rfl | rfl | rfl | rfl | rfl | rfl | rfl | rfl | rfl | rfl | rfl | rfl | rfl | rfl | rfl | rfl | rfl
      · exact lv_tableIn (pc := 32) (x := nI 0) (off := 84) (tgt := 116) c1 c2 lw_tab (by decide) (by decide) (by decide) rfl (lw_k_feed hn hk hk2 hF hI hS hl hX hbl hL hi k660)
      · exact lv_tableIn (pc := 32) (x := nI 1) (off := 147) (tgt := 179) c1 c2 lw_tab (by decide) (by decide) (by decide) rfl (lw_k_read hn hk hk2 hF hI hS hl hX hbl hL hi k660)
      · exact lv_tableIn (pc := 32) (x := nI 2) (off := 160) (tgt := 192) c1 c2 lw_tab (by decide) (by decide) (by decide) rfl (lw_k_fault hn hk hk2 hF hI hS hl hX hbl hL hi k660)
      · exact lv_tableIn (pc := 32) (x := nI 3) (off := 183) (tgt := 215) c1 c2 lw_tab (by decide) (by decide) (by decide) rfl (lw_k_run hn hk hk2 hF hI hS hl hX hbl hL hi k660)
      · exact lv_tableIn (pc := 32) (x := nI 4) (off := 206) (tgt := 238) c1 c2 lw_tab (by decide) (by decide) (by decide) rfl (lw_k_told hn hk hk2 hF hI hS hl hX hbl hL hi k660)
      · exact lv_tableIn (pc := 32) (x := nI 5) (off := 229) (tgt := 261) c1 c2 lw_tab (by decide) (by decide) (by decide) rfl (lw_k_paper hn hk hk2 hF hI hS hl hX hbl hL hi k660)
      · exact lv_tableIn (pc := 32) (x := nI 6) (off := 262) (tgt := 294) c1 c2 lw_tab (by decide) (by decide) (by decide) rfl (lw_k_printed hn hk hk2 hF hI hS hl hX hbl hL hi k660)
      · exact lv_tableIn (pc := 32) (x := nI 7) (off := 286) (tgt := 318) c1 c2 lw_tab (by decide) (by decide) (by decide) rfl (lw_k_object hn hk hk2 hF hI hS hl hX hbl hL hi k660)
      · exact lv_tableIn (pc := 32) (x := nI 8) (off := 319) (tgt := 351) c1 c2 lw_tab (by decide) (by decide) (by decide) rfl (lw_k_member hn hk hk2 hF hI hS hl hX hbl hL hi k660)
      · exact lv_tableIn (pc := 32) (x := nI 9) (off := 362) (tgt := 394) c1 c2 lw_tab (by decide) (by decide) (by decide) rfl (lw_k_worth hn hk hk2 hF hI hS hl hX hbl hL hi k660)
      · exact lv_tableIn (pc := 32) (x := nI 10) (off := 396) (tgt := 428) c1 c2 lw_tab (by decide) (by decide) (by decide) rfl (lw_k_letter hn hk hk2 hF hI hS hl hX hbl hL hi k660)
      · exact lv_tableIn (pc := 32) (x := nI 11) (off := 439) (tgt := 471) c1 c2 lw_tab (by decide) (by decide) (by decide) rfl (lw_k_row hn hk hk2 hF hI hS hl hX hbl hL hi k660)
      · exact lv_tableIn (pc := 32) (x := nI 12) (off := 472) (tgt := 504) c1 c2 lw_tab (by decide) (by decide) (by decide) rfl (lw_k_item hn hk hk2 hF hI hS hl hX hbl hL hi k660)
      · exact lv_tableIn (pc := 32) (x := nI 13) (off := 506) (tgt := 538) c1 c2 lw_tab (by decide) (by decide) (by decide) rfl (lw_k_shape hn hk hk2 hF hI hS hl hX hbl hL hi k660)
      · exact lv_tableIn (pc := 32) (x := nI 14) (off := 539) (tgt := 571) c1 c2 lw_tab (by decide) (by decide) (by decide) rfl (lw_k_site hn hk hk2 hF hI hS hl hX hbl hL hi k660)
      · exact lv_tableIn (pc := 32) (x := nI 15) (off := 572) (tgt := 604) c1 c2 lw_tab (by decide) (by decide) (by decide) rfl (lw_k_fn hn hk hk2 hF hI hS hl hX hbl hL hi k660)
      · exact lv_tableIn (pc := 32) (x := nI 16) (off := 605) (tgt := 637) c1 c2 lw_tab (by decide) (by decide) (by decide) rfl (lw_k_count hn hk hk2 hF hI hS hl hX hbl hL hi k660)
    · refine lv_tableOut (pc := 32) (tgt := 660) c1 c2 lw_tab (Or.inr ?_) rfl (k660 ur uc g1 H locs hI hS)
      rw [nI_toInt (by omega)]
      omega
set_option maxRecDepth 100000 in
set_option maxHeartbeats 4000000 in
/-- YOUR PART: from the entry, for every script of at most 2048 ints, the law comes to its end with true -/
theorem whole_start {p : Program} {e : Env} {s : State} {m : MethodId} {below : List Frame} {meth : Method} {c : Code} (l : Launch) {b L : Nat} {xs : Nat → Int32} (hL : L ≤ 2048) (C0 : lw_At p s m meth c b L xs) : W p l e room_1 s m #[Value.ref b] below meth c s.heap [] 0 0 (lw_Z below #[Value.ref b] s) (entryFrame m ([Value.ref b] : List Value).toArray 4) := by
  obtain ⟨hx, hb, hr, hml, hown, hts, hX, hbl, hlocks, hgv⟩ := id C0
  obtain ⟨ca, D1, D2, hK1, hK2, hN⟩ := lw_setup hts hgv
  obtain ⟨ur0, uc0, er, ec, hI⟩ := o_first 50000000 120 (by decide)
  have zce := (cet_M_load (l := l) (ca := ca) (D := D1) (a := fun _ => 0) (g := fun _ => 0) 50000000 12 rfl uE0 _ _ ec).1 (p, l, e, room_1, s, m, #[Value.ref b], below, meth, c)
  have zc0 : zc uc0 = (0, 0) := (zce.2.2 rfl).symm
  have hC : lC (p, l, e, room_1, s, m, #[Value.ref b], below, meth, c) := ⟨hx, hb, hml, hown, hts, rfl⟩
  have hF : lF (p, l, e, room_1, s, m, #[Value.ref b], below, meth, c) ca D1 D2 := ⟨hC, hK1, hK2, hN.1⟩
  have hl := lv_entry ([.ref b]) (n := 4) (Nat.le_of_ble_eq_true rfl)
  rw [lg_entry_eq]
  generalize (lg_sl ([.ref b]) ++ List.replicate (4 - (lg_sl ([.ref b])).length) Slot.unset).toArray = ls at hl ⊢
  have hl : lv_has ls 4 [(0, .ref b)] := hl
  have hA : ∀ q : Nat, s.heap.size ≤ q → lA s q := fun _ h => h
  have hS : va_S (lA s) s.heap s.heap [] := va_S.rf
  have hP0 : va_P D1 ce_cl [] s.heap := fun k q h => (by cases h)
  have hD0 : va_D (lA s) [] := ⟨fun i j p q h => (by cases h), fun k q h => (by cases h)⟩
  refine va_new (ci := 0) (fs := [.null, .int 0, .null, .null, .null, .null, .int 0]) (C := ce_RE) (T := ce_TE) (N := 7) hx hb hts (fun w hw => lwm_cegl w (ce_zclE.1 w hw)) ce_tyE ce_zclE.2.1 hown (hts _ lwE_ne) (hts _ lwE_ie) (hts _ lwE_je) hK1 hP0 hD0 hS hA rfl (fun j hj => match j, hj with | 0, _ => rfl | 1, _ => rfl | 2, _ => rfl | 3, _ => rfl | 4, _ => rfl | 5, _ => rfl | 6, _ => rfl | n + 7, h => absurd h (by omega)) (Nat.le_of_ble_eq_true rfl) (Nat.le_of_ble_eq_true rfl) (by decide +kernel) (fun q1 H1 hP1 hD1 hS1 => ?_)
  refine lv_dup hx hb (by decide +kernel) rfl ?_
  refine lw_ctor (κ := (p, l, e, room_1, s, m, #[Value.ref b], below, meth, c)) (Λ := zCk ca D1) (A := lA s) (rest := [.ref q1]) hC (cc_E l ca D1 50000000 q1 uc0 ec) (fun c hc => ?_) lwE_je lwE_le lwE_me rfl (by decide +kernel) (by decide) (by decide) ⟨hA, hN, zNs_ok D1⟩ hK1 hP1 hD1 hS1 hl.1 (Nat.le_of_ble_eq_true rfl) (Nat.le_of_ble_eq_true rfl) (Nat.le_of_ble_eq_true rfl) (by decide +kernel) (fun g1 H2 locs2 hP2 hD2 hk2 hS2 => ?_)
  · rcases List.mem_cons.mp hc with rfl | hc
    · exact ⟨lwE_ke, good_of_word rfl⟩
    · exact lw_Gck c hc
  have hDc : va_D (lA s) (zw ce_tb ca (zad ce_tb (bX q1 g1) (bX q1 g1)) uc0) := hD2.weaken (fun k q _ h => by
    rcases h with ⟨i, e, h⟩ | h
    · exact hD1.2 i (q.1, e) h
    · exact Nat.le_trans hS1.1 h)
  refine lv_astore_n (k := 1) (i := 1) (lv' := [(1, .ref q1), (0, .ref b)]) hx hb (by decide +kernel) rfl hl (by decide) rfl (fun ls hl => ?_)
  refine va_forget (fun q hq => hS2.2.2 q hq) ?_
  have hSn : va_S (fun q : Nat => H2.size ≤ q) H2 H2 [] := va_S.rf
  refine va_new (D := D2) (cl := rf_cl) (ws := []) (A := fun q : Nat => H2.size ≤ q) (H0 := H2) (ci := 0) (fs := [.null, .null, .null, .int 0, .int 0, .int 0, .null, .null, .null, .int 0, .int 0, .null, .null, .int 0, .null, .int 0, .int 0, .int 0, .int 0, .int 0, .null, .null, .null, .null, .int 0, .int 0, .int 0, .int 0, .null, .null, .null, .null, .null, .int 0, .int 0, .null, .null, .null, .null, .int 0, .null, .null, .null, .null, .int 0, .null, .null, .null, .null, .null, .null, .int 0, .int 0, .int 0, .int 0, .int 0, .int 0, .int 0, .int 0, .int 0, .int 0, .int 0, .int 0, .int 0, .int 0, .int 0, .int 0, .int 0, .int 0, .null, .null, .null, .null, .null, .null, .null, .null, .null, .null, .null, .int 0, .null, .null, .null, .null, .null, .null, .null, .null, .null, .null, .null, .null, .null, .null, .null, .null, .null, .null, .null, .null, .null, .null, .null, .null]) (C := rf_C) (T := rf_T) (N := 105) hx hb hts (fun w hw => lwm_rfgl w (rf_zcl.1 w hw)) rf_ty rf_zcl.2.1 hown (hts _ lwE_nr) (hts _ lwE_ir) (hts _ lwE_jr) hK2 (fun k q h => (by cases h)) ⟨fun i j p q h => (by cases h), fun k q h => (by cases h)⟩ hSn (fun q h => h) rfl (fun j hj => match j, hj with | 0, _ => rfl | 1, _ => rfl | 2, _ => rfl | 3, _ => rfl | 4, _ => rfl | 5, _ => rfl | 6, _ => rfl | 7, _ => rfl | 8, _ => rfl | 9, _ => rfl | 10, _ => rfl | 11, _ => rfl | 12, _ => rfl | 13, _ => rfl | 14, _ => rfl | 15, _ => rfl | 16, _ => rfl | 17, _ => rfl | 18, _ => rfl | 19, _ => rfl | 20, _ => rfl | 21, _ => rfl | 22, _ => rfl | 23, _ => rfl | 24, _ => rfl | 25, _ => rfl | 26, _ => rfl | 27, _ => rfl | 28, _ => rfl | 29, _ => rfl | 30, _ => rfl | 31, _ => rfl | 32, _ => rfl | 33, _ => rfl | 34, _ => rfl | 35, _ => rfl | 36, _ => rfl | 37, _ => rfl | 38, _ => rfl | 39, _ => rfl | 40, _ => rfl | 41, _ => rfl | 42, _ => rfl | 43, _ => rfl | 44, _ => rfl | 45, _ => rfl | 46, _ => rfl | 47, _ => rfl | 48, _ => rfl | 49, _ => rfl | 50, _ => rfl | 51, _ => rfl | 52, _ => rfl | 53, _ => rfl | 54, _ => rfl | 55, _ => rfl | 56, _ => rfl | 57, _ => rfl | 58, _ => rfl | 59, _ => rfl | 60, _ => rfl | 61, _ => rfl | 62, _ => rfl | 63, _ => rfl | 64, _ => rfl | 65, _ => rfl | 66, _ => rfl | 67, _ => rfl | 68, _ => rfl | 69, _ => rfl | 70, _ => rfl | 71, _ => rfl | 72, _ => rfl | 73, _ => rfl | 74, _ => rfl | 75, _ => rfl | 76, _ => rfl | 77, _ => rfl | 78, _ => rfl | 79, _ => rfl | 80, _ => rfl | 81, _ => rfl | 82, _ => rfl | 83, _ => rfl | 84, _ => rfl | 85, _ => rfl | 86, _ => rfl | 87, _ => rfl | 88, _ => rfl | 89, _ => rfl | 90, _ => rfl | 91, _ => rfl | 92, _ => rfl | 93, _ => rfl | 94, _ => rfl | 95, _ => rfl | 96, _ => rfl | 97, _ => rfl | 98, _ => rfl | 99, _ => rfl | 100, _ => rfl | 101, _ => rfl | 102, _ => rfl | 103, _ => rfl | 104, _ => rfl | n + 105, h => absurd h (by omega)) (Nat.le_of_ble_eq_true rfl) (Nat.le_of_ble_eq_true rfl) (by decide +kernel) (fun q2 H3 hP3 hD3 hS3 => ?_)
  refine lv_dup hx hb (by decide +kernel) rfl ?_
  have hkeep : ∀ q, q < H2.size → H3[q]? = H2[q]? := fun q hq => hS3.2.1 q hq (Nat.not_le.mpr hq)
  have hPc3 : va_P D1 ce_cl (zw ce_tb ca (zad ce_tb (bX q1 g1) (bX q1 g1)) uc0) H3 := hP2.kept (fun k q hq => hkeep q.1 (hP2 k q hq).lt)
  have hq2 : H2.size ≤ q2 := hD3.2 0 _ rfl
  have hD3' : va_D (lA s) [(q2, .inr (0, [.null, .null, .null, .int 0, .int 0, .int 0, .null, .null, .null, .int 0, .int 0, .null, .null, .int 0, .null, .int 0, .int 0, .int 0, .int 0, .int 0, .null, .null, .null, .null, .int 0, .int 0, .int 0, .int 0, .null, .null, .null, .null, .null, .int 0, .int 0, .null, .null, .null, .null, .int 0, .null, .null, .null, .null, .int 0, .null, .null, .null, .null, .null, .null, .int 0, .int 0, .int 0, .int 0, .int 0, .int 0, .int 0, .int 0, .int 0, .int 0, .int 0, .int 0, .int 0, .int 0, .int 0, .int 0, .int 0, .int 0, .null, .null, .null, .null, .null, .null, .null, .null, .null, .null, .null, .int 0, .null, .null, .null, .null, .null, .null, .null, .null, .null, .null, .null, .null, .null, .null, .null, .null, .null, .null, .null, .null, .null, .null, .null, .null]))] := hD3.weaken (fun k q hq h => Nat.le_trans hS2.1 h)
  have hS3' : va_S (lA s) s.heap H3 [] := ⟨Nat.le_trans hS2.1 hS3.1, fun q h1 h2 => (hkeep q (Nat.lt_of_lt_of_le h1 hS2.1)).trans (hS2.2.1 q h1 h2), fun q hq => (by cases hq)⟩
  refine lw_ctor (κ := (p, l, e, room_1, s, m, #[Value.ref b], below, meth, c)) (Λ := zRk ca D2) (A := lA s) (rest := [.ref q2]) hC (rc_init l ca D2 50000000 q2 ur0 er) (fun c hc => ?_) lwE_jr lwE_lr lwE_mr rfl (by decide +kernel) (by decide) (by decide) ⟨hA, trivial, zTrue_ok⟩ hK2 hP3 hD3' hS3' hl.1 (Nat.le_of_ble_eq_true rfl) (Nat.le_of_ble_eq_true rfl) (Nat.le_of_ble_eq_true rfl) (by decide +kernel) (fun g2 H4 locs4 hP4 hD4 hk4 hS4 => ?_)
  · rcases List.mem_cons.mp hc with rfl | hc
    · exact ⟨lwE_kr, good_of_word rfl⟩
    · exact lw_Grk c hc
  refine lv_astore_n (k := 2) (i := 2) (lv' := [(2, .ref q2), (1, .ref q1), (0, .ref b)]) hx hb (by decide +kernel) rfl hl (by decide) rfl (fun ls hl => ?_)
  refine lv_iconst (n := 0) (v := 0) hx hb (by decide +kernel) (by decide) ?_
  refine lv_istore_n (k := 3) (i := 3) (lv' := [(3, .int 0), (2, .ref q2), (1, .ref q1), (0, .ref b)]) hx hb (by decide +kernel) rfl hl (by decide) rfl (fun ls hl => ?_)
  have hPc4 : va_P D1 ce_cl (zw ce_tb ca (zad ce_tb (bX q1 g1) (bX q1 g1)) uc0) H4 := hPc3.kept (fun k q hq => hk4 q.1 (hPc3 k q hq).lt (fun z => by
    have h1 := (hP2 k q hq).lt
    rcases z with ⟨i, e, z⟩ | z
    · match i, z with
      | 0, z => cases z; omega
      | i + 1, z => cases z
    · exact absurd (Nat.lt_of_lt_of_le h1 hS3.1) (Nat.not_lt.mpr z)))
  have hD5 : va_D (lA s) (zw ce_tb ca (zad ce_tb (bX q1 g1) (bX q1 g1)) uc0 ++ zw rf_tb ca (zad rf_tb (bX q2 g2) (bX q2 g2)) ur0) := by
    refine va_D.app hDc (hD4.weaken (fun k q _ h => ?_)) (fun i j x y hx hy hxy => ?_)
    · rcases h with ⟨i, e, h⟩ | h
      · exact hD3'.2 i (q.1, e) h
      · exact Nat.le_trans hS3'.1 h
    · have h1 := (hP2 i x hx).lt
      have h3 : H2.size ≤ H3.size := hS3.1
      rcases hD4.2 j y hy with ⟨i, e, z⟩ | z
      · match i, z with
        | 0, z =>
          have : q2 = y.1 := congrArg Prod.fst (Option.some.inj z)
          omega
        | i + 1, z => cases z
      · omega
  refine W.widen (k := 158 + (zc uc0).1) (n := 165191 + (zc uc0).2) (by rw [zc0]; exact Nat.le_of_ble_eq_true rfl) (by rw [zc0]; exact Nat.le_of_ble_eq_true rfl) ?_
  refine lw_loop (κ := (p, l, e, room_1, s, m, #[Value.ref b], below, meth, c)) (n := 50000000) (k := 120) (Nat.le_refl _) (Nat.le_refl _) (by decide) hF hX hbl hL (fun H locs cells slots ls hS hc hs => ?_) (L + 1) 0 ur0 uc0 (bX q1 g1) (bX q1 g1) (bX q2 g2) H4 locs4 ls (by omega) (Nat.zero_le _) (lv_sub hl [3, 2, 1, 0] rfl) hI ⟨hPc4, hP4, hD5, hS4⟩
  refine lv_iconst (pc := 666) (n := 1) (v := 1) hx hb (by decide +kernel) (by decide) ?_
  refine va_forget (fun q hq => hS.2.2 q hq) ?_
  refine W.widen (k := 600000) (n := 7302250) hc hs ?_
  exact lw_ret hx hb hr hlocks (by decide +kernel)
