/-! CONSTRUCTORS of the class: ShapeEngine() (printed by wip/gen/ctor.py) -/
def uE0 : zMu := (fun a => match a with
  | 2 => fun j => match j with
    | 4 => -1
    | _ => 0
  | 7 => fun j => match j with
    | 6 => 256
    | _ => 0
  | 66 => fun j => match j with
    | 0 => if nI 32 < 16000 then 16000 else nI 32
    | _ => 0
  | 69 => fun j => match j with
    | 0 => if nI 64 < 3000 then 3000 else nI 64
    | _ => 0
  | 72 => fun j => match j with
    | 0 => if nI 16 < 200 then 200 else nI 16
    | _ => 0
  | 75 => fun j => match j with
    | 0 => if nI 64 < 780 then 780 else nI 64
    | _ => 0
  | 78 => fun j => match j with
    | 0 => if nI 156 < 0 then 0 else nI 156
    | _ => 0
  | _ => fun _ => 0, fun a => match a with
  | 8 => kyF 12
  | _ => fun _ => 0, fun a j => match a, j with
  | 0, 4 => 12
  | 0, 5 => 23
  | _, _ => 0, fun a => match a with
  | 70 => 64
  | 71 => 64
  | 73 => 16
  | 74 => 16
  | 76 => 64
  | 77 => 64
  | 79 => 156
  | 80 => 156
  | _ => 32, 0, 0)
set_option maxRecDepth 20000 in
set_option maxHeartbeats 4000000 in
theorem cc_E (l : Launch) (ca : Nat → ClassId) (D : va_G) (n x : Nat) (u1 : zMu) (hu : ce_M_load n 12 uE0 = some ((), u1)) : bMet l (zCk ca D) ceY_E_init (.code ceY_E_init prog_1_method_1_code 1 none) 8 89 27387 [.ref x] [(x, .inr (0, [.null, .int 0, .null, .null, .null, .null, .int 0]))] (fun g => zw ce_tb ca (zad ce_tb (bX x g) (bX x g)) u1) := by
  refine bMet.of (by decide +kernel) rfl (Nat.le_of_ble_eq_true rfl) fun κ A hl => ?_
  subst hl
  refine b_aload (pc' := 1) (k := 0) (i := 0) 0 rfl rfl ⟨by decide +kernel, rfl⟩ ?_
  refine b_oinit (pc' := 4) (idx := 1) (cek_w3 12 rfl) (cek_w0 1 rfl) (cek_w0 2 rfl) (Nat.le_of_ble_eq_true rfl) ⟨by decide +kernel, rfl⟩ ?_
  refine b_aload (pc' := 5) (k := 0) (i := 0) 0 rfl rfl ⟨by decide +kernel, rfl⟩ ?_
  refine b_sipush (pc' := 8) (n := 1500) (v := 1500) (by decide) ⟨by decide +kernel, rfl⟩ ?_
  refine b_newa (pc' := 10) (atype := .byte) (ty := .byte) (t := 2) (N := 1500) (a0 := (1500, .inl (fun _ => 0))) (cek_w0 8 rfl) rfl ⟨1, by decide, rfl⟩ (fun _ => rfl) (by decide) (by decide) (Nat.le_of_ble_eq_true rfl) (Nat.le_of_ble_eq_true rfl) (Nat.le_of_ble_eq_true rfl) (Or.inr (Or.inl rfl)) ⟨by decide +kernel, rfl⟩ (fun q1 => ?_)
  refine b_put (pc' := 13) (idx := 9) (ci := 0) (N := 7) (j := 0) (f := true) (ty := .array .byte) 0 ⟨ce_RE, ce_TE, ce_tyE, rfl, cek_zE, (Nat.le_of_ble_eq_true rfl), (cek_w3 13 rfl), rfl, rfl, rfl⟩ rfl rfl rfl rfl ⟨by decide +kernel, rfl⟩ ?_
  simp only [List.cons_append, List.nil_append, List.set_cons_zero, List.set_cons_succ]
  refine b_aload (pc' := 14) (k := 0) (i := 0) 0 rfl rfl ⟨by decide +kernel, rfl⟩ ?_
  refine b_new (pc' := 17) (idx := 13) (ci := 1) (N := 13) (C := ce_RC) (Tt := ce_TC) (tf := ce_tyC) (fs := [.null, .null, .int 0, .int 0, .int 0, .int 0, .int 0, .null, .int 0, .null, .null, .null, .int 0]) rfl cek_zC (cek_w3 14 rfl) (cek_w3 15 rfl) (cek_w3 16 rfl) (fun j hj => match j, hj with | 0, _ => rfl | 1, _ => rfl | 2, _ => rfl | 3, _ => rfl | 4, _ => rfl | 5, _ => rfl | 6, _ => rfl | 7, _ => rfl | 8, _ => rfl | 9, _ => rfl | 10, _ => rfl | 11, _ => rfl | 12, _ => rfl | n + 13, h => absurd h (by omega)) (Nat.le_of_ble_eq_true rfl) (Nat.le_of_ble_eq_true rfl) ⟨by decide +kernel, rfl⟩ (fun q2 => ?_)
  refine b_dup (pc' := 18) rfl ⟨by decide +kernel, rfl⟩ ?_
  refine b_ctorN (pc' := 21) (idx := 15) (cc_C (zKl κ) ca D q2) cek_gC (cek_w3 16 rfl) (host := "ShapeEngine") (fun _ _ _ h => zNs_get h 6 rfl) (cek_w3 17 rfl) rfl (by decide +kernel) (Nat.le_of_ble_eq_true rfl) (Nat.le_of_ble_eq_true rfl) rfl rfl (Nat.le_of_ble_eq_true rfl) (Nat.le_of_ble_eq_true rfl) (Nat.le_of_ble_eq_true rfl) ⟨by decide +kernel, rfl⟩ (fun g3 => ?_)
  refine b_put (pc' := 24) (idx := 16) (ci := 0) (N := 7) (j := 2) (f := true) (ty := .object "ShapeEngine$Compiler") 0 ⟨ce_RE, ce_TE, ce_tyE, rfl, cek_zE, (Nat.le_of_ble_eq_true rfl), (cek_w3 19 rfl), rfl, rfl, rfl⟩ rfl rfl rfl rfl ⟨by decide +kernel, rfl⟩ ?_
  simp only [List.cons_append, List.nil_append, List.set_cons_zero, List.set_cons_succ]
  refine b_aload (pc' := 25) (k := 0) (i := 0) 0 rfl rfl ⟨by decide +kernel, rfl⟩ ?_
  refine b_new (pc' := 28) (idx := 20) (ci := 4) (N := 20) (C := ce_RM) (Tt := ce_TM) (tf := ce_tyM) (fs := [.null, .null, .null, .null, .null, .int 0, .null, .null, .int 0, .null, .null, .int 0, .int 0, .int 0, .int 0, .int 0, .int 0, .int 0, .int 0, .int 0]) rfl cek_zM (cek_w3 20 rfl) (cek_w3 21 rfl) (cek_w3 22 rfl) (fun j hj => match j, hj with | 0, _ => rfl | 1, _ => rfl | 2, _ => rfl | 3, _ => rfl | 4, _ => rfl | 5, _ => rfl | 6, _ => rfl | 7, _ => rfl | 8, _ => rfl | 9, _ => rfl | 10, _ => rfl | 11, _ => rfl | 12, _ => rfl | 13, _ => rfl | 14, _ => rfl | 15, _ => rfl | 16, _ => rfl | 17, _ => rfl | 18, _ => rfl | 19, _ => rfl | n + 20, h => absurd h (by omega)) (Nat.le_of_ble_eq_true rfl) (Nat.le_of_ble_eq_true rfl) ⟨by decide +kernel, rfl⟩ (fun q4 => ?_)
  refine b_dup (pc' := 29) rfl ⟨by decide +kernel, rfl⟩ ?_
  refine b_ctorN (pc' := 32) (idx := 22) (cc_M (zKl κ) ca D q4) cek_gM (cek_w3 22 rfl) (host := "ShapeEngine") (fun _ _ _ h => zNs_get h 7 rfl) (cek_w3 23 rfl) rfl (by decide +kernel) (Nat.le_of_ble_eq_true rfl) (Nat.le_of_ble_eq_true rfl) rfl rfl (Nat.le_of_ble_eq_true rfl) (Nat.le_of_ble_eq_true rfl) (Nat.le_of_ble_eq_true rfl) ⟨by decide +kernel, rfl⟩ (fun g5 => ?_)
  refine b_put (pc' := 35) (idx := 23) (ci := 0) (N := 7) (j := 3) (f := true) (ty := .object "ShapeEngine$Machine") 0 ⟨ce_RE, ce_TE, ce_tyE, rfl, cek_zE, (Nat.le_of_ble_eq_true rfl), (cek_w3 25 rfl), rfl, rfl, rfl⟩ rfl rfl rfl rfl ⟨by decide +kernel, rfl⟩ ?_
  simp only [List.cons_append, List.nil_append, List.set_cons_zero, List.set_cons_succ]
  refine b_aload (pc' := 36) (k := 0) (i := 0) 0 rfl rfl ⟨by decide +kernel, rfl⟩ ?_
  refine b_new (pc' := 39) (idx := 27) (ci := 3) (N := 16) (C := ce_RP) (Tt := ce_TP) (tf := ce_tyP) (fs := [.null, .null, .null, .int 0, .null, .null, .null, .null, .int 0, .null, .null, .null, .int 0, .int 0, .int 0, .int 0]) rfl cek_zP (cek_w3 26 rfl) (cek_w3 27 rfl) (cek_w3 28 rfl) (fun j hj => match j, hj with | 0, _ => rfl | 1, _ => rfl | 2, _ => rfl | 3, _ => rfl | 4, _ => rfl | 5, _ => rfl | 6, _ => rfl | 7, _ => rfl | 8, _ => rfl | 9, _ => rfl | 10, _ => rfl | 11, _ => rfl | 12, _ => rfl | 13, _ => rfl | 14, _ => rfl | 15, _ => rfl | n + 16, h => absurd h (by omega)) (Nat.le_of_ble_eq_true rfl) (Nat.le_of_ble_eq_true rfl) ⟨by decide +kernel, rfl⟩ (fun q6 => ?_)
  refine b_dup (pc' := 40) rfl ⟨by decide +kernel, rfl⟩ ?_
  refine b_ctorN (pc' := 43) (idx := 29) (cc_P (zKl κ) ca D q6) cek_gP (cek_w3 28 rfl) (host := "ShapeEngine") (fun _ _ _ h => zNs_get h 8 rfl) (cek_w3 29 rfl) rfl (by decide +kernel) (Nat.le_of_ble_eq_true rfl) (Nat.le_of_ble_eq_true rfl) rfl rfl (Nat.le_of_ble_eq_true rfl) (Nat.le_of_ble_eq_true rfl) (Nat.le_of_ble_eq_true rfl) ⟨by decide +kernel, rfl⟩ (fun g7 => ?_)
  refine b_put (pc' := 46) (idx := 30) (ci := 0) (N := 7) (j := 4) (f := false) (ty := .object "ShapeEngine$Program") 0 ⟨ce_RE, ce_TE, ce_tyE, rfl, cek_zE, (Nat.le_of_ble_eq_true rfl), (cek_w3 31 rfl), rfl, rfl, rfl⟩ rfl rfl rfl rfl ⟨by decide +kernel, rfl⟩ ?_
  simp only [List.cons_append, List.nil_append, List.set_cons_zero, List.set_cons_succ]
  refine b_aload (pc' := 47) (k := 0) (i := 0) 0 rfl rfl ⟨by decide +kernel, rfl⟩ ?_
  refine b_new (pc' := 50) (idx := 27) (ci := 3) (N := 16) (C := ce_RP) (Tt := ce_TP) (tf := ce_tyP) (fs := [.null, .null, .null, .int 0, .null, .null, .null, .null, .int 0, .null, .null, .null, .int 0, .int 0, .int 0, .int 0]) rfl cek_zP (cek_w3 26 rfl) (cek_w3 27 rfl) (cek_w3 28 rfl) (fun j hj => match j, hj with | 0, _ => rfl | 1, _ => rfl | 2, _ => rfl | 3, _ => rfl | 4, _ => rfl | 5, _ => rfl | 6, _ => rfl | 7, _ => rfl | 8, _ => rfl | 9, _ => rfl | 10, _ => rfl | 11, _ => rfl | 12, _ => rfl | 13, _ => rfl | 14, _ => rfl | 15, _ => rfl | n + 16, h => absurd h (by omega)) (Nat.le_of_ble_eq_true rfl) (Nat.le_of_ble_eq_true rfl) ⟨by decide +kernel, rfl⟩ (fun q8 => ?_)
  refine b_dup (pc' := 51) rfl ⟨by decide +kernel, rfl⟩ ?_
  refine b_ctorN (pc' := 54) (idx := 29) (cc_P (zKl κ) ca D q8) cek_gP (cek_w3 28 rfl) (host := "ShapeEngine") (fun _ _ _ h => zNs_get h 8 rfl) (cek_w3 29 rfl) rfl (by decide +kernel) (Nat.le_of_ble_eq_true rfl) (Nat.le_of_ble_eq_true rfl) rfl rfl (Nat.le_of_ble_eq_true rfl) (Nat.le_of_ble_eq_true rfl) (Nat.le_of_ble_eq_true rfl) ⟨by decide +kernel, rfl⟩ (fun g9 => ?_)
  refine b_put (pc' := 57) (idx := 34) (ci := 0) (N := 7) (j := 5) (f := false) (ty := .object "ShapeEngine$Program") 0 ⟨ce_RE, ce_TE, ce_tyE, rfl, cek_zE, (Nat.le_of_ble_eq_true rfl), (cek_w3 32 rfl), rfl, rfl, rfl⟩ rfl rfl rfl rfl ⟨by decide +kernel, rfl⟩ ?_
  simp only [List.cons_append, List.nil_append, List.set_cons_zero, List.set_cons_succ]
  simp only [cw_C, cw_X, cw_M, cw_H, cw_S, cw_R, cw_T, cw_F, cw_V, cw_P, List.cons_append, List.nil_append]
  refine b_aload (pc' := 58) (k := 0) (i := 0) 0 rfl rfl ⟨by decide +kernel, rfl⟩ ?_
  refine b_get (pc' := 61) (idx := 23) (ci := 0) (N := 7) (j := 3) (f := true) (ty := .object "ShapeEngine$Machine") 0 ⟨ce_RE, ce_TE, ce_tyE, rfl, cek_zE, (Nat.le_of_ble_eq_true rfl), (cek_w3 25 rfl), rfl, rfl, rfl⟩ rfl rfl ⟨by decide +kernel, rfl⟩ ?_
  refine b_aload (pc' := 62) (k := 0) (i := 0) 0 rfl rfl ⟨by decide +kernel, rfl⟩ ?_
  refine b_get (pc' := 65) (idx := 30) (ci := 0) (N := 7) (j := 4) (f := false) (ty := .object "ShapeEngine$Program") 0 ⟨ce_RE, ce_TE, ce_tyE, rfl, cek_zE, (Nat.le_of_ble_eq_true rfl), (cek_w3 31 rfl), rfl, rfl, rfl⟩ rfl rfl ⟨by decide +kernel, rfl⟩ ?_
  refine b_perm (ws' := zw ce_tb ca (zad ce_tb (bG0 [x, q1, q2, (g3 6), (g3 7), (g3 8), (g3 9), (g3 1), (g3 2), (g3 3), (g3 4), (g3 5), q6, (g7 1), (g7 2), (g7 3), (g7 4), (g7 5), (g7 6), (g7 7), (g7 8), (g7 9), (g7 10), q8, (g9 1), (g9 2), (g9 3), (g9 4), (g9 5), (g9 6), (g9 7), (g9 8), (g9 9), (g9 10), q4, (g5 55), (g5 1), (g5 11), (g5 12), (g5 13), (g5 14), (g5 15), (g5 16), (g5 2), (g5 3), (g5 22), (g5 23), (g5 24), (g5 25), (g5 29), (g5 30), (g5 31), (g5 32), (g5 33), (g5 34), (g5 35), (g5 36), (g5 37), (g5 38), (g5 39), (g5 40), (g5 41), (g5 42), (g5 43), (g5 44), (g5 45), (g5 19), (g5 20), (g5 21), (g5 26), (g5 27), (g5 28), (g5 46), (g5 47), (g5 48), (g5 49), (g5 50), (g5 51), (g5 52), (g5 53), (g5 54), (g5 4), (g5 5), (g5 6), (g5 7), (g5 8), (g5 9), (g5 10), (g5 17), (g5 18)]) (bG0 [x, q1, q2, (g3 6), (g3 7), (g3 8), (g3 9), (g3 1), (g3 2), (g3 3), (g3 4), (g3 5), q6, (g7 1), (g7 2), (g7 3), (g7 4), (g7 5), (g7 6), (g7 7), (g7 8), (g7 9), (g7 10), q8, (g9 1), (g9 2), (g9 3), (g9 4), (g9 5), (g9 6), (g9 7), (g9 8), (g9 9), (g9 10), q4, (g5 55), (g5 1), (g5 11), (g5 12), (g5 13), (g5 14), (g5 15), (g5 16), (g5 2), (g5 3), (g5 22), (g5 23), (g5 24), (g5 25), (g5 29), (g5 30), (g5 31), (g5 32), (g5 33), (g5 34), (g5 35), (g5 36), (g5 37), (g5 38), (g5 39), (g5 40), (g5 41), (g5 42), (g5 43), (g5 44), (g5 45), (g5 19), (g5 20), (g5 21), (g5 26), (g5 27), (g5 28), (g5 46), (g5 47), (g5 48), (g5 49), (g5 50), (g5 51), (g5 52), (g5 53), (g5 54), (g5 4), (g5 5), (g5 6), (g5 7), (g5 8), (g5 9), (g5 10), (g5 17), (g5 18)])) uE0) [0, 1, 2, 8, 9, 10, 11, 3, 4, 5, 6, 7, 68, 69, 70, 71, 72, 73, 74, 75, 76, 77, 78, 79, 80, 81, 82, 83, 84, 85, 86, 87, 88, 89, 12, 67, 13, 23, 24, 25, 26, 27, 28, 14, 15, 34, 35, 36, 37, 41, 42, 43, 44, 45, 46, 47, 48, 49, 50, 51, 52, 53, 54, 55, 56, 57, 31, 32, 33, 38, 39, 40, 58, 59, 60, 61, 62, 63, 64, 65, 66, 16, 17, 18, 19, 20, 21, 22, 29, 30] (by decide +kernel) rfl ?_
  refine b_meth (pc' := 68) (Λ := zCk ca D) (gl0 := ce_gl) (idx := 37) (C := ce_RM) (n := 1) (a := bG0 [x, q1, q2, (g3 6), (g3 7), (g3 8), (g3 9), (g3 1), (g3 2), (g3 3), (g3 4), (g3 5), q6, (g7 1), (g7 2), (g7 3), (g7 4), (g7 5), (g7 6), (g7 7), (g7 8), (g7 9), (g7 10), q8, (g9 1), (g9 2), (g9 3), (g9 4), (g9 5), (g9 6), (g9 7), (g9 8), (g9 9), (g9 10), q4, (g5 55), (g5 1), (g5 11), (g5 12), (g5 13), (g5 14), (g5 15), (g5 16), (g5 2), (g5 3), (g5 22), (g5 23), (g5 24), (g5 25), (g5 29), (g5 30), (g5 31), (g5 32), (g5 33), (g5 34), (g5 35), (g5 36), (g5 37), (g5 38), (g5 39), (g5 40), (g5 41), (g5 42), (g5 43), (g5 44), (g5 45), (g5 19), (g5 20), (g5 21), (g5 26), (g5 27), (g5 28), (g5 46), (g5 47), (g5 48), (g5 49), (g5 50), (g5 51), (g5 52), (g5 53), (g5 54), (g5 4), (g5 5), (g5 6), (g5 7), (g5 8), (g5 9), (g5 10), (g5 17), (g5 18)]) (u := uE0) (u' := u1) 34 (by rw [← hu]; exact cet_M_load n 12 rfl uE0) (fun _ _ _ h => h.1) (zStr_ok D) (fun c hc => ⟨cek_up ((ceG_E37 ca D).1 c hc).1, ((ceG_E37 ca D).1 c hc).2⟩) (ceG_E37 ca D).2.1 (Nat.le_of_ble_eq_true rfl) ⟨ce_TM, 20, 4, rfl, zlt rfl, rfl⟩ rfl (Nat.le_of_ble_eq_true rfl) rfl rfl (Nat.le_of_ble_eq_true rfl) (Nat.le_of_ble_eq_true rfl) ⟨by decide +kernel, rfl⟩ ?_
  exact b_end (pc' := 69) (bG0 [x, q1, q2, (g3 6), (g3 7), (g3 8), (g3 9), (g3 1), (g3 2), (g3 3), (g3 4), (g3 5), q6, (g7 1), (g7 2), (g7 3), (g7 4), (g7 5), (g7 6), (g7 7), (g7 8), (g7 9), (g7 10), q8, (g9 1), (g9 2), (g9 3), (g9 4), (g9 5), (g9 6), (g9 7), (g9 8), (g9 9), (g9 10), q4, (g5 55), (g5 1), (g5 11), (g5 12), (g5 13), (g5 14), (g5 15), (g5 16), (g5 2), (g5 3), (g5 22), (g5 23), (g5 24), (g5 25), (g5 29), (g5 30), (g5 31), (g5 32), (g5 33), (g5 34), (g5 35), (g5 36), (g5 37), (g5 38), (g5 39), (g5 40), (g5 41), (g5 42), (g5 43), (g5 44), (g5 45), (g5 19), (g5 20), (g5 21), (g5 26), (g5 27), (g5 28), (g5 46), (g5 47), (g5 48), (g5 49), (g5 50), (g5 51), (g5 52), (g5 53), (g5 54), (g5 4), (g5 5), (g5 6), (g5 7), (g5 8), (g5 9), (g5 10), (g5 17), (g5 18)]) (zwX (x := x) rfl) rfl rfl ⟨by decide +kernel, rfl⟩
