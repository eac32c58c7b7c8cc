/-! RUNNING: one instruction of the class; control -/
/-- what an instruction v6 with v8, v10 does, its place being passed -/
def pfD (n : Nat) (u11 : zMu) (v6 v8 v10 : Int32) : Option (Unit × zMu) :=
      if v6 = 0 then
      (
        zbd (ce_M_takeStep n u11) fun r12 u13 =>
        some ((), u13)
      ) else (
      if v6 = 1 then
      (
        zbd (ce_M_push n u11 1 (v8.toInt64)) fun _ u17 =>
        some ((), u17)
      ) else (
      if v6 = 2 then
      (
        zbd (ce_M_push n u11 0 0) fun _ u21 =>
        some ((), u21)
      ) else (
      if v6 = 3 then
      (
        zbd (ce_M_fetch n u11 (((zI u11 34 11) * 12) + v8)) fun _ u25 =>
        some ((), u25)
      ) else (
      if v6 = 4 then
      (
        zbd (ce_M_store n u11 (((zI u11 34 11) * 12) + v8)) fun _ u29 =>
        some ((), u29)
      ) else (
      if v6 = 5 then
      (
        zlet (zsI u11 34 8 ((zI u11 34 8) - 1)) fun u31 =>
        some ((), u31)
      ) else (
      if v6 = 6 then
      (
        zbd (ce_M_negate n u11 v10) fun _ u35 =>
        some ((), u35)
      ) else (
      if v6 = 7 then
      (
        zbd (ce_M_calculate n u11 v6 v8 v10) fun _ u39 =>
        some ((), u39)
      ) else (
      if v6 = 8 then
      (
        zbd (ce_M_calculate n u11 v6 v8 v10) fun _ u43 =>
        some ((), u43)
      ) else (
      if v6 = 9 then
      (
        zbd (ce_M_calculate n u11 v6 v8 v10) fun _ u47 =>
        some ((), u47)
      ) else (
      if v6 = 10 then
      (
        zbd (ce_M_compare n u11 v10) fun _ u51 =>
        some ((), u51)
      ) else (
      if v6 = 11 then
      (
        zbd (ce_M_equate n u11) fun _ u55 =>
        some ((), u55)
      ) else (
      if v6 = 12 then
      (
        zbd (ce_M_makeObject n u11 v10) fun _ u59 =>
        some ((), u59)
      ) else (
      if v6 = 13 then
      (
        zbd (ce_M_getMember n u11 v8 v10) fun _ u63 =>
        some ((), u63)
      ) else (
      if v6 = 14 then
      (
        zbd (ce_M_putMember n u11 v8 v10) fun _ u67 =>
        some ((), u67)
      ) else (
      if v6 = 15 then
      (
        zbd (ce_M_strikeMember n u11 v8 v10) fun _ u70 =>
        some ((), u70)
      ) else (
      if v6 = 16 then
      (
        zbd (ce_M_makeRow n u11 v10) fun _ u74 =>
        some ((), u74)
      ) else (
      if v6 = 17 then
      (
        zbd (ce_M_getItem n u11 v10) fun _ u78 =>
        some ((), u78)
      ) else (
      if v6 = 18 then
      (
        zbd (ce_M_putItem n u11 v10) fun _ u82 =>
        some ((), u82)
      ) else (
      if v6 = 19 then
      (
        zbd (ce_M_measure n u11 v10) fun _ u86 =>
        some ((), u86)
      ) else (
      if v6 = 20 then
      (
        zbd (ce_M_enter n u11 v8 v10) fun _ u90 =>
        some ((), u90)
      ) else (
      if v6 = 21 then
      (
        zbd (ce_M_leave n u11) fun _ u93 =>
        some ((), u93)
      ) else (
      if v6 = 22 then
      (
        zbd (ce_M_print n u11) fun _ u97 =>
        some ((), u97)
      ) else (
      if v6 = 23 then
      (
        zlet (zsI u11 34 13 v8) fun u99 =>
        some ((), u99)
      ) else (
      if v6 = 24 then
      (
        zbd (ce_M_branch n u11 v8 v10) fun _ u102 =>
        some ((), u102)
      ) else (
        zlet (zsI u11 34 17 0) fun u104 =>
        some ((), u104)
      )))))))))))))))))))))))))
theorem pf_eq (n : Nat) {p pc cc : Nat} {c x w : Int32} {uc : zMu} (pp : zR uc 34 6 = p) (pz : zpr p = true) (i13 : zI uc 34 13 = nI pc) (hpc : pc < cc) (hcc : cc ≤ 2400) (ilen : zI uc p 3 = nI cc) (ic : zI uc (p + 1) pc = c) (ix : zI uc (p + 2) pc = x) (iw : zI uc (p + 3) pc = w) : ce_M_perform n uc = pfD n (zsI uc 34 13 (nI (pc + 1))) c x w := by
  unfold ce_M_perform
  rw [i13, if_neg (nI_pos (by omega)), pp, pz, zgd_t]
  simp only [zlet]
  rw [ilen, if_pos (nI_lt hpc (by omega)), zgd_t, zin_nI (show pc < 2400 by omega) (by decide), zgd_t, zgd_t, zgd_t, zgd_t, zgd_t, zx_nI (show pc < 2 ^ 31 by omega), ic, ix, iw, nI_1]
  rfl
theorem pf_0 (n : Nat) (u : zMu) (x w : Int32) : pfD n u (nI 0) x w = (zbd (ce_M_takeStep n u) fun _ u13 => some ((), u13)) := by
  unfold pfD
  rw [if_pos (show nI 0 = (0 : Int32) from rfl)]
theorem pf_1 (n : Nat) (u : zMu) (x w : Int32) : pfD n u (nI 1) x w = (ce_M_push n u 1 (x.toInt64)) := by
  unfold pfD
  rw [if_neg (show ¬ nI 1 = (0 : Int32) from by decide), if_pos (show nI 1 = (1 : Int32) from rfl), zbd_u]
theorem pf_2 (n : Nat) (u : zMu) (x w : Int32) : pfD n u (nI 2) x w = (ce_M_push n u 0 0) := by
  unfold pfD
  rw [if_neg (show ¬ nI 2 = (0 : Int32) from by decide), if_neg (show ¬ nI 2 = (1 : Int32) from by decide), if_pos (show nI 2 = (2 : Int32) from rfl), zbd_u]
theorem pf_3 (n : Nat) (u : zMu) (x w : Int32) : pfD n u (nI 3) x w = (ce_M_fetch n u (((zI u 34 11) * 12) + x)) := by
  unfold pfD
  rw [if_neg (show ¬ nI 3 = (0 : Int32) from by decide), if_neg (show ¬ nI 3 = (1 : Int32) from by decide), if_neg (show ¬ nI 3 = (2 : Int32) from by decide), if_pos (show nI 3 = (3 : Int32) from rfl), zbd_u]
theorem pf_4 (n : Nat) (u : zMu) (x w : Int32) : pfD n u (nI 4) x w = (ce_M_store n u (((zI u 34 11) * 12) + x)) := by
  unfold pfD
  rw [if_neg (show ¬ nI 4 = (0 : Int32) from by decide), if_neg (show ¬ nI 4 = (1 : Int32) from by decide), if_neg (show ¬ nI 4 = (2 : Int32) from by decide), if_neg (show ¬ nI 4 = (3 : Int32) from by decide), if_pos (show nI 4 = (4 : Int32) from rfl), zbd_u]
theorem pf_5 (n : Nat) (u : zMu) (x w : Int32) : pfD n u (nI 5) x w = (zlet (zsI u 34 8 ((zI u 34 8) - 1)) fun u31 => some ((), u31)) := by
  unfold pfD
  rw [if_neg (show ¬ nI 5 = (0 : Int32) from by decide), if_neg (show ¬ nI 5 = (1 : Int32) from by decide), if_neg (show ¬ nI 5 = (2 : Int32) from by decide), if_neg (show ¬ nI 5 = (3 : Int32) from by decide), if_neg (show ¬ nI 5 = (4 : Int32) from by decide), if_pos (show nI 5 = (5 : Int32) from rfl)]
theorem pf_6 (n : Nat) (u : zMu) (x w : Int32) : pfD n u (nI 6) x w = (ce_M_negate n u w) := by
  unfold pfD
  rw [if_neg (show ¬ nI 6 = (0 : Int32) from by decide), if_neg (show ¬ nI 6 = (1 : Int32) from by decide), if_neg (show ¬ nI 6 = (2 : Int32) from by decide), if_neg (show ¬ nI 6 = (3 : Int32) from by decide), if_neg (show ¬ nI 6 = (4 : Int32) from by decide), if_neg (show ¬ nI 6 = (5 : Int32) from by decide), if_pos (show nI 6 = (6 : Int32) from rfl), zbd_u]
theorem pf_7 (n : Nat) (u : zMu) (x w : Int32) : pfD n u (nI 7) x w = (ce_M_calculate n u (nI 7) x w) := by
  unfold pfD
  rw [if_neg (show ¬ nI 7 = (0 : Int32) from by decide), if_neg (show ¬ nI 7 = (1 : Int32) from by decide), if_neg (show ¬ nI 7 = (2 : Int32) from by decide), if_neg (show ¬ nI 7 = (3 : Int32) from by decide), if_neg (show ¬ nI 7 = (4 : Int32) from by decide), if_neg (show ¬ nI 7 = (5 : Int32) from by decide), if_neg (show ¬ nI 7 = (6 : Int32) from by decide), if_pos (show nI 7 = (7 : Int32) from rfl), zbd_u]
theorem pf_8 (n : Nat) (u : zMu) (x w : Int32) : pfD n u (nI 8) x w = (ce_M_calculate n u (nI 8) x w) := by
  unfold pfD
  rw [if_neg (show ¬ nI 8 = (0 : Int32) from by decide), if_neg (show ¬ nI 8 = (1 : Int32) from by decide), if_neg (show ¬ nI 8 = (2 : Int32) from by decide), if_neg (show ¬ nI 8 = (3 : Int32) from by decide), if_neg (show ¬ nI 8 = (4 : Int32) from by decide), if_neg (show ¬ nI 8 = (5 : Int32) from by decide), if_neg (show ¬ nI 8 = (6 : Int32) from by decide), if_neg (show ¬ nI 8 = (7 : Int32) from by decide), if_pos (show nI 8 = (8 : Int32) from rfl), zbd_u]
theorem pf_9 (n : Nat) (u : zMu) (x w : Int32) : pfD n u (nI 9) x w = (ce_M_calculate n u (nI 9) x w) := by
  unfold pfD
  rw [if_neg (show ¬ nI 9 = (0 : Int32) from by decide), if_neg (show ¬ nI 9 = (1 : Int32) from by decide), if_neg (show ¬ nI 9 = (2 : Int32) from by decide), if_neg (show ¬ nI 9 = (3 : Int32) from by decide), if_neg (show ¬ nI 9 = (4 : Int32) from by decide), if_neg (show ¬ nI 9 = (5 : Int32) from by decide), if_neg (show ¬ nI 9 = (6 : Int32) from by decide), if_neg (show ¬ nI 9 = (7 : Int32) from by decide), if_neg (show ¬ nI 9 = (8 : Int32) from by decide), if_pos (show nI 9 = (9 : Int32) from rfl), zbd_u]
theorem pf_10 (n : Nat) (u : zMu) (x w : Int32) : pfD n u (nI 10) x w = (ce_M_compare n u w) := by
  unfold pfD
  rw [if_neg (show ¬ nI 10 = (0 : Int32) from by decide), if_neg (show ¬ nI 10 = (1 : Int32) from by decide), if_neg (show ¬ nI 10 = (2 : Int32) from by decide), if_neg (show ¬ nI 10 = (3 : Int32) from by decide), if_neg (show ¬ nI 10 = (4 : Int32) from by decide), if_neg (show ¬ nI 10 = (5 : Int32) from by decide), if_neg (show ¬ nI 10 = (6 : Int32) from by decide), if_neg (show ¬ nI 10 = (7 : Int32) from by decide), if_neg (show ¬ nI 10 = (8 : Int32) from by decide), if_neg (show ¬ nI 10 = (9 : Int32) from by decide), if_pos (show nI 10 = (10 : Int32) from rfl), zbd_u]
theorem pf_11 (n : Nat) (u : zMu) (x w : Int32) : pfD n u (nI 11) x w = (ce_M_equate n u) := by
  unfold pfD
  rw [if_neg (show ¬ nI 11 = (0 : Int32) from by decide), if_neg (show ¬ nI 11 = (1 : Int32) from by decide), if_neg (show ¬ nI 11 = (2 : Int32) from by decide), if_neg (show ¬ nI 11 = (3 : Int32) from by decide), if_neg (show ¬ nI 11 = (4 : Int32) from by decide), if_neg (show ¬ nI 11 = (5 : Int32) from by decide), if_neg (show ¬ nI 11 = (6 : Int32) from by decide), if_neg (show ¬ nI 11 = (7 : Int32) from by decide), if_neg (show ¬ nI 11 = (8 : Int32) from by decide), if_neg (show ¬ nI 11 = (9 : Int32) from by decide), if_neg (show ¬ nI 11 = (10 : Int32) from by decide), if_pos (show nI 11 = (11 : Int32) from rfl), zbd_u]
theorem pf_12 (n : Nat) (u : zMu) (x w : Int32) : pfD n u (nI 12) x w = (ce_M_makeObject n u w) := by
  unfold pfD
  rw [if_neg (show ¬ nI 12 = (0 : Int32) from by decide), if_neg (show ¬ nI 12 = (1 : Int32) from by decide), if_neg (show ¬ nI 12 = (2 : Int32) from by decide), if_neg (show ¬ nI 12 = (3 : Int32) from by decide), if_neg (show ¬ nI 12 = (4 : Int32) from by decide), if_neg (show ¬ nI 12 = (5 : Int32) from by decide), if_neg (show ¬ nI 12 = (6 : Int32) from by decide), if_neg (show ¬ nI 12 = (7 : Int32) from by decide), if_neg (show ¬ nI 12 = (8 : Int32) from by decide), if_neg (show ¬ nI 12 = (9 : Int32) from by decide), if_neg (show ¬ nI 12 = (10 : Int32) from by decide), if_neg (show ¬ nI 12 = (11 : Int32) from by decide), if_pos (show nI 12 = (12 : Int32) from rfl), zbd_u]
theorem pf_13 (n : Nat) (u : zMu) (x w : Int32) : pfD n u (nI 13) x w = (ce_M_getMember n u x w) := by
  unfold pfD
  rw [if_neg (show ¬ nI 13 = (0 : Int32) from by decide), if_neg (show ¬ nI 13 = (1 : Int32) from by decide), if_neg (show ¬ nI 13 = (2 : Int32) from by decide), if_neg (show ¬ nI 13 = (3 : Int32) from by decide), if_neg (show ¬ nI 13 = (4 : Int32) from by decide), if_neg (show ¬ nI 13 = (5 : Int32) from by decide), if_neg (show ¬ nI 13 = (6 : Int32) from by decide), if_neg (show ¬ nI 13 = (7 : Int32) from by decide), if_neg (show ¬ nI 13 = (8 : Int32) from by decide), if_neg (show ¬ nI 13 = (9 : Int32) from by decide), if_neg (show ¬ nI 13 = (10 : Int32) from by decide), if_neg (show ¬ nI 13 = (11 : Int32) from by decide), if_neg (show ¬ nI 13 = (12 : Int32) from by decide), if_pos (show nI 13 = (13 : Int32) from rfl), zbd_u]
theorem pf_14 (n : Nat) (u : zMu) (x w : Int32) : pfD n u (nI 14) x w = (ce_M_putMember n u x w) := by
  unfold pfD
  rw [if_neg (show ¬ nI 14 = (0 : Int32) from by decide), if_neg (show ¬ nI 14 = (1 : Int32) from by decide), if_neg (show ¬ nI 14 = (2 : Int32) from by decide), if_neg (show ¬ nI 14 = (3 : Int32) from by decide), if_neg (show ¬ nI 14 = (4 : Int32) from by decide), if_neg (show ¬ nI 14 = (5 : Int32) from by decide), if_neg (show ¬ nI 14 = (6 : Int32) from by decide), if_neg (show ¬ nI 14 = (7 : Int32) from by decide), if_neg (show ¬ nI 14 = (8 : Int32) from by decide), if_neg (show ¬ nI 14 = (9 : Int32) from by decide), if_neg (show ¬ nI 14 = (10 : Int32) from by decide), if_neg (show ¬ nI 14 = (11 : Int32) from by decide), if_neg (show ¬ nI 14 = (12 : Int32) from by decide), if_neg (show ¬ nI 14 = (13 : Int32) from by decide), if_pos (show nI 14 = (14 : Int32) from rfl), zbd_u]
theorem pf_15 (n : Nat) (u : zMu) (x w : Int32) : pfD n u (nI 15) x w = (ce_M_strikeMember n u x w) := by
  unfold pfD
  rw [if_neg (show ¬ nI 15 = (0 : Int32) from by decide), if_neg (show ¬ nI 15 = (1 : Int32) from by decide), if_neg (show ¬ nI 15 = (2 : Int32) from by decide), if_neg (show ¬ nI 15 = (3 : Int32) from by decide), if_neg (show ¬ nI 15 = (4 : Int32) from by decide), if_neg (show ¬ nI 15 = (5 : Int32) from by decide), if_neg (show ¬ nI 15 = (6 : Int32) from by decide), if_neg (show ¬ nI 15 = (7 : Int32) from by decide), if_neg (show ¬ nI 15 = (8 : Int32) from by decide), if_neg (show ¬ nI 15 = (9 : Int32) from by decide), if_neg (show ¬ nI 15 = (10 : Int32) from by decide), if_neg (show ¬ nI 15 = (11 : Int32) from by decide), if_neg (show ¬ nI 15 = (12 : Int32) from by decide), if_neg (show ¬ nI 15 = (13 : Int32) from by decide), if_neg (show ¬ nI 15 = (14 : Int32) from by decide), if_pos (show nI 15 = (15 : Int32) from rfl), zbd_u]
theorem pf_16 (n : Nat) (u : zMu) (x w : Int32) : pfD n u (nI 16) x w = (ce_M_makeRow n u w) := by
  unfold pfD
  rw [if_neg (show ¬ nI 16 = (0 : Int32) from by decide), if_neg (show ¬ nI 16 = (1 : Int32) from by decide), if_neg (show ¬ nI 16 = (2 : Int32) from by decide), if_neg (show ¬ nI 16 = (3 : Int32) from by decide), if_neg (show ¬ nI 16 = (4 : Int32) from by decide), if_neg (show ¬ nI 16 = (5 : Int32) from by decide), if_neg (show ¬ nI 16 = (6 : Int32) from by decide), if_neg (show ¬ nI 16 = (7 : Int32) from by decide), if_neg (show ¬ nI 16 = (8 : Int32) from by decide), if_neg (show ¬ nI 16 = (9 : Int32) from by decide), if_neg (show ¬ nI 16 = (10 : Int32) from by decide), if_neg (show ¬ nI 16 = (11 : Int32) from by decide), if_neg (show ¬ nI 16 = (12 : Int32) from by decide), if_neg (show ¬ nI 16 = (13 : Int32) from by decide), if_neg (show ¬ nI 16 = (14 : Int32) from by decide), if_neg (show ¬ nI 16 = (15 : Int32) from by decide), if_pos (show nI 16 = (16 : Int32) from rfl), zbd_u]
theorem pf_17 (n : Nat) (u : zMu) (x w : Int32) : pfD n u (nI 17) x w = (ce_M_getItem n u w) := by
  unfold pfD
  rw [if_neg (show ¬ nI 17 = (0 : Int32) from by decide), if_neg (show ¬ nI 17 = (1 : Int32) from by decide), if_neg (show ¬ nI 17 = (2 : Int32) from by decide), if_neg (show ¬ nI 17 = (3 : Int32) from by decide), if_neg (show ¬ nI 17 = (4 : Int32) from by decide), if_neg (show ¬ nI 17 = (5 : Int32) from by decide), if_neg (show ¬ nI 17 = (6 : Int32) from by decide), if_neg (show ¬ nI 17 = (7 : Int32) from by decide), if_neg (show ¬ nI 17 = (8 : Int32) from by decide), if_neg (show ¬ nI 17 = (9 : Int32) from by decide), if_neg (show ¬ nI 17 = (10 : Int32) from by decide), if_neg (show ¬ nI 17 = (11 : Int32) from by decide), if_neg (show ¬ nI 17 = (12 : Int32) from by decide), if_neg (show ¬ nI 17 = (13 : Int32) from by decide), if_neg (show ¬ nI 17 = (14 : Int32) from by decide), if_neg (show ¬ nI 17 = (15 : Int32) from by decide), if_neg (show ¬ nI 17 = (16 : Int32) from by decide), if_pos (show nI 17 = (17 : Int32) from rfl), zbd_u]
theorem pf_18 (n : Nat) (u : zMu) (x w : Int32) : pfD n u (nI 18) x w = (ce_M_putItem n u w) := by
  unfold pfD
  rw [if_neg (show ¬ nI 18 = (0 : Int32) from by decide), if_neg (show ¬ nI 18 = (1 : Int32) from by decide), if_neg (show ¬ nI 18 = (2 : Int32) from by decide), if_neg (show ¬ nI 18 = (3 : Int32) from by decide), if_neg (show ¬ nI 18 = (4 : Int32) from by decide), if_neg (show ¬ nI 18 = (5 : Int32) from by decide), if_neg (show ¬ nI 18 = (6 : Int32) from by decide), if_neg (show ¬ nI 18 = (7 : Int32) from by decide), if_neg (show ¬ nI 18 = (8 : Int32) from by decide), if_neg (show ¬ nI 18 = (9 : Int32) from by decide), if_neg (show ¬ nI 18 = (10 : Int32) from by decide), if_neg (show ¬ nI 18 = (11 : Int32) from by decide), if_neg (show ¬ nI 18 = (12 : Int32) from by decide), if_neg (show ¬ nI 18 = (13 : Int32) from by decide), if_neg (show ¬ nI 18 = (14 : Int32) from by decide), if_neg (show ¬ nI 18 = (15 : Int32) from by decide), if_neg (show ¬ nI 18 = (16 : Int32) from by decide), if_neg (show ¬ nI 18 = (17 : Int32) from by decide), if_pos (show nI 18 = (18 : Int32) from rfl), zbd_u]
theorem pf_19 (n : Nat) (u : zMu) (x w : Int32) : pfD n u (nI 19) x w = (ce_M_measure n u w) := by
  unfold pfD
  rw [if_neg (show ¬ nI 19 = (0 : Int32) from by decide), if_neg (show ¬ nI 19 = (1 : Int32) from by decide), if_neg (show ¬ nI 19 = (2 : Int32) from by decide), if_neg (show ¬ nI 19 = (3 : Int32) from by decide), if_neg (show ¬ nI 19 = (4 : Int32) from by decide), if_neg (show ¬ nI 19 = (5 : Int32) from by decide), if_neg (show ¬ nI 19 = (6 : Int32) from by decide), if_neg (show ¬ nI 19 = (7 : Int32) from by decide), if_neg (show ¬ nI 19 = (8 : Int32) from by decide), if_neg (show ¬ nI 19 = (9 : Int32) from by decide), if_neg (show ¬ nI 19 = (10 : Int32) from by decide), if_neg (show ¬ nI 19 = (11 : Int32) from by decide), if_neg (show ¬ nI 19 = (12 : Int32) from by decide), if_neg (show ¬ nI 19 = (13 : Int32) from by decide), if_neg (show ¬ nI 19 = (14 : Int32) from by decide), if_neg (show ¬ nI 19 = (15 : Int32) from by decide), if_neg (show ¬ nI 19 = (16 : Int32) from by decide), if_neg (show ¬ nI 19 = (17 : Int32) from by decide), if_neg (show ¬ nI 19 = (18 : Int32) from by decide), if_pos (show nI 19 = (19 : Int32) from rfl), zbd_u]
theorem pf_20 (n : Nat) (u : zMu) (x w : Int32) : pfD n u (nI 20) x w = (ce_M_enter n u x w) := by
  unfold pfD
  rw [if_neg (show ¬ nI 20 = (0 : Int32) from by decide), if_neg (show ¬ nI 20 = (1 : Int32) from by decide), if_neg (show ¬ nI 20 = (2 : Int32) from by decide), if_neg (show ¬ nI 20 = (3 : Int32) from by decide), if_neg (show ¬ nI 20 = (4 : Int32) from by decide), if_neg (show ¬ nI 20 = (5 : Int32) from by decide), if_neg (show ¬ nI 20 = (6 : Int32) from by decide), if_neg (show ¬ nI 20 = (7 : Int32) from by decide), if_neg (show ¬ nI 20 = (8 : Int32) from by decide), if_neg (show ¬ nI 20 = (9 : Int32) from by decide), if_neg (show ¬ nI 20 = (10 : Int32) from by decide), if_neg (show ¬ nI 20 = (11 : Int32) from by decide), if_neg (show ¬ nI 20 = (12 : Int32) from by decide), if_neg (show ¬ nI 20 = (13 : Int32) from by decide), if_neg (show ¬ nI 20 = (14 : Int32) from by decide), if_neg (show ¬ nI 20 = (15 : Int32) from by decide), if_neg (show ¬ nI 20 = (16 : Int32) from by decide), if_neg (show ¬ nI 20 = (17 : Int32) from by decide), if_neg (show ¬ nI 20 = (18 : Int32) from by decide), if_neg (show ¬ nI 20 = (19 : Int32) from by decide), if_pos (show nI 20 = (20 : Int32) from rfl), zbd_u]
theorem pf_21 (n : Nat) (u : zMu) (x w : Int32) : pfD n u (nI 21) x w = (ce_M_leave n u) := by
  unfold pfD
  rw [if_neg (show ¬ nI 21 = (0 : Int32) from by decide), if_neg (show ¬ nI 21 = (1 : Int32) from by decide), if_neg (show ¬ nI 21 = (2 : Int32) from by decide), if_neg (show ¬ nI 21 = (3 : Int32) from by decide), if_neg (show ¬ nI 21 = (4 : Int32) from by decide), if_neg (show ¬ nI 21 = (5 : Int32) from by decide), if_neg (show ¬ nI 21 = (6 : Int32) from by decide), if_neg (show ¬ nI 21 = (7 : Int32) from by decide), if_neg (show ¬ nI 21 = (8 : Int32) from by decide), if_neg (show ¬ nI 21 = (9 : Int32) from by decide), if_neg (show ¬ nI 21 = (10 : Int32) from by decide), if_neg (show ¬ nI 21 = (11 : Int32) from by decide), if_neg (show ¬ nI 21 = (12 : Int32) from by decide), if_neg (show ¬ nI 21 = (13 : Int32) from by decide), if_neg (show ¬ nI 21 = (14 : Int32) from by decide), if_neg (show ¬ nI 21 = (15 : Int32) from by decide), if_neg (show ¬ nI 21 = (16 : Int32) from by decide), if_neg (show ¬ nI 21 = (17 : Int32) from by decide), if_neg (show ¬ nI 21 = (18 : Int32) from by decide), if_neg (show ¬ nI 21 = (19 : Int32) from by decide), if_neg (show ¬ nI 21 = (20 : Int32) from by decide), if_pos (show nI 21 = (21 : Int32) from rfl), zbd_u]
theorem pf_22 (n : Nat) (u : zMu) (x w : Int32) : pfD n u (nI 22) x w = (ce_M_print n u) := by
  unfold pfD
  rw [if_neg (show ¬ nI 22 = (0 : Int32) from by decide), if_neg (show ¬ nI 22 = (1 : Int32) from by decide), if_neg (show ¬ nI 22 = (2 : Int32) from by decide), if_neg (show ¬ nI 22 = (3 : Int32) from by decide), if_neg (show ¬ nI 22 = (4 : Int32) from by decide), if_neg (show ¬ nI 22 = (5 : Int32) from by decide), if_neg (show ¬ nI 22 = (6 : Int32) from by decide), if_neg (show ¬ nI 22 = (7 : Int32) from by decide), if_neg (show ¬ nI 22 = (8 : Int32) from by decide), if_neg (show ¬ nI 22 = (9 : Int32) from by decide), if_neg (show ¬ nI 22 = (10 : Int32) from by decide), if_neg (show ¬ nI 22 = (11 : Int32) from by decide), if_neg (show ¬ nI 22 = (12 : Int32) from by decide), if_neg (show ¬ nI 22 = (13 : Int32) from by decide), if_neg (show ¬ nI 22 = (14 : Int32) from by decide), if_neg (show ¬ nI 22 = (15 : Int32) from by decide), if_neg (show ¬ nI 22 = (16 : Int32) from by decide), if_neg (show ¬ nI 22 = (17 : Int32) from by decide), if_neg (show ¬ nI 22 = (18 : Int32) from by decide), if_neg (show ¬ nI 22 = (19 : Int32) from by decide), if_neg (show ¬ nI 22 = (20 : Int32) from by decide), if_neg (show ¬ nI 22 = (21 : Int32) from by decide), if_pos (show nI 22 = (22 : Int32) from rfl), zbd_u]
theorem pf_23 (n : Nat) (u : zMu) (x w : Int32) : pfD n u (nI 23) x w = (zlet (zsI u 34 13 x) fun u99 => some ((), u99)) := by
  unfold pfD
  rw [if_neg (show ¬ nI 23 = (0 : Int32) from by decide), if_neg (show ¬ nI 23 = (1 : Int32) from by decide), if_neg (show ¬ nI 23 = (2 : Int32) from by decide), if_neg (show ¬ nI 23 = (3 : Int32) from by decide), if_neg (show ¬ nI 23 = (4 : Int32) from by decide), if_neg (show ¬ nI 23 = (5 : Int32) from by decide), if_neg (show ¬ nI 23 = (6 : Int32) from by decide), if_neg (show ¬ nI 23 = (7 : Int32) from by decide), if_neg (show ¬ nI 23 = (8 : Int32) from by decide), if_neg (show ¬ nI 23 = (9 : Int32) from by decide), if_neg (show ¬ nI 23 = (10 : Int32) from by decide), if_neg (show ¬ nI 23 = (11 : Int32) from by decide), if_neg (show ¬ nI 23 = (12 : Int32) from by decide), if_neg (show ¬ nI 23 = (13 : Int32) from by decide), if_neg (show ¬ nI 23 = (14 : Int32) from by decide), if_neg (show ¬ nI 23 = (15 : Int32) from by decide), if_neg (show ¬ nI 23 = (16 : Int32) from by decide), if_neg (show ¬ nI 23 = (17 : Int32) from by decide), if_neg (show ¬ nI 23 = (18 : Int32) from by decide), if_neg (show ¬ nI 23 = (19 : Int32) from by decide), if_neg (show ¬ nI 23 = (20 : Int32) from by decide), if_neg (show ¬ nI 23 = (21 : Int32) from by decide), if_neg (show ¬ nI 23 = (22 : Int32) from by decide), if_pos (show nI 23 = (23 : Int32) from rfl)]
theorem pf_24 (n : Nat) (u : zMu) (x w : Int32) : pfD n u (nI 24) x w = (ce_M_branch n u x w) := by
  unfold pfD
  rw [if_neg (show ¬ nI 24 = (0 : Int32) from by decide), if_neg (show ¬ nI 24 = (1 : Int32) from by decide), if_neg (show ¬ nI 24 = (2 : Int32) from by decide), if_neg (show ¬ nI 24 = (3 : Int32) from by decide), if_neg (show ¬ nI 24 = (4 : Int32) from by decide), if_neg (show ¬ nI 24 = (5 : Int32) from by decide), if_neg (show ¬ nI 24 = (6 : Int32) from by decide), if_neg (show ¬ nI 24 = (7 : Int32) from by decide), if_neg (show ¬ nI 24 = (8 : Int32) from by decide), if_neg (show ¬ nI 24 = (9 : Int32) from by decide), if_neg (show ¬ nI 24 = (10 : Int32) from by decide), if_neg (show ¬ nI 24 = (11 : Int32) from by decide), if_neg (show ¬ nI 24 = (12 : Int32) from by decide), if_neg (show ¬ nI 24 = (13 : Int32) from by decide), if_neg (show ¬ nI 24 = (14 : Int32) from by decide), if_neg (show ¬ nI 24 = (15 : Int32) from by decide), if_neg (show ¬ nI 24 = (16 : Int32) from by decide), if_neg (show ¬ nI 24 = (17 : Int32) from by decide), if_neg (show ¬ nI 24 = (18 : Int32) from by decide), if_neg (show ¬ nI 24 = (19 : Int32) from by decide), if_neg (show ¬ nI 24 = (20 : Int32) from by decide), if_neg (show ¬ nI 24 = (21 : Int32) from by decide), if_neg (show ¬ nI 24 = (22 : Int32) from by decide), if_neg (show ¬ nI 24 = (23 : Int32) from by decide), if_pos (show nI 24 = (24 : Int32) from rfl), zbd_u]
theorem pf_25 (n : Nat) (u : zMu) (x w : Int32) : pfD n u (nI 25) x w = (zlet (zsI u 34 17 0) fun u104 => some ((), u104)) := by
  unfold pfD
  rw [if_neg (show ¬ nI 25 = (0 : Int32) from by decide), if_neg (show ¬ nI 25 = (1 : Int32) from by decide), if_neg (show ¬ nI 25 = (2 : Int32) from by decide), if_neg (show ¬ nI 25 = (3 : Int32) from by decide), if_neg (show ¬ nI 25 = (4 : Int32) from by decide), if_neg (show ¬ nI 25 = (5 : Int32) from by decide), if_neg (show ¬ nI 25 = (6 : Int32) from by decide), if_neg (show ¬ nI 25 = (7 : Int32) from by decide), if_neg (show ¬ nI 25 = (8 : Int32) from by decide), if_neg (show ¬ nI 25 = (9 : Int32) from by decide), if_neg (show ¬ nI 25 = (10 : Int32) from by decide), if_neg (show ¬ nI 25 = (11 : Int32) from by decide), if_neg (show ¬ nI 25 = (12 : Int32) from by decide), if_neg (show ¬ nI 25 = (13 : Int32) from by decide), if_neg (show ¬ nI 25 = (14 : Int32) from by decide), if_neg (show ¬ nI 25 = (15 : Int32) from by decide), if_neg (show ¬ nI 25 = (16 : Int32) from by decide), if_neg (show ¬ nI 25 = (17 : Int32) from by decide), if_neg (show ¬ nI 25 = (18 : Int32) from by decide), if_neg (show ¬ nI 25 = (19 : Int32) from by decide), if_neg (show ¬ nI 25 = (20 : Int32) from by decide), if_neg (show ¬ nI 25 = (21 : Int32) from by decide), if_neg (show ¬ nI 25 = (22 : Int32) from by decide), if_neg (show ¬ nI 25 = (23 : Int32) from by decide), if_neg (show ¬ nI 25 = (24 : Int32) from by decide)]
/-- the reference's instruction r -/
theorem rd_1 (n : Nat) (u : zMu) {r : Nat} (hr : r < 4000) : rf_does n u (nI 1) (nI r) = (
    zbd (rf_pushes n u 1 ((zI u 11 r).toInt64)) fun _ u5 =>
    some ((-1), u5)) := by
  unfold rf_does
  rw [zin_nI hr (by decide), zgd_t, zx_nI (show r < 2 ^ 31 by omega)]
  simp only [zlet, zgd_t]
  rw [if_pos (show nI 1 = (1 : Int32) from rfl)]
theorem rd_2 (n : Nat) (u : zMu) {r : Nat} (hr : r < 4000) : rf_does n u (nI 2) (nI r) = (
    zbd (rf_pushes n u 0 0) fun _ u8 =>
    some ((-1), u8)) := by
  unfold rf_does
  rw [zin_nI hr (by decide), zgd_t, zx_nI (show r < 2 ^ 31 by omega)]
  simp only [zlet, zgd_t]
  rw [if_neg (show ¬ nI 2 = (1 : Int32) from by decide), if_pos (show nI 2 = (2 : Int32) from rfl)]
theorem rd_3 (n : Nat) (u : zMu) {r : Nat} (hr : r < 4000) : rf_does n u (nI 3) (nI r) = (
    zgd (zin ((12 * (zI u 0 52)) + (zI u 11 r)) 160) <|
    zgd (zin ((12 * (zI u 0 52)) + (zI u 11 r)) 160) <|
    zbd (rf_pushes n u (zI u 28 (zx ((12 * (zI u 0 52)) + (zI u 11 r)))) (zL u 32 (zx ((12 * (zI u 0 52)) + (zI u 11 r))))) fun _ u11 =>
    some ((-1), u11)) := by
  unfold rf_does
  rw [zin_nI hr (by decide), zgd_t, zx_nI (show r < 2 ^ 31 by omega)]
  simp only [zlet, zgd_t]
  rw [if_neg (show ¬ nI 3 = (1 : Int32) from by decide), if_neg (show ¬ nI 3 = (2 : Int32) from by decide), if_pos (show nI 3 = (3 : Int32) from rfl)]
theorem rd_4 (n : Nat) (u : zMu) {r : Nat} (hr : r < 4000) : rf_does n u (nI 4) (nI r) = (
    zlet (zsI u 0 51 ((zI u 0 51) - 1)) fun u13 =>
    zgd (zin (zI u13 0 51) 2200) <|
    zgd (zin ((12 * (zI u 0 52)) + (zI u 11 r)) 160) <|
    zlet (zsI u13 28 (zx ((12 * (zI u 0 52)) + (zI u 11 r))) (zI u13 27 (zx (zI u13 0 51)))) fun u14 =>
    zgd (zin (zI u14 0 51) 2200) <|
    zgd (zin ((12 * (zI u 0 52)) + (zI u 11 r)) 160) <|
    zlet (zsL u14 32 (zx ((12 * (zI u 0 52)) + (zI u 11 r))) (zL u14 31 (zx (zI u14 0 51)))) fun u15 =>
    some ((-1), u15)) := by
  unfold rf_does
  rw [zin_nI hr (by decide), zgd_t, zx_nI (show r < 2 ^ 31 by omega)]
  simp only [zlet, zgd_t]
  rw [if_neg (show ¬ nI 4 = (1 : Int32) from by decide), if_neg (show ¬ nI 4 = (2 : Int32) from by decide), if_neg (show ¬ nI 4 = (3 : Int32) from by decide), if_pos (show nI 4 = (4 : Int32) from rfl)]
theorem rd_5 (n : Nat) (u : zMu) {r : Nat} (hr : r < 4000) : rf_does n u (nI 5) (nI r) = (
    zbd (rf_reads n u (zI u 11 r) (zI u 13 r)) fun r17 u18 =>
    some (r17, u18)) := by
  unfold rf_does
  rw [zin_nI hr (by decide), zgd_t, zx_nI (show r < 2 ^ 31 by omega)]
  simp only [zlet, zgd_t]
  rw [if_neg (show ¬ nI 5 = (1 : Int32) from by decide), if_neg (show ¬ nI 5 = (2 : Int32) from by decide), if_neg (show ¬ nI 5 = (3 : Int32) from by decide), if_neg (show ¬ nI 5 = (4 : Int32) from by decide), if_pos (show nI 5 = (5 : Int32) from rfl)]
theorem rd_6 (n : Nat) (u : zMu) {r : Nat} (hr : r < 4000) : rf_does n u (nI 6) (nI r) = (
    zbd (rf_puts n u (zI u 11 r) (zI u 13 r)) fun r20 u21 =>
    some (r20, u21)) := by
  unfold rf_does
  rw [zin_nI hr (by decide), zgd_t, zx_nI (show r < 2 ^ 31 by omega)]
  simp only [zlet, zgd_t]
  rw [if_neg (show ¬ nI 6 = (1 : Int32) from by decide), if_neg (show ¬ nI 6 = (2 : Int32) from by decide), if_neg (show ¬ nI 6 = (3 : Int32) from by decide), if_neg (show ¬ nI 6 = (4 : Int32) from by decide), if_neg (show ¬ nI 6 = (5 : Int32) from by decide), if_pos (show nI 6 = (6 : Int32) from rfl)]
theorem rd_7 (n : Nat) (u : zMu) {r : Nat} (hr : r < 4000) : rf_does n u (nI 7) (nI r) = (
    zbd (rf_strikes n u (zI u 11 r) (zI u 13 r)) fun r23 u24 =>
    some (r23, u24)) := by
  unfold rf_does
  rw [zin_nI hr (by decide), zgd_t, zx_nI (show r < 2 ^ 31 by omega)]
  simp only [zlet, zgd_t]
  rw [if_neg (show ¬ nI 7 = (1 : Int32) from by decide), if_neg (show ¬ nI 7 = (2 : Int32) from by decide), if_neg (show ¬ nI 7 = (3 : Int32) from by decide), if_neg (show ¬ nI 7 = (4 : Int32) from by decide), if_neg (show ¬ nI 7 = (5 : Int32) from by decide), if_neg (show ¬ nI 7 = (6 : Int32) from by decide), if_pos (show nI 7 = (7 : Int32) from rfl)]
theorem rd_8 (n : Nat) (u : zMu) {r : Nat} (hr : r < 4000) : rf_does n u (nI 8) (nI r) = (
    zgd (zin (nI r) 4000) <|
    zbd (rf_sums n u (zI u 11 r) (zI u 12 (zx (nI r))) (zI u 13 r)) fun r26 u27 =>
    some (r26, u27)) := by
  unfold rf_does
  rw [zin_nI hr (by decide), zgd_t, zx_nI (show r < 2 ^ 31 by omega)]
  simp only [zlet, zgd_t]
  rw [if_neg (show ¬ nI 8 = (1 : Int32) from by decide), if_neg (show ¬ nI 8 = (2 : Int32) from by decide), if_neg (show ¬ nI 8 = (3 : Int32) from by decide), if_neg (show ¬ nI 8 = (4 : Int32) from by decide), if_neg (show ¬ nI 8 = (5 : Int32) from by decide), if_neg (show ¬ nI 8 = (6 : Int32) from by decide), if_neg (show ¬ nI 8 = (7 : Int32) from by decide), if_pos (show nI 8 = (8 : Int32) from rfl)]
theorem rd_9 (n : Nat) (u : zMu) {r : Nat} (hr : r < 4000) : rf_does n u (nI 9) (nI r) = (
    zgd (zin ((zI u 0 51) - 1) 2200) <|
    if zI u 27 (zx ((zI u 0 51) - 1)) = 1 then
    (
      zgd (zin ((zI u 0 51) - 1) 2200) <|
      zgd (zin ((zI u 0 51) - 1) 2200) <|
      zlet (zsL u 31 (zx ((zI u 0 51) - 1)) (-(zL u 31 (zx ((zI u 0 51) - 1))))) fun u30 =>
      some ((-1), u30)
    ) else (
      zbd (rf_fails n u 1 (zI u 13 r)) fun r31 u32 =>
      some (r31, u32)
    )) := by
  unfold rf_does
  rw [zin_nI hr (by decide), zgd_t, zx_nI (show r < 2 ^ 31 by omega)]
  simp only [zlet, zgd_t]
  rw [if_neg (show ¬ nI 9 = (1 : Int32) from by decide), if_neg (show ¬ nI 9 = (2 : Int32) from by decide), if_neg (show ¬ nI 9 = (3 : Int32) from by decide), if_neg (show ¬ nI 9 = (4 : Int32) from by decide), if_neg (show ¬ nI 9 = (5 : Int32) from by decide), if_neg (show ¬ nI 9 = (6 : Int32) from by decide), if_neg (show ¬ nI 9 = (7 : Int32) from by decide), if_neg (show ¬ nI 9 = (8 : Int32) from by decide), if_pos (show nI 9 = (9 : Int32) from rfl)]
theorem rd_10 (n : Nat) (u : zMu) {r : Nat} (hr : r < 4000) : rf_does n u (nI 10) (nI r) = (
    zlet (zsI u 0 51 ((zI u 0 51) - 1)) fun u34 =>
    zgd (zin (zI u34 0 51) 2200) <|
    if zI u34 27 (zx (zI u34 0 51)) = 1 then
    (
      zgd (zin ((zI u34 0 51) - 1) 2200) <|
      if zI u34 27 (zx ((zI u34 0 51) - 1)) = 1 then
      (
        zgd (zin ((zI u34 0 51) - 1) 2200) <|
        zgd (zin (zI u34 0 51) 2200) <|
        if lg_cmp (zL u34 31 (zx ((zI u34 0 51) - 1))) (zL u34 31 (zx (zI u34 0 51))) < 0 then
        (
          zgd (zin ((zI u34 0 51) - 1) 2200) <|
          zlet (zsL u34 31 (zx ((zI u34 0 51) - 1)) 1) fun u38 =>
          some ((-1), u38)
        ) else (
          zgd (zin ((zI u34 0 51) - 1) 2200) <|
          zlet (zsL u34 31 (zx ((zI u34 0 51) - 1)) 0) fun u39 =>
          some ((-1), u39)
        )
      ) else (
        zbd (rf_fails n u34 1 (zI u 13 r)) fun r40 u41 =>
        some (r40, u41)
      )
    ) else (
      zbd (rf_fails n u34 1 (zI u 13 r)) fun r42 u43 =>
      some (r42, u43)
    )) := by
  unfold rf_does
  rw [zin_nI hr (by decide), zgd_t, zx_nI (show r < 2 ^ 31 by omega)]
  simp only [zlet, zgd_t]
  rw [if_neg (show ¬ nI 10 = (1 : Int32) from by decide), if_neg (show ¬ nI 10 = (2 : Int32) from by decide), if_neg (show ¬ nI 10 = (3 : Int32) from by decide), if_neg (show ¬ nI 10 = (4 : Int32) from by decide), if_neg (show ¬ nI 10 = (5 : Int32) from by decide), if_neg (show ¬ nI 10 = (6 : Int32) from by decide), if_neg (show ¬ nI 10 = (7 : Int32) from by decide), if_neg (show ¬ nI 10 = (8 : Int32) from by decide), if_neg (show ¬ nI 10 = (9 : Int32) from by decide), if_pos (show nI 10 = (10 : Int32) from rfl)]
theorem rd_11 (n : Nat) (u : zMu) {r : Nat} (hr : r < 4000) : rf_does n u (nI 11) (nI r) = (
    zlet (zsI u 0 51 ((zI u 0 51) - 1)) fun u45 =>
    zgd (zin (zI u45 0 51) 2200) <|
    zgd (zin ((zI u45 0 51) - 1) 2200) <|
    if zI u45 27 (zx (zI u45 0 51)) = zI u45 27 (zx ((zI u45 0 51) - 1)) then
    (
      zgd (zin (zI u45 0 51) 2200) <|
      if zI u45 27 (zx (zI u45 0 51)) = 0 then
      (
        rf_does_J508 n u45
      ) else (
        zgd (zin (zI u45 0 51) 2200) <|
        zgd (zin ((zI u45 0 51) - 1) 2200) <|
        if lg_cmp (zL u45 31 (zx (zI u45 0 51))) (zL u45 31 (zx ((zI u45 0 51) - 1))) = 0 then
        (
          rf_does_J508 n u45
        ) else (
          rf_does_J512 n u45
        )
      )
    ) else (
      rf_does_J512 n u45
    )) := by
  unfold rf_does
  rw [zin_nI hr (by decide), zgd_t, zx_nI (show r < 2 ^ 31 by omega)]
  simp only [zlet, zgd_t]
  rw [if_neg (show ¬ nI 11 = (1 : Int32) from by decide), if_neg (show ¬ nI 11 = (2 : Int32) from by decide), if_neg (show ¬ nI 11 = (3 : Int32) from by decide), if_neg (show ¬ nI 11 = (4 : Int32) from by decide), if_neg (show ¬ nI 11 = (5 : Int32) from by decide), if_neg (show ¬ nI 11 = (6 : Int32) from by decide), if_neg (show ¬ nI 11 = (7 : Int32) from by decide), if_neg (show ¬ nI 11 = (8 : Int32) from by decide), if_neg (show ¬ nI 11 = (9 : Int32) from by decide), if_neg (show ¬ nI 11 = (10 : Int32) from by decide), if_pos (show nI 11 = (11 : Int32) from rfl)]
theorem rd_12 (n : Nat) (u : zMu) {r : Nat} (hr : r < 4000) : rf_does n u (nI 12) (nI r) = (
    zbd (rf_news n u (zI u 11 r) (zI u 13 r)) fun r50 u51 =>
    some (r50, u51)) := by
  unfold rf_does
  rw [zin_nI hr (by decide), zgd_t, zx_nI (show r < 2 ^ 31 by omega)]
  simp only [zlet, zgd_t]
  rw [if_neg (show ¬ nI 12 = (1 : Int32) from by decide), if_neg (show ¬ nI 12 = (2 : Int32) from by decide), if_neg (show ¬ nI 12 = (3 : Int32) from by decide), if_neg (show ¬ nI 12 = (4 : Int32) from by decide), if_neg (show ¬ nI 12 = (5 : Int32) from by decide), if_neg (show ¬ nI 12 = (6 : Int32) from by decide), if_neg (show ¬ nI 12 = (7 : Int32) from by decide), if_neg (show ¬ nI 12 = (8 : Int32) from by decide), if_neg (show ¬ nI 12 = (9 : Int32) from by decide), if_neg (show ¬ nI 12 = (10 : Int32) from by decide), if_neg (show ¬ nI 12 = (11 : Int32) from by decide), if_pos (show nI 12 = (12 : Int32) from rfl)]
theorem rd_13 (n : Nat) (u : zMu) {r : Nat} (hr : r < 4000) : rf_does n u (nI 13) (nI r) = (
    zbd (rf_rowOf n u (zI u 13 r)) fun r53 u54 =>
    some (r53, u54)) := by
  unfold rf_does
  rw [zin_nI hr (by decide), zgd_t, zx_nI (show r < 2 ^ 31 by omega)]
  simp only [zlet, zgd_t]
  rw [if_neg (show ¬ nI 13 = (1 : Int32) from by decide), if_neg (show ¬ nI 13 = (2 : Int32) from by decide), if_neg (show ¬ nI 13 = (3 : Int32) from by decide), if_neg (show ¬ nI 13 = (4 : Int32) from by decide), if_neg (show ¬ nI 13 = (5 : Int32) from by decide), if_neg (show ¬ nI 13 = (6 : Int32) from by decide), if_neg (show ¬ nI 13 = (7 : Int32) from by decide), if_neg (show ¬ nI 13 = (8 : Int32) from by decide), if_neg (show ¬ nI 13 = (9 : Int32) from by decide), if_neg (show ¬ nI 13 = (10 : Int32) from by decide), if_neg (show ¬ nI 13 = (11 : Int32) from by decide), if_neg (show ¬ nI 13 = (12 : Int32) from by decide), if_pos (show nI 13 = (13 : Int32) from rfl)]
theorem rd_14 (n : Nat) (u : zMu) {r : Nat} (hr : r < 4000) : rf_does n u (nI 14) (nI r) = (
    zbd (rf_sizes n u (zI u 13 r)) fun r56 u57 =>
    some (r56, u57)) := by
  unfold rf_does
  rw [zin_nI hr (by decide), zgd_t, zx_nI (show r < 2 ^ 31 by omega)]
  simp only [zlet, zgd_t]
  rw [if_neg (show ¬ nI 14 = (1 : Int32) from by decide), if_neg (show ¬ nI 14 = (2 : Int32) from by decide), if_neg (show ¬ nI 14 = (3 : Int32) from by decide), if_neg (show ¬ nI 14 = (4 : Int32) from by decide), if_neg (show ¬ nI 14 = (5 : Int32) from by decide), if_neg (show ¬ nI 14 = (6 : Int32) from by decide), if_neg (show ¬ nI 14 = (7 : Int32) from by decide), if_neg (show ¬ nI 14 = (8 : Int32) from by decide), if_neg (show ¬ nI 14 = (9 : Int32) from by decide), if_neg (show ¬ nI 14 = (10 : Int32) from by decide), if_neg (show ¬ nI 14 = (11 : Int32) from by decide), if_neg (show ¬ nI 14 = (12 : Int32) from by decide), if_neg (show ¬ nI 14 = (13 : Int32) from by decide), if_pos (show nI 14 = (14 : Int32) from rfl)]
theorem rd_15 (n : Nat) (u : zMu) {r : Nat} (hr : r < 4000) : rf_does n u (nI 15) (nI r) = (
    zbd (rf_items n u (zI u 13 r)) fun r59 u60 =>
    some (r59, u60)) := by
  unfold rf_does
  rw [zin_nI hr (by decide), zgd_t, zx_nI (show r < 2 ^ 31 by omega)]
  simp only [zlet, zgd_t]
  rw [if_neg (show ¬ nI 15 = (1 : Int32) from by decide), if_neg (show ¬ nI 15 = (2 : Int32) from by decide), if_neg (show ¬ nI 15 = (3 : Int32) from by decide), if_neg (show ¬ nI 15 = (4 : Int32) from by decide), if_neg (show ¬ nI 15 = (5 : Int32) from by decide), if_neg (show ¬ nI 15 = (6 : Int32) from by decide), if_neg (show ¬ nI 15 = (7 : Int32) from by decide), if_neg (show ¬ nI 15 = (8 : Int32) from by decide), if_neg (show ¬ nI 15 = (9 : Int32) from by decide), if_neg (show ¬ nI 15 = (10 : Int32) from by decide), if_neg (show ¬ nI 15 = (11 : Int32) from by decide), if_neg (show ¬ nI 15 = (12 : Int32) from by decide), if_neg (show ¬ nI 15 = (13 : Int32) from by decide), if_neg (show ¬ nI 15 = (14 : Int32) from by decide), if_pos (show nI 15 = (15 : Int32) from rfl)]
theorem rd_16 (n : Nat) (u : zMu) {r : Nat} (hr : r < 4000) : rf_does n u (nI 16) (nI r) = (
    zbd (rf_lays n u (zI u 13 r)) fun r62 u63 =>
    some (r62, u63)) := by
  unfold rf_does
  rw [zin_nI hr (by decide), zgd_t, zx_nI (show r < 2 ^ 31 by omega)]
  simp only [zlet, zgd_t]
  rw [if_neg (show ¬ nI 16 = (1 : Int32) from by decide), if_neg (show ¬ nI 16 = (2 : Int32) from by decide), if_neg (show ¬ nI 16 = (3 : Int32) from by decide), if_neg (show ¬ nI 16 = (4 : Int32) from by decide), if_neg (show ¬ nI 16 = (5 : Int32) from by decide), if_neg (show ¬ nI 16 = (6 : Int32) from by decide), if_neg (show ¬ nI 16 = (7 : Int32) from by decide), if_neg (show ¬ nI 16 = (8 : Int32) from by decide), if_neg (show ¬ nI 16 = (9 : Int32) from by decide), if_neg (show ¬ nI 16 = (10 : Int32) from by decide), if_neg (show ¬ nI 16 = (11 : Int32) from by decide), if_neg (show ¬ nI 16 = (12 : Int32) from by decide), if_neg (show ¬ nI 16 = (13 : Int32) from by decide), if_neg (show ¬ nI 16 = (14 : Int32) from by decide), if_neg (show ¬ nI 16 = (15 : Int32) from by decide), if_pos (show nI 16 = (16 : Int32) from rfl)]
theorem rd_18 (n : Nat) (u : zMu) {r : Nat} (hr : r < 4000) : rf_does n u (nI 18) (nI r) = (
    zlet (zsI u 0 51 ((zI u 0 51) - 1)) fun u65 =>
    if zI u65 0 60 < 200 then
    (
      zgd (zin (zI u65 0 51) 2200) <|
      zgd (zin (zI u65 0 60) 200) <|
      zlet (zsI u65 33 (zx (zI u65 0 60)) (zI u65 27 (zx (zI u65 0 51)))) fun u67 =>
      zgd (zin (zI u67 0 51) 2200) <|
      zgd (zin (zI u67 0 60) 200) <|
      zlet (zsL u67 34 (zx (zI u67 0 60)) (zL u67 31 (zx (zI u67 0 51)))) fun u68 =>
      zlet (zsI u68 0 60 ((zI u68 0 60) + 1)) fun u69 =>
      some ((-1), u69)
    ) else (
      zlet (zsI u65 0 60 ((zI u65 0 60) + 1)) fun u70 =>
      some ((-1), u70)
    )) := by
  unfold rf_does
  rw [zin_nI hr (by decide), zgd_t, zx_nI (show r < 2 ^ 31 by omega)]
  simp only [zlet, zgd_t]
  rw [if_neg (show ¬ nI 18 = (1 : Int32) from by decide), if_neg (show ¬ nI 18 = (2 : Int32) from by decide), if_neg (show ¬ nI 18 = (3 : Int32) from by decide), if_neg (show ¬ nI 18 = (4 : Int32) from by decide), if_neg (show ¬ nI 18 = (5 : Int32) from by decide), if_neg (show ¬ nI 18 = (6 : Int32) from by decide), if_neg (show ¬ nI 18 = (7 : Int32) from by decide), if_neg (show ¬ nI 18 = (8 : Int32) from by decide), if_neg (show ¬ nI 18 = (9 : Int32) from by decide), if_neg (show ¬ nI 18 = (10 : Int32) from by decide), if_neg (show ¬ nI 18 = (11 : Int32) from by decide), if_neg (show ¬ nI 18 = (12 : Int32) from by decide), if_neg (show ¬ nI 18 = (13 : Int32) from by decide), if_neg (show ¬ nI 18 = (14 : Int32) from by decide), if_neg (show ¬ nI 18 = (15 : Int32) from by decide), if_neg (show ¬ nI 18 = (16 : Int32) from by decide), if_pos (show nI 18 = (18 : Int32) from rfl)]
theorem rd_20 (n : Nat) (u : zMu) {r : Nat} (hr : r < 4000) : rf_does n u (nI 20) (nI r) = (
    zlet (zsI u 0 51 ((zI u 0 51) - 1)) fun u72 =>
    some ((-1), u72)) := by
  unfold rf_does
  rw [zin_nI hr (by decide), zgd_t, zx_nI (show r < 2 ^ 31 by omega)]
  simp only [zlet, zgd_t]
  rw [if_neg (show ¬ nI 20 = (1 : Int32) from by decide), if_neg (show ¬ nI 20 = (2 : Int32) from by decide), if_neg (show ¬ nI 20 = (3 : Int32) from by decide), if_neg (show ¬ nI 20 = (4 : Int32) from by decide), if_neg (show ¬ nI 20 = (5 : Int32) from by decide), if_neg (show ¬ nI 20 = (6 : Int32) from by decide), if_neg (show ¬ nI 20 = (7 : Int32) from by decide), if_neg (show ¬ nI 20 = (8 : Int32) from by decide), if_neg (show ¬ nI 20 = (9 : Int32) from by decide), if_neg (show ¬ nI 20 = (10 : Int32) from by decide), if_neg (show ¬ nI 20 = (11 : Int32) from by decide), if_neg (show ¬ nI 20 = (12 : Int32) from by decide), if_neg (show ¬ nI 20 = (13 : Int32) from by decide), if_neg (show ¬ nI 20 = (14 : Int32) from by decide), if_neg (show ¬ nI 20 = (15 : Int32) from by decide), if_neg (show ¬ nI 20 = (16 : Int32) from by decide), if_neg (show ¬ nI 20 = (18 : Int32) from by decide), if_pos (show nI 20 = (20 : Int32) from rfl)]
