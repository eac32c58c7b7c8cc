/-! THE CLASS'S METHODS AS MODELS (printed by wip/gen/cls.py) -/
def ce_fill_L5 (n c : Nat) : Nat → zMu → Int32 → Int32 → Int32 → Option (Unit × zMu)
  | 0, _, _, _, _ => none
  | m + 1, u, x1, x2, x3 =>
    if x2 < x3 then
    (
      zgd (zin x2 (zlen ce_tb u c)) <|
      zlet (zsI u c (zx x2) x1) fun u2 =>
      zlet (x2 + 1) fun v3 =>
      ce_fill_L5 n c m u2 x1 v3 x3
    ) else (
      some ((), u)
    )
def ce_fill (n c : Nat) (u : zMu) (x1 : Int32) : Option (Unit × zMu) :=
  zlet (Int32.ofNat (zlen ce_tb u c)) fun v1 =>
  ce_fill_L5 n c n u x1 0 v1
def ce_P_begin (n : Nat) (p : Nat) (u : zMu) (x1 : Int32) : Option (Unit × zMu) :=
  zlet (zsI u p 3 0) fun u1 =>
  zlet (zsI u1 p 8 0) fun u2 =>
  zlet (zsI u2 p 12 0) fun u3 =>
  zlet (zsI u3 p 13 0) fun u4 =>
  zlet (zsI u4 p 14 0) fun u5 =>
  zlet (zsI u5 p 15 x1) fun u6 =>
  some ((), u6)
def ce_C_begin (n : Nat) (p2 : Nat) (u : zMu) (x1 : Int32) : Option (Unit × zMu) :=
  zlet (zsR u 2 1 p2) fun u1 =>
  zgd (zpr (zR u1 2 1)) <|
  zlet (zR u1 2 1) fun p3 =>
  zbd (ce_P_begin n p3 u1 x1) fun _ u5 =>
  zlet (zsI u5 2 2 0) fun u6 =>
  zlet (zsI u6 2 3 0) fun u7 =>
  zlet (zsI u7 2 4 (-1)) fun u8 =>
  zlet (zsI u8 2 5 0) fun u9 =>
  zlet (zsI u9 2 12 0) fun u10 =>
  some ((), u10)
def ce_X_isLetter (n : Nat) (u : zMu) (x0 : Int32) : Option (Int32 × zMu) :=
  if x0 < 97 then
  (
    some (0, u)
  ) else (
    if 122 < x0 then
    (
      some (0, u)
    ) else (
      some (1, u)
    )
  )
def ce_X_isDigit (n : Nat) (u : zMu) (x0 : Int32) : Option (Int32 × zMu) :=
  if x0 < 48 then
  (
    some (0, u)
  ) else (
    if 57 < x0 then
    (
      some (0, u)
    ) else (
      some (1, u)
    )
  )
def ce_X_kindOf_L2 (n : Nat) : Nat → zMu → Int64 → Int32 → Option (Int32 × zMu)
  | 0, _, _, _ => none
  | m + 1, u, x1, x3 =>
    if x3 < 12 then
    (
      zgd (zin x3 12) <|
      if lg_cmp (zL u 8 (zx x3)) x1 = 0 then
      (
        some (300 + x3, u)
      ) else (
        zlet (x3 + 1) fun v3 =>
        ce_X_kindOf_L2 n m u x1 v3
      )
    ) else (
      some (259, u)
    )
def ce_X_kindOf (n : Nat) (u : zMu) (x1 : Int64) : Option (Int32 × zMu) :=
  ce_X_kindOf_L2 n n u x1 0
def ce_X_add (n : Nat) (u : zMu) (x1 : Int32) (x2 : Int32) (x3 : Int64) : Option (Unit × zMu) :=
  if zI u 7 4 < 1501 then
  (
    zgd (zin (zI u 7 4) 1501) <|
    zlet (zsI u 9 (zx (zI u 7 4)) (vp_nar .short (x1.toInt16.toInt32))) fun u2 =>
    zgd (zin (zI u2 7 4) 1501) <|
    zlet (zsI u2 10 (zx (zI u2 7 4)) (vp_nar .short (x2.toInt16.toInt32))) fun u3 =>
    zgd (zin (zI u3 7 4) 1501) <|
    zlet (zsL u3 11 (zx (zI u3 7 4)) x3) fun u4 =>
    zlet (zsI u4 7 4 ((zI u4 7 4) + 1)) fun u5 =>
    some ((), u5)
  ) else (
    some ((), u)
  )
def ce_X_takeWord_J65 (n : Nat) (u : zMu) (x3 : Int32) (x4 : Int32) (x5 : Int64) : Option (Int32 × zMu) :=
  if 8 < x4 - x3 then
  (
    zbd (ce_X_add n u 257 x3 x5) fun _ u3 =>
    some (x4, u3)
  ) else (
    zbd (ce_X_kindOf n u x5) fun r4 u5 =>
    zbd (ce_X_add n u5 r4 x3 x5) fun _ u7 =>
    some (x4, u7)
  )
def ce_X_takeWord_J32 (n : Nat) (k6 : zMu → Int32 → Int32 → Int32 → Int64 → Option (Int32 × zMu)) (u : zMu) (x2 : Int32) (x3 : Int32) (x4 : Int32) (x5 : Int64) : Option (Int32 × zMu) :=
  if x4 - x3 < 8 then
  (
    zgd (zin x4 1500) <|
    zlet (x5 ||| (((zI u 1 (zx x4)).toInt64) <<< ((8 * (x4 - x3)).toInt64 &&& 63))) fun v2 =>
    zlet (x4 + 1) fun v3 =>
    k6 u x2 x3 v3 v2
  ) else (
    zlet (x4 + 1) fun v4 =>
    k6 u x2 x3 v4 x5
  )
def ce_X_takeWord_L6 (n : Nat) : Nat → zMu → Int32 → Int32 → Int32 → Int64 → Option (Int32 × zMu)
  | 0, _, _, _, _, _ => none
  | m + 1, u, x2, x3, x4, x5 =>
    if x4 < x2 then
    (
      zgd (zin x4 1500) <|
      zbd (ce_X_isLetter n u (zI u 1 (zx x4))) fun r2 u3 =>
      if r2 = 0 then
      (
        zgd (zin x4 1500) <|
        zbd (ce_X_isDigit n u3 (zI u3 1 (zx x4))) fun r5 u6 =>
        if r5 = 0 then
        (
          ce_X_takeWord_J65 n u6 x3 x4 x5
        ) else (
          ce_X_takeWord_J32 n (ce_X_takeWord_L6 n m) u6 x2 x3 x4 x5
        )
      ) else (
        ce_X_takeWord_J32 n (ce_X_takeWord_L6 n m) u3 x2 x3 x4 x5
      )
    ) else (
      ce_X_takeWord_J65 n u x3 x4 x5
    )
def ce_X_takeWord (n : Nat) (u : zMu) (x2 : Int32) (x3 : Int32) : Option (Int32 × zMu) :=
  ce_X_takeWord_L6 n n u x2 x3 x3 0
def ce_X_takeNumber_J77 (n : Nat) (u : zMu) (x3 : Int32) (x4 : Int32) (x5 : Int64) (s0 : Int32) : Option (Int32 × zMu) :=
  if s0 = 0 then
  (
    zbd (ce_X_add n u 257 x3 x5) fun _ u3 =>
    some (x4, u3)
  ) else (
    zbd (ce_X_add n u 258 x3 x5) fun _ u5 =>
    some (x4, u5)
  )
def ce_X_takeNumber_J76 (n : Nat) (u : zMu) (x3 : Int32) (x4 : Int32) (x5 : Int64) : Option (Int32 × zMu) :=
  ce_X_takeNumber_J77 n u x3 x4 x5 0
def ce_X_takeNumber_J54 (n : Nat) (u : zMu) (x3 : Int32) (x4 : Int32) (x5 : Int64) : Option (Int32 × zMu) :=
  if 9 < x4 - x3 then
  (
    ce_X_takeNumber_J76 n u x3 x4 x5
  ) else (
    if 0 < lg_cmp x5 536870911 then
    (
      ce_X_takeNumber_J76 n u x3 x4 x5
    ) else (
      ce_X_takeNumber_J77 n u x3 x4 x5 1
    )
  )
def ce_X_takeNumber_L6 (n : Nat) : Nat → zMu → Int32 → Int32 → Int32 → Int64 → Option (Int32 × zMu)
  | 0, _, _, _, _, _ => none
  | m + 1, u, x2, x3, x4, x5 =>
    if x4 < x2 then
    (
      zgd (zin x4 1500) <|
      zbd (ce_X_isDigit n u (zI u 1 (zx x4))) fun r2 u3 =>
      if r2 = 0 then
      (
        ce_X_takeNumber_J54 n u3 x3 x4 x5
      ) else (
        if x4 - x3 < 9 then
        (
          zgd (zin x4 1500) <|
          zlet ((x5 * 10) + (((zI u3 1 (zx x4)) - 48).toInt64)) fun v6 =>
          zlet (x4 + 1) fun v7 =>
          ce_X_takeNumber_L6 n m u3 x2 x3 v7 v6
        ) else (
          zlet (x4 + 1) fun v8 =>
          ce_X_takeNumber_L6 n m u3 x2 x3 v8 x5
        )
      )
    ) else (
      ce_X_takeNumber_J54 n u x3 x4 x5
    )
def ce_X_takeNumber (n : Nat) (u : zMu) (x2 : Int32) (x3 : Int32) : Option (Int32 × zMu) :=
  ce_X_takeNumber_L6 n n u x2 x3 x3 0
def ce_X_takeSign_J47 (n : Nat) (u : zMu) (x3 : Int32) (x4 : Int32) : Option (Int32 × zMu) :=
  zbd (js_indexOf1 n 12 u x4) fun r1 u2 =>
  if r1 < 0 then
  (
    zbd (ce_X_add n u2 257 x3 0) fun _ u5 =>
    some (x3 + 1, u5)
  ) else (
    zbd (ce_X_add n u2 x4 x3 0) fun _ u7 =>
    some (x3 + 1, u7)
  )
def ce_X_takeSign (n : Nat) (u : zMu) (x2 : Int32) (x3 : Int32) : Option (Int32 × zMu) :=
  zgd (zin x3 1500) <|
  zlet ((((zI u 1 (zx x3)) &&& 255).toUInt32 % 65536).toInt32) fun v1 =>
  if v1 = 61 then
  (
    if x3 + 1 < x2 then
    (
      zgd (zin (x3 + 1) 1500) <|
      if zI u 1 (zx (x3 + 1)) = 61 then
      (
        zbd (ce_X_add n u 260 x3 0) fun _ u6 =>
        some (x3 + 2, u6)
      ) else (
        ce_X_takeSign_J47 n u x3 v1
      )
    ) else (
      ce_X_takeSign_J47 n u x3 v1
    )
  ) else (
    ce_X_takeSign_J47 n u x3 v1
  )
def ce_X_advance (n : Nat) (u : zMu) : Option (Unit × zMu) :=
  if (zI u 7 5) + 1 < zI u 7 4 then
  (
    zlet (zsI u 7 5 ((zI u 7 5) + 1)) fun u2 =>
    zgd (zin (zI u2 7 5) 1501) <|
    zlet (zsI u2 7 6 (zI u2 9 (zx (zI u2 7 5)))) fun u3 =>
    zgd (zin (zI u3 7 5) 1501) <|
    zlet (zsI u3 7 7 (zI u3 10 (zx (zI u3 7 5)))) fun u4 =>
    zgd (zin (zI u4 7 5) 1501) <|
    zlet (zsL u4 7 8 (zL u4 11 (zx (zI u4 7 5)))) fun u5 =>
    some ((), u5)
  ) else (
    some ((), u)
  )
def ce_X_begin_J99 (n : Nat) (u : zMu) (x2 : Int32) : Option (Unit × zMu) :=
  zbd (ce_X_add n u 256 x2 0) fun _ u2 =>
  zlet (zsI u2 7 5 (-1)) fun u3 =>
  zbd (ce_X_advance n u3) fun _ u5 =>
  some ((), u5)
def ce_X_begin_L10 (n : Nat) : Nat → zMu → Int32 → Int32 → Int32 → Option (Unit × zMu)
  | 0, _, _, _, _ => none
  | m + 1, u, x2, x3, x4 =>
    if x4 < 1500 then
    (
      if x3 < x2 then
      (
        zgd (zin x3 1500) <|
        if zI u 1 (zx x3) = 32 then
        (
          zlet (x3 + 1) fun v4 =>
          zlet (x4 + 1) fun v5 =>
          ce_X_begin_L10 n m u x2 v4 v5
        ) else (
          zgd (zin x3 1500) <|
          if zI u 1 (zx x3) = 10 then
          (
            zlet (x3 + 1) fun v7 =>
            zlet (x4 + 1) fun v8 =>
            ce_X_begin_L10 n m u x2 v7 v8
          ) else (
            zgd (zin x3 1500) <|
            zbd (ce_X_isLetter n u (zI u 1 (zx x3))) fun r9 u10 =>
            if r9 = 0 then
            (
              zgd (zin x3 1500) <|
              zbd (ce_X_isDigit n u10 (zI u10 1 (zx x3))) fun r12 u13 =>
              if r12 = 0 then
              (
                zbd (ce_X_takeSign n u13 x2 x3) fun r15 u16 =>
                zlet (x4 + 1) fun v17 =>
                ce_X_begin_L10 n m u16 x2 r15 v17
              ) else (
                zbd (ce_X_takeNumber n u13 x2 x3) fun r18 u19 =>
                zlet (x4 + 1) fun v20 =>
                ce_X_begin_L10 n m u19 x2 r18 v20
              )
            ) else (
              zbd (ce_X_takeWord n u10 x2 x3) fun r21 u22 =>
              zlet (x4 + 1) fun v23 =>
              ce_X_begin_L10 n m u22 x2 r21 v23
            )
          )
        )
      ) else (
        ce_X_begin_J99 n u x2
      )
    ) else (
      ce_X_begin_J99 n u x2
    )
def ce_X_begin (n : Nat) (u : zMu) (x2 : Int32) : Option (Unit × zMu) :=
  zlet (zsI u 7 4 0) fun u1 =>
  ce_X_begin_L10 n n u1 x2 0 0
def ce_C_refuse (n : Nat) (u : zMu) : Option (Unit × zMu) :=
  if zI u 2 2 = 0 then
  (
    zlet (zsI u 2 2 1) fun u2 =>
    zlet (zsI u2 2 3 1) fun u3 =>
    zlet (zsI u3 2 4 (zI u3 7 7)) fun u4 =>
    zlet (zsI u4 7 6 256) fun u5 =>
    some ((), u5)
  ) else (
    zlet (zsI u 7 6 256) fun u6 =>
    some ((), u6)
  )
def ce_P_fnNamed_L2 (n : Nat) (p : Nat) : Nat → zMu → Int64 → Int32 → Option (Int32 × zMu)
  | 0, _, _, _ => none
  | m + 1, u, x1, x3 =>
    if x3 < zI u p 12 then
    (
      zgd (zin x3 8) <|
      if lg_cmp (zL u (p + 8) (zx x3)) x1 = 0 then
      (
        some (x3, u)
      ) else (
        zlet (x3 + 1) fun v3 =>
        ce_P_fnNamed_L2 n p m u x1 v3
      )
    ) else (
      some ((-1), u)
    )
def ce_P_fnNamed (n : Nat) (p : Nat) (u : zMu) (x1 : Int64) : Option (Int32 × zMu) :=
  ce_P_fnNamed_L2 n p n u x1 0
def ce_C_note_J28 (n : Nat) (u : zMu) (x1 : Int32) (x2 : Int32) (s0 : Int32) : Option (Unit × zMu) :=
  if s0 = 0 then
  (
    if x2 = zI u 2 4 then
    (
      if x1 < zI u 2 3 then
      (
        zlet (zsI u 2 3 x1) fun u4 =>
        zlet (zsI u4 2 4 x2) fun u5 =>
        some ((), u5)
      ) else (
        some ((), u)
      )
    ) else (
      some ((), u)
    )
  ) else (
    zlet (zsI u 2 3 x1) fun u6 =>
    zlet (zsI u6 2 4 x2) fun u7 =>
    some ((), u7)
  )
def ce_C_note_J23 (n : Nat) (u : zMu) (x1 : Int32) (x2 : Int32) : Option (Unit × zMu) :=
  ce_C_note_J28 n u x1 x2 1
def ce_C_note (n : Nat) (u : zMu) (x1 : Int32) (x2 : Int32) : Option (Unit × zMu) :=
  if zI u 2 2 = 0 then
  (
    if zI u 2 3 = 0 then
    (
      ce_C_note_J23 n u x1 x2
    ) else (
      if x2 < zI u 2 4 then
      (
        ce_C_note_J23 n u x1 x2
      ) else (
        ce_C_note_J28 n u x1 x2 0
      )
    )
  ) else (
    some ((), u)
  )
def ce_P_addFn (n : Nat) (p : Nat) (u : zMu) (x1 : Int64) : Option (Int32 × zMu) :=
  if zI u p 12 < 8 then
  (
    zgd (zin (zI u p 12) 8) <|
    zlet (zsL u (p + 8) (zx (zI u p 12)) x1) fun u2 =>
    zgd (zin (zI u2 p 12) 8) <|
    zlet (zsI u2 (p + 9) (zx (zI u2 p 12)) (zI u2 p 3)) fun u3 =>
    zgd (zin (zI u3 p 12) 8) <|
    zlet (zsI u3 (p + 10) (zx (zI u3 p 12)) 0) fun u4 =>
    zlet (zI u4 p 12) fun v5 =>
    zlet (zsI u4 p 12 (v5 + 1)) fun u6 =>
    some (v5, u6)
  ) else (
    some ((-1), u)
  )
def ce_C_opens (n : Nat) (u : zMu) (x1 : Int32) : Option (Unit × zMu) :=
  if zI u 7 6 = x1 then
  (
    if zI u 2 5 < 8 then
    (
      zlet (zsI u 2 5 ((zI u 2 5) + 1)) fun u3 =>
      zbd (ce_X_advance n u3) fun _ u5 =>
      some ((), u5)
    ) else (
      zbd (ce_C_refuse n u) fun _ u7 =>
      some ((), u7)
    )
  ) else (
    zbd (ce_C_refuse n u) fun _ u9 =>
    some ((), u9)
  )
def ce_C_variableNamed_L2 (n : Nat) : Nat → zMu → Int64 → Int32 → Option (Int32 × zMu)
  | 0, _, _, _ => none
  | m + 1, u, x1, x3 =>
    if x3 < zI u 2 8 then
    (
      zgd (zin x3 12) <|
      if lg_cmp (zL u 3 (zx x3)) x1 = 0 then
      (
        some (x3, u)
      ) else (
        zlet (x3 + 1) fun v3 =>
        ce_C_variableNamed_L2 n m u x1 v3
      )
    ) else (
      some ((-1), u)
    )
def ce_C_variableNamed (n : Nat) (u : zMu) (x1 : Int64) : Option (Int32 × zMu) :=
  ce_C_variableNamed_L2 n n u x1 0
def ce_C_addVariable (n : Nat) (u : zMu) (x1 : Int64) (x3 : Int32) : Option (Int32 × zMu) :=
  if zI u 2 8 < 12 then
  (
    zgd (zin (zI u 2 8) 12) <|
    zlet (zsL u 3 (zx (zI u 2 8)) x1) fun u2 =>
    zlet (zI u2 2 8) fun v3 =>
    zlet (zsI u2 2 8 (v3 + 1)) fun u4 =>
    some (v3, u4)
  ) else (
    zbd (ce_C_note n u 3 x3) fun _ u6 =>
    some (0, u6)
  )
def ce_P_isFn (n : Nat) (p : Nat) (u : zMu) (x1 : Int32) : Option (Int32 × zMu) :=
  if x1 < 0 then
  (
    some (0, u)
  ) else (
    if x1 < zI u p 12 then
    (
      some (1, u)
    ) else (
      some (0, u)
    )
  )
def ce_P_addName (n : Nat) (p : Nat) (u : zMu) (x1 : Int32) : Option (Unit × zMu) :=
  zbd (ce_P_isFn n p u x1) fun r1 u2 =>
  if r1 = 0 then
  (
    some ((), u2)
  ) else (
    zgd (zin x1 8) <|
    zgd (zin x1 8) <|
    zlet (zsI u2 (p + 10) (zx x1) ((zI u2 (p + 10) (zx x1)) + 1)) fun u4 =>
    some ((), u4)
  )
def ce_C_takes (n : Nat) (u : zMu) (x1 : Int32) : Option (Int32 × zMu) :=
  if zI u 7 6 = x1 then
  (
    zbd (ce_X_advance n u) fun _ u3 =>
    some (1, u3)
  ) else (
    some (0, u)
  )
def ce_C_closes (n : Nat) (u : zMu) (x1 : Int32) : Option (Unit × zMu) :=
  if zI u 7 6 = x1 then
  (
    zbd (ce_X_advance n u) fun _ u3 =>
    zlet (zsI u3 2 5 ((zI u3 2 5) - 1)) fun u4 =>
    some ((), u4)
  ) else (
    zbd (ce_C_refuse n u) fun _ u6 =>
    zlet (zsI u6 2 5 ((zI u6 2 5) - 1)) fun u7 =>
    some ((), u7)
  )
def ce_C_compileNames_J85 (n : Nat) (k26 : zMu → Int32 → Int32 → Option (Unit × zMu)) (u : zMu) (x2 : Int32) : Option (Unit × zMu) :=
  zbd (ce_C_addVariable n u (zL u 7 8) (zI u 7 7)) fun r1 u2 =>
  zgd (zpr (zR u2 2 1)) <|
  zlet (zR u2 2 1) fun p3 =>
  zbd (ce_P_addName n p3 u2 (zI u2 2 6)) fun _ u5 =>
  zbd (ce_X_advance n u5) fun _ u7 =>
  zbd (ce_C_takes n u7 44) fun r8 u9 =>
  zlet (x2 + 1) fun v10 =>
  k26 u9 r8 v10
def ce_C_compileNames_L26 (n : Nat) : Nat → zMu → Int32 → Int32 → Option (Unit × zMu)
  | 0, _, _, _ => none
  | m + 1, u, x1, x2 =>
    if 4 < x2 then
    (
      zbd (ce_C_closes n u 41) fun _ u3 =>
      some ((), u3)
    ) else (
      if x1 = 0 then
      (
        zbd (ce_C_closes n u 41) fun _ u6 =>
        some ((), u6)
      ) else (
        if x2 = 4 then
        (
          zbd (ce_C_refuse n u) fun _ u9 =>
          some ((), u9)
        ) else (
          if zI u 7 6 = 259 then
          (
            zbd (ce_C_variableNamed n u (zL u 7 8)) fun r11 u12 =>
            if r11 = (-1) then
            (
              ce_C_compileNames_J85 n (ce_C_compileNames_L26 n m) u12 x2
            ) else (
              zbd (ce_C_note n u12 3 (zI u12 7 7)) fun _ u15 =>
              ce_C_compileNames_J85 n (ce_C_compileNames_L26 n m) u15 x2
            )
          ) else (
            zbd (ce_C_refuse n u) fun _ u17 =>
            some ((), u17)
          )
        )
      )
    )
def ce_C_compileNames (n : Nat) (u : zMu) : Option (Unit × zMu) :=
  zbd (ce_C_opens n u 40) fun _ u2 =>
  if zI u2 7 6 = 41 then
  (
    ce_C_compileNames_L26 n n u2 0 0
  ) else (
    ce_C_compileNames_L26 n n u2 1 0
  )
def ce_C_compileHead_J72 (n : Nat) (u : zMu) : Option (Unit × zMu) :=
  zgd (zpr (zR u 2 1)) <|
  zlet (zR u 2 1) fun p1 =>
  zbd (ce_P_addFn n p1 u (zL u 7 8)) fun r2 u3 =>
  zlet (zsI u3 2 6 r2) fun u4 =>
  zlet (zsI u4 2 8 0) fun u5 =>
  zbd (ce_X_advance n u5) fun _ u7 =>
  zbd (ce_C_compileNames n u7) fun _ u9 =>
  some ((), u9)
def ce_C_compileHead (n : Nat) (u : zMu) : Option (Unit × zMu) :=
  zgd (zpr (zR u 2 1)) <|
  zlet (zR u 2 1) fun p1 =>
  if zI u p1 12 = 8 then
  (
    zbd (ce_C_refuse n u) fun _ u4 =>
    some ((), u4)
  ) else (
    zbd (ce_X_advance n u) fun _ u6 =>
    if zI u6 7 6 = 259 then
    (
      zgd (zpr (zR u6 2 1)) <|
      zlet (zR u6 2 1) fun p8 =>
      zbd (ce_P_fnNamed n p8 u6 (zL u6 7 8)) fun r9 u10 =>
      if r9 = (-1) then
      (
        ce_C_compileHead_J72 n u10
      ) else (
        zbd (ce_C_note n u10 2 (zI u10 7 7)) fun _ u13 =>
        ce_C_compileHead_J72 n u13
      )
    ) else (
      zbd (ce_C_refuse n u6) fun _ u15 =>
      some ((), u15)
    )
  )
def ce_P_emit (n : Nat) (p : Nat) (u : zMu) (x1 : Int32) (x2 : Int32) (x3 : Int32) : Option (Int32 × zMu) :=
  if zI u p 3 < 2400 then
  (
    zgd (zin (zI u p 3) 2400) <|
    zlet (zsI u (p + 1) (zx (zI u p 3)) (vp_nar .byte (x1.toInt8.toInt32))) fun u2 =>
    zgd (zin (zI u2 p 3) 2400) <|
    zlet (zsI u2 (p + 2) (zx (zI u2 p 3)) x2) fun u3 =>
    zgd (zin (zI u3 p 3) 2400) <|
    zlet (zsI u3 (p + 3) (zx (zI u3 p 3)) (vp_nar .short (x3.toInt16.toInt32))) fun u4 =>
    zlet (zI u4 p 3) fun v5 =>
    zlet (zsI u4 p 3 (v5 + 1)) fun u6 =>
    some (v5, u6)
  ) else (
    some (2399, u)
  )
def ce_C_expect (n : Nat) (u : zMu) (x1 : Int32) : Option (Unit × zMu) :=
  if zI u 7 6 = x1 then
  (
    zbd (ce_X_advance n u) fun _ u3 =>
    some ((), u3)
  ) else (
    zbd (ce_C_refuse n u) fun _ u5 =>
    some ((), u5)
  )
def ce_C_keepCall (n : Nat) (u : zMu) (x1 : Int64) (x3 : Int32) (x4 : Int32) : Option (Unit × zMu) :=
  if zI u 2 12 < 500 then
  (
    zgd (zin (zI u 2 12) 500) <|
    zlet (zsL u 4 (zx (zI u 2 12)) x1) fun u2 =>
    zgd (zin (zI u2 2 12) 500) <|
    zlet (zsI u2 5 (zx (zI u2 2 12)) x3) fun u3 =>
    zgd (zin (zI u3 2 12) 500) <|
    zlet (zsI u3 6 (zx (zI u3 2 12)) x4) fun u4 =>
    zlet (zsI u4 2 12 ((zI u4 2 12) + 1)) fun u5 =>
    some ((), u5)
  ) else (
    some ((), u)
  )
def ce_P_addSite (n : Nat) (p : Nat) (u : zMu) (x1 : Int32) (x2 : Int32) (x3 : Int32) (x4 : Int64) : Option (Int32 × zMu) :=
  if zI u p 8 < 80 then
  (
    zgd (zin (zI u p 8) 80) <|
    zlet (zsI u (p + 4) (zx (zI u p 8)) x1) fun u2 =>
    zgd (zin (zI u2 p 8) 80) <|
    zlet (zsI u2 (p + 5) (zx (zI u2 p 8)) x2) fun u3 =>
    zgd (zin (zI u3 p 8) 80) <|
    zlet (zsI u3 (p + 6) (zx (zI u3 p 8)) x3) fun u4 =>
    zgd (zin (zI u4 p 8) 80) <|
    zlet (zsL u4 (p + 7) (zx (zI u4 p 8)) x4) fun u5 =>
    zlet (zI u5 p 8) fun v6 =>
    zlet (zsI u5 p 8 (v6 + 1)) fun u7 =>
    some (v6, u7)
  ) else (
    some ((-1), u)
  )
def ce_C_addSite (n : Nat) (u : zMu) (x1 : Int32) (x2 : Int32) (x3 : Int64) : Option (Int32 × zMu) :=
  zgd (zpr (zR u 2 1)) <|
  zlet (zR u 2 1) fun p1 =>
  zbd (ce_P_addSite n p1 u x1 x2 (zI u 2 6) x3) fun r2 u3 =>
  if r2 = (-1) then
  (
    zbd (ce_C_note n u3 3 x2) fun _ u6 =>
    zlet (if 0 < r2 then r2 else 0) fun v7 =>
    some (v7, u6)
  ) else (
    zlet (if 0 < r2 then r2 else 0) fun v8 =>
    some (v8, u3)
  )
def ce_C_compileMember (n : Nat) (u : zMu) : Option (Int32 × zMu) :=
  zlet (zI u 7 7) fun v1 =>
  zbd (ce_X_advance n u) fun _ u3 =>
  zgd (zpr (zR u3 2 1)) <|
  zlet (zR u3 2 1) fun p4 =>
  zbd (ce_C_addSite n u3 0 v1 (zL u3 7 8)) fun r5 u6 =>
  zbd (ce_P_emit n p4 u6 13 r5 v1) fun r7 u8 =>
  zbd (ce_C_expect n u8 259) fun _ u10 =>
  some (2, u10)
def ce_C_bindsAt (n : Nat) (u : zMu) (x1 : Int32) : Option (Int32 × zMu) :=
  zlet (zI u 7 6) fun v1 =>
  if x1 = 0 then
  (
    if v1 = 60 then
    (
      some (1, u)
    ) else (
      if v1 = 260 then
      (
        some (1, u)
      ) else (
        some (0, u)
      )
    )
  ) else (
    if x1 = 1 then
    (
      if v1 = 43 then
      (
        some (1, u)
      ) else (
        if v1 = 45 then
        (
          some (1, u)
        ) else (
          some (0, u)
        )
      )
    ) else (
      if v1 = 42 then
      (
        some (1, u)
      ) else (
        some (0, u)
      )
    )
  )
def ce_C_opOf (n : Nat) (u : zMu) (x0 : Int32) : Option (Int32 × zMu) :=
  if x0 = 42 then
  (
    some (9, u)
  ) else (
  if x0 = 43 then
  (
    some (7, u)
  ) else (
  if x0 = 45 then
  (
    some (8, u)
  ) else (
  if x0 = 60 then
  (
    some (10, u)
  ) else (
    some (11, u)
  ))))
def ce_C_compileE_L20 (n : Nat) (f_C_compileE : zMu → Int32 → Option (Int32 × zMu)) (f_C_compileRest : zMu → Int32 → Option (Unit × zMu)) (f_C_compilePost : zMu → Option (Int32 × zMu)) : Nat → zMu → Int32 → Int32 → Int32 → Option (Int32 × zMu)
  | 0, _, _, _, _ => none
  | m + 1, u, x1, x2, x3 =>
    if x3 < 1500 then
    (
      zbd (ce_C_bindsAt n u x1) fun r2 u3 =>
      if r2 = 0 then
      (
        some (x2, u3)
      ) else (
        zbd (f_C_compileRest u3 x1) fun _ u6 =>
        if x1 = 0 then
        (
          some (0, u6)
        ) else (
          zlet (x3 + 1) fun v8 =>
          ce_C_compileE_L20 n f_C_compileE f_C_compileRest f_C_compilePost m u6 x1 0 v8
        )
      )
    ) else (
      some (x2, u)
    )
def ce_C_compileE_b (n : Nat) (f_C_compileE : zMu → Int32 → Option (Int32 × zMu)) (f_C_compileRest : zMu → Int32 → Option (Unit × zMu)) (f_C_compilePost : zMu → Option (Int32 × zMu)) (u : zMu) (x1 : Int32) : Option (Int32 × zMu) :=
  if x1 < 3 then
  (
    zbd (f_C_compileE u (x1 + 1)) fun r2 u3 =>
    ce_C_compileE_L20 n f_C_compileE f_C_compileRest f_C_compilePost n u3 x1 r2 0
  ) else (
    zbd (f_C_compilePost u) fun r4 u5 =>
    some (r4, u5)
  )
def ce_C_compileRest_J31 (n : Nat) (f_C_compileE : zMu → Int32 → Option (Int32 × zMu)) (u : zMu) (x1 : Int32) (x2 : Int32) (x3 : Int32) (s0 : Int32) : Option (Unit × zMu) :=
  zbd (ce_X_advance n u) fun _ u2 =>
  zbd (f_C_compileE u2 (x1 + 1)) fun r3 u4 =>
  zgd (zpr (zR u4 2 1)) <|
  zlet (zR u4 2 1) fun p5 =>
  zbd (ce_C_opOf n u4 x2) fun r6 u7 =>
  zbd (ce_P_emit n p5 u7 r6 s0 x3) fun r8 u9 =>
  some ((), u9)
def ce_C_compileRest_b (n : Nat) (f_C_compileE : zMu → Int32 → Option (Int32 × zMu)) (u : zMu) (x1 : Int32) : Option (Unit × zMu) :=
  zlet (zI u 7 6) fun v1 =>
  zlet (zI u 7 7) fun v2 =>
  if x1 = 0 then
  (
    ce_C_compileRest_J31 n f_C_compileE u x1 v1 v2 0
  ) else (
    zbd (ce_C_addSite n u 3 v2 0) fun r4 u5 =>
    ce_C_compileRest_J31 n f_C_compileE u5 x1 v1 v2 r4
  )
def ce_C_compilePost_J38 (n : Nat) (f_C_compileItem : zMu → Option (Int32 × zMu)) (f_C_compileOne : zMu → Option (Int32 × zMu)) (k7 : zMu → Int32 → Int32 → Option (Int32 × zMu)) (u : zMu) (x2 : Int32) : Option (Int32 × zMu) :=
  if zI u 7 6 = 46 then
  (
    zbd (ce_C_compileMember n u) fun r2 u3 =>
    zlet (x2 + 1) fun v4 =>
    k7 u3 r2 v4
  ) else (
    zbd (f_C_compileItem u) fun r5 u6 =>
    zlet (x2 + 1) fun v7 =>
    k7 u6 r5 v7
  )
def ce_C_compilePost_L7 (n : Nat) (f_C_compileItem : zMu → Option (Int32 × zMu)) (f_C_compileOne : zMu → Option (Int32 × zMu)) : Nat → zMu → Int32 → Int32 → Option (Int32 × zMu)
  | 0, _, _, _ => none
  | m + 1, u, x1, x2 =>
    if x2 < 1500 then
    (
      if zI u 7 6 = 46 then
      (
        ce_C_compilePost_J38 n f_C_compileItem f_C_compileOne (ce_C_compilePost_L7 n f_C_compileItem f_C_compileOne m) u x2
      ) else (
        if zI u 7 6 = 91 then
        (
          ce_C_compilePost_J38 n f_C_compileItem f_C_compileOne (ce_C_compilePost_L7 n f_C_compileItem f_C_compileOne m) u x2
        ) else (
          some (x1, u)
        )
      )
    ) else (
      some (x1, u)
    )
def ce_C_compilePost_b (n : Nat) (f_C_compileItem : zMu → Option (Int32 × zMu)) (f_C_compileOne : zMu → Option (Int32 × zMu)) (u : zMu) : Option (Int32 × zMu) :=
  zbd (f_C_compileOne u) fun r1 u2 =>
  ce_C_compilePost_L7 n f_C_compileItem f_C_compileOne n u2 r1 0
def ce_C_compileItem_b (n : Nat) (f_C_compileE : zMu → Int32 → Option (Int32 × zMu)) (u : zMu) : Option (Int32 × zMu) :=
  zlet (zI u 7 7) fun v1 =>
  zbd (ce_C_opens n u 91) fun _ u3 =>
  zbd (f_C_compileE u3 0) fun r4 u5 =>
  zbd (ce_C_closes n u5 93) fun _ u7 =>
  zgd (zpr (zR u7 2 1)) <|
  zlet (zR u7 2 1) fun p8 =>
  zbd (ce_P_emit n p8 u7 17 0 v1) fun r9 u10 =>
  some (3, u10)
def ce_C_compileOne_b (n : Nat) (f_C_compileE : zMu → Int32 → Option (Int32 × zMu)) (f_C_compileNegated : zMu → Option (Unit × zMu)) (f_C_compileMade : zMu → Int32 → Option (Unit × zMu)) (f_C_compileNamed : zMu → Option (Int32 × zMu)) (u : zMu) : Option (Int32 × zMu) :=
  zlet (zI u 7 6) fun v1 =>
  if v1 = 40 then
  (
    zbd (ce_C_opens n u 40) fun _ u3 =>
    zbd (f_C_compileE u3 0) fun r4 u5 =>
    zbd (ce_C_closes n u5 41) fun _ u7 =>
    some (0, u7)
  ) else (
  if v1 = 45 then
  (
    zbd (f_C_compileNegated u) fun _ u10 =>
    some (0, u10)
  ) else (
  if v1 = 258 then
  (
    zgd (zpr (zR u 2 1)) <|
    zlet (zR u 2 1) fun p12 =>
    zbd (ce_P_emit n p12 u 1 ((zL u 7 8).toInt32) (zI u 7 7)) fun r13 u14 =>
    zbd (ce_X_advance n u14) fun _ u16 =>
    some (0, u16)
  ) else (
  if v1 = 259 then
  (
    zbd (f_C_compileNamed u) fun r18 u19 =>
    some (r18, u19)
  ) else (
  if v1 = 308 then
  (
    zbd (f_C_compileMade u 12) fun _ u22 =>
    some (0, u22)
  ) else (
  if v1 = 309 then
  (
    zbd (f_C_compileMade u 16) fun _ u25 =>
    some (0, u25)
  ) else (
  if v1 = 310 then
  (
    zbd (f_C_compileMade u 19) fun _ u28 =>
    some (0, u28)
  ) else (
  if v1 = 311 then
  (
    zgd (zpr (zR u 2 1)) <|
    zlet (zR u 2 1) fun p30 =>
    zbd (ce_P_emit n p30 u 2 0 (zI u 7 7)) fun r31 u32 =>
    zbd (ce_X_advance n u32) fun _ u34 =>
    some (0, u34)
  ) else (
    zbd (ce_C_refuse n u) fun _ u37 =>
    some (0, u37)
  ))))))))
def ce_C_compileNegated_b (n : Nat) (f_C_compileOne : zMu → Option (Int32 × zMu)) (u : zMu) : Option (Unit × zMu) :=
  zlet (zI u 7 7) fun v1 =>
  zbd (ce_C_opens n u 45) fun _ u3 =>
  zbd (f_C_compileOne u3) fun r4 u5 =>
  zlet (zsI u5 2 5 ((zI u5 2 5) - 1)) fun u6 =>
  zgd (zpr (zR u6 2 1)) <|
  zlet (zR u6 2 1) fun p7 =>
  zbd (ce_P_emit n p7 u6 6 0 v1) fun r8 u9 =>
  some ((), u9)
def ce_C_compileMade_J59 (n : Nat) (f_C_compileE : zMu → Int32 → Option (Int32 × zMu)) (u : zMu) (x1 : Int32) (x2 : Int32) : Option (Unit × zMu) :=
  zbd (ce_C_closes n u 41) fun _ u2 =>
  zgd (zpr (zR u2 2 1)) <|
  zlet (zR u2 2 1) fun p3 =>
  zbd (ce_P_emit n p3 u2 x1 0 x2) fun r4 u5 =>
  some ((), u5)
def ce_C_compileMade_J53 (n : Nat) (f_C_compileE : zMu → Int32 → Option (Int32 × zMu)) (u : zMu) (x1 : Int32) (x2 : Int32) : Option (Unit × zMu) :=
  zbd (f_C_compileE u 0) fun r1 u2 =>
  ce_C_compileMade_J59 n f_C_compileE u2 x1 x2
def ce_C_compileMade_b (n : Nat) (f_C_compileE : zMu → Int32 → Option (Int32 × zMu)) (u : zMu) (x1 : Int32) : Option (Unit × zMu) :=
  zlet (zI u 7 7) fun v1 =>
  zbd (ce_X_advance n u) fun _ u3 =>
  zbd (ce_C_opens n u3 40) fun _ u5 =>
  if x1 = 12 then
  (
    if zI u5 7 6 = 41 then
    (
      zgd (zpr (zR u5 2 1)) <|
      zlet (zR u5 2 1) fun p8 =>
      zbd (ce_P_emit n p8 u5 2 0 v1) fun r9 u10 =>
      ce_C_compileMade_J59 n f_C_compileE u10 x1 v1
    ) else (
      ce_C_compileMade_J53 n f_C_compileE u5 x1 v1
    )
  ) else (
    ce_C_compileMade_J53 n f_C_compileE u5 x1 v1
  )
def ce_C_compileNamed_J80 (n : Nat) (f_C_compileArguments : zMu → Option (Int32 × zMu)) (u : zMu) (x3 : Int32) (x4 : Int32) : Option (Int32 × zMu) :=
  zgd (zpr (zR u 2 1)) <|
  zlet (zR u 2 1) fun p1 =>
  zlet (if 0 < x4 then x4 else 0) fun v2 =>
  zbd (ce_P_emit n p1 u 3 v2 x3) fun r3 u4 =>
  some (1, u4)
def ce_C_compileNamed_b (n : Nat) (f_C_compileArguments : zMu → Option (Int32 × zMu)) (u : zMu) : Option (Int32 × zMu) :=
  zlet (zL u 7 8) fun v1 =>
  zlet (zI u 7 7) fun v2 =>
  zbd (ce_X_advance n u) fun _ u4 =>
  if zI u4 7 6 = 40 then
  (
    zbd (f_C_compileArguments u4) fun r6 u7 =>
    zgd (zpr (zR u7 2 1)) <|
    zlet (zR u7 2 1) fun p8 =>
    zbd (ce_P_emit n p8 u7 20 0 v2) fun r9 u10 =>
    zbd (ce_C_keepCall n u10 v1 r6 r9) fun _ u12 =>
    some (0, u12)
  ) else (
    zbd (ce_C_variableNamed n u4 v1) fun r13 u14 =>
    if r13 = (-1) then
    (
      zbd (ce_C_note n u14 2 v2) fun _ u17 =>
      ce_C_compileNamed_J80 n f_C_compileArguments u17 v2 r13
    ) else (
      ce_C_compileNamed_J80 n f_C_compileArguments u14 v2 r13
    )
  )
def ce_C_compileArguments_L26 (n : Nat) (f_C_compileE : zMu → Int32 → Option (Int32 × zMu)) : Nat → zMu → Int32 → Int32 → Option (Int32 × zMu)
  | 0, _, _, _ => none
  | m + 1, u, x1, x2 =>
    if 4 < x1 then
    (
      zbd (ce_C_closes n u 41) fun _ u3 =>
      some (x1, u3)
    ) else (
      if x2 = 0 then
      (
        zbd (ce_C_closes n u 41) fun _ u6 =>
        some (x1, u6)
      ) else (
        if x1 = 4 then
        (
          zbd (ce_C_refuse n u) fun _ u9 =>
          some (x1, u9)
        ) else (
          zbd (f_C_compileE u 0) fun r10 u11 =>
          zbd (ce_C_takes n u11 44) fun r12 u13 =>
          zlet (x1 + 1) fun v14 =>
          ce_C_compileArguments_L26 n f_C_compileE m u13 v14 r12
        )
      )
    )
def ce_C_compileArguments_b (n : Nat) (f_C_compileE : zMu → Int32 → Option (Int32 × zMu)) (u : zMu) : Option (Int32 × zMu) :=
  zbd (ce_C_opens n u 40) fun _ u2 =>
  if zI u2 7 6 = 41 then
  (
    ce_C_compileArguments_L26 n f_C_compileE n u2 0 0
  ) else (
    ce_C_compileArguments_L26 n f_C_compileE n u2 0 1
  )
def ce_G_compileE (n : Nat) : Nat → (zMu → Int32 → Option (Int32 × zMu)) × (zMu → Int32 → Option (Unit × zMu)) × (zMu → Option (Int32 × zMu)) × (zMu → Option (Int32 × zMu)) × (zMu → Option (Int32 × zMu)) × (zMu → Option (Unit × zMu)) × (zMu → Int32 → Option (Unit × zMu)) × (zMu → Option (Int32 × zMu)) × (zMu → Option (Int32 × zMu))
  | 0 => (fun _ _ => none, fun _ _ => none, fun _ => none, fun _ => none, fun _ => none, fun _ => none, fun _ _ => none, fun _ => none, fun _ => none)
  | j + 1 => (ce_C_compileE_b n ((ce_G_compileE n j).1) ((ce_G_compileE n j).2.1) ((ce_G_compileE n j).2.2.1), ce_C_compileRest_b n ((ce_G_compileE n j).1), ce_C_compilePost_b n ((ce_G_compileE n j).2.2.2.1) ((ce_G_compileE n j).2.2.2.2.1), ce_C_compileItem_b n ((ce_G_compileE n j).1), ce_C_compileOne_b n ((ce_G_compileE n j).1) ((ce_G_compileE n j).2.2.2.2.2.1) ((ce_G_compileE n j).2.2.2.2.2.2.1) ((ce_G_compileE n j).2.2.2.2.2.2.2.1), ce_C_compileNegated_b n ((ce_G_compileE n j).2.2.2.2.1), ce_C_compileMade_b n ((ce_G_compileE n j).1), ce_C_compileNamed_b n ((ce_G_compileE n j).2.2.2.2.2.2.2.2), ce_C_compileArguments_b n ((ce_G_compileE n j).1))
def ce_C_compileE (n k : Nat) : zMu → Int32 → Option (Int32 × zMu) := (ce_G_compileE n k).1
def ce_C_compileRest (n k : Nat) : zMu → Int32 → Option (Unit × zMu) := (ce_G_compileE n k).2.1
def ce_C_compilePost (n k : Nat) : zMu → Option (Int32 × zMu) := (ce_G_compileE n k).2.2.1
def ce_C_compileItem (n k : Nat) : zMu → Option (Int32 × zMu) := (ce_G_compileE n k).2.2.2.1
def ce_C_compileOne (n k : Nat) : zMu → Option (Int32 × zMu) := (ce_G_compileE n k).2.2.2.2.1
def ce_C_compileNegated (n k : Nat) : zMu → Option (Unit × zMu) := (ce_G_compileE n k).2.2.2.2.2.1
def ce_C_compileMade (n k : Nat) : zMu → Int32 → Option (Unit × zMu) := (ce_G_compileE n k).2.2.2.2.2.2.1
def ce_C_compileNamed (n k : Nat) : zMu → Option (Int32 × zMu) := (ce_G_compileE n k).2.2.2.2.2.2.2.1
def ce_C_compileArguments (n k : Nat) : zMu → Option (Int32 × zMu) := (ce_G_compileE n k).2.2.2.2.2.2.2.2
def ce_C_compileLet_J63 (n k : Nat) (u : zMu) (x3 : Int32) (x4 : Int32) : Option (Unit × zMu) :=
  zgd (zpr (zR u 2 1)) <|
  zlet (zR u 2 1) fun p1 =>
  zbd (ce_P_emit n p1 u 4 x4 x3) fun r2 u3 =>
  zbd (ce_C_expect n u3 59) fun _ u5 =>
  some ((), u5)
def ce_C_compileLet (n k : Nat) (u : zMu) : Option (Unit × zMu) :=
  zbd (ce_X_advance n u) fun _ u2 =>
  zlet (zL u2 7 8) fun v3 =>
  zlet (zI u2 7 7) fun v4 =>
  zbd (ce_C_expect n u2 259) fun _ u6 =>
  zbd (ce_C_expect n u6 61) fun _ u8 =>
  zbd (ce_C_compileE n k u8 0) fun r9 u10 =>
  zbd (ce_C_variableNamed n u10 v3) fun r11 u12 =>
  if r11 = (-1) then
  (
    zbd (ce_C_addVariable n u12 v3 v4) fun r14 u15 =>
    ce_C_compileLet_J63 n k u15 v4 r14
  ) else (
    ce_C_compileLet_J63 n k u12 v4 r11
  )
def ce_P_aim (n : Nat) (p : Nat) (u : zMu) (x1 : Int32) : Option (Unit × zMu) :=
  if x1 < 0 then
  (
    some ((), u)
  ) else (
    if x1 < zI u p 3 then
    (
      zgd (zin x1 2400) <|
      zlet (zsI u (p + 2) (zx x1) (zI u p 3)) fun u3 =>
      some ((), u3)
    ) else (
      some ((), u)
    )
  )
def ce_C_compilePlain (n k : Nat) (u : zMu) (x1 : Int32) : Option (Unit × zMu) :=
  zbd (ce_X_advance n u) fun _ u2 =>
  zbd (ce_C_compileE n k u2 0) fun r3 u4 =>
  zgd (zpr (zR u4 2 1)) <|
  zlet (zR u4 2 1) fun p5 =>
  zbd (ce_P_emit n p5 u4 x1 0 0) fun r6 u7 =>
  zbd (ce_C_expect n u7 59) fun _ u9 =>
  some ((), u9)
def ce_P_takeBack (n : Nat) (p : Nat) (u : zMu) : Option (Int32 × zMu) :=
  if zI u p 3 = 0 then
  (
    some (0, u)
  ) else (
    zlet (zsI u p 3 ((zI u p 3) - 1)) fun u2 =>
    zgd (zin (zI u2 p 3) 2400) <|
    some (zI u2 (p + 2) (zx (zI u2 p 3)), u2)
  )
def ce_P_isSite (n : Nat) (p : Nat) (u : zMu) (x1 : Int32) : Option (Int32 × zMu) :=
  if x1 < 0 then
  (
    some (0, u)
  ) else (
    if x1 < zI u p 8 then
    (
      some (1, u)
    ) else (
      some (0, u)
    )
  )
def ce_P_turnSite (n : Nat) (p : Nat) (u : zMu) (x1 : Int32) (x2 : Int32) : Option (Unit × zMu) :=
  zbd (ce_P_isSite n p u x1) fun r1 u2 =>
  if r1 = 0 then
  (
    some ((), u2)
  ) else (
    zgd (zin x1 80) <|
    zlet (zsI u2 (p + 4) (zx x1) x2) fun u4 =>
    some ((), u4)
  )
def ce_P_placeTakenBack (n : Nat) (p : Nat) (u : zMu) : Option (Int32 × zMu) :=
  if zI u p 3 < 2400 then
  (
    zgd (zin (zI u p 3) 2400) <|
    some (zI u (p + 3) (zx (zI u p 3)), u)
  ) else (
    some (0, u)
  )
def ce_C_compileDel (n k : Nat) (u : zMu) : Option (Unit × zMu) :=
  zbd (ce_X_advance n u) fun _ u2 =>
  zbd (ce_C_compileE n k u2 0) fun r3 u4 =>
  if r3 = 2 then
  (
    zgd (zpr (zR u4 2 1)) <|
    zlet (zR u4 2 1) fun p6 =>
    zbd (ce_P_takeBack n p6 u4) fun r7 u8 =>
    zgd (zpr (zR u8 2 1)) <|
    zlet (zR u8 2 1) fun p9 =>
    zbd (ce_P_turnSite n p9 u8 r7 2) fun _ u11 =>
    zgd (zpr (zR u11 2 1)) <|
    zlet (zR u11 2 1) fun p12 =>
    zgd (zpr (zR u11 2 1)) <|
    zlet (zR u11 2 1) fun p13 =>
    zbd (ce_P_placeTakenBack n p13 u11) fun r14 u15 =>
    zbd (ce_P_emit n p12 u15 15 r7 r14) fun r16 u17 =>
    zbd (ce_C_expect n u17 59) fun _ u19 =>
    some ((), u19)
  ) else (
    zbd (ce_C_refuse n u4) fun _ u21 =>
    some ((), u21)
  )
def ce_C_compilePut_J82 (n k : Nat) (u : zMu) (x1 : Int32) (x2 : Int32) (x3 : Int32) : Option (Unit × zMu) :=
  zbd (ce_C_compileE n k u 0) fun r1 u2 =>
  if x1 = 1 then
  (
    zgd (zpr (zR u2 2 1)) <|
    zlet (zR u2 2 1) fun p4 =>
    zbd (ce_P_emit n p4 u2 4 x2 x3) fun r5 u6 =>
    zbd (ce_C_expect n u6 59) fun _ u8 =>
    some ((), u8)
  ) else (
    zgd (zpr (zR u2 2 1)) <|
    zlet (zR u2 2 1) fun p9 =>
    if x1 = 2 then
    (
      zbd (ce_P_emit n p9 u2 14 x2 x3) fun r11 u12 =>
      zbd (ce_C_expect n u12 59) fun _ u14 =>
      some ((), u14)
    ) else (
      zbd (ce_P_emit n p9 u2 18 x2 x3) fun r15 u16 =>
      zbd (ce_C_expect n u16 59) fun _ u18 =>
      some ((), u18)
    )
  )
def ce_C_compilePut (n k : Nat) (u : zMu) : Option (Unit × zMu) :=
  zbd (ce_C_compileE n k u 0) fun r1 u2 =>
  if zI u2 7 6 = 61 then
  (
    if r1 = 0 then
    (
      zbd (ce_C_refuse n u2) fun _ u6 =>
      some ((), u6)
    ) else (
      zgd (zpr (zR u2 2 1)) <|
      zlet (zR u2 2 1) fun p7 =>
      zbd (ce_P_takeBack n p7 u2) fun r8 u9 =>
      zgd (zpr (zR u9 2 1)) <|
      zlet (zR u9 2 1) fun p10 =>
      zbd (ce_P_placeTakenBack n p10 u9) fun r11 u12 =>
      zbd (ce_X_advance n u12) fun _ u14 =>
      if r1 = 2 then
      (
        zgd (zpr (zR u14 2 1)) <|
        zlet (zR u14 2 1) fun p16 =>
        zbd (ce_P_turnSite n p16 u14 r8 1) fun _ u18 =>
        ce_C_compilePut_J82 n k u18 r1 r8 r11
      ) else (
        ce_C_compilePut_J82 n k u14 r1 r8 r11
      )
    )
  ) else (
    zgd (zpr (zR u2 2 1)) <|
    zlet (zR u2 2 1) fun p19 =>
    zbd (ce_P_emit n p19 u2 5 0 0) fun r20 u21 =>
    zbd (ce_C_expect n u21 59) fun _ u23 =>
    some ((), u23)
  )
def ce_C_compileBlock_L8 (n k : Nat) (f_C_compileStep : zMu → Option (Unit × zMu)) : Nat → zMu → Int32 → Option (Unit × zMu)
  | 0, _, _ => none
  | m + 1, u, x1 =>
    if x1 < 1500 then
    (
      if zI u 7 6 = 125 then
      (
        zbd (ce_C_closes n u 125) fun _ u4 =>
        some ((), u4)
      ) else (
        if zI u 7 6 = 256 then
        (
          zbd (ce_C_closes n u 125) fun _ u7 =>
          some ((), u7)
        ) else (
          zbd (f_C_compileStep u) fun _ u9 =>
          zlet (x1 + 1) fun v10 =>
          ce_C_compileBlock_L8 n k f_C_compileStep m u9 v10
        )
      )
    ) else (
      zbd (ce_C_closes n u 125) fun _ u12 =>
      some ((), u12)
    )
def ce_C_compileBlock_b (n k : Nat) (f_C_compileStep : zMu → Option (Unit × zMu)) (u : zMu) : Option (Unit × zMu) :=
  zbd (ce_C_opens n u 123) fun _ u2 =>
  ce_C_compileBlock_L8 n k f_C_compileStep n u2 0
def ce_C_compileStep_b (n k : Nat) (f_C_compileIf : zMu → Option (Unit × zMu)) (f_C_compileWhile : zMu → Option (Unit × zMu)) (u : zMu) : Option (Unit × zMu) :=
  zgd (zpr (zR u 2 1)) <|
  zlet (zR u 2 1) fun p1 =>
  zbd (ce_P_emit n p1 u 0 0 (zI u 7 7)) fun r2 u3 =>
  zlet (zI u3 7 6) fun v4 =>
  if v4 = 301 then
  (
    zbd (ce_C_compileLet n k u3) fun _ u6 =>
    some ((), u6)
  ) else (
  if v4 = 302 then
  (
    zbd (f_C_compileIf u3) fun _ u9 =>
    some ((), u9)
  ) else (
  if v4 = 304 then
  (
    zbd (f_C_compileWhile u3) fun _ u12 =>
    some ((), u12)
  ) else (
  if v4 = 305 then
  (
    zbd (ce_C_compilePlain n k u3 22) fun _ u15 =>
    some ((), u15)
  ) else (
  if v4 = 306 then
  (
    zbd (ce_C_compilePlain n k u3 21) fun _ u18 =>
    some ((), u18)
  ) else (
  if v4 = 307 then
  (
    zbd (ce_C_compileDel n k u3) fun _ u21 =>
    some ((), u21)
  ) else (
    zbd (ce_C_compilePut n k u3) fun _ u24 =>
    some ((), u24)
  ))))))
def ce_C_compileIf_b (n k : Nat) (f_C_compileBlock : zMu → Option (Unit × zMu)) (u : zMu) : Option (Unit × zMu) :=
  zlet (zI u 7 7) fun v1 =>
  zbd (ce_X_advance n u) fun _ u3 =>
  zbd (ce_C_compileE n k u3 0) fun r4 u5 =>
  zgd (zpr (zR u5 2 1)) <|
  zlet (zR u5 2 1) fun p6 =>
  zbd (ce_P_emit n p6 u5 24 0 v1) fun r7 u8 =>
  zbd (f_C_compileBlock u8) fun _ u10 =>
  zbd (ce_C_takes n u10 303) fun r11 u12 =>
  if r11 = 0 then
  (
    zgd (zpr (zR u12 2 1)) <|
    zlet (zR u12 2 1) fun p14 =>
    zbd (ce_P_aim n p14 u12 r7) fun _ u16 =>
    some ((), u16)
  ) else (
    zgd (zpr (zR u12 2 1)) <|
    zlet (zR u12 2 1) fun p17 =>
    zbd (ce_P_emit n p17 u12 23 0 v1) fun r18 u19 =>
    zgd (zpr (zR u19 2 1)) <|
    zlet (zR u19 2 1) fun p20 =>
    zbd (ce_P_aim n p20 u19 r7) fun _ u22 =>
    zbd (f_C_compileBlock u22) fun _ u24 =>
    zgd (zpr (zR u24 2 1)) <|
    zlet (zR u24 2 1) fun p25 =>
    zbd (ce_P_aim n p25 u24 r18) fun _ u27 =>
    some ((), u27)
  )
def ce_C_compileWhile_b (n k : Nat) (f_C_compileBlock : zMu → Option (Unit × zMu)) (u : zMu) : Option (Unit × zMu) :=
  zlet (zI u 7 7) fun v1 =>
  zgd (zpr (zR u 2 1)) <|
  zlet (zR u 2 1) fun p2 =>
  zlet ((zI u p2 3) - 1) fun v3 =>
  zbd (ce_X_advance n u) fun _ u5 =>
  zbd (ce_C_compileE n k u5 0) fun r6 u7 =>
  zgd (zpr (zR u7 2 1)) <|
  zlet (zR u7 2 1) fun p8 =>
  zbd (ce_P_emit n p8 u7 24 0 v1) fun r9 u10 =>
  zbd (f_C_compileBlock u10) fun _ u12 =>
  zgd (zpr (zR u12 2 1)) <|
  zlet (zR u12 2 1) fun p13 =>
  zbd (ce_P_emit n p13 u12 23 v3 v1) fun r14 u15 =>
  zgd (zpr (zR u15 2 1)) <|
  zlet (zR u15 2 1) fun p16 =>
  zbd (ce_P_aim n p16 u15 r9) fun _ u18 =>
  some ((), u18)
def ce_G_compileBlock (n k : Nat) : Nat → (zMu → Option (Unit × zMu)) × (zMu → Option (Unit × zMu)) × (zMu → Option (Unit × zMu)) × (zMu → Option (Unit × zMu))
  | 0 => (fun _ => none, fun _ => none, fun _ => none, fun _ => none)
  | j + 1 => (ce_C_compileBlock_b n k ((ce_G_compileBlock n k j).2.1), ce_C_compileStep_b n k ((ce_G_compileBlock n k j).2.2.1) ((ce_G_compileBlock n k j).2.2.2), ce_C_compileIf_b n k ((ce_G_compileBlock n k j).1), ce_C_compileWhile_b n k ((ce_G_compileBlock n k j).1))
def ce_C_compileBlock (n k : Nat) : zMu → Option (Unit × zMu) := (ce_G_compileBlock n k k).1
def ce_C_compileStep (n k : Nat) : zMu → Option (Unit × zMu) := (ce_G_compileBlock n k k).2.1
def ce_C_compileIf (n k : Nat) : zMu → Option (Unit × zMu) := (ce_G_compileBlock n k k).2.2.1
def ce_C_compileWhile (n k : Nat) : zMu → Option (Unit × zMu) := (ce_G_compileBlock n k k).2.2.2
def ce_C_settleCalls_L2 (n : Nat) : Nat → zMu → Int32 → Option (Unit × zMu)
  | 0, _, _ => none
  | m + 1, u, x1 =>
    if x1 < zI u 2 12 then
    (
      zgd (zpr (zR u 2 1)) <|
      zlet (zR u 2 1) fun p2 =>
      zgd (zin x1 500) <|
      zbd (ce_P_fnNamed n p2 u (zL u 4 (zx x1))) fun r3 u4 =>
      zgd (zpr (zR u4 2 1)) <|
      zlet (zR u4 2 1) fun p5 =>
      zgd (zin x1 500) <|
      zgd (zin (zI u4 6 (zx x1)) 2400) <|
      zlet (zI u4 (p5 + 3) (zx (zI u4 6 (zx x1)))) fun v6 =>
      if r3 = (-1) then
      (
        zbd (ce_C_note n u4 2 v6) fun _ u9 =>
        zlet (x1 + 1) fun v10 =>
        ce_C_settleCalls_L2 n m u9 v10
      ) else (
        zgd (zpr (zR u4 2 1)) <|
        zlet (zR u4 2 1) fun p11 =>
        zgd (zin r3 8) <|
        zgd (zin x1 500) <|
        if zI u4 (p11 + 10) (zx r3) = zI u4 5 (zx x1) then
        (
          zgd (zpr (zR u4 2 1)) <|
          zlet (zR u4 2 1) fun p13 =>
          zgd (zin x1 500) <|
          zgd (zin (zI u4 6 (zx x1)) 2400) <|
          zlet (zsI u4 (p13 + 2) (zx (zI u4 6 (zx x1))) r3) fun u14 =>
          zlet (x1 + 1) fun v15 =>
          ce_C_settleCalls_L2 n m u14 v15
        ) else (
          zbd (ce_C_note n u4 3 v6) fun _ u17 =>
          zlet (x1 + 1) fun v18 =>
          ce_C_settleCalls_L2 n m u17 v18
        )
      )
    ) else (
      some ((), u)
    )
def ce_C_settleCalls (n : Nat) (u : zMu) : Option (Unit × zMu) :=
  ce_C_settleCalls_L2 n n u 0
def ce_C_compile_J133 (n k : Nat) (p3 : Nat) (u : zMu) : Option (Unit × zMu) :=
  zgd (zpr (zR u 2 1)) <|
  zlet (zR u 2 1) fun p1 =>
  zbd (ce_P_emit n p1 u 25 0 0) fun r2 u3 =>
  zgd (zpr (zR u3 2 1)) <|
  zlet (zR u3 2 1) fun p4 =>
  zlet (zsI u3 p4 14 (zI u3 2 8)) fun u5 =>
  if zI u5 2 2 = 0 then
  (
    zbd (ce_C_settleCalls n u5) fun _ u8 =>
    some ((), u8)
  ) else (
    some ((), u5)
  )
def ce_C_compile_L102 (n k : Nat) (p3 : Nat) : Nat → zMu → Int32 → Option (Unit × zMu)
  | 0, _, _ => none
  | m + 1, u, x4 =>
    if x4 < 1500 then
    (
      if zI u 7 6 = 256 then
      (
        ce_C_compile_J133 n k p3 u
      ) else (
        zbd (ce_C_compileStep n k u) fun _ u4 =>
        zlet (x4 + 1) fun v5 =>
        ce_C_compile_L102 n k p3 m u4 v5
      )
    ) else (
      ce_C_compile_J133 n k p3 u
    )
def ce_C_compile_J75 (n k : Nat) (p3 : Nat) (u : zMu) : Option (Unit × zMu) :=
  zlet (zsI u 2 6 (-1)) fun u1 =>
  zlet (zsI u1 2 8 0) fun u2 =>
  zgd (zpr (zR u2 2 1)) <|
  zlet (zR u2 2 1) fun p4 =>
  zgd (zpr (zR u2 2 1)) <|
  zlet (zR u2 2 1) fun p5 =>
  zlet (zsI u2 p4 13 (zI u2 p5 3)) fun u6 =>
  ce_C_compile_L102 n k p3 n u6 0
def ce_C_compile_L18 (n k : Nat) (p3 : Nat) : Nat → zMu → Int32 → Option (Unit × zMu)
  | 0, _, _ => none
  | m + 1, u, x4 =>
    if 8 < x4 then
    (
      ce_C_compile_J75 n k p3 u
    ) else (
      if zI u 7 6 = 300 then
      (
        zbd (ce_C_compileHead n u) fun _ u4 =>
        zbd (ce_C_compileBlock n k u4) fun _ u6 =>
        zgd (zpr (zR u6 2 1)) <|
        zlet (zR u6 2 1) fun p7 =>
        zbd (ce_P_emit n p7 u6 2 0 0) fun r8 u9 =>
        zgd (zpr (zR u9 2 1)) <|
        zlet (zR u9 2 1) fun p10 =>
        zbd (ce_P_emit n p10 u9 21 0 0) fun r11 u12 =>
        zlet (x4 + 1) fun v13 =>
        ce_C_compile_L18 n k p3 m u12 v13
      ) else (
        ce_C_compile_J75 n k p3 u
      )
    )
def ce_C_compile (n k : Nat) (p3 : Nat) (u : zMu) (x2 : Int32) : Option (Unit × zMu) :=
  zbd (ce_C_begin n p3 u x2) fun _ u2 =>
  zbd (ce_X_begin n u2 x2) fun _ u4 =>
  ce_C_compile_L18 n k p3 n u4 0
def ce_F_clear (n : Nat) (u : zMu) : Option (Unit × zMu) :=
  zbd (ce_fill n 60 u 0) fun _ u1 =>
  zbd (ce_fill n 61 u1 0) fun _ u2 =>
  zbd (ce_fill n 62 u2 0) fun _ u3 =>
  zbd (ce_fill n 63 u3 0) fun _ u4 =>
  zbd (ce_fill n 64 u4 0) fun _ u5 =>
  zbd (ce_fill n 65 u5 (-1)) fun _ u6 =>
  zlet (zsI u6 59 6 0) fun u7 =>
  zlet (zsI u7 59 7 0) fun u8 =>
  some ((), u8)
def ce_F_isCold (n : Nat) (u : zMu) (x1 : Int32) : Option (Int32 × zMu) :=
  zgd (zin x1 8) <|
  if zI u 64 (zx x1) < 3 then
  (
    some (0, u)
  ) else (
    some (1, u)
  )
def ce_F_makes (n : Nat) (u : zMu) (x1 : Int32) : Option (Int32 × zMu) :=
  zgd (zin x1 8) <|
  zgd (zin x1 8) <|
  zlet (zsI u 60 (zx x1) ((zI u 60 (zx x1)) + 1)) fun u1 =>
  zgd (zin x1 8) <|
  zgd (zin x1 8) <|
  zlet (zsI u1 61 (zx x1) ((zI u1 61 (zx x1)) + 1)) fun u2 =>
  zgd (zin x1 8) <|
  if zI u2 61 (zx x1) = 4 then
  (
    zgd (zin x1 8) <|
    if zI u2 62 (zx x1) = 0 then
    (
      zbd (ce_F_isCold n u2 x1) fun r5 u6 =>
      if r5 = 0 then
      (
        zgd (zin x1 8) <|
        zlet (zsI u6 62 (zx x1) 1) fun u8 =>
        zgd (zin x1 8) <|
        zgd (zin x1 8) <|
        zlet (zsI u8 63 (zx x1) ((zI u8 63 (zx x1)) + 1)) fun u9 =>
        zlet (zsI u9 59 6 ((zI u9 59 6) + 1)) fun u10 =>
        some (1, u10)
      ) else (
        some (0, u6)
      )
    ) else (
      some (0, u2)
    )
  ) else (
    some (0, u2)
  )
def ce_F_leave (n : Nat) (u : zMu) (x1 : Int32) (x2 : Int32) : Option (Unit × zMu) :=
  zgd (zin x1 8) <|
  zlet (zsI u 62 (zx x1) 0) fun u1 =>
  zgd (zin x1 8) <|
  zlet (zsI u1 61 (zx x1) 0) fun u2 =>
  zgd (zin x1 8) <|
  zgd (zin x1 8) <|
  zlet (zsI u2 64 (zx x1) ((zI u2 64 (zx x1)) + 1)) fun u3 =>
  zgd (zin x1 8) <|
  zlet (zsI u3 65 (zx x1) x2) fun u4 =>
  zlet (zsI u4 59 7 ((zI u4 59 7) + 1)) fun u5 =>
  some ((), u5)
def ce_S_clear (n : Nat) (u : zMu) : Option (Unit × zMu) :=
  zbd (ce_fill n 44 u (-1)) fun _ u1 =>
  zlet (zsI u1 43 8 0) fun u2 =>
  some ((), u2)
def ce_H_clear (n : Nat) (u : zMu) : Option (Unit × zMu) :=
  zbd (ce_S_clear n u) fun _ u2 =>
  zlet (zsI u2 36 7 0) fun u3 =>
  zlet (zsI u3 36 8 0) fun u4 =>
  zlet (zsI u4 36 12 0) fun u5 =>
  zlet (zsI u5 36 13 (-1)) fun u6 =>
  some ((), u6)
def ce_H_isObject (n : Nat) (u : zMu) (x1 : Int32) : Option (Int32 × zMu) :=
  if x1 < 0 then
  (
    some (0, u)
  ) else (
    if x1 < zI u 36 7 then
    (
      some (1, u)
    ) else (
      some (0, u)
    )
  )
def ce_S_grow (n : Nat) (u : zMu) : Option (Unit × zMu) :=
  zlet (if 2 * (Int32.ofNat (zN u 81)) < 1800 then 2 * (Int32.ofNat (zN u 81)) else 1800) fun v1 =>
  zlet (if (zI u 43 8) + 1 < v1 then v1 else (zI u 43 8) + 1) fun v2 =>
  zgd (zgokI u 81 v2) <|
  zlet (zgrI u 81 (zx v2)) fun u3 =>
  zgd (zgokI u3 82 v2) <|
  zlet (zgrI u3 82 (zx v2)) fun u5 =>
  zgd (zgokI u5 83 v2) <|
  zlet (zgrI u5 83 (zx v2)) fun u7 =>
  zgd (zgokI u7 84 v2) <|
  zlet (zgrI u7 84 (zx v2)) fun u9 =>
  zgd (zgokL u9 85 v2) <|
  zlet (zgrL u9 85 (zx v2)) fun u11 =>
  zgd (zgokI u11 86 v2) <|
  zlet (zgrI u11 86 (zx v2)) fun u13 =>
  zgd (zgokI u13 87 v2) <|
  zlet (zgrI u13 87 (zx v2)) fun u15 =>
  some ((), u15)
def ce_S_add_J51 (n : Nat) (u : zMu) (x2 : Int32) (x3 : Int64) (s1 : Int32) (s2 : Int32) : Option (Int32 × zMu) :=
  zgd (zin s1 (zN u 82)) <|
  zlet (zsI u 82 (zx s1) s2) fun u1 =>
  zgd (zin (zI u1 43 8) (zN u1 83)) <|
  zlet (zsI u1 83 (zx (zI u1 43 8)) x2) fun u2 =>
  zgd (zin (zI u2 43 8) (zN u2 84)) <|
  zlet (zsI u2 84 (zx (zI u2 43 8)) 0) fun u3 =>
  zgd (zin (zI u3 43 8) (zN u3 85)) <|
  zlet (zsL u3 85 (zx (zI u3 43 8)) x3) fun u4 =>
  zgd (zin (zI u4 43 8) (zN u4 86)) <|
  zlet (zsI u4 86 (zx (zI u4 43 8)) (-1)) fun u5 =>
  zgd (zin (zI u5 43 8) (zN u5 87)) <|
  zlet (zsI u5 87 (zx (zI u5 43 8)) (-1)) fun u6 =>
  zlet (zI u6 43 8) fun v7 =>
  zlet (zsI u6 43 8 (v7 + 1)) fun u8 =>
  some (v7, u8)
def ce_S_add_J16 (n : Nat) (u : zMu) (x1 : Int32) (x2 : Int32) (x3 : Int64) : Option (Int32 × zMu) :=
  zgd (zin (zI u 43 8) (zN u 81)) <|
  zlet (zsI u 81 (zx (zI u 43 8)) x1) fun u1 =>
  if x2 = (-1) then
  (
    ce_S_add_J51 n u1 x2 x3 (zI u1 43 8) 0
  ) else (
    zgd (zin x2 (zN u1 82)) <|
    ce_S_add_J51 n u1 x2 x3 (zI u1 43 8) ((zI u1 82 (zx x2)) + 1)
  )
def ce_S_add (n : Nat) (u : zMu) (x1 : Int32) (x2 : Int32) (x3 : Int64) : Option (Int32 × zMu) :=
  if zI u 43 8 < Int32.ofNat (zN u 81) then
  (
    ce_S_add_J16 n u x1 x2 x3
  ) else (
    zbd (ce_S_grow n u) fun _ u4 =>
    ce_S_add_J16 n u4 x1 x2 x3
  )
def ce_S_rootOf (n : Nat) (u : zMu) (x1 : Int32) : Option (Int32 × zMu) :=
  if x1 < (-1) then
  (
    some ((-1), u)
  ) else (
    if x1 < 200 then
    (
      zgd (zin (x1 + 1) 201) <|
      if zI u 44 (zx (x1 + 1)) = (-1) then
      (
        zbd (ce_S_add n u x1 (-1) 0) fun r5 u6 =>
        zgd (zin (x1 + 1) 201) <|
        zlet (zsI u6 44 (zx (x1 + 1)) r5) fun u7 =>
        zgd (zin (x1 + 1) 201) <|
        some (zI u7 44 (zx (x1 + 1)), u7)
      ) else (
        zgd (zin (x1 + 1) 201) <|
        some (zI u 44 (zx (x1 + 1)), u)
      )
    ) else (
      some ((-1), u)
    )
  )
def ce_H_addObject_L79 (n : Nat) : Nat → zMu → Int32 → Int32 → Int32 → Option (Int32 × zMu)
  | 0, _, _, _, _ => none
  | m + 1, u, x1, x2, x3 =>
    if x3 < 4 then
    (
      if x1 < 0 then
      (
        zgd (zin ((x2 * 4) + x3) 800) <|
        zlet (zsL u 42 (zx ((x2 * 4) + x3)) 0) fun u3 =>
        zlet (x3 + 1) fun v4 =>
        ce_H_addObject_L79 n m u3 x1 x2 v4
      ) else (
        zgd (zin ((x1 * 4) + x3) 800) <|
        zgd (zin ((x2 * 4) + x3) 800) <|
        zlet (zsL u 42 (zx ((x2 * 4) + x3)) (zL u 42 (zx ((x1 * 4) + x3)))) fun u5 =>
        zlet (x3 + 1) fun v6 =>
        ce_H_addObject_L79 n m u5 x1 x2 v6
      )
    ) else (
      zlet ((x2 * 4) + (x2 / 64)) fun v7 =>
      zgd (zin v7 800) <|
      zgd (zin v7 800) <|
      zlet (zsL u 42 (zx v7) ((zL u 42 (zx v7)) ||| (1 <<< ((x2 - x2 / 64 * 64).toInt64 &&& 63)))) fun u8 =>
      some (x2, u8)
    )
def ce_H_addObject (n : Nat) (u : zMu) (x1 : Int32) : Option (Int32 × zMu) :=
  if zI u 36 7 < 200 then
  (
    if x1 < zI u 36 7 then
    (
      zlet (zI u 36 7) fun v3 =>
      zlet (zsI u 36 7 ((zI u 36 7) + 1)) fun u4 =>
      zgd (zin v3 200) <|
      zlet (zsI u4 38 (zx v3) x1) fun u5 =>
      zbd (ce_S_rootOf n u5 x1) fun r7 u8 =>
      zgd (zin v3 200) <|
      zlet (zsI u8 37 (zx v3) r7) fun u9 =>
      zgd (zin v3 200) <|
      zlet (zsI u9 39 (zx v3) 0) fun u10 =>
      zgd (zin v3 200) <|
      zlet (zsI u10 40 (zx v3) (-1)) fun u11 =>
      zgd (zin v3 200) <|
      zlet (zsI u11 41 (zx v3) (-1)) fun u12 =>
      ce_H_addObject_L79 n n u12 x1 v3 0
    ) else (
      some ((-1), u)
    )
  ) else (
    some ((-1), u)
  )
def ce_H_isOnLine (n : Nat) (u : zMu) (x1 : Int32) (x2 : Int32) : Option (Int32 × zMu) :=
  zbd (ce_H_isObject n u x1) fun r1 u2 =>
  if r1 = 0 then
  (
    some (0, u2)
  ) else (
    zbd (ce_H_isObject n u2 x2) fun r4 u5 =>
    if r4 = 0 then
    (
      some (0, u5)
    ) else (
      zgd (zin ((x1 * 4) + (x2 / 64)) 800) <|
      if lg_cmp ((((zL u5 42 (zx ((x1 * 4) + (x2 / 64)))).toUInt64 >>> ((x2 - x2 / 64 * 64).toInt64.toUInt64 &&& Int64.toUInt64 63)).toInt64) &&& 1) 0 = 0 then
      (
        some (0, u5)
      ) else (
        some (1, u5)
      )
    )
  )
def ce_H_find_L21 (n : Nat) : Nat → zMu → Int32 → Int64 → Int32 → Int32 → Option (Int32 × zMu)
  | 0, _, _, _, _, _ => none
  | m + 1, u, x1, x2, x4, x5 =>
    zgd (zin x1 200) <|
    if x5 < zI u 39 (zx x1) then
    (
      if x4 = (-1) then
      (
        some ((-1), u)
      ) else (
        zgd (zin x4 (zN u 88)) <|
        if lg_cmp (zL u 88 (zx x4)) x2 = 0 then
        (
          some (x4, u)
        ) else (
          zgd (zin x4 (zN u 89)) <|
          zlet (zI u 89 (zx x4)) fun v4 =>
          zlet (x5 + 1) fun v5 =>
          ce_H_find_L21 n m u x1 x2 v4 v5
        )
      )
    ) else (
      some ((-1), u)
    )
def ce_H_find (n : Nat) (u : zMu) (x1 : Int32) (x2 : Int64) : Option (Int32 × zMu) :=
  zbd (ce_H_isObject n u x1) fun r1 u2 =>
  if r1 = 0 then
  (
    some ((-1), u2)
  ) else (
    zgd (zin x1 200) <|
    zlet (zI u2 40 (zx x1)) fun v4 =>
    ce_H_find_L21 n n u2 x1 x2 v4 0
  )
def ce_H_holderOf_L6 (n : Nat) : Nat → zMu → Int64 → Int32 → Int32 → Option (Int32 × zMu)
  | 0, _, _, _, _ => none
  | m + 1, u, x2, x4, x5 =>
    if x5 < 200 then
    (
      zbd (ce_H_isObject n u x4) fun r2 u3 =>
      if r2 = 0 then
      (
        some ((-1), u3)
      ) else (
        zbd (ce_H_find n u3 x4 x2) fun r5 u6 =>
        if r5 = (-1) then
        (
          zgd (zin x4 200) <|
          zlet (zI u6 38 (zx x4)) fun v8 =>
          zlet (x5 + 1) fun v9 =>
          ce_H_holderOf_L6 n m u6 x2 v8 v9
        ) else (
          some (x4, u6)
        )
      )
    ) else (
      some ((-1), u)
    )
def ce_H_holderOf (n : Nat) (u : zMu) (x1 : Int32) (x2 : Int64) : Option (Int32 × zMu) :=
  ce_H_holderOf_L6 n n u x2 x1 0
def ce_H_cellAt_L34 (n : Nat) : Nat → zMu → Int32 → Int32 → Int32 → Option (Int32 × zMu)
  | 0, _, _, _, _ => none
  | m + 1, u, x2, x3, x4 =>
    if x4 < x2 then
    (
      if x3 = (-1) then
      (
        some (x3, u)
      ) else (
        zgd (zin x3 (zN u 89)) <|
        zlet (zI u 89 (zx x3)) fun v3 =>
        zlet (x4 + 1) fun v4 =>
        ce_H_cellAt_L34 n m u x2 v3 v4
      )
    ) else (
      some (x3, u)
    )
def ce_H_cellAt (n : Nat) (u : zMu) (x1 : Int32) (x2 : Int32) : Option (Int32 × zMu) :=
  zbd (ce_H_isObject n u x1) fun r1 u2 =>
  if r1 = 0 then
  (
    some ((-1), u2)
  ) else (
    if x2 < 0 then
    (
      some ((-1), u2)
    ) else (
      zgd (zin x1 200) <|
      if x2 < zI u2 39 (zx x1) then
      (
        zgd (zin x1 200) <|
        zlet (zI u2 40 (zx x1)) fun v6 =>
        ce_H_cellAt_L34 n n u2 x2 v6 0
      ) else (
        some ((-1), u2)
      )
    )
  )
def ce_H_freshCell (n : Nat) (u : zMu) : Option (Int32 × zMu) :=
  if zI u 36 13 = (-1) then
  (
    if zI u 36 12 < Int32.ofNat (zN u 88) then
    (
      zlet (zI u 36 12) fun v3 =>
      zlet (zsI u 36 12 (v3 + 1)) fun u4 =>
      some (v3, u4)
    ) else (
      zgd (zgokL u 88 (2 * (zI u 36 12))) <|
      zlet (zgrL u 88 (zx (2 * (zI u 36 12)))) fun u5 =>
      zgd (zgokI u5 89 (2 * (zI u5 36 12))) <|
      zlet (zgrI u5 89 (zx (2 * (zI u5 36 12)))) fun u7 =>
      zlet (zI u7 36 12) fun v9 =>
      zlet (zsI u7 36 12 (v9 + 1)) fun u10 =>
      some (v9, u10)
    )
  ) else (
    zlet (zI u 36 13) fun v11 =>
    zgd (zin v11 (zN u 89)) <|
    zlet (zsI u 36 13 (zI u 89 (zx v11))) fun u12 =>
    some (v11, u12)
  )
def ce_H_append_J56 (n : Nat) (u : zMu) (x1 : Int32) (x4 : Int32) : Option (Int32 × zMu) :=
  zgd (zin x1 200) <|
  zlet (zsI u 41 (zx x1) x4) fun u1 =>
  zgd (zin x1 200) <|
  zgd (zin x1 200) <|
  zlet (zsI u1 39 (zx x1) ((zI u1 39 (zx x1)) + 1)) fun u2 =>
  some (x4, u2)
def ce_H_append (n : Nat) (u : zMu) (x1 : Int32) (x2 : Int64) : Option (Int32 × zMu) :=
  zbd (ce_H_freshCell n u) fun r2 u3 =>
  zgd (zin r2 (zN u3 88)) <|
  zlet (zsL u3 88 (zx r2) x2) fun u4 =>
  zgd (zin r2 (zN u4 89)) <|
  zlet (zsI u4 89 (zx r2) (-1)) fun u5 =>
  zgd (zin x1 200) <|
  if zI u5 41 (zx x1) = (-1) then
  (
    zgd (zin x1 200) <|
    zlet (zsI u5 40 (zx x1) r2) fun u7 =>
    ce_H_append_J56 n u7 x1 r2
  ) else (
    zgd (zin x1 200) <|
    zgd (zin (zI u5 41 (zx x1)) (zN u5 89)) <|
    zlet (zsI u5 89 (zx (zI u5 41 (zx x1))) r2) fun u8 =>
    ce_H_append_J56 n u8 x1 r2
  )
def ce_H_loseShape (n : Nat) (u : zMu) (x1 : Int32) : Option (Unit × zMu) :=
  zgd (zin x1 200) <|
  if zI u 37 (zx x1) = (-1) then
  (
    zgd (zin x1 200) <|
    zlet (zsI u 37 (zx x1) (-1)) fun u2 =>
    some ((), u2)
  ) else (
    zlet (zsI u 36 8 ((zI u 36 8) + 1)) fun u3 =>
    zgd (zin x1 200) <|
    zlet (zsI u3 37 (zx x1) (-1)) fun u4 =>
    some ((), u4)
  )
def ce_S_isShape (n : Nat) (u : zMu) (x1 : Int32) : Option (Int32 × zMu) :=
  if x1 < 0 then
  (
    some (0, u)
  ) else (
    if x1 < zI u 43 8 then
    (
      some (1, u)
    ) else (
      some (0, u)
    )
  )
def ce_S_with_J68 (n : Nat) (u : zMu) (x1 : Int32) (x2 : Int64) : Option (Int32 × zMu) :=
  zgd (zin x1 (zN u 81)) <|
  zbd (ce_S_add n u (zI u 81 (zx x1)) x1 x2) fun r2 u3 =>
  zgd (zin x1 (zN u3 86)) <|
  zgd (zin r2 (zN u3 87)) <|
  zlet (zsI u3 87 (zx r2) (zI u3 86 (zx x1))) fun u4 =>
  zgd (zin x1 (zN u4 86)) <|
  zlet (zsI u4 86 (zx x1) r2) fun u5 =>
  zgd (zin x1 (zN u5 84)) <|
  zgd (zin x1 (zN u5 84)) <|
  zlet (zsI u5 84 (zx x1) ((zI u5 84 (zx x1)) + 1)) fun u6 =>
  some (r2, u6)
def ce_S_with_L21 (n : Nat) : Nat → zMu → Int32 → Int64 → Int32 → Int32 → Option (Int32 × zMu)
  | 0, _, _, _, _, _ => none
  | m + 1, u, x1, x2, x4, x5 =>
    zgd (zin x1 (zN u 84)) <|
    if x5 < zI u 84 (zx x1) then
    (
      if x4 = (-1) then
      (
        ce_S_with_J68 n u x1 x2
      ) else (
        zgd (zin x4 (zN u 85)) <|
        if lg_cmp (zL u 85 (zx x4)) x2 = 0 then
        (
          some (x4, u)
        ) else (
          zgd (zin x4 (zN u 87)) <|
          zlet (zI u 87 (zx x4)) fun v4 =>
          zlet (x5 + 1) fun v5 =>
          ce_S_with_L21 n m u x1 x2 v4 v5
        )
      )
    ) else (
      ce_S_with_J68 n u x1 x2
    )
def ce_S_with (n : Nat) (u : zMu) (x1 : Int32) (x2 : Int64) : Option (Int32 × zMu) :=
  zbd (ce_S_isShape n u x1) fun r1 u2 =>
  if r1 = 0 then
  (
    some ((-1), u2)
  ) else (
    zgd (zin x1 (zN u2 86)) <|
    zlet (zI u2 86 (zx x1)) fun v4 =>
    ce_S_with_L21 n n u2 x1 x2 v4 0
  )
def ce_V_grow (n : Nat) (v : Nat) (u : zMu) (x1 : Int32) : Option (Unit × zMu) :=
  zlet (if x1 + 1 < 2 * (Int32.ofNat (zN u (v + 1))) then 2 * (Int32.ofNat (zN u (v + 1))) else x1 + 1) fun v1 =>
  zlet (if v1 < zI u v 0 then v1 else zI u v 0) fun v2 =>
  zgd (zgokB u (v + 1) v2) <|
  zlet (zgrI u (v + 1) (zx v2)) fun u3 =>
  zgd (zgokL u3 (v + 2) v2) <|
  zlet (zgrL u3 (v + 2) (zx v2)) fun u5 =>
  some ((), u5)
def ce_V_set_J27 (n : Nat) (v : Nat) (u : zMu) (x1 : Int32) (x2 : Int32) (x3 : Int64) : Option (Unit × zMu) :=
  zgd (zin x1 (zN u (v + 1))) <|
  zlet (zsI u (v + 1) (zx x1) (vp_nar .byte (x2.toInt8.toInt32))) fun u1 =>
  zgd (zin x1 (zN u1 (v + 2))) <|
  zlet (zsL u1 (v + 2) (zx x1) x3) fun u2 =>
  some ((), u2)
def ce_V_set (n : Nat) (v : Nat) (u : zMu) (x1 : Int32) (x2 : Int32) (x3 : Int64) : Option (Unit × zMu) :=
  if x1 < 0 then
  (
    some ((), u)
  ) else (
    if x1 < zI u v 0 then
    (
      if x1 < Int32.ofNat (zN u (v + 1)) then
      (
        ce_V_set_J27 n v u x1 x2 x3
      ) else (
        zbd (ce_V_grow n v u x1) fun _ u6 =>
        ce_V_set_J27 n v u6 x1 x2 x3
      )
    ) else (
      some ((), u)
    )
  )
def ce_H_give (n : Nat) (u : zMu) (x1 : Int32) (x2 : Int64) (x4 : Int32) (x5 : Int64) : Option (Unit × zMu) :=
  zbd (ce_H_isObject n u x1) fun r1 u2 =>
  if r1 = 0 then
  (
    some ((), u2)
  ) else (
    zbd (ce_H_find n u2 x1 x2) fun r4 u5 =>
    if r4 = (-1) then
    (
      zbd (ce_H_append n u5 x1 x2) fun r8 u9 =>
      zgd (zin x1 200) <|
      if 8 < zI u9 39 (zx x1) then
      (
        zbd (ce_H_loseShape n u9 x1) fun _ u12 =>
        zbd (ce_V_set n 66 u12 r8 x4 x5) fun _ u15 =>
        some ((), u15)
      ) else (
        zgd (zin x1 200) <|
        if zI u9 37 (zx x1) = (-1) then
        (
          zbd (ce_V_set n 66 u9 r8 x4 x5) fun _ u19 =>
          some ((), u19)
        ) else (
          zgd (zin x1 200) <|
          zbd (ce_S_with n u9 (zI u9 37 (zx x1)) x2) fun r21 u22 =>
          zgd (zin x1 200) <|
          zlet (zsI u22 37 (zx x1) r21) fun u23 =>
          zbd (ce_V_set n 66 u23 r8 x4 x5) fun _ u26 =>
          some ((), u26)
        )
      )
    ) else (
      zbd (ce_V_set n 66 u5 r4 x4 x5) fun _ u29 =>
      some ((), u29)
    )
  )
def ce_H_strike_J133 (n : Nat) (u : zMu) (x1 : Int32) (x5 : Int32) : Option (Unit × zMu) :=
  zgd (zin x5 (zN u 89)) <|
  zlet (zsI u 89 (zx x5) (zI u 36 13)) fun u1 =>
  zlet (zsI u1 36 13 x5) fun u2 =>
  zgd (zin x1 200) <|
  zgd (zin x1 200) <|
  zlet (zsI u2 39 (zx x1) ((zI u2 39 (zx x1)) - 1)) fun u3 =>
  zbd (ce_H_loseShape n u3 x1) fun _ u5 =>
  some ((), u5)
def ce_H_strike_J114 (n : Nat) (u : zMu) (x1 : Int32) (x4 : Int32) (x5 : Int32) : Option (Unit × zMu) :=
  zgd (zin x1 200) <|
  if zI u 41 (zx x1) = x5 then
  (
    zgd (zin x1 200) <|
    zlet (zsI u 41 (zx x1) x4) fun u2 =>
    ce_H_strike_J133 n u2 x1 x5
  ) else (
    ce_H_strike_J133 n u x1 x5
  )
def ce_H_strike_J71 (n : Nat) (u : zMu) (x1 : Int32) (x4 : Int32) (x5 : Int32) : Option (Unit × zMu) :=
  if x5 = (-1) then
  (
    some ((), u)
  ) else (
    if x4 = (-1) then
    (
      zgd (zin x5 (zN u 89)) <|
      zgd (zin x1 200) <|
      zlet (zsI u 40 (zx x1) (zI u 89 (zx x5))) fun u3 =>
      ce_H_strike_J114 n u3 x1 x4 x5
    ) else (
      zgd (zin x5 (zN u 89)) <|
      zgd (zin x4 (zN u 89)) <|
      zlet (zsI u 89 (zx x4) (zI u 89 (zx x5))) fun u4 =>
      ce_H_strike_J114 n u4 x1 x4 x5
    )
  )
def ce_H_strike_L23 (n : Nat) : Nat → zMu → Int32 → Int64 → Int32 → Int32 → Int32 → Option (Unit × zMu)
  | 0, _, _, _, _, _, _ => none
  | m + 1, u, x1, x2, x4, x5, x6 =>
    zgd (zin x1 200) <|
    if x6 < zI u 39 (zx x1) then
    (
      if x5 = (-1) then
      (
        ce_H_strike_J71 n u x1 x4 x5
      ) else (
        zgd (zin x5 (zN u 88)) <|
        if lg_cmp (zL u 88 (zx x5)) x2 = 0 then
        (
          ce_H_strike_J71 n u x1 x4 x5
        ) else (
          zgd (zin x5 (zN u 89)) <|
          zlet (zI u 89 (zx x5)) fun v4 =>
          zlet (x6 + 1) fun v5 =>
          ce_H_strike_L23 n m u x1 x2 x5 v4 v5
        )
      )
    ) else (
      ce_H_strike_J71 n u x1 x4 x5
    )
def ce_H_strike (n : Nat) (u : zMu) (x1 : Int32) (x2 : Int64) : Option (Unit × zMu) :=
  zbd (ce_H_isObject n u x1) fun r1 u2 =>
  if r1 = 0 then
  (
    some ((), u2)
  ) else (
    zgd (zin x1 200) <|
    zlet (zI u2 40 (zx x1)) fun v4 =>
    ce_H_strike_L23 n n u2 x1 x2 (-1) v4 0
  )
def ce_R_clear (n : Nat) (u : zMu) : Option (Unit × zMu) :=
  zlet (zsI u 45 4 0) fun u1 =>
  zlet (zsI u1 45 5 0) fun u2 =>
  zlet (zsI u2 45 6 0) fun u3 =>
  some ((), u3)
def ce_T_clear (n : Nat) (u : zMu) : Option (Unit × zMu) :=
  zbd (ce_fill n 50 u 0) fun _ u1 =>
  zbd (ce_fill n 51 u1 0) fun _ u2 =>
  zbd (ce_fill n 52 u2 0) fun _ u3 =>
  zbd (ce_fill n 53 u3 0) fun _ u4 =>
  zbd (ce_fill n 54 u4 0) fun _ u5 =>
  zbd (ce_fill n 58 u5 0) fun _ u6 =>
  zlet (zsI u6 49 9 0) fun u7 =>
  zlet (zsI u7 49 10 0) fun u8 =>
  zlet (zsI u8 49 11 0) fun u9 =>
  some ((), u9)
def ce_M_load (n : Nat) (p1 : Nat) (u : zMu) : Option (Unit × zMu) :=
  zlet (zsR u 34 6 p1) fun u1 =>
  zbd (ce_H_clear n u1) fun _ u3 =>
  zbd (ce_R_clear n u3) fun _ u5 =>
  zbd (ce_T_clear n u5) fun _ u7 =>
  zbd (ce_F_clear n u7) fun _ u9 =>
  zlet (zsI u9 34 5 0) fun u10 =>
  zlet (zsI u10 34 8 0) fun u11 =>
  zlet (zsI u11 34 11 0) fun u12 =>
  zlet (zsI u12 34 12 0) fun u13 =>
  zlet (zsI u13 34 15 0) fun u14 =>
  zlet (zsI u14 34 16 0) fun u15 =>
  zlet (zsI u15 34 18 0) fun u16 =>
  zlet (zsI u16 34 19 (-1)) fun u17 =>
  some ((), u17)
def ce_M_clearVariables_L2 (n : Nat) : Nat → zMu → Int32 → Option (Unit × zMu)
  | 0, _, _ => none
  | m + 1, u, x1 =>
    if x1 < 12 then
    (
      zbd (ce_V_set n 78 u (((zI u 34 11) * 12) + x1) 0 0) fun _ u4 =>
      zlet (x1 + 1) fun v5 =>
      ce_M_clearVariables_L2 n m u4 v5
    ) else (
      some ((), u)
    )
def ce_M_clearVariables (n : Nat) (u : zMu) : Option (Unit × zMu) :=
  ce_M_clearVariables_L2 n n u 0
def ce_M_takeStep (n : Nat) (u : zMu) : Option (Int32 × zMu) :=
  if zI u 34 15 < zI u 34 14 then
  (
    zlet (zsI u 34 15 ((zI u 34 15) + 1)) fun u2 =>
    some (1, u2)
  ) else (
    zlet (zsI u 34 17 2) fun u3 =>
    some (0, u3)
  )
def ce_M_push (n : Nat) (u : zMu) (x1 : Int32) (x2 : Int64) : Option (Unit × zMu) :=
  zbd (ce_V_set n 75 u (zI u 34 8) x1 x2) fun _ u3 =>
  zlet (zsI u3 34 8 ((zI u3 34 8) + 1)) fun u4 =>
  some ((), u4)
def ce_V_sortAt (n : Nat) (v : Nat) (u : zMu) (x1 : Int32) : Option (Int32 × zMu) :=
  if x1 < 0 then
  (
    some (0, u)
  ) else (
    if x1 < Int32.ofNat (zN u (v + 1)) then
    (
      zgd (zin x1 (zN u (v + 1))) <|
      some (zI u (v + 1) (zx x1), u)
    ) else (
      some (0, u)
    )
  )
def ce_V_numberAt (n : Nat) (v : Nat) (u : zMu) (x1 : Int32) : Option (Int64 × zMu) :=
  if x1 < 0 then
  (
    some (0, u)
  ) else (
    if x1 < Int32.ofNat (zN u (v + 2)) then
    (
      zgd (zin x1 (zN u (v + 2))) <|
      some (zL u (v + 2) (zx x1), u)
    ) else (
      some (0, u)
    )
  )
def ce_M_fetch (n : Nat) (u : zMu) (x1 : Int32) : Option (Unit × zMu) :=
  zbd (ce_V_sortAt n 78 u x1) fun r1 u2 =>
  zbd (ce_V_numberAt n 78 u2 x1) fun r3 u4 =>
  zbd (ce_M_push n u4 r1 r3) fun _ u7 =>
  some ((), u7)
def ce_M_store (n : Nat) (u : zMu) (x1 : Int32) : Option (Unit × zMu) :=
  zlet (zsI u 34 8 ((zI u 34 8) - 1)) fun u1 =>
  zbd (ce_V_sortAt n 75 u1 (zI u1 34 8)) fun r2 u3 =>
  zbd (ce_V_numberAt n 75 u3 (zI u3 34 8)) fun r4 u5 =>
  zbd (ce_V_set n 78 u5 x1 r2 r4) fun _ u8 =>
  some ((), u8)
def ce_V_isNumberAt (n : Nat) (v : Nat) (u : zMu) (x1 : Int32) : Option (Int32 × zMu) :=
  zbd (ce_V_sortAt n v u x1) fun r1 u2 =>
  if r1 = 1 then
  (
    some (1, u2)
  ) else (
    if r1 = 2 then
    (
      some (1, u2)
    ) else (
      some (0, u2)
    )
  )
def ce_M_sortOf (n : Nat) (u : zMu) (x0 : Int64) : Option (Int32 × zMu) :=
  if lg_cmp x0 (-1073741824) < 0 then
  (
    some (2, u)
  ) else (
    if 0 < lg_cmp x0 1073741823 then
    (
      some (2, u)
    ) else (
      some (1, u)
    )
  )
def ce_M_pushNumber (n : Nat) (u : zMu) (x1 : Int64) : Option (Unit × zMu) :=
  zbd (ce_M_sortOf n u x1) fun r1 u2 =>
  zbd (ce_M_push n u2 r1 x1) fun _ u5 =>
  some ((), u5)
def ce_M_fail (n : Nat) (u : zMu) (x1 : Int32) (x2 : Int32) : Option (Unit × zMu) :=
  zlet (zsI u 34 18 x1) fun u1 =>
  zlet (zsI u1 34 19 x2) fun u2 =>
  zlet (zsI u2 34 17 1) fun u3 =>
  some ((), u3)
def ce_M_negate (n : Nat) (u : zMu) (x1 : Int32) : Option (Unit × zMu) :=
  zlet (zsI u 34 8 ((zI u 34 8) - 1)) fun u1 =>
  zbd (ce_V_isNumberAt n 75 u1 (zI u1 34 8)) fun r2 u3 =>
  if r2 = 0 then
  (
    zbd (ce_M_fail n u3 1 x1) fun _ u6 =>
    some ((), u6)
  ) else (
    zbd (ce_V_numberAt n 75 u3 (zI u3 34 8)) fun r7 u8 =>
    zbd (ce_M_pushNumber n u8 (-r7)) fun _ u11 =>
    some ((), u11)
  )
def ce_M_resultOf (n : Nat) (u : zMu) (x0 : Int32) (x1 : Int64) (x3 : Int64) : Option (Int64 × zMu) :=
  if x0 = 7 then
  (
    some (x1 + x3, u)
  ) else (
    if x0 = 8 then
    (
      some (x1 - x3, u)
    ) else (
      some (x1 * x3, u)
    )
  )
def ce_T_meetSum (n : Nat) (u : zMu) (x1 : Int32) (x2 : Int32) : Option (Unit × zMu) :=
  zgd (zin x1 80) <|
  zgd (zin x1 80) <|
  zlet (zsI u 50 (zx x1) ((zI u 50 (zx x1)) + 1)) fun u1 =>
  zgd (zin x1 80) <|
  zgd (zin x1 80) <|
  zlet (zsI u1 54 (zx x1) ((zI u1 54 (zx x1)) ||| x2)) fun u2 =>
  some ((), u2)
def ce_T_hasGuess (n : Nat) (u : zMu) (x1 : Int32) : Option (Int32 × zMu) :=
  zgd (zin x1 80) <|
  if 0 < zI u 58 (zx x1) then
  (
    some (1, u)
  ) else (
    some (0, u)
  )
def ce_T_dropGuesses_L2 (n : Nat) (p1 : Nat) : Nat → zMu → Int32 → Int32 → Option (Unit × zMu)
  | 0, _, _, _ => none
  | m + 1, u, x2, x3 =>
    if x3 < zI u p1 8 then
    (
      zgd (zin x3 80) <|
      if zI u (p1 + 6) (zx x3) = x2 then
      (
        zgd (zin x3 80) <|
        zlet (zsI u 58 (zx x3) 0) fun u3 =>
        zlet (x3 + 1) fun v4 =>
        ce_T_dropGuesses_L2 n p1 m u3 x2 v4
      ) else (
        zlet (x3 + 1) fun v5 =>
        ce_T_dropGuesses_L2 n p1 m u x2 v5
      )
    ) else (
      some ((), u)
    )
def ce_T_dropGuesses (n : Nat) (p1 : Nat) (u : zMu) (x2 : Int32) : Option (Unit × zMu) :=
  ce_T_dropGuesses_L2 n p1 n u x2 0
def ce_M_leaveMade (n : Nat) (u : zMu) (x1 : Int32) : Option (Unit × zMu) :=
  zgd (zpr (zR u 34 6)) <|
  zlet (zR u 34 6) fun p1 =>
  zgd (zin x1 80) <|
  zlet (zI u (p1 + 6) (zx x1)) fun v2 =>
  zgd (zpr (zR u 34 6)) <|
  zlet (zR u 34 6) fun p3 =>
  zbd (ce_P_isFn n p3 u v2) fun r4 u5 =>
  if r4 = 0 then
  (
    some ((), u5)
  ) else (
    zbd (ce_F_leave n u5 v2 x1) fun _ u8 =>
    zgd (zpr (zR u8 34 6)) <|
    zlet (zR u8 34 6) fun p9 =>
    zbd (ce_T_dropGuesses n p9 u8 v2) fun _ u11 =>
    some ((), u11)
  )
def ce_M_calculate (n : Nat) (u : zMu) (x1 : Int32) (x2 : Int32) (x3 : Int32) : Option (Unit × zMu) :=
  zlet (zsI u 34 8 ((zI u 34 8) - 2)) fun u1 =>
  zbd (ce_V_isNumberAt n 75 u1 (zI u1 34 8)) fun r2 u3 =>
  if r2 = 0 then
  (
    zbd (ce_M_fail n u3 1 x3) fun _ u6 =>
    some ((), u6)
  ) else (
    zbd (ce_V_isNumberAt n 75 u3 ((zI u3 34 8) + 1)) fun r7 u8 =>
    if r7 = 0 then
    (
      zbd (ce_M_fail n u8 1 x3) fun _ u11 =>
      some ((), u11)
    ) else (
      zgd (zpr (zR u8 34 6)) <|
      zlet (zR u8 34 6) fun p12 =>
      zbd (ce_P_isSite n p12 u8 x2) fun r13 u14 =>
      if r13 = 0 then
      (
        zbd (ce_M_fail n u14 1 x3) fun _ u17 =>
        some ((), u17)
      ) else (
        zbd (ce_V_numberAt n 75 u14 (zI u14 34 8)) fun r18 u19 =>
        zbd (ce_V_numberAt n 75 u19 ((zI u19 34 8) + 1)) fun r20 u21 =>
        zbd (ce_M_resultOf n u21 x1 r18 r20) fun r22 u23 =>
        zbd (ce_M_sortOf n u23 r22) fun r24 u25 =>
        zbd (ce_M_push n u25 r24 r22) fun _ u28 =>
        zbd (ce_T_meetSum n u28 x2 r24) fun _ u30 =>
        if r24 = 2 then
        (
          zbd (ce_T_hasGuess n u30 x2) fun r32 u33 =>
          if r32 = 0 then
          (
            some ((), u33)
          ) else (
            zbd (ce_M_leaveMade n u33 x2) fun _ u36 =>
            some ((), u36)
          )
        ) else (
          some ((), u30)
        )
      )
    )
  )
def ce_M_compare (n : Nat) (u : zMu) (x1 : Int32) : Option (Unit × zMu) :=
  zlet (zsI u 34 8 ((zI u 34 8) - 2)) fun u1 =>
  zbd (ce_V_isNumberAt n 75 u1 (zI u1 34 8)) fun r2 u3 =>
  if r2 = 0 then
  (
    zbd (ce_M_fail n u3 1 x1) fun _ u6 =>
    some ((), u6)
  ) else (
    zbd (ce_V_isNumberAt n 75 u3 ((zI u3 34 8) + 1)) fun r7 u8 =>
    if r7 = 0 then
    (
      zbd (ce_M_fail n u8 1 x1) fun _ u11 =>
      some ((), u11)
    ) else (
      zbd (ce_V_numberAt n 75 u8 (zI u8 34 8)) fun r12 u13 =>
      zbd (ce_V_numberAt n 75 u13 ((zI u13 34 8) + 1)) fun r14 u15 =>
      if lg_cmp r12 r14 < 0 then
      (
        zbd (ce_M_push n u15 1 1) fun _ u19 =>
        some ((), u19)
      ) else (
        zbd (ce_M_push n u15 1 0) fun _ u22 =>
        some ((), u22)
      )
    )
  )
def ce_M_equate_J70 (n : Nat) (u : zMu) (s0 : Int32) : Option (Unit × zMu) :=
  if s0 = 0 then
  (
    zbd (ce_M_push n u 1 0) fun _ u4 =>
    some ((), u4)
  ) else (
    zbd (ce_M_push n u 1 1) fun _ u7 =>
    some ((), u7)
  )
def ce_M_equate_J69 (n : Nat) (u : zMu) : Option (Unit × zMu) :=
  ce_M_equate_J70 n u 0
def ce_M_equate (n : Nat) (u : zMu) : Option (Unit × zMu) :=
  zlet (zsI u 34 8 ((zI u 34 8) - 2)) fun u1 =>
  zbd (ce_V_sortAt n 75 u1 (zI u1 34 8)) fun r2 u3 =>
  zbd (ce_V_sortAt n 75 u3 ((zI u3 34 8) + 1)) fun r4 u5 =>
  if r2 = r4 then
  (
    zbd (ce_V_numberAt n 75 u5 (zI u5 34 8)) fun r7 u8 =>
    zbd (ce_V_numberAt n 75 u8 ((zI u8 34 8) + 1)) fun r9 u10 =>
    if lg_cmp r7 r9 = 0 then
    (
      ce_M_equate_J70 n u10 1
    ) else (
      ce_M_equate_J69 n u10
    )
  ) else (
    ce_M_equate_J69 n u5
  )
def ce_M_makeObject_J63 (n : Nat) (u : zMu) (x1 : Int32) (s1 : Int32) : Option (Unit × zMu) :=
  zbd (ce_H_addObject n u s1) fun r2 u3 =>
  if r2 = (-1) then
  (
    zbd (ce_M_fail n u3 6 x1) fun _ u6 =>
    some ((), u6)
  ) else (
    zbd (ce_M_push n u3 3 (r2.toInt64)) fun _ u9 =>
    some ((), u9)
  )
def ce_M_makeObject_J38 (n : Nat) (u : zMu) (x1 : Int32) (x2 : Int32) : Option (Unit × zMu) :=
  if x2 = 3 then
  (
    zbd (ce_V_numberAt n 75 u (zI u 34 8)) fun r2 u3 =>
    ce_M_makeObject_J63 n u3 x1 (r2.toInt32)
  ) else (
    ce_M_makeObject_J63 n u x1 (-1)
  )
def ce_M_makeObject (n : Nat) (u : zMu) (x1 : Int32) : Option (Unit × zMu) :=
  zlet (zsI u 34 8 ((zI u 34 8) - 1)) fun u1 =>
  zbd (ce_V_sortAt n 75 u1 (zI u1 34 8)) fun r2 u3 =>
  if r2 = 3 then
  (
    ce_M_makeObject_J38 n u3 x1 r2
  ) else (
    if r2 = 0 then
    (
      ce_M_makeObject_J38 n u3 x1 r2
    ) else (
      zbd (ce_M_fail n u3 2 x1) fun _ u7 =>
      some ((), u7)
    )
  )
def ce_M_objectAt_J25 (n : Nat) (u : zMu) (x2 : Int32) (s0 : Int32) : Option (Int32 × zMu) :=
  zbd (ce_H_isObject n u s0) fun r1 u2 =>
  if r1 = 0 then
  (
    zbd (ce_M_fail n u2 2 x2) fun _ u5 =>
    some ((-1), u5)
  ) else (
    some (s0, u2)
  )
def ce_M_objectAt (n : Nat) (u : zMu) (x1 : Int32) (x2 : Int32) : Option (Int32 × zMu) :=
  zbd (ce_V_sortAt n 75 u x1) fun r1 u2 =>
  if r1 = 3 then
  (
    zbd (ce_V_numberAt n 75 u2 x1) fun r4 u5 =>
    ce_M_objectAt_J25 n u5 x2 (r4.toInt32)
  ) else (
    ce_M_objectAt_J25 n u2 x2 (-1)
  )
def ce_T_enter (n : Nat) (u : zMu) (x1 : Int32) (x2 : Int32) (x3 : Int32) : Option (Unit × zMu) :=
  zgd (zin x1 80) <|
  if zI u 52 (zx x1) < 4 then
  (
    zgd (zin x1 80) <|
    zlet ((x1 * 4) + (zI u 52 (zx x1))) fun v2 =>
    zgd (zin v2 320) <|
    zlet (zsI u 55 (zx v2) x2) fun u3 =>
    zgd (zin v2 320) <|
    zlet (zsI u3 56 (zx v2) x3) fun u4 =>
    zgd (zin x1 80) <|
    zgd (zin x1 80) <|
    zlet (zsI u4 52 (zx x1) ((zI u4 52 (zx x1)) + 1)) fun u5 =>
    some ((), u5)
  ) else (
    zgd (zin x1 80) <|
    zlet (zsI u 53 (zx x1) 1) fun u6 =>
    zgd (zin x1 80) <|
    zlet (zsI u6 52 (zx x1) 0) fun u7 =>
    some ((), u7)
  )
def ce_T_meets_L20 (n : Nat) : Nat → zMu → Int32 → Int32 → Int32 → Int32 → Option (Int32 × zMu)
  | 0, _, _, _, _, _ => none
  | m + 1, u, x1, x2, x3, x4 =>
    zgd (zin x1 80) <|
    if x4 < zI u 52 (zx x1) then
    (
      zgd (zin ((x1 * 4) + x4) 320) <|
      if zI u 55 (zx ((x1 * 4) + x4)) = x2 then
      (
        zgd (zin x1 80) <|
        zgd (zin x1 80) <|
        zlet (zsI u 51 (zx x1) ((zI u 51 (zx x1)) + 1)) fun u3 =>
        some (1, u3)
      ) else (
        zlet (x4 + 1) fun v4 =>
        ce_T_meets_L20 n m u x1 x2 x3 v4
      )
    ) else (
      zgd (zin x1 80) <|
      if zI u 53 (zx x1) = 0 then
      (
        zbd (ce_T_enter n u x1 x2 x3) fun _ u7 =>
        some (0, u7)
      ) else (
        some (0, u)
      )
    )
def ce_T_meets (n : Nat) (u : zMu) (x1 : Int32) (x2 : Int32) (x3 : Int32) : Option (Int32 × zMu) :=
  zgd (zin x1 80) <|
  zgd (zin x1 80) <|
  zlet (zsI u 50 (zx x1) ((zI u 50 (zx x1)) + 1)) fun u1 =>
  if x2 = (-1) then
  (
    some (0, u1)
  ) else (
    ce_T_meets_L20 n n u1 x1 x2 x3 0
  )
def ce_T_meetRead (n : Nat) (u : zMu) (x1 : Int32) (x2 : Int32) (x3 : Int32) : Option (Unit × zMu) :=
  zbd (ce_T_meets n u x1 x2 x3) fun r1 u2 =>
  if r1 = 0 then
  (
    zlet (zsI u2 49 10 ((zI u2 49 10) + 1)) fun u4 =>
    some ((), u4)
  ) else (
    zlet (zsI u2 49 9 ((zI u2 49 9) + 1)) fun u5 =>
    some ((), u5)
  )
def ce_T_guessed_L2 (n : Nat) : Nat → zMu → Int32 → Int32 → Int32 → Option (Int32 × zMu)
  | 0, _, _, _, _ => none
  | m + 1, u, x1, x2, x3 =>
    zgd (zin x1 80) <|
    if x3 < zI u 58 (zx x1) then
    (
      zgd (zin ((x1 * 4) + x3) 320) <|
      if zI u 57 (zx ((x1 * 4) + x3)) = x2 then
      (
        some (1, u)
      ) else (
        zlet (x3 + 1) fun v3 =>
        ce_T_guessed_L2 n m u x1 x2 v3
      )
    ) else (
      some (0, u)
    )
def ce_T_guessed (n : Nat) (u : zMu) (x1 : Int32) (x2 : Int32) : Option (Int32 × zMu) :=
  ce_T_guessed_L2 n n u x1 x2 0
def ce_M_getMember_J149 (n : Nat) (u : zMu) (s0 : Int32) : Option (Unit × zMu) :=
  zbd (ce_V_sortAt n 66 u s0) fun r1 u2 =>
  zbd (ce_V_numberAt n 66 u2 s0) fun r3 u4 =>
  zbd (ce_M_push n u4 r1 r3) fun _ u7 =>
  some ((), u7)
def ce_M_getMember_J128 (n : Nat) (u : zMu) (x4 : Int64) (x6 : Int32) : Option (Unit × zMu) :=
  if x6 = (-1) then
  (
    ce_M_getMember_J149 n u (-1)
  ) else (
    zbd (ce_H_find n u x6 x4) fun r2 u3 =>
    ce_M_getMember_J149 n u3 r2
  )
def ce_M_getMember_J96 (n : Nat) (u : zMu) (x1 : Int32) (x4 : Int64) (x6 : Int32) (x7 : Int32) (s1 : Int32) (s2 : Int32) (s3 : Int32) : Option (Unit × zMu) :=
  zbd (ce_T_meetRead n u s1 s2 s3) fun _ u2 =>
  zbd (ce_T_hasGuess n u2 x1) fun r3 u4 =>
  if r3 = 0 then
  (
    ce_M_getMember_J128 n u4 x4 x6
  ) else (
    zbd (ce_T_guessed n u4 x1 x7) fun r6 u7 =>
    if r6 = 0 then
    (
      zbd (ce_M_leaveMade n u7 x1) fun _ u10 =>
      ce_M_getMember_J128 n u10 x4 x6
    ) else (
      ce_M_getMember_J128 n u7 x4 x6
    )
  )
def ce_M_getMember (n : Nat) (u : zMu) (x1 : Int32) (x2 : Int32) : Option (Unit × zMu) :=
  zlet (zsI u 34 8 ((zI u 34 8) - 1)) fun u1 =>
  zbd (ce_M_objectAt n u1 (zI u1 34 8) x2) fun r2 u3 =>
  if r2 = (-1) then
  (
    some ((), u3)
  ) else (
    zgd (zpr (zR u3 34 6)) <|
    zlet (zR u3 34 6) fun p5 =>
    zbd (ce_P_isSite n p5 u3 x1) fun r6 u7 =>
    if r6 = 0 then
    (
      some ((), u7)
    ) else (
      zgd (zpr (zR u7 34 6)) <|
      zlet (zR u7 34 6) fun p9 =>
      zgd (zin x1 80) <|
      zlet (zL u7 (p9 + 7) (zx x1)) fun v10 =>
      zbd (ce_H_holderOf n u7 r2 v10) fun r11 u12 =>
      zgd (zin r2 200) <|
      zlet (zI u12 37 (zx r2)) fun v13 =>
      if r11 = r2 then
      (
        ce_M_getMember_J96 n u12 x1 v10 r11 v13 x1 v13 200
      ) else (
        zlet (if 0 < r11 then r11 else 0) fun v15 =>
        ce_M_getMember_J96 n u12 x1 v10 r11 v13 x1 v13 v15
      )
    )
  )
def ce_T_meetPut (n : Nat) (u : zMu) (x1 : Int32) (x2 : Int32) : Option (Unit × zMu) :=
  zbd (ce_T_meets n u x1 x2 200) fun r1 u2 =>
  some ((), u2)
def ce_S_isParent (n : Nat) (u : zMu) (x1 : Int32) : Option (Int32 × zMu) :=
  if x1 < 0 then
  (
    some (0, u)
  ) else (
    if x1 < 200 then
    (
      zgd (zin (x1 + 1) 201) <|
      if zI u 44 (zx (x1 + 1)) = (-1) then
      (
        some (0, u)
      ) else (
        some (1, u)
      )
    ) else (
      some (0, u)
    )
  )
def ce_S_parentOf (n : Nat) (u : zMu) (x1 : Int32) : Option (Int32 × zMu) :=
  zbd (ce_S_isShape n u x1) fun r1 u2 =>
  if r1 = 0 then
  (
    some ((-1), u2)
  ) else (
    zgd (zin x1 (zN u2 81)) <|
    some (zI u2 81 (zx x1), u2)
  )
def ce_T_isOnWay (n : Nat) (u : zMu) (x1 : Int32) (x2 : Int32) : Option (Int32 × zMu) :=
  zgd (zin x1 320) <|
  if x2 < zI u 56 (zx x1) then
  (
    some (0, u)
  ) else (
    zgd (zin x1 320) <|
    zbd (ce_S_parentOf n u (zI u 55 (zx x1))) fun r2 u3 =>
    if r2 = (-1) then
    (
      some (0, u3)
    ) else (
      zbd (ce_H_isOnLine n u3 r2 x2) fun r5 u6 =>
      if r5 = 0 then
      (
        some (0, u6)
      ) else (
        some (1, u6)
      )
    )
  )
def ce_T_breakWays_L39 (n : Nat) (k15 : zMu → Int32 → Int32 → Int32 → Option (Unit × zMu)) : Nat → zMu → Int32 → Int32 → Int32 → Int32 → Int32 → Int32 → Option (Unit × zMu)
  | 0, _, _, _, _, _, _, _ => none
  | m + 1, u, x1, x3, x4, x5, x6, x7 =>
    if x7 < (x4 * 4) + x6 then
    (
      zbd (ce_T_isOnWay n u x7 x1) fun r2 u3 =>
      if r2 = 0 then
      (
        zgd (zin x7 320) <|
        zgd (zin ((x4 * 4) + x5) 320) <|
        zlet (zsI u3 55 (zx ((x4 * 4) + x5)) (zI u3 55 (zx x7))) fun u5 =>
        zgd (zin x7 320) <|
        zgd (zin ((x4 * 4) + x5) 320) <|
        zlet (zsI u5 56 (zx ((x4 * 4) + x5)) (zI u5 56 (zx x7))) fun u6 =>
        zlet (x5 + 1) fun v7 =>
        zlet (x7 + 1) fun v8 =>
        ce_T_breakWays_L39 n k15 m u6 x1 x3 x4 v7 x6 v8
      ) else (
        zlet (x7 + 1) fun v9 =>
        ce_T_breakWays_L39 n k15 m u3 x1 x3 x4 x5 x6 v9
      )
    ) else (
      zgd (zin x4 80) <|
      zlet (zsI u 52 (zx x4) x5) fun u10 =>
      zlet (zsI u10 49 11 ((zI u10 49 11) + (x6 - x5))) fun u11 =>
      zlet (x4 + 1) fun v12 =>
      k15 u11 x1 x3 v12
    )
def ce_T_breakWays_L15 (n : Nat) : Nat → zMu → Int32 → Int32 → Int32 → Option (Unit × zMu)
  | 0, _, _, _, _ => none
  | m + 1, u, x1, x3, x4 =>
    if x4 < x3 then
    (
      zgd (zin x4 80) <|
      zlet (zI u 52 (zx x4)) fun v2 =>
      zlet (x4 * 4) fun v3 =>
      ce_T_breakWays_L39 n (ce_T_breakWays_L15 n m) n u x1 x3 x4 0 v2 v3
    ) else (
      some ((), u)
    )
def ce_T_breakWays (n : Nat) (u : zMu) (x1 : Int32) (x3 : Int32) : Option (Unit × zMu) :=
  zbd (ce_S_isParent n u x1) fun r1 u2 =>
  if r1 = 0 then
  (
    some ((), u2)
  ) else (
    ce_T_breakWays_L15 n n u2 x1 x3 0
  )
def ce_M_putMember (n : Nat) (u : zMu) (x1 : Int32) (x2 : Int32) : Option (Unit × zMu) :=
  zlet (zsI u 34 8 ((zI u 34 8) - 2)) fun u1 =>
  zbd (ce_M_objectAt n u1 (zI u1 34 8) x2) fun r2 u3 =>
  if r2 = (-1) then
  (
    some ((), u3)
  ) else (
    zgd (zpr (zR u3 34 6)) <|
    zlet (zR u3 34 6) fun p5 =>
    zbd (ce_P_isSite n p5 u3 x1) fun r6 u7 =>
    if r6 = 0 then
    (
      some ((), u7)
    ) else (
      zgd (zin r2 200) <|
      zbd (ce_T_meetPut n u7 x1 (zI u7 37 (zx r2))) fun _ u10 =>
      zgd (zpr (zR u10 34 6)) <|
      zlet (zR u10 34 6) fun p11 =>
      zbd (ce_T_breakWays n u10 r2 (zI u10 p11 8)) fun _ u13 =>
      zgd (zpr (zR u13 34 6)) <|
      zlet (zR u13 34 6) fun p14 =>
      zgd (zin x1 80) <|
      zbd (ce_V_sortAt n 75 u13 ((zI u13 34 8) + 1)) fun r15 u16 =>
      zbd (ce_V_numberAt n 75 u16 ((zI u16 34 8) + 1)) fun r17 u18 =>
      zbd (ce_H_give n u18 r2 (zL u13 (p14 + 7) (zx x1)) r15 r17) fun _ u21 =>
      some ((), u21)
    )
  )
def ce_T_meetStrike (n : Nat) (u : zMu) (x1 : Int32) : Option (Unit × zMu) :=
  zgd (zin x1 80) <|
  zgd (zin x1 80) <|
  zlet (zsI u 50 (zx x1) ((zI u 50 (zx x1)) + 1)) fun u1 =>
  some ((), u1)
def ce_M_strikeMember (n : Nat) (u : zMu) (x1 : Int32) (x2 : Int32) : Option (Unit × zMu) :=
  zlet (zsI u 34 8 ((zI u 34 8) - 1)) fun u1 =>
  zbd (ce_M_objectAt n u1 (zI u1 34 8) x2) fun r2 u3 =>
  if r2 = (-1) then
  (
    some ((), u3)
  ) else (
    zgd (zpr (zR u3 34 6)) <|
    zlet (zR u3 34 6) fun p5 =>
    zbd (ce_P_isSite n p5 u3 x1) fun r6 u7 =>
    if r6 = 0 then
    (
      some ((), u7)
    ) else (
      zbd (ce_T_meetStrike n u7 x1) fun _ u10 =>
      zgd (zpr (zR u10 34 6)) <|
      zlet (zR u10 34 6) fun p11 =>
      zgd (zin x1 80) <|
      zbd (ce_H_find n u10 r2 (zL u10 (p11 + 7) (zx x1))) fun r12 u13 =>
      if r12 = (-1) then
      (
        some ((), u13)
      ) else (
        zgd (zpr (zR u13 34 6)) <|
        zlet (zR u13 34 6) fun p15 =>
        zbd (ce_T_breakWays n u13 r2 (zI u13 p15 8)) fun _ u17 =>
        zgd (zpr (zR u17 34 6)) <|
        zlet (zR u17 34 6) fun p18 =>
        zgd (zin x1 80) <|
        zbd (ce_H_strike n u17 r2 (zL u17 (p18 + 7) (zx x1))) fun _ u20 =>
        some ((), u20)
      )
    )
  )
def ce_R_addRow_L46 (n : Nat) : Nat → zMu → Int32 → Int32 → Option (Int32 × zMu)
  | 0, _, _, _ => none
  | m + 1, u, x1, x2 =>
    if x2 < x1 then
    (
      zbd (ce_V_set n 69 u ((zI u 45 4) + x2) 1 0) fun _ u4 =>
      zlet (x2 + 1) fun v5 =>
      ce_R_addRow_L46 n m u4 x1 v5
    ) else (
      zlet (zsI u 45 4 ((zI u 45 4) + x1)) fun u6 =>
      zlet (zI u6 45 5) fun v7 =>
      zlet (zsI u6 45 5 (v7 + 1)) fun u8 =>
      some (v7, u8)
    )
def ce_R_addRow (n : Nat) (u : zMu) (x1 : Int32) : Option (Int32 × zMu) :=
  if zI u 45 5 < 60 then
  (
    zgd (zin (zI u 45 5) 60) <|
    zlet (zsI u 46 (zx (zI u 45 5)) 0) fun u2 =>
    zgd (zin (zI u2 45 5) 60) <|
    zlet (zsI u2 47 (zx (zI u2 45 5)) x1) fun u3 =>
    zgd (zin (zI u3 45 5) 60) <|
    zlet (zsI u3 48 (zx (zI u3 45 5)) (zI u3 45 4)) fun u4 =>
    ce_R_addRow_L46 n n u4 x1 0
  ) else (
    some ((-1), u)
  )
def ce_M_makeRow (n : Nat) (u : zMu) (x1 : Int32) : Option (Unit × zMu) :=
  zlet (zsI u 34 8 ((zI u 34 8) - 1)) fun u1 =>
  zbd (ce_V_numberAt n 75 u1 (zI u1 34 8)) fun r2 u3 =>
  zbd (ce_V_isNumberAt n 75 u3 (zI u3 34 8)) fun r4 u5 =>
  if r4 = 0 then
  (
    zbd (ce_M_fail n u5 1 x1) fun _ u8 =>
    some ((), u8)
  ) else (
    if lg_cmp r2 0 < 0 then
    (
      zbd (ce_M_fail n u5 4 x1) fun _ u11 =>
      some ((), u11)
    ) else (
      if 0 < lg_cmp r2 50 then
      (
        zbd (ce_M_fail n u5 4 x1) fun _ u14 =>
        some ((), u14)
      ) else (
        zbd (ce_R_addRow n u5 (r2.toInt32)) fun r16 u17 =>
        if r16 = (-1) then
        (
          zbd (ce_M_fail n u17 6 x1) fun _ u20 =>
          some ((), u20)
        ) else (
          zbd (ce_M_push n u17 4 (r16.toInt64)) fun _ u23 =>
          some ((), u23)
        )
      )
    )
  )
def ce_R_isRow (n : Nat) (u : zMu) (x1 : Int32) : Option (Int32 × zMu) :=
  if x1 < 0 then
  (
    some (0, u)
  ) else (
    if x1 < zI u 45 5 then
    (
      some (1, u)
    ) else (
      some (0, u)
    )
  )
def ce_R_placeOf (n : Nat) (u : zMu) (x1 : Int32) (x2 : Int64) : Option (Int32 × zMu) :=
  zbd (ce_R_isRow n u x1) fun r1 u2 =>
  if r1 = 0 then
  (
    some ((-1), u2)
  ) else (
    if lg_cmp x2 0 < 0 then
    (
      some ((-1), u2)
    ) else (
      zgd (zin x1 60) <|
      if lg_cmp x2 ((zI u2 47 (zx x1)).toInt64) < 0 then
      (
        zgd (zin x1 60) <|
        some ((zI u2 48 (zx x1)) + (x2.toInt32), u2)
      ) else (
        some ((-1), u2)
      )
    )
  )
def ce_M_itemAt (n : Nat) (u : zMu) (x1 : Int32) : Option (Int32 × zMu) :=
  zbd (ce_V_sortAt n 75 u (zI u 34 8)) fun r1 u2 =>
  if r1 = 4 then
  (
    zbd (ce_V_isNumberAt n 75 u2 ((zI u2 34 8) + 1)) fun r4 u5 =>
    if r4 = 0 then
    (
      zbd (ce_M_fail n u5 1 x1) fun _ u8 =>
      some ((-1), u8)
    ) else (
      zbd (ce_V_numberAt n 75 u5 (zI u5 34 8)) fun r9 u10 =>
      zbd (ce_V_numberAt n 75 u10 ((zI u10 34 8) + 1)) fun r11 u12 =>
      zbd (ce_R_placeOf n u12 (r9.toInt32) r11) fun r13 u14 =>
      if r13 = (-1) then
      (
        zbd (ce_M_fail n u14 3 x1) fun _ u17 =>
        some (r13, u17)
      ) else (
        some (r13, u14)
      )
    )
  ) else (
    zbd (ce_M_fail n u2 2 x1) fun _ u19 =>
    some ((-1), u19)
  )
def ce_M_getItem (n : Nat) (u : zMu) (x1 : Int32) : Option (Unit × zMu) :=
  zlet (zsI u 34 8 ((zI u 34 8) - 2)) fun u1 =>
  zbd (ce_M_itemAt n u1 x1) fun r2 u3 =>
  if r2 = (-1) then
  (
    some ((), u3)
  ) else (
    zbd (ce_V_sortAt n 69 u3 r2) fun r5 u6 =>
    zbd (ce_V_numberAt n 69 u6 r2) fun r7 u8 =>
    zbd (ce_M_push n u8 r5 r7) fun _ u11 =>
    some ((), u11)
  )
def ce_R_neededFor (n : Nat) (u : zMu) (x0 : Int32) (x1 : Int64) : Option (Int32 × zMu) :=
  if x0 = 1 then
  (
    if lg_cmp x1 (-128) < 0 then
    (
      some (1, u)
    ) else (
      if 0 < lg_cmp x1 127 then
      (
        some (1, u)
      ) else (
        some (0, u)
      )
    )
  ) else (
    some (2, u)
  )
def ce_R_putAt (n : Nat) (u : zMu) (x1 : Int32) (x2 : Int32) (x3 : Int32) (x4 : Int64) : Option (Unit × zMu) :=
  zbd (ce_R_isRow n u x1) fun r1 u2 =>
  if r1 = 0 then
  (
    some ((), u2)
  ) else (
    zbd (ce_R_neededFor n u2 x3 x4) fun r4 u5 =>
    zgd (zin x1 60) <|
    if zI u5 46 (zx x1) < r4 then
    (
      zgd (zin x1 60) <|
      zlet (zsI u5 46 (zx x1) r4) fun u7 =>
      zlet (zsI u7 45 6 ((zI u7 45 6) + 1)) fun u8 =>
      zbd (ce_V_set n 69 u8 x2 x3 x4) fun _ u11 =>
      some ((), u11)
    ) else (
      zbd (ce_V_set n 69 u5 x2 x3 x4) fun _ u14 =>
      some ((), u14)
    )
  )
def ce_M_putItem (n : Nat) (u : zMu) (x1 : Int32) : Option (Unit × zMu) :=
  zlet (zsI u 34 8 ((zI u 34 8) - 3)) fun u1 =>
  zbd (ce_M_itemAt n u1 x1) fun r2 u3 =>
  if r2 = (-1) then
  (
    some ((), u3)
  ) else (
    zbd (ce_V_numberAt n 75 u3 (zI u3 34 8)) fun r5 u6 =>
    zbd (ce_V_sortAt n 75 u6 ((zI u6 34 8) + 2)) fun r7 u8 =>
    zbd (ce_V_numberAt n 75 u8 ((zI u8 34 8) + 2)) fun r9 u10 =>
    zbd (ce_R_putAt n u10 (r5.toInt32) r2 r7 r9) fun _ u13 =>
    some ((), u13)
  )
def ce_M_measure_J69 (n : Nat) (u : zMu) (x1 : Int32) (x2 : Int32) (x3 : Int32) : Option (Unit × zMu) :=
  if x2 = 3 then
  (
    zbd (ce_H_isObject n u x3) fun r2 u3 =>
    if r2 = 0 then
    (
      zbd (ce_M_fail n u3 2 x1) fun _ u6 =>
      some ((), u6)
    ) else (
      zgd (zin x3 200) <|
      zbd (ce_M_push n u3 1 ((zI u3 39 (zx x3)).toInt64)) fun _ u9 =>
      some ((), u9)
    )
  ) else (
    zbd (ce_M_fail n u 2 x1) fun _ u11 =>
    some ((), u11)
  )
def ce_M_measure (n : Nat) (u : zMu) (x1 : Int32) : Option (Unit × zMu) :=
  zlet (zsI u 34 8 ((zI u 34 8) - 1)) fun u1 =>
  zbd (ce_V_sortAt n 75 u1 (zI u1 34 8)) fun r2 u3 =>
  zbd (ce_V_numberAt n 75 u3 (zI u3 34 8)) fun r4 u5 =>
  zlet (r4.toInt32) fun v6 =>
  if r2 = 4 then
  (
    zbd (ce_R_isRow n u5 v6) fun r8 u9 =>
    if r8 = 0 then
    (
      ce_M_measure_J69 n u9 x1 r2 v6
    ) else (
      zgd (zin v6 60) <|
      zbd (ce_M_push n u9 1 ((zI u9 47 (zx v6)).toInt64)) fun _ u13 =>
      some ((), u13)
    )
  ) else (
    ce_M_measure_J69 n u5 x1 r2 v6
  )
def ce_T_guessShapes_L14 (n : Nat) : Nat → zMu → Int32 → Int32 → Option (Unit × zMu)
  | 0, _, _, _ => none
  | m + 1, u, x1, x2 =>
    zgd (zin x1 80) <|
    if x2 < zI u 52 (zx x1) then
    (
      zgd (zin ((x1 * 4) + x2) 320) <|
      zgd (zin ((x1 * 4) + x2) 320) <|
      zlet (zsI u 57 (zx ((x1 * 4) + x2)) (zI u 55 (zx ((x1 * 4) + x2)))) fun u2 =>
      zlet (x2 + 1) fun v3 =>
      ce_T_guessShapes_L14 n m u2 x1 v3
    ) else (
      some ((), u)
    )
def ce_T_guessShapes (n : Nat) (u : zMu) (x1 : Int32) : Option (Unit × zMu) :=
  zgd (zin x1 80) <|
  zgd (zin x1 80) <|
  zlet (zsI u 58 (zx x1) (zI u 52 (zx x1))) fun u1 =>
  ce_T_guessShapes_L14 n n u1 x1 0
def ce_T_takeGuesses_L2 (n : Nat) (p1 : Nat) : Nat → zMu → Int32 → Int32 → Option (Unit × zMu)
  | 0, _, _, _ => none
  | m + 1, u, x2, x3 =>
    if x3 < zI u p1 8 then
    (
      zgd (zin x3 80) <|
      if zI u (p1 + 6) (zx x3) = x2 then
      (
        zgd (zin x3 80) <|
        if zI u (p1 + 4) (zx x3) = 0 then
        (
          zbd (ce_T_guessShapes n u x3) fun _ u5 =>
          zlet (x3 + 1) fun v6 =>
          ce_T_takeGuesses_L2 n p1 m u5 x2 v6
        ) else (
          zgd (zin x3 80) <|
          if zI u (p1 + 4) (zx x3) = 3 then
          (
            zgd (zin x3 80) <|
            if zI u 54 (zx x3) = 1 then
            (
              zgd (zin x3 80) <|
              zlet (zsI u 58 (zx x3) 1) fun u9 =>
              zlet (x3 + 1) fun v10 =>
              ce_T_takeGuesses_L2 n p1 m u9 x2 v10
            ) else (
              zgd (zin x3 80) <|
              zlet (zsI u 58 (zx x3) 0) fun u11 =>
              zlet (x3 + 1) fun v12 =>
              ce_T_takeGuesses_L2 n p1 m u11 x2 v12
            )
          ) else (
            zlet (x3 + 1) fun v13 =>
            ce_T_takeGuesses_L2 n p1 m u x2 v13
          )
        )
      ) else (
        zlet (x3 + 1) fun v14 =>
        ce_T_takeGuesses_L2 n p1 m u x2 v14
      )
    ) else (
      some ((), u)
    )
def ce_T_takeGuesses (n : Nat) (p1 : Nat) (u : zMu) (x2 : Int32) : Option (Unit × zMu) :=
  ce_T_takeGuesses_L2 n p1 n u x2 0
def ce_M_enter_L130 (n : Nat) : Nat → zMu → Int32 → Int32 → Option (Unit × zMu)
  | 0, _, _, _ => none
  | m + 1, u, x1, x3 =>
    zgd (zpr (zR u 34 6)) <|
    zlet (zR u 34 6) fun p1 =>
    zgd (zin x1 8) <|
    if x3 < zI u (p1 + 10) (zx x1) then
    (
      zbd (ce_V_sortAt n 75 u ((zI u 34 8) + x3)) fun r3 u4 =>
      zbd (ce_V_numberAt n 75 u4 ((zI u4 34 8) + x3)) fun r5 u6 =>
      zbd (ce_V_set n 78 u6 (((zI u 34 11) * 12) + x3) r3 r5) fun _ u9 =>
      zlet (x3 + 1) fun v10 =>
      ce_M_enter_L130 n m u9 x1 v10
    ) else (
      zgd (zpr (zR u 34 6)) <|
      zlet (zR u 34 6) fun p11 =>
      zgd (zin x1 8) <|
      zlet (zsI u 34 13 (zI u (p11 + 9) (zx x1))) fun u12 =>
      some ((), u12)
    )
def ce_M_enter_J68 (n : Nat) (u : zMu) (x1 : Int32) : Option (Unit × zMu) :=
  zgd (zin (zI u 34 11) 12) <|
  zlet (zsI u 35 (zx (zI u 34 11)) (zI u 34 13)) fun u1 =>
  zlet (zsI u1 34 11 ((zI u1 34 11) + 1)) fun u2 =>
  zlet (if zI u2 34 12 < zI u2 34 11 then zI u2 34 11 else zI u2 34 12) fun v3 =>
  zlet (zsI u2 34 12 v3) fun u4 =>
  zbd (ce_M_clearVariables n u4) fun _ u7 =>
  zgd (zpr (zR u7 34 6)) <|
  zlet (zR u7 34 6) fun p8 =>
  zgd (zin x1 8) <|
  zlet (zsI u7 34 8 ((zI u7 34 8) - (zI u7 (p8 + 10) (zx x1)))) fun u9 =>
  ce_M_enter_L130 n n u9 x1 0
def ce_M_enter (n : Nat) (u : zMu) (x1 : Int32) (x2 : Int32) : Option (Unit × zMu) :=
  zgd (zpr (zR u 34 6)) <|
  zlet (zR u 34 6) fun p1 =>
  zbd (ce_P_isFn n p1 u x1) fun r2 u3 =>
  if r2 = 0 then
  (
    some ((), u3)
  ) else (
    zbd (ce_M_takeStep n u3) fun r5 u6 =>
    if r5 = 0 then
    (
      some ((), u6)
    ) else (
      if zI u6 34 11 < 12 then
      (
        zlet (zsI u6 34 16 ((zI u6 34 16) + 1)) fun u9 =>
        zbd (ce_F_makes n u9 x1) fun r10 u11 =>
        if r10 = 0 then
        (
          ce_M_enter_J68 n u11 x1
        ) else (
          zgd (zpr (zR u11 34 6)) <|
          zlet (zR u11 34 6) fun p13 =>
          zbd (ce_T_takeGuesses n p13 u11 x1) fun _ u15 =>
          ce_M_enter_J68 n u15 x1
        )
      ) else (
        zbd (ce_M_fail n u6 5 x2) fun _ u17 =>
        some ((), u17)
      )
    )
  )
def ce_M_leave (n : Nat) (u : zMu) : Option (Unit × zMu) :=
  if zI u 34 11 = 0 then
  (
    zlet (zsI u 34 17 0) fun u2 =>
    some ((), u2)
  ) else (
    zlet (zsI u 34 11 ((zI u 34 11) - 1)) fun u3 =>
    zgd (zin (zI u3 34 11) 12) <|
    zlet (zsI u3 34 13 (zI u3 35 (zx (zI u3 34 11)))) fun u4 =>
    some ((), u4)
  )
def ce_M_print (n : Nat) (u : zMu) : Option (Unit × zMu) :=
  zlet (zsI u 34 8 ((zI u 34 8) - 1)) fun u1 =>
  zbd (ce_V_sortAt n 75 u1 (zI u1 34 8)) fun r2 u3 =>
  zbd (ce_V_numberAt n 75 u3 (zI u3 34 8)) fun r4 u5 =>
  zbd (ce_V_set n 72 u5 (zI u1 34 5) r2 r4) fun _ u8 =>
  zlet (zsI u8 34 5 ((zI u8 34 5) + 1)) fun u9 =>
  some ((), u9)
def ce_M_branch (n : Nat) (u : zMu) (x1 : Int32) (x2 : Int32) : Option (Unit × zMu) :=
  zlet (zsI u 34 8 ((zI u 34 8) - 1)) fun u1 =>
  zbd (ce_V_isNumberAt n 75 u1 (zI u1 34 8)) fun r2 u3 =>
  if r2 = 0 then
  (
    zbd (ce_M_fail n u3 1 x2) fun _ u6 =>
    some ((), u6)
  ) else (
    zbd (ce_V_numberAt n 75 u3 (zI u3 34 8)) fun r7 u8 =>
    if lg_cmp r7 0 = 0 then
    (
      zlet (zsI u8 34 13 x1) fun u10 =>
      some ((), u10)
    ) else (
      some ((), u8)
    )
  )
def ce_M_perform (n : Nat) (u : zMu) : Option (Unit × zMu) :=
  if zI u 34 13 < 0 then
  (
    zlet (zsI u 34 17 0) fun u2 =>
    some ((), u2)
  ) else (
    zgd (zpr (zR u 34 6)) <|
    zlet (zR u 34 6) fun p3 =>
    if zI u 34 13 < zI u p3 3 then
    (
      zgd (zpr (zR u 34 6)) <|
      zlet (zR u 34 6) fun p5 =>
      zgd (zin (zI u 34 13) 2400) <|
      zlet (zI u (p5 + 1) (zx (zI u 34 13))) fun v6 =>
      zgd (zpr (zR u 34 6)) <|
      zlet (zR u 34 6) fun p7 =>
      zgd (zin (zI u 34 13) 2400) <|
      zlet (zI u (p7 + 2) (zx (zI u 34 13))) fun v8 =>
      zgd (zpr (zR u 34 6)) <|
      zlet (zR u 34 6) fun p9 =>
      zgd (zin (zI u 34 13) 2400) <|
      zlet (zI u (p9 + 3) (zx (zI u 34 13))) fun v10 =>
      zlet (zsI u 34 13 ((zI u 34 13) + 1)) fun u11 =>
      if v6 = 0 then
      (
        zbd (ce_M_takeStep n u11) fun r12 u13 =>
        some ((), u13)
      ) else (
      if v6 = 1 then
      (
        zbd (ce_M_push n u11 1 (v8.toInt64)) fun _ u17 =>
        some ((), u17)
      ) else (
      if v6 = 2 then
      (
        zbd (ce_M_push n u11 0 0) fun _ u21 =>
        some ((), u21)
      ) else (
      if v6 = 3 then
      (
        zbd (ce_M_fetch n u11 (((zI u11 34 11) * 12) + v8)) fun _ u25 =>
        some ((), u25)
      ) else (
      if v6 = 4 then
      (
        zbd (ce_M_store n u11 (((zI u11 34 11) * 12) + v8)) fun _ u29 =>
        some ((), u29)
      ) else (
      if v6 = 5 then
      (
        zlet (zsI u11 34 8 ((zI u11 34 8) - 1)) fun u31 =>
        some ((), u31)
      ) else (
      if v6 = 6 then
      (
        zbd (ce_M_negate n u11 v10) fun _ u35 =>
        some ((), u35)
      ) else (
      if v6 = 7 then
      (
        zbd (ce_M_calculate n u11 v6 v8 v10) fun _ u39 =>
        some ((), u39)
      ) else (
      if v6 = 8 then
      (
        zbd (ce_M_calculate n u11 v6 v8 v10) fun _ u43 =>
        some ((), u43)
      ) else (
      if v6 = 9 then
      (
        zbd (ce_M_calculate n u11 v6 v8 v10) fun _ u47 =>
        some ((), u47)
      ) else (
      if v6 = 10 then
      (
        zbd (ce_M_compare n u11 v10) fun _ u51 =>
        some ((), u51)
      ) else (
      if v6 = 11 then
      (
        zbd (ce_M_equate n u11) fun _ u55 =>
        some ((), u55)
      ) else (
      if v6 = 12 then
      (
        zbd (ce_M_makeObject n u11 v10) fun _ u59 =>
        some ((), u59)
      ) else (
      if v6 = 13 then
      (
        zbd (ce_M_getMember n u11 v8 v10) fun _ u63 =>
        some ((), u63)
      ) else (
      if v6 = 14 then
      (
        zbd (ce_M_putMember n u11 v8 v10) fun _ u67 =>
        some ((), u67)
      ) else (
      if v6 = 15 then
      (
        zbd (ce_M_strikeMember n u11 v8 v10) fun _ u70 =>
        some ((), u70)
      ) else (
      if v6 = 16 then
      (
        zbd (ce_M_makeRow n u11 v10) fun _ u74 =>
        some ((), u74)
      ) else (
      if v6 = 17 then
      (
        zbd (ce_M_getItem n u11 v10) fun _ u78 =>
        some ((), u78)
      ) else (
      if v6 = 18 then
      (
        zbd (ce_M_putItem n u11 v10) fun _ u82 =>
        some ((), u82)
      ) else (
      if v6 = 19 then
      (
        zbd (ce_M_measure n u11 v10) fun _ u86 =>
        some ((), u86)
      ) else (
      if v6 = 20 then
      (
        zbd (ce_M_enter n u11 v8 v10) fun _ u90 =>
        some ((), u90)
      ) else (
      if v6 = 21 then
      (
        zbd (ce_M_leave n u11) fun _ u93 =>
        some ((), u93)
      ) else (
      if v6 = 22 then
      (
        zbd (ce_M_print n u11) fun _ u97 =>
        some ((), u97)
      ) else (
      if v6 = 23 then
      (
        zlet (zsI u11 34 13 v8) fun u99 =>
        some ((), u99)
      ) else (
      if v6 = 24 then
      (
        zbd (ce_M_branch n u11 v8 v10) fun _ u102 =>
        some ((), u102)
      ) else (
        zlet (zsI u11 34 17 0) fun u104 =>
        some ((), u104)
      )))))))))))))))))))))))))
    ) else (
      zlet (zsI u 34 17 0) fun u105 =>
      some ((), u105)
    )
  )
def ce_M_execute_L40 (n : Nat) : Nat → zMu → Int64 → Int64 → Option (Int32 × zMu)
  | 0, _, _, _ => none
  | m + 1, u, x2, x4 =>
    if lg_cmp x4 x2 < 0 then
    (
      if zI u 34 17 = (-1) then
      (
        zbd (ce_M_perform n u) fun _ u5 =>
        zlet (x4 + 1) fun v6 =>
        ce_M_execute_L40 n m u5 x2 v6
      ) else (
        some (zI u 34 17, u)
      )
    ) else (
      some (zI u 34 17, u)
    )
def ce_M_execute (n : Nat) (u : zMu) (x1 : Int32) : Option (Int32 × zMu) :=
  zlet (zsI u 34 14 x1) fun u1 =>
  zgd (zpr (zR u1 34 6)) <|
  zlet (zR u1 34 6) fun p2 =>
  zlet (zsI u1 34 13 (zI u1 p2 13)) fun u3 =>
  zlet (zsI u3 34 17 (-1)) fun u4 =>
  zbd (ce_M_clearVariables n u4) fun _ u7 =>
  zlet ((((zI u7 34 14).toInt64) + 1) * 2400) fun v8 =>
  ce_M_execute_L40 n n u7 v8 0
def ce_M_keptOnPaper (n : Nat) (u : zMu) : Option (Int32 × zMu) :=
  zlet (if 200 < zI u 34 5 then 200 else zI u 34 5) fun v1 =>
  some (v1, u)
def ce_M_tellOfRun (n : Nat) (u : zMu) (x1 : Int32) : Option (Int32 × zMu) :=
  if x1 = 0 then
  (
    some (zI u 34 18, u)
  ) else (
  if x1 = 1 then
  (
    some (zI u 34 19, u)
  ) else (
  if x1 = 2 then
  (
    some (zI u 34 15, u)
  ) else (
  if x1 = 3 then
  (
    some (zI u 34 16, u)
  ) else (
  if x1 = 4 then
  (
    some (zI u 36 7, u)
  ) else (
  if x1 = 5 then
  (
    some (zI u 43 8, u)
  ) else (
  if x1 = 6 then
  (
    some (zI u 45 5, u)
  ) else (
    some (zI u 34 5, u)
  )))))))
def ce_M_tellOfCaches (n : Nat) (u : zMu) (x1 : Int32) : Option (Int32 × zMu) :=
  if x1 = 8 then
  (
    some (zI u 36 8, u)
  ) else (
  if x1 = 9 then
  (
    some (zI u 49 9, u)
  ) else (
  if x1 = 10 then
  (
    some (zI u 49 10, u)
  ) else (
  if x1 = 11 then
  (
    some (zI u 49 11, u)
  ) else (
  if x1 = 12 then
  (
    some (zI u 59 6, u)
  ) else (
  if x1 = 13 then
  (
    some (zI u 59 7, u)
  ) else (
  if x1 = 14 then
  (
    some (zI u 45 6, u)
  ) else (
    some (zI u 34 12, u)
  )))))))
def ce_T_entryAt (n : Nat) (u : zMu) (x1 : Int32) (x2 : Int32) : Option (Int32 × zMu) :=
  if x2 < 0 then
  (
    some ((-1), u)
  ) else (
    zgd (zin x1 80) <|
    if x2 < zI u 52 (zx x1) then
    (
      zgd (zin ((x1 * 4) + x2) 320) <|
      some (zI u 55 (zx ((x1 * 4) + x2)), u)
    ) else (
      some ((-1), u)
    )
  )
def ce_V_worthAt (n : Nat) (v : Nat) (u : zMu) (x1 : Int32) : Option (Int64 × zMu) :=
  zbd (ce_V_isNumberAt n v u x1) fun r1 u2 =>
  if r1 = 0 then
  (
    some (0, u2)
  ) else (
    zbd (ce_V_numberAt n v u2 x1) fun r4 u5 =>
    some (r4, u5)
  )
def ce_V_referenceAt (n : Nat) (v : Nat) (u : zMu) (x1 : Int32) : Option (Int32 × zMu) :=
  zbd (ce_V_isNumberAt n v u x1) fun r1 u2 =>
  if r1 = 0 then
  (
    zbd (ce_V_numberAt n v u2 x1) fun r4 u5 =>
    some (r4.toInt32, u5)
  ) else (
    some (0, u2)
  )
def ce_E_feed_L32 (n : Nat) : Nat → zMu → Int32 → Int64 → Int32 → Option (Int32 × zMu)
  | 0, _, _, _, _ => none
  | m + 1, u, x1, x2, x4 =>
    if x4 < x1 then
    (
      zgd (zin ((zI u 0 1) + x4) 1500) <|
      zlet (zsI u 1 (zx ((zI u 0 1) + x4)) (vp_nar .byte ((((x2.toUInt64 >>> ((8 * x4).toInt64.toUInt64 &&& Int64.toUInt64 63)).toInt64).toInt32).toInt8.toInt32))) fun u2 =>
      zlet (x4 + 1) fun v3 =>
      ce_E_feed_L32 n m u2 x1 x2 v3
    ) else (
      zlet (zsI u 0 1 ((zI u 0 1) + x1)) fun u4 =>
      some (zI u4 0 1, u4)
    )
def ce_E_feed (n : Nat) (u : zMu) (x1 : Int32) (x2 : Int64) : Option (Int32 × zMu) :=
  if x1 < 1 then
  (
    some ((-2), u)
  ) else (
    if 8 < x1 then
    (
      some ((-2), u)
    ) else (
      if 1500 < (zI u 0 1) + x1 then
      (
        some ((-4), u)
      ) else (
        ce_E_feed_L32 n n u x1 x2 0
      )
    )
  )
def ce_E_read (n k : Nat) (u : zMu) : Option (Int32 × zMu) :=
  zgd (zpr (zR u 0 5)) <|
  zlet (zR u 0 5) fun p1 =>
  zbd (ce_C_compile n k p1 u (zI u 0 1)) fun _ u3 =>
  zlet (zsI u3 0 1 0) fun u4 =>
  if zI u4 2 3 = 0 then
  (
    zgd (zpr (zR u4 0 4)) <|
    zlet (zR u4 0 4) fun p6 =>
    zgd (zpr (zR u4 0 5)) <|
    zlet (zR u4 0 5) fun p7 =>
    zlet (zsR u4 0 4 p7) fun u8 =>
    zlet (zsR u8 0 5 p6) fun u9 =>
    zlet (zsI u9 0 6 1) fun u10 =>
    zgd (zpr (zR u10 0 4)) <|
    zlet (zR u10 0 4) fun p11 =>
    zbd (ce_M_load n p11 u10) fun _ u13 =>
    zgd (zpr (zR u13 0 4)) <|
    zlet (zR u13 0 4) fun p14 =>
    some (zI u13 p14 8, u13)
  ) else (
    some ((-10) - (zI u4 2 3), u4)
  )
def ce_E_fault (n : Nat) (u : zMu) (x1 : Int32) : Option (Int32 × zMu) :=
  if x1 = 0 then
  (
    some (zI u 2 3, u)
  ) else (
    if x1 = 1 then
    (
      some (zI u 2 4, u)
    ) else (
      some ((-2), u)
    )
  )
def ce_E_run (n : Nat) (u : zMu) (x1 : Int32) : Option (Int32 × zMu) :=
  if x1 < 1 then
  (
    some ((-2), u)
  ) else (
    if 20000 < x1 then
    (
      some ((-2), u)
    ) else (
      if zI u 0 6 = 0 then
      (
        some ((-3), u)
      ) else (
        zgd (zpr (zR u 0 4)) <|
        zlet (zR u 0 4) fun p4 =>
        zbd (ce_M_load n p4 u) fun _ u6 =>
        zbd (ce_M_execute n u6 x1) fun r8 u9 =>
        some (r8, u9)
      )
    )
  )
def ce_E_told (n : Nat) (u : zMu) (x1 : Int32) : Option (Int32 × zMu) :=
  if x1 < 0 then
  (
    some ((-2), u)
  ) else (
    if 15 < x1 then
    (
      some ((-2), u)
    ) else (
      if x1 < 8 then
      (
        zbd (ce_M_tellOfRun n u x1) fun r4 u5 =>
        some (r4, u5)
      ) else (
        zbd (ce_M_tellOfCaches n u x1) fun r6 u7 =>
        some (r6, u7)
      )
    )
  )
def ce_E_paper (n : Nat) (u : zMu) (x1 : Int32) (x2 : Int32) : Option (Int32 × zMu) :=
  if x2 < 0 then
  (
    some ((-2), u)
  ) else (
    if 1 < x2 then
    (
      some ((-2), u)
    ) else (
      if x1 < 0 then
      (
        some ((-1), u)
      ) else (
        zbd (ce_M_keptOnPaper n u) fun r4 u5 =>
        if x1 < r4 then
        (
          if x2 = 0 then
          (
            zbd (ce_V_sortAt n 72 u5 x1) fun r8 u9 =>
            some (r8, u9)
          ) else (
            zbd (ce_V_referenceAt n 72 u5 x1) fun r10 u11 =>
            some (r10, u11)
          )
        ) else (
          some ((-1), u5)
        )
      )
    )
  )
def ce_E_printed (n : Nat) (u : zMu) (x1 : Int32) : Option (Int64 × zMu) :=
  if x1 < 0 then
  (
    some (0, u)
  ) else (
    zbd (ce_M_keptOnPaper n u) fun r2 u3 =>
    if x1 < r2 then
    (
      zbd (ce_V_worthAt n 72 u3 x1) fun r5 u6 =>
      some (r5, u6)
    ) else (
      some (0, u3)
    )
  )
def ce_E_object (n : Nat) (u : zMu) (x1 : Int32) (x2 : Int32) : Option (Int32 × zMu) :=
  zbd (ce_H_isObject n u x1) fun r1 u2 =>
  if r1 = 0 then
  (
    some ((-2), u2)
  ) else (
    if x2 = 0 then
    (
      zgd (zin x1 200) <|
      some (zI u2 37 (zx x1), u2)
    ) else (
    if x2 = 1 then
    (
      zgd (zin x1 200) <|
      some (zI u2 38 (zx x1), u2)
    ) else (
    if x2 = 2 then
    (
      zgd (zin x1 200) <|
      some (zI u2 39 (zx x1), u2)
    ) else (
      some ((-2), u2)
    )))
  )
def ce_E_member (n : Nat) (u : zMu) (x1 : Int32) (x2 : Int32) (x3 : Int32) : Option (Int32 × zMu) :=
  zbd (ce_H_isObject n u x1) fun r1 u2 =>
  if r1 = 0 then
  (
    some ((-2), u2)
  ) else (
    if x3 < 0 then
    (
      some ((-2), u2)
    ) else (
      if 1 < x3 then
      (
        some ((-2), u2)
      ) else (
        zbd (ce_H_cellAt n u2 x1 x2) fun r6 u7 =>
        if r6 = (-1) then
        (
          some ((-1), u7)
        ) else (
          if x3 = 0 then
          (
            zbd (ce_V_sortAt n 66 u7 r6) fun r10 u11 =>
            some (r10, u11)
          ) else (
            zbd (ce_V_referenceAt n 66 u7 r6) fun r12 u13 =>
            some (r12, u13)
          )
        )
      )
    )
  )
def ce_E_worth (n : Nat) (u : zMu) (x1 : Int32) (x2 : Int32) : Option (Int64 × zMu) :=
  zbd (ce_H_cellAt n u x1 x2) fun r1 u2 =>
  if r1 = (-1) then
  (
    some (0, u2)
  ) else (
    zbd (ce_V_worthAt n 66 u2 r1) fun r4 u5 =>
    some (r4, u5)
  )
def ce_E_letter (n : Nat) (u : zMu) (x1 : Int32) (x2 : Int32) (x3 : Int32) : Option (Int32 × zMu) :=
  zbd (ce_H_cellAt n u x1 x2) fun r1 u2 =>
  if r1 = (-1) then
  (
    some (0, u2)
  ) else (
    if x3 < 0 then
    (
      some (0, u2)
    ) else (
      if x3 < 8 then
      (
        zgd (zin r1 (zN u2 88)) <|
        some (((((zL u2 88 (zx r1)).toUInt64 >>> ((8 * x3).toInt64.toUInt64 &&& Int64.toUInt64 63)).toInt64).toInt32) &&& 255, u2)
      ) else (
        some (0, u2)
      )
    )
  )
def ce_E_row (n : Nat) (u : zMu) (x1 : Int32) (x2 : Int32) : Option (Int32 × zMu) :=
  zbd (ce_R_isRow n u x1) fun r1 u2 =>
  if r1 = 0 then
  (
    some ((-2), u2)
  ) else (
    if x2 < 0 then
    (
      some ((-2), u2)
    ) else (
      if x2 = 0 then
      (
        zgd (zin x1 60) <|
        some (zI u2 46 (zx x1), u2)
      ) else (
        if x2 = 1 then
        (
          zgd (zin x1 60) <|
          some (zI u2 47 (zx x1), u2)
        ) else (
          zbd (ce_R_placeOf n u2 x1 ((x2 - 2).toInt64)) fun r7 u8 =>
          if r7 = (-1) then
          (
            some ((-1), u8)
          ) else (
            zbd (ce_V_sortAt n 69 u8 r7) fun r10 u11 =>
            some (r10, u11)
          )
        )
      )
    )
  )
def ce_E_item (n : Nat) (u : zMu) (x1 : Int32) (x2 : Int32) : Option (Int64 × zMu) :=
  zbd (ce_R_placeOf n u x1 (x2.toInt64)) fun r1 u2 =>
  if r1 = (-1) then
  (
    some (0, u2)
  ) else (
    zbd (ce_V_worthAt n 69 u2 r1) fun r4 u5 =>
    some (r4, u5)
  )
def ce_E_shape (n : Nat) (u : zMu) (x1 : Int32) (x2 : Int32) : Option (Int32 × zMu) :=
  zbd (ce_S_isShape n u x1) fun r1 u2 =>
  if r1 = 0 then
  (
    some ((-2), u2)
  ) else (
    if x2 = 0 then
    (
      zgd (zin x1 (zN u2 81)) <|
      some (zI u2 81 (zx x1), u2)
    ) else (
    if x2 = 1 then
    (
      zgd (zin x1 (zN u2 82)) <|
      some (zI u2 82 (zx x1), u2)
    ) else (
    if x2 = 2 then
    (
      zgd (zin x1 (zN u2 83)) <|
      some (zI u2 83 (zx x1), u2)
    ) else (
    if x2 = 3 then
    (
      zgd (zin x1 (zN u2 84)) <|
      some (zI u2 84 (zx x1), u2)
    ) else (
      some ((-2), u2)
    ))))
  )
def ce_E_site (n : Nat) (u : zMu) (x1 : Int32) (x2 : Int32) : Option (Int32 × zMu) :=
  zgd (zpr (zR u 0 4)) <|
  zlet (zR u 0 4) fun p1 =>
  zbd (ce_P_isSite n p1 u x1) fun r2 u3 =>
  if r2 = 0 then
  (
    some ((-2), u3)
  ) else (
    if x2 < 0 then
    (
      some ((-2), u3)
    ) else (
      if x2 = 0 then
      (
        zgd (zpr (zR u3 0 4)) <|
        zlet (zR u3 0 4) fun p6 =>
        zgd (zin x1 80) <|
        some (zI u3 (p6 + 4) (zx x1), u3)
      ) else (
      if x2 = 1 then
      (
        zgd (zpr (zR u3 0 4)) <|
        zlet (zR u3 0 4) fun p8 =>
        zgd (zin x1 80) <|
        some (zI u3 (p8 + 5) (zx x1), u3)
      ) else (
      if x2 = 2 then
      (
        zgd (zin x1 80) <|
        some (zI u3 50 (zx x1), u3)
      ) else (
      if x2 = 3 then
      (
        zgd (zin x1 80) <|
        some (zI u3 51 (zx x1), u3)
      ) else (
      if x2 = 4 then
      (
        zgd (zpr (zR u3 0 4)) <|
        zlet (zR u3 0 4) fun p12 =>
        zgd (zin x1 80) <|
        if zI u3 (p12 + 4) (zx x1) = 3 then
        (
          zgd (zin x1 80) <|
          some (zI u3 54 (zx x1), u3)
        ) else (
          zgd (zin x1 80) <|
          some (zI u3 52 (zx x1), u3)
        )
      ) else (
      if x2 = 5 then
      (
        zgd (zin x1 80) <|
        some (zI u3 53 (zx x1), u3)
      ) else (
      if x2 = 6 then
      (
        zgd (zpr (zR u3 0 4)) <|
        zlet (zR u3 0 4) fun p16 =>
        zgd (zin x1 80) <|
        some (zI u3 (p16 + 6) (zx x1), u3)
      ) else (
      if x2 = 7 then
      (
        zbd (ce_T_hasGuess n u3 x1) fun r18 u19 =>
        if r18 = 0 then
        (
          some (0, u19)
        ) else (
          some (1, u19)
        )
      ) else (
        zbd (ce_T_entryAt n u3 x1 (x2 - 8)) fun r22 u23 =>
        some (r22, u23)
      ))))))))
    )
  )
def ce_E_fn (n : Nat) (u : zMu) (x1 : Int32) (x2 : Int32) : Option (Int32 × zMu) :=
  zgd (zpr (zR u 0 4)) <|
  zlet (zR u 0 4) fun p1 =>
  zbd (ce_P_isFn n p1 u x1) fun r2 u3 =>
  if r2 = 0 then
  (
    some ((-2), u3)
  ) else (
    if x2 = 0 then
    (
      zgd (zpr (zR u3 0 4)) <|
      zlet (zR u3 0 4) fun p5 =>
      zgd (zin x1 8) <|
      some (zI u3 (p5 + 10) (zx x1), u3)
    ) else (
    if x2 = 1 then
    (
      zgd (zin x1 8) <|
      some (zI u3 60 (zx x1), u3)
    ) else (
    if x2 = 2 then
    (
      zgd (zin x1 8) <|
      some (zI u3 61 (zx x1), u3)
    ) else (
    if x2 = 3 then
    (
      zgd (zin x1 8) <|
      some (zI u3 62 (zx x1), u3)
    ) else (
    if x2 = 4 then
    (
      zgd (zin x1 8) <|
      some (zI u3 63 (zx x1), u3)
    ) else (
    if x2 = 5 then
    (
      zgd (zin x1 8) <|
      some (zI u3 64 (zx x1), u3)
    ) else (
    if x2 = 6 then
    (
      zbd (ce_F_isCold n u3 x1) fun r12 u13 =>
      if r12 = 0 then
      (
        some (0, u13)
      ) else (
        some (1, u13)
      )
    ) else (
    if x2 = 7 then
    (
      zgd (zin x1 8) <|
      some (zI u3 65 (zx x1), u3)
    ) else (
      some ((-2), u3)
    ))))))))
  )
def ce_E_count (n : Nat) (u : zMu) (x1 : Int32) : Option (Int32 × zMu) :=
  if x1 = 0 then
  (
    zgd (zpr (zR u 0 4)) <|
    zlet (zR u 0 4) fun p1 =>
    some (zI u p1 15, u)
  ) else (
  if x1 = 1 then
  (
    zgd (zpr (zR u 0 4)) <|
    zlet (zR u 0 4) fun p3 =>
    some (zI u p3 12, u)
  ) else (
  if x1 = 2 then
  (
    zgd (zpr (zR u 0 4)) <|
    zlet (zR u 0 4) fun p5 =>
    some (zI u p5 8, u)
  ) else (
  if x1 = 3 then
  (
    zgd (zpr (zR u 0 4)) <|
    zlet (zR u 0 4) fun p7 =>
    some (zI u p7 14, u)
  ) else (
  if x1 = 4 then
  (
    some (zI u 0 1, u)
  ) else (
    some ((-2), u)
  )))))
