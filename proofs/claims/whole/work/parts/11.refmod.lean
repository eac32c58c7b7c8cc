/-! THE REFERENCE'S METHODS AS MODELS (printed by wip/gen/ref.py) -/
def rf_feed_L32 (n : Nat) : Nat → zMu → Int32 → Int64 → Int32 → Option (Int32 × zMu)
  | 0, _, _, _, _ => none
  | m + 1, u, x1, x2, x4 =>
    if x4 < x1 then
    (
      zlet (zI u 0 3) fun v2 =>
      zlet (zsI u 0 3 (v2 + 1)) fun u3 =>
      zgd (zin v2 1500) <|
      zlet (zsI u3 1 (zx v2) (((x2 >>> ((8 * x4).toInt64 &&& 63)) &&& 255).toInt32)) fun u4 =>
      zlet (x4 + 1) fun v5 =>
      rf_feed_L32 n m u4 x1 x2 v5
    ) else (
      some (zI u 0 3, u)
    )
def rf_feed (n : Nat) (u : zMu) (x1 : Int32) (x2 : Int64) : Option (Int32 × zMu) :=
  if x1 < 1 then
  (
    some ((-2), u)
  ) else (
    if 8 < x1 then
    (
      some ((-2), u)
    ) else (
      if 1500 < (zI u 0 3) + x1 then
      (
        some ((-4), u)
      ) else (
        rf_feed_L32 n n u x1 x2 0
      )
    )
  )
def rf_isLetter (n : Nat) (u : zMu) (x0 : Int32) : Option (Int32 × zMu) :=
  if x0 < 97 then
  (
    some (0, u)
  ) else (
    if 122 < x0 then
    (
      some (0, u)
    ) else (
      some (1, u)
    )
  )
def rf_isDigit (n : Nat) (u : zMu) (x0 : Int32) : Option (Int32 × zMu) :=
  if x0 < 48 then
  (
    some (0, u)
  ) else (
    if 57 < x0 then
    (
      some (0, u)
    ) else (
      some (1, u)
    )
  )
def rf_keyOf_L11 (n : Nat) : Nat → zMu → Int32 → Int32 → Int32 → Int32 → Int32 → Int32 → Option (Int32 × zMu)
  | 0, _, _, _, _, _, _, _ => none
  | m + 1, u, x1, x2, x3, x4, x5, x6 =>
    if x6 < 56 then
    (
      zgd (zin x6 56) <|
      if zI u 9 (zx x6) = 0 then
      (
        if x5 = 0 then
        (
          zlet (x3 + 1) fun v4 =>
          zlet (x6 + 1) fun v5 =>
          rf_keyOf_L11 n m u x1 x2 v4 0 1 v5
        ) else (
          if x4 = x2 then
          (
            some (x3, u)
          ) else (
            zlet (x3 + 1) fun v7 =>
            zlet (x6 + 1) fun v8 =>
            rf_keyOf_L11 n m u x1 x2 v7 0 1 v8
          )
        )
      ) else (
        if x4 < x2 then
        (
          zgd (zin (x1 + x4) 1500) <|
          zgd (zin x6 56) <|
          if zI u 2 (zx (x1 + x4)) = zI u 9 (zx x6) then
          (
            zlet (x4 + 1) fun v11 =>
            zlet (x6 + 1) fun v12 =>
            rf_keyOf_L11 n m u x1 x2 x3 v11 x5 v12
          ) else (
            zlet (x4 + 1) fun v13 =>
            zlet (x6 + 1) fun v14 =>
            rf_keyOf_L11 n m u x1 x2 x3 v13 0 v14
          )
        ) else (
          zlet (x4 + 1) fun v15 =>
          zlet (x6 + 1) fun v16 =>
          rf_keyOf_L11 n m u x1 x2 x3 v15 0 v16
        )
      )
    ) else (
      some ((-1), u)
    )
def rf_keyOf (n : Nat) (u : zMu) (x1 : Int32) (x2 : Int32) : Option (Int32 × zMu) :=
  rf_keyOf_L11 n n u x1 x2 0 0 1 0
def rf_nameOf_J80 (n : Nat) (k2 : zMu → Int32 → Int32 → Int32 → Option (Int32 × zMu)) (u : zMu) (x1 : Int32) (x2 : Int32) (x3 : Int32) (x4 : Int32) : Option (Int32 × zMu) :=
  if x4 = 0 then
  (
    zlet (x3 + 1) fun v2 =>
    k2 u x1 x2 v2
  ) else (
    some (x3, u)
  )
def rf_nameOf_L30 (n : Nat) (k2 : zMu → Int32 → Int32 → Int32 → Option (Int32 × zMu)) : Nat → zMu → Int32 → Int32 → Int32 → Int32 → Int32 → Option (Int32 × zMu)
  | 0, _, _, _, _, _, _ => none
  | m + 1, u, x1, x2, x3, x4, x5 =>
    if x5 < x2 then
    (
      if x4 = 0 then
      (
        rf_nameOf_J80 n (k2) u x1 x2 x3 x4
      ) else (
        zgd (zin x3 1500) <|
        zgd (zin ((zI u 7 (zx x3)) + x5) 1500) <|
        zgd (zin (x1 + x5) 1500) <|
        if zI u 2 (zx ((zI u 7 (zx x3)) + x5)) = zI u 2 (zx (x1 + x5)) then
        (
          zlet (x5 + 1) fun v4 =>
          rf_nameOf_L30 n k2 m u x1 x2 x3 1 v4
        ) else (
          zlet (x5 + 1) fun v5 =>
          rf_nameOf_L30 n k2 m u x1 x2 x3 0 v5
        )
      )
    ) else (
      rf_nameOf_J80 n (k2) u x1 x2 x3 x4
    )
def rf_nameOf_L2 (n : Nat) : Nat → zMu → Int32 → Int32 → Int32 → Option (Int32 × zMu)
  | 0, _, _, _, _ => none
  | m + 1, u, x1, x2, x3 =>
    if x3 < zI u 0 13 then
    (
      zgd (zin x3 1500) <|
      if zI u 8 (zx x3) = x2 then
      (
        rf_nameOf_L30 n (rf_nameOf_L2 n m) n u x1 x2 x3 1 0
      ) else (
        rf_nameOf_L30 n (rf_nameOf_L2 n m) n u x1 x2 x3 0 0
      )
    ) else (
      zgd (zin (zI u 0 13) 1500) <|
      zlet (zsI u 7 (zx (zI u 0 13)) x1) fun u3 =>
      zgd (zin (zI u3 0 13) 1500) <|
      zlet (zsI u3 8 (zx (zI u3 0 13)) x2) fun u4 =>
      zlet (zI u4 0 13) fun v5 =>
      zlet (zsI u4 0 13 (v5 + 1)) fun u6 =>
      some (v5, u6)
    )
def rf_nameOf (n : Nat) (u : zMu) (x1 : Int32) (x2 : Int32) : Option (Int32 × zMu) :=
  rf_nameOf_L2 n n u x1 x2 0
def rf_token (n : Nat) (u : zMu) (x1 : Int32) (x2 : Int32) (x3 : Int32) : Option (Unit × zMu) :=
  zgd (zin (zI u 0 9) 1502) <|
  zlet (zsI u 4 (zx (zI u 0 9)) x1) fun u1 =>
  zgd (zin (zI u1 0 9) 1502) <|
  zlet (zsI u1 5 (zx (zI u1 0 9)) x2) fun u2 =>
  zgd (zin (zI u2 0 9) 1502) <|
  zlet (zsI u2 6 (zx (zI u2 0 9)) x3) fun u3 =>
  zlet (zsI u3 0 9 ((zI u3 0 9) + 1)) fun u4 =>
  some ((), u4)
def rf_word_J40 (n : Nat) (u : zMu) (x1 : Int32) (x2 : Int32) : Option (Int32 × zMu) :=
  zbd (rf_keyOf n u x1 (x2 - x1)) fun r1 u2 =>
  if 8 < x2 - x1 then
  (
    zbd (rf_token n u2 3 x1 0) fun _ u5 =>
    some (x2, u5)
  ) else (
    if r1 = (-1) then
    (
      zbd (rf_nameOf n u2 x1 (x2 - x1)) fun r7 u8 =>
      zbd (rf_token n u8 1 x1 r7) fun _ u10 =>
      some (x2, u10)
    ) else (
      zbd (rf_token n u2 (200 + r1) x1 0) fun _ u12 =>
      some (x2, u12)
    )
  )
def rf_word_L2 (n : Nat) : Nat → zMu → Int32 → Int32 → Option (Int32 × zMu)
  | 0, _, _, _ => none
  | m + 1, u, x1, x2 =>
    if x2 < zI u 0 4 then
    (
      zgd (zin x2 1500) <|
      zbd (rf_isLetter n u (zI u 2 (zx x2))) fun r2 u3 =>
      if r2 = 0 then
      (
        zgd (zin x2 1500) <|
        zbd (rf_isDigit n u3 (zI u3 2 (zx x2))) fun r5 u6 =>
        if r5 = 0 then
        (
          rf_word_J40 n u6 x1 x2
        ) else (
          zlet (x2 + 1) fun v8 =>
          rf_word_L2 n m u6 x1 v8
        )
      ) else (
        zlet (x2 + 1) fun v9 =>
        rf_word_L2 n m u3 x1 v9
      )
    ) else (
      rf_word_J40 n u x1 x2
    )
def rf_word (n : Nat) (u : zMu) (x1 : Int32) : Option (Int32 × zMu) :=
  rf_word_L2 n n u x1 x1
def rf_number_J56 (n : Nat) (u : zMu) (x1 : Int32) (x2 : Int32) (x3 : Int64) : Option (Int32 × zMu) :=
  if 9 < x2 - x1 then
  (
    zbd (rf_token n u 3 x1 0) fun _ u3 =>
    some (x2, u3)
  ) else (
    if 0 < lg_cmp x3 536870911 then
    (
      zbd (rf_token n u 3 x1 0) fun _ u6 =>
      some (x2, u6)
    ) else (
      zbd (rf_token n u 2 x1 (x3.toInt32)) fun _ u8 =>
      some (x2, u8)
    )
  )
def rf_number_L4 (n : Nat) : Nat → zMu → Int32 → Int32 → Int64 → Option (Int32 × zMu)
  | 0, _, _, _, _ => none
  | m + 1, u, x1, x2, x3 =>
    if x2 < zI u 0 4 then
    (
      zgd (zin x2 1500) <|
      zbd (rf_isDigit n u (zI u 2 (zx x2))) fun r2 u3 =>
      if r2 = 0 then
      (
        rf_number_J56 n u3 x1 x2 x3
      ) else (
        if x2 - x1 < 10 then
        (
          zgd (zin x2 1500) <|
          zlet (((10 * x3) + ((zI u3 2 (zx x2)).toInt64)) - 48) fun v6 =>
          zlet (x2 + 1) fun v7 =>
          rf_number_L4 n m u3 x1 v7 v6
        ) else (
          zlet (x2 + 1) fun v8 =>
          rf_number_L4 n m u3 x1 v8 x3
        )
      )
    ) else (
      rf_number_J56 n u x1 x2 x3
    )
def rf_number (n : Nat) (u : zMu) (x1 : Int32) : Option (Int32 × zMu) :=
  rf_number_L4 n n u x1 x1 0
def rf_isSign (n : Nat) (u : zMu) (x0 : Int32) : Option (Int32 × zMu) :=
  if x0 = 40 then
  (
    some (1, u)
  ) else (
    if x0 = 41 then
    (
      some (1, u)
    ) else (
      if x0 = 123 then
      (
        some (1, u)
      ) else (
        if x0 = 125 then
        (
          some (1, u)
        ) else (
          if x0 = 91 then
          (
            some (1, u)
          ) else (
            if x0 = 93 then
            (
              some (1, u)
            ) else (
              if x0 = 59 then
              (
                some (1, u)
              ) else (
                if x0 = 44 then
                (
                  some (1, u)
                ) else (
                  if x0 = 46 then
                  (
                    some (1, u)
                  ) else (
                    if x0 = 61 then
                    (
                      some (1, u)
                    ) else (
                      if x0 = 60 then
                      (
                        some (1, u)
                      ) else (
                        if x0 = 43 then
                        (
                          some (1, u)
                        ) else (
                          if x0 = 45 then
                          (
                            some (1, u)
                          ) else (
                            if x0 = 42 then
                            (
                              some (1, u)
                            ) else (
                              some (0, u)
                            )
                          )
                        )
                      )
                    )
                  )
                )
              )
            )
          )
        )
      )
    )
  )
def rf_cuts_J121 (n : Nat) (k12 : zMu → Int32 → Option (Unit × zMu)) (u : zMu) (x1 : Int32) (x2 : Int32) : Option (Unit × zMu) :=
  zbd (rf_isSign n u x2) fun r1 u2 =>
  if r1 = 0 then
  (
    zbd (rf_token n u2 3 x1 0) fun _ u5 =>
    zlet (x1 + 1) fun v6 =>
    k12 u5 v6
  ) else (
    zbd (rf_token n u2 x2 x1 0) fun _ u8 =>
    zlet (x1 + 1) fun v9 =>
    k12 u8 v9
  )
def rf_cuts_L12 (n : Nat) : Nat → zMu → Int32 → Option (Unit × zMu)
  | 0, _, _ => none
  | m + 1, u, x1 =>
    if x1 < zI u 0 4 then
    (
      zgd (zin x1 1500) <|
      zlet (zI u 2 (zx x1)) fun v2 =>
      if v2 = 32 then
      (
        zlet (x1 + 1) fun v4 =>
        rf_cuts_L12 n m u v4
      ) else (
        if v2 = 10 then
        (
          zlet (x1 + 1) fun v6 =>
          rf_cuts_L12 n m u v6
        ) else (
          zbd (rf_isLetter n u v2) fun r7 u8 =>
          if r7 = 0 then
          (
            zbd (rf_isDigit n u8 v2) fun r10 u11 =>
            if r10 = 0 then
            (
              if v2 = 61 then
              (
                if x1 + 1 < zI u11 0 4 then
                (
                  zgd (zin (x1 + 1) 1500) <|
                  if zI u11 2 (zx (x1 + 1)) = 61 then
                  (
                    zbd (rf_token n u11 150 x1 0) fun _ u17 =>
                    zlet (x1 + 2) fun v18 =>
                    rf_cuts_L12 n m u17 v18
                  ) else (
                    rf_cuts_J121 n (rf_cuts_L12 n m) u11 x1 v2
                  )
                ) else (
                  rf_cuts_J121 n (rf_cuts_L12 n m) u11 x1 v2
                )
              ) else (
                rf_cuts_J121 n (rf_cuts_L12 n m) u11 x1 v2
              )
            ) else (
              zbd (rf_number n u11 x1) fun r19 u20 =>
              rf_cuts_L12 n m u20 r19
            )
          ) else (
            zbd (rf_word n u8 x1) fun r21 u22 =>
            rf_cuts_L12 n m u22 r21
          )
        )
      )
    ) else (
      zbd (rf_token n u 0 (zI u 0 4) 0) fun _ u24 =>
      some ((), u24)
    )
def rf_cuts (n : Nat) (u : zMu) : Option (Unit × zMu) :=
  zlet (zsI u 0 9 0) fun u1 =>
  zlet (zsI u1 0 13 0) fun u2 =>
  rf_cuts_L12 n n u2 0
def rf_now (n : Nat) (u : zMu) : Option (Int32 × zMu) :=
  zgd (zin (zI u 0 10) 1502) <|
  some (zI u 4 (zx (zI u 0 10)), u)
def rf_place (n : Nat) (u : zMu) : Option (Int32 × zMu) :=
  zgd (zin (zI u 0 10) 1502) <|
  some (zI u 5 (zx (zI u 0 10)), u)
def rf_faulty (n : Nat) (u : zMu) : Option (Unit × zMu) :=
  if zI u 0 15 = (-1) then
  (
    zbd (rf_place n u) fun r2 u3 =>
    zlet (zsI u3 0 15 r2) fun u4 =>
    some ((), u4)
  ) else (
    some ((), u)
  )
def rf_isWrong (n : Nat) (u : zMu) : Option (Int32 × zMu) :=
  if zI u 0 15 = (-1) then
  (
    some (0, u)
  ) else (
    some (1, u)
  )
def rf_notes (n : Nat) (u : zMu) (x1 : Int32) (x2 : Int32) : Option (Unit × zMu) :=
  if zI u 0 16 = (-1) then
  (
    zlet (zsI u 0 16 x1) fun u2 =>
    zlet (zsI u2 0 17 x2) fun u3 =>
    some ((), u3)
  ) else (
    if x1 < zI u 0 16 then
    (
      zlet (zsI u 0 16 x1) fun u5 =>
      zlet (zsI u5 0 17 x2) fun u6 =>
      some ((), u6)
    ) else (
      if x1 = zI u 0 16 then
      (
        if x2 < zI u 0 17 then
        (
          zlet (zsI u 0 16 x1) fun u9 =>
          zlet (zsI u9 0 17 x2) fun u10 =>
          some ((), u10)
        ) else (
          some ((), u)
        )
      ) else (
        some ((), u)
      )
    )
  )
def rf_want (n : Nat) (u : zMu) (x1 : Int32) : Option (Unit × zMu) :=
  zbd (rf_isWrong n u) fun r1 u2 =>
  if r1 = 0 then
  (
    zbd (rf_now n u2) fun r4 u5 =>
    if r4 = x1 then
    (
      zlet (zsI u5 0 10 ((zI u5 0 10) + 1)) fun u7 =>
      some ((), u7)
    ) else (
      zbd (rf_faulty n u5) fun _ u9 =>
      some ((), u9)
    )
  ) else (
    some ((), u2)
  )
def rf_opens (n : Nat) (u : zMu) (x1 : Int32) : Option (Unit × zMu) :=
  zbd (rf_isWrong n u) fun r1 u2 =>
  if r1 = 0 then
  (
    zbd (rf_now n u2) fun r4 u5 =>
    if r4 = x1 then
    (
      if zI u5 0 26 = 8 then
      (
        zbd (rf_faulty n u5) fun _ u9 =>
        some ((), u9)
      ) else (
        zlet (zsI u5 0 26 ((zI u5 0 26) + 1)) fun u10 =>
        zlet (zsI u10 0 10 ((zI u10 0 10) + 1)) fun u11 =>
        some ((), u11)
      )
    ) else (
      zbd (rf_faulty n u5) fun _ u13 =>
      some ((), u13)
    )
  ) else (
    some ((), u2)
  )
def rf_closes (n : Nat) (u : zMu) (x1 : Int32) : Option (Unit × zMu) :=
  zbd (rf_want n u x1) fun _ u2 =>
  zlet (zsI u2 0 26 ((zI u2 0 26) - 1)) fun u3 =>
  some ((), u3)
def rf_emit (n : Nat) (u : zMu) (x1 : Int32) (x2 : Int32) (x3 : Int32) (x4 : Int32) : Option (Unit × zMu) :=
  zgd (zin (zI u 0 24) 4000) <|
  zlet (zsI u 10 (zx (zI u 0 24)) x1) fun u1 =>
  zgd (zin (zI u1 0 24) 4000) <|
  zlet (zsI u1 11 (zx (zI u1 0 24)) x2) fun u2 =>
  zgd (zin (zI u2 0 24) 4000) <|
  zlet (zsI u2 12 (zx (zI u2 0 24)) x3) fun u3 =>
  zgd (zin (zI u3 0 24) 4000) <|
  zlet (zsI u3 13 (zx (zI u3 0 24)) x4) fun u4 =>
  zlet (zsI u4 0 24 ((zI u4 0 24) + 1)) fun u5 =>
  some ((), u5)
def rf_newSite (n : Nat) (u : zMu) (x1 : Int32) (x2 : Int32) : Option (Int32 × zMu) :=
  zgd (zin (zI u 0 39) 800) <|
  zlet (zsI u 19 (zx (zI u 0 39)) x1) fun u1 =>
  zbd (rf_place n u1) fun r2 u3 =>
  zgd (zin (zI u1 0 39) 800) <|
  zlet (zsI u3 20 (zx (zI u1 0 39)) r2) fun u4 =>
  zgd (zin (zI u4 0 39) 800) <|
  zlet (zsI u4 21 (zx (zI u4 0 39)) (zI u4 0 27)) fun u5 =>
  zgd (zin (zI u5 0 39) 800) <|
  zlet (zsI u5 22 (zx (zI u5 0 39)) x2) fun u6 =>
  if zI u6 0 39 = 80 then
  (
    zbd (rf_place n u6) fun r8 u9 =>
    zbd (rf_notes n u9 r8 3) fun _ u11 =>
    zlet (zI u11 0 39) fun v12 =>
    zlet (zsI u11 0 39 (v12 + 1)) fun u13 =>
    some (v12, u13)
  ) else (
    zlet (zI u6 0 39) fun v14 =>
    zlet (zsI u6 0 39 (v14 + 1)) fun u15 =>
    some (v14, u15)
  )
def rf_findVar_L20 (n : Nat) : Nat → zMu → Int32 → Int32 → Int32 → Option (Int32 × zMu)
  | 0, _, _, _, _ => none
  | m + 1, u, x1, x2, x3 =>
    zgd (zin x2 10) <|
    if x3 < zI u 17 (zx x2) then
    (
      zgd (zin ((13 * x2) + x3) 130) <|
      if zI u 18 (zx ((13 * x2) + x3)) = x1 then
      (
        some (x3, u)
      ) else (
        zlet (x3 + 1) fun v3 =>
        rf_findVar_L20 n m u x1 x2 v3
      )
    ) else (
      some ((-1), u)
    )
def rf_findVar (n : Nat) (u : zMu) (x1 : Int32) : Option (Int32 × zMu) :=
  if zI u 0 27 = (-1) then
  (
    rf_findVar_L20 n n u x1 9 0
  ) else (
    zlet (zI u 0 27) fun v2 =>
    rf_findVar_L20 n n u x1 v2 0
  )
def rf_addVar_J17 (n : Nat) (u : zMu) (x1 : Int32) (x2 : Int32) (s0 : Int32) : Option (Unit × zMu) :=
  zbd (rf_findVar n u x1) fun r1 u2 =>
  if r1 = (-1) then
  (
    zgd (zin s0 10) <|
    if zI u2 17 (zx s0) = 12 then
    (
      zbd (rf_notes n u2 x2 3) fun _ u6 =>
      some ((), u6)
    ) else (
      zgd (zin s0 10) <|
      zlet (zI u2 17 (zx s0)) fun v7 =>
      zgd (zin s0 10) <|
      zlet (zsI u2 17 (zx s0) (v7 + 1)) fun u8 =>
      zgd (zin ((13 * s0) + v7) 130) <|
      zlet (zsI u8 18 (zx ((13 * s0) + v7)) x1) fun u9 =>
      some ((), u9)
    )
  ) else (
    some ((), u2)
  )
def rf_addVar (n : Nat) (u : zMu) (x1 : Int32) (x2 : Int32) : Option (Unit × zMu) :=
  if zI u 0 27 = (-1) then
  (
    rf_addVar_J17 n u x1 x2 9
  ) else (
    rf_addVar_J17 n u x1 x2 (zI u 0 27)
  )
def rf_variable_J17 (n : Nat) (u : zMu) (x2 : Int32) (x3 : Int32) : Option (Unit × zMu) :=
  zbd (rf_emit n u 3 x3 0 x2) fun _ u2 =>
  zlet (zsI u2 0 25 1) fun u3 =>
  some ((), u3)
def rf_variable (n : Nat) (u : zMu) (x1 : Int32) (x2 : Int32) : Option (Unit × zMu) :=
  zbd (rf_findVar n u x1) fun r1 u2 =>
  if r1 = (-1) then
  (
    zbd (rf_notes n u2 x2 2) fun _ u5 =>
    rf_variable_J17 n u5 x2 r1
  ) else (
    rf_variable_J17 n u2 x2 r1
  )
def rf_expr_J48 (n : Nat) (f_sum : zMu → Option (Unit × zMu)) (u : zMu) (s0 : Int32) : Option (Unit × zMu) :=
  zbd (rf_place n u) fun r1 u2 =>
  zlet (zsI u2 0 10 ((zI u2 0 10) + 1)) fun u3 =>
  zbd (f_sum u3) fun _ u5 =>
  zbd (rf_emit n u5 s0 0 0 r1) fun _ u7 =>
  zlet (zsI u7 0 25 0) fun u8 =>
  some ((), u8)
def rf_expr_J31 (n : Nat) (f_sum : zMu → Option (Unit × zMu)) (u : zMu) : Option (Unit × zMu) :=
  zbd (rf_now n u) fun r1 u2 =>
  if r1 = 150 then
  (
    rf_expr_J48 n f_sum u2 11
  ) else (
    rf_expr_J48 n f_sum u2 10
  )
def rf_expr_b (n : Nat) (f_sum : zMu → Option (Unit × zMu)) (u : zMu) : Option (Unit × zMu) :=
  zbd (f_sum u) fun _ u2 =>
  zbd (rf_isWrong n u2) fun r3 u4 =>
  if r3 = 0 then
  (
    zbd (rf_now n u4) fun r6 u7 =>
    if r6 = 60 then
    (
      rf_expr_J31 n f_sum u7
    ) else (
      zbd (rf_now n u7) fun r9 u10 =>
      if r9 = 150 then
      (
        rf_expr_J31 n f_sum u10
      ) else (
        some ((), u10)
      )
    )
  ) else (
    some ((), u4)
  )
def rf_sum_J29 (n : Nat) (f_term : zMu → Option (Unit × zMu)) (k4 : zMu → Option (Unit × zMu)) (u : zMu) : Option (Unit × zMu) :=
  zbd (rf_now n u) fun r1 u2 =>
  zbd (rf_place n u2) fun r3 u4 =>
  zbd (rf_newSite n u4 3 (-1)) fun r5 u6 =>
  zlet (zsI u6 0 10 ((zI u6 0 10) + 1)) fun u7 =>
  zbd (f_term u7) fun _ u9 =>
  zbd (rf_emit n u9 8 r5 r1 r3) fun _ u11 =>
  zlet (zsI u11 0 25 0) fun u12 =>
  k4 u12
def rf_sum_L4 (n : Nat) (f_term : zMu → Option (Unit × zMu)) : Nat → zMu → Option (Unit × zMu)
  | 0, _ => none
  | m + 1, u =>
    zbd (rf_isWrong n u) fun r1 u2 =>
    if r1 = 0 then
    (
      zbd (rf_now n u2) fun r4 u5 =>
      if r4 = 43 then
      (
        rf_sum_J29 n f_term (rf_sum_L4 n f_term m) u5
      ) else (
        zbd (rf_now n u5) fun r7 u8 =>
        if r7 = 45 then
        (
          rf_sum_J29 n f_term (rf_sum_L4 n f_term m) u8
        ) else (
          some ((), u8)
        )
      )
    ) else (
      some ((), u2)
    )
def rf_sum_b (n : Nat) (f_term : zMu → Option (Unit × zMu)) (u : zMu) : Option (Unit × zMu) :=
  zbd (f_term u) fun _ u2 =>
  rf_sum_L4 n f_term n u2
def rf_term_L4 (n : Nat) (f_post : zMu → Option (Unit × zMu)) : Nat → zMu → Option (Unit × zMu)
  | 0, _ => none
  | m + 1, u =>
    zbd (rf_isWrong n u) fun r1 u2 =>
    if r1 = 0 then
    (
      zbd (rf_now n u2) fun r4 u5 =>
      if r4 = 42 then
      (
        zbd (rf_place n u5) fun r7 u8 =>
        zbd (rf_newSite n u8 3 (-1)) fun r9 u10 =>
        zlet (zsI u10 0 10 ((zI u10 0 10) + 1)) fun u11 =>
        zbd (f_post u11) fun _ u13 =>
        zbd (rf_emit n u13 8 r9 42 r7) fun _ u15 =>
        zlet (zsI u15 0 25 0) fun u16 =>
        rf_term_L4 n f_post m u16
      ) else (
        some ((), u5)
      )
    ) else (
      some ((), u2)
    )
def rf_term_b (n : Nat) (f_post : zMu → Option (Unit × zMu)) (u : zMu) : Option (Unit × zMu) :=
  zbd (f_post u) fun _ u2 =>
  rf_term_L4 n f_post n u2
def rf_post_J29 (n : Nat) (f_expr : zMu → Option (Unit × zMu)) (f_one : zMu → Option (Unit × zMu)) (k4 : zMu → Option (Unit × zMu)) (u : zMu) : Option (Unit × zMu) :=
  zbd (rf_place n u) fun r1 u2 =>
  zbd (rf_now n u2) fun r3 u4 =>
  if r3 = 46 then
  (
    zbd (rf_newSite n u4 0 (-1)) fun r6 u7 =>
    zlet (zsI u7 0 10 ((zI u7 0 10) + 1)) fun u8 =>
    zbd (rf_now n u8) fun r9 u10 =>
    if r9 = 1 then
    (
      zgd (zin (zI u10 0 10) 1502) <|
      zgd (zin r6 800) <|
      zlet (zsI u10 22 (zx r6) (zI u10 6 (zx (zI u10 0 10)))) fun u12 =>
      zlet (zsI u12 0 10 ((zI u12 0 10) + 1)) fun u13 =>
      zbd (rf_emit n u13 5 r6 0 r1) fun _ u15 =>
      zlet (zsI u15 0 25 2) fun u16 =>
      k4 u16
    ) else (
      zbd (rf_faulty n u10) fun _ u18 =>
      some ((), u18)
    )
  ) else (
    zbd (rf_opens n u4 91) fun _ u20 =>
    zbd (f_expr u20) fun _ u22 =>
    zbd (rf_closes n u22 93) fun _ u24 =>
    zbd (rf_emit n u24 15 0 0 r1) fun _ u26 =>
    zlet (zsI u26 0 25 3) fun u27 =>
    k4 u27
  )
def rf_post_L4 (n : Nat) (f_expr : zMu → Option (Unit × zMu)) (f_one : zMu → Option (Unit × zMu)) : Nat → zMu → Option (Unit × zMu)
  | 0, _ => none
  | m + 1, u =>
    zbd (rf_isWrong n u) fun r1 u2 =>
    if r1 = 0 then
    (
      zbd (rf_now n u2) fun r4 u5 =>
      if r4 = 46 then
      (
        rf_post_J29 n f_expr f_one (rf_post_L4 n f_expr f_one m) u5
      ) else (
        zbd (rf_now n u5) fun r7 u8 =>
        if r7 = 91 then
        (
          rf_post_J29 n f_expr f_one (rf_post_L4 n f_expr f_one m) u8
        ) else (
          some ((), u8)
        )
      )
    ) else (
      some ((), u2)
    )
def rf_post_b (n : Nat) (f_expr : zMu → Option (Unit × zMu)) (f_one : zMu → Option (Unit × zMu)) (u : zMu) : Option (Unit × zMu) :=
  zbd (f_one u) fun _ u2 =>
  rf_post_L4 n f_expr f_one n u2
def rf_one_J316 (n : Nat) (f_expr : zMu → Option (Unit × zMu)) (f_one : zMu → Option (Unit × zMu)) (f_callOf : zMu → Int32 → Int32 → Option (Unit × zMu)) (u : zMu) (x1 : Int32) (x4 : Int32) (s1 : Int32) : Option (Unit × zMu) :=
  if x4 = 0 then
  (
    zbd (rf_emit n u s1 1 0 x1) fun _ u3 =>
    zlet (zsI u3 0 25 0) fun u4 =>
    some ((), u4)
  ) else (
    zbd (rf_emit n u s1 0 0 x1) fun _ u6 =>
    zlet (zsI u6 0 25 0) fun u7 =>
    some ((), u7)
  )
def rf_one_J283 (n : Nat) (f_expr : zMu → Option (Unit × zMu)) (f_one : zMu → Option (Unit × zMu)) (f_callOf : zMu → Int32 → Int32 → Option (Unit × zMu)) (u : zMu) (x1 : Int32) (x2 : Int32) (x4 : Int32) : Option (Unit × zMu) :=
  zbd (rf_closes n u 41) fun _ u2 =>
  if x2 = 208 then
  (
    rf_one_J316 n f_expr f_one f_callOf u2 x1 x4 12
  ) else (
    if x2 = 209 then
    (
      rf_one_J316 n f_expr f_one f_callOf u2 x1 x4 13
    ) else (
      rf_one_J316 n f_expr f_one f_callOf u2 x1 x4 14
    )
  )
def rf_one_J272 (n : Nat) (f_expr : zMu → Option (Unit × zMu)) (f_one : zMu → Option (Unit × zMu)) (f_callOf : zMu → Int32 → Int32 → Option (Unit × zMu)) (u : zMu) (x1 : Int32) (x2 : Int32) (s0 : Int32) : Option (Unit × zMu) :=
  if s0 = 0 then
  (
    zbd (f_expr u) fun _ u3 =>
    rf_one_J283 n f_expr f_one f_callOf u3 x1 x2 s0
  ) else (
    rf_one_J283 n f_expr f_one f_callOf u x1 x2 s0
  )
def rf_one_J271 (n : Nat) (f_expr : zMu → Option (Unit × zMu)) (f_one : zMu → Option (Unit × zMu)) (f_callOf : zMu → Int32 → Int32 → Option (Unit × zMu)) (u : zMu) (x1 : Int32) (x2 : Int32) : Option (Unit × zMu) :=
  rf_one_J272 n f_expr f_one f_callOf u x1 x2 0
def rf_one_J228 (n : Nat) (f_expr : zMu → Option (Unit × zMu)) (f_one : zMu → Option (Unit × zMu)) (f_callOf : zMu → Int32 → Int32 → Option (Unit × zMu)) (u : zMu) (x1 : Int32) (x2 : Int32) : Option (Unit × zMu) :=
  zlet (zsI u 0 10 ((zI u 0 10) + 1)) fun u1 =>
  zbd (rf_opens n u1 40) fun _ u3 =>
  if x2 = 208 then
  (
    zbd (rf_isWrong n u3) fun r5 u6 =>
    if r5 = 0 then
    (
      zbd (rf_now n u6) fun r8 u9 =>
      if r8 = 41 then
      (
        rf_one_J272 n f_expr f_one f_callOf u9 x1 x2 1
      ) else (
        rf_one_J271 n f_expr f_one f_callOf u9 x1 x2
      )
    ) else (
      rf_one_J271 n f_expr f_one f_callOf u6 x1 x2
    )
  ) else (
    rf_one_J271 n f_expr f_one f_callOf u3 x1 x2
  )
def rf_one_b (n : Nat) (f_expr : zMu → Option (Unit × zMu)) (f_one : zMu → Option (Unit × zMu)) (f_callOf : zMu → Int32 → Int32 → Option (Unit × zMu)) (u : zMu) : Option (Unit × zMu) :=
  zbd (rf_isWrong n u) fun r1 u2 =>
  if r1 = 0 then
  (
    zbd (rf_place n u2) fun r4 u5 =>
    zbd (rf_now n u5) fun r6 u7 =>
    zgd (zin (zI u7 0 10) 1502) <|
    zlet (zI u7 6 (zx (zI u7 0 10))) fun v8 =>
    if r6 = 2 then
    (
      zlet (zsI u7 0 10 ((zI u7 0 10) + 1)) fun u10 =>
      zbd (rf_emit n u10 1 v8 0 r4) fun _ u12 =>
      zlet (zsI u12 0 25 0) fun u13 =>
      some ((), u13)
    ) else (
      if r6 = 211 then
      (
        zlet (zsI u7 0 10 ((zI u7 0 10) + 1)) fun u15 =>
        zbd (rf_emit n u15 2 0 0 r4) fun _ u17 =>
        zlet (zsI u17 0 25 0) fun u18 =>
        some ((), u18)
      ) else (
        if r6 = 45 then
        (
          zbd (rf_opens n u7 45) fun _ u21 =>
          zbd (f_one u21) fun _ u23 =>
          zlet (zsI u23 0 26 ((zI u23 0 26) - 1)) fun u24 =>
          zbd (rf_emit n u24 9 0 0 r4) fun _ u26 =>
          zlet (zsI u26 0 25 0) fun u27 =>
          some ((), u27)
        ) else (
          if r6 = 40 then
          (
            zbd (rf_opens n u7 40) fun _ u30 =>
            zbd (f_expr u30) fun _ u32 =>
            zbd (rf_closes n u32 41) fun _ u34 =>
            zlet (zsI u34 0 25 0) fun u35 =>
            some ((), u35)
          ) else (
            if r6 = 1 then
            (
              zlet (zsI u7 0 10 ((zI u7 0 10) + 1)) fun u37 =>
              zbd (rf_now n u37) fun r38 u39 =>
              if r38 = 40 then
              (
                zbd (f_callOf u39 v8 r4) fun _ u42 =>
                some ((), u42)
              ) else (
                zbd (rf_variable n u39 v8 r4) fun _ u44 =>
                some ((), u44)
              )
            ) else (
              if r6 = 208 then
              (
                rf_one_J228 n f_expr f_one f_callOf u7 r4 r6
              ) else (
                if r6 = 209 then
                (
                  rf_one_J228 n f_expr f_one f_callOf u7 r4 r6
                ) else (
                  if r6 = 210 then
                  (
                    rf_one_J228 n f_expr f_one f_callOf u7 r4 r6
                  ) else (
                    zbd (rf_faulty n u7) fun _ u49 =>
                    some ((), u49)
                  )
                )
              )
            )
          )
        )
      )
    )
  ) else (
    some ((), u2)
  )
def rf_callOf_J76 (n : Nat) (f_expr : zMu → Option (Unit × zMu)) (u : zMu) (x1 : Int32) (x2 : Int32) (x3 : Int32) : Option (Unit × zMu) :=
  zbd (rf_closes n u 41) fun _ u2 =>
  zgd (zin (zI u2 0 44) 800) <|
  zlet (zsI u2 23 (zx (zI u2 0 44)) (zI u2 0 24)) fun u3 =>
  zgd (zin (zI u3 0 44) 800) <|
  zlet (zsI u3 24 (zx (zI u3 0 44)) x1) fun u4 =>
  zgd (zin (zI u4 0 44) 800) <|
  zlet (zsI u4 25 (zx (zI u4 0 44)) x3) fun u5 =>
  zgd (zin (zI u5 0 44) 800) <|
  zlet (zsI u5 26 (zx (zI u5 0 44)) x2) fun u6 =>
  zlet (zsI u6 0 44 ((zI u6 0 44) + 1)) fun u7 =>
  zbd (rf_emit n u7 17 0 x3 x2) fun _ u9 =>
  zlet (zsI u9 0 25 0) fun u10 =>
  some ((), u10)
def rf_callOf_L30 (n : Nat) (f_expr : zMu → Option (Unit × zMu)) : Nat → zMu → Int32 → Int32 → Int32 → Option (Unit × zMu)
  | 0, _, _, _, _ => none
  | m + 1, u, x1, x2, x3 =>
    zbd (rf_isWrong n u) fun r1 u2 =>
    if r1 = 0 then
    (
      zbd (rf_now n u2) fun r4 u5 =>
      if r4 = 44 then
      (
        zlet (zsI u5 0 10 ((zI u5 0 10) + 1)) fun u7 =>
        if x3 = 4 then
        (
          zbd (rf_faulty n u7) fun _ u10 =>
          some ((), u10)
        ) else (
          zbd (f_expr u7) fun _ u12 =>
          zlet (x3 + 1) fun v13 =>
          rf_callOf_L30 n f_expr m u12 x1 x2 v13
        )
      ) else (
        rf_callOf_J76 n f_expr u5 x1 x2 x3
      )
    ) else (
      rf_callOf_J76 n f_expr u2 x1 x2 x3
    )
def rf_callOf_b (n : Nat) (f_expr : zMu → Option (Unit × zMu)) (u : zMu) (x1 : Int32) (x2 : Int32) : Option (Unit × zMu) :=
  zbd (rf_opens n u 40) fun _ u2 =>
  zbd (rf_isWrong n u2) fun r3 u4 =>
  if r3 = 0 then
  (
    zbd (rf_now n u4) fun r6 u7 =>
    if r6 = 41 then
    (
      rf_callOf_J76 n f_expr u7 x1 x2 0
    ) else (
      zbd (f_expr u7) fun _ u10 =>
      rf_callOf_L30 n f_expr n u10 x1 x2 1
    )
  ) else (
    rf_callOf_J76 n f_expr u4 x1 x2 0
  )
def rf_S_expr (n : Nat) : Nat → (zMu → Option (Unit × zMu)) × (zMu → Option (Unit × zMu)) × (zMu → Option (Unit × zMu)) × (zMu → Option (Unit × zMu)) × (zMu → Option (Unit × zMu)) × (zMu → Int32 → Int32 → Option (Unit × zMu))
  | 0 => (fun _ => none, fun _ => none, fun _ => none, fun _ => none, fun _ => none, fun _ _ _ => none)
  | j + 1 => (rf_expr_b n ((rf_S_expr n j).2.1), rf_sum_b n ((rf_S_expr n j).2.2.1), rf_term_b n ((rf_S_expr n j).2.2.2.1), rf_post_b n ((rf_S_expr n j).1) ((rf_S_expr n j).2.2.2.2.1), rf_one_b n ((rf_S_expr n j).1) ((rf_S_expr n j).2.2.2.2.1) ((rf_S_expr n j).2.2.2.2.2), rf_callOf_b n ((rf_S_expr n j).1))
def rf_expr (n k : Nat) : zMu → Option (Unit × zMu) := (rf_S_expr n k).1
def rf_sum (n k : Nat) : zMu → Option (Unit × zMu) := (rf_S_expr n k).2.1
def rf_term (n k : Nat) : zMu → Option (Unit × zMu) := (rf_S_expr n k).2.2.1
def rf_post (n k : Nat) : zMu → Option (Unit × zMu) := (rf_S_expr n k).2.2.2.1
def rf_one (n k : Nat) : zMu → Option (Unit × zMu) := (rf_S_expr n k).2.2.2.2.1
def rf_callOf (n k : Nat) : zMu → Int32 → Int32 → Option (Unit × zMu) := (rf_S_expr n k).2.2.2.2.2
def rf_lets (n k : Nat) (u : zMu) : Option (Unit × zMu) :=
  zlet (zsI u 0 10 ((zI u 0 10) + 1)) fun u1 =>
  zbd (rf_now n u1) fun r2 u3 =>
  if r2 = 1 then
  (
    zgd (zin (zI u3 0 10) 1502) <|
    zlet (zI u3 6 (zx (zI u3 0 10))) fun v5 =>
    zbd (rf_place n u3) fun r6 u7 =>
    zlet (zsI u7 0 10 ((zI u7 0 10) + 1)) fun u8 =>
    zbd (rf_want n u8 61) fun _ u10 =>
    zbd (rf_isWrong n u10) fun r11 u12 =>
    if r11 = 0 then
    (
      zbd (rf_expr n k u12) fun _ u15 =>
      zbd (rf_want n u15 59) fun _ u17 =>
      zbd (rf_addVar n u17 v5 r6) fun _ u19 =>
      zbd (rf_findVar n u19 v5) fun r20 u21 =>
      zbd (rf_emit n u21 4 r20 0 r6) fun _ u23 =>
      some ((), u23)
    ) else (
      some ((), u12)
    )
  ) else (
    zbd (rf_faulty n u3) fun _ u25 =>
    some ((), u25)
  )
def rf_assigns (n k : Nat) (u : zMu) : Option (Unit × zMu) :=
  zbd (rf_expr n k u) fun _ u2 =>
  zbd (rf_isWrong n u2) fun r3 u4 =>
  if r3 = 0 then
  (
    zbd (rf_now n u4) fun r6 u7 =>
    if r6 = 61 then
    (
      if zI u7 0 25 = 0 then
      (
        zbd (rf_faulty n u7) fun _ u11 =>
        some ((), u11)
      ) else (
        zlet (zsI u7 0 24 ((zI u7 0 24) - 1)) fun u12 =>
        zlet (zI u12 0 25) fun v13 =>
        zgd (zin (zI u12 0 24) 4000) <|
        zlet (zI u12 11 (zx (zI u12 0 24))) fun v14 =>
        zgd (zin (zI u12 0 24) 4000) <|
        zlet (zI u12 13 (zx (zI u12 0 24))) fun v15 =>
        zlet (zsI u12 0 10 ((zI u12 0 10) + 1)) fun u16 =>
        zbd (rf_expr n k u16) fun _ u18 =>
        zbd (rf_want n u18 59) fun _ u20 =>
        if v13 = 1 then
        (
          zbd (rf_emit n u20 4 v14 0 v15) fun _ u23 =>
          some ((), u23)
        ) else (
          if v13 = 2 then
          (
            zgd (zin v14 800) <|
            zlet (zsI u20 19 (zx v14) 1) fun u25 =>
            zbd (rf_emit n u25 6 v14 0 v15) fun _ u27 =>
            some ((), u27)
          ) else (
            zbd (rf_emit n u20 16 0 0 v15) fun _ u29 =>
            some ((), u29)
          )
        )
      )
    ) else (
      zbd (rf_want n u7 59) fun _ u31 =>
      zbd (rf_emit n u31 20 0 0 0) fun _ u33 =>
      some ((), u33)
    )
  ) else (
    some ((), u4)
  )
def rf_block_L6 (n k : Nat) (f_step : zMu → Option (Unit × zMu)) : Nat → zMu → Option (Unit × zMu)
  | 0, _ => none
  | m + 1, u =>
    zbd (rf_isWrong n u) fun r1 u2 =>
    if r1 = 0 then
    (
      zbd (rf_now n u2) fun r4 u5 =>
      if r4 = 125 then
      (
        zbd (rf_closes n u5 125) fun _ u8 =>
        some ((), u8)
      ) else (
        zbd (rf_now n u5) fun r9 u10 =>
        if r9 = 0 then
        (
          zbd (rf_closes n u10 125) fun _ u13 =>
          some ((), u13)
        ) else (
          zbd (f_step u10) fun _ u15 =>
          rf_block_L6 n k f_step m u15
        )
      )
    ) else (
      zbd (rf_closes n u2 125) fun _ u17 =>
      some ((), u17)
    )
def rf_block_b (n k : Nat) (f_step : zMu → Option (Unit × zMu)) (u : zMu) : Option (Unit × zMu) :=
  zbd (rf_opens n u 123) fun _ u2 =>
  rf_block_L6 n k f_step n u2
def rf_step_J51 (n k : Nat) (f_block : zMu → Option (Unit × zMu)) (u : zMu) (x1 : Int32) (x2 : Int32) (x3 : Int32) : Option (Unit × zMu) :=
  zlet (zsI u 0 10 ((zI u 0 10) + 1)) fun u1 =>
  zbd (rf_expr n k u1) fun _ u3 =>
  zlet (zI u3 0 24) fun v4 =>
  zbd (rf_emit n u3 21 0 0 x2) fun _ u6 =>
  zbd (f_block u6) fun _ u8 =>
  if x1 = 204 then
  (
    zbd (rf_emit n u8 22 x3 0 x2) fun _ u11 =>
    zgd (zin v4 4000) <|
    zlet (zsI u11 11 (zx v4) (zI u11 0 24)) fun u12 =>
    some ((), u12)
  ) else (
    zbd (rf_isWrong n u8) fun r13 u14 =>
    if r13 = 0 then
    (
      zbd (rf_now n u14) fun r16 u17 =>
      if r16 = 203 then
      (
        zlet (zsI u17 0 10 ((zI u17 0 10) + 1)) fun u19 =>
        zlet (zI u19 0 24) fun v20 =>
        zbd (rf_emit n u19 22 0 0 x2) fun _ u22 =>
        zgd (zin v4 4000) <|
        zlet (zsI u22 11 (zx v4) (zI u22 0 24)) fun u23 =>
        zbd (f_block u23) fun _ u25 =>
        zgd (zin v20 4000) <|
        zlet (zsI u25 11 (zx v20) (zI u25 0 24)) fun u26 =>
        some ((), u26)
      ) else (
        zgd (zin v4 4000) <|
        zlet (zsI u17 11 (zx v4) (zI u17 0 24)) fun u27 =>
        some ((), u27)
      )
    ) else (
      zgd (zin v4 4000) <|
      zlet (zsI u14 11 (zx v4) (zI u14 0 24)) fun u28 =>
      some ((), u28)
    )
  )
def rf_step_J200 (n k : Nat) (f_block : zMu → Option (Unit × zMu)) (u : zMu) (x1 : Int32) (x2 : Int32) : Option (Unit × zMu) :=
  zlet (zsI u 0 10 ((zI u 0 10) + 1)) fun u1 =>
  zbd (rf_expr n k u1) fun _ u3 =>
  zbd (rf_want n u3 59) fun _ u5 =>
  if x1 = 205 then
  (
    zbd (rf_emit n u5 18 0 0 x2) fun _ u8 =>
    some ((), u8)
  ) else (
    zbd (rf_emit n u5 19 0 0 x2) fun _ u10 =>
    some ((), u10)
  )
def rf_step_J284 (n k : Nat) (f_block : zMu → Option (Unit × zMu)) (u : zMu) : Option (Unit × zMu) :=
  zbd (rf_isWrong n u) fun r1 u2 =>
  if r1 = 0 then
  (
    zlet (zsI u2 0 24 ((zI u2 0 24) - 1)) fun u4 =>
    zgd (zin (zI u4 0 24) 4000) <|
    zlet (zI u4 11 (zx (zI u4 0 24))) fun v5 =>
    zgd (zin v5 800) <|
    zlet (zsI u4 19 (zx v5) 2) fun u6 =>
    zbd (rf_want n u6 59) fun _ u8 =>
    zgd (zin v5 800) <|
    zbd (rf_emit n u8 7 v5 0 (zI u8 20 (zx v5))) fun _ u10 =>
    some ((), u10)
  ) else (
    some ((), u2)
  )
def rf_step_b (n k : Nat) (f_block : zMu → Option (Unit × zMu)) (u : zMu) : Option (Unit × zMu) :=
  zbd (rf_now n u) fun r1 u2 =>
  zbd (rf_place n u2) fun r3 u4 =>
  zlet (zI u4 0 24) fun v5 =>
  zbd (rf_emit n u4 0 0 0 r3) fun _ u7 =>
  if r1 = 201 then
  (
    zbd (rf_lets n k u7) fun _ u10 =>
    some ((), u10)
  ) else (
    if r1 = 202 then
    (
      rf_step_J51 n k f_block u7 r1 r3 v5
    ) else (
      if r1 = 204 then
      (
        rf_step_J51 n k f_block u7 r1 r3 v5
      ) else (
        if r1 = 205 then
        (
          rf_step_J200 n k f_block u7 r1 r3
        ) else (
          if r1 = 206 then
          (
            rf_step_J200 n k f_block u7 r1 r3
          ) else (
            if r1 = 207 then
            (
              zlet (zsI u7 0 10 ((zI u7 0 10) + 1)) fun u16 =>
              zbd (rf_expr n k u16) fun _ u18 =>
              zbd (rf_isWrong n u18) fun r19 u20 =>
              if r19 = 0 then
              (
                if zI u20 0 25 = 2 then
                (
                  rf_step_J284 n k f_block u20
                ) else (
                  zbd (rf_faulty n u20) fun _ u24 =>
                  rf_step_J284 n k f_block u24
                )
              ) else (
                rf_step_J284 n k f_block u20
              )
            ) else (
              zbd (rf_assigns n k u7) fun _ u26 =>
              some ((), u26)
            )
          )
        )
      )
    )
  )
def rf_S_block (n k : Nat) : Nat → (zMu → Option (Unit × zMu)) × (zMu → Option (Unit × zMu))
  | 0 => (fun _ => none, fun _ => none)
  | j + 1 => (rf_block_b n k ((rf_S_block n k j).2), rf_step_b n k ((rf_S_block n k j).1))
def rf_block (n k : Nat) : zMu → Option (Unit × zMu) := (rf_S_block n k k).1
def rf_step (n k : Nat) : zMu → Option (Unit × zMu) := (rf_S_block n k k).2
def rf_function_J268 (n k : Nat) (u : zMu) (x1 : Int32) (x2 : Int32) : Option (Unit × zMu) :=
  zbd (rf_closes n u 41) fun _ u2 =>
  zgd (zin x1 9) <|
  zlet (zsI u2 16 (zx x1) x2) fun u3 =>
  zgd (zin x1 9) <|
  zlet (zsI u3 15 (zx x1) (zI u3 0 24)) fun u4 =>
  zlet (zsI u4 0 33 ((zI u4 0 33) + 1)) fun u5 =>
  zbd (rf_block n k u5) fun _ u7 =>
  zbd (rf_emit n u7 23 0 0 0) fun _ u9 =>
  some ((), u9)
def rf_function_J250 (n k : Nat) (k145 : zMu → Int32 → Int32 → Int32 → Option (Unit × zMu)) (u : zMu) (x1 : Int32) (x2 : Int32) (s0 : Int32) : Option (Unit × zMu) :=
  if s0 = 0 then
  (
    k145 u x1 x2 s0
  ) else (
    zlet (zsI u 0 10 ((zI u 0 10) + 1)) fun u2 =>
    k145 u2 x1 x2 s0
  )
def rf_function_J193 (n k : Nat) (k145 : zMu → Int32 → Int32 → Int32 → Option (Unit × zMu)) (u : zMu) (x1 : Int32) (x2 : Int32) : Option (Unit × zMu) :=
  zgd (zin x1 10) <|
  zlet (zI u 17 (zx x1)) fun v1 =>
  zgd (zin x1 10) <|
  zlet (zsI u 17 (zx x1) (v1 + 1)) fun u2 =>
  zgd (zin (zI u2 0 10) 1502) <|
  zgd (zin ((13 * x1) + v1) 130) <|
  zlet (zsI u2 18 (zx ((13 * x1) + v1)) (zI u2 6 (zx (zI u2 0 10)))) fun u3 =>
  zlet (x2 + 1) fun v4 =>
  zlet (zsI u3 0 10 ((zI u3 0 10) + 1)) fun u5 =>
  zbd (rf_now n u5) fun r6 u7 =>
  if r6 = 44 then
  (
    rf_function_J250 n k (k145) u7 x1 v4 1
  ) else (
    rf_function_J250 n k (k145) u7 x1 v4 0
  )
def rf_function_L145 (n k : Nat) : Nat → zMu → Int32 → Int32 → Int32 → Option (Unit × zMu)
  | 0, _, _, _, _ => none
  | m + 1, u, x1, x2, x3 =>
    if x3 = 0 then
    (
      rf_function_J268 n k u x1 x2
    ) else (
      zbd (rf_now n u) fun r2 u3 =>
      if r2 = 1 then
      (
        if x2 = 4 then
        (
          zbd (rf_faulty n u3) fun _ u7 =>
          some ((), u7)
        ) else (
          zgd (zin (zI u3 0 10) 1502) <|
          zbd (rf_findVar n u3 (zI u3 6 (zx (zI u3 0 10)))) fun r8 u9 =>
          if r8 = (-1) then
          (
            rf_function_J193 n k (rf_function_L145 n k m) u9 x1 x2
          ) else (
            zbd (rf_place n u9) fun r11 u12 =>
            zbd (rf_notes n u12 r11 3) fun _ u14 =>
            rf_function_J193 n k (rf_function_L145 n k m) u14 x1 x2
          )
        )
      ) else (
        zbd (rf_faulty n u3) fun _ u16 =>
        some ((), u16)
      )
    )
def rf_function_L44 (n k : Nat) : Nat → zMu → Int32 → Int32 → Option (Unit × zMu)
  | 0, _, _, _ => none
  | m + 1, u, x1, x2 =>
    if x2 < x1 then
    (
      zgd (zin x2 9) <|
      zgd (zin (zI u 0 10) 1502) <|
      if zI u 14 (zx x2) = zI u 6 (zx (zI u 0 10)) then
      (
        zbd (rf_place n u) fun r3 u4 =>
        zbd (rf_notes n u4 r3 2) fun _ u6 =>
        zlet (x2 + 1) fun v7 =>
        rf_function_L44 n k m u6 x1 v7
      ) else (
        zlet (x2 + 1) fun v8 =>
        rf_function_L44 n k m u x1 v8
      )
    ) else (
      zgd (zin (zI u 0 10) 1502) <|
      zgd (zin x1 9) <|
      zlet (zsI u 14 (zx x1) (zI u 6 (zx (zI u 0 10)))) fun u9 =>
      zlet (zsI u9 0 10 ((zI u9 0 10) + 1)) fun u10 =>
      zlet (zsI u10 0 27 x1) fun u11 =>
      zgd (zin x1 10) <|
      zlet (zsI u11 17 (zx x1) 0) fun u12 =>
      zbd (rf_opens n u12 40) fun _ u14 =>
      zbd (rf_isWrong n u14) fun r15 u16 =>
      if r15 = 0 then
      (
        zbd (rf_now n u16) fun r18 u19 =>
        if r18 = 41 then
        (
          rf_function_J268 n k u19 x1 0
        ) else (
          rf_function_L145 n k n u19 x1 0 1
        )
      ) else (
        rf_function_J268 n k u16 x1 0
      )
    )
def rf_function (n k : Nat) (u : zMu) : Option (Unit × zMu) :=
  if zI u 0 33 = 8 then
  (
    zbd (rf_faulty n u) fun _ u3 =>
    some ((), u3)
  ) else (
    zlet (zsI u 0 10 ((zI u 0 10) + 1)) fun u4 =>
    zbd (rf_now n u4) fun r5 u6 =>
    if r5 = 1 then
    (
      zlet (zI u6 0 33) fun v8 =>
      rf_function_L44 n k n u6 v8 0
    ) else (
      zbd (rf_faulty n u6) fun _ u10 =>
      some ((), u10)
    )
  )
def rf_links_L19 (n : Nat) (k2 : zMu → Int32 → Option (Unit × zMu)) : Nat → zMu → Int32 → Int32 → Int32 → Option (Unit × zMu)
  | 0, _, _, _, _ => none
  | m + 1, u, x1, x2, x3 =>
    if x3 < 0 then
    (
      zgd (zin x1 800) <|
      zgd (zin (zI u 23 (zx x1)) 4000) <|
      zlet (zsI u 11 (zx (zI u 23 (zx x1))) x2) fun u2 =>
      if x2 = (-1) then
      (
        zgd (zin x1 800) <|
        zbd (rf_notes n u2 (zI u2 26 (zx x1)) 2) fun _ u5 =>
        zlet (x1 + 1) fun v6 =>
        k2 u5 v6
      ) else (
        zgd (zin x2 9) <|
        zgd (zin x1 800) <|
        if zI u2 16 (zx x2) = zI u2 25 (zx x1) then
        (
          zlet (x1 + 1) fun v8 =>
          k2 u2 v8
        ) else (
          zgd (zin x1 800) <|
          zbd (rf_notes n u2 (zI u2 26 (zx x1)) 3) fun _ u10 =>
          zlet (x1 + 1) fun v11 =>
          k2 u10 v11
        )
      )
    ) else (
      zgd (zin x3 9) <|
      zgd (zin x1 800) <|
      if zI u 14 (zx x3) = zI u 24 (zx x1) then
      (
        zlet (x3 + (-1)) fun v13 =>
        rf_links_L19 n k2 m u x1 x3 v13
      ) else (
        zlet (x3 + (-1)) fun v14 =>
        rf_links_L19 n k2 m u x1 x2 v14
      )
    )
def rf_links_L2 (n : Nat) : Nat → zMu → Int32 → Option (Unit × zMu)
  | 0, _, _ => none
  | m + 1, u, x1 =>
    if x1 < zI u 0 44 then
    (
      zlet ((zI u 0 33) - 1) fun v2 =>
      rf_links_L19 n (rf_links_L2 n m) n u x1 (-1) v2
    ) else (
      some ((), u)
    )
def rf_links (n : Nat) (u : zMu) : Option (Unit × zMu) :=
  rf_links_L2 n n u 0
def rf_takes_J115 (n k : Nat) (u : zMu) : Option (Unit × zMu) :=
  zbd (rf_emit n u 23 0 0 0) fun _ u2 =>
  zbd (rf_isWrong n u2) fun r3 u4 =>
  if r3 = 0 then
  (
    zbd (rf_links n u4) fun _ u7 =>
    some ((), u7)
  ) else (
    some ((), u4)
  )
def rf_takes_L94 (n k : Nat) : Nat → zMu → Option (Unit × zMu)
  | 0, _ => none
  | m + 1, u =>
    zbd (rf_isWrong n u) fun r1 u2 =>
    if r1 = 0 then
    (
      zbd (rf_now n u2) fun r4 u5 =>
      if r4 = 0 then
      (
        rf_takes_J115 n k u5
      ) else (
        zbd (rf_step n k u5) fun _ u8 =>
        rf_takes_L94 n k m u8
      )
    ) else (
      rf_takes_J115 n k u2
    )
def rf_takes_J73 (n k : Nat) (u : zMu) : Option (Unit × zMu) :=
  zlet (zsI u 0 27 (-1)) fun u1 =>
  zgd (zin 9 10) <|
  zlet (zsI u1 17 (zx 9) 0) fun u2 =>
  zlet (zsI u2 0 34 (zI u2 0 24)) fun u3 =>
  rf_takes_L94 n k n u3
def rf_takes_L49 (n k : Nat) : Nat → zMu → Option (Unit × zMu)
  | 0, _ => none
  | m + 1, u =>
    zbd (rf_isWrong n u) fun r1 u2 =>
    if r1 = 0 then
    (
      zbd (rf_now n u2) fun r4 u5 =>
      if r4 = 200 then
      (
        zbd (rf_function n k u5) fun _ u8 =>
        rf_takes_L49 n k m u8
      ) else (
        rf_takes_J73 n k u5
      )
    ) else (
      rf_takes_J73 n k u2
    )
def rf_takes (n k : Nat) (u : zMu) : Option (Unit × zMu) :=
  zbd (rf_cuts n u) fun _ u2 =>
  zlet (zsI u2 0 10 0) fun u3 =>
  zlet (zsI u3 0 15 (-1)) fun u4 =>
  zlet (zsI u4 0 16 (-1)) fun u5 =>
  zlet (zsI u5 0 17 0) fun u6 =>
  zlet (zsI u6 0 24 0) fun u7 =>
  zlet (zsI u7 0 26 0) fun u8 =>
  zlet (zsI u8 0 33 0) fun u9 =>
  zlet (zsI u9 0 39 0) fun u10 =>
  zlet (zsI u10 0 44 0) fun u11 =>
  rf_takes_L49 n k n u11
def rf_anew_L146 (n : Nat) : Nat → zMu → Int32 → Option (Unit × zMu)
  | 0, _, _ => none
  | m + 1, u, x1 =>
    if x1 < 9 then
    (
      zgd (zin x1 9) <|
      zlet (zsI u 61 (zx x1) 0) fun u2 =>
      zgd (zin x1 9) <|
      zlet (zsI u2 62 (zx x1) 0) fun u3 =>
      zgd (zin x1 9) <|
      zlet (zsI u3 63 (zx x1) 0) fun u4 =>
      zgd (zin x1 9) <|
      zlet (zsI u4 64 (zx x1) 0) fun u5 =>
      zgd (zin x1 9) <|
      zlet (zsI u5 65 (zx x1) (-1)) fun u6 =>
      zgd (zin x1 9) <|
      zlet (zsI u6 66 (zx x1) (vp_nar .boolean 0)) fun u7 =>
      zgd (zin x1 9) <|
      zlet (zsI u7 67 (zx x1) (vp_nar .boolean 0)) fun u8 =>
      zlet (x1 + 1) fun v9 =>
      rf_anew_L146 n m u8 v9
    ) else (
      some ((), u)
    )
def rf_anew_L97 (n : Nat) : Nat → zMu → Int32 → Option (Unit × zMu)
  | 0, _, _ => none
  | m + 1, u, x1 =>
    if x1 < 81 then
    (
      zgd (zin x1 81) <|
      zlet (zsI u 52 (zx x1) 0) fun u2 =>
      zgd (zin x1 81) <|
      zlet (zsI u2 53 (zx x1) 0) fun u3 =>
      zgd (zin x1 81) <|
      zlet (zsI u3 54 (zx x1) 0) fun u4 =>
      zgd (zin x1 81) <|
      zlet (zsI u4 58 (zx x1) (vp_nar .boolean 0)) fun u5 =>
      zgd (zin x1 81) <|
      zlet (zsI u5 59 (zx x1) 0) fun u6 =>
      zlet (x1 + 1) fun v7 =>
      rf_anew_L97 n m u6 v7
    ) else (
      rf_anew_L146 n n u 0
    )
def rf_anew (n : Nat) (u : zMu) : Option (Unit × zMu) :=
  zlet (zsI u 0 51 0) fun u1 =>
  zlet (zsI u1 0 52 0) fun u2 =>
  zlet (zsI u2 0 53 0) fun u3 =>
  zlet (zsI u3 0 54 (-1)) fun u4 =>
  zlet (zsI u4 0 55 0) fun u5 =>
  zlet (zsI u5 0 56 0) fun u6 =>
  zlet (zsI u6 0 57 0) fun u7 =>
  zlet (zsI u7 0 58 0) fun u8 =>
  zlet (zsI u8 0 59 0) fun u9 =>
  zlet (zsI u9 0 60 0) fun u10 =>
  zlet (zsI u10 0 61 0) fun u11 =>
  zlet (zsI u11 0 62 0) fun u12 =>
  zlet (zsI u12 0 63 0) fun u13 =>
  zlet (zsI u13 0 64 0) fun u14 =>
  zlet (zsI u14 0 65 0) fun u15 =>
  zlet (zsI u15 0 66 0) fun u16 =>
  zlet (zsI u16 0 67 0) fun u17 =>
  zlet (zsI u17 0 68 0) fun u18 =>
  zlet (zsI u18 0 80 0) fun u19 =>
  rf_anew_L97 n n u19 0
def rf_read_L151 (n k : Nat) : Nat → zMu → Int32 → Int32 → Option (Int32 × zMu)
  | 0, _, _, _ => none
  | m + 1, u, x1, x2 =>
    if x2 < x1 then
    (
      zgd (zin x2 1500) <|
      zgd (zin x2 1500) <|
      zlet (zsI u 2 (zx x2) (zI u 3 (zx x2))) fun u2 =>
      zlet (x2 + 1) fun v3 =>
      rf_read_L151 n k m u2 x1 v3
    ) else (
      zlet (zsI u 0 4 x1) fun u4 =>
      zbd (rf_takes n k u4) fun _ u6 =>
      some ((-10) - (zI u6 0 18), u6)
    )
def rf_read_J125 (n k : Nat) (u : zMu) (x1 : Int32) (s1 : Int32) : Option (Int32 × zMu) :=
  zlet (zsI u 0 19 s1) fun u1 =>
  if zI u1 0 18 = 0 then
  (
    zlet (zsI u1 0 5 1) fun u3 =>
    zbd (rf_anew n u3) fun _ u5 =>
    some (zI u5 0 39, u5)
  ) else (
    rf_read_L151 n k n u1 x1 0
  )
def rf_read_J103 (n k : Nat) (u : zMu) (x1 : Int32) (s1 : Int32) : Option (Int32 × zMu) :=
  zlet (zsI u 0 18 s1) fun u1 =>
  zbd (rf_isWrong n u1) fun r2 u3 =>
  if r2 = 0 then
  (
    rf_read_J125 n k u3 x1 (zI u3 0 16)
  ) else (
    rf_read_J125 n k u3 x1 (zI u3 0 15)
  )
def rf_read_L32 (n k : Nat) : Nat → zMu → Int32 → Int32 → Option (Int32 × zMu)
  | 0, _, _, _ => none
  | m + 1, u, x1, x2 =>
    if x2 < zI u 0 3 then
    (
      zgd (zin x2 1500) <|
      zgd (zin x2 1500) <|
      zlet (zsI u 2 (zx x2) (zI u 1 (zx x2))) fun u2 =>
      zlet (x2 + 1) fun v3 =>
      rf_read_L32 n k m u2 x1 v3
    ) else (
      zlet (zsI u 0 4 (zI u 0 3)) fun u4 =>
      zlet (zsI u4 0 3 0) fun u5 =>
      zbd (rf_takes n k u5) fun _ u7 =>
      zbd (rf_isWrong n u7) fun r8 u9 =>
      if r8 = 0 then
      (
        if zI u9 0 16 = (-1) then
        (
          rf_read_J103 n k u9 x1 0
        ) else (
          rf_read_J103 n k u9 x1 (zI u9 0 17)
        )
      ) else (
        rf_read_J103 n k u9 x1 1
      )
    )
def rf_read_L7 (n k : Nat) : Nat → zMu → Int32 → Int32 → Option (Int32 × zMu)
  | 0, _, _, _ => none
  | m + 1, u, x1, x2 =>
    if x2 < x1 then
    (
      zgd (zin x2 1500) <|
      zgd (zin x2 1500) <|
      zlet (zsI u 3 (zx x2) (zI u 2 (zx x2))) fun u2 =>
      zlet (x2 + 1) fun v3 =>
      rf_read_L7 n k m u2 x1 v3
    ) else (
      rf_read_L32 n k n u x1 0
    )
def rf_read (n k : Nat) (u : zMu) : Option (Int32 × zMu) :=
  zlet (zI u 0 4) fun v1 =>
  rf_read_L7 n k n u v1 0
def rf_fault (n : Nat) (u : zMu) (x1 : Int32) : Option (Int32 × zMu) :=
  if x1 = 0 then
  (
    some (zI u 0 18, u)
  ) else (
    if x1 = 1 then
    (
      some (zI u 0 19, u)
    ) else (
      some ((-2), u)
    )
  )
def rf_pushes (n : Nat) (u : zMu) (x1 : Int32) (x2 : Int64) : Option (Unit × zMu) :=
  zgd (zin (zI u 0 51) 2200) <|
  zlet (zsI u 27 (zx (zI u 0 51)) x1) fun u1 =>
  zgd (zin (zI u1 0 51) 2200) <|
  zlet (zsL u1 31 (zx (zI u1 0 51)) x2) fun u2 =>
  zlet (zsI u2 0 51 ((zI u2 0 51) + 1)) fun u3 =>
  some ((), u3)
def rf_fails (n : Nat) (u : zMu) (x1 : Int32) (x2 : Int32) : Option (Int32 × zMu) :=
  zlet (zsI u 0 53 x1) fun u1 =>
  zlet (zsI u1 0 54 x2) fun u2 =>
  some (1, u2)
def rf_isWhole (n : Nat) (u : zMu) (x0 : Int64) : Option (Int32 × zMu) :=
  if lg_cmp x0 (-1073741824) < 0 then
  (
    some (0, u)
  ) else (
    if 0 < lg_cmp x0 1073741823 then
    (
      some (0, u)
    ) else (
      some (1, u)
    )
  )
def rf_makes_L77 (n : Nat) (k29 : zMu → Int32 → Int32 → Option (Unit × zMu)) : Nat → zMu → Int32 → Int32 → Int32 → Option (Unit × zMu)
  | 0, _, _, _, _ => none
  | m + 1, u, x1, x2, x3 =>
    zgd (zin x2 81) <|
    if x3 < zI u 54 (zx x2) then
    (
      zgd (zin ((4 * x2) + x3) 330) <|
      zgd (zin ((4 * x2) + x3) 330) <|
      zlet (zsI u 60 (zx ((4 * x2) + x3)) (zI u 55 (zx ((4 * x2) + x3)))) fun u2 =>
      zlet (x3 + 1) fun v3 =>
      rf_makes_L77 n k29 m u2 x1 x2 v3
    ) else (
      zgd (zin x2 81) <|
      zgd (zin x2 81) <|
      zlet (zsI u 59 (zx x2) (zI u 54 (zx x2))) fun u4 =>
      zlet (x2 + 1) fun v5 =>
      k29 u4 x1 v5
    )
def rf_makes_J128 (n : Nat) (k29 : zMu → Int32 → Int32 → Option (Unit × zMu)) (u : zMu) (x1 : Int32) (x2 : Int32) : Option (Unit × zMu) :=
  zgd (zin x2 800) <|
  if zI u 19 (zx x2) = 3 then
  (
    zgd (zin x2 81) <|
    if zI u 54 (zx x2) = 1 then
    (
      zgd (zin x2 81) <|
      zlet (zsI u 59 (zx x2) 1) fun u3 =>
      zlet (x2 + 1) fun v4 =>
      k29 u3 x1 v4
    ) else (
      zlet (x2 + 1) fun v5 =>
      k29 u x1 v5
    )
  ) else (
    zlet (x2 + 1) fun v6 =>
    k29 u x1 v6
  )
def rf_makes_L29 (n : Nat) : Nat → zMu → Int32 → Int32 → Option (Unit × zMu)
  | 0, _, _, _ => none
  | m + 1, u, x1, x2 =>
    if x2 < zI u 0 39 then
    (
      zgd (zin x2 800) <|
      if zI u 21 (zx x2) = x1 then
      (
        zgd (zin x2 81) <|
        zlet (zsI u 59 (zx x2) 0) fun u3 =>
        zgd (zin x2 800) <|
        if zI u3 19 (zx x2) = 0 then
        (
          zgd (zin x2 81) <|
          if zI u3 58 (zx x2) = 0 then
          (
            rf_makes_L77 n (rf_makes_L29 n m) n u3 x1 x2 0
          ) else (
            rf_makes_J128 n (rf_makes_L29 n m) u3 x1 x2
          )
        ) else (
          rf_makes_J128 n (rf_makes_L29 n m) u3 x1 x2
        )
      ) else (
        zlet (x2 + 1) fun v6 =>
        rf_makes_L29 n m u x1 v6
      )
    ) else (
      some ((), u)
    )
def rf_makes (n : Nat) (u : zMu) (x1 : Int32) : Option (Unit × zMu) :=
  zgd (zin x1 9) <|
  zlet (zsI u 66 (zx x1) (vp_nar .boolean 1)) fun u1 =>
  zgd (zin x1 9) <|
  zgd (zin x1 9) <|
  zlet (zsI u1 63 (zx x1) ((zI u1 63 (zx x1)) + 1)) fun u2 =>
  zlet (zsI u2 0 65 ((zI u2 0 65) + 1)) fun u3 =>
  rf_makes_L29 n n u3 x1 0
def rf_enters_L108 (n : Nat) : Nat → zMu → Int32 → Int32 → Int32 → Int32 → Option (Unit × zMu)
  | 0, _, _, _, _, _ => none
  | m + 1, u, x1, x2, x4, x5 =>
    if x5 < x2 then
    (
      zgd (zin ((zI u 0 51) + x5) 2200) <|
      zgd (zin (x4 + x5) 160) <|
      zlet (zsI u 28 (zx (x4 + x5)) (zI u 27 (zx ((zI u 0 51) + x5)))) fun u2 =>
      zgd (zin ((zI u2 0 51) + x5) 2200) <|
      zgd (zin (x4 + x5) 160) <|
      zlet (zsL u2 32 (zx (x4 + x5)) (zL u2 31 (zx ((zI u2 0 51) + x5)))) fun u3 =>
      zlet (x5 + 1) fun v4 =>
      rf_enters_L108 n m u3 x1 x2 x4 v4
    ) else (
      zgd (zin x1 9) <|
      zgd (zin x1 9) <|
      zlet (zsI u 61 (zx x1) ((zI u 61 (zx x1)) + 1)) fun u5 =>
      zgd (zin x1 9) <|
      zgd (zin x1 9) <|
      zlet (zsI u5 62 (zx x1) ((zI u5 62 (zx x1)) + 1)) fun u6 =>
      zgd (zin x1 9) <|
      if zI u6 62 (zx x1) = 4 then
      (
        zgd (zin x1 9) <|
        if zI u6 66 (zx x1) = 0 then
        (
          zgd (zin x1 9) <|
          if zI u6 67 (zx x1) = 0 then
          (
            zbd (rf_makes n u6 x1) fun _ u11 =>
            some ((), u11)
          ) else (
            some ((), u6)
          )
        ) else (
          some ((), u6)
        )
      ) else (
        some ((), u6)
      )
    )
def rf_enters_L71 (n : Nat) : Nat → zMu → Int32 → Int32 → Int32 → Int32 → Option (Unit × zMu)
  | 0, _, _, _, _, _ => none
  | m + 1, u, x1, x2, x4, x5 =>
    if x5 < 12 then
    (
      zgd (zin (x4 + x5) 160) <|
      zlet (zsI u 28 (zx (x4 + x5)) 0) fun u2 =>
      zlet (x5 + 1) fun v3 =>
      rf_enters_L71 n m u2 x1 x2 x4 v3
    ) else (
      zlet (zsI u 0 51 ((zI u 0 51) - x2)) fun u4 =>
      rf_enters_L108 n n u4 x1 x2 x4 0
    )
def rf_enters_J49 (n : Nat) (u : zMu) (x1 : Int32) (x2 : Int32) : Option (Unit × zMu) :=
  zlet (zsI u 0 56 ((zI u 0 56) + 1)) fun u1 =>
  zlet (12 * (zI u1 0 52)) fun v2 =>
  rf_enters_L71 n n u1 x1 x2 v2 0
def rf_enters (n : Nat) (u : zMu) (x1 : Int32) (x2 : Int32) (x3 : Int32) : Option (Unit × zMu) :=
  zlet (zsI u 0 52 ((zI u 0 52) + 1)) fun u1 =>
  zgd (zin (zI u1 0 52) 14) <|
  zlet (zsI u1 29 (zx (zI u1 0 52)) x3) fun u2 =>
  zgd (zin (zI u2 0 52) 14) <|
  zlet (zsI u2 30 (zx (zI u2 0 52)) x1) fun u3 =>
  if zI u3 0 68 < zI u3 0 52 then
  (
    zlet (zsI u3 0 68 (zI u3 0 52)) fun u5 =>
    rf_enters_J49 n u5 x1 x2
  ) else (
    rf_enters_J49 n u3 x1 x2
  )
def rf_leaves_L67 (n : Nat) : Nat → zMu → Int32 → Int32 → Option (Unit × zMu)
  | 0, _, _, _ => none
  | m + 1, u, x2, x3 =>
    if x3 < zI u 0 39 then
    (
      zgd (zin x3 800) <|
      if zI u 21 (zx x3) = x2 then
      (
        zgd (zin x3 81) <|
        zlet (zsI u 59 (zx x3) 0) fun u3 =>
        zlet (x3 + 1) fun v4 =>
        rf_leaves_L67 n m u3 x2 v4
      ) else (
        zlet (x3 + 1) fun v5 =>
        rf_leaves_L67 n m u x2 v5
      )
    ) else (
      some ((), u)
    )
def rf_leaves (n : Nat) (u : zMu) (x1 : Int32) : Option (Unit × zMu) :=
  zgd (zin x1 800) <|
  zlet (zI u 21 (zx x1)) fun v1 =>
  zgd (zin v1 9) <|
  zlet (zsI u 66 (zx v1) (vp_nar .boolean 0)) fun u2 =>
  zgd (zin v1 9) <|
  zlet (zsI u2 62 (zx v1) 0) fun u3 =>
  zgd (zin v1 9) <|
  zgd (zin v1 9) <|
  zlet (zsI u3 64 (zx v1) ((zI u3 64 (zx v1)) + 1)) fun u4 =>
  zlet (zsI u4 0 66 ((zI u4 0 66) + 1)) fun u5 =>
  zgd (zin v1 9) <|
  zlet (zsI u5 65 (zx v1) x1) fun u6 =>
  zgd (zin v1 9) <|
  if zI u6 64 (zx v1) = 3 then
  (
    zgd (zin v1 9) <|
    zlet (zsI u6 67 (zx v1) (vp_nar .boolean 1)) fun u8 =>
    rf_leaves_L67 n n u8 v1 0
  ) else (
    rf_leaves_L67 n n u6 v1 0
  )
def rf_sums_J155 (n : Nat) (u : zMu) (x1 : Int32) (x10 : Int32) (s1 : Int32) (s2 : Int32) (s3 : Int32) : Option (Int32 × zMu) :=
  zgd (zin s1 81) <|
  zlet (zsI u 54 (zx s1) (s2 ||| s3)) fun u1 =>
  if x10 = 0 then
  (
    zgd (zin x1 81) <|
    if 0 < zI u1 59 (zx x1) then
    (
      zbd (rf_leaves n u1 x1) fun _ u5 =>
      some ((-1), u5)
    ) else (
      some ((-1), u1)
    )
  ) else (
    some ((-1), u1)
  )
def rf_sums_J102 (n : Nat) (u : zMu) (x1 : Int32) (s0 : Int64) : Option (Int32 × zMu) :=
  zgd (zin ((zI u 0 51) - 1) 2200) <|
  zlet (zsL u 31 (zx ((zI u 0 51) - 1)) s0) fun u1 =>
  zgd (zin x1 81) <|
  zgd (zin x1 81) <|
  zlet (zsI u1 52 (zx x1) ((zI u1 52 (zx x1)) + 1)) fun u2 =>
  zbd (rf_isWhole n u2 s0) fun r3 u4 =>
  zgd (zin x1 81) <|
  if r3 = 0 then
  (
    rf_sums_J155 n u4 x1 r3 x1 (zI u4 54 (zx x1)) 2
  ) else (
    rf_sums_J155 n u4 x1 r3 x1 (zI u4 54 (zx x1)) 1
  )
def rf_sums (n : Nat) (u : zMu) (x1 : Int32) (x2 : Int32) (x3 : Int32) : Option (Int32 × zMu) :=
  zlet (zsI u 0 51 ((zI u 0 51) - 1)) fun u1 =>
  zgd (zin (zI u1 0 51) 2200) <|
  if zI u1 27 (zx (zI u1 0 51)) = 1 then
  (
    zgd (zin ((zI u1 0 51) - 1) 2200) <|
    if zI u1 27 (zx ((zI u1 0 51) - 1)) = 1 then
    (
      zgd (zin ((zI u1 0 51) - 1) 2200) <|
      zlet (zL u1 31 (zx ((zI u1 0 51) - 1))) fun v4 =>
      zgd (zin (zI u1 0 51) 2200) <|
      zlet (zL u1 31 (zx (zI u1 0 51))) fun v5 =>
      if x2 = 43 then
      (
        rf_sums_J102 n u1 x1 (v4 + v5)
      ) else (
        if x2 = 45 then
        (
          rf_sums_J102 n u1 x1 (v4 - v5)
        ) else (
          rf_sums_J102 n u1 x1 (v4 * v5)
        )
      )
    ) else (
      zbd (rf_fails n u1 1 x3) fun r8 u9 =>
      some (r8, u9)
    )
  ) else (
    zbd (rf_fails n u1 1 x3) fun r10 u11 =>
    some (r10, u11)
  )
def rf_shapeOf_L3 (n : Nat) : Nat → zMu → Int32 → Int32 → Int32 → Int32 → Option (Int32 × zMu)
  | 0, _, _, _, _, _ => none
  | m + 1, u, x1, x2, x3, x4 =>
    if x4 < zI u 0 58 then
    (
      zgd (zin x4 2100) <|
      if zI u 44 (zx x4) = x1 then
      (
        zgd (zin x4 2100) <|
        if zI u 45 (zx x4) = x2 then
        (
          zgd (zin x4 2100) <|
          if zI u 46 (zx x4) = x3 then
          (
            some (x4, u)
          ) else (
            zlet (x4 + 1) fun v5 =>
            rf_shapeOf_L3 n m u x1 x2 x3 v5
          )
        ) else (
          zlet (x4 + 1) fun v6 =>
          rf_shapeOf_L3 n m u x1 x2 x3 v6
        )
      ) else (
        zlet (x4 + 1) fun v7 =>
        rf_shapeOf_L3 n m u x1 x2 x3 v7
      )
    ) else (
      zgd (zin (zI u 0 58) 2100) <|
      zlet (zsI u 44 (zx (zI u 0 58)) x1) fun u8 =>
      zgd (zin (zI u8 0 58) 2100) <|
      zlet (zsI u8 45 (zx (zI u8 0 58)) x2) fun u9 =>
      zgd (zin (zI u9 0 58) 2100) <|
      zlet (zsI u9 46 (zx (zI u9 0 58)) x3) fun u10 =>
      if x2 = (-1) then
      (
        zgd (zin (zI u10 0 58) 2100) <|
        zlet (zsI u10 47 (zx (zI u10 0 58)) 0) fun u12 =>
        zlet (zI u12 0 58) fun v13 =>
        zlet (zsI u12 0 58 (v13 + 1)) fun u14 =>
        some (v13, u14)
      ) else (
        zgd (zin x2 2100) <|
        zgd (zin (zI u10 0 58) 2100) <|
        zlet (zsI u10 47 (zx (zI u10 0 58)) ((zI u10 47 (zx x2)) + 1)) fun u15 =>
        zlet (zI u15 0 58) fun v16 =>
        zlet (zsI u15 0 58 (v16 + 1)) fun u17 =>
        some (v16, u17)
      )
    )
def rf_shapeOf (n : Nat) (u : zMu) (x1 : Int32) (x2 : Int32) (x3 : Int32) : Option (Int32 × zMu) :=
  rf_shapeOf_L3 n n u x1 x2 x3 0
def rf_news_J63 (n : Nat) (u : zMu) (x2 : Int32) (x3 : Int32) : Option (Int32 × zMu) :=
  if zI u 0 57 = 200 then
  (
    zbd (rf_fails n u 6 x2) fun r2 u3 =>
    some (r2, u3)
  ) else (
    zlet (zI u 0 57) fun v4 =>
    zlet (zsI u 0 57 (v4 + 1)) fun u5 =>
    zgd (zin v4 201) <|
    zlet (zsI u5 35 (zx v4) x3) fun u6 =>
    zgd (zin v4 201) <|
    zlet (zsI u6 37 (zx v4) (-1)) fun u7 =>
    zgd (zin v4 201) <|
    zlet (zsI u7 38 (zx v4) (-1)) fun u8 =>
    zgd (zin v4 201) <|
    zlet (zsI u8 39 (zx v4) 0) fun u9 =>
    zbd (rf_shapeOf n u9 x3 (-1) (-1)) fun r10 u11 =>
    zgd (zin v4 201) <|
    zlet (zsI u11 36 (zx v4) r10) fun u12 =>
    zbd (rf_pushes n u12 2 (v4.toInt64)) fun _ u14 =>
    some ((-1), u14)
  )
def rf_news (n : Nat) (u : zMu) (x1 : Int32) (x2 : Int32) : Option (Int32 × zMu) :=
  if x1 = 1 then
  (
    zlet (zsI u 0 51 ((zI u 0 51) - 1)) fun u2 =>
    zgd (zin (zI u2 0 51) 2200) <|
    if zI u2 27 (zx (zI u2 0 51)) = 2 then
    (
      zgd (zin (zI u2 0 51) 2200) <|
      zlet ((zL u2 31 (zx (zI u2 0 51))).toInt32) fun v4 =>
      rf_news_J63 n u2 x2 v4
    ) else (
      zgd (zin (zI u2 0 51) 2200) <|
      if zI u2 27 (zx (zI u2 0 51)) = 0 then
      (
        rf_news_J63 n u2 x2 (-1)
      ) else (
        zbd (rf_fails n u2 2 x2) fun r6 u7 =>
        some (r6, u7)
      )
    )
  ) else (
    rf_news_J63 n u x2 (-1)
  )
def rf_rowOf_L121 (n : Nat) : Nat → zMu → Int32 → Int32 → Option (Int32 × zMu)
  | 0, _, _, _ => none
  | m + 1, u, x2, x3 =>
    if x3 < 50 then
    (
      zgd (zin ((50 * x2) + x3) 3100) <|
      zlet (zsI u 50 (zx ((50 * x2) + x3)) 1) fun u2 =>
      zgd (zin ((50 * x2) + x3) 3100) <|
      zlet (zsL u2 51 (zx ((50 * x2) + x3)) 0) fun u3 =>
      zlet (x3 + 1) fun v4 =>
      rf_rowOf_L121 n m u3 x2 v4
    ) else (
      zbd (rf_pushes n u 3 (x2.toInt64)) fun _ u6 =>
      some ((-1), u6)
    )
def rf_rowOf (n : Nat) (u : zMu) (x1 : Int32) : Option (Int32 × zMu) :=
  zlet (zsI u 0 51 ((zI u 0 51) - 1)) fun u1 =>
  zgd (zin (zI u1 0 51) 2200) <|
  if zI u1 27 (zx (zI u1 0 51)) = 1 then
  (
    zgd (zin (zI u1 0 51) 2200) <|
    if lg_cmp (zL u1 31 (zx (zI u1 0 51))) 0 < 0 then
    (
      zbd (rf_fails n u1 4 x1) fun r4 u5 =>
      some (r4, u5)
    ) else (
      zgd (zin (zI u1 0 51) 2200) <|
      if 0 < lg_cmp (zL u1 31 (zx (zI u1 0 51))) 50 then
      (
        zbd (rf_fails n u1 4 x1) fun r7 u8 =>
        some (r7, u8)
      ) else (
        if zI u1 0 59 = 60 then
        (
          zbd (rf_fails n u1 6 x1) fun r10 u11 =>
          some (r10, u11)
        ) else (
          zlet (zI u1 0 59) fun v12 =>
          zlet (zsI u1 0 59 (v12 + 1)) fun u13 =>
          zgd (zin v12 61) <|
          zlet (zsI u13 48 (zx v12) 0) fun u14 =>
          zgd (zin (zI u14 0 51) 2200) <|
          zgd (zin v12 61) <|
          zlet (zsI u14 49 (zx v12) ((zL u14 31 (zx (zI u14 0 51))).toInt32)) fun u15 =>
          rf_rowOf_L121 n n u15 v12 0
        )
      )
    )
  ) else (
    zbd (rf_fails n u1 1 x1) fun r16 u17 =>
    some (r16, u17)
  )
def rf_sizes_J92 (n : Nat) (u : zMu) (s1 : Int32) (s2 : Int64) : Option (Int32 × zMu) :=
  zgd (zin s1 2200) <|
  zlet (zsL u 31 (zx s1) s2) fun u1 =>
  zgd (zin ((zI u1 0 51) - 1) 2200) <|
  zlet (zsI u1 27 (zx ((zI u1 0 51) - 1)) 1) fun u2 =>
  some ((-1), u2)
def rf_sizes_J50 (n : Nat) (u : zMu) (x2 : Int32) : Option (Int32 × zMu) :=
  zgd (zin ((zI u 0 51) - 1) 2200) <|
  if zI u 27 (zx ((zI u 0 51) - 1)) = 2 then
  (
    zgd (zin x2 201) <|
    rf_sizes_J92 n u ((zI u 0 51) - 1) ((zI u 39 (zx x2)).toInt64)
  ) else (
    zgd (zin x2 61) <|
    rf_sizes_J92 n u ((zI u 0 51) - 1) ((zI u 49 (zx x2)).toInt64)
  )
def rf_sizes (n : Nat) (u : zMu) (x1 : Int32) : Option (Int32 × zMu) :=
  zgd (zin ((zI u 0 51) - 1) 2200) <|
  zlet ((zL u 31 (zx ((zI u 0 51) - 1))).toInt32) fun v1 =>
  zgd (zin ((zI u 0 51) - 1) 2200) <|
  if zI u 27 (zx ((zI u 0 51) - 1)) = 2 then
  (
    rf_sizes_J50 n u v1
  ) else (
    zgd (zin ((zI u 0 51) - 1) 2200) <|
    if zI u 27 (zx ((zI u 0 51) - 1)) = 3 then
    (
      rf_sizes_J50 n u v1
    ) else (
      zbd (rf_fails n u 2 x1) fun r4 u5 =>
      some (r4, u5)
    )
  )
def rf_hinders (n : Nat) (u : zMu) : Option (Int32 × zMu) :=
  zgd (zin (zI u 0 51) 2200) <|
  if zI u 27 (zx (zI u 0 51)) = 3 then
  (
    zgd (zin ((zI u 0 51) + 1) 2200) <|
    if zI u 27 (zx ((zI u 0 51) + 1)) = 1 then
    (
      zgd (zin ((zI u 0 51) + 1) 2200) <|
      if lg_cmp (zL u 31 (zx ((zI u 0 51) + 1))) 0 < 0 then
      (
        some (3, u)
      ) else (
        zgd (zin ((zI u 0 51) + 1) 2200) <|
        zgd (zin (zI u 0 51) 2200) <|
        zgd (zin ((zL u 31 (zx (zI u 0 51))).toInt32) 61) <|
        if lg_cmp (zL u 31 (zx ((zI u 0 51) + 1))) ((zI u 49 (zx ((zL u 31 (zx (zI u 0 51))).toInt32))).toInt64) < 0 then
        (
          some (0, u)
        ) else (
          some (3, u)
        )
      )
    ) else (
      some (1, u)
    )
  ) else (
    some (2, u)
  )
def rf_items (n : Nat) (u : zMu) (x1 : Int32) : Option (Int32 × zMu) :=
  zlet (zsI u 0 51 ((zI u 0 51) - 2)) fun u1 =>
  zbd (rf_hinders n u1) fun r2 u3 =>
  if r2 = 0 then
  (
    zgd (zin (zI u3 0 51) 2200) <|
    zgd (zin ((zI u3 0 51) + 1) 2200) <|
    zlet ((50 * ((zL u3 31 (zx (zI u3 0 51))).toInt32)) + ((zL u3 31 (zx ((zI u3 0 51) + 1))).toInt32)) fun v5 =>
    zgd (zin v5 3100) <|
    zgd (zin v5 3100) <|
    zbd (rf_pushes n u3 (zI u3 50 (zx v5)) (zL u3 51 (zx v5))) fun _ u7 =>
    some ((-1), u7)
  ) else (
    zbd (rf_fails n u3 r2 x1) fun r8 u9 =>
    some (r8, u9)
  )
def rf_fitOf (n : Nat) (u : zMu) (x0 : Int32) (x1 : Int64) : Option (Int32 × zMu) :=
  if x0 = 1 then
  (
    zbd (rf_isWhole n u x1) fun r2 u3 =>
    if r2 = 0 then
    (
      some (2, u3)
    ) else (
      if lg_cmp x1 (-128) < 0 then
      (
        some (1, u3)
      ) else (
        if 0 < lg_cmp x1 127 then
        (
          some (1, u3)
        ) else (
          some (0, u3)
        )
      )
    )
  ) else (
    some (2, u)
  )
def rf_lays_J112 (n : Nat) (u : zMu) (x4 : Int32) : Option (Int32 × zMu) :=
  zgd (zin ((zI u 0 51) + 2) 2200) <|
  zgd (zin x4 3100) <|
  zlet (zsI u 50 (zx x4) (zI u 27 (zx ((zI u 0 51) + 2)))) fun u1 =>
  zgd (zin ((zI u1 0 51) + 2) 2200) <|
  zgd (zin x4 3100) <|
  zlet (zsL u1 51 (zx x4) (zL u1 31 (zx ((zI u1 0 51) + 2)))) fun u2 =>
  some ((-1), u2)
def rf_lays (n : Nat) (u : zMu) (x1 : Int32) : Option (Int32 × zMu) :=
  zlet (zsI u 0 51 ((zI u 0 51) - 3)) fun u1 =>
  zbd (rf_hinders n u1) fun r2 u3 =>
  if r2 = 0 then
  (
    zgd (zin (zI u3 0 51) 2200) <|
    zlet ((zL u3 31 (zx (zI u3 0 51))).toInt32) fun v5 =>
    zgd (zin ((zI u3 0 51) + 1) 2200) <|
    zlet ((50 * v5) + ((zL u3 31 (zx ((zI u3 0 51) + 1))).toInt32)) fun v6 =>
    zgd (zin ((zI u3 0 51) + 2) 2200) <|
    zgd (zin ((zI u3 0 51) + 2) 2200) <|
    zbd (rf_fitOf n u3 (zI u3 27 (zx ((zI u3 0 51) + 2))) (zL u3 31 (zx ((zI u3 0 51) + 2)))) fun r7 u8 =>
    zgd (zin v5 61) <|
    if zI u8 48 (zx v5) < r7 then
    (
      zgd (zin v5 61) <|
      zlet (zsI u8 48 (zx v5) r7) fun u10 =>
      zlet (zsI u10 0 67 ((zI u10 0 67) + 1)) fun u11 =>
      rf_lays_J112 n u11 v6
    ) else (
      rf_lays_J112 n u8 v6
    )
  ) else (
    zbd (rf_fails n u3 r2 x1) fun r12 u13 =>
    some (r12, u13)
  )
def rf_isKept_L2 (n : Nat) : Nat → zMu → Int32 → Int32 → Int32 → Option (Int32 × zMu)
  | 0, _, _, _, _ => none
  | m + 1, u, x1, x2, x3 =>
    zgd (zin x1 81) <|
    if x3 < zI u 54 (zx x1) then
    (
      zgd (zin ((4 * x1) + x3) 330) <|
      if zI u 55 (zx ((4 * x1) + x3)) = x2 then
      (
        some (1, u)
      ) else (
        zlet (x3 + 1) fun v3 =>
        rf_isKept_L2 n m u x1 x2 v3
      )
    ) else (
      some (0, u)
    )
def rf_isKept (n : Nat) (u : zMu) (x1 : Int32) (x2 : Int32) : Option (Int32 × zMu) :=
  rf_isKept_L2 n n u x1 x2 0
def rf_hasName_L2 (n : Nat) : Nat → zMu → Int32 → Int32 → Option (Int32 × zMu)
  | 0, _, _, _ => none
  | m + 1, u, x2, x3 =>
    if x3 = (-1) then
    (
      some (0, u)
    ) else (
      zgd (zin x3 2100) <|
      if zI u 46 (zx x3) = x2 then
      (
        zgd (zin x3 2100) <|
        if zI u 45 (zx x3) = (-1) then
        (
          zgd (zin x3 2100) <|
          zlet (zI u 45 (zx x3)) fun v4 =>
          rf_hasName_L2 n m u x2 v4
        ) else (
          some (1, u)
        )
      ) else (
        zgd (zin x3 2100) <|
        zlet (zI u 45 (zx x3)) fun v5 =>
        rf_hasName_L2 n m u x2 v5
      )
    )
def rf_hasName (n : Nat) (u : zMu) (x1 : Int32) (x2 : Int32) : Option (Int32 × zMu) :=
  rf_hasName_L2 n n u x2 x1
def rf_memberOf_L7 (n : Nat) : Nat → zMu → Int32 → Int32 → Option (Int32 × zMu)
  | 0, _, _, _ => none
  | m + 1, u, x2, x3 =>
    if x3 = (-1) then
    (
      some (x3, u)
    ) else (
      zgd (zin x3 20100) <|
      if zI u 40 (zx x3) = x2 then
      (
        some (x3, u)
      ) else (
        zgd (zin x3 20100) <|
        zlet (zI u 42 (zx x3)) fun v3 =>
        rf_memberOf_L7 n m u x2 v3
      )
    )
def rf_memberOf (n : Nat) (u : zMu) (x1 : Int32) (x2 : Int32) : Option (Int32 × zMu) :=
  zgd (zin x1 201) <|
  zlet (zI u 37 (zx x1)) fun v1 =>
  rf_memberOf_L7 n n u x2 v1
def rf_way_L10 (n : Nat) : Nat → zMu → Int32 → Int32 → Int32 → Option (Unit × zMu)
  | 0, _, _, _, _ => none
  | m + 1, u, x1, x3, x4 =>
    if x4 = (-1) then
    (
      some ((), u)
    ) else (
      zgd (zin x1 330) <|
      zlet (zsI u 57 (zx x1) x4) fun u2 =>
      zbd (rf_memberOf n u2 x4 x3) fun r3 u4 =>
      if r3 = (-1) then
      (
        zgd (zin x4 201) <|
        zlet (zI u4 35 (zx x4)) fun v6 =>
        rf_way_L10 n m u4 x1 x3 v6
      ) else (
        some ((), u4)
      )
    )
def rf_way (n : Nat) (u : zMu) (x1 : Int32) (x2 : Int32) (x3 : Int32) : Option (Unit × zMu) :=
  zgd (zin x1 330) <|
  zlet (zsI u 56 (zx x1) x2) fun u1 =>
  rf_way_L10 n n u1 x1 x3 x2
def rf_meets (n : Nat) (u : zMu) (x1 : Int32) (x2 : Int32) : Option (Int32 × zMu) :=
  zgd (zin x1 81) <|
  zgd (zin x1 81) <|
  zlet (zsI u 52 (zx x1) ((zI u 52 (zx x1)) + 1)) fun u1 =>
  zgd (zin x2 201) <|
  zlet (zI u1 36 (zx x2)) fun v2 =>
  if v2 = (-1) then
  (
    some (0, u1)
  ) else (
    zbd (rf_isKept n u1 x1 v2) fun r4 u5 =>
    if r4 = 0 then
    (
      zgd (zin x1 81) <|
      if zI u5 58 (zx x1) = 0 then
      (
        zgd (zin x1 81) <|
        if zI u5 54 (zx x1) = 4 then
        (
          zgd (zin x1 81) <|
          zlet (zsI u5 58 (zx x1) (vp_nar .boolean 1)) fun u9 =>
          zgd (zin x1 81) <|
          zlet (zsI u9 54 (zx x1) 0) fun u10 =>
          some (0, u10)
        ) else (
          zgd (zin x1 81) <|
          zlet (zI u5 54 (zx x1)) fun v11 =>
          zgd (zin x1 81) <|
          zlet (zsI u5 54 (zx x1) (v11 + 1)) fun u12 =>
          zlet ((4 * x1) + v11) fun v13 =>
          zgd (zin v13 330) <|
          zlet (zsI u12 55 (zx v13) v2) fun u14 =>
          zgd (zin v13 330) <|
          zlet (zsI u14 56 (zx v13) (-1)) fun u15 =>
          zgd (zin v13 330) <|
          zlet (zsI u15 57 (zx v13) (-1)) fun u16 =>
          zgd (zin x1 800) <|
          if zI u16 19 (zx x1) = 0 then
          (
            zgd (zin x1 800) <|
            zbd (rf_hasName n u16 v2 (zI u16 22 (zx x1))) fun r18 u19 =>
            if r18 = 0 then
            (
              zgd (zin v2 2100) <|
              zgd (zin x1 800) <|
              zbd (rf_way n u19 v13 (zI u19 44 (zx v2)) (zI u19 22 (zx x1))) fun _ u22 =>
              some (0, u22)
            ) else (
              some (0, u19)
            )
          ) else (
            some (0, u16)
          )
        )
      ) else (
        some (0, u5)
      )
    ) else (
      zgd (zin x1 81) <|
      zgd (zin x1 81) <|
      zlet (zsI u5 53 (zx x1) ((zI u5 53 (zx x1)) + 1)) fun u23 =>
      some (1, u23)
    )
  )
def rf_reads_J231 (n : Nat) (u : zMu) (x7 : Int32) (s1 : Int32) (s2 : Int32) : Option (Int32 × zMu) :=
  zgd (zin s1 2200) <|
  zlet (zsI u 27 (zx s1) s2) fun u1 =>
  if x7 = (-1) then
  (
    zgd (zin ((zI u1 0 51) - 1) 2200) <|
    zlet (zsL u1 31 (zx ((zI u1 0 51) - 1)) 0) fun u3 =>
    some ((-1), u3)
  ) else (
    zgd (zin x7 20100) <|
    zgd (zin ((zI u1 0 51) - 1) 2200) <|
    zlet (zsL u1 31 (zx ((zI u1 0 51) - 1)) (zL u1 43 (zx x7))) fun u4 =>
    some ((-1), u4)
  )
def rf_reads_J204 (n : Nat) (u : zMu) (x7 : Int32) : Option (Int32 × zMu) :=
  if x7 = (-1) then
  (
    rf_reads_J231 n u x7 ((zI u 0 51) - 1) 0
  ) else (
    zgd (zin x7 20100) <|
    rf_reads_J231 n u x7 ((zI u 0 51) - 1) (zI u 41 (zx x7))
  )
def rf_reads_L161 (n : Nat) : Nat → zMu → Int32 → Int32 → Int32 → Option (Int32 × zMu)
  | 0, _, _, _, _ => none
  | m + 1, u, x1, x6, x7 =>
    if x7 = (-1) then
    (
      zgd (zin x6 201) <|
      if zI u 35 (zx x6) = (-1) then
      (
        rf_reads_J204 n u x7
      ) else (
        zgd (zin x6 201) <|
        zlet (zI u 35 (zx x6)) fun v3 =>
        zgd (zin x1 800) <|
        zbd (rf_memberOf n u v3 (zI u 22 (zx x1))) fun r4 u5 =>
        rf_reads_L161 n m u5 x1 v3 r4
      )
    ) else (
      rf_reads_J204 n u x7
    )
def rf_reads_J144 (n : Nat) (u : zMu) (x1 : Int32) (x3 : Int32) : Option (Int32 × zMu) :=
  zgd (zin x1 800) <|
  zbd (rf_memberOf n u x3 (zI u 22 (zx x1))) fun r1 u2 =>
  rf_reads_L161 n n u2 x1 x3 r1
def rf_reads_J134 (n : Nat) (u : zMu) (x1 : Int32) (x3 : Int32) (x5 : Int32) : Option (Int32 × zMu) :=
  if x5 = 0 then
  (
    rf_reads_J144 n u x1 x3
  ) else (
    zbd (rf_leaves n u x1) fun _ u3 =>
    rf_reads_J144 n u3 x1 x3
  )
def rf_reads_J100 (n : Nat) (u : zMu) (x1 : Int32) (x3 : Int32) (s0 : Int32) : Option (Int32 × zMu) :=
  zbd (rf_meets n u x1 x3) fun r1 u2 =>
  if r1 = 0 then
  (
    zlet (zsI u2 0 63 ((zI u2 0 63) + 1)) fun u4 =>
    rf_reads_J134 n u4 x1 x3 s0
  ) else (
    zlet (zsI u2 0 62 ((zI u2 0 62) + 1)) fun u5 =>
    rf_reads_J134 n u5 x1 x3 s0
  )
def rf_reads_J99 (n : Nat) (u : zMu) (x1 : Int32) (x3 : Int32) : Option (Int32 × zMu) :=
  rf_reads_J100 n u x1 x3 0
def rf_reads_L41 (n : Nat) : Nat → zMu → Int32 → Int32 → Int32 → Int32 → Option (Int32 × zMu)
  | 0, _, _, _, _, _ => none
  | m + 1, u, x1, x3, x4, x5 =>
    zgd (zin x1 81) <|
    if x5 < zI u 59 (zx x1) then
    (
      zgd (zin ((4 * x1) + x5) 330) <|
      zgd (zin x3 201) <|
      if zI u 60 (zx ((4 * x1) + x5)) = zI u 36 (zx x3) then
      (
        zlet (x5 + 1) fun v3 =>
        rf_reads_L41 n m u x1 x3 1 v3
      ) else (
        zlet (x5 + 1) fun v4 =>
        rf_reads_L41 n m u x1 x3 x4 v4
      )
    ) else (
      zgd (zin x1 81) <|
      if 0 < zI u 59 (zx x1) then
      (
        if x4 = 0 then
        (
          rf_reads_J100 n u x1 x3 1
        ) else (
          rf_reads_J99 n u x1 x3
        )
      ) else (
        rf_reads_J99 n u x1 x3
      )
    )
def rf_reads (n : Nat) (u : zMu) (x1 : Int32) (x2 : Int32) : Option (Int32 × zMu) :=
  zgd (zin ((zI u 0 51) - 1) 2200) <|
  if zI u 27 (zx ((zI u 0 51) - 1)) = 2 then
  (
    zgd (zin ((zI u 0 51) - 1) 2200) <|
    zlet ((zL u 31 (zx ((zI u 0 51) - 1))).toInt32) fun v2 =>
    rf_reads_L41 n n u x1 v2 0 0
  ) else (
    zbd (rf_fails n u 2 x2) fun r3 u4 =>
    some (r3, u4)
  )
def rf_grows_J58 (n : Nat) (u : zMu) (x1 : Int32) (x2 : Int32) (x3 : Int32) : Option (Int32 × zMu) :=
  zgd (zin x1 201) <|
  zlet (zsI u 38 (zx x1) x3) fun u1 =>
  zgd (zin x1 201) <|
  zgd (zin x1 201) <|
  zlet (zsI u1 39 (zx x1) ((zI u1 39 (zx x1)) + 1)) fun u2 =>
  zgd (zin x1 201) <|
  if zI u2 36 (zx x1) = (-1) then
  (
    some (x3, u2)
  ) else (
    zgd (zin x1 201) <|
    if 8 < zI u2 39 (zx x1) then
    (
      zgd (zin x1 201) <|
      zlet (zsI u2 36 (zx x1) (-1)) fun u5 =>
      zlet (zsI u5 0 61 ((zI u5 0 61) + 1)) fun u6 =>
      some (x3, u6)
    ) else (
      zgd (zin x1 201) <|
      zgd (zin x1 201) <|
      zbd (rf_shapeOf n u2 (zI u2 35 (zx x1)) (zI u2 36 (zx x1)) x2) fun r7 u8 =>
      zgd (zin x1 201) <|
      zlet (zsI u8 36 (zx x1) r7) fun u9 =>
      some (x3, u9)
    )
  )
def rf_grows (n : Nat) (u : zMu) (x1 : Int32) (x2 : Int32) : Option (Int32 × zMu) :=
  zlet (zI u 0 80) fun v1 =>
  zlet (zsI u 0 80 (v1 + 1)) fun u2 =>
  zgd (zin v1 20100) <|
  zlet (zsI u2 40 (zx v1) x2) fun u3 =>
  zgd (zin v1 20100) <|
  zlet (zsI u3 42 (zx v1) (-1)) fun u4 =>
  zgd (zin x1 201) <|
  if zI u4 38 (zx x1) = (-1) then
  (
    zgd (zin x1 201) <|
    zlet (zsI u4 37 (zx x1) v1) fun u6 =>
    rf_grows_J58 n u6 x1 x2 v1
  ) else (
    zgd (zin x1 201) <|
    zgd (zin (zI u4 38 (zx x1)) 20100) <|
    zlet (zsI u4 42 (zx (zI u4 38 (zx x1))) v1) fun u7 =>
    rf_grows_J58 n u7 x1 x2 v1
  )
def rf_isOnWay_L7 (n : Nat) : Nat → zMu → Int32 → Int32 → Int32 → Option (Int32 × zMu)
  | 0, _, _, _, _ => none
  | m + 1, u, x1, x2, x3 =>
    if x3 = (-1) then
    (
      some (0, u)
    ) else (
      if x3 = x2 then
      (
        some (1, u)
      ) else (
        zgd (zin x1 330) <|
        if x3 = zI u 57 (zx x1) then
        (
          some (0, u)
        ) else (
          zgd (zin x3 201) <|
          zlet (zI u 35 (zx x3)) fun v4 =>
          rf_isOnWay_L7 n m u x1 x2 v4
        )
      )
    )
def rf_isOnWay (n : Nat) (u : zMu) (x1 : Int32) (x2 : Int32) : Option (Int32 × zMu) :=
  zgd (zin x1 330) <|
  zlet (zI u 56 (zx x1)) fun v1 =>
  rf_isOnWay_L7 n n u x1 x2 v1
def rf_breaks_L27 (n : Nat) (k2 : zMu → Int32 → Int32 → Option (Unit × zMu)) : Nat → zMu → Int32 → Int32 → Int32 → Int32 → Option (Unit × zMu)
  | 0, _, _, _, _, _ => none
  | m + 1, u, x1, x2, x3, x4 =>
    zgd (zin x2 81) <|
    if x4 < zI u 54 (zx x2) then
    (
      zlet ((4 * x2) + x4) fun v2 =>
      zbd (rf_isOnWay n u v2 x1) fun r3 u4 =>
      if r3 = 0 then
      (
        zgd (zin v2 330) <|
        zgd (zin ((4 * x2) + x3) 330) <|
        zlet (zsI u4 55 (zx ((4 * x2) + x3)) (zI u4 55 (zx v2))) fun u6 =>
        zgd (zin v2 330) <|
        zgd (zin ((4 * x2) + x3) 330) <|
        zlet (zsI u6 56 (zx ((4 * x2) + x3)) (zI u6 56 (zx v2))) fun u7 =>
        zgd (zin v2 330) <|
        zgd (zin ((4 * x2) + x3) 330) <|
        zlet (zsI u7 57 (zx ((4 * x2) + x3)) (zI u7 57 (zx v2))) fun u8 =>
        zlet (x3 + 1) fun v9 =>
        zlet (x4 + 1) fun v10 =>
        rf_breaks_L27 n k2 m u8 x1 x2 v9 v10
      ) else (
        zlet (zsI u4 0 64 ((zI u4 0 64) + 1)) fun u11 =>
        zlet (x4 + 1) fun v12 =>
        rf_breaks_L27 n k2 m u11 x1 x2 x3 v12
      )
    ) else (
      zgd (zin x2 81) <|
      zlet (zsI u 54 (zx x2) x3) fun u13 =>
      zlet (x2 + 1) fun v14 =>
      k2 u13 x1 v14
    )
def rf_breaks_L2 (n : Nat) : Nat → zMu → Int32 → Int32 → Option (Unit × zMu)
  | 0, _, _, _ => none
  | m + 1, u, x1, x2 =>
    if x2 < zI u 0 39 then
    (
      zgd (zin x2 800) <|
      if zI u 19 (zx x2) = 0 then
      (
        rf_breaks_L27 n (rf_breaks_L2 n m) n u x1 x2 0 0
      ) else (
        zlet (x2 + 1) fun v3 =>
        rf_breaks_L2 n m u x1 v3
      )
    ) else (
      some ((), u)
    )
def rf_breaks (n : Nat) (u : zMu) (x1 : Int32) : Option (Unit × zMu) :=
  rf_breaks_L2 n n u x1 0
def rf_puts_J80 (n : Nat) (u : zMu) (x3 : Int32) (x4 : Int32) : Option (Int32 × zMu) :=
  zgd (zin ((zI u 0 51) + 1) 2200) <|
  zgd (zin x4 20100) <|
  zlet (zsI u 41 (zx x4) (zI u 27 (zx ((zI u 0 51) + 1)))) fun u1 =>
  zgd (zin ((zI u1 0 51) + 1) 2200) <|
  zgd (zin x4 20100) <|
  zlet (zsL u1 43 (zx x4) (zL u1 31 (zx ((zI u1 0 51) + 1)))) fun u2 =>
  zbd (rf_breaks n u2 x3) fun _ u4 =>
  some ((-1), u4)
def rf_puts (n : Nat) (u : zMu) (x1 : Int32) (x2 : Int32) : Option (Int32 × zMu) :=
  zlet (zsI u 0 51 ((zI u 0 51) - 2)) fun u1 =>
  zgd (zin (zI u1 0 51) 2200) <|
  if zI u1 27 (zx (zI u1 0 51)) = 2 then
  (
    zgd (zin (zI u1 0 51) 2200) <|
    zlet ((zL u1 31 (zx (zI u1 0 51))).toInt32) fun v3 =>
    zbd (rf_meets n u1 x1 v3) fun r4 u5 =>
    zgd (zin x1 800) <|
    zbd (rf_memberOf n u5 v3 (zI u5 22 (zx x1))) fun r6 u7 =>
    if r6 = (-1) then
    (
      zgd (zin x1 800) <|
      zbd (rf_grows n u7 v3 (zI u7 22 (zx x1))) fun r9 u10 =>
      rf_puts_J80 n u10 v3 r9
    ) else (
      rf_puts_J80 n u7 v3 r6
    )
  ) else (
    zbd (rf_fails n u1 2 x2) fun r11 u12 =>
    some (r11, u12)
  )
def rf_strikes_J163 (n : Nat) (u : zMu) (x3 : Int32) : Option (Int32 × zMu) :=
  zgd (zin x3 201) <|
  zgd (zin x3 201) <|
  zlet (zsI u 39 (zx x3) ((zI u 39 (zx x3)) - 1)) fun u1 =>
  zgd (zin x3 201) <|
  if zI u1 36 (zx x3) = (-1) then
  (
    zbd (rf_breaks n u1 x3) fun _ u4 =>
    some ((-1), u4)
  ) else (
    zgd (zin x3 201) <|
    zlet (zsI u1 36 (zx x3) (-1)) fun u5 =>
    zlet (zsI u5 0 61 ((zI u5 0 61) + 1)) fun u6 =>
    zbd (rf_breaks n u6 x3) fun _ u8 =>
    some ((-1), u8)
  )
def rf_strikes_J144 (n : Nat) (u : zMu) (x3 : Int32) (x4 : Int32) (x5 : Int32) : Option (Int32 × zMu) :=
  zgd (zin x3 201) <|
  if zI u 38 (zx x3) = x5 then
  (
    zgd (zin x3 201) <|
    zlet (zsI u 38 (zx x3) x4) fun u2 =>
    rf_strikes_J163 n u2 x3
  ) else (
    rf_strikes_J163 n u x3
  )
def rf_strikes_J100 (n : Nat) (u : zMu) (x3 : Int32) (x4 : Int32) (x5 : Int32) : Option (Int32 × zMu) :=
  if x5 = (-1) then
  (
    some ((-1), u)
  ) else (
    if x4 = (-1) then
    (
      zgd (zin x5 20100) <|
      zgd (zin x3 201) <|
      zlet (zsI u 37 (zx x3) (zI u 42 (zx x5))) fun u3 =>
      rf_strikes_J144 n u3 x3 x4 x5
    ) else (
      zgd (zin x5 20100) <|
      zgd (zin x4 20100) <|
      zlet (zsI u 42 (zx x4) (zI u 42 (zx x5))) fun u4 =>
      rf_strikes_J144 n u4 x3 x4 x5
    )
  )
def rf_strikes_L62 (n : Nat) : Nat → zMu → Int32 → Int32 → Int32 → Int32 → Option (Int32 × zMu)
  | 0, _, _, _, _, _ => none
  | m + 1, u, x1, x3, x4, x5 =>
    if x5 = (-1) then
    (
      rf_strikes_J100 n u x3 x4 x5
    ) else (
      zgd (zin x5 20100) <|
      zgd (zin x1 800) <|
      if zI u 40 (zx x5) = zI u 22 (zx x1) then
      (
        rf_strikes_J100 n u x3 x4 x5
      ) else (
        zgd (zin x5 20100) <|
        zlet (zI u 42 (zx x5)) fun v3 =>
        rf_strikes_L62 n m u x1 x3 x5 v3
      )
    )
def rf_strikes (n : Nat) (u : zMu) (x1 : Int32) (x2 : Int32) : Option (Int32 × zMu) :=
  zlet (zsI u 0 51 ((zI u 0 51) - 1)) fun u1 =>
  zgd (zin (zI u1 0 51) 2200) <|
  if zI u1 27 (zx (zI u1 0 51)) = 2 then
  (
    zgd (zin (zI u1 0 51) 2200) <|
    zlet ((zL u1 31 (zx (zI u1 0 51))).toInt32) fun v3 =>
    zgd (zin x1 81) <|
    zgd (zin x1 81) <|
    zlet (zsI u1 52 (zx x1) ((zI u1 52 (zx x1)) + 1)) fun u4 =>
    zgd (zin v3 201) <|
    zlet (zI u4 37 (zx v3)) fun v5 =>
    rf_strikes_L62 n n u4 x1 v3 (-1) v5
  ) else (
    zbd (rf_fails n u1 2 x2) fun r6 u7 =>
    some (r6, u7)
  )
def rf_does_J513 (n : Nat) (u : zMu) (s0 : Int32) : Option (Int32 × zMu) :=
  zgd (zin ((zI u 0 51) - 1) 2200) <|
  zlet (zsI u 27 (zx ((zI u 0 51) - 1)) 1) fun u1 =>
  if s0 = 0 then
  (
    zgd (zin ((zI u1 0 51) - 1) 2200) <|
    zlet (zsL u1 31 (zx ((zI u1 0 51) - 1)) 0) fun u3 =>
    some ((-1), u3)
  ) else (
    zgd (zin ((zI u1 0 51) - 1) 2200) <|
    zlet (zsL u1 31 (zx ((zI u1 0 51) - 1)) 1) fun u4 =>
    some ((-1), u4)
  )
def rf_does_J508 (n : Nat) (u : zMu) : Option (Int32 × zMu) :=
  rf_does_J513 n u 1
def rf_does_J512 (n : Nat) (u : zMu) : Option (Int32 × zMu) :=
  rf_does_J513 n u 0
def rf_does (n : Nat) (u : zMu) (x1 : Int32) (x2 : Int32) : Option (Int32 × zMu) :=
  zgd (zin x2 4000) <|
  zlet (zI u 11 (zx x2)) fun v1 =>
  zgd (zin x2 4000) <|
  zlet (zI u 13 (zx x2)) fun v2 =>
  zlet (12 * (zI u 0 52)) fun v3 =>
  if x1 = 1 then
  (
    zbd (rf_pushes n u 1 (v1.toInt64)) fun _ u5 =>
    some ((-1), u5)
  ) else (
  if x1 = 2 then
  (
    zbd (rf_pushes n u 0 0) fun _ u8 =>
    some ((-1), u8)
  ) else (
  if x1 = 3 then
  (
    zgd (zin (v3 + v1) 160) <|
    zgd (zin (v3 + v1) 160) <|
    zbd (rf_pushes n u (zI u 28 (zx (v3 + v1))) (zL u 32 (zx (v3 + v1)))) fun _ u11 =>
    some ((-1), u11)
  ) else (
  if x1 = 4 then
  (
    zlet (zsI u 0 51 ((zI u 0 51) - 1)) fun u13 =>
    zgd (zin (zI u13 0 51) 2200) <|
    zgd (zin (v3 + v1) 160) <|
    zlet (zsI u13 28 (zx (v3 + v1)) (zI u13 27 (zx (zI u13 0 51)))) fun u14 =>
    zgd (zin (zI u14 0 51) 2200) <|
    zgd (zin (v3 + v1) 160) <|
    zlet (zsL u14 32 (zx (v3 + v1)) (zL u14 31 (zx (zI u14 0 51)))) fun u15 =>
    some ((-1), u15)
  ) else (
  if x1 = 5 then
  (
    zbd (rf_reads n u v1 v2) fun r17 u18 =>
    some (r17, u18)
  ) else (
  if x1 = 6 then
  (
    zbd (rf_puts n u v1 v2) fun r20 u21 =>
    some (r20, u21)
  ) else (
  if x1 = 7 then
  (
    zbd (rf_strikes n u v1 v2) fun r23 u24 =>
    some (r23, u24)
  ) else (
  if x1 = 8 then
  (
    zgd (zin x2 4000) <|
    zbd (rf_sums n u v1 (zI u 12 (zx x2)) v2) fun r26 u27 =>
    some (r26, u27)
  ) else (
  if x1 = 9 then
  (
    zgd (zin ((zI u 0 51) - 1) 2200) <|
    if zI u 27 (zx ((zI u 0 51) - 1)) = 1 then
    (
      zgd (zin ((zI u 0 51) - 1) 2200) <|
      zgd (zin ((zI u 0 51) - 1) 2200) <|
      zlet (zsL u 31 (zx ((zI u 0 51) - 1)) (-(zL u 31 (zx ((zI u 0 51) - 1))))) fun u30 =>
      some ((-1), u30)
    ) else (
      zbd (rf_fails n u 1 v2) fun r31 u32 =>
      some (r31, u32)
    )
  ) else (
  if x1 = 10 then
  (
    zlet (zsI u 0 51 ((zI u 0 51) - 1)) fun u34 =>
    zgd (zin (zI u34 0 51) 2200) <|
    if zI u34 27 (zx (zI u34 0 51)) = 1 then
    (
      zgd (zin ((zI u34 0 51) - 1) 2200) <|
      if zI u34 27 (zx ((zI u34 0 51) - 1)) = 1 then
      (
        zgd (zin ((zI u34 0 51) - 1) 2200) <|
        zgd (zin (zI u34 0 51) 2200) <|
        if lg_cmp (zL u34 31 (zx ((zI u34 0 51) - 1))) (zL u34 31 (zx (zI u34 0 51))) < 0 then
        (
          zgd (zin ((zI u34 0 51) - 1) 2200) <|
          zlet (zsL u34 31 (zx ((zI u34 0 51) - 1)) 1) fun u38 =>
          some ((-1), u38)
        ) else (
          zgd (zin ((zI u34 0 51) - 1) 2200) <|
          zlet (zsL u34 31 (zx ((zI u34 0 51) - 1)) 0) fun u39 =>
          some ((-1), u39)
        )
      ) else (
        zbd (rf_fails n u34 1 v2) fun r40 u41 =>
        some (r40, u41)
      )
    ) else (
      zbd (rf_fails n u34 1 v2) fun r42 u43 =>
      some (r42, u43)
    )
  ) else (
  if x1 = 11 then
  (
    zlet (zsI u 0 51 ((zI u 0 51) - 1)) fun u45 =>
    zgd (zin (zI u45 0 51) 2200) <|
    zgd (zin ((zI u45 0 51) - 1) 2200) <|
    if zI u45 27 (zx (zI u45 0 51)) = zI u45 27 (zx ((zI u45 0 51) - 1)) then
    (
      zgd (zin (zI u45 0 51) 2200) <|
      if zI u45 27 (zx (zI u45 0 51)) = 0 then
      (
        rf_does_J508 n u45
      ) else (
        zgd (zin (zI u45 0 51) 2200) <|
        zgd (zin ((zI u45 0 51) - 1) 2200) <|
        if lg_cmp (zL u45 31 (zx (zI u45 0 51))) (zL u45 31 (zx ((zI u45 0 51) - 1))) = 0 then
        (
          rf_does_J508 n u45
        ) else (
          rf_does_J512 n u45
        )
      )
    ) else (
      rf_does_J512 n u45
    )
  ) else (
  if x1 = 12 then
  (
    zbd (rf_news n u v1 v2) fun r50 u51 =>
    some (r50, u51)
  ) else (
  if x1 = 13 then
  (
    zbd (rf_rowOf n u v2) fun r53 u54 =>
    some (r53, u54)
  ) else (
  if x1 = 14 then
  (
    zbd (rf_sizes n u v2) fun r56 u57 =>
    some (r56, u57)
  ) else (
  if x1 = 15 then
  (
    zbd (rf_items n u v2) fun r59 u60 =>
    some (r59, u60)
  ) else (
  if x1 = 16 then
  (
    zbd (rf_lays n u v2) fun r62 u63 =>
    some (r62, u63)
  ) else (
  if x1 = 18 then
  (
    zlet (zsI u 0 51 ((zI u 0 51) - 1)) fun u65 =>
    if zI u65 0 60 < 200 then
    (
      zgd (zin (zI u65 0 51) 2200) <|
      zgd (zin (zI u65 0 60) 200) <|
      zlet (zsI u65 33 (zx (zI u65 0 60)) (zI u65 27 (zx (zI u65 0 51)))) fun u67 =>
      zgd (zin (zI u67 0 51) 2200) <|
      zgd (zin (zI u67 0 60) 200) <|
      zlet (zsL u67 34 (zx (zI u67 0 60)) (zL u67 31 (zx (zI u67 0 51)))) fun u68 =>
      zlet (zsI u68 0 60 ((zI u68 0 60) + 1)) fun u69 =>
      some ((-1), u69)
    ) else (
      zlet (zsI u65 0 60 ((zI u65 0 60) + 1)) fun u70 =>
      some ((-1), u70)
    )
  ) else (
  if x1 = 20 then
  (
    zlet (zsI u 0 51 ((zI u 0 51) - 1)) fun u72 =>
    some ((-1), u72)
  ) else (
    some ((-1), u)
  ))))))))))))))))))
def rf_run_J197 (n : Nat) (k57 : zMu → Int32 → Int32 → Int32 → Option (Int32 × zMu)) (u : zMu) (x1 : Int32) (x2 : Int32) (x3 : Int32) : Option (Int32 × zMu) :=
  if zI u 0 52 = 0 then
  (
    k57 u x1 x2 0
  ) else (
    zlet (zI u 0 52) fun v2 =>
    zlet (zsI u 0 52 (v2 - 1)) fun u3 =>
    zgd (zin v2 14) <|
    zlet (zI u3 29 (zx v2)) fun v4 =>
    k57 u3 x1 v4 x3
  )
def rf_run_J184 (n : Nat) (k57 : zMu → Int32 → Int32 → Int32 → Option (Int32 × zMu)) (u : zMu) (x1 : Int32) (x2 : Int32) (x3 : Int32) (x4 : Int32) : Option (Int32 × zMu) :=
  if x4 = 23 then
  (
    zbd (rf_pushes n u 0 0) fun _ u3 =>
    rf_run_J197 n (k57) u3 x1 x2 x3
  ) else (
    rf_run_J197 n (k57) u x1 x2 x3
  )
def rf_run_J102 (n : Nat) (k57 : zMu → Int32 → Int32 → Int32 → Option (Int32 × zMu)) (u : zMu) (x1 : Int32) (x2 : Int32) (x3 : Int32) (x4 : Int32) : Option (Int32 × zMu) :=
  if x4 = 17 then
  (
    if zI u 0 52 = 12 then
    (
      zgd (zin x2 4000) <|
      zbd (rf_fails n u 5 (zI u 13 (zx x2))) fun r3 u4 =>
      k57 u4 x1 x2 r3
    ) else (
      zgd (zin x2 4000) <|
      zgd (zin x2 4000) <|
      zbd (rf_enters n u (zI u 11 (zx x2)) (zI u 12 (zx x2)) (x2 + 1)) fun _ u6 =>
      zgd (zin (zI u6 0 52) 14) <|
      zgd (zin (zI u6 30 (zx (zI u6 0 52))) 9) <|
      zlet (zI u6 15 (zx (zI u6 30 (zx (zI u6 0 52))))) fun v7 =>
      k57 u6 x1 v7 x3
    )
  ) else (
    if x4 = 19 then
    (
      rf_run_J184 n (k57) u x1 x2 x3 x4
    ) else (
      if x4 = 23 then
      (
        rf_run_J184 n (k57) u x1 x2 x3 x4
      ) else (
        if x4 = 22 then
        (
          zgd (zin x2 4000) <|
          zlet (zI u 11 (zx x2)) fun v11 =>
          k57 u x1 v11 x3
        ) else (
          if x4 = 21 then
          (
            zlet (zsI u 0 51 ((zI u 0 51) - 1)) fun u13 =>
            zgd (zin (zI u13 0 51) 2200) <|
            if zI u13 27 (zx (zI u13 0 51)) = 1 then
            (
              zgd (zin (zI u13 0 51) 2200) <|
              if lg_cmp (zL u13 31 (zx (zI u13 0 51))) 0 = 0 then
              (
                zgd (zin x2 4000) <|
                zlet (zI u13 11 (zx x2)) fun v16 =>
                k57 u13 x1 v16 x3
              ) else (
                zlet (x2 + 1) fun v17 =>
                k57 u13 x1 v17 x3
              )
            ) else (
              zgd (zin x2 4000) <|
              zbd (rf_fails n u13 1 (zI u13 13 (zx x2))) fun r18 u19 =>
              k57 u19 x1 x2 r18
            )
          ) else (
            zbd (rf_does n u x4 x2) fun r20 u21 =>
            zlet (x2 + 1) fun v22 =>
            k57 u21 x1 v22 r20
          )
        )
      )
    )
  )
def rf_run_J82 (n : Nat) (k57 : zMu → Int32 → Int32 → Int32 → Option (Int32 × zMu)) (u : zMu) (x1 : Int32) (x2 : Int32) (x3 : Int32) (x4 : Int32) : Option (Int32 × zMu) :=
  if zI u 0 55 = x1 then
  (
    some (2, u)
  ) else (
    zlet (zsI u 0 55 ((zI u 0 55) + 1)) fun u2 =>
    rf_run_J102 n (k57) u2 x1 x2 x3 x4
  )
def rf_run_L57 (n : Nat) : Nat → zMu → Int32 → Int32 → Int32 → Option (Int32 × zMu)
  | 0, _, _, _, _ => none
  | m + 1, u, x1, x2, x3 =>
    if x3 = (-1) then
    (
      zgd (zin x2 4000) <|
      zlet (zI u 10 (zx x2)) fun v2 =>
      if v2 = 0 then
      (
        rf_run_J82 n (rf_run_L57 n m) u x1 x2 x3 v2
      ) else (
        if v2 = 17 then
        (
          rf_run_J82 n (rf_run_L57 n m) u x1 x2 x3 v2
        ) else (
          rf_run_J102 n (rf_run_L57 n m) u x1 x2 x3 v2
        )
      )
    ) else (
      some (x3, u)
    )
def rf_run_L31 (n : Nat) : Nat → zMu → Int32 → Int32 → Option (Int32 × zMu)
  | 0, _, _, _ => none
  | m + 1, u, x1, x2 =>
    if x2 < 12 then
    (
      zgd (zin x2 160) <|
      zlet (zsI u 28 (zx x2) 0) fun u2 =>
      zlet (x2 + 1) fun v3 =>
      rf_run_L31 n m u2 x1 v3
    ) else (
      zlet (zI u 0 34) fun v4 =>
      rf_run_L57 n n u x1 v4 (-1)
    )
def rf_run (n : Nat) (u : zMu) (x1 : Int32) : Option (Int32 × zMu) :=
  if x1 < 1 then
  (
    some ((-2), u)
  ) else (
    if 20000 < x1 then
    (
      some ((-2), u)
    ) else (
      if zI u 0 5 = 0 then
      (
        some ((-3), u)
      ) else (
        zbd (rf_anew n u) fun _ u5 =>
        rf_run_L31 n n u5 x1 0
      )
    )
  )
def rf_sortOf (n : Nat) (u : zMu) (x0 : Int32) (x1 : Int64) : Option (Int32 × zMu) :=
  if x0 = 0 then
  (
    some (0, u)
  ) else (
    if x0 = 1 then
    (
      zbd (rf_isWhole n u x1) fun r3 u4 =>
      if r3 = 0 then
      (
        some (2, u4)
      ) else (
        some (1, u4)
      )
    ) else (
      some (x0 + 1, u)
    )
  )
def rf_told (n : Nat) (u : zMu) (x1 : Int32) : Option (Int32 × zMu) :=
  if x1 = 0 then
  (
    some (zI u 0 53, u)
  ) else (
  if x1 = 1 then
  (
    some (zI u 0 54, u)
  ) else (
  if x1 = 2 then
  (
    some (zI u 0 55, u)
  ) else (
  if x1 = 3 then
  (
    some (zI u 0 56, u)
  ) else (
  if x1 = 4 then
  (
    some (zI u 0 57, u)
  ) else (
  if x1 = 5 then
  (
    some (zI u 0 58, u)
  ) else (
  if x1 = 6 then
  (
    some (zI u 0 59, u)
  ) else (
  if x1 = 7 then
  (
    some (zI u 0 60, u)
  ) else (
  if x1 = 8 then
  (
    some (zI u 0 61, u)
  ) else (
  if x1 = 9 then
  (
    some (zI u 0 62, u)
  ) else (
  if x1 = 10 then
  (
    some (zI u 0 63, u)
  ) else (
  if x1 = 11 then
  (
    some (zI u 0 64, u)
  ) else (
  if x1 = 12 then
  (
    some (zI u 0 65, u)
  ) else (
  if x1 = 13 then
  (
    some (zI u 0 66, u)
  ) else (
  if x1 = 14 then
  (
    some (zI u 0 67, u)
  ) else (
  if x1 = 15 then
  (
    some (zI u 0 68, u)
  ) else (
    some ((-2), u)
  ))))))))))))))))
def rf_isPrinted (n : Nat) (u : zMu) (x1 : Int32) : Option (Int32 × zMu) :=
  if x1 < 0 then
  (
    some (0, u)
  ) else (
    if x1 < zI u 0 60 then
    (
      if x1 < 200 then
      (
        some (1, u)
      ) else (
        some (0, u)
      )
    ) else (
      some (0, u)
    )
  )
def rf_paper_J12 (n : Nat) (u : zMu) (x1 : Int32) (x2 : Int32) : Option (Int32 × zMu) :=
  zbd (rf_isPrinted n u x1) fun r1 u2 =>
  if r1 = 0 then
  (
    some ((-1), u2)
  ) else (
    if x2 = 0 then
    (
      zgd (zin x1 200) <|
      zgd (zin x1 200) <|
      zbd (rf_sortOf n u2 (zI u2 33 (zx x1)) (zL u2 34 (zx x1))) fun r5 u6 =>
      some (r5, u6)
    ) else (
      zgd (zin x1 200) <|
      if zI u2 33 (zx x1) < 2 then
      (
        some (0, u2)
      ) else (
        zgd (zin x1 200) <|
        some ((zL u2 34 (zx x1)).toInt32, u2)
      )
    )
  )
def rf_paper (n : Nat) (u : zMu) (x1 : Int32) (x2 : Int32) : Option (Int32 × zMu) :=
  if x2 = 0 then
  (
    rf_paper_J12 n u x1 x2
  ) else (
    if x2 = 1 then
    (
      rf_paper_J12 n u x1 x2
    ) else (
      some ((-2), u)
    )
  )
def rf_printed (n : Nat) (u : zMu) (x1 : Int32) : Option (Int64 × zMu) :=
  zbd (rf_isPrinted n u x1) fun r1 u2 =>
  if r1 = 0 then
  (
    some (0, u2)
  ) else (
    zgd (zin x1 200) <|
    if zI u2 33 (zx x1) = 1 then
    (
      zgd (zin x1 200) <|
      some (zL u2 34 (zx x1), u2)
    ) else (
      some (0, u2)
    )
  )
def rf_object (n : Nat) (u : zMu) (x1 : Int32) (x2 : Int32) : Option (Int32 × zMu) :=
  if x1 < 0 then
  (
    some ((-2), u)
  ) else (
    if x1 < zI u 0 57 then
    (
      if x2 = 0 then
      (
        zgd (zin x1 201) <|
        some (zI u 36 (zx x1), u)
      ) else (
        if x2 = 1 then
        (
          zgd (zin x1 201) <|
          some (zI u 35 (zx x1), u)
        ) else (
          if x2 = 2 then
          (
            zgd (zin x1 201) <|
            some (zI u 39 (zx x1), u)
          ) else (
            some ((-2), u)
          )
        )
      )
    ) else (
      some ((-2), u)
    )
  )
def rf_memberAt_L28 (n : Nat) : Nat → zMu → Int32 → Int32 → Int32 → Option (Int32 × zMu)
  | 0, _, _, _, _ => none
  | m + 1, u, x2, x3, x4 =>
    if x4 < x2 then
    (
      if x3 = (-1) then
      (
        some (x3, u)
      ) else (
        zgd (zin x3 20100) <|
        zlet (zI u 42 (zx x3)) fun v3 =>
        zlet (x4 + 1) fun v4 =>
        rf_memberAt_L28 n m u x2 v3 v4
      )
    ) else (
      some (x3, u)
    )
def rf_memberAt (n : Nat) (u : zMu) (x1 : Int32) (x2 : Int32) : Option (Int32 × zMu) :=
  if x1 < 0 then
  (
    some ((-1), u)
  ) else (
    if x1 < zI u 0 57 then
    (
      if x2 < 0 then
      (
        some ((-1), u)
      ) else (
        zgd (zin x1 201) <|
        zlet (zI u 37 (zx x1)) fun v4 =>
        rf_memberAt_L28 n n u x2 v4 0
      )
    ) else (
      some ((-1), u)
    )
  )
def rf_member_J24 (n : Nat) (u : zMu) (x1 : Int32) (x2 : Int32) (x3 : Int32) : Option (Int32 × zMu) :=
  zbd (rf_memberAt n u x1 x2) fun r1 u2 =>
  if r1 = (-1) then
  (
    some ((-1), u2)
  ) else (
    if x3 = 0 then
    (
      zgd (zin r1 20100) <|
      zgd (zin r1 20100) <|
      zbd (rf_sortOf n u2 (zI u2 41 (zx r1)) (zL u2 43 (zx r1))) fun r5 u6 =>
      some (r5, u6)
    ) else (
      zgd (zin r1 20100) <|
      if zI u2 41 (zx r1) < 2 then
      (
        some (0, u2)
      ) else (
        zgd (zin r1 20100) <|
        some ((zL u2 43 (zx r1)).toInt32, u2)
      )
    )
  )
def rf_member (n : Nat) (u : zMu) (x1 : Int32) (x2 : Int32) (x3 : Int32) : Option (Int32 × zMu) :=
  if x1 < 0 then
  (
    some ((-2), u)
  ) else (
    if x1 < zI u 0 57 then
    (
      if x3 = 0 then
      (
        rf_member_J24 n u x1 x2 x3
      ) else (
        if x3 = 1 then
        (
          rf_member_J24 n u x1 x2 x3
        ) else (
          some ((-2), u)
        )
      )
    ) else (
      some ((-2), u)
    )
  )
def rf_worth (n : Nat) (u : zMu) (x1 : Int32) (x2 : Int32) : Option (Int64 × zMu) :=
  zbd (rf_memberAt n u x1 x2) fun r1 u2 =>
  if r1 = (-1) then
  (
    some (0, u2)
  ) else (
    zgd (zin r1 20100) <|
    if zI u2 41 (zx r1) = 1 then
    (
      zgd (zin r1 20100) <|
      some (zL u2 43 (zx r1), u2)
    ) else (
      some (0, u2)
    )
  )
def rf_letter (n : Nat) (u : zMu) (x1 : Int32) (x2 : Int32) (x3 : Int32) : Option (Int32 × zMu) :=
  zbd (rf_memberAt n u x1 x2) fun r1 u2 =>
  if r1 = (-1) then
  (
    some (0, u2)
  ) else (
    if x3 < 0 then
    (
      some (0, u2)
    ) else (
      zgd (zin r1 20100) <|
      zgd (zin (zI u2 40 (zx r1)) 1500) <|
      if x3 < zI u2 8 (zx (zI u2 40 (zx r1))) then
      (
        zgd (zin r1 20100) <|
        zgd (zin (zI u2 40 (zx r1)) 1500) <|
        zgd (zin ((zI u2 7 (zx (zI u2 40 (zx r1)))) + x3) 1500) <|
        some (zI u2 2 (zx ((zI u2 7 (zx (zI u2 40 (zx r1)))) + x3)), u2)
      ) else (
        some (0, u2)
      )
    )
  )
def rf_row (n : Nat) (u : zMu) (x1 : Int32) (x2 : Int32) : Option (Int32 × zMu) :=
  if x1 < 0 then
  (
    some ((-2), u)
  ) else (
    if x1 < zI u 0 59 then
    (
      if x2 < 0 then
      (
        some ((-2), u)
      ) else (
        if x2 = 0 then
        (
          zgd (zin x1 61) <|
          some (zI u 48 (zx x1), u)
        ) else (
          if x2 = 1 then
          (
            zgd (zin x1 61) <|
            some (zI u 49 (zx x1), u)
          ) else (
            zgd (zin x1 61) <|
            if x2 - 2 < zI u 49 (zx x1) then
            (
              zgd (zin (((50 * x1) + x2) - 2) 3100) <|
              zgd (zin (((50 * x1) + x2) - 2) 3100) <|
              zbd (rf_sortOf n u (zI u 50 (zx (((50 * x1) + x2) - 2))) (zL u 51 (zx (((50 * x1) + x2) - 2)))) fun r7 u8 =>
              some (r7, u8)
            ) else (
              some ((-1), u)
            )
          )
        )
      )
    ) else (
      some ((-2), u)
    )
  )
def rf_item (n : Nat) (u : zMu) (x1 : Int32) (x2 : Int32) : Option (Int64 × zMu) :=
  if x1 < 0 then
  (
    some (0, u)
  ) else (
    if x1 < zI u 0 59 then
    (
      if x2 < 0 then
      (
        some (0, u)
      ) else (
        zgd (zin x1 61) <|
        if x2 < zI u 49 (zx x1) then
        (
          zgd (zin ((50 * x1) + x2) 3100) <|
          if zI u 50 (zx ((50 * x1) + x2)) = 1 then
          (
            zgd (zin ((50 * x1) + x2) 3100) <|
            some (zL u 51 (zx ((50 * x1) + x2)), u)
          ) else (
            some (0, u)
          )
        ) else (
          some (0, u)
        )
      )
    ) else (
      some (0, u)
    )
  )
def rf_shape_L63 (n : Nat) : Nat → zMu → Int32 → Int32 → Int32 → Option (Int32 × zMu)
  | 0, _, _, _, _ => none
  | m + 1, u, x1, x3, x4 =>
    if x4 < zI u 0 58 then
    (
      zgd (zin x4 2100) <|
      if zI u 45 (zx x4) = x1 then
      (
        zlet (x3 + 1) fun v3 =>
        zlet (x4 + 1) fun v4 =>
        rf_shape_L63 n m u x1 v3 v4
      ) else (
        zlet (x4 + 1) fun v5 =>
        rf_shape_L63 n m u x1 x3 v5
      )
    ) else (
      some (x3, u)
    )
def rf_shape (n : Nat) (u : zMu) (x1 : Int32) (x2 : Int32) : Option (Int32 × zMu) :=
  if x1 < 0 then
  (
    some ((-2), u)
  ) else (
    if x1 < zI u 0 58 then
    (
      if x2 = 0 then
      (
        zgd (zin x1 2100) <|
        some (zI u 44 (zx x1), u)
      ) else (
        if x2 = 1 then
        (
          zgd (zin x1 2100) <|
          some (zI u 47 (zx x1), u)
        ) else (
          if x2 = 2 then
          (
            zgd (zin x1 2100) <|
            some (zI u 45 (zx x1), u)
          ) else (
            if x2 = 3 then
            (
              rf_shape_L63 n n u x1 0 0
            ) else (
              some ((-2), u)
            )
          )
        )
      )
    ) else (
      some ((-2), u)
    )
  )
def rf_site (n : Nat) (u : zMu) (x1 : Int32) (x2 : Int32) : Option (Int32 × zMu) :=
  if x1 < 0 then
  (
    some ((-2), u)
  ) else (
    if x1 < zI u 0 39 then
    (
      if x2 < 0 then
      (
        some ((-2), u)
      ) else (
        if x2 = 0 then
        (
          zgd (zin x1 800) <|
          some (zI u 19 (zx x1), u)
        ) else (
        if x2 = 1 then
        (
          zgd (zin x1 800) <|
          some (zI u 20 (zx x1), u)
        ) else (
        if x2 = 2 then
        (
          zgd (zin x1 81) <|
          some (zI u 52 (zx x1), u)
        ) else (
        if x2 = 3 then
        (
          zgd (zin x1 81) <|
          some (zI u 53 (zx x1), u)
        ) else (
        if x2 = 4 then
        (
          zgd (zin x1 81) <|
          some (zI u 54 (zx x1), u)
        ) else (
        if x2 = 5 then
        (
          zgd (zin x1 81) <|
          if zI u 58 (zx x1) = 0 then
          (
            some (0, u)
          ) else (
            some (1, u)
          )
        ) else (
        if x2 = 6 then
        (
          zgd (zin x1 800) <|
          some (zI u 21 (zx x1), u)
        ) else (
        if x2 = 7 then
        (
          zgd (zin x1 81) <|
          if 0 < zI u 59 (zx x1) then
          (
            some (1, u)
          ) else (
            some (0, u)
          )
        ) else (
          zgd (zin x1 800) <|
          if zI u 19 (zx x1) < 2 then
          (
            zgd (zin x1 81) <|
            if x2 - 8 < zI u 54 (zx x1) then
            (
              zgd (zin (((4 * x1) + x2) - 8) 330) <|
              some (zI u 55 (zx (((4 * x1) + x2) - 8)), u)
            ) else (
              some ((-1), u)
            )
          ) else (
            some ((-1), u)
          )
        ))))))))
      )
    ) else (
      some ((-2), u)
    )
  )
def rf_fn (n : Nat) (u : zMu) (x1 : Int32) (x2 : Int32) : Option (Int32 × zMu) :=
  if x1 < 0 then
  (
    some ((-2), u)
  ) else (
    if x1 < zI u 0 33 then
    (
      if x2 = 0 then
      (
        zgd (zin x1 9) <|
        some (zI u 16 (zx x1), u)
      ) else (
      if x2 = 1 then
      (
        zgd (zin x1 9) <|
        some (zI u 61 (zx x1), u)
      ) else (
      if x2 = 2 then
      (
        zgd (zin x1 9) <|
        some (zI u 62 (zx x1), u)
      ) else (
      if x2 = 3 then
      (
        zgd (zin x1 9) <|
        if zI u 66 (zx x1) = 0 then
        (
          some (0, u)
        ) else (
          some (1, u)
        )
      ) else (
      if x2 = 4 then
      (
        zgd (zin x1 9) <|
        some (zI u 63 (zx x1), u)
      ) else (
      if x2 = 5 then
      (
        zgd (zin x1 9) <|
        some (zI u 64 (zx x1), u)
      ) else (
      if x2 = 6 then
      (
        zgd (zin x1 9) <|
        if zI u 67 (zx x1) = 0 then
        (
          some (0, u)
        ) else (
          some (1, u)
        )
      ) else (
      if x2 = 7 then
      (
        zgd (zin x1 9) <|
        some (zI u 65 (zx x1), u)
      ) else (
        some ((-2), u)
      ))))))))
    ) else (
      some ((-2), u)
    )
  )
def rf_count (n : Nat) (u : zMu) (x1 : Int32) : Option (Int32 × zMu) :=
  if x1 = 0 then
  (
    some (zI u 0 4, u)
  ) else (
  if x1 = 1 then
  (
    some (zI u 0 33, u)
  ) else (
  if x1 = 2 then
  (
    some (zI u 0 39, u)
  ) else (
  if x1 = 3 then
  (
    zgd (zin 9 10) <|
    some (zI u 17 (zx 9), u)
  ) else (
  if x1 = 4 then
  (
    some (zI u 0 3, u)
  ) else (
    some ((-2), u)
  )))))
