/-! methods as functions -/
def fX13_thrown (S : Nat → Nat × Nat) (σ : mm) (x0 : Nat) : Option Int32 :=
  some (σ.1 x0 0)
def fX13_refuse (S : Nat → Nat × Nat) (σ : mm) (x0 : Nat) : Option (Int32 × mm) :=
  wI σ x0 0 (1 : Int32) fun τ1 =>
  some ((0 : Int32), τ1)
def fX13_come_L3 (S : Nat → Nat × Nat) (x0 : Nat) (x1 : Int32) : (Int32 × mm) → Option ((Int32 × mm) ⊕ mm) :=
  un2 fun x2 σ =>
  if x2 < 0 then
      some (.inr σ)
    else
      gR σ x0 1 fun r1 =>
      stI S σ r1 (σ.1 x0 2) (((x1.toUInt32 >>> (x2.toUInt32 &&& Int32.toUInt32 31)).toInt32) &&& (255 : Int32)) fun τ2 =>
      wI τ2 x0 2 ((τ2.1 x0 2) + (1 : Int32)) fun τ3 =>
      nm (x2 + (-8 : Int32)) fun v4 =>
      some (.inl (v4, τ3))
def fX13_come (S : Nat → Nat × Nat) (σ : mm) (x0 : Nat) (x1 : Int32) : Option mm :=
  bd0 (loopN (fX13_come_L3 S x0 x1) 1000 ((24 : Int32), σ)) (fun τ2 => some τ2)
def fX13_feed (S : Nat → Nat × Nat) (σ : mm) (x0 : Nat) (x1 : Int32) (x2 : Int32) (x3 : Int32) (x4 : Int32) (x5 : Int32) : Option (Int32 × mm) :=
  wI σ x0 0 (0 : Int32) fun τ1 =>
  if ((τ1.1 x0 2) + (20 : Int32)) ≤ (940 : Int32) then
    bd0 (fX13_come S τ1 x0 x1) fun τ2 =>
    bd0 (fX13_come S τ2 x0 x2) fun τ3 =>
    bd0 (fX13_come S τ3 x0 x3) fun τ4 =>
    bd0 (fX13_come S τ4 x0 x4) fun τ5 =>
    bd0 (fX13_come S τ5 x0 x5) fun τ6 =>
    some ((τ6.1 x0 2), τ6)
  else
    some ((-1 : Int32), τ1)
def fX13_end_b17 (S : Nat → Nat × Nat) (σ : mm)   : Option (Int32 × mm) :=
  some ((0 : Int32), σ)
def fX13_end (S : Nat → Nat × Nat) (σ : mm) (x0 : Nat) (x1 : Int32) : Option (Int32 × mm) :=
  wI σ x0 0 (0 : Int32) fun τ1 =>
  if x1 < 0 then
    fX13_end_b17 S τ1
  else
    if x1 ≤ (τ1.1 x0 2) then
      wI τ1 x0 2 x1 fun τ2 =>
      some ((1 : Int32), τ2)
    else
      fX13_end_b17 S τ1
def fX13_take (S : Nat → Nat × Nat) (σ : mm) (x0 : Nat) : Option (Int32 × mm) :=
  nm (σ.1 x0 2) fun v1 =>
  wI σ x0 2 (0 : Int32) fun τ2 =>
  some (v1, τ2)
def fX13_isIn_b15 (S : Nat → Nat × Nat) (σ : mm)  (s0 : Int32) : Option Int32 :=
  rZ s0 (some s0)
def fX13_isIn_b14 (S : Nat → Nat × Nat) (σ : mm)   : Option Int32 :=
  fX13_isIn_b15 S σ (0 : Int32)
def fX13_isIn (S : Nat → Nat × Nat) (σ : mm) (x0 : Int32) (x1 : Int32) (x2 : Int32) : Option Int32 :=
  if x0 < x1 then
    fX13_isIn_b14 S σ
  else
    if x2 < x0 then
      fX13_isIn_b14 S σ
    else
      fX13_isIn_b15 S σ (1 : Int32)
def fX13_has_b14 (S : Nat → Nat × Nat) (σ : mm)  (s0 : Int32) : Option Int32 :=
  rZ s0 (some s0)
def fX13_has (S : Nat → Nat × Nat) (σ : mm) (x0 : Int32) (x1 : Int32) : Option Int32 :=
  if ¬ ((x0 >>> (x1 &&& 31)) &&& (1 : Int32)) = (1 : Int32) then
    fX13_has_b14 S σ (0 : Int32)
  else
    fX13_has_b14 S σ (1 : Int32)
def fX13_least_b10 (S : Nat → Nat × Nat) (σ : mm)  (s0 : Int32) : Option Int32 :=
  some s0
def fX13_least (S : Nat → Nat × Nat) (σ : mm) (x0 : Int32) (x1 : Int32) : Option Int32 :=
  if x1 ≤ x0 then
    fX13_least_b10 S σ x1
  else
    fX13_least_b10 S σ x0
def fX13_tapeAt_b18 (S : Nat → Nat × Nat) (σ : mm)  (s0 : Int32) : Option Int32 :=
  some s0
def fX13_tapeAt (S : Nat → Nat × Nat) (σ : mm) (x0 : Nat) (x1 : Int32) : Option Int32 :=
  if (σ.1 x0 3) ≤ x1 then
    fX13_tapeAt_b18 S σ (0 : Int32)
  else
    gR σ x0 1 fun r1 =>
    ldI S σ r1 x1 fun v2 =>
    fX13_tapeAt_b18 S σ v2
def fX13_isDigit_b17 (S : Nat → Nat × Nat) (σ : mm)  (s0 : Int32) : Option Int32 :=
  rZ s0 (some s0)
def fX13_isDigit_b16 (S : Nat → Nat × Nat) (σ : mm)   : Option Int32 :=
  fX13_isDigit_b17 S σ (0 : Int32)
def fX13_isDigit (S : Nat → Nat × Nat) (σ : mm) (x0 : Int32) : Option Int32 :=
  if x0 < (48 : Int32) then
    fX13_isDigit_b16 S σ
  else
    if (57 : Int32) < x0 then
      fX13_isDigit_b16 S σ
    else
      fX13_isDigit_b17 S σ (1 : Int32)
def fX13_isLetter_b17 (S : Nat → Nat × Nat) (σ : mm)  (s0 : Int32) : Option Int32 :=
  rZ s0 (some s0)
def fX13_isLetter_b16 (S : Nat → Nat × Nat) (σ : mm)   : Option Int32 :=
  fX13_isLetter_b17 S σ (0 : Int32)
def fX13_isLetter (S : Nat → Nat × Nat) (σ : mm) (x0 : Int32) : Option Int32 :=
  if x0 < (97 : Int32) then
    fX13_isLetter_b16 S σ
  else
    if (122 : Int32) < x0 then
      fX13_isLetter_b16 S σ
    else
      fX13_isLetter_b17 S σ (1 : Int32)
def fX13_go_b39 (S : Nat → Nat × Nat) (σ : mm) (x0 : Nat)  : Option (mm ⊕ mm) :=
  wI σ x0 5 ((σ.1 x0 5) + (1 : Int32)) fun τ1 =>
  some (.inl τ1)
def fX13_go_L0 (S : Nat → Nat × Nat) (x0 : Nat) : mm → Option (mm ⊕ mm) :=
  fun σ => if (σ.1 x0 3) ≤ (σ.1 x0 5) then
      some (.inr σ)
    else
      gR σ x0 1 fun r1 =>
      ldI S σ r1 (σ.1 x0 5) fun v2 =>
      if v2 = (32 : Int32) then
        fX13_go_b39 S σ x0
      else
        gR σ x0 1 fun r3 =>
        ldI S σ r3 (σ.1 x0 5) fun v4 =>
        if ¬ v4 = (10 : Int32) then
          some (.inr σ)
        else
          fX13_go_b39 S σ x0
def fX13_go_b337 (S : Nat → Nat × Nat) (σ : mm) (x0 : Nat) (x2 : Int32) (x3 : Int32)  : Option ((Int32 × mm) ⊕ (Int32 × mm)) :=
  wI σ x0 5 ((σ.1 x0 5) + (1 : Int32)) fun τ1 =>
  some (.inl (x3, τ1))
def fX13_go_b307 (S : Nat → Nat × Nat) (σ : mm) (x0 : Nat) (x2 : Int32) (x3 : Int32) (x4 : Int32)  : Option ((Int32 × mm) ⊕ (Int32 × mm)) :=
  if (3 : Int32) ≤ ((σ.1 x0 5) - (σ.1 x0 6)) then
    fX13_go_b337 S σ x0 x2 x3
  else
    wI σ x0 8 ((((10 : Int32) * (σ.1 x0 8)) + x4) - (48 : Int32)) fun τ1 =>
    fX13_go_b337 S τ1 x0 x2 x3
def fX13_go_b272 (S : Nat → Nat × Nat) (σ : mm) (x0 : Nat) (x2 : Int32) (x4 : Int32) (s0 : Int32) : Option ((Int32 × mm) ⊕ (Int32 × mm)) :=
  if (7 : Int32) ≤ ((σ.1 x0 5) - (σ.1 x0 6)) then
    fX13_go_b307 S σ x0 x2 s0 x4
  else
    wL σ x0 12 ((((27 : Int64) * (σ.2.1 x0 12)) + (x4.toInt64)) - (96 : Int64)) fun τ1 =>
    fX13_go_b307 S τ1 x0 x2 s0 x4
def fX13_go_b271 (S : Nat → Nat × Nat) (σ : mm) (x0 : Nat) (x2 : Int32) (x4 : Int32)  : Option ((Int32 × mm) ⊕ (Int32 × mm)) :=
  fX13_go_b272 S σ x0 x2 x4 (0 : Int32)
def fX13_go_b243 (S : Nat → Nat × Nat) (σ : mm) (x0 : Nat) (x2 : Int32) (x3 : Int32)  : Option ((Int32 × mm) ⊕ (Int32 × mm)) :=
  gR σ x0 1 fun r1 =>
  ldI S σ r1 (σ.1 x0 5) fun v2 =>
  if x3 = 0 then
    fX13_go_b271 S σ x0 x2 v2
  else
    bd0 (fX13_isLetter S σ v2) fun v3 =>
    if ¬ v3 = x2 then
      fX13_go_b271 S σ x0 x2 v2
    else
      fX13_go_b272 S σ x0 x2 v2 (1 : Int32)
def fX13_go_L215 (S : Nat → Nat × Nat) (x0 : Nat) (x2 : Int32) : (Int32 × mm) → Option ((Int32 × mm) ⊕ (Int32 × mm)) :=
  un2 fun x3 σ =>
  bd0 (fX13_tapeAt S σ x0 (σ.1 x0 5)) fun v1 =>
    bd0 (fX13_isLetter S σ v1) fun v2 =>
    if ¬ v2 = 0 then
      fX13_go_b243 S σ x0 x2 x3
    else
      bd0 (fX13_tapeAt S σ x0 (σ.1 x0 5)) fun v3 =>
      bd0 (fX13_isDigit S σ v3) fun v4 =>
      if v4 = 0 then
        some (.inr (x3, σ))
      else
        fX13_go_b243 S σ x0 x2 x3
def fX13_go_b390 (S : Nat → Nat × Nat) (σ : mm)  (s0 : Nat) (s1 : Int32) : Option mm :=
  wI σ s0 7 s1 fun τ1 =>
  some τ1
def fX13_go_b377 (S : Nat → Nat × Nat) (σ : mm)  (s0 : Nat) : Option mm :=
  fX13_go_b390 S σ s0 (1 : Int32)
def fX13_go_b374 (S : Nat → Nat × Nat) (σ : mm) (x2 : Int32) (s0 : Nat) (s1 : Int32) (s2 : Int32) : Option mm :=
  if s1 ≤ s2 then
    if x2 = 0 then
      fX13_go_b390 S σ s0 (3 : Int32)
    else
      fX13_go_b390 S σ s0 (2 : Int32)
  else
    fX13_go_b377 S σ s0
def fX13_go_b198 (S : Nat → Nat × Nat) (σ : mm) (x0 : Nat) (x1 : Int32)  : Option mm :=
  bd0 (fX13_isLetter S σ x1) fun v1 =>
  wL σ x0 12 (0 : Int64) fun τ2 =>
  wI τ2 x0 8 (0 : Int32) fun τ3 =>
  bd0 (loopN (fX13_go_L215 S x0 v1) 1000 ((1 : Int32), τ3)) (un2 fun v5 τ6 => if v5 = 0 then
    fX13_go_b377 S τ6 x0
  else
    if v1 = 0 then
      fX13_go_b374 S τ6 v1 x0 ((τ6.1 x0 5) - (τ6.1 x0 6)) (3 : Int32)
    else
      fX13_go_b374 S τ6 v1 x0 ((τ6.1 x0 5) - (τ6.1 x0 6)) (7 : Int32))
def fX13_go_b179 (S : Nat → Nat × Nat) (σ : mm) (x0 : Nat) (x1 : Int32) (s0 : Nat) (s1 : Int32) : Option mm :=
  wI σ s0 7 s1 fun τ1 =>
  wI τ1 x0 9 x1 fun τ2 =>
  wI τ2 x0 5 ((τ2.1 x0 5) + (1 : Int32)) fun τ3 =>
  some τ3
def fX13_go_b174 (S : Nat → Nat × Nat) (σ : mm) (x0 : Nat) (x1 : Int32) (s0 : Nat) : Option mm :=
  fX13_go_b179 S σ x0 x1 s0 (4 : Int32)
def fX13_go_b96 (S : Nat → Nat × Nat) (σ : mm) (x0 : Nat)  : Option mm :=
  if (σ.1 x0 5) < (σ.1 x0 3) then
    gR σ x0 1 fun r1 =>
    ldI S σ r1 (σ.1 x0 5) fun v2 =>
    bd0 (fX13_isLetter S σ v2) fun v3 =>
    if ¬ v3 = 0 then
      fX13_go_b198 S σ x0 v2
    else
      bd0 (fX13_isDigit S σ v2) fun v4 =>
      if ¬ v4 = 0 then
        fX13_go_b198 S σ x0 v2
      else
        if v2 = (59 : Int32) then
          fX13_go_b174 S σ x0 v2 x0
        else
          if v2 = (60 : Int32) then
            fX13_go_b174 S σ x0 v2 x0
          else
            if v2 = (61 : Int32) then
              fX13_go_b174 S σ x0 v2 x0
            else
              if v2 = (62 : Int32) then
                fX13_go_b174 S σ x0 v2 x0
              else
                if v2 = (40 : Int32) then
                  fX13_go_b174 S σ x0 v2 x0
                else
                  if ¬ v2 = (41 : Int32) then
                    fX13_go_b179 S σ x0 v2 x0 (1 : Int32)
                  else
                    fX13_go_b174 S σ x0 v2 x0
  else
    wI σ x0 7 (0 : Int32) fun τ5 =>
    some τ5
def fX13_go_b52 (S : Nat → Nat × Nat) (σ : mm) (x0 : Nat)  : Option mm :=
  wI σ x0 6 (σ.1 x0 5) fun τ1 =>
  if (τ1.1 x0 3) ≤ (τ1.1 x0 4) then
    fX13_go_b96 S τ1 x0
  else
    if (τ1.1 x0 6) < (τ1.1 x0 4) then
      fX13_go_b96 S τ1 x0
    else
      wI τ1 x0 6 (τ1.1 x0 4) fun τ2 =>
      wI τ2 x0 7 (1 : Int32) fun τ3 =>
      some τ3
def fX13_go (S : Nat → Nat × Nat) (σ : mm) (x0 : Nat) : Option mm :=
  bd0 (loopN (fX13_go_L0 S x0) 1000 σ) (fun τ2 => fX13_go_b52 S τ2 x0)
def fX13_spelt_b99 (S : Nat → Nat × Nat) (σ : mm) (x6 : Int64)  : Option Int64 :=
  some x6
def fX13_spelt_b78 (S : Nat → Nat × Nat) (σ : mm) (x5 : Int32) (x6 : Int64)  : Option Int64 :=
  if x5 ≤ 0 then
    fX13_spelt_b99 S σ x6
  else
    nm ((((27 : Int64) * x6) + (x5.toInt64)) - (96 : Int64)) fun v1 =>
    fX13_spelt_b99 S σ v1
def fX13_spelt_b57 (S : Nat → Nat × Nat) (σ : mm) (x4 : Int32) (x5 : Int32) (x6 : Int64)  : Option Int64 :=
  if x4 ≤ 0 then
    fX13_spelt_b78 S σ x5 x6
  else
    nm ((((27 : Int64) * x6) + (x4.toInt64)) - (96 : Int64)) fun v1 =>
    fX13_spelt_b78 S σ x5 v1
def fX13_spelt_b38 (S : Nat → Nat × Nat) (σ : mm) (x3 : Int32) (x4 : Int32) (x5 : Int32) (x6 : Int64)  : Option Int64 :=
  if x3 ≤ 0 then
    fX13_spelt_b57 S σ x4 x5 x6
  else
    nm ((((27 : Int64) * x6) + (x3.toInt64)) - (96 : Int64)) fun v1 =>
    fX13_spelt_b57 S σ x4 x5 v1
def fX13_spelt (S : Nat → Nat × Nat) (σ : mm) (x0 : Int32) (x1 : Int32) (x2 : Int32) (x3 : Int32) (x4 : Int32) (x5 : Int32) : Option Int64 :=
  nm ((((27 : Int64) * ((x0.toInt64) - (96 : Int64))) + (x1.toInt64)) - (96 : Int64)) fun v1 =>
  if x2 ≤ 0 then
    fX13_spelt_b38 S σ x3 x4 x5 v1
  else
    nm ((((27 : Int64) * v1) + (x2.toInt64)) - (96 : Int64)) fun v2 =>
    fX13_spelt_b38 S σ x3 x4 x5 v2
def fX13_wordOf (S : Nat → Nat × Nat) (σ : mm) (x0 : Int32) : Option Int64 :=
  if x0 = (0 : Int32) then
    bd0 (fX13_spelt S σ (112 : Int32) (101 : Int32) (114 : Int32) (115 : Int32) (111 : Int32) (110 : Int32)) fun v1 =>
    some v1
  else if x0 = (1 : Int32) then
    bd0 (fX13_spelt S σ (119 : Int32) (97 : Int32) (114 : Int32) (109 : Int32) (115 : Int32) (0 : Int32)) fun v2 =>
    some v2
  else if x0 = (2 : Int32) then
    bd0 (fX13_spelt S σ (99 : Int32) (111 : Int32) (111 : Int32) (108 : Int32) (115 : Int32) (0 : Int32)) fun v3 =>
    some v3
  else if x0 = (3 : Int32) then
    bd0 (fX13_spelt S σ (103 : Int32) (108 : Int32) (97 : Int32) (115 : Int32) (115 : Int32) (0 : Int32)) fun v4 =>
    some v4
  else if x0 = (4 : Int32) then
    bd0 (fX13_spelt S σ (100 : Int32) (97 : Int32) (109 : Int32) (112 : Int32) (0 : Int32) (0 : Int32)) fun v5 =>
    some v5
  else if x0 = (5 : Int32) then
    bd0 (fX13_spelt S σ (103 : Int32) (111 : Int32) (111 : Int32) (100 : Int32) (0 : Int32) (0 : Int32)) fun v6 =>
    some v6
  else if x0 = (6 : Int32) then
    bd0 (fX13_spelt S σ (103 : Int32) (114 : Int32) (97 : Int32) (99 : Int32) (101 : Int32) (0 : Int32)) fun v7 =>
    some v7
  else if x0 = (7 : Int32) then
    bd0 (fX13_spelt S σ (119 : Int32) (105 : Int32) (115 : Int32) (104 : Int32) (0 : Int32) (0 : Int32)) fun v8 =>
    some v8
  else if x0 = (8 : Int32) then
    bd0 (fX13_spelt S σ (101 : Int32) (97 : Int32) (114 : Int32) (108 : Int32) (121 : Int32) (0 : Int32)) fun v9 =>
    some v9
  else if x0 = (9 : Int32) then
    bd0 (fX13_spelt S σ (108 : Int32) (101 : Int32) (118 : Int32) (101 : Int32) (108 : Int32) (0 : Int32)) fun v10 =>
    some v10
  else if x0 = (10 : Int32) then
    bd0 (fX13_spelt S σ (116 : Int32) (117 : Int32) (114 : Int32) (110 : Int32) (115 : Int32) (0 : Int32)) fun v11 =>
    some v11
  else if x0 = (11 : Int32) then
    bd0 (fX13_spelt S σ (119 : Int32) (97 : Int32) (107 : Int32) (101 : Int32) (115 : Int32) (0 : Int32)) fun v12 =>
    some v12
  else if x0 = (12 : Int32) then
    bd0 (fX13_spelt S σ (119 : Int32) (111 : Int32) (111 : Int32) (115 : Int32) (0 : Int32) (0 : Int32)) fun v13 =>
    some v13
  else if x0 = (13 : Int32) then
    bd0 (fX13_spelt S σ (116 : Int32) (105 : Int32) (108 : Int32) (116 : Int32) (115 : Int32) (0 : Int32)) fun v14 =>
    some v14
  else if x0 = (14 : Int32) then
    bd0 (fX13_spelt S σ (119 : Int32) (105 : Int32) (100 : Int32) (101 : Int32) (110 : Int32) (115 : Int32)) fun v15 =>
    some v15
  else if x0 = (15 : Int32) then
    bd0 (fX13_spelt S σ (115 : Int32) (112 : Int32) (105 : Int32) (108 : Int32) (108 : Int32) (115 : Int32)) fun v16 =>
    some v16
  else if x0 = (16 : Int32) then
    bd0 (fX13_spelt S σ (104 : Int32) (111 : Int32) (117 : Int32) (114 : Int32) (0 : Int32) (0 : Int32)) fun v17 =>
    some v17
  else if x0 = (17 : Int32) then
    bd0 (fX13_spelt S σ (111 : Int32) (114 : Int32) (0 : Int32) (0 : Int32) (0 : Int32) (0 : Int32)) fun v18 =>
    some v18
  else if x0 = (18 : Int32) then
    bd0 (fX13_spelt S σ (97 : Int32) (110 : Int32) (100 : Int32) (0 : Int32) (0 : Int32) (0 : Int32)) fun v19 =>
    some v19
  else if x0 = (19 : Int32) then
    bd0 (fX13_spelt S σ (110 : Int32) (111 : Int32) (116 : Int32) (0 : Int32) (0 : Int32) (0 : Int32)) fun v20 =>
    some v20
  else if x0 = (20 : Int32) then
    bd0 (fX13_spelt S σ (108 : Int32) (97 : Int32) (112 : Int32) (115 : Int32) (101 : Int32) (100 : Int32)) fun v21 =>
    some v21
  else if x0 = (21 : Int32) then
    bd0 (fX13_spelt S σ (114 : Int32) (117 : Int32) (110 : Int32) (0 : Int32) (0 : Int32) (0 : Int32)) fun v22 =>
    some v22
  else if x0 = (22 : Int32) then
    bd0 (fX13_spelt S σ (97 : Int32) (115 : Int32) (108 : Int32) (97 : Int32) (110 : Int32) (116 : Int32)) fun v23 =>
    some v23
  else if x0 = (23 : Int32) then
    bd0 (fX13_spelt S σ (98 : Int32) (111 : Int32) (116 : Int32) (104 : Int32) (0 : Int32) (0 : Int32)) fun v24 =>
    some v24
  else if x0 = (24 : Int32) then
    bd0 (fX13_spelt S σ (111 : Int32) (102 : Int32) (0 : Int32) (0 : Int32) (0 : Int32) (0 : Int32)) fun v25 =>
    some v25
  else if x0 = (25 : Int32) then
    bd0 (fX13_spelt S σ (108 : Int32) (101 : Int32) (102 : Int32) (116 : Int32) (0 : Int32) (0 : Int32)) fun v26 =>
    some v26
  else if x0 = (26 : Int32) then
    bd0 (fX13_spelt S σ (110 : Int32) (101 : Int32) (99 : Int32) (107 : Int32) (0 : Int32) (0 : Int32)) fun v27 =>
    some v27
  else if x0 = (27 : Int32) then
    bd0 (fX13_spelt S σ (116 : Int32) (117 : Int32) (114 : Int32) (110 : Int32) (101 : Int32) (100 : Int32)) fun v28 =>
    some v28
  else bd0 (fX13_spelt S σ (110 : Int32) (117 : Int32) (109 : Int32) (98 : Int32) (101 : Int32) (114 : Int32)) fun v29 =>
  some v29
def fX13_isWord_b25 (S : Nat → Nat × Nat) (σ : mm)  (s0 : Int32) : Option Int32 :=
  rZ s0 (some s0)
def fX13_isWord_b24 (S : Nat → Nat × Nat) (σ : mm)   : Option Int32 :=
  fX13_isWord_b25 S σ (0 : Int32)
def fX13_isWord (S : Nat → Nat × Nat) (σ : mm) (x0 : Nat) (x1 : Int32) : Option Int32 :=
  if ¬ (σ.1 x0 7) = (2 : Int32) then
    fX13_isWord_b24 S σ
  else
    bd0 (fX13_wordOf S σ x1) fun v1 =>
    if ¬ (lg_cmp (σ.2.1 x0 12) v1) = 0 then
      fX13_isWord_b24 S σ
    else
      fX13_isWord_b25 S σ (1 : Int32)
def fX13_isSign_b21 (S : Nat → Nat × Nat) (σ : mm)  (s0 : Int32) : Option Int32 :=
  rZ s0 (some s0)
def fX13_isSign_b20 (S : Nat → Nat × Nat) (σ : mm)   : Option Int32 :=
  fX13_isSign_b21 S σ (0 : Int32)
def fX13_isSign (S : Nat → Nat × Nat) (σ : mm) (x0 : Nat) (x1 : Int32) : Option Int32 :=
  if ¬ (σ.1 x0 7) = (4 : Int32) then
    fX13_isSign_b20 S σ
  else
    if ¬ (σ.1 x0 9) = x1 then
      fX13_isSign_b20 S σ
    else
      fX13_isSign_b21 S σ (1 : Int32)
def fX13_isName_L12 (S : Nat → Nat × Nat) (σ : mm) (x0 : Nat) : Int32 → Option (Int32 ⊕ (Unit ⊕ Unit)) :=
  fun x1 => if (28 : Int32) < x1 then
      some (.inr (.inr ()))
    else
      bd0 (fX13_wordOf S σ x1) fun v1 =>
      if ¬ (lg_cmp (σ.2.1 x0 12) v1) = 0 then
        nm (x1 + (1 : Int32)) fun v2 =>
        some (.inl v2)
      else
        some (.inr (.inl ()))
def fX13_isName (S : Nat → Nat × Nat) (σ : mm) (x0 : Nat) : Option Int32 :=
  if (σ.1 x0 7) = (2 : Int32) then
    bd0 (loopN (fX13_isName_L12 S σ x0) 1000 (0 : Int32)) (cs2 (fun (_ : Unit) => some (0 : Int32)) (fun (_ : Unit) => some (1 : Int32)))
  else
    some (0 : Int32)
def fX13_bad_b14 (S : Nat → Nat × Nat) (σ : mm) (x0 : Nat) (s0 : Nat) (s1 : Int32) : Option (Int32 × mm) :=
  wI σ s0 10 s1 fun τ1 =>
  wI τ1 x0 11 (τ1.1 x0 6) fun τ2 =>
  some ((0 : Int32), τ2)
def fX13_bad (S : Nat → Nat × Nat) (σ : mm) (x0 : Nat) (x1 : Int32) : Option (Int32 × mm) :=
  if ¬ (σ.1 x0 7) = (1 : Int32) then
    fX13_bad_b14 S σ x0 x0 x1
  else
    fX13_bad_b14 S σ x0 x0 (1 : Int32)
def fX13_readNumber (S : Nat → Nat × Nat) (σ : mm) (x0 : Nat) (x1 : Int32) (x2 : Int32) : Option (Int32 × mm) :=
  if (σ.1 x0 7) = (3 : Int32) then
    bd0 (fX13_isIn S σ (σ.1 x0 8) x1 x2) fun v1 =>
    if ¬ v1 = 0 then
      wI σ x0 13 (σ.1 x0 8) fun τ2 =>
      bd0 (fX13_go S τ2 x0) fun τ3 =>
      some ((1 : Int32), τ3)
    else
      bd2 (fX13_bad S σ x0 (2 : Int32)) fun v4 τ5 =>
      rZ v4 (some (v4, τ5))
  else
    bd2 (fX13_bad S σ x0 (1 : Int32)) fun v6 τ7 =>
    rZ v6 (some (v6, τ7))
def fX13_readEnd (S : Nat → Nat × Nat) (σ : mm) (x0 : Nat) : Option (Int32 × mm) :=
  bd0 (fX13_isSign S σ x0 (59 : Int32)) fun v1 =>
  if ¬ v1 = 0 then
    bd0 (fX13_go S σ x0) fun τ2 =>
    some ((1 : Int32), τ2)
  else
    bd2 (fX13_bad S σ x0 (1 : Int32)) fun v3 τ4 =>
    rZ v3 (some (v3, τ4))
def fX13_begin (S : Nat → Nat × Nat) (σ : mm) (x0 : Nat) (x1 : Int32) : Option mm :=
  wI σ x0 0 (0 : Int32) fun τ1 =>
  bd2 (fX13_take S τ1 x0) fun v2 τ3 =>
  wI τ3 x0 3 v2 fun τ4 =>
  wI τ4 x0 4 x1 fun τ5 =>
  wI τ5 x0 10 (0 : Int32) fun τ6 =>
  wI τ6 x0 5 (0 : Int32) fun τ7 =>
  bd0 (fX13_go S τ7 x0) fun τ8 =>
  some τ8
def fX13_startRead_L2 (S : Nat → Nat × Nat) (x0 : Nat) : (Int32 × mm) → Option ((Int32 × mm) ⊕ mm) :=
  un2 fun x1 σ =>
  if (102 : Int32) ≤ x1 then
      some (.inr σ)
    else
      gR σ x0 15 fun r1 =>
      stI S σ r1 x1 (0 : Int32) fun τ2 =>
      nm (x1 + (1 : Int32)) fun v3 =>
      some (.inl (v3, τ2))
def fX13_startRead_L23 (S : Nat → Nat × Nat) (x0 : Nat) : (Int32 × mm) → Option ((Int32 × mm) ⊕ mm) :=
  un2 fun x1 σ =>
  if (8 : Int32) ≤ x1 then
      some (.inr σ)
    else
      gR σ x0 15 fun r1 =>
      stI S σ r1 ((48 : Int32) + x1) (-1 : Int32) fun τ2 =>
      nm (x1 + (1 : Int32)) fun v3 =>
      some (.inl (v3, τ2))
def fX13_startRead (S : Nat → Nat × Nat) (σ : mm) (x0 : Nat) : Option mm :=
  bd0 (loopN (fX13_startRead_L2 S x0) 1000 ((0 : Int32), σ)) (fun τ2 => bd0 (loopN (fX13_startRead_L23 S x0) 1000 ((0 : Int32), τ2)) (fun τ4 => gR τ4 x0 15 fun r5 =>
  stI S τ4 r5 (3 : Int32) (2 : Int32) fun τ6 =>
  gR τ6 x0 15 fun r7 =>
  stI S τ6 r7 (4 : Int32) (50 : Int32) fun τ8 =>
  some τ8))
def fX13_startSo_L3 (S : Nat → Nat × Nat) (x0 : Nat) : (Int32 × mm) → Option ((Int32 × mm) ⊕ mm) :=
  un2 fun x1 σ =>
  if (383 : Int32) ≤ x1 then
      some (.inr σ)
    else
      gR σ x0 14 fun r1 =>
      stI S σ r1 x1 (0 : Int32) fun τ2 =>
      nm (x1 + (1 : Int32)) fun v3 =>
      some (.inl (v3, τ2))
def fX13_startSo_L25 (S : Nat → Nat × Nat) (x0 : Nat) : (Int32 × mm) → Option ((Int32 × mm) ⊕ mm) :=
  un2 fun x1 σ =>
  if (8 : Int32) ≤ x1 then
      some (.inr σ)
    else
      gR σ x0 14 fun r1 =>
      gR σ x0 14 fun r2 =>
      ldI S σ r2 ((24 : Int32) + x1) fun v3 =>
      stI S σ r1 ((105 : Int32) + x1) v3 fun τ4 =>
      nm (x1 + (1 : Int32)) fun v5 =>
      some (.inl (v5, τ4))
def fX13_startSo_L57 (S : Nat → Nat × Nat) (x0 : Nat) : (Int32 × mm) → Option ((Int32 × mm) ⊕ mm) :=
  un2 fun x1 σ =>
  if (4 : Int32) ≤ x1 then
      some (.inr σ)
    else
      gR σ x0 14 fun r1 =>
      gR σ x0 14 fun r2 =>
      ldI S σ r2 ((68 : Int32) + x1) fun v3 =>
      stI S σ r1 ((121 : Int32) + x1) v3 fun τ4 =>
      gR τ4 x0 14 fun r5 =>
      gR τ4 x0 14 fun r6 =>
      ldI S τ4 r6 ((64 : Int32) + x1) fun v7 =>
      stI S τ4 r5 ((125 : Int32) + x1) v7 fun τ8 =>
      nm (x1 + (1 : Int32)) fun v9 =>
      some (.inl (v9, τ8))
def fX13_startSo (S : Nat → Nat × Nat) (σ : mm) (x0 : Nat) : Option mm :=
  bd0 (loopN (fX13_startSo_L3 S x0) 1000 ((102 : Int32), σ)) (fun τ2 => bd0 (loopN (fX13_startSo_L25 S x0) 1000 ((0 : Int32), τ2)) (fun τ4 => bd0 (loopN (fX13_startSo_L57 S x0) 1000 ((0 : Int32), τ4)) (fun τ6 => some τ6)))
def fX13_findIn_L3 (S : Nat → Nat × Nat) (σ : mm) (x0 : Nat) (x1 : Int32) (x2 : Int32) (x3 : Int64) : Int32 → Option (Int32 ⊕ (Int32 ⊕ Unit)) :=
  fun x5 => if x2 ≤ x5 then
      some (.inr (.inr ()))
    else
      ldL S σ x0 (x1 + x5) fun v1 =>
      if ¬ (lg_cmp v1 x3) = 0 then
        nm (x5 + (1 : Int32)) fun v2 =>
        some (.inl v2)
      else
        some (.inr (.inl x5))
def fX13_findIn (S : Nat → Nat × Nat) (σ : mm) (x0 : Nat) (x1 : Int32) (x2 : Int32) (x3 : Int64) : Option Int32 :=
  bd0 (loopN (fX13_findIn_L3 S σ x0 x1 x2 x3) 1000 (0 : Int32)) (cs2 (fun v2 => some v2) (fun (_ : Unit) => some (-1 : Int32)))
def fX13_readNew_b81 (S : Nat → Nat × Nat) (σ : mm) (x0 : Nat)  : Option (Int32 × mm) :=
  bd2 (fX13_bad S σ x0 (3 : Int32)) fun v1 τ2 =>
  rZ v1 (some (v1, τ2))
def fX13_readNew (S : Nat → Nat × Nat) (σ : mm) (x0 : Nat) (x1 : Int32) : Option (Int32 × mm) :=
  bd0 (fX13_isName S σ x0) fun v1 =>
  if ¬ v1 = 0 then
    gR σ x0 20 fun r2 =>
    gR σ x0 15 fun r3 =>
    ldI S σ r3 (0 : Int32) fun v4 =>
    bd0 (fX13_findIn S σ r2 (0 : Int32) v4 (σ.2.1 x0 12)) fun v5 =>
    if ¬ v5 = (-1 : Int32) then
      fX13_readNew_b81 S σ x0
    else
      gR σ x0 20 fun r6 =>
      gR σ x0 15 fun r7 =>
      ldI S σ r7 (1 : Int32) fun v8 =>
      bd0 (fX13_findIn S σ r6 (8 : Int32) v8 (σ.2.1 x0 12)) fun v9 =>
      if ¬ v9 = (-1 : Int32) then
        fX13_readNew_b81 S σ x0
      else
        gR σ x0 20 fun r10 =>
        gR σ x0 15 fun r11 =>
        ldI S σ r11 (2 : Int32) fun v12 =>
        bd0 (fX13_findIn S σ r10 (12 : Int32) v12 (σ.2.1 x0 12)) fun v13 =>
        if v13 = (-1 : Int32) then
          gR σ x0 20 fun r14 =>
          stL S σ r14 x1 (σ.2.1 x0 12) fun τ15 =>
          bd0 (fX13_go S τ15 x0) fun τ16 =>
          some ((1 : Int32), τ16)
        else
          fX13_readNew_b81 S σ x0
  else
    bd2 (fX13_bad S σ x0 (1 : Int32)) fun v17 τ18 =>
    rZ v17 (some (v17, τ18))
def fX13_isOne_b51 (S : Nat → Nat × Nat) (σ : mm)  (s0 : Int32) : Option (Int32 × mm) :=
  rZ s0 (some (s0, σ))
def fX13_isOne_b46 (S : Nat → Nat × Nat) (σ : mm)   : Option (Int32 × mm) :=
  fX13_isOne_b51 S σ (1 : Int32)
def fX13_isOne (S : Nat → Nat × Nat) (σ : mm) (x0 : Nat) (x1 : Int32) (x2 : Int32) : Option (Int32 × mm) :=
  bd0 (fX13_isName S σ x0) fun v1 =>
  if ¬ v1 = 0 then
    gR σ x0 20 fun r2 =>
    bd0 (fX13_findIn S σ r2 x1 x2 (σ.2.1 x0 12)) fun v3 =>
    wI σ x0 13 v3 fun τ4 =>
    if ¬ (τ4.1 x0 13) = (-1 : Int32) then
      fX13_isOne_b46 S τ4
    else
      bd2 (fX13_bad S τ4 x0 (3 : Int32)) fun v5 τ6 =>
      if v5 = 0 then
        fX13_isOne_b51 S τ6 (0 : Int32)
      else
        fX13_isOne_b46 S τ6
  else
    bd2 (fX13_bad S σ x0 (1 : Int32)) fun v7 τ8 =>
    rZ v7 (some (v7, τ8))
def fX13_readOne (S : Nat → Nat × Nat) (σ : mm) (x0 : Nat) (x1 : Int32) (x2 : Int32) : Option (Int32 × mm) :=
  bd2 (fX13_isOne S σ x0 x1 x2) fun v1 τ2 =>
  if ¬ v1 = 0 then
    bd0 (fX13_go S τ2 x0) fun τ3 =>
    some ((1 : Int32), τ3)
  else
    some ((0 : Int32), τ2)
def fX13_readFirst (S : Nat → Nat × Nat) (σ : mm) (x0 : Nat) (x1 : Int32) (x2 : Int32) : Option (Int32 × mm) :=
  gR σ x0 15 fun r1 =>
  ldI S σ r1 x1 fun v2 =>
  if ¬ v2 = x2 then
    bd0 (fX13_go S σ x0) fun τ3 =>
    some ((1 : Int32), τ3)
  else
    bd2 (fX13_bad S σ x0 (4 : Int32)) fun v4 τ5 =>
    rZ v4 (some (v4, τ5))
def fX13_put_b14 (S : Nat → Nat × Nat) (σ : mm) (x2 : Int32)  : Option (Int32 × mm) :=
  rZ x2 (some (x2, σ))
def fX13_put (S : Nat → Nat × Nat) (σ : mm) (x0 : Nat) (x1 : Int32) (x2 : Int32) : Option (Int32 × mm) :=
  if x2 = 0 then
    fX13_put_b14 S σ x2
  else
    gR σ x0 15 fun r1 =>
    stI S σ r1 x1 (σ.1 x0 13) fun τ2 =>
    fX13_put_b14 S τ2 x2
def fX13_readPerson_b81 (S : Nat → Nat × Nat) (σ : mm)   : Option (Int32 × mm) :=
  some ((0 : Int32), σ)
def fX13_readPerson (S : Nat → Nat × Nat) (σ : mm) (x0 : Nat) : Option (Int32 × mm) :=
  bd2 (fX13_readFirst S σ x0 (0 : Int32) (8 : Int32)) fun v1 τ2 =>
  if ¬ v1 = 0 then
    gR τ2 x0 15 fun r3 =>
    ldI S τ2 r3 (0 : Int32) fun v4 =>
    bd2 (fX13_readNew S τ2 x0 v4) fun v5 τ6 =>
    if v5 = 0 then
      fX13_readPerson_b81 S τ6
    else
      bd2 (fX13_readNumber S τ6 x0 (0 : Int32) (23 : Int32)) fun v7 τ8 =>
      bd2 (fX13_put S τ8 x0 ((8 : Int32) + v4) v7) fun v9 τ10 =>
      if v9 = 0 then
        fX13_readPerson_b81 S τ10
      else
        bd2 (fX13_readNumber S τ10 x0 (0 : Int32) (23 : Int32)) fun v11 τ12 =>
        bd2 (fX13_put S τ12 x0 ((16 : Int32) + v4) v11) fun v13 τ14 =>
        if v13 = 0 then
          fX13_readPerson_b81 S τ14
        else
          bd2 (fX13_readNumber S τ14 x0 (0 : Int32) (99 : Int32)) fun v15 τ16 =>
          bd2 (fX13_put S τ16 x0 ((24 : Int32) + v4) v15) fun v17 τ18 =>
          if ¬ v17 = 0 then
            gR τ18 x0 15 fun r19 =>
            ldI S τ18 r19 (0 : Int32) fun v20 =>
            stI S τ18 r19 (0 : Int32) (v20 + (1 : Int32)) fun τ21 =>
            some ((1 : Int32), τ21)
          else
            fX13_readPerson_b81 S τ18
  else
    some ((0 : Int32), τ2)
def fX13_readFonder (S : Nat → Nat × Nat) (σ : mm) (x0 : Nat) (x1 : Int32) : Option (Int32 × mm) :=
  bd0 (fX13_go S σ x0) fun τ1 =>
  gR τ1 x0 15 fun r2 =>
  ldI S τ1 r2 (0 : Int32) fun v3 =>
  bd2 (fX13_isOne S τ1 x0 (0 : Int32) v3) fun v4 τ5 =>
  if ¬ v4 = 0 then
    nm (τ5.1 x0 13) fun v6 =>
    gR τ5 x0 15 fun r7 =>
    ldI S τ5 r7 (x1 + v6) fun v8 =>
    if v8 ≤ 0 then
      bd0 (fX13_go S τ5 x0) fun τ9 =>
      bd2 (fX13_readNumber S τ9 x0 (1 : Int32) (9 : Int32)) fun v10 τ11 =>
      bd2 (fX13_put S τ11 x0 (x1 + v6) v10) fun v12 τ13 =>
      rZ v12 (some (v12, τ13))
    else
      bd2 (fX13_bad S τ5 x0 (3 : Int32)) fun v14 τ15 =>
      rZ v14 (some (v14, τ15))
  else
    some ((0 : Int32), τ5)
def fX13_readGlass_b43 (S : Nat → Nat × Nat) (σ : mm)   : Option (Int32 × mm) :=
  some ((0 : Int32), σ)
def fX13_readGlass_b112 (S : Nat → Nat × Nat) (σ : mm) (x0 : Nat)  : Option (Int32 × mm) :=
  bd2 (fX13_bad S σ x0 (3 : Int32)) fun v1 τ2 =>
  rZ v1 (some (v1, τ2))
def fX13_readGlass_b159 (S : Nat → Nat × Nat) (σ : mm)   : Option (Int32 × mm) :=
  some ((0 : Int32), σ)
def fX13_readGlass (S : Nat → Nat × Nat) (σ : mm) (x0 : Nat) : Option (Int32 × mm) :=
  bd2 (fX13_readFirst S σ x0 (1 : Int32) (4 : Int32)) fun v1 τ2 =>
  if ¬ v1 = 0 then
    gR τ2 x0 15 fun r3 =>
    ldI S τ2 r3 (1 : Int32) fun v4 =>
    bd2 (fX13_readNew S τ2 x0 ((8 : Int32) + v4)) fun v5 τ6 =>
    if v5 = 0 then
      fX13_readGlass_b43 S τ6
    else
      gR τ6 x0 15 fun r7 =>
      ldI S τ6 r7 (0 : Int32) fun v8 =>
      bd2 (fX13_isOne S τ6 x0 (0 : Int32) v8) fun v9 τ10 =>
      if ¬ v9 = 0 then
        nm (τ10.1 x0 13) fun v11 =>
        gR τ10 x0 15 fun r12 =>
        ldI S τ10 r12 ((48 : Int32) + v11) fun v13 =>
        if v13 = (-1 : Int32) then
          bd0 (fX13_go S τ10 x0) fun τ14 =>
          gR τ14 x0 15 fun r15 =>
          ldI S τ14 r15 (0 : Int32) fun v16 =>
          bd2 (fX13_isOne S τ14 x0 (0 : Int32) v16) fun v17 τ18 =>
          if ¬ v17 = 0 then
            nm (τ18.1 x0 13) fun v19 =>
            if v11 = v19 then
              fX13_readGlass_b112 S τ18 x0
            else
              gR τ18 x0 15 fun r20 =>
              ldI S τ18 r20 ((48 : Int32) + v19) fun v21 =>
              if v21 = (-1 : Int32) then
                bd0 (fX13_go S τ18 x0) fun τ22 =>
                bd2 (fX13_readNumber S τ22 x0 (1 : Int32) (250 : Int32)) fun v23 τ24 =>
                bd2 (fX13_put S τ24 x0 ((64 : Int32) + v4) v23) fun v25 τ26 =>
                if v25 = 0 then
                  fX13_readGlass_b159 S τ26
                else
                  bd2 (fX13_readNumber S τ26 x0 (1 : Int32) (9 : Int32)) fun v27 τ28 =>
                  bd2 (fX13_put S τ28 x0 ((68 : Int32) + v4) v27) fun v29 τ30 =>
                  if ¬ v29 = 0 then
                    gR τ30 x0 15 fun r31 =>
                    stI S τ30 r31 ((56 : Int32) + v4) v11 fun τ32 =>
                    gR τ32 x0 15 fun r33 =>
                    stI S τ32 r33 ((60 : Int32) + v4) v19 fun τ34 =>
                    gR τ34 x0 15 fun r35 =>
                    stI S τ34 r35 ((48 : Int32) + v11) v4 fun τ36 =>
                    gR τ36 x0 15 fun r37 =>
                    stI S τ36 r37 ((48 : Int32) + v19) v4 fun τ38 =>
                    gR τ38 x0 15 fun r39 =>
                    ldI S τ38 r39 (1 : Int32) fun v40 =>
                    stI S τ38 r39 (1 : Int32) (v40 + (1 : Int32)) fun τ41 =>
                    some ((1 : Int32), τ41)
                  else
                    fX13_readGlass_b159 S τ30
              else
                fX13_readGlass_b112 S τ18 x0
          else
            some ((0 : Int32), τ18)
        else
          bd2 (fX13_bad S τ10 x0 (3 : Int32)) fun v42 τ43 =>
          rZ v42 (some (v42, τ43))
      else
        fX13_readGlass_b43 S τ10
  else
    some ((0 : Int32), τ2)
def fX13_readDamp_b67 (S : Nat → Nat × Nat) (σ : mm)   : Option (Int32 × mm) :=
  some ((0 : Int32), σ)
def fX13_readDamp (S : Nat → Nat × Nat) (σ : mm) (x0 : Nat) : Option (Int32 × mm) :=
  bd2 (fX13_readFirst S σ x0 (7 : Int32) (6 : Int32)) fun v1 τ2 =>
  if ¬ v1 = 0 then
    gR τ2 x0 15 fun r3 =>
    ldI S τ2 r3 (7 : Int32) fun v4 =>
    bd2 (fX13_readNumber S τ2 x0 (0 : Int32) (599 : Int32)) fun v5 τ6 =>
    bd2 (fX13_put S τ6 x0 ((72 : Int32) + v4) v5) fun v7 τ8 =>
    if v7 = 0 then
      fX13_readDamp_b67 S τ8
    else
      gR τ8 x0 15 fun r9 =>
      ldI S τ8 r9 ((72 : Int32) + v4) fun v10 =>
      bd2 (fX13_readNumber S τ8 x0 v10 (599 : Int32)) fun v11 τ12 =>
      bd2 (fX13_put S τ12 x0 ((78 : Int32) + v4) v11) fun v13 τ14 =>
      if ¬ v13 = 0 then
        gR τ14 x0 15 fun r15 =>
        ldI S τ14 r15 (7 : Int32) fun v16 =>
        stI S τ14 r15 (7 : Int32) (v16 + (1 : Int32)) fun τ17 =>
        some ((1 : Int32), τ17)
      else
        fX13_readDamp_b67 S τ14
  else
    some ((0 : Int32), τ2)
def fX13_readGood_b89 (S : Nat → Nat × Nat) (σ : mm)   : Option (Int32 × mm) :=
  some ((0 : Int32), σ)
def fX13_readGood (S : Nat → Nat × Nat) (σ : mm) (x0 : Nat) : Option (Int32 × mm) :=
  bd2 (fX13_readFirst S σ x0 (2 : Int32) (6 : Int32)) fun v1 τ2 =>
  if ¬ v1 = 0 then
    gR τ2 x0 15 fun r3 =>
    ldI S τ2 r3 (2 : Int32) fun v4 =>
    bd2 (fX13_readNew S τ2 x0 ((12 : Int32) + v4)) fun v5 τ6 =>
    if v5 = 0 then
      fX13_readGood_b89 S τ6
    else
      gR τ6 x0 15 fun r7 =>
      ldI S τ6 r7 (1 : Int32) fun v8 =>
      bd2 (fX13_readOne S τ6 x0 (8 : Int32) v8) fun v9 τ10 =>
      bd2 (fX13_put S τ10 x0 ((84 : Int32) + v4) v9) fun v11 τ12 =>
      if v11 = 0 then
        fX13_readGood_b89 S τ12
      else
        bd2 (fX13_readNumber S τ12 x0 (0 : Int32) (99 : Int32)) fun v13 τ14 =>
        bd2 (fX13_put S τ14 x0 ((90 : Int32) + v4) v13) fun v15 τ16 =>
        if v15 = 0 then
          fX13_readGood_b89 S τ16
        else
          bd2 (fX13_readNumber S τ16 x0 (0 : Int32) (99 : Int32)) fun v17 τ18 =>
          bd2 (fX13_put S τ18 x0 ((96 : Int32) + v4) v17) fun v19 τ20 =>
          if ¬ v19 = 0 then
            gR τ20 x0 15 fun r21 =>
            ldI S τ20 r21 (2 : Int32) fun v22 =>
            stI S τ20 r21 (2 : Int32) (v22 + (1 : Int32)) fun τ23 =>
            some ((1 : Int32), τ23)
          else
            fX13_readGood_b89 S τ20
  else
    some ((0 : Int32), τ2)
def fX13_isFresh (S : Nat → Nat × Nat) (σ : mm) (x0 : Nat) (x1 : Int32) : Option (Int32 × mm) :=
  bd0 (fX13_has S σ (σ.1 x0 24) x1) fun v1 =>
  if v1 = 0 then
    wI σ x0 24 ((σ.1 x0 24) ||| ((1 : Int32) <<< (x1 &&& 31))) fun τ2 =>
    bd0 (fX13_go S τ2 x0) fun τ3 =>
    some ((1 : Int32), τ3)
  else
    bd2 (fX13_bad S σ x0 (3 : Int32)) fun v4 τ5 =>
    rZ v4 (some (v4, τ5))
def fX13_readFlag (S : Nat → Nat × Nat) (σ : mm) (x0 : Nat) (x1 : Int32) (x2 : Int32) : Option (Int32 × mm) :=
  bd2 (fX13_isFresh S σ x0 x1) fun v1 τ2 =>
  if ¬ v1 = 0 then
    gR τ2 x0 15 fun r3 =>
    stI S τ2 r3 x2 (1 : Int32) fun τ4 =>
    some ((1 : Int32), τ4)
  else
    some ((0 : Int32), τ2)
def fX13_readLine_b198 (S : Nat → Nat × Nat) (σ : mm)  (s0 : Int32) : Option (Int32 × mm) :=
  rZ s0 (some (s0, σ))
def fX13_readLine_b157 (S : Nat → Nat × Nat) (σ : mm)  (s0 : Int32) : Option (Int32 × mm) :=
  rZ s0 (some (s0, σ))
def fX13_readLine_b156 (S : Nat → Nat × Nat) (σ : mm)   : Option (Int32 × mm) :=
  fX13_readLine_b157 S σ (0 : Int32)
def fX13_readLine_b119 (S : Nat → Nat × Nat) (σ : mm)  (s0 : Int32) : Option (Int32 × mm) :=
  rZ s0 (some (s0, σ))
def fX13_readLine_b118 (S : Nat → Nat × Nat) (σ : mm)   : Option (Int32 × mm) :=
  fX13_readLine_b119 S σ (0 : Int32)
def fX13_readLine (S : Nat → Nat × Nat) (σ : mm) (x0 : Nat) : Option (Int32 × mm) :=
  bd0 (fX13_isWord S σ x0 (0 : Int32)) fun v1 =>
  if v1 = 0 then
    bd0 (fX13_isWord S σ x0 (1 : Int32)) fun v2 =>
    if v2 = 0 then
      bd0 (fX13_isWord S σ x0 (2 : Int32)) fun v3 =>
      if v3 = 0 then
        bd0 (fX13_isWord S σ x0 (3 : Int32)) fun v4 =>
        if v4 = 0 then
          bd0 (fX13_isWord S σ x0 (4 : Int32)) fun v5 =>
          if v5 = 0 then
            bd0 (fX13_isWord S σ x0 (5 : Int32)) fun v6 =>
            if v6 = 0 then
              bd0 (fX13_isWord S σ x0 (6 : Int32)) fun v7 =>
              if v7 = 0 then
                bd0 (fX13_isWord S σ x0 (7 : Int32)) fun v8 =>
                if v8 = 0 then
                  bd0 (fX13_isWord S σ x0 (8 : Int32)) fun v9 =>
                  if v9 = 0 then
                    bd0 (fX13_isWord S σ x0 (9 : Int32)) fun v10 =>
                    if v10 = 0 then
                      bd2 (fX13_bad S σ x0 (1 : Int32)) fun v11 τ12 =>
                      fX13_readLine_b198 S τ12 v11
                    else
                      bd2 (fX13_readFlag S σ x0 (3 : Int32) (6 : Int32)) fun v13 τ14 =>
                      fX13_readLine_b198 S τ14 v13
                  else
                    bd2 (fX13_readFlag S σ x0 (2 : Int32) (5 : Int32)) fun v15 τ16 =>
                    rZ v15 (some (v15, τ16))
                else
                  bd2 (fX13_isFresh S σ x0 (1 : Int32)) fun v17 τ18 =>
                  if v17 = 0 then
                    fX13_readLine_b156 S τ18
                  else
                    bd2 (fX13_readNumber S τ18 x0 (0 : Int32) (99 : Int32)) fun v19 τ20 =>
                    bd2 (fX13_put S τ20 x0 (4 : Int32) v19) fun v21 τ22 =>
                    if v21 = 0 then
                      fX13_readLine_b156 S τ22
                    else
                      fX13_readLine_b157 S τ22 (1 : Int32)
              else
                bd2 (fX13_isFresh S σ x0 (0 : Int32)) fun v23 τ24 =>
                if v23 = 0 then
                  fX13_readLine_b118 S τ24
                else
                  bd2 (fX13_readNumber S τ24 x0 (1 : Int32) (9 : Int32)) fun v25 τ26 =>
                  bd2 (fX13_put S τ26 x0 (3 : Int32) v25) fun v27 τ28 =>
                  if v27 = 0 then
                    fX13_readLine_b118 S τ28
                  else
                    fX13_readLine_b119 S τ28 (1 : Int32)
            else
              bd2 (fX13_readGood S σ x0) fun v29 τ30 =>
              rZ v29 (some (v29, τ30))
          else
            bd2 (fX13_readDamp S σ x0) fun v31 τ32 =>
            rZ v31 (some (v31, τ32))
        else
          bd2 (fX13_readGlass S σ x0) fun v33 τ34 =>
          rZ v33 (some (v33, τ34))
      else
        bd2 (fX13_readFonder S σ x0 (40 : Int32)) fun v35 τ36 =>
        rZ v35 (some (v35, τ36))
    else
      bd2 (fX13_readFonder S σ x0 (32 : Int32)) fun v37 τ38 =>
      rZ v37 (some (v37, τ38))
  else
    bd2 (fX13_readPerson S σ x0) fun v39 τ40 =>
    rZ v39 (some (v39, τ40))
def fX13_parish_L18 (S : Nat → Nat × Nat) (x0 : Nat) : (Int32 × mm) → Option ((Int32 × mm) ⊕ (mm ⊕ (Int32 × mm))) :=
  un2 fun x1 σ =>
  if (σ.1 x0 7) = 0 then
      some (.inr (.inr (x1, σ)))
    else
      bd2 (fX13_readLine S σ x0) fun v1 τ2 =>
      if v1 = 0 then
        some (.inr (.inl τ2))
      else
        bd2 (fX13_readEnd S τ2 x0) fun v3 τ4 =>
        if ¬ v3 = 0 then
          nm (x1 + (1 : Int32)) fun v5 =>
          some (.inl (v5, τ4))
        else
          some (.inr (.inl τ4))
def fX13_parish_b39 (S : Nat → Nat × Nat) (σ : mm) (x0 : Nat)  : Option (Int32 × mm) :=
  some (((-1 : Int32) - (σ.1 x0 11)), σ)
def fX13_parish_L54 (S : Nat → Nat × Nat) (x0 : Nat) (x1 : Int32) : (Int32 × mm) → Option ((Int32 × mm) ⊕ mm) :=
  un2 fun x2 σ =>
  if (102 : Int32) ≤ x2 then
      some (.inr σ)
    else
      gR σ x0 14 fun r1 =>
      gR σ x0 15 fun r2 =>
      ldI S σ r2 x2 fun v3 =>
      stI S σ r1 x2 v3 fun τ4 =>
      nm (x2 + (1 : Int32)) fun v5 =>
      some (.inl (v5, τ4))
def fX13_parish_L80 (S : Nat → Nat × Nat) (x0 : Nat) (x1 : Int32) : (Int32 × mm) → Option ((Int32 × mm) ⊕ mm) :=
  un2 fun x2 σ =>
  if (18 : Int32) ≤ x2 then
      some (.inr σ)
    else
      gR σ x0 19 fun r1 =>
      gR σ x0 20 fun r2 =>
      ldL S σ r2 x2 fun v3 =>
      stL S σ r1 x2 v3 fun τ4 =>
      nm (x2 + (1 : Int32)) fun v5 =>
      some (.inl (v5, τ4))
def fX13_parish (S : Nat → Nat × Nat) (σ : mm) (x0 : Nat) : Option (Int32 × mm) :=
  bd0 (fX13_begin S σ x0 (900 : Int32)) fun τ1 =>
  bd0 (fX13_startRead S τ1 x0) fun τ2 =>
  wI τ2 x0 24 (0 : Int32) fun τ3 =>
  bd0 (loopN (fX13_parish_L18 S x0) 1000 ((0 : Int32), τ3)) (cs2 (fun τ5 => fX13_parish_b39 S τ5 x0) (un2 fun v6 τ7 => bd0 (loopN (fX13_parish_L54 S x0 v6) 1000 ((0 : Int32), τ7)) (fun τ9 => bd0 (loopN (fX13_parish_L80 S x0 v6) 1000 ((0 : Int32), τ9)) (fun τ11 => bd0 (fX13_startSo S τ11 x0) fun τ12 =>
    wI τ12 x0 23 (0 : Int32) fun τ13 =>
    some (v6, τ13)))))
def fX13_fault (S : Nat → Nat × Nat) (σ : mm) (x0 : Nat) : Option (Int32 × mm) :=
  wI σ x0 0 (0 : Int32) fun τ1 =>
  some ((τ1.1 x0 10), τ1)
def fX13_isPerson (S : Nat → Nat × Nat) (σ : mm) (x0 : Nat) (x1 : Int32) : Option Int32 :=
  gR σ x0 14 fun r1 =>
  ldI S σ r1 (0 : Int32) fun v2 =>
  bd0 (fX13_isIn S σ x1 (0 : Int32) (v2 - (1 : Int32))) fun v3 =>
  rZ v3 (some v3)
def fX13_isGlass (S : Nat → Nat × Nat) (σ : mm) (x0 : Nat) (x1 : Int32) : Option Int32 :=
  gR σ x0 14 fun r1 =>
  ldI S σ r1 (1 : Int32) fun v2 =>
  bd0 (fX13_isIn S σ x1 (0 : Int32) (v2 - (1 : Int32))) fun v3 =>
  rZ v3 (some v3)
def fX13_isLapsed (S : Nat → Nat × Nat) (σ : mm) (x0 : Nat) (x1 : Int32) : Option Int32 :=
  gR σ x0 14 fun r1 =>
  ldI S σ r1 (104 : Int32) fun v2 =>
  bd0 (fX13_has S σ v2 x1) fun v3 =>
  rZ v3 (some v3)
def fX13_isDamp_L2 (S : Nat → Nat × Nat) (σ : mm) (x0 : Nat) (x1 : Int32) : Int32 → Option (Int32 ⊕ (Unit ⊕ Unit)) :=
  fun x2 => gR σ x0 14 fun r1 =>
    ldI S σ r1 (7 : Int32) fun v2 =>
    if v2 ≤ x2 then
      some (.inr (.inr ()))
    else
      gR σ x0 14 fun r3 =>
      ldI S σ r3 ((72 : Int32) + x2) fun v4 =>
      gR σ x0 14 fun r5 =>
      ldI S σ r5 ((78 : Int32) + x2) fun v6 =>
      bd0 (fX13_isIn S σ x1 v4 v6) fun v7 =>
      if v7 = 0 then
        nm (x2 + (1 : Int32)) fun v8 =>
        some (.inl v8)
      else
        some (.inr (.inl ()))
def fX13_isDamp (S : Nat → Nat × Nat) (σ : mm) (x0 : Nat) (x1 : Int32) : Option Int32 :=
  bd0 (loopN (fX13_isDamp_L2 S σ x0 x1) 1000 (0 : Int32)) (cs2 (fun (_ : Unit) => some (1 : Int32)) (fun (_ : Unit) => some (0 : Int32)))
def fX13_isUp_b73 (S : Nat → Nat × Nat) (σ : mm)  (s0 : Int32) : Option Int32 :=
  rZ s0 (some s0)
def fX13_isUp_b68 (S : Nat → Nat × Nat) (σ : mm)   : Option Int32 :=
  fX13_isUp_b73 S σ (1 : Int32)
def fX13_isUp_b72 (S : Nat → Nat × Nat) (σ : mm)   : Option Int32 :=
  fX13_isUp_b73 S σ (0 : Int32)
def fX13_isUp (S : Nat → Nat × Nat) (σ : mm) (x0 : Nat) (x1 : Int32) (x2 : Int32) : Option Int32 :=
  nm (x2 - x2 / (24 : Int32) * (24 : Int32)) fun v1 =>
  gR σ x0 14 fun r2 =>
  ldI S σ r2 ((8 : Int32) + x1) fun v3 =>
  gR σ x0 14 fun r4 =>
  ldI S σ r4 ((16 : Int32) + x1) fun v5 =>
  if v3 = v5 then
    fX13_isUp_b68 S σ
  else
    if v5 ≤ v3 then
      if v3 ≤ v1 then
        fX13_isUp_b68 S σ
      else
        if v5 ≤ v1 then
          fX13_isUp_b72 S σ
        else
          fX13_isUp_b68 S σ
    else
      if v1 < v3 then
        fX13_isUp_b72 S σ
      else
        if v5 ≤ v1 then
          fX13_isUp_b72 S σ
        else
          fX13_isUp_b68 S σ
def fX13_isAwake_b39 (S : Nat → Nat × Nat) (σ : mm)  (s0 : Int32) : Option Int32 :=
  rZ s0 (some s0)
def fX13_isAwake_b34 (S : Nat → Nat × Nat) (σ : mm)   : Option Int32 :=
  fX13_isAwake_b39 S σ (1 : Int32)
def fX13_isAwake_b38 (S : Nat → Nat × Nat) (σ : mm)   : Option Int32 :=
  fX13_isAwake_b39 S σ (0 : Int32)
def fX13_isAwake (S : Nat → Nat × Nat) (σ : mm) (x0 : Nat) (x1 : Int32) (x2 : Int32) : Option Int32 :=
  bd0 (fX13_isUp S σ x0 x1 x2) fun v1 =>
  if ¬ v1 = 0 then
    fX13_isAwake_b34 S σ
  else
    gR σ x0 14 fun r2 =>
    ldI S σ r2 (102 : Int32) fun v3 =>
    if ¬ x2 = v3 then
      fX13_isAwake_b38 S σ
    else
      gR σ x0 14 fun r4 =>
      ldI S σ r4 (103 : Int32) fun v5 =>
      bd0 (fX13_has S σ v5 x1) fun v6 =>
      if v6 = 0 then
        fX13_isAwake_b38 S σ
      else
        fX13_isAwake_b34 S σ
def fX13_fonder_b36 (S : Nat → Nat × Nat) (σ : mm)  (s0 : Int32) : Option Int32 :=
  some s0
def fX13_fonder (S : Nat → Nat × Nat) (σ : mm) (x0 : Nat) (x1 : Int32) (x2 : Int32) : Option Int32 :=
  gR σ x0 14 fun r1 =>
  ldI S σ r1 ((32 : Int32) + x1) fun v2 =>
  bd0 (fX13_least S σ (99 : Int32) (x2 + v2)) fun v3 =>
  gR σ x0 14 fun r4 =>
  ldI S σ r4 ((40 : Int32) + x1) fun v5 =>
  nm (v3 - v5) fun v6 =>
  if 0 ≤ v6 then
    fX13_fonder_b36 S σ v6
  else
    fX13_fonder_b36 S σ (0 : Int32)
def fX13_fondAt_b42 (S : Nat → Nat × Nat) (σ : mm) (x0 : Nat) (x1 : Int32) (x2 : Int32) (x3 : Int32) (x4 : Int32)  : Option ((Int32 × Int32) ⊕ Int32) :=
  nm (x4 + (1 : Int32)) fun v1 =>
  some (.inl (x3, v1))
def fX13_fondAt_L19 (S : Nat → Nat × Nat) (σ : mm) (x0 : Nat) (x1 : Int32) (x2 : Int32) : (Int32 × Int32) → Option ((Int32 × Int32) ⊕ Int32) :=
  un2 fun x3 x4 =>
  if x2 ≤ x4 then
      some (.inr x3)
    else
      if ¬ (x4 - x4 / (24 : Int32) * (24 : Int32)) = (23 : Int32) then
        fX13_fondAt_b42 S σ x0 x1 x2 x3 x4
      else
        bd0 (fX13_fonder S σ x0 x1 x3) fun v1 =>
        fX13_fondAt_b42 S σ x0 x1 x2 v1 x4
def fX13_fondAt (S : Nat → Nat × Nat) (σ : mm) (x0 : Nat) (x1 : Int32) (x2 : Int32) : Option Int32 :=
  gR σ x0 14 fun r1 =>
  ldI S σ r1 ((105 : Int32) + x1) fun v2 =>
  gR σ x0 14 fun r3 =>
  ldI S σ r3 (102 : Int32) fun v4 =>
  bd0 (loopN (fX13_fondAt_L19 S σ x0 x1 x2) 1000 (v2, v4)) (fun v6 => some v6)
def fX13_isWilling_b29 (S : Nat → Nat × Nat) (σ : mm)  (s0 : Int32) : Option Int32 :=
  rZ s0 (some s0)
def fX13_isWilling_b28 (S : Nat → Nat × Nat) (σ : mm)   : Option Int32 :=
  fX13_isWilling_b29 S σ (0 : Int32)
def fX13_isWilling (S : Nat → Nat × Nat) (σ : mm) (x0 : Nat) (x1 : Int32) (x2 : Int32) : Option Int32 :=
  bd0 (fX13_isAwake S σ x0 x1 x2) fun v1 =>
  if v1 = 0 then
    fX13_isWilling_b28 S σ
  else
    bd0 (fX13_fondAt S σ x0 x1 x2) fun v2 =>
    gR σ x0 14 fun r3 =>
    ldI S σ r3 (4 : Int32) fun v4 =>
    if v2 < v4 then
      fX13_isWilling_b28 S σ
    else
      fX13_isWilling_b29 S σ (1 : Int32)
def fX13_half_b12 (S : Nat → Nat × Nat) (σ : mm)  (s0 : Int32) : Option Int32 :=
  some s0
def fX13_half (S : Nat → Nat × Nat) (σ : mm) (x0 : Int32) : Option Int32 :=
  if (2 : Int32) ≤ x0 then
    fX13_half_b12 S σ (x0 / (2 : Int32))
  else
    fX13_half_b12 S σ (1 : Int32)
def fX13_runs_b61 (S : Nat → Nat × Nat) (σ : mm)  (s0 : Int32) : Option Int32 :=
  some s0
def fX13_runs_b45 (S : Nat → Nat × Nat) (σ : mm) (x0 : Nat) (x2 : Int32) (x3 : Int32)  : Option Int32 :=
  bd0 (fX13_isDamp S σ x0 x2) fun v1 =>
  if v1 = 0 then
    fX13_runs_b61 S σ x3
  else
    bd0 (fX13_half S σ x3) fun v2 =>
    fX13_runs_b61 S σ v2
def fX13_runs (S : Nat → Nat × Nat) (σ : mm) (x0 : Nat) (x1 : Int32) (x2 : Int32) : Option Int32 :=
  gR σ x0 14 fun r1 =>
  ldI S σ r1 ((129 : Int32) + x1) fun v2 =>
  if ¬ v2 = (2 : Int32) then
    gR σ x0 14 fun r3 =>
    ldI S σ r3 ((121 : Int32) + x1) fun v4 =>
    gR σ x0 14 fun r5 =>
    ldI S σ r5 ((129 : Int32) + x1) fun v6 =>
    if ¬ v6 = (1 : Int32) then
      fX13_runs_b45 S σ x0 x2 v4
    else
      bd0 (fX13_half S σ v4) fun v7 =>
      fX13_runs_b45 S σ x0 x2 v7
  else
    some (0 : Int32)
def fX13_otherOf_b44 (S : Nat → Nat × Nat) (σ : mm)  (s0 : Int32) : Option Int32 :=
  some s0
def fX13_otherOf (S : Nat → Nat × Nat) (σ : mm) (x0 : Nat) (x1 : Int32) : Option Int32 :=
  gR σ x0 14 fun r1 =>
  ldI S σ r1 ((48 : Int32) + x1) fun v2 =>
  gR σ x0 14 fun r3 =>
  ldI S σ r3 ((56 : Int32) + v2) fun v4 =>
  if ¬ v4 = x1 then
    gR σ x0 14 fun r5 =>
    ldI S σ r5 ((56 : Int32) + v2) fun v6 =>
    fX13_otherOf_b44 S σ v6
  else
    gR σ x0 14 fun r7 =>
    ldI S σ r7 ((60 : Int32) + v2) fun v8 =>
    fX13_otherOf_b44 S σ v8
def fX13_person_b88 (S : Nat → Nat × Nat) (σ : mm)  (s0 : Int32) : Option (Int32 × mm) :=
  some (s0, σ)
def fX13_person_b115 (S : Nat → Nat × Nat) (σ : mm)  (s0 : Int32) : Option (Int32 × mm) :=
  some (s0, σ)
def fX13_person_b146 (S : Nat → Nat × Nat) (σ : mm)  (s0 : Int32) : Option (Int32 × mm) :=
  some (s0, σ)
def fX13_person (S : Nat → Nat × Nat) (σ : mm) (x0 : Nat) (x1 : Int32) (x2 : Int32) : Option (Int32 × mm) :=
  wI σ x0 0 (0 : Int32) fun τ1 =>
  bd0 (fX13_isPerson S τ1 x0 x1) fun v2 =>
  if ¬ v2 = 0 then
    gR τ1 x0 14 fun r3 =>
    ldI S τ1 r3 ((48 : Int32) + x1) fun v4 =>
    if x2 = (0 : Int32) then
      gR τ1 x0 14 fun r5 =>
      ldI S τ1 r5 (102 : Int32) fun v6 =>
      bd0 (fX13_isAwake S τ1 x0 x1 v6) fun v7 =>
      if v7 = 0 then
        fX13_person_b88 S τ1 (0 : Int32)
      else
        fX13_person_b88 S τ1 (1 : Int32)
    else if x2 = (1 : Int32) then
      gR τ1 x0 14 fun r8 =>
      ldI S τ1 r8 ((105 : Int32) + x1) fun v9 =>
      some (v9, τ1)
    else if x2 = (2 : Int32) then
      some (v4, τ1)
    else if x2 = (3 : Int32) then
      if ¬ v4 = (-1 : Int32) then
        bd0 (fX13_otherOf S τ1 x0 x1) fun v10 =>
        fX13_person_b115 S τ1 v10
      else
        fX13_person_b115 S τ1 (-1 : Int32)
    else if x2 = (4 : Int32) then
      gR τ1 x0 14 fun r11 =>
      ldI S τ1 r11 ((113 : Int32) + x1) fun v12 =>
      some (v12, τ1)
    else if x2 = (5 : Int32) then
      gR τ1 x0 14 fun r13 =>
      ldI S τ1 r13 (102 : Int32) fun v14 =>
      bd0 (fX13_isWilling S τ1 x0 x1 v14) fun v15 =>
      if v15 = 0 then
        fX13_person_b146 S τ1 (0 : Int32)
      else
        fX13_person_b146 S τ1 (1 : Int32)
    else bd2 (fX13_refuse S τ1 x0) fun v16 τ17 =>
    some (v16, τ17)
  else
    bd2 (fX13_refuse S τ1 x0) fun v18 τ19 =>
    some (v18, τ19)
def fX13_glass_b146 (S : Nat → Nat × Nat) (σ : mm)  (s0 : Int32) : Option (Int32 × mm) :=
  some (s0, σ)
def fX13_glass_b206 (S : Nat → Nat × Nat) (σ : mm)  (s0 : Int32) : Option (Int32 × mm) :=
  some (s0, σ)
def fX13_glass_b190 (S : Nat → Nat × Nat) (σ : mm)   : Option (Int32 × mm) :=
  fX13_glass_b206 S σ (0 : Int32)
def fX13_glass (S : Nat → Nat × Nat) (σ : mm) (x0 : Nat) (x1 : Int32) (x2 : Int32) : Option (Int32 × mm) :=
  wI σ x0 0 (0 : Int32) fun τ1 =>
  bd0 (fX13_isGlass S τ1 x0 x1) fun v2 =>
  if ¬ v2 = 0 then
    if x2 = (0 : Int32) then
      gR τ1 x0 14 fun r3 =>
      ldI S τ1 r3 ((56 : Int32) + x1) fun v4 =>
      some (v4, τ1)
    else if x2 = (1 : Int32) then
      gR τ1 x0 14 fun r5 =>
      ldI S τ1 r5 ((60 : Int32) + x1) fun v6 =>
      some (v6, τ1)
    else if x2 = (2 : Int32) then
      gR τ1 x0 14 fun r7 =>
      ldI S τ1 r7 ((64 : Int32) + x1) fun v8 =>
      some (v8, τ1)
    else if x2 = (3 : Int32) then
      gR τ1 x0 14 fun r9 =>
      ldI S τ1 r9 ((121 : Int32) + x1) fun v10 =>
      some (v10, τ1)
    else if x2 = (4 : Int32) then
      gR τ1 x0 14 fun r11 =>
      ldI S τ1 r11 ((125 : Int32) + x1) fun v12 =>
      some (v12, τ1)
    else if x2 = (5 : Int32) then
      gR τ1 x0 14 fun r13 =>
      ldI S τ1 r13 ((129 : Int32) + x1) fun v14 =>
      some (v14, τ1)
    else if x2 = (6 : Int32) then
      bd0 (fX13_isLapsed S τ1 x0 x1) fun v15 =>
      if v15 = 0 then
        fX13_glass_b146 S τ1 (0 : Int32)
      else
        fX13_glass_b146 S τ1 (1 : Int32)
    else if x2 = (7 : Int32) then
      gR τ1 x0 14 fun r16 =>
      ldI S τ1 r16 ((133 : Int32) + x1) fun v17 =>
      some (v17, τ1)
    else if x2 = (8 : Int32) then
      gR τ1 x0 14 fun r18 =>
      ldI S τ1 r18 ((137 : Int32) + x1) fun v19 =>
      some (v19, τ1)
    else if x2 = (9 : Int32) then
      bd0 (fX13_isLapsed S τ1 x0 x1) fun v20 =>
      if ¬ v20 = 0 then
        fX13_glass_b190 S τ1
      else
        gR τ1 x0 14 fun r21 =>
        ldI S τ1 r21 (102 : Int32) fun v22 =>
        if ¬ v22 = (600 : Int32) then
          gR τ1 x0 14 fun r23 =>
          ldI S τ1 r23 (102 : Int32) fun v24 =>
          bd0 (fX13_runs S τ1 x0 x1 v24) fun v25 =>
          fX13_glass_b206 S τ1 v25
        else
          fX13_glass_b190 S τ1
    else bd2 (fX13_refuse S τ1 x0) fun v26 τ27 =>
    some (v26, τ27)
  else
    bd2 (fX13_refuse S τ1 x0) fun v28 τ29 =>
    some (v28, τ29)
def fX13_now_b75 (S : Nat → Nat × Nat) (σ : mm)  (s0 : Int32) : Option (Int32 × mm) :=
  some (s0, σ)
def fX13_now_b117 (S : Nat → Nat × Nat) (σ : mm) (x0 : Nat) (x2 : Int32) (x3 : Int32)  : Option ((Int32 × Int32) ⊕ Int32) :=
  nm (x3 + (1 : Int32)) fun v1 =>
  some (.inl (x2, v1))
def fX13_now_L86 (S : Nat → Nat × Nat) (σ : mm) (x0 : Nat) : (Int32 × Int32) → Option ((Int32 × Int32) ⊕ Int32) :=
  un2 fun x2 x3 =>
  gR σ x0 14 fun r1 =>
    ldI S σ r1 (0 : Int32) fun v2 =>
    if v2 ≤ x3 then
      some (.inr x2)
    else
      gR σ x0 14 fun r3 =>
      ldI S σ r3 (102 : Int32) fun v4 =>
      bd0 (fX13_isAwake S σ x0 x3 v4) fun v5 =>
      if v5 = 0 then
        fX13_now_b117 S σ x0 x2 x3
      else
        nm (x2 ||| ((1 : Int32) <<< (x3 &&& 31))) fun v6 =>
        fX13_now_b117 S σ x0 v6 x3
def fX13_now_L127 (S : Nat → Nat × Nat) (σ : mm) (x0 : Nat) : (Int32 × Int32) → Option ((Int32 × Int32) ⊕ Int32) :=
  un2 fun x2 x3 =>
  gR σ x0 14 fun r1 =>
    ldI S σ r1 (1 : Int32) fun v2 =>
    if v2 ≤ x3 then
      some (.inr x2)
    else
      gR σ x0 14 fun r3 =>
      ldI S σ r3 ((137 : Int32) + x3) fun v4 =>
      nm (x2 + v4) fun v5 =>
      nm (x3 + (1 : Int32)) fun v6 =>
      some (.inl (v5, v6))
def fX13_now_L160 (S : Nat → Nat × Nat) (σ : mm) (x0 : Nat) : (Int32 × Int32) → Option ((Int32 × Int32) ⊕ Int32) :=
  un2 fun x2 x3 =>
  gR σ x0 14 fun r1 =>
    ldI S σ r1 (1 : Int32) fun v2 =>
    if v2 ≤ x3 then
      some (.inr x2)
    else
      gR σ x0 14 fun r3 =>
      ldI S σ r3 ((125 : Int32) + x3) fun v4 =>
      nm (x2 + v4) fun v5 =>
      nm (x3 + (1 : Int32)) fun v6 =>
      some (.inl (v5, v6))
def fX13_now (S : Nat → Nat × Nat) (σ : mm) (x0 : Nat) (x1 : Int32) : Option (Int32 × mm) :=
  wI σ x0 0 (0 : Int32) fun τ1 =>
  if x1 = (0 : Int32) then
    gR τ1 x0 14 fun r2 =>
    ldI S τ1 r2 (102 : Int32) fun v3 =>
    some (v3, τ1)
  else if x1 = (1 : Int32) then
    gR τ1 x0 14 fun r4 =>
    ldI S τ1 r4 (102 : Int32) fun v5 =>
    bd0 (fX13_isDamp S τ1 x0 v5) fun v6 =>
    if v6 = 0 then
      fX13_now_b75 S τ1 (0 : Int32)
    else
      fX13_now_b75 S τ1 (1 : Int32)
  else if x1 = (2 : Int32) then
    gR τ1 x0 14 fun r7 =>
    ldI S τ1 r7 (104 : Int32) fun v8 =>
    some (v8, τ1)
  else if x1 = (3 : Int32) then
    bd0 (loopN (fX13_now_L86 S τ1 x0) 1000 ((0 : Int32), (0 : Int32))) (fun v10 => some (v10, τ1))
  else if x1 = (4 : Int32) then
    bd0 (loopN (fX13_now_L127 S τ1 x0) 1000 ((0 : Int32), (0 : Int32))) (fun v12 => some (v12, τ1))
  else if x1 = (5 : Int32) then
    bd0 (loopN (fX13_now_L160 S τ1 x0) 1000 ((0 : Int32), (0 : Int32))) (fun v14 => some (v14, τ1))
  else some ((-1 : Int32), τ1)
def fX13_snap_L51 (S : Nat → Nat × Nat) (x0 : Nat) : (Int32 × mm) → Option ((Int32 × mm) ⊕ mm) :=
  un2 fun x1 σ =>
  if (39 : Int32) ≤ x1 then
      some (.inr σ)
    else
      gR σ x0 17 fun r1 =>
      gR σ x0 14 fun r2 =>
      ldI S σ r2 ((102 : Int32) + x1) fun v3 =>
      stI S σ r1 (((39 : Int32) * (σ.1 x0 23)) + x1) v3 fun τ4 =>
      nm (x1 + (1 : Int32)) fun v5 =>
      some (.inl (v5, τ4))
def fX13_snap_b49 (S : Nat → Nat × Nat) (σ : mm) (x0 : Nat)  : Option mm :=
  bd0 (loopN (fX13_snap_L51 S x0) 1000 ((0 : Int32), σ)) (fun τ2 => wI τ2 x0 23 ((τ2.1 x0 23) + (1 : Int32)) fun τ3 =>
  some τ3)
def fX13_snap_L11 (S : Nat → Nat × Nat) (x0 : Nat) : (Int32 × mm) → Option ((Int32 × mm) ⊕ mm) :=
  un2 fun x1 σ =>
  if (273 : Int32) ≤ x1 then
      some (.inr σ)
    else
      gR σ x0 17 fun r1 =>
      gR σ x0 17 fun r2 =>
      ldI S σ r2 (x1 + (39 : Int32)) fun v3 =>
      stI S σ r1 x1 v3 fun τ4 =>
      nm (x1 + (1 : Int32)) fun v5 =>
      some (.inl (v5, τ4))
def fX13_snap (S : Nat → Nat × Nat) (σ : mm) (x0 : Nat) : Option mm :=
  if ¬ (σ.1 x0 23) = (8 : Int32) then
    fX13_snap_b49 S σ x0
  else
    bd0 (loopN (fX13_snap_L11 S x0) 1000 ((0 : Int32), σ)) (fun τ2 => wI τ2 x0 23 ((τ2.1 x0 23) - (1 : Int32)) fun τ3 =>
    fX13_snap_b49 S τ3 x0)
def fX13_whyWed_b23 (S : Nat → Nat × Nat) (σ : mm)   : Option Int32 :=
  some (1 : Int32)
def fX13_whyWed_b45 (S : Nat → Nat × Nat) (σ : mm)  (s0 : Int32) : Option Int32 :=
  some s0
def fX13_whyWed (S : Nat → Nat × Nat) (σ : mm) (x0 : Nat) (x1 : Int32) : Option Int32 :=
  gR σ x0 14 fun r1 =>
  ldI S σ r1 ((48 : Int32) + x1) fun v2 =>
  if v2 = (-1 : Int32) then
    fX13_whyWed_b23 S σ
  else
    bd0 (fX13_isLapsed S σ x0 v2) fun v3 =>
    if v3 = 0 then
      gR σ x0 14 fun r4 =>
      ldI S σ r4 (102 : Int32) fun v5 =>
      bd0 (fX13_isAwake S σ x0 x1 v5) fun v6 =>
      if v6 = 0 then
        fX13_whyWed_b45 S σ (2 : Int32)
      else
        fX13_whyWed_b45 S σ (0 : Int32)
    else
      fX13_whyWed_b23 S σ
def fX13_whyTurn_b73 (S : Nat → Nat × Nat) (σ : mm)  (s0 : Int32) : Option Int32 :=
  some s0
def fX13_whyTurn_b47 (S : Nat → Nat × Nat) (σ : mm) (x0 : Nat) (x2 : Int32)  : Option Int32 :=
  gR σ x0 14 fun r1 =>
  ldI S σ r1 ((125 : Int32) + x2) fun v2 =>
  gR σ x0 14 fun r3 =>
  ldI S σ r3 ((64 : Int32) + x2) fun v4 =>
  if ¬ v2 = v4 then
    fX13_whyTurn_b73 S σ (0 : Int32)
  else
    fX13_whyTurn_b73 S σ (4 : Int32)
def fX13_whyTurn (S : Nat → Nat × Nat) (σ : mm) (x0 : Nat) (x1 : Int32) : Option Int32 :=
  bd0 (fX13_whyWed S σ x0 x1) fun v1 =>
  if v1 = 0 then
    gR σ x0 14 fun r2 =>
    ldI S σ r2 ((48 : Int32) + x1) fun v3 =>
    gR σ x0 14 fun r4 =>
    ldI S σ r4 ((125 : Int32) + v3) fun v5 =>
    if v5 ≤ 0 then
      fX13_whyTurn_b47 S σ x0 v3
    else
      gR σ x0 14 fun r6 =>
      ldI S σ r6 (5 : Int32) fun v7 =>
      if ¬ v7 = 0 then
        fX13_whyTurn_b47 S σ x0 v3
      else
        some (3 : Int32)
  else
    bd0 (fX13_whyWed S σ x0 x1) fun v8 =>
    some v8
def fX13_doTurn (S : Nat → Nat × Nat) (σ : mm) (x0 : Nat) (x1 : Int32) : Option mm :=
  gR σ x0 14 fun r1 =>
  ldI S σ r1 ((48 : Int32) + x1) fun v2 =>
  gR σ x0 14 fun r3 =>
  gR σ x0 14 fun r4 =>
  ldI S σ r4 ((64 : Int32) + v2) fun v5 =>
  gR σ x0 14 fun r6 =>
  ldI S σ r6 ((125 : Int32) + v2) fun v7 =>
  stI S σ r3 ((125 : Int32) + v2) (v5 - v7) fun τ8 =>
  gR τ8 x0 14 fun r9 =>
  stI S τ8 r9 ((133 : Int32) + v2) (0 : Int32) fun τ10 =>
  gR τ10 x0 14 fun r11 =>
  ldI S τ10 r11 ((137 : Int32) + v2) fun v12 =>
  stI S τ10 r11 ((137 : Int32) + v2) (v12 + (1 : Int32)) fun τ13 =>
  gR τ13 x0 14 fun r14 =>
  ldI S τ13 r14 ((113 : Int32) + x1) fun v15 =>
  stI S τ13 r14 ((113 : Int32) + x1) (v15 + (1 : Int32)) fun τ16 =>
  some τ16
def fX13_doWoo (S : Nat → Nat × Nat) (σ : mm) (x0 : Nat) (x1 : Int32) (x2 : Int32) : Option mm :=
  bd0 (fX13_otherOf S σ x0 x1) fun v1 =>
  gR σ x0 14 fun r2 =>
  gR σ x0 14 fun r3 =>
  ldI S σ r3 ((105 : Int32) + v1) fun v4 =>
  bd0 (fX13_least S σ (99 : Int32) (v4 + x2)) fun v5 =>
  stI S σ r2 ((105 : Int32) + v1) v5 fun τ6 =>
  some τ6
def fX13_whyTilt_b50 (S : Nat → Nat × Nat) (σ : mm)  (s0 : Int32) : Option Int32 :=
  some s0
def fX13_whyTilt_b49 (S : Nat → Nat × Nat) (σ : mm)   : Option Int32 :=
  fX13_whyTilt_b50 S σ (0 : Int32)
def fX13_whyTilt (S : Nat → Nat × Nat) (σ : mm) (x0 : Nat) (x1 : Int32) (x2 : Int32) : Option Int32 :=
  bd0 (fX13_isLapsed S σ x0 x1) fun v1 =>
  if v1 = 0 then
    gR σ x0 14 fun r2 =>
    ldI S σ r2 ((129 : Int32) + x1) fun v3 =>
    if ¬ v3 = x2 then
      if ¬ x2 = (2 : Int32) then
        fX13_whyTilt_b49 S σ
      else
        gR σ x0 14 fun r4 =>
        ldI S σ r4 (6 : Int32) fun v5 =>
        if ¬ v5 = 0 then
          fX13_whyTilt_b49 S σ
        else
          fX13_whyTilt_b50 S σ (3 : Int32)
    else
      fX13_whyTilt_b50 S σ (2 : Int32)
  else
    fX13_whyTilt_b50 S σ (1 : Int32)
def fX13_whyWiden_b33 (S : Nat → Nat × Nat) (σ : mm)  (s0 : Int32) : Option Int32 :=
  some s0
def fX13_whyWiden (S : Nat → Nat × Nat) (σ : mm) (x0 : Nat) (x1 : Int32) (x2 : Int32) : Option Int32 :=
  bd0 (fX13_isLapsed S σ x0 x1) fun v1 =>
  if v1 = 0 then
    gR σ x0 14 fun r2 =>
    ldI S σ r2 ((121 : Int32) + x1) fun v3 =>
    if (v3 + x2) ≤ (9 : Int32) then
      fX13_whyWiden_b33 S σ (0 : Int32)
    else
      fX13_whyWiden_b33 S σ (2 : Int32)
  else
    fX13_whyWiden_b33 S σ (1 : Int32)
def fX13_whySpill_b30 (S : Nat → Nat × Nat) (σ : mm)  (s0 : Int32) : Option Int32 :=
  some s0
def fX13_whySpill (S : Nat → Nat × Nat) (σ : mm) (x0 : Nat) (x1 : Int32) (x2 : Int32) : Option Int32 :=
  bd0 (fX13_isLapsed S σ x0 x1) fun v1 =>
  if v1 = 0 then
    gR σ x0 14 fun r2 =>
    ldI S σ r2 ((125 : Int32) + x1) fun v3 =>
    if x2 ≤ v3 then
      fX13_whySpill_b30 S σ (0 : Int32)
    else
      fX13_whySpill_b30 S σ (2 : Int32)
  else
    fX13_whySpill_b30 S σ (1 : Int32)
def fX13_why_b62 (S : Nat → Nat × Nat) (σ : mm)  (s0 : Int32) : Option Int32 :=
  some s0
def fX13_why (S : Nat → Nat × Nat) (σ : mm) (x0 : Nat) (x1 : Int32) (x2 : Int32) (x3 : Int32) : Option Int32 :=
  if x1 = (0 : Int32) then
    bd0 (fX13_whyTurn S σ x0 x2) fun v1 =>
    some v1
  else if x1 = (1 : Int32) then
    gR σ x0 14 fun r2 =>
    ldI S σ r2 (102 : Int32) fun v3 =>
    bd0 (fX13_isAwake S σ x0 x2 v3) fun v4 =>
    if v4 = 0 then
      fX13_why_b62 S σ (0 : Int32)
    else
      fX13_why_b62 S σ (1 : Int32)
  else if x1 = (2 : Int32) then
    bd0 (fX13_whyWed S σ x0 x2) fun v5 =>
    some v5
  else if x1 = (3 : Int32) then
    bd0 (fX13_whyTilt S σ x0 x2 x3) fun v6 =>
    some v6
  else if x1 = (4 : Int32) then
    bd0 (fX13_whyWiden S σ x0 x2 x3) fun v7 =>
    some v7
  else bd0 (fX13_whySpill S σ x0 x2 x3) fun v8 =>
  some v8
def fX13_live (S : Nat → Nat × Nat) (σ : mm) (x0 : Nat) (x1 : Int32) (x2 : Int32) (x3 : Int32) : Option mm :=
  if x1 = (0 : Int32) then
    bd0 (fX13_doTurn S σ x0 x2) fun τ1 =>
    some τ1
  else if x1 = (1 : Int32) then
    gR σ x0 14 fun r2 =>
    ldI S σ r2 (103 : Int32) fun v3 =>
    stI S σ r2 (103 : Int32) (v3 ||| ((1 : Int32) <<< (x2 &&& 31))) fun τ4 =>
    some τ4
  else if x1 = (2 : Int32) then
    bd0 (fX13_doWoo S σ x0 x2 x3) fun τ5 =>
    some τ5
  else if x1 = (3 : Int32) then
    gR σ x0 14 fun r6 =>
    stI S σ r6 ((129 : Int32) + x2) x3 fun τ7 =>
    some τ7
  else if x1 = (4 : Int32) then
    gR σ x0 14 fun r8 =>
    ldI S σ r8 ((121 : Int32) + x2) fun v9 =>
    stI S σ r8 ((121 : Int32) + x2) (v9 + x3) fun τ10 =>
    some τ10
  else gR σ x0 14 fun r11 =>
  ldI S σ r11 ((125 : Int32) + x2) fun v12 =>
  stI S σ r11 ((125 : Int32) + x2) (v12 - x3) fun τ13 =>
  some τ13
def fX13_act (S : Nat → Nat × Nat) (σ : mm) (x0 : Nat) (x1 : Int32) (x2 : Int32) (x3 : Int32) : Option (Int32 × mm) :=
  bd0 (fX13_why S σ x0 x1 x2 x3) fun v1 =>
  if v1 = 0 then
    bd0 (fX13_snap S σ x0) fun τ2 =>
    bd0 (fX13_live S τ2 x0 x1 x2 x3) fun τ3 =>
    some ((0 : Int32), τ3)
  else
    some (v1, σ)
def fX13_turn_b24 (S : Nat → Nat × Nat) (σ : mm)  (s0 : Int32) : Option (Int32 × mm) :=
  some (s0, σ)
def fX13_turn (S : Nat → Nat × Nat) (σ : mm) (x0 : Nat) (x1 : Int32) : Option (Int32 × mm) :=
  wI σ x0 0 (0 : Int32) fun τ1 =>
  bd0 (fX13_isPerson S τ1 x0 x1) fun v2 =>
  if v2 = 0 then
    fX13_turn_b24 S τ1 (-1 : Int32)
  else
    bd2 (fX13_act S τ1 x0 (0 : Int32) x1 (0 : Int32)) fun v3 τ4 =>
    fX13_turn_b24 S τ4 v3
def fX13_wake_b24 (S : Nat → Nat × Nat) (σ : mm)  (s0 : Int32) : Option (Int32 × mm) :=
  some (s0, σ)
def fX13_wake (S : Nat → Nat × Nat) (σ : mm) (x0 : Nat) (x1 : Int32) : Option (Int32 × mm) :=
  wI σ x0 0 (0 : Int32) fun τ1 =>
  bd0 (fX13_isPerson S τ1 x0 x1) fun v2 =>
  if v2 = 0 then
    fX13_wake_b24 S τ1 (-1 : Int32)
  else
    bd2 (fX13_act S τ1 x0 (1 : Int32) x1 (0 : Int32)) fun v3 τ4 =>
    fX13_wake_b24 S τ4 v3
def fX13_woo_b34 (S : Nat → Nat × Nat) (σ : mm)  (s0 : Int32) : Option (Int32 × mm) :=
  some (s0, σ)
def fX13_woo_b33 (S : Nat → Nat × Nat) (σ : mm)   : Option (Int32 × mm) :=
  fX13_woo_b34 S σ (-1 : Int32)
def fX13_woo (S : Nat → Nat × Nat) (σ : mm) (x0 : Nat) (x1 : Int32) (x2 : Int32) : Option (Int32 × mm) :=
  wI σ x0 0 (0 : Int32) fun τ1 =>
  bd0 (fX13_isPerson S τ1 x0 x1) fun v2 =>
  if v2 = 0 then
    fX13_woo_b33 S τ1
  else
    bd0 (fX13_isIn S τ1 x2 (1 : Int32) (20 : Int32)) fun v3 =>
    if v3 = 0 then
      fX13_woo_b33 S τ1
    else
      bd2 (fX13_act S τ1 x0 (2 : Int32) x1 x2) fun v4 τ5 =>
      fX13_woo_b34 S τ5 v4
def fX13_tilt_b33 (S : Nat → Nat × Nat) (σ : mm)  (s0 : Int32) : Option (Int32 × mm) :=
  some (s0, σ)
def fX13_tilt_b32 (S : Nat → Nat × Nat) (σ : mm)   : Option (Int32 × mm) :=
  fX13_tilt_b33 S σ (-1 : Int32)
def fX13_tilt (S : Nat → Nat × Nat) (σ : mm) (x0 : Nat) (x1 : Int32) (x2 : Int32) : Option (Int32 × mm) :=
  wI σ x0 0 (0 : Int32) fun τ1 =>
  bd0 (fX13_isGlass S τ1 x0 x1) fun v2 =>
  if v2 = 0 then
    fX13_tilt_b32 S τ1
  else
    bd0 (fX13_isIn S τ1 x2 (0 : Int32) (2 : Int32)) fun v3 =>
    if v3 = 0 then
      fX13_tilt_b32 S τ1
    else
      bd2 (fX13_act S τ1 x0 (3 : Int32) x1 x2) fun v4 τ5 =>
      fX13_tilt_b33 S τ5 v4
def fX13_widen_b34 (S : Nat → Nat × Nat) (σ : mm)  (s0 : Int32) : Option (Int32 × mm) :=
  some (s0, σ)
def fX13_widen_b33 (S : Nat → Nat × Nat) (σ : mm)   : Option (Int32 × mm) :=
  fX13_widen_b34 S σ (-1 : Int32)
def fX13_widen (S : Nat → Nat × Nat) (σ : mm) (x0 : Nat) (x1 : Int32) (x2 : Int32) : Option (Int32 × mm) :=
  wI σ x0 0 (0 : Int32) fun τ1 =>
  bd0 (fX13_isGlass S τ1 x0 x1) fun v2 =>
  if v2 = 0 then
    fX13_widen_b33 S τ1
  else
    bd0 (fX13_isIn S τ1 x2 (1 : Int32) (8 : Int32)) fun v3 =>
    if v3 = 0 then
      fX13_widen_b33 S τ1
    else
      bd2 (fX13_act S τ1 x0 (4 : Int32) x1 x2) fun v4 τ5 =>
      fX13_widen_b34 S τ5 v4
def fX13_spill_b35 (S : Nat → Nat × Nat) (σ : mm)  (s0 : Int32) : Option (Int32 × mm) :=
  some (s0, σ)
def fX13_spill_b34 (S : Nat → Nat × Nat) (σ : mm)   : Option (Int32 × mm) :=
  fX13_spill_b35 S σ (-1 : Int32)
def fX13_spill (S : Nat → Nat × Nat) (σ : mm) (x0 : Nat) (x1 : Int32) (x2 : Int32) : Option (Int32 × mm) :=
  wI σ x0 0 (0 : Int32) fun τ1 =>
  bd0 (fX13_isGlass S τ1 x0 x1) fun v2 =>
  if v2 = 0 then
    fX13_spill_b34 S τ1
  else
    bd0 (fX13_isIn S τ1 x2 (1 : Int32) (250 : Int32)) fun v3 =>
    if v3 = 0 then
      fX13_spill_b34 S τ1
    else
      bd2 (fX13_act S τ1 x0 (5 : Int32) x1 x2) fun v4 τ5 =>
      fX13_spill_b35 S τ5 v4
def fX13_undo_L26 (S : Nat → Nat × Nat) (x0 : Nat) : (Int32 × mm) → Option ((Int32 × mm) ⊕ mm) :=
  un2 fun x1 σ =>
  if (39 : Int32) ≤ x1 then
      some (.inr σ)
    else
      gR σ x0 14 fun r1 =>
      gR σ x0 17 fun r2 =>
      ldI S σ r2 (((39 : Int32) * (σ.1 x0 23)) + x1) fun v3 =>
      stI S σ r1 ((102 : Int32) + x1) v3 fun τ4 =>
      nm (x1 + (1 : Int32)) fun v5 =>
      some (.inl (v5, τ4))
def fX13_undo (S : Nat → Nat × Nat) (σ : mm) (x0 : Nat) : Option (Int32 × mm) :=
  wI σ x0 0 (0 : Int32) fun τ1 =>
  if ¬ (τ1.1 x0 23) = 0 then
    wI τ1 x0 23 ((τ1.1 x0 23) - (1 : Int32)) fun τ2 =>
    bd0 (loopN (fX13_undo_L26 S x0) 1000 ((0 : Int32), τ2)) (fun τ4 => some ((τ4.1 x0 23), τ4))
  else
    some ((-1 : Int32), τ1)
def fX13_ended_b123 (S : Nat → Nat × Nat) (σ : mm)   : Option mm :=
  some σ
def fX13_ended_b65 (S : Nat → Nat × Nat) (σ : mm) (x0 : Nat) (x1 : Int32) (s0 : Int32) : Option mm :=
  if s0 = (-1 : Int32) then
    gR σ x0 14 fun r1 =>
    ldI S σ r1 ((133 : Int32) + x1) fun v2 =>
    stI S σ r1 ((133 : Int32) + x1) (v2 + (1 : Int32)) fun τ3 =>
    gR τ3 x0 14 fun r4 =>
    ldI S τ3 r4 ((133 : Int32) + x1) fun v5 =>
    gR τ3 x0 14 fun r6 =>
    ldI S τ3 r6 (3 : Int32) fun v7 =>
    if v5 < v7 then
      fX13_ended_b123 S τ3
    else
      gR τ3 x0 14 fun r8 =>
      ldI S τ3 r8 (104 : Int32) fun v9 =>
      stI S τ3 r8 (104 : Int32) (v9 ||| ((1 : Int32) <<< (x1 &&& 31))) fun τ10 =>
      fX13_ended_b123 S τ10
  else
    bd0 (fX13_doTurn S σ x0 s0) fun τ11 =>
    some τ11
def fX13_ended (S : Nat → Nat × Nat) (σ : mm) (x0 : Nat) (x1 : Int32) : Option mm :=
  gR σ x0 14 fun r1 =>
  ldI S σ r1 ((56 : Int32) + x1) fun v2 =>
  gR σ x0 14 fun r3 =>
  ldI S σ r3 (102 : Int32) fun v4 =>
  bd0 (fX13_isWilling S σ x0 v2 v4) fun v5 =>
  if v5 = 0 then
    gR σ x0 14 fun r6 =>
    ldI S σ r6 ((60 : Int32) + x1) fun v7 =>
    gR σ x0 14 fun r8 =>
    ldI S σ r8 (102 : Int32) fun v9 =>
    bd0 (fX13_isWilling S σ x0 v7 v9) fun v10 =>
    if v10 = 0 then
      fX13_ended_b65 S σ x0 x1 (-1 : Int32)
    else
      gR σ x0 14 fun r11 =>
      ldI S σ r11 ((60 : Int32) + x1) fun v12 =>
      fX13_ended_b65 S σ x0 x1 v12
  else
    fX13_ended_b65 S σ x0 x1 v2
def fX13_oneHour_b79 (S : Nat → Nat × Nat) (σ : mm) (x0 : Nat) (x1 : Int32)  : Option ((Int32 × mm) ⊕ mm) :=
  nm (x1 + (1 : Int32)) fun v1 =>
  some (.inl (v1, σ))
def fX13_oneHour_L2 (S : Nat → Nat × Nat) (x0 : Nat) : (Int32 × mm) → Option ((Int32 × mm) ⊕ mm) :=
  un2 fun x1 σ =>
  gR σ x0 14 fun r1 =>
    ldI S σ r1 (1 : Int32) fun v2 =>
    if v2 ≤ x1 then
      some (.inr σ)
    else
      bd0 (fX13_isLapsed S σ x0 x1) fun v3 =>
      if v3 = 0 then
        gR σ x0 14 fun r4 =>
        ldI S σ r4 ((125 : Int32) + x1) fun v5 =>
        if ¬ v5 = 0 then
          gR σ x0 14 fun r6 =>
          ldI S σ r6 ((125 : Int32) + x1) fun v7 =>
          gR σ x0 14 fun r8 =>
          ldI S σ r8 ((125 : Int32) + x1) fun v9 =>
          gR σ x0 14 fun r10 =>
          ldI S σ r10 (102 : Int32) fun v11 =>
          bd0 (fX13_runs S σ x0 x1 v11) fun v12 =>
          bd0 (fX13_least S σ v9 v12) fun v13 =>
          stI S σ r6 ((125 : Int32) + x1) (v7 - v13) fun τ14 =>
          fX13_oneHour_b79 S τ14 x0 x1
        else
          bd0 (fX13_ended S σ x0 x1) fun τ15 =>
          fX13_oneHour_b79 S τ15 x0 x1
      else
        fX13_oneHour_b79 S σ x0 x1
def fX13_oneHour_b149 (S : Nat → Nat × Nat) (σ : mm) (x0 : Nat)  : Option mm :=
  gR σ x0 14 fun r1 =>
  ldI S σ r1 (102 : Int32) fun v2 =>
  stI S σ r1 (102 : Int32) (v2 + (1 : Int32)) fun τ3 =>
  some τ3
def fX13_oneHour_L110 (S : Nat → Nat × Nat) (x0 : Nat) : (Int32 × mm) → Option ((Int32 × mm) ⊕ mm) :=
  un2 fun x1 σ =>
  gR σ x0 14 fun r1 =>
    ldI S σ r1 (0 : Int32) fun v2 =>
    if v2 ≤ x1 then
      some (.inr σ)
    else
      gR σ x0 14 fun r3 =>
      gR σ x0 14 fun r4 =>
      ldI S σ r4 ((105 : Int32) + x1) fun v5 =>
      bd0 (fX13_fonder S σ x0 x1 v5) fun v6 =>
      stI S σ r3 ((105 : Int32) + x1) v6 fun τ7 =>
      nm (x1 + (1 : Int32)) fun v8 =>
      some (.inl (v8, τ7))
def fX13_oneHour (S : Nat → Nat × Nat) (σ : mm) (x0 : Nat) : Option mm :=
  bd0 (loopN (fX13_oneHour_L2 S x0) 1000 ((0 : Int32), σ)) (fun τ2 => gR τ2 x0 14 fun r3 =>
  stI S τ2 r3 (103 : Int32) (0 : Int32) fun τ4 =>
  gR τ4 x0 14 fun r5 =>
  ldI S τ4 r5 (102 : Int32) fun v6 =>
  if ¬ (v6 - v6 / (24 : Int32) * (24 : Int32)) = (23 : Int32) then
    fX13_oneHour_b149 S τ4 x0
  else
    bd0 (loopN (fX13_oneHour_L110 S x0) 1000 ((0 : Int32), τ4)) (fun τ8 => fX13_oneHour_b149 S τ8 x0))
def fX13_passHours_L18 (S : Nat → Nat × Nat) (x0 : Nat) (x2 : Int32) : (Int32 × mm) → Option ((Int32 × mm) ⊕ mm) :=
  un2 fun x3 σ =>
  if x2 ≤ x3 then
      some (.inr σ)
    else
      bd0 (fX13_oneHour S σ x0) fun τ1 =>
      nm (x3 + (1 : Int32)) fun v2 =>
      some (.inl (v2, τ1))
def fX13_passHours (S : Nat → Nat × Nat) (σ : mm) (x0 : Nat) (x1 : Int32) : Option (Int32 × mm) :=
  gR σ x0 14 fun r1 =>
  ldI S σ r1 (102 : Int32) fun v2 =>
  bd0 (fX13_least S σ x1 ((600 : Int32) - v2)) fun v3 =>
  bd0 (loopN (fX13_passHours_L18 S x0 v3) 1000 ((0 : Int32), σ)) (fun τ5 => some (v3, τ5))
def fX13_hours (S : Nat → Nat × Nat) (σ : mm) (x0 : Nat) (x1 : Int32) : Option (Int32 × mm) :=
  wI σ x0 0 (0 : Int32) fun τ1 =>
  bd0 (fX13_isIn S τ1 x1 (1 : Int32) (60 : Int32)) fun v2 =>
  if ¬ v2 = 0 then
    gR τ1 x0 14 fun r3 =>
    ldI S τ1 r3 (102 : Int32) fun v4 =>
    if ¬ v4 = (600 : Int32) then
      bd0 (fX13_snap S τ1 x0) fun τ5 =>
      bd2 (fX13_passHours S τ5 x0 x1) fun v6 τ7 =>
      some (v6, τ7)
    else
      some ((0 : Int32), τ1)
  else
    some ((-1 : Int32), τ1)
def fX13_layAside_L2 (S : Nat → Nat × Nat) (x0 : Nat) : (Int32 × mm) → Option ((Int32 × mm) ⊕ mm) :=
  un2 fun x1 σ =>
  if (39 : Int32) ≤ x1 then
      some (.inr σ)
    else
      gR σ x0 18 fun r1 =>
      gR σ x0 14 fun r2 =>
      ldI S σ r2 ((102 : Int32) + x1) fun v3 =>
      stI S σ r1 x1 v3 fun τ4 =>
      nm (x1 + (1 : Int32)) fun v5 =>
      some (.inl (v5, τ4))
def fX13_layAside (S : Nat → Nat × Nat) (σ : mm) (x0 : Nat) : Option mm :=
  bd0 (loopN (fX13_layAside_L2 S x0) 1000 ((0 : Int32), σ)) (fun τ2 => some τ2)
def fX13_takeBack_L2 (S : Nat → Nat × Nat) (x0 : Nat) : (Int32 × mm) → Option ((Int32 × mm) ⊕ mm) :=
  un2 fun x1 σ =>
  if (39 : Int32) ≤ x1 then
      some (.inr σ)
    else
      gR σ x0 14 fun r1 =>
      gR σ x0 18 fun r2 =>
      ldI S σ r2 x1 fun v3 =>
      stI S σ r1 ((102 : Int32) + x1) v3 fun τ4 =>
      nm (x1 + (1 : Int32)) fun v5 =>
      some (.inl (v5, τ4))
def fX13_takeBack (S : Nat → Nat × Nat) (σ : mm) (x0 : Nat) : Option mm :=
  bd0 (loopN (fX13_takeBack_L2 S x0) 1000 ((0 : Int32), σ)) (fun τ2 => some τ2)
def fX13_endsBy_L11 (S : Nat → Nat × Nat) (σ : mm) (x0 : Nat) (x1 : Int32) : (Int32 × Int32) → Option ((Int32 × Int32) ⊕ (Int32 ⊕ Unit)) :=
  un2 fun x3 x4 =>
  if (600 : Int32) ≤ x4 then
      some (.inr (.inr ()))
    else
      if ¬ x3 = 0 then
        bd0 (fX13_runs S σ x0 x1 x4) fun v1 =>
        bd0 (fX13_least S σ x3 v1) fun v2 =>
        nm (x3 - v2) fun v3 =>
        nm (x4 + (1 : Int32)) fun v4 =>
        some (.inl (v3, v4))
      else
        some (.inr (.inl x4))
def fX13_endsBy (S : Nat → Nat × Nat) (σ : mm) (x0 : Nat) (x1 : Int32) (x2 : Int32) : Option Int32 :=
  gR σ x0 14 fun r1 =>
  ldI S σ r1 (102 : Int32) fun v2 =>
  bd0 (loopN (fX13_endsBy_L11 S σ x0 x1) 1000 (x2, v2)) (cs2 (fun v4 => some v4) (fun (_ : Unit) => some (-1 : Int32)))
def fX13_endOf_b34 (S : Nat → Nat × Nat) (σ : mm)  (s0 : Int32) : Option Int32 :=
  some s0
def fX13_endOf_b33 (S : Nat → Nat × Nat) (σ : mm)   : Option Int32 :=
  fX13_endOf_b34 S σ (-1 : Int32)
def fX13_endOf (S : Nat → Nat × Nat) (σ : mm) (x0 : Nat) (x1 : Int32) : Option Int32 :=
  bd0 (fX13_isGlass S σ x0 x1) fun v1 =>
  if v1 = 0 then
    fX13_endOf_b33 S σ
  else
    bd0 (fX13_isLapsed S σ x0 x1) fun v2 =>
    if ¬ v2 = 0 then
      fX13_endOf_b33 S σ
    else
      gR σ x0 14 fun r3 =>
      ldI S σ r3 ((125 : Int32) + x1) fun v4 =>
      bd0 (fX13_endsBy S σ x0 x1 v4) fun v5 =>
      fX13_endOf_b34 S σ v5
def fX13_ends (S : Nat → Nat × Nat) (σ : mm) (x0 : Nat) (x1 : Int32) : Option (Int32 × mm) :=
  wI σ x0 0 (0 : Int32) fun τ1 =>
  bd0 (fX13_endOf S τ1 x0 x1) fun v2 =>
  some (v2, τ1)
def fX13_layLapses_L6 (S : Nat → Nat × Nat) (x0 : Nat) : (Int32 × mm) → Option ((Int32 × mm) ⊕ mm) :=
  un2 fun x1 σ =>
  if (4 : Int32) ≤ x1 then
      some (.inr σ)
    else
      gR σ x0 25 fun r1 =>
      stI S σ r1 x1 (-1 : Int32) fun τ2 =>
      nm (x1 + (1 : Int32)) fun v3 =>
      some (.inl (v3, τ2))
def fX13_layLapses_b94 (S : Nat → Nat × Nat) (σ : mm) (x0 : Nat) (x1 : Int32) (x2 : Int32)  : Option ((Int32 × mm) ⊕ mm) :=
  nm (x2 + (1 : Int32)) fun v1 =>
  some (.inl (v1, σ))
def fX13_layLapses_L51 (S : Nat → Nat × Nat) (x0 : Nat) (x1 : Int32) : (Int32 × mm) → Option ((Int32 × mm) ⊕ mm) :=
  un2 fun x2 σ =>
  gR σ x0 14 fun r1 =>
    ldI S σ r1 (1 : Int32) fun v2 =>
    if v2 ≤ x2 then
      some (.inr σ)
    else
      gR σ x0 14 fun r3 =>
      ldI S σ r3 (104 : Int32) fun v4 =>
      bd0 (fX13_has S σ (v4 &&& (x1 ^^^ (-1 : Int32))) x2) fun v5 =>
      if v5 = 0 then
        fX13_layLapses_b94 S σ x0 x1 x2
      else
        gR σ x0 25 fun r6 =>
        gR σ x0 14 fun r7 =>
        ldI S σ r7 (102 : Int32) fun v8 =>
        stI S σ r6 x2 (v8 - (1 : Int32)) fun τ9 =>
        fX13_layLapses_b94 S τ9 x0 x1 x2
def fX13_layLapses_L24 (S : Nat → Nat × Nat) (x0 : Nat) : mm → Option (mm ⊕ mm) :=
  fun σ => gR σ x0 14 fun r1 =>
    ldI S σ r1 (102 : Int32) fun v2 =>
    if (600 : Int32) ≤ v2 then
      some (.inr σ)
    else
      gR σ x0 14 fun r3 =>
      ldI S σ r3 (104 : Int32) fun v4 =>
      bd0 (fX13_oneHour S σ x0) fun τ5 =>
      bd0 (loopN (fX13_layLapses_L51 S x0 v4) 1000 ((0 : Int32), τ5)) (fun τ7 => some (.inl τ7))
def fX13_layLapses (S : Nat → Nat × Nat) (σ : mm) (x0 : Nat) : Option mm :=
  bd0 (fX13_layAside S σ x0) fun τ1 =>
  bd0 (loopN (fX13_layLapses_L6 S x0) 1000 ((0 : Int32), τ1)) (fun τ3 => bd0 (loopN (fX13_layLapses_L24 S x0) 1000 τ3) (fun τ5 => bd0 (fX13_takeBack S τ5 x0) fun τ6 =>
  some τ6))
def fX13_lapses (S : Nat → Nat × Nat) (σ : mm) (x0 : Nat) (x1 : Int32) : Option (Int32 × mm) :=
  wI σ x0 0 (0 : Int32) fun τ1 =>
  bd0 (fX13_isGlass S τ1 x0 x1) fun v2 =>
  if ¬ v2 = 0 then
    bd0 (fX13_layLapses S τ1 x0) fun τ3 =>
    gR τ3 x0 25 fun r4 =>
    ldI S τ3 r4 x1 fun v5 =>
    some (v5, τ3)
  else
    some ((-1 : Int32), τ1)
def fX13_soonest_b55 (S : Nat → Nat × Nat) (σ : mm) (x0 : Nat) (x1 : Int32) (x2 : Int32)  : Option ((Int32 × Int32) ⊕ Int32) :=
  nm (x2 + (1 : Int32)) fun v1 =>
  some (.inl (x1, v1))
def fX13_soonest_b53 (S : Nat → Nat × Nat) (σ : mm) (x0 : Nat) (x2 : Int32)  : Option ((Int32 × Int32) ⊕ Int32) :=
  fX13_soonest_b55 S σ x0 x2 x2
def fX13_soonest_L13 (S : Nat → Nat × Nat) (σ : mm) (x0 : Nat) : (Int32 × Int32) → Option ((Int32 × Int32) ⊕ Int32) :=
  un2 fun x1 x2 =>
  gR σ x0 14 fun r1 =>
    ldI S σ r1 (1 : Int32) fun v2 =>
    if v2 ≤ x2 then
      some (.inr x1)
    else
      gR σ x0 25 fun r3 =>
      ldI S σ r3 x2 fun v4 =>
      if v4 = (-1 : Int32) then
        fX13_soonest_b55 S σ x0 x1 x2
      else
        if x1 = (-1 : Int32) then
          fX13_soonest_b53 S σ x0 x2
        else
          gR σ x0 25 fun r5 =>
          ldI S σ r5 x2 fun v6 =>
          gR σ x0 25 fun r7 =>
          ldI S σ r7 x1 fun v8 =>
          if v8 ≤ v6 then
            fX13_soonest_b55 S σ x0 x1 x2
          else
            fX13_soonest_b53 S σ x0 x2
def fX13_soonest (S : Nat → Nat × Nat) (σ : mm) (x0 : Nat) : Option (Int32 × mm) :=
  wI σ x0 0 (0 : Int32) fun τ1 =>
  bd0 (fX13_layLapses S τ1 x0) fun τ2 =>
  bd0 (loopN (fX13_soonest_L13 S τ2 x0) 1000 ((-1 : Int32), (0 : Int32))) (fun v4 => some (v4, τ2))
def fX13_sleeper_b53 (S : Nat → Nat × Nat) (σ : mm)  (s0 : Int32) : Option Int32 :=
  some s0
def fX13_sleeper (S : Nat → Nat × Nat) (σ : mm) (x0 : Nat) (x1 : Int32) (x2 : Int32) : Option Int32 :=
  gR σ x0 14 fun r1 =>
  ldI S σ r1 ((56 : Int32) + x1) fun v2 =>
  bd0 (fX13_fondAt S σ x0 v2 x2) fun v3 =>
  gR σ x0 14 fun r4 =>
  ldI S σ r4 (4 : Int32) fun v5 =>
  if v3 < v5 then
    gR σ x0 14 fun r6 =>
    ldI S σ r6 ((60 : Int32) + x1) fun v7 =>
    bd0 (fX13_fondAt S σ x0 v7 x2) fun v8 =>
    gR σ x0 14 fun r9 =>
    ldI S σ r9 (4 : Int32) fun v10 =>
    if v8 < v10 then
      fX13_sleeper_b53 S σ (-1 : Int32)
    else
      fX13_sleeper_b53 S σ (1 : Int32)
  else
    some (0 : Int32)
def fX13_isTurned_b39 (S : Nat → Nat × Nat) (σ : mm)  (s0 : Int32) : Option Int32 :=
  rZ s0 (some s0)
def fX13_isTurned_b34 (S : Nat → Nat × Nat) (σ : mm)   : Option Int32 :=
  fX13_isTurned_b39 S σ (1 : Int32)
def fX13_isTurned (S : Nat → Nat × Nat) (σ : mm) (x0 : Nat) (x1 : Int32) (x2 : Int32) : Option Int32 :=
  gR σ x0 14 fun r1 =>
  ldI S σ r1 ((56 : Int32) + x1) fun v2 =>
  bd0 (fX13_isWilling S σ x0 v2 x2) fun v3 =>
  if ¬ v3 = 0 then
    fX13_isTurned_b34 S σ
  else
    gR σ x0 14 fun r4 =>
    ldI S σ r4 ((60 : Int32) + x1) fun v5 =>
    bd0 (fX13_isWilling S σ x0 v5 x2) fun v6 =>
    if v6 = 0 then
      fX13_isTurned_b39 S σ (0 : Int32)
    else
      fX13_isTurned_b34 S σ
def fX13_wakesAt (S : Nat → Nat × Nat) (σ : mm) (x0 : Nat) (x1 : Int32) (x2 : Int32) : Option Int32 :=
  gR σ x0 26 fun r1 =>
  ldI S σ r1 (((261 : Int32) * x1) + x2) fun v2 =>
  some v2
def fX13_waits_b32 (S : Nat → Nat × Nat) (σ : mm)  (s0 : Int32) : Option Int32 :=
  some s0
def fX13_waits (S : Nat → Nat × Nat) (σ : mm) (x0 : Nat) (x1 : Int32) (x2 : Int32) : Option Int32 :=
  gR σ x0 14 fun r1 =>
  ldI S σ r1 (3 : Int32) fun v2 =>
  if (x2 + (1 : Int32)) < v2 then
    bd0 (fX13_wakesAt S σ x0 (x1 + (1 : Int32)) (((251 : Int32) + x2) + (1 : Int32))) fun v3 =>
    fX13_waits_b32 S σ v3
  else
    fX13_waits_b32 S σ (100000 : Int32)
def fX13_layWatch_L13 (S : Nat → Nat × Nat) (x0 : Nat) (x1 : Int32) (x2 : Int32) (x3 : Int32) : (Int32 × mm) → Option ((Int32 × mm) ⊕ mm) :=
  un2 fun x4 σ =>
  if (260 : Int32) < x4 then
      some (.inr σ)
    else
      gR σ x0 26 fun r1 =>
      stI S σ r1 (((261 : Int32) * x2) + x4) (0 : Int32) fun τ2 =>
      nm (x4 + (1 : Int32)) fun v3 =>
      some (.inl (v3, τ2))
def fX13_layWatch_b119 (S : Nat → Nat × Nat) (σ : mm) (x0 : Nat) (x1 : Int32) (x3 : Int32) (x4 : Int32) (x5 : Int32) (x6 : Int32) (x7 : Int32) (s0 : Nat) (s1 : Int32) (s2 : Nat) (s3 : Int32) (s4 : Int32) : Option ((Int32 × mm) ⊕ mm) :=
  bd0 (fX13_wakesAt S σ s2 s3 s4) fun v1 =>
  stI S σ s0 s1 v1 fun τ2 =>
  nm (x7 + (1 : Int32)) fun v3 =>
  some (.inl (v3, τ2))
def fX13_layWatch_L75 (S : Nat → Nat × Nat) (x0 : Nat) (x1 : Int32) (x3 : Int32) (x4 : Int32) (x5 : Int32) (x6 : Int32) : (Int32 × mm) → Option ((Int32 × mm) ⊕ mm) :=
  un2 fun x7 σ =>
  if (250 : Int32) < x7 then
      some (.inr σ)
    else
      gR σ x0 26 fun r1 =>
      if x7 ≤ x6 then
        fX13_layWatch_b119 S σ x0 x1 x3 x4 x5 x6 x7 r1 (((261 : Int32) * x4) + x7) x0 (x4 + (1 : Int32)) (251 : Int32)
      else
        fX13_layWatch_b119 S σ x0 x1 x3 x4 x5 x6 x7 r1 (((261 : Int32) * x4) + x7) x0 (x4 + (1 : Int32)) (x7 - x6)
def fX13_layWatch_b237 (S : Nat → Nat × Nat) (σ : mm) (x0 : Nat) (x1 : Int32) (x3 : Int32) (x4 : Int32) (x7 : Int32) (x8 : Int32) (x9 : Int32) (x10 : Int32) (s0 : Nat) (s1 : Int32) (s2 : Int32) : Option ((Int32 × mm) ⊕ mm) :=
  stI S σ s0 s1 s2 fun τ1 =>
  nm (x10 + (1 : Int32)) fun v2 =>
  some (.inl (v2, τ1))
def fX13_layWatch_L172 (S : Nat → Nat × Nat) (x0 : Nat) (x1 : Int32) (x3 : Int32) (x4 : Int32) (x7 : Int32) (x8 : Int32) (x9 : Int32) : (Int32 × mm) → Option ((Int32 × mm) ⊕ mm) :=
  un2 fun x10 σ =>
  if (9 : Int32) ≤ x10 then
      some (.inr σ)
    else
      gR σ x0 26 fun r1 =>
      if x7 = 0 then
        if x8 = 0 then
          bd0 (fX13_waits S σ x0 x4 x10) fun v2 =>
          fX13_layWatch_b237 S σ x0 x1 x3 x4 x7 x8 x9 x10 r1 ((((261 : Int32) * x4) + (251 : Int32)) + x10) v2
        else
          bd0 (fX13_waits S σ x0 x4 x10) fun v3 =>
          bd0 (fX13_least S σ x9 v3) fun v4 =>
          fX13_layWatch_b237 S σ x0 x1 x3 x4 x7 x8 x9 x10 r1 ((((261 : Int32) * x4) + (251 : Int32)) + x10) v4
      else
        fX13_layWatch_b237 S σ x0 x1 x3 x4 x7 x8 x9 x10 r1 ((((261 : Int32) * x4) + (251 : Int32)) + x10) (x9 - (1 : Int32))
def fX13_layWatch_b154 (S : Nat → Nat × Nat) (σ : mm) (x0 : Nat) (x1 : Int32) (x3 : Int32) (x4 : Int32) (x7 : Int32) (s0 : Int32) : Option ((Int32 × mm) ⊕ mm) :=
  bd0 (fX13_wakesAt S σ x0 (x4 + (1 : Int32)) x3) fun v1 =>
  nm (v1 + (1 : Int32)) fun v2 =>
  bd0 (loopN (fX13_layWatch_L172 S x0 x1 x3 x4 x7 s0 v2) 1000 ((0 : Int32), σ)) (fun τ4 => nm (x4 + (-1 : Int32)) fun v5 =>
  some (.inl (v5, τ4)))
def fX13_layWatch_L46 (S : Nat → Nat × Nat) (x0 : Nat) (x1 : Int32) (x3 : Int32) : (Int32 × mm) → Option ((Int32 × mm) ⊕ mm) :=
  un2 fun x4 σ =>
  if x4 < 0 then
      some (.inr σ)
    else
      gR σ x0 14 fun r1 =>
      ldI S σ r1 (102 : Int32) fun v2 =>
      nm (v2 + x4) fun v3 =>
      bd0 (fX13_runs S σ x0 x1 v3) fun v4 =>
      bd0 (loopN (fX13_layWatch_L75 S x0 x1 x3 x4 v3 v4) 1000 ((1 : Int32), σ)) (fun τ6 => bd0 (fX13_isTurned S τ6 x0 x1 v3) fun v7 =>
      bd0 (fX13_sleeper S τ6 x0 x1 v3) fun v8 =>
      if v8 = (-1 : Int32) then
        fX13_layWatch_b154 S τ6 x0 x1 x3 x4 v7 (0 : Int32)
      else
        fX13_layWatch_b154 S τ6 x0 x1 x3 x4 v7 (1 : Int32))
def fX13_layWatch (S : Nat → Nat × Nat) (σ : mm) (x0 : Nat) (x1 : Int32) (x2 : Int32) : Option mm :=
  gR σ x0 14 fun r1 =>
  ldI S σ r1 ((64 : Int32) + x1) fun v2 =>
  bd0 (loopN (fX13_layWatch_L13 S x0 x1 x2 v2) 1000 ((0 : Int32), σ)) (fun τ4 => nm (x2 - (1 : Int32)) fun v5 =>
  bd0 (loopN (fX13_layWatch_L46 S x0 x1 v2) 1000 (v5, τ4)) (fun τ7 => some τ7))
def fX13_watch_b31 (S : Nat → Nat × Nat) (σ : mm)   : Option (Int32 × mm) :=
  some ((-1 : Int32), σ)
def fX13_watch_b276 (S : Nat → Nat × Nat) (σ : mm) (x0 : Nat) (x1 : Int32) (x3 : Int32) (x4 : Int32) (x5 : Int32) (x6 : Int32)  : Option ((Int32 × Int32 × mm) ⊕ mm) :=
  nm (x6 + (1 : Int32)) fun v1 =>
  some (.inl (x4, v1, σ))
def fX13_watch_b175 (S : Nat → Nat × Nat) (σ : mm) (x0 : Nat) (x1 : Int32) (x3 : Int32) (x5 : Int32) (x6 : Int32) (s0 : Int32) : Option ((Int32 × Int32 × mm) ⊕ mm) :=
  fX13_watch_b276 S σ x0 x1 x3 s0 x5 x6
def fX13_watch_L122 (S : Nat → Nat × Nat) (x0 : Nat) (x1 : Int32) (x3 : Int32) (x5 : Int32) : (Int32 × Int32 × mm) → Option ((Int32 × Int32 × mm) ⊕ mm) :=
  un3 fun x4 x6 σ =>
  if x3 ≤ x6 then
      some (.inr σ)
    else
      gR σ x0 14 fun r1 =>
      ldI S σ r1 (102 : Int32) fun v2 =>
      nm (v2 + x6) fun v3 =>
      if (250 : Int32) < x4 then
        bd0 (fX13_isTurned S σ x0 x1 v3) fun v4 =>
        if v4 = 0 then
          bd0 (fX13_waits S σ x0 x6 (x4 - (251 : Int32))) fun v5 =>
          bd0 (fX13_wakesAt S σ x0 x6 x4) fun v6 =>
          if ¬ v5 = v6 then
            gR σ x0 27 fun r7 =>
            bd0 (fX13_sleeper S σ x0 x1 v3) fun v8 =>
            stI S σ r7 (σ.1 x0 28) (((10 : Int32) * v3) + v8) fun τ9 =>
            wI τ9 x0 28 ((τ9.1 x0 28) + (1 : Int32)) fun τ10 =>
            gR τ10 x0 14 fun r11 =>
            ldI S τ10 r11 ((64 : Int32) + x1) fun v12 =>
            fX13_watch_b276 S τ10 x0 x1 x3 v12 x5 x6
          else
            nm (x4 + (1 : Int32)) fun v13 =>
            fX13_watch_b276 S σ x0 x1 x3 v13 x5 x6
        else
          gR σ x0 14 fun r14 =>
          ldI S σ r14 ((64 : Int32) + x1) fun v15 =>
          fX13_watch_b276 S σ x0 x1 x3 v15 x5 x6
      else
        bd0 (fX13_runs S σ x0 x1 v3) fun v16 =>
        if x4 ≤ v16 then
          fX13_watch_b175 S σ x0 x1 x3 x5 x6 (251 : Int32)
        else
          fX13_watch_b175 S σ x0 x1 x3 x5 x6 (x4 - v16)
def fX13_watch_b93 (S : Nat → Nat × Nat) (σ : mm) (x0 : Nat) (x1 : Int32) (x3 : Int32) (s0 : Int32) : Option (Int32 × mm) :=
  bd0 (fX13_wakesAt S σ x0 (0 : Int32) s0) fun v1 =>
  if v1 < (100000 : Int32) then
    wI σ x0 28 (0 : Int32) fun τ2 =>
    bd0 (loopN (fX13_watch_L122 S x0 x1 x3 v1) 1000 (s0, (0 : Int32), τ2)) (fun τ4 => some (v1, τ4))
  else
    some ((-1 : Int32), σ)
def fX13_watch (S : Nat → Nat × Nat) (σ : mm) (x0 : Nat) (x1 : Int32) (x2 : Int32) : Option (Int32 × mm) :=
  wI σ x0 0 (0 : Int32) fun τ1 =>
  bd0 (fX13_isGlass S τ1 x0 x1) fun v2 =>
  if v2 = 0 then
    fX13_watch_b31 S τ1
  else
    bd0 (fX13_isLapsed S τ1 x0 x1) fun v3 =>
    if ¬ v3 = 0 then
      fX13_watch_b31 S τ1
    else
      bd0 (fX13_isIn S τ1 x2 (1 : Int32) (60 : Int32)) fun v4 =>
      if ¬ v4 = 0 then
        gR τ1 x0 14 fun r5 =>
        ldI S τ1 r5 (102 : Int32) fun v6 =>
        bd0 (fX13_least S τ1 x2 ((600 : Int32) - v6)) fun v7 =>
        bd0 (fX13_layWatch S τ1 x0 x1 v7) fun τ8 =>
        gR τ8 x0 14 fun r9 =>
        ldI S τ8 r9 ((125 : Int32) + x1) fun v10 =>
        if v10 ≤ 0 then
          gR τ8 x0 14 fun r11 =>
          ldI S τ8 r11 ((133 : Int32) + x1) fun v12 =>
          fX13_watch_b93 S τ8 x0 x1 v7 ((251 : Int32) + v12)
        else
          gR τ8 x0 14 fun r13 =>
          ldI S τ8 r13 ((125 : Int32) + x1) fun v14 =>
          fX13_watch_b93 S τ8 x0 x1 v7 v14
      else
        fX13_watch_b31 S τ1
def fX13_waking_b29 (S : Nat → Nat × Nat) (σ : mm)  (s0 : Int32) : Option (Int32 × mm) :=
  some (s0, σ)
def fX13_waking (S : Nat → Nat × Nat) (σ : mm) (x0 : Nat) (x1 : Int32) : Option (Int32 × mm) :=
  wI σ x0 0 (0 : Int32) fun τ1 =>
  bd0 (fX13_isIn S τ1 x1 (0 : Int32) ((τ1.1 x0 28) - (1 : Int32))) fun v2 =>
  if v2 = 0 then
    fX13_waking_b29 S τ1 (-1 : Int32)
  else
    gR τ1 x0 27 fun r3 =>
    ldI S τ1 r3 x1 fun v4 =>
    fX13_waking_b29 S τ1 v4
def fX13_isChosen_b51 (S : Nat → Nat × Nat) (σ : mm)  (s0 : Int32) : Option Int32 :=
  rZ s0 (some s0)
def fX13_isChosen_b50 (S : Nat → Nat × Nat) (σ : mm)   : Option Int32 :=
  fX13_isChosen_b51 S σ (0 : Int32)
def fX13_isChosen (S : Nat → Nat × Nat) (σ : mm) (x0 : Nat) (x1 : Int32) (x2 : Int32) : Option Int32 :=
  bd0 (fX13_endsBy S σ x0 x1 x2) fun v1 =>
  if v1 = (-1 : Int32) then
    fX13_isChosen_b50 S σ
  else
    gR σ x0 14 fun r2 =>
    ldI S σ r2 ((56 : Int32) + x1) fun v3 =>
    bd0 (fX13_isWilling S σ x0 v3 v1) fun v4 =>
    if v4 = 0 then
      fX13_isChosen_b50 S σ
    else
      gR σ x0 14 fun r5 =>
      ldI S σ r5 ((60 : Int32) + x1) fun v6 =>
      bd0 (fX13_isWilling S σ x0 v6 v1) fun v7 =>
      if v7 = 0 then
        fX13_isChosen_b50 S σ
      else
        fX13_isChosen_b51 S σ (1 : Int32)
def fX13_chosen_b21 (S : Nat → Nat × Nat) (σ : mm)   : Option (Int32 × mm) :=
  some ((-1 : Int32), σ)
def fX13_chosen_L27 (S : Nat → Nat × Nat) (σ : mm) (x0 : Nat) (x1 : Int32) : Int32 → Option (Int32 ⊕ (Int32 ⊕ Unit)) :=
  fun x2 => if x2 ≤ 0 then
      some (.inr (.inr ()))
    else
      bd0 (fX13_isChosen S σ x0 x1 x2) fun v1 =>
      if v1 = 0 then
        nm (x2 + (-1 : Int32)) fun v2 =>
        some (.inl v2)
      else
        some (.inr (.inl x2))
def fX13_chosen (S : Nat → Nat × Nat) (σ : mm) (x0 : Nat) (x1 : Int32) : Option (Int32 × mm) :=
  wI σ x0 0 (0 : Int32) fun τ1 =>
  bd0 (fX13_isGlass S τ1 x0 x1) fun v2 =>
  if v2 = 0 then
    fX13_chosen_b21 S τ1
  else
    bd0 (fX13_isLapsed S τ1 x0 x1) fun v3 =>
    if v3 = 0 then
      bd0 (loopN (fX13_chosen_L27 S τ1 x0 x1) 1000 (250 : Int32)) (cs2 (fun v5 => some (v5, τ1)) (fun (_ : Unit) => some ((-1 : Int32), τ1)))
    else
      fX13_chosen_b21 S τ1
def fX13_choices_b21 (S : Nat → Nat × Nat) (σ : mm)   : Option (Int32 × mm) :=
  some ((-1 : Int32), σ)
def fX13_choices_b46 (S : Nat → Nat × Nat) (σ : mm) (x0 : Nat) (x1 : Int32) (x2 : Int32) (x3 : Int32)  : Option ((Int32 × Int32) ⊕ Int32) :=
  nm (x3 + (1 : Int32)) fun v1 =>
  some (.inl (x2, v1))
def fX13_choices_L27 (S : Nat → Nat × Nat) (σ : mm) (x0 : Nat) (x1 : Int32) : (Int32 × Int32) → Option ((Int32 × Int32) ⊕ Int32) :=
  un2 fun x2 x3 =>
  if (250 : Int32) < x3 then
      some (.inr x2)
    else
      bd0 (fX13_isChosen S σ x0 x1 x3) fun v1 =>
      if v1 = 0 then
        fX13_choices_b46 S σ x0 x1 x2 x3
      else
        nm (x2 + (1 : Int32)) fun v2 =>
        fX13_choices_b46 S σ x0 x1 v2 x3
def fX13_choices (S : Nat → Nat × Nat) (σ : mm) (x0 : Nat) (x1 : Int32) : Option (Int32 × mm) :=
  wI σ x0 0 (0 : Int32) fun τ1 =>
  bd0 (fX13_isGlass S τ1 x0 x1) fun v2 =>
  if v2 = 0 then
    fX13_choices_b21 S τ1
  else
    bd0 (fX13_isLapsed S τ1 x0 x1) fun v3 =>
    if v3 = 0 then
      bd0 (loopN (fX13_choices_L27 S τ1 x0 x1) 1000 ((0 : Int32), (1 : Int32))) (fun v5 => some (v5, τ1))
    else
      fX13_choices_b21 S τ1
def fX13_playOf_L30 (S : Nat → Nat × Nat) (x0 : Nat) (x1 : Int32) (x2 : Int32) : (Int32 × mm) → Option ((Int32 × mm) ⊕ (mm ⊕ mm ⊕ mm)) :=
  un2 fun x3 σ =>
  if x3 < x2 then
      some (.inr (.inr (.inr σ)))
    else
      wI σ x0 29 x3 fun τ1 =>
      gR τ1 x0 14 fun r2 =>
      ldI S τ1 r2 ((60 : Int32) + x1) fun v3 =>
      bd0 (fX13_isWilling S τ1 x0 v3 x3) fun v4 =>
      if v4 = 0 then
        gR τ1 x0 14 fun r5 =>
        ldI S τ1 r5 ((56 : Int32) + x1) fun v6 =>
        bd0 (fX13_isWilling S τ1 x0 v6 x3) fun v7 =>
        if v7 = 0 then
          nm (x3 + (-1 : Int32)) fun v8 =>
          some (.inl (v8, τ1))
        else
          some (.inr (.inr (.inl τ1)))
      else
        some (.inr (.inl τ1))
def fX13_playOf (S : Nat → Nat × Nat) (σ : mm) (x0 : Nat) (x1 : Int32) : Option (Int32 × mm) :=
  bd0 (fX13_endOf S σ x0 x1) fun v1 =>
  if ¬ v1 = (-1 : Int32) then
    gR σ x0 14 fun r2 =>
    ldI S σ r2 (3 : Int32) fun v3 =>
    bd0 (fX13_least S σ (600 : Int32) (v1 + v3)) fun v4 =>
    nm (v4 - (1 : Int32)) fun v5 =>
    bd0 (loopN (fX13_playOf_L30 S x0 x1 v1) 1000 (v5, σ)) (cs3 (fun τ7 => gR τ7 x0 14 fun r8 =>
      ldI S τ7 r8 ((60 : Int32) + x1) fun v9 =>
      some (v9, τ7)) (fun τ10 => gR τ10 x0 14 fun r11 =>
      ldI S τ10 r11 ((56 : Int32) + x1) fun v12 =>
      some (v12, τ10)) (fun τ13 => some ((-1 : Int32), τ13)))
  else
    some ((-1 : Int32), σ)
def fX13_play (S : Nat → Nat × Nat) (σ : mm) (x0 : Nat) (x1 : Int32) : Option (Int32 × mm) :=
  wI σ x0 0 (0 : Int32) fun τ1 =>
  bd2 (fX13_playOf S τ1 x0 x1) fun v2 τ3 =>
  some (v2, τ3)
def fX13_playAt_b22 (S : Nat → Nat × Nat) (σ : mm)  (s0 : Int32) : Option (Int32 × mm) :=
  some (s0, σ)
def fX13_playAt (S : Nat → Nat × Nat) (σ : mm) (x0 : Nat) (x1 : Int32) : Option (Int32 × mm) :=
  wI σ x0 0 (0 : Int32) fun τ1 =>
  bd2 (fX13_playOf S τ1 x0 x1) fun v2 τ3 =>
  if ¬ v2 = (-1 : Int32) then
    fX13_playAt_b22 S τ3 (τ3.1 x0 29)
  else
    fX13_playAt_b22 S τ3 (-1 : Int32)
def fX13_steal_b39 (S : Nat → Nat × Nat) (σ : mm)   : Option (Int32 × mm) :=
  some ((-1 : Int32), σ)
def fX13_steal_L86 (S : Nat → Nat × Nat) (x0 : Nat) (x1 : Int32) (x2 : Int32) (x3 : Int32) (x4 : Int32) (x5 : Int32) : mm → Option (mm ⊕ mm) :=
  fun σ => gR σ x0 14 fun r1 =>
    ldI S σ r1 (102 : Int32) fun v2 =>
    if x2 ≤ v2 then
      some (.inr σ)
    else
      bd0 (fX13_isLapsed S σ x0 x1) fun v3 =>
      if ¬ v3 = 0 then
        some (.inr σ)
      else
        bd0 (fX13_oneHour S σ x0) fun τ4 =>
        some (.inl τ4)
def fX13_steal_b124 (S : Nat → Nat × Nat) (σ : mm) (x0 : Nat) (x1 : Int32) (x2 : Int32) (x3 : Int32) (x4 : Int32) (x5 : Int32)  : Option ((Int32 × Int32 × mm) ⊕ (Int32 × mm)) :=
  bd0 (fX13_takeBack S σ x0) fun τ1 =>
  nm (x5 + (1 : Int32)) fun v2 =>
  some (.inl (x4, v2, τ1))
def fX13_steal_b112 (S : Nat → Nat × Nat) (σ : mm) (x0 : Nat) (x1 : Int32) (x2 : Int32) (x3 : Int32) (x4 : Int32) (x5 : Int32)  : Option ((Int32 × Int32 × mm) ⊕ (Int32 × mm)) :=
  bd0 (fX13_isLapsed S σ x0 x1) fun v1 =>
  if v1 = 0 then
    fX13_steal_b124 S σ x0 x1 x2 x3 x4 x5
  else
    fX13_steal_b124 S σ x0 x1 x2 x3 x5 x5
def fX13_steal_L61 (S : Nat → Nat × Nat) (x0 : Nat) (x1 : Int32) (x2 : Int32) (x3 : Int32) : (Int32 × Int32 × mm) → Option ((Int32 × Int32 × mm) ⊕ (Int32 × mm)) :=
  un3 fun x4 x5 σ =>
  if x3 < x5 then
      some (.inr (x4, σ))
    else
      if ¬ x4 = (-1 : Int32) then
        some (.inr (x4, σ))
      else
        gR σ x0 14 fun r1 =>
        stI S σ r1 ((125 : Int32) + x1) (x3 - x5) fun τ2 =>
        bd0 (loopN (fX13_steal_L86 S x0 x1 x2 x3 x4 x5) 1000 τ2) (fun τ4 => fX13_steal_b112 S τ4 x0 x1 x2 x3 x4 x5)
def fX13_steal_b134 (S : Nat → Nat × Nat) (σ : mm) (x4 : Int32)  : Option (Int32 × mm) :=
  some (x4, σ)
def fX13_steal (S : Nat → Nat × Nat) (σ : mm) (x0 : Nat) (x1 : Int32) (x2 : Int32) : Option (Int32 × mm) :=
  wI σ x0 0 (0 : Int32) fun τ1 =>
  bd0 (fX13_isGlass S τ1 x0 x1) fun v2 =>
  if v2 = 0 then
    fX13_steal_b39 S τ1
  else
    bd0 (fX13_isLapsed S τ1 x0 x1) fun v3 =>
    if ¬ v3 = 0 then
      fX13_steal_b39 S τ1
    else
      gR τ1 x0 14 fun r4 =>
      ldI S τ1 r4 (102 : Int32) fun v5 =>
      if x2 ≤ v5 then
        fX13_steal_b39 S τ1
      else
        if x2 ≤ (600 : Int32) then
          bd0 (fX13_layAside S τ1 x0) fun τ6 =>
          gR τ6 x0 14 fun r7 =>
          ldI S τ6 r7 ((125 : Int32) + x1) fun v8 =>
          bd0 (loopN (fX13_steal_L61 S x0 x1 x2 v8) 1000 ((-1 : Int32), (0 : Int32), τ6)) (un2 fun v10 τ11 => fX13_steal_b134 S τ11 v10)
        else
          fX13_steal_b39 S τ1
def fX13_law_b43 (S : Nat → Nat × Nat) (σ : mm)   : Option (Int32 × mm) :=
  some ((-1 : Int32), σ)
def fX13_law_b105 (S : Nat → Nat × Nat) (σ : mm) (x0 : Nat) (x1 : Int32) (x2 : Int32) (x3 : Int32) (x4 : Int32) (x5 : Int32)  : Option ((Int32 × Int32 × mm) ⊕ (Int32 × mm)) :=
  bd0 (fX13_takeBack S σ x0) fun τ1 =>
  nm (x5 + (1 : Int32)) fun v2 =>
  some (.inl (x4, v2, τ1))
def fX13_law_L62 (S : Nat → Nat × Nat) (x0 : Nat) (x1 : Int32) (x2 : Int32) (x3 : Int32) : (Int32 × Int32 × mm) → Option ((Int32 × Int32 × mm) ⊕ (Int32 × mm)) :=
  un3 fun x4 x5 σ =>
  if (9 : Int32) < x5 then
      some (.inr (x4, σ))
    else
      if ¬ x4 = (-1 : Int32) then
        some (.inr (x4, σ))
      else
        gR σ x0 14 fun r1 =>
        stI S σ r1 (3 : Int32) x5 fun τ2 =>
        bd2 (fX13_passHours S τ2 x0 x2) fun v3 τ4 =>
        gR τ4 x0 14 fun r5 =>
        ldI S τ4 r5 (104 : Int32) fun v6 =>
        if ¬ (x1 &&& v6) = 0 then
          fX13_law_b105 S τ4 x0 x1 x2 x3 x4 x5
        else
          fX13_law_b105 S τ4 x0 x1 x2 x3 x5 x5
def fX13_law_b115 (S : Nat → Nat × Nat) (σ : mm) (x0 : Nat) (x3 : Int32) (x4 : Int32)  : Option (Int32 × mm) :=
  gR σ x0 14 fun r1 =>
  stI S σ r1 (3 : Int32) x3 fun τ2 =>
  some (x4, τ2)
def fX13_law (S : Nat → Nat × Nat) (σ : mm) (x0 : Nat) (x1 : Int32) (x2 : Int32) : Option (Int32 × mm) :=
  wI σ x0 0 (0 : Int32) fun τ1 =>
  if x1 < 0 then
    fX13_law_b43 S τ1
  else
    gR τ1 x0 14 fun r2 =>
    ldI S τ1 r2 (1 : Int32) fun v3 =>
    if ((1 : Int32) <<< (v3 &&& 31)) ≤ x1 then
      fX13_law_b43 S τ1
    else
      gR τ1 x0 14 fun r4 =>
      ldI S τ1 r4 (104 : Int32) fun v5 =>
      if ¬ (x1 &&& v5) = 0 then
        fX13_law_b43 S τ1
      else
        bd0 (fX13_isIn S τ1 x2 (1 : Int32) (60 : Int32)) fun v6 =>
        if ¬ v6 = 0 then
          gR τ1 x0 14 fun r7 =>
          ldI S τ1 r7 (3 : Int32) fun v8 =>
          bd0 (fX13_layAside S τ1 x0) fun τ9 =>
          bd0 (loopN (fX13_law_L62 S x0 x1 x2 v8) 1000 ((-1 : Int32), (1 : Int32), τ9)) (un2 fun v11 τ12 => fX13_law_b115 S τ12 x0 v8 v11)
        else
          fX13_law_b43 S τ1
def fX13_partsOf_b129 (S : Nat → Nat × Nat) (σ : mm) (x0 : Nat) (x1 : Int32) (x2 : Int32) (x3 : Int32) (x4 : Int32) (x5 : Int32) (x6 : Int32) (x7 : Int32)  : Option ((Int32 × Int32 × Int32 × Int32) ⊕ (Int32 × Int32 × Int32)) :=
  nm (x7 + (1 : Int32)) fun v1 =>
  some (.inl (x4, x5, x6, v1))
def fX13_partsOf_b86 (S : Nat → Nat × Nat) (σ : mm) (x0 : Nat) (x1 : Int32) (x2 : Int32) (x3 : Int32) (x4 : Int32) (x5 : Int32) (x7 : Int32) (s0 : Int32) : Option ((Int32 × Int32 × Int32 × Int32) ⊕ (Int32 × Int32 × Int32)) :=
  fX13_partsOf_b129 S σ x0 x1 x2 x3 x4 x5 s0 x7
def fX13_partsOf_b85 (S : Nat → Nat × Nat) (σ : mm) (x0 : Nat) (x1 : Int32) (x2 : Int32) (x3 : Int32) (x4 : Int32) (x5 : Int32) (x7 : Int32)  : Option ((Int32 × Int32 × Int32 × Int32) ⊕ (Int32 × Int32 × Int32)) :=
  fX13_partsOf_b86 S σ x0 x1 x2 x3 x4 x5 x7 (0 : Int32)
def fX13_partsOf_L38 (S : Nat → Nat × Nat) (σ : mm) (x0 : Nat) (x1 : Int32) (x2 : Int32) (x3 : Int32) : (Int32 × Int32 × Int32 × Int32) → Option ((Int32 × Int32 × Int32 × Int32) ⊕ (Int32 × Int32 × Int32)) :=
  un4 fun x4 x5 x6 x7 =>
  gR σ x0 14 fun r1 =>
    ldI S σ r1 (2 : Int32) fun v2 =>
    if v2 ≤ x7 then
      some (.inr (x4, x5, x6))
    else
      bd0 (fX13_has S σ x3 x7) fun v3 =>
      gR σ x0 14 fun r4 =>
      ldI S σ r4 ((84 : Int32) + x7) fun v5 =>
      if v5 = x1 then
        if v3 = 0 then
          gR σ x0 14 fun r6 =>
          ldI S σ r6 ((96 : Int32) + x7) fun v7 =>
          nm (x5 + v7) fun v8 =>
          fX13_partsOf_b129 S σ x0 x1 x2 x3 x4 v8 x6 x7
        else
          gR σ x0 14 fun r9 =>
          ldI S σ r9 ((90 : Int32) + x7) fun v10 =>
          nm (x4 + v10) fun v11 =>
          fX13_partsOf_b129 S σ x0 x1 x2 x3 v11 x5 x6 x7
      else
        if x6 = 0 then
          fX13_partsOf_b85 S σ x0 x1 x2 x3 x4 x5 x7
        else
          if ¬ v3 = 0 then
            fX13_partsOf_b85 S σ x0 x1 x2 x3 x4 x5 x7
          else
            fX13_partsOf_b86 S σ x0 x1 x2 x3 x4 x5 x7 (1 : Int32)
def fX13_partsOf_b167 (S : Nat → Nat × Nat) (σ : mm) (x0 : Nat) (x1 : Int32) (x2 : Int32) (x3 : Int32)  : Option ((Int32 × Int32 × mm) ⊕ (Int32 × mm)) :=
  nm (x3 + (1 : Int32)) fun v1 =>
  some (.inl (x2, v1, σ))
def fX13_partsOf_L14 (S : Nat → Nat × Nat) (x0 : Nat) (x1 : Int32) : (Int32 × Int32 × mm) → Option ((Int32 × Int32 × mm) ⊕ (Int32 × mm)) :=
  un3 fun x2 x3 σ =>
  gR σ x0 14 fun r1 =>
    ldI S σ r1 (2 : Int32) fun v2 =>
    if ((1 : Int32) <<< (v2 &&& 31)) ≤ x3 then
      some (.inr (x2, σ))
    else
      bd0 (loopN (fX13_partsOf_L38 S σ x0 x1 x2 x3) 1000 ((0 : Int32), (0 : Int32), (1 : Int32), (0 : Int32))) (un3 fun v4 v5 v6 => if v6 = 0 then
        fX13_partsOf_b167 S σ x0 x1 x2 x3
      else
        bd0 (fX13_least S σ v4 v5) fun v7 =>
        if x2 < v7 then
          bd0 (fX13_least S σ v4 v5) fun v8 =>
          wI σ x0 30 x3 fun τ9 =>
          fX13_partsOf_b167 S τ9 x0 x1 v8 x3
        else
          fX13_partsOf_b167 S σ x0 x1 x2 x3)
def fX13_partsOf (S : Nat → Nat × Nat) (σ : mm) (x0 : Nat) (x1 : Int32) : Option (Int32 × mm) :=
  bd0 (fX13_isGlass S σ x0 x1) fun v1 =>
  if ¬ v1 = 0 then
    bd0 (loopN (fX13_partsOf_L14 S x0 x1) 1000 ((-1 : Int32), (0 : Int32), σ)) (un2 fun v3 τ4 => some (v3, τ4))
  else
    some ((-1 : Int32), σ)
def fX13_parts (S : Nat → Nat × Nat) (σ : mm) (x0 : Nat) (x1 : Int32) : Option (Int32 × mm) :=
  wI σ x0 0 (0 : Int32) fun τ1 =>
  bd2 (fX13_partsOf S τ1 x0 x1) fun v2 τ3 =>
  some (v2, τ3)
def fX13_parted_b22 (S : Nat → Nat × Nat) (σ : mm)  (s0 : Int32) : Option (Int32 × mm) :=
  some (s0, σ)
def fX13_parted (S : Nat → Nat × Nat) (σ : mm) (x0 : Nat) (x1 : Int32) : Option (Int32 × mm) :=
  wI σ x0 0 (0 : Int32) fun τ1 =>
  bd2 (fX13_partsOf S τ1 x0 x1) fun v2 τ3 =>
  if ¬ v2 = (-1 : Int32) then
    fX13_parted_b22 S τ3 (τ3.1 x0 30)
  else
    fX13_parted_b22 S τ3 (-1 : Int32)
def fX13_good (S : Nat → Nat × Nat) (σ : mm) (x0 : Nat) (x1 : Int32) (x2 : Int32) : Option (Int32 × mm) :=
  wI σ x0 0 (0 : Int32) fun τ1 =>
  gR τ1 x0 14 fun r2 =>
  ldI S τ1 r2 (2 : Int32) fun v3 =>
  bd0 (fX13_isIn S τ1 x1 (0 : Int32) (v3 - (1 : Int32))) fun v4 =>
  if ¬ v4 = 0 then
    if x2 = (0 : Int32) then
      gR τ1 x0 14 fun r5 =>
      ldI S τ1 r5 ((84 : Int32) + x1) fun v6 =>
      some (v6, τ1)
    else if x2 = (1 : Int32) then
      gR τ1 x0 14 fun r7 =>
      ldI S τ1 r7 ((90 : Int32) + x1) fun v8 =>
      some (v8, τ1)
    else if x2 = (2 : Int32) then
      gR τ1 x0 14 fun r9 =>
      ldI S τ1 r9 ((96 : Int32) + x1) fun v10 =>
      some (v10, τ1)
    else some ((-1 : Int32), τ1)
  else
    some ((-1 : Int32), τ1)
def fX13_rings_b31 (S : Nat → Nat × Nat) (σ : mm)   : Option (Int32 × mm) :=
  some ((-1 : Int32), σ)
def fX13_rings_L78 (S : Nat → Nat × Nat) (σ : mm) (x0 : Nat) (x1 : Int32) (x3 : Int32) (x4 : Int32) : (Int32 × Int32) → Option ((Int32 × Int32) ⊕ Int32) :=
  un2 fun x5 x6 =>
  gR σ x0 14 fun r1 =>
    ldI S σ r1 (102 : Int32) fun v2 =>
    if v2 ≤ x6 then
      some (.inr x5)
    else
      bd0 (fX13_runs S σ x0 x1 x6) fun v3 =>
      bd0 (fX13_least S σ x5 v3) fun v4 =>
      nm (x5 - v4) fun v5 =>
      nm (x6 + (1 : Int32)) fun v6 =>
      some (.inl (v5, v6))
def fX13_rings_b131 (S : Nat → Nat × Nat) (σ : mm) (x0 : Nat) (x1 : Int32) (x3 : Int32) (x4 : Int32)  : Option ((Int32 × Int32) ⊕ Int32) :=
  nm (x4 + (1 : Int32)) fun v1 =>
  some (.inl (x3, v1))
def fX13_rings_L38 (S : Nat → Nat × Nat) (σ : mm) (x0 : Nat) (x1 : Int32) : (Int32 × Int32) → Option ((Int32 × Int32) ⊕ Int32) :=
  un2 fun x3 x4 =>
  gR σ x0 14 fun r1 =>
    ldI S σ r1 (102 : Int32) fun v2 =>
    bd0 (fX13_least S σ (24 : Int32) v2) fun v3 =>
    if v3 < x4 then
      some (.inr x3)
    else
      gR σ x0 14 fun r4 =>
      ldI S σ r4 ((64 : Int32) + x1) fun v5 =>
      gR σ x0 14 fun r6 =>
      ldI S σ r6 (102 : Int32) fun v7 =>
      nm (v7 - x4) fun v8 =>
      bd0 (loopN (fX13_rings_L78 S σ x0 x1 x3 x4) 1000 (v5, v8)) (fun v10 => gR σ x0 1 fun r11 =>
      ldI S σ r11 (0 : Int32) fun v12 =>
      if ¬ v10 = v12 then
        fX13_rings_b131 S σ x0 x1 x3 x4
      else
        nm (x3 ||| ((1 : Int32) <<< (x4 &&& 31))) fun v13 =>
        fX13_rings_b131 S σ x0 x1 v13 x4)
def fX13_rings (S : Nat → Nat × Nat) (σ : mm) (x0 : Nat) (x1 : Int32) : Option (Int32 × mm) :=
  wI σ x0 0 (0 : Int32) fun τ1 =>
  bd2 (fX13_take S τ1 x0) fun v2 τ3 =>
  if ¬ v2 = (1 : Int32) then
    fX13_rings_b31 S τ3
  else
    bd0 (fX13_isGlass S τ3 x0 x1) fun v4 =>
    if v4 = 0 then
      fX13_rings_b31 S τ3
    else
      bd0 (fX13_isLapsed S τ3 x0 x1) fun v5 =>
      if v5 = 0 then
        bd0 (loopN (fX13_rings_L38 S τ3 x0 x1) 1000 ((0 : Int32), (0 : Int32))) (fun v7 => some (v7, τ3))
      else
        fX13_rings_b31 S τ3
def fX13_together_b23 (S : Nat → Nat × Nat) (σ : mm)   : Option (Int32 × mm) :=
  some ((-1 : Int32), σ)
def fX13_together_b95 (S : Nat → Nat × Nat) (σ : mm) (x0 : Nat) (x1 : Int32) (x2 : Int32) (x3 : Int32) (x4 : Int32)  : Option ((Int32 × Int32) ⊕ Int32) :=
  nm (x4 + (1 : Int32)) fun v1 =>
  some (.inl (x3, v1))
def fX13_together_L36 (S : Nat → Nat × Nat) (σ : mm) (x0 : Nat) (x1 : Int32) (x2 : Int32) : (Int32 × Int32) → Option ((Int32 × Int32) ⊕ Int32) :=
  un2 fun x3 x4 =>
  gR σ x0 14 fun r1 =>
    ldI S σ r1 (102 : Int32) fun v2 =>
    bd0 (fX13_least S σ (600 : Int32) (v2 + x2)) fun v3 =>
    if v3 ≤ x4 then
      some (.inr x3)
    else
      gR σ x0 14 fun r4 =>
      ldI S σ r4 ((56 : Int32) + x1) fun v5 =>
      bd0 (fX13_isUp S σ x0 v5 x4) fun v6 =>
      if v6 = 0 then
        fX13_together_b95 S σ x0 x1 x2 x3 x4
      else
        gR σ x0 14 fun r7 =>
        ldI S σ r7 ((60 : Int32) + x1) fun v8 =>
        bd0 (fX13_isUp S σ x0 v8 x4) fun v9 =>
        if v9 = 0 then
          fX13_together_b95 S σ x0 x1 x2 x3 x4
        else
          nm (x3 + (1 : Int32)) fun v10 =>
          fX13_together_b95 S σ x0 x1 x2 v10 x4
def fX13_together (S : Nat → Nat × Nat) (σ : mm) (x0 : Nat) (x1 : Int32) (x2 : Int32) : Option (Int32 × mm) :=
  wI σ x0 0 (0 : Int32) fun τ1 =>
  bd0 (fX13_isGlass S τ1 x0 x1) fun v2 =>
  if v2 = 0 then
    fX13_together_b23 S τ1
  else
    bd0 (fX13_isIn S τ1 x2 (1 : Int32) (60 : Int32)) fun v3 =>
    if ¬ v3 = 0 then
      gR τ1 x0 14 fun r4 =>
      ldI S τ1 r4 (102 : Int32) fun v5 =>
      bd0 (loopN (fX13_together_L36 S τ1 x0 x1 x2) 1000 ((0 : Int32), v5)) (fun v7 => some (v7, τ1))
    else
      fX13_together_b23 S τ1
def fX13_write (S : Nat → Nat × Nat) (σ : mm) (x0 : Nat) (x1 : Int32) : Option mm :=
  gR σ x0 31 fun r1 =>
  stI S σ r1 (σ.1 x0 32) x1 fun τ2 =>
  wI τ2 x0 32 ((τ2.1 x0 32) + (1 : Int32)) fun τ3 =>
  some τ3
def fX13_writeWord_b17 (F : Nat → mm → Nat → Int64 → Option mm) (S : Nat → Nat × Nat) (σ : mm) (x0 : Nat) (x1 : Int64)  : Option mm :=
  bd0 (fX13_write S σ x0 ((96 : Int32) + ((x1 - x1 / (27 : Int64) * (27 : Int64)).toInt32))) fun τ1 =>
  some τ1
def fX13_writeWord (F : Nat → mm → Nat → Int64 → Option mm) (S : Nat → Nat × Nat) (σ : mm) (x0 : Nat) (x1 : Int64) : Option mm :=
  if (lg_cmp x1 (27 : Int64)) < 0 then
    fX13_writeWord_b17 F S σ x0 x1
  else
    bd0 (F 0 σ x0 (x1 / (27 : Int64))) fun τ1 =>
    fX13_writeWord_b17 F S τ1 x0 x1
def gX13_writeWord (S : Nat → Nat × Nat) : Nat → Nat → mm → Nat → Int64 → Option mm
  | 0 => fun _ _ _ _ => none
  | n + 1 => fun i σ x0 x1 => match i with
    | _ => fX13_writeWord (gX13_writeWord S n) S σ x0 x1
def fX13_writeNumber_b14 (F : Nat → mm → Nat → Int32 → Option mm) (S : Nat → Nat × Nat) (σ : mm) (x0 : Nat) (x1 : Int32)  : Option mm :=
  bd0 (fX13_write S σ x0 ((48 : Int32) + (x1 - x1 / (10 : Int32) * (10 : Int32)))) fun τ1 =>
  some τ1
def fX13_writeNumber (F : Nat → mm → Nat → Int32 → Option mm) (S : Nat → Nat × Nat) (σ : mm) (x0 : Nat) (x1 : Int32) : Option mm :=
  if x1 ≤ (9 : Int32) then
    fX13_writeNumber_b14 F S σ x0 x1
  else
    bd0 (F 0 σ x0 (x1 / (10 : Int32))) fun τ1 =>
    fX13_writeNumber_b14 F S τ1 x0 x1
def gX13_writeNumber (S : Nat → Nat × Nat) : Nat → Nat → mm → Nat → Int32 → Option mm
  | 0 => fun _ _ _ _ => none
  | n + 1 => fun i σ x0 x1 => match i with
    | _ => fX13_writeNumber (gX13_writeNumber S n) S σ x0 x1
def fX13_banns_b191 (S : Nat → Nat × Nat) (σ : mm) (x0 : Nat)  : Option (Int32 × mm) :=
  some ((σ.1 x0 32), σ)
def fX13_banns (S : Nat → Nat × Nat) (σ : mm) (x0 : Nat) (x1 : Int32) : Option (Int32 × mm) :=
  wI σ x0 0 (0 : Int32) fun τ1 =>
  bd0 (fX13_isGlass S τ1 x0 x1) fun v2 =>
  if ¬ v2 = 0 then
    wI τ1 x0 32 (0 : Int32) fun τ3 =>
    gR τ3 x0 19 fun r4 =>
    gR τ3 x0 14 fun r5 =>
    ldI S τ3 r5 ((56 : Int32) + x1) fun v6 =>
    ldL S τ3 r4 v6 fun v7 =>
    bd0 (gX13_writeWord S 100 0 τ3 x0 v7) fun τ8 =>
    bd0 (fX13_write S τ8 x0 (32 : Int32)) fun τ9 =>
    bd0 (fX13_wordOf S τ9 (18 : Int32)) fun v10 =>
    bd0 (gX13_writeWord S 100 0 τ9 x0 v10) fun τ11 =>
    bd0 (fX13_write S τ11 x0 (32 : Int32)) fun τ12 =>
    gR τ12 x0 19 fun r13 =>
    gR τ12 x0 14 fun r14 =>
    ldI S τ12 r14 ((60 : Int32) + x1) fun v15 =>
    ldL S τ12 r13 v15 fun v16 =>
    bd0 (gX13_writeWord S 100 0 τ12 x0 v16) fun τ17 =>
    bd0 (fX13_write S τ17 x0 (32 : Int32)) fun τ18 =>
    bd0 (fX13_isLapsed S τ18 x0 x1) fun v19 =>
    if v19 = 0 then
      bd0 (fX13_spelt S τ18 (102 : Int32) (111 : Int32) (114 : Int32) (0 : Int32) (0 : Int32) (0 : Int32)) fun v20 =>
      bd0 (gX13_writeWord S 100 0 τ18 x0 v20) fun τ21 =>
      bd0 (fX13_write S τ21 x0 (32 : Int32)) fun τ22 =>
      bd0 (fX13_endOf S τ22 x0 x1) fun v23 =>
      if ¬ v23 = (-1 : Int32) then
        gR τ22 x0 14 fun r24 =>
        ldI S τ22 r24 (102 : Int32) fun v25 =>
        bd0 (gX13_writeNumber S 100 0 τ22 x0 (v23 - v25)) fun τ26 =>
        fX13_banns_b191 S τ26 x0
      else
        bd0 (fX13_wordOf S τ22 (5 : Int32)) fun v27 =>
        bd0 (gX13_writeWord S 100 0 τ22 x0 v27) fun τ28 =>
        fX13_banns_b191 S τ28 x0
    else
      bd0 (fX13_spelt S τ18 (110 : Int32) (111 : Int32) (0 : Int32) (0 : Int32) (0 : Int32) (0 : Int32)) fun v29 =>
      bd0 (gX13_writeWord S 100 0 τ18 x0 v29) fun τ30 =>
      bd0 (fX13_write S τ30 x0 (32 : Int32)) fun τ31 =>
      bd0 (fX13_spelt S τ31 (109 : Int32) (111 : Int32) (114 : Int32) (101 : Int32) (0 : Int32) (0 : Int32)) fun v32 =>
      bd0 (gX13_writeWord S 100 0 τ31 x0 v32) fun τ33 =>
      some ((τ33.1 x0 32), τ33)
  else
    some ((-1 : Int32), τ1)
def fX13_byteAt_b29 (S : Nat → Nat × Nat) (σ : mm)  (s0 : Int32) : Option (Int32 × mm) :=
  some (s0, σ)
def fX13_byteAt (S : Nat → Nat × Nat) (σ : mm) (x0 : Nat) (x1 : Int32) : Option (Int32 × mm) :=
  wI σ x0 0 (0 : Int32) fun τ1 =>
  bd0 (fX13_isIn S τ1 x1 (0 : Int32) ((τ1.1 x0 32) - (1 : Int32))) fun v2 =>
  if v2 = 0 then
    fX13_byteAt_b29 S τ1 (-1 : Int32)
  else
    gR τ1 x0 31 fun r3 =>
    ldI S τ1 r3 x1 fun v4 =>
    fX13_byteAt_b29 S τ1 v4
def fX13_draw (S : Nat → Nat × Nat) (σ : mm) (x0 : Nat) (x1 : Int32) : Option (Int32 × mm) :=
  wI σ x0 33 (((σ.1 x0 33) * (1103515245 : Int32)) + (12345 : Int32)) fun τ1 =>
  nz x1 (some (((((τ1.1 x0 33).toUInt32 >>> ((8 : Int32).toUInt32 &&& Int32.toUInt32 31)).toInt32) - (((τ1.1 x0 33).toUInt32 >>> ((8 : Int32).toUInt32 &&& Int32.toUInt32 31)).toInt32) / x1 * x1), τ1))
def fX13_tryTo_b17 (S : Nat → Nat × Nat) (σ : mm)   : Option mm :=
  some σ
def fX13_tryTo (S : Nat → Nat × Nat) (σ : mm) (x0 : Nat) (x1 : Int32) (x2 : Int32) (x3 : Int32) : Option mm :=
  bd0 (fX13_why S σ x0 x1 x2 x3) fun v1 =>
  if ¬ v1 = 0 then
    fX13_tryTo_b17 S σ
  else
    bd0 (fX13_live S σ x0 x1 x2 x3) fun τ2 =>
    fX13_tryTo_b17 S τ2
def fX13_drawHours_b106 (S : Nat → Nat × Nat) (σ : mm) (x0 : Nat) (x3 : Int32) (x4 : Int32) (x5 : Int32)  : Option ((Int32 × mm) ⊕ mm) :=
  nm (x5 + (1 : Int32)) fun v1 =>
  some (.inl (v1, σ))
def fX13_drawHours_L33 (S : Nat → Nat × Nat) (x0 : Nat) (x3 : Int32) (x4 : Int32) : (Int32 × mm) → Option ((Int32 × mm) ⊕ mm) :=
  un2 fun x5 σ =>
  gR σ x0 14 fun r1 =>
    ldI S σ r1 (0 : Int32) fun v2 =>
    if v2 ≤ x5 then
      some (.inr σ)
    else
      bd2 (fX13_draw S σ x0 (12 : Int32)) fun v3 τ4 =>
      if ¬ v3 = 0 then
        if ¬ v3 = (1 : Int32) then
          if ¬ v3 = (2 : Int32) then
            fX13_drawHours_b106 S τ4 x0 x3 x4 x5
          else
            bd0 (fX13_tryTo S τ4 x0 (1 : Int32) x5 (0 : Int32)) fun τ5 =>
            fX13_drawHours_b106 S τ5 x0 x3 x4 x5
        else
          bd0 (fX13_tryTo S τ4 x0 (0 : Int32) x5 (0 : Int32)) fun τ6 =>
          fX13_drawHours_b106 S τ6 x0 x3 x4 x5
      else
        bd2 (fX13_draw S τ4 x0 (10 : Int32)) fun v7 τ8 =>
        bd0 (fX13_tryTo S τ8 x0 (2 : Int32) x5 ((1 : Int32) + v7)) fun τ9 =>
        fX13_drawHours_b106 S τ9 x0 x3 x4 x5
def fX13_drawHours_b150 (S : Nat → Nat × Nat) (σ : mm) (x0 : Nat) (x3 : Int32) (x4 : Int32) (x5 : Int32)  : Option ((Int32 × mm) ⊕ mm) :=
  nm (x5 + (1 : Int32)) fun v1 =>
  some (.inl (v1, σ))
def fX13_drawHours_L115 (S : Nat → Nat × Nat) (x0 : Nat) (x3 : Int32) (x4 : Int32) : (Int32 × mm) → Option ((Int32 × mm) ⊕ mm) :=
  un2 fun x5 σ =>
  gR σ x0 14 fun r1 =>
    ldI S σ r1 (1 : Int32) fun v2 =>
    if v2 ≤ x5 then
      some (.inr σ)
    else
      bd2 (fX13_draw S σ x0 (30 : Int32)) fun v3 τ4 =>
      if ¬ v3 = 0 then
        fX13_drawHours_b150 S τ4 x0 x3 x4 x5
      else
        bd2 (fX13_draw S τ4 x0 (20 : Int32)) fun v5 τ6 =>
        bd0 (fX13_tryTo S τ6 x0 (5 : Int32) x5 ((1 : Int32) + v5)) fun τ7 =>
        fX13_drawHours_b150 S τ7 x0 x3 x4 x5
def fX13_drawHours_L24 (S : Nat → Nat × Nat) (x0 : Nat) (x3 : Int32) : (Int32 × mm) → Option ((Int32 × mm) ⊕ mm) :=
  un2 fun x4 σ =>
  if x3 ≤ x4 then
      some (.inr σ)
    else
      bd0 (loopN (fX13_drawHours_L33 S x0 x3 x4) 1000 ((0 : Int32), σ)) (fun τ2 => bd0 (loopN (fX13_drawHours_L115 S x0 x3 x4) 1000 ((0 : Int32), τ2)) (fun τ4 => bd0 (fX13_oneHour S τ4 x0) fun τ5 =>
      nm (x4 + (1 : Int32)) fun v6 =>
      some (.inl (v6, τ5))))
def fX13_drawHours (S : Nat → Nat × Nat) (σ : mm) (x0 : Nat) (x1 : Int32) (x2 : Int32) : Option (Int32 × mm) :=
  wI σ x0 33 x2 fun τ1 =>
  gR τ1 x0 14 fun r2 =>
  ldI S τ1 r2 (102 : Int32) fun v3 =>
  bd0 (fX13_least S τ1 x1 ((600 : Int32) - v3)) fun v4 =>
  bd0 (loopN (fX13_drawHours_L24 S x0 v4) 1000 ((0 : Int32), τ1)) (fun τ6 => some (v4, τ6))
def fX13_drawn_b24 (S : Nat → Nat × Nat) (σ : mm)   : Option (Int32 × mm) :=
  some ((-1 : Int32), σ)
def fX13_drawn (S : Nat → Nat × Nat) (σ : mm) (x0 : Nat) (x1 : Int32) (x2 : Int32) : Option (Int32 × mm) :=
  wI σ x0 0 (0 : Int32) fun τ1 =>
  bd0 (fX13_isIn S τ1 x1 (1 : Int32) (60 : Int32)) fun v2 =>
  if v2 = 0 then
    fX13_drawn_b24 S τ1
  else
    gR τ1 x0 14 fun r3 =>
    ldI S τ1 r3 (0 : Int32) fun v4 =>
    if ¬ v4 = 0 then
      gR τ1 x0 14 fun r5 =>
      ldI S τ1 r5 (102 : Int32) fun v6 =>
      if ¬ v6 = (600 : Int32) then
        bd0 (fX13_snap S τ1 x0) fun τ7 =>
        bd2 (fX13_drawHours S τ7 x0 x1 x2) fun v8 τ9 =>
        some (v8, τ9)
      else
        some ((0 : Int32), τ1)
    else
      fX13_drawn_b24 S τ1
def fX13_odds_b23 (S : Nat → Nat × Nat) (σ : mm)   : Option (Int32 × mm) :=
  some ((-1 : Int32), σ)
def fX13_odds_b63 (S : Nat → Nat × Nat) (σ : mm) (x0 : Nat) (x1 : Int32) (x2 : Int32) (x3 : Int32) (x4 : Int32) (x5 : Int32)  : Option ((Int32 × Int32 × mm) ⊕ (Int32 × mm)) :=
  bd0 (fX13_takeBack S σ x0) fun τ1 =>
  nm (x5 + (1 : Int32)) fun v2 =>
  some (.inl (x4, v2, τ1))
def fX13_odds_L35 (S : Nat → Nat × Nat) (x0 : Nat) (x1 : Int32) (x2 : Int32) (x3 : Int32) : (Int32 × Int32 × mm) → Option ((Int32 × Int32 × mm) ⊕ (Int32 × mm)) :=
  un3 fun x4 x5 σ =>
  if x2 ≤ x5 then
      some (.inr (x4, σ))
    else
      bd2 (fX13_drawHours S σ x0 (48 : Int32) (x3 + x5)) fun v1 τ2 =>
      bd0 (fX13_isLapsed S τ2 x0 x1) fun v3 =>
      if ¬ v3 = 0 then
        fX13_odds_b63 S τ2 x0 x1 x2 x3 x4 x5
      else
        nm (x4 + (1 : Int32)) fun v4 =>
        fX13_odds_b63 S τ2 x0 x1 x2 x3 v4 x5
def fX13_odds (S : Nat → Nat × Nat) (σ : mm) (x0 : Nat) (x1 : Int32) (x2 : Int32) (x3 : Int32) : Option (Int32 × mm) :=
  wI σ x0 0 (0 : Int32) fun τ1 =>
  bd0 (fX13_isGlass S τ1 x0 x1) fun v2 =>
  if v2 = 0 then
    fX13_odds_b23 S τ1
  else
    bd0 (fX13_isIn S τ1 x2 (1 : Int32) (30 : Int32)) fun v3 =>
    if ¬ v3 = 0 then
      bd0 (fX13_layAside S τ1 x0) fun τ4 =>
      bd0 (loopN (fX13_odds_L35 S x0 x1 x2 x3) 1000 ((0 : Int32), (0 : Int32), τ4)) (un2 fun v6 τ7 => some (v6, τ7))
    else
      fX13_odds_b23 S τ1
def fX13_readNamed (S : Nat → Nat × Nat) (σ : mm) (x0 : Nat) (x1 : Int32) (x2 : Int32) : Option (Int32 × mm) :=
  bd0 (fX13_isName S σ x0) fun v1 =>
  if ¬ v1 = 0 then
    gR σ x0 19 fun r2 =>
    bd0 (fX13_findIn S σ r2 x1 x2 (σ.2.1 x0 12)) fun v3 =>
    wI σ x0 13 v3 fun τ4 =>
    if ¬ (τ4.1 x0 13) = (-1 : Int32) then
      bd0 (fX13_go S τ4 x0) fun τ5 =>
      some ((1 : Int32), τ5)
    else
      bd2 (fX13_bad S τ4 x0 (3 : Int32)) fun v6 τ7 =>
      rZ v6 (some (v6, τ7))
  else
    bd2 (fX13_bad S σ x0 (1 : Int32)) fun v8 τ9 =>
    rZ v8 (some (v8, τ9))
def fX13_readCount (S : Nat → Nat × Nat) (σ : mm) (x0 : Nat) (x1 : Int32) (x2 : Int32) (x3 : Int32) (x4 : Int32) : Option (Int32 × mm) :=
  gR σ x0 34 fun r1 =>
  stI S σ r1 x1 x2 fun τ2 =>
  bd0 (fX13_go S τ2 x0) fun τ3 =>
  bd2 (fX13_readNumber S τ3 x0 x3 x4) fun v4 τ5 =>
  if ¬ v4 = 0 then
    gR τ5 x0 34 fun r6 =>
    stI S τ5 r6 (x1 + (2 : Int32)) (τ5.1 x0 13) fun τ7 =>
    some ((1 : Int32), τ7)
  else
    some ((0 : Int32), τ5)
def fX13_readPersonDoes_b62 (S : Nat → Nat × Nat) (σ : mm) (x0 : Nat) (x1 : Int32) (s0 : Nat) (s1 : Int32) (s2 : Int32) : Option (Int32 × mm) :=
  stI S σ s0 s1 s2 fun τ1 =>
  gR τ1 x0 34 fun r2 =>
  stI S τ1 r2 (x1 + (2 : Int32)) (0 : Int32) fun τ3 =>
  bd0 (fX13_go S τ3 x0) fun τ4 =>
  some ((1 : Int32), τ4)
def fX13_readPersonDoes_b43 (S : Nat → Nat × Nat) (σ : mm) (x0 : Nat) (x1 : Int32)  : Option (Int32 × mm) :=
  gR σ x0 34 fun r1 =>
  bd0 (fX13_isWord S σ x0 (10 : Int32)) fun v2 =>
  if v2 = 0 then
    fX13_readPersonDoes_b62 S σ x0 x1 r1 x1 (1 : Int32)
  else
    fX13_readPersonDoes_b62 S σ x0 x1 r1 x1 (0 : Int32)
def fX13_readPersonDoes (S : Nat → Nat × Nat) (σ : mm) (x0 : Nat) (x1 : Int32) : Option (Int32 × mm) :=
  bd0 (fX13_isWord S σ x0 (12 : Int32)) fun v1 =>
  if v1 = 0 then
    bd0 (fX13_isWord S σ x0 (10 : Int32)) fun v2 =>
    if ¬ v2 = 0 then
      fX13_readPersonDoes_b43 S σ x0 x1
    else
      bd0 (fX13_isWord S σ x0 (11 : Int32)) fun v3 =>
      if ¬ v3 = 0 then
        fX13_readPersonDoes_b43 S σ x0 x1
      else
        bd2 (fX13_bad S σ x0 (1 : Int32)) fun v4 τ5 =>
        rZ v4 (some (v4, τ5))
  else
    bd2 (fX13_readCount S σ x0 x1 (2 : Int32) (1 : Int32) (20 : Int32)) fun v6 τ7 =>
    rZ v6 (some (v6, τ7))
def fX13_readGlassDoes_b64 (S : Nat → Nat × Nat) (σ : mm)  (s0 : Int32) : Option (Int32 × mm) :=
  rZ s0 (some (s0, σ))
def fX13_readGlassDoes (S : Nat → Nat × Nat) (σ : mm) (x0 : Nat) (x1 : Int32) : Option (Int32 × mm) :=
  bd0 (fX13_isWord S σ x0 (13 : Int32)) fun v1 =>
  if v1 = 0 then
    bd0 (fX13_isWord S σ x0 (14 : Int32)) fun v2 =>
    if v2 = 0 then
      bd0 (fX13_isWord S σ x0 (15 : Int32)) fun v3 =>
      if v3 = 0 then
        bd2 (fX13_bad S σ x0 (1 : Int32)) fun v4 τ5 =>
        fX13_readGlassDoes_b64 S τ5 v4
      else
        bd2 (fX13_readCount S σ x0 x1 (5 : Int32) (1 : Int32) (250 : Int32)) fun v6 τ7 =>
        fX13_readGlassDoes_b64 S τ7 v6
    else
      bd2 (fX13_readCount S σ x0 x1 (4 : Int32) (1 : Int32) (8 : Int32)) fun v8 τ9 =>
      rZ v8 (some (v8, τ9))
  else
    bd2 (fX13_readCount S σ x0 x1 (3 : Int32) (0 : Int32) (2 : Int32)) fun v10 τ11 =>
    rZ v10 (some (v10, τ11))
def fX13_readRollLine_b214 (S : Nat → Nat × Nat) (σ : mm)  (s0 : Int32) : Option (Int32 × mm) :=
  rZ s0 (some (s0, σ))
def fX13_readRollLine_b213 (S : Nat → Nat × Nat) (σ : mm)   : Option (Int32 × mm) :=
  fX13_readRollLine_b214 S σ (0 : Int32)
def fX13_readRollLine_b202 (S : Nat → Nat × Nat) (σ : mm) (x0 : Nat)  : Option (Int32 × mm) :=
  bd2 (fX13_readEnd S σ x0) fun v1 τ2 =>
  if v1 = 0 then
    fX13_readRollLine_b213 S τ2
  else
    fX13_readRollLine_b214 S τ2 (1 : Int32)
def fX13_readRollLine_b175 (S : Nat → Nat × Nat) (σ : mm) (x0 : Nat) (x2 : Int32) (x4 : Int32) (s0 : Nat) (s1 : Int32) (s2 : Int32) : Option (Int32 × mm) :=
  stI S σ s0 s1 s2 fun τ1 =>
  if ¬ x2 = (-1 : Int32) then
    bd2 (fX13_readPersonDoes S τ1 x0 x4) fun v2 τ3 =>
    if v2 = 0 then
      fX13_readRollLine_b213 S τ3
    else
      fX13_readRollLine_b202 S τ3 x0
  else
    bd2 (fX13_readGlassDoes S τ1 x0 x4) fun v4 τ5 =>
    if v4 = 0 then
      fX13_readRollLine_b213 S τ5
    else
      fX13_readRollLine_b202 S τ5 x0
def fX13_readRollLine_b152 (S : Nat → Nat × Nat) (σ : mm)  (s0 : Int32) : Option (Int32 × mm) :=
  rZ s0 (some (s0, σ))
def fX13_readRollLine_b151 (S : Nat → Nat × Nat) (σ : mm)   : Option (Int32 × mm) :=
  fX13_readRollLine_b152 S σ (0 : Int32)
def fX13_readRollLine_b99 (S : Nat → Nat × Nat) (σ : mm) (x0 : Nat) (x1 : Int32) (x2 : Int32) (x3 : Int32)  : Option (Int32 × mm) :=
  if ¬ (σ.1 x0 36) = (40 : Int32) then
    nm ((3 : Int32) * (σ.1 x0 36)) fun v1 =>
    if x1 = 0 then
      bd0 (fX13_go S σ x0) fun τ2 =>
      gR τ2 x0 34 fun r3 =>
      if ¬ x2 = (-1 : Int32) then
        fX13_readRollLine_b175 S τ2 x0 x2 v1 r3 (v1 + (1 : Int32)) x2
      else
        fX13_readRollLine_b175 S τ2 x0 x2 v1 r3 (v1 + (1 : Int32)) x3
    else
      bd2 (fX13_readCount S σ x0 v1 (6 : Int32) (1 : Int32) (60 : Int32)) fun v4 τ5 =>
      if v4 = 0 then
        fX13_readRollLine_b151 S τ5
      else
        bd2 (fX13_readEnd S τ5 x0) fun v6 τ7 =>
        if v6 = 0 then
          fX13_readRollLine_b151 S τ7
        else
          fX13_readRollLine_b152 S τ7 (1 : Int32)
  else
    bd2 (fX13_bad S σ x0 (4 : Int32)) fun v8 τ9 =>
    rZ v8 (some (v8, τ9))
def fX13_readRollLine_b78 (S : Nat → Nat × Nat) (σ : mm) (x0 : Nat) (x1 : Int32) (x2 : Int32) (s0 : Int32) : Option (Int32 × mm) :=
  if ¬ x1 = 0 then
    fX13_readRollLine_b99 S σ x0 x1 x2 s0
  else
    if ¬ x2 = (-1 : Int32) then
      fX13_readRollLine_b99 S σ x0 x1 x2 s0
    else
      if ¬ s0 = (-1 : Int32) then
        fX13_readRollLine_b99 S σ x0 x1 x2 s0
      else
        bd2 (fX13_bad S σ x0 (3 : Int32)) fun v1 τ2 =>
        rZ v1 (some (v1, τ2))
def fX13_readRollLine_b50 (S : Nat → Nat × Nat) (σ : mm) (x0 : Nat) (x1 : Int32) (s0 : Int32) : Option (Int32 × mm) :=
  if x1 = 0 then
    gR σ x0 19 fun r1 =>
    gR σ x0 14 fun r2 =>
    ldI S σ r2 (1 : Int32) fun v3 =>
    bd0 (fX13_findIn S σ r1 (8 : Int32) v3 (σ.2.1 x0 12)) fun v4 =>
    fX13_readRollLine_b78 S σ x0 x1 s0 v4
  else
    fX13_readRollLine_b78 S σ x0 x1 s0 (-1 : Int32)
def fX13_readRollLine_b24 (S : Nat → Nat × Nat) (σ : mm) (x0 : Nat) (x1 : Int32)  : Option (Int32 × mm) :=
  if x1 = 0 then
    gR σ x0 19 fun r1 =>
    gR σ x0 14 fun r2 =>
    ldI S σ r2 (0 : Int32) fun v3 =>
    bd0 (fX13_findIn S σ r1 (0 : Int32) v3 (σ.2.1 x0 12)) fun v4 =>
    fX13_readRollLine_b50 S σ x0 x1 v4
  else
    fX13_readRollLine_b50 S σ x0 x1 (-1 : Int32)
def fX13_readRollLine (S : Nat → Nat × Nat) (σ : mm) (x0 : Nat) : Option (Int32 × mm) :=
  bd0 (fX13_isWord S σ x0 (16 : Int32)) fun v1 =>
  if ¬ v1 = 0 then
    fX13_readRollLine_b24 S σ x0 v1
  else
    bd0 (fX13_isName S σ x0) fun v2 =>
    if ¬ v2 = 0 then
      fX13_readRollLine_b24 S σ x0 v1
    else
      bd2 (fX13_bad S σ x0 (1 : Int32)) fun v3 τ4 =>
      rZ v3 (some (v3, τ4))
def fX13_goBy (S : Nat → Nat × Nat) (σ : mm) (x0 : Nat) (x1 : Int32) : Option (Int32 × mm) :=
  gR σ x0 34 fun r1 =>
  ldI S σ r1 x1 fun v2 =>
  gR σ x0 34 fun r3 =>
  ldI S σ r3 (x1 + (2 : Int32)) fun v4 =>
  if ¬ v2 = (6 : Int32) then
    gR σ x0 34 fun r5 =>
    ldI S σ r5 (x1 + (1 : Int32)) fun v6 =>
    bd0 (fX13_why S σ x0 v2 v6 v4) fun v7 =>
    if v7 = 0 then
      gR σ x0 34 fun r8 =>
      ldI S σ r8 (x1 + (1 : Int32)) fun v9 =>
      bd0 (fX13_live S σ x0 v2 v9 v4) fun τ10 =>
      some ((0 : Int32), τ10)
    else
      some ((((10 : Int32) * v2) + v7), σ)
  else
    gR σ x0 14 fun r11 =>
    ldI S σ r11 (102 : Int32) fun v12 =>
    if (v12 + v4) ≤ (600 : Int32) then
      bd2 (fX13_passHours S σ x0 v4) fun v13 τ14 =>
      some ((0 : Int32), τ14)
    else
      some ((61 : Int32), σ)
def fX13_stay_L2 (S : Nat → Nat × Nat) (x0 : Nat) (x1 : Int32) : (Int32 × mm) → Option ((Int32 × mm) ⊕ mm) :=
  un2 fun x2 σ =>
  if (39 : Int32) ≤ x2 then
      some (.inr σ)
    else
      gR σ x0 14 fun r1 =>
      ldI S σ r1 ((102 : Int32) + x2) fun v2 =>
      gR σ x0 14 fun r3 =>
      gR σ x0 18 fun r4 =>
      ldI S σ r4 x2 fun v5 =>
      stI S σ r3 ((102 : Int32) + x2) v5 fun τ6 =>
      gR τ6 x0 18 fun r7 =>
      stI S τ6 r7 x2 v2 fun τ8 =>
      nm (x2 + (1 : Int32)) fun v9 =>
      some (.inl (v9, τ8))
def fX13_stay (S : Nat → Nat × Nat) (σ : mm) (x0 : Nat) (x1 : Int32) : Option mm :=
  bd0 (loopN (fX13_stay_L2 S x0 x1) 1000 ((0 : Int32), σ)) (fun τ2 => if ¬ x1 = 0 then
    bd0 (fX13_snap S τ2 x0) fun τ3 =>
    bd0 (fX13_takeBack S τ3 x0) fun τ4 =>
    some τ4
  else
    some τ2)
def fX13_roll_L30 (S : Nat → Nat × Nat) (x0 : Nat) (x1 : Int32) : mm → Option (mm ⊕ (mm ⊕ mm)) :=
  fun σ => if (σ.1 x0 7) = 0 then
      some (.inr (.inr σ))
    else
      bd2 (fX13_readRollLine S σ x0) fun v1 τ2 =>
      if ¬ v1 = 0 then
        wI τ2 x0 36 ((τ2.1 x0 36) + (1 : Int32)) fun τ3 =>
        some (.inl τ3)
      else
        some (.inr (.inl τ2))
def fX13_roll_L73 (S : Nat → Nat × Nat) (x0 : Nat) (x1 : Int32) : (Int32 × Int32 × mm) → Option ((Int32 × Int32 × mm) ⊕ (Int32 × Int32 × mm)) :=
  un3 fun x2 x3 σ =>
  if (σ.1 x0 36) ≤ x2 then
      some (.inr (x2, x3, σ))
    else
      if ¬ x3 = 0 then
        some (.inr (x2, x3, σ))
      else
        bd2 (fX13_goBy S σ x0 ((3 : Int32) * x2)) fun v1 τ2 =>
        if ¬ v1 = 0 then
          some (.inl (x2, v1, τ2))
        else
          nm (x2 + (1 : Int32)) fun v3 =>
          some (.inl (v3, v1, τ2))
def fX13_roll_b175 (S : Nat → Nat × Nat) (σ : mm)  (s0 : Int32) : Option (Int32 × mm) :=
  some (s0, σ)
def fX13_roll_b163 (S : Nat → Nat × Nat) (σ : mm) (x2 : Int32) (x3 : Int32) (s0 : Nat) (s1 : Int32) : Option (Int32 × mm) :=
  bd0 (fX13_stay S σ s0 s1) fun τ1 =>
  if ¬ x3 = 0 then
    fX13_roll_b175 S τ1 x2
  else
    fX13_roll_b175 S τ1 (-1 : Int32)
def fX13_roll_b162 (S : Nat → Nat × Nat) (σ : mm) (x2 : Int32) (x3 : Int32) (s0 : Nat) : Option (Int32 × mm) :=
  fX13_roll_b163 S σ x2 x3 s0 (0 : Int32)
def fX13_roll_b103 (S : Nat → Nat × Nat) (σ : mm) (x0 : Nat) (x1 : Int32) (x2 : Int32) (x3 : Int32)  : Option (Int32 × mm) :=
  gR σ x0 35 fun r1 =>
  stI S σ r1 (0 : Int32) x3 fun τ2 =>
  gR τ2 x0 35 fun r3 =>
  stI S τ2 r3 (1 : Int32) x2 fun τ4 =>
  gR τ4 x0 35 fun r5 =>
  gR τ4 x0 14 fun r6 =>
  ldI S τ4 r6 (102 : Int32) fun v7 =>
  stI S τ4 r5 (2 : Int32) v7 fun τ8 =>
  gR τ8 x0 35 fun r9 =>
  gR τ8 x0 14 fun r10 =>
  ldI S τ8 r10 (104 : Int32) fun v11 =>
  stI S τ8 r9 (3 : Int32) v11 fun τ12 =>
  wZ τ12 x0 37 (1 : Int32) fun τ13 =>
  if ¬ x1 = (1 : Int32) then
    fX13_roll_b162 S τ13 x2 x3 x0
  else
    if x2 ≤ 0 then
      fX13_roll_b162 S τ13 x2 x3 x0
    else
      fX13_roll_b163 S τ13 x2 x3 x0 (1 : Int32)
def fX13_roll (S : Nat → Nat × Nat) (σ : mm) (x0 : Nat) (x1 : Int32) : Option (Int32 × mm) :=
  wI σ x0 0 (0 : Int32) fun τ1 =>
  bd0 (fX13_isIn S τ1 x1 (0 : Int32) (1 : Int32)) fun v2 =>
  if ¬ v2 = 0 then
    bd0 (fX13_begin S τ1 x0 (400 : Int32)) fun τ3 =>
    wI τ3 x0 36 (0 : Int32) fun τ4 =>
    bd0 (loopN (fX13_roll_L30 S x0 x1) 1000 τ4) (cs2 (fun τ6 => some (((-2 : Int32) - (τ6.1 x0 11)), τ6)) (fun τ7 => bd0 (fX13_layAside S τ7 x0) fun τ8 =>
      bd0 (loopN (fX13_roll_L73 S x0 x1) 1000 ((0 : Int32), (0 : Int32), τ8)) (un3 fun v10 v11 τ12 => fX13_roll_b103 S τ12 x0 x1 v10 v11)))
  else
    some ((-1000 : Int32), τ1)
def fX13_rolled_b31 (S : Nat → Nat × Nat) (σ : mm)  (s0 : Int32) : Option (Int32 × mm) :=
  some (s0, σ)
def fX13_rolled_b30 (S : Nat → Nat × Nat) (σ : mm)   : Option (Int32 × mm) :=
  fX13_rolled_b31 S σ (-1 : Int32)
def fX13_rolled (S : Nat → Nat × Nat) (σ : mm) (x0 : Nat) (x1 : Int32) : Option (Int32 × mm) :=
  wI σ x0 0 (0 : Int32) fun τ1 =>
  if (τ1.1 x0 37) = 0 then
    fX13_rolled_b30 S τ1
  else
    bd0 (fX13_isIn S τ1 x1 (0 : Int32) (3 : Int32)) fun v2 =>
    if v2 = 0 then
      fX13_rolled_b30 S τ1
    else
      gR τ1 x0 35 fun r3 =>
      ldI S τ1 r3 x1 fun v4 =>
      fX13_rolled_b31 S τ1 v4
def fX13_saysOne (S : Nat → Nat × Nat) (σ : mm) (x0 : Nat) (x1 : Int32) (x2 : Int32) (x3 : Int32) (x4 : Int32) : Option (Int32 × mm) :=
  nm ((4 : Int32) * (σ.1 x0 39)) fun v1 =>
  gR σ x0 38 fun r2 =>
  stI S σ r2 v1 x1 fun τ3 =>
  gR τ3 x0 38 fun r4 =>
  stI S τ3 r4 (v1 + (1 : Int32)) x2 fun τ5 =>
  gR τ5 x0 38 fun r6 =>
  stI S τ5 r6 (v1 + (2 : Int32)) x3 fun τ7 =>
  gR τ7 x0 38 fun r8 =>
  stI S τ7 r8 (v1 + (3 : Int32)) x4 fun τ9 =>
  wI τ9 x0 39 ((τ9.1 x0 39) + (1 : Int32)) fun τ10 =>
  some (((τ10.1 x0 39) - (1 : Int32)), τ10)
def fX13_readBracket (F : Nat → mm → Nat → Option (Int32 × mm)) (S : Nat → Nat × Nat) (σ : mm) (x0 : Nat) : Option (Int32 × mm) :=
  bd2 (F 3 σ x0) fun v1 τ2 =>
  if ¬ v1 = 0 then
    bd0 (fX13_isSign S τ2 x0 (41 : Int32)) fun v3 =>
    if ¬ v3 = 0 then
      bd0 (fX13_go S τ2 x0) fun τ4 =>
      some ((1 : Int32), τ4)
    else
      bd2 (fX13_bad S τ2 x0 (1 : Int32)) fun v5 τ6 =>
      rZ v5 (some (v5, τ6))
  else
    some ((0 : Int32), τ2)
def fX13_readCompare_b33 (S : Nat → Nat × Nat) (σ : mm) (x0 : Nat) (x1 : Int32)  : Option (Int32 × mm) :=
  nm (σ.1 x0 9) fun v1 =>
  bd0 (fX13_go S σ x0) fun τ2 =>
  bd2 (fX13_readNumber S τ2 x0 (0 : Int32) (999 : Int32)) fun v3 τ4 =>
  if ¬ v3 = 0 then
    bd2 (fX13_saysOne S τ4 x0 ((50 : Int32) + x1) (0 : Int32) (τ4.1 x0 13) v1) fun v5 τ6 =>
    wI τ6 x0 42 v5 fun τ7 =>
    some ((1 : Int32), τ7)
  else
    some ((0 : Int32), τ4)
def fX13_readCompare (S : Nat → Nat × Nat) (σ : mm) (x0 : Nat) (x1 : Int32) : Option (Int32 × mm) :=
  bd0 (fX13_isSign S σ x0 (60 : Int32)) fun v1 =>
  if ¬ v1 = 0 then
    fX13_readCompare_b33 S σ x0 x1
  else
    bd0 (fX13_isSign S σ x0 (61 : Int32)) fun v2 =>
    if ¬ v2 = 0 then
      fX13_readCompare_b33 S σ x0 x1
    else
      bd0 (fX13_isSign S σ x0 (62 : Int32)) fun v3 =>
      if ¬ v3 = 0 then
        fX13_readCompare_b33 S σ x0 x1
      else
        bd2 (fX13_bad S σ x0 (1 : Int32)) fun v4 τ5 =>
        rZ v4 (some (v4, τ5))
def fX13_readNot (F : Nat → mm → Nat → Option (Int32 × mm)) (S : Nat → Nat × Nat) (σ : mm) (x0 : Nat) : Option (Int32 × mm) :=
  bd2 (F 4 σ x0) fun v1 τ2 =>
  if ¬ v1 = 0 then
    bd2 (fX13_saysOne S τ2 x0 (1 : Int32) (τ2.1 x0 42) (0 : Int32) (0 : Int32)) fun v3 τ4 =>
    wI τ4 x0 42 v3 fun τ5 =>
    some ((1 : Int32), τ5)
  else
    some ((0 : Int32), τ2)
def fX13_readOf (S : Nat → Nat × Nat) (σ : mm) (x0 : Nat) (x1 : Int32) : Option (Int32 × mm) :=
  gR σ x0 14 fun r1 =>
  ldI S σ r1 (0 : Int32) fun v2 =>
  bd2 (fX13_readNamed S σ x0 (0 : Int32) v2) fun v3 τ4 =>
  if ¬ v3 = 0 then
    bd2 (fX13_saysOne S τ4 x0 ((50 : Int32) + x1) (τ4.1 x0 13) (0 : Int32) (0 : Int32)) fun v5 τ6 =>
    wI τ6 x0 42 v5 fun τ7 =>
    some ((1 : Int32), τ7)
  else
    some ((0 : Int32), τ4)
def fX13_readSaid_L10 (F : Nat → mm → Nat → Option (Int32 × mm)) (S : Nat → Nat × Nat) (σ : mm) (x0 : Nat) (x1 : Int32) : Int32 → Option (Int32 ⊕ Int32) :=
  fun x2 => if (28 : Int32) < x2 then
      some (.inr x2)
    else
      bd0 (fX13_isWord S σ x0 x2) fun v1 =>
      if ¬ v1 = 0 then
        some (.inr x2)
      else
        nm (x2 + (1 : Int32)) fun v2 =>
        some (.inl v2)
def fX13_readSaid_b64 (F : Nat → mm → Nat → Option (Int32 × mm)) (S : Nat → Nat × Nat) (σ : mm) (x0 : Nat)  : Option (Int32 × mm) :=
  bd2 (fX13_bad S σ x0 (4 : Int32)) fun v1 τ2 =>
  rZ v1 (some (v1, τ2))
def fX13_readSaid_b166 (F : Nat → mm → Nat → Option (Int32 × mm)) (S : Nat → Nat × Nat) (σ : mm) (x0 : Nat) (x3 : Int32)  : Option (Int32 × mm) :=
  wI σ x0 41 ((σ.1 x0 41) - (1 : Int32)) fun τ1 =>
  rZ x3 (some (x3, τ1))
def fX13_readSaid_b165 (F : Nat → mm → Nat → Option (Int32 × mm)) (S : Nat → Nat × Nat) (σ : mm) (x0 : Nat) (s0 : Int32) : Option (Int32 × mm) :=
  fX13_readSaid_b166 F S σ x0 s0
def fX13_readSaid_b46 (F : Nat → mm → Nat → Option (Int32 × mm)) (S : Nat → Nat × Nat) (σ : mm) (x0 : Nat) (x1 : Int32) (x2 : Int32)  : Option (Int32 × mm) :=
  if (σ.1 x0 40) = (20 : Int32) then
    fX13_readSaid_b64 F S σ x0
  else
    if ¬ (σ.1 x0 41) = (8 : Int32) then
      wI σ x0 40 ((σ.1 x0 40) + (1 : Int32)) fun τ1 =>
      wI τ1 x0 41 ((τ1.1 x0 41) + (1 : Int32)) fun τ2 =>
      bd0 (fX13_go S τ2 x0) fun τ3 =>
      if x1 = 0 then
        if ¬ x2 = (19 : Int32) then
          if (24 : Int32) ≤ x2 then
            if (25 : Int32) ≤ x2 then
              bd2 (fX13_readCompare S τ3 x0 x2) fun v4 τ5 =>
              fX13_readSaid_b165 F S τ5 x0 v4
            else
              bd2 (fX13_readOf S τ3 x0 x2) fun v6 τ7 =>
              fX13_readSaid_b165 F S τ7 x0 v6
          else
            bd2 (fX13_saysOne S τ3 x0 ((50 : Int32) + x2) (0 : Int32) (0 : Int32) (0 : Int32)) fun v8 τ9 =>
            wI τ9 x0 42 v8 fun τ10 =>
            fX13_readSaid_b166 F S τ10 x0 (1 : Int32)
        else
          bd2 (F 2 τ3 x0) fun v11 τ12 =>
          fX13_readSaid_b166 F S τ12 x0 v11
      else
        bd2 (F 1 τ3 x0) fun v13 τ14 =>
        fX13_readSaid_b166 F S τ14 x0 v13
    else
      fX13_readSaid_b64 F S σ x0
def fX13_readSaid_b30 (F : Nat → mm → Nat → Option (Int32 × mm)) (S : Nat → Nat × Nat) (σ : mm) (x0 : Nat) (x1 : Int32) (x2 : Int32)  : Option (Int32 × mm) :=
  if ¬ x1 = 0 then
    fX13_readSaid_b46 F S σ x0 x1 x2
  else
    if x2 ≤ (28 : Int32) then
      fX13_readSaid_b46 F S σ x0 x1 x2
    else
      bd2 (fX13_bad S σ x0 (1 : Int32)) fun v1 τ2 =>
      rZ v1 (some (v1, τ2))
def fX13_readSaid (F : Nat → mm → Nat → Option (Int32 × mm)) (S : Nat → Nat × Nat) (σ : mm) (x0 : Nat) : Option (Int32 × mm) :=
  bd0 (fX13_isSign S σ x0 (40 : Int32)) fun v1 =>
  bd0 (loopN (fX13_readSaid_L10 F S σ x0 v1) 1000 (19 : Int32)) (fun v3 => fX13_readSaid_b30 F S σ x0 v1 v3)
def fX13_readAnd_L14 (F : Nat → mm → Nat → Option (Int32 × mm)) (S : Nat → Nat × Nat) (x0 : Nat) : (Int32 × mm) → Option ((Int32 × mm) ⊕ (mm ⊕ (Int32 × mm))) :=
  un2 fun x1 σ =>
  bd0 (fX13_isWord S σ x0 (18 : Int32)) fun v1 =>
    if v1 = 0 then
      some (.inr (.inr (x1, σ)))
    else
      bd0 (fX13_go S σ x0) fun τ2 =>
      bd2 (F 4 τ2 x0) fun v3 τ4 =>
      if ¬ v3 = 0 then
        bd2 (fX13_saysOne S τ4 x0 (2 : Int32) x1 (τ4.1 x0 42) (0 : Int32)) fun v5 τ6 =>
        some (.inl (v5, τ6))
      else
        some (.inr (.inl τ4))
def fX13_readAnd (F : Nat → mm → Nat → Option (Int32 × mm)) (S : Nat → Nat × Nat) (σ : mm) (x0 : Nat) : Option (Int32 × mm) :=
  bd2 (F 4 σ x0) fun v1 τ2 =>
  if ¬ v1 = 0 then
    nm (τ2.1 x0 42) fun v3 =>
    bd0 (loopN (fX13_readAnd_L14 F S x0) 1000 (v3, τ2)) (cs2 (fun τ5 => some ((0 : Int32), τ5)) (un2 fun v6 τ7 => wI τ7 x0 42 v6 fun τ8 =>
      some ((1 : Int32), τ8)))
  else
    some ((0 : Int32), τ2)
def fX13_readOr_L14 (F : Nat → mm → Nat → Option (Int32 × mm)) (S : Nat → Nat × Nat) (x0 : Nat) : (Int32 × mm) → Option ((Int32 × mm) ⊕ (mm ⊕ (Int32 × mm))) :=
  un2 fun x1 σ =>
  bd0 (fX13_isWord S σ x0 (17 : Int32)) fun v1 =>
    if v1 = 0 then
      some (.inr (.inr (x1, σ)))
    else
      bd0 (fX13_go S σ x0) fun τ2 =>
      bd2 (F 0 τ2 x0) fun v3 τ4 =>
      if ¬ v3 = 0 then
        bd2 (fX13_saysOne S τ4 x0 (3 : Int32) x1 (τ4.1 x0 42) (0 : Int32)) fun v5 τ6 =>
        some (.inl (v5, τ6))
      else
        some (.inr (.inl τ4))
def fX13_readOr (F : Nat → mm → Nat → Option (Int32 × mm)) (S : Nat → Nat × Nat) (σ : mm) (x0 : Nat) : Option (Int32 × mm) :=
  bd2 (F 0 σ x0) fun v1 τ2 =>
  if ¬ v1 = 0 then
    nm (τ2.1 x0 42) fun v3 =>
    bd0 (loopN (fX13_readOr_L14 F S x0) 1000 (v3, τ2)) (cs2 (fun τ5 => some ((0 : Int32), τ5)) (un2 fun v6 τ7 => wI τ7 x0 42 v6 fun τ8 =>
      some ((1 : Int32), τ8)))
  else
    some ((0 : Int32), τ2)
def gX13_readAnd (S : Nat → Nat × Nat) : Nat → Nat → mm → Nat → Option (Int32 × mm)
  | 0 => fun _ _ _ => none
  | n + 1 => fun i σ x0 => match i with
    | 0 => fX13_readAnd (gX13_readAnd S n) S σ x0
    | 1 => fX13_readBracket (gX13_readAnd S n) S σ x0
    | 2 => fX13_readNot (gX13_readAnd S n) S σ x0
    | 3 => fX13_readOr (gX13_readAnd S n) S σ x0
    | _ => fX13_readSaid (gX13_readAnd S n) S σ x0
def fX13_sentence_L79 (S : Nat → Nat × Nat) (x0 : Nat) : (Int32 × mm) → Option ((Int32 × mm) ⊕ mm) :=
  un2 fun x1 σ =>
  if (240 : Int32) ≤ x1 then
      some (.inr σ)
    else
      gR σ x0 14 fun r1 =>
      gR σ x0 38 fun r2 =>
      ldI S σ r2 x1 fun v3 =>
      stI S σ r1 ((143 : Int32) + x1) v3 fun τ4 =>
      nm (x1 + (1 : Int32)) fun v5 =>
      some (.inl (v5, τ4))
def fX13_sentence (S : Nat → Nat × Nat) (σ : mm) (x0 : Nat) : Option (Int32 × mm) :=
  bd0 (fX13_begin S σ x0 (200 : Int32)) fun τ1 =>
  wI τ1 x0 39 (0 : Int32) fun τ2 =>
  wI τ2 x0 40 (0 : Int32) fun τ3 =>
  wI τ3 x0 41 (0 : Int32) fun τ4 =>
  bd2 (gX13_readAnd S 100 3 τ4 x0) fun v5 τ6 =>
  if ¬ v5 = 0 then
    if (τ6.1 x0 7) = 0 then
      gR τ6 x0 14 fun r7 =>
      stI S τ6 r7 (141 : Int32) (1 : Int32) fun τ8 =>
      gR τ8 x0 14 fun r9 =>
      stI S τ8 r9 (142 : Int32) (τ8.1 x0 42) fun τ10 =>
      bd0 (loopN (fX13_sentence_L79 S x0) 1000 ((0 : Int32), τ10)) (fun τ12 => some ((τ12.1 x0 40), τ12))
    else
      bd2 (fX13_bad S τ6 x0 (1 : Int32)) fun v13 τ14 =>
      some (((-1 : Int32) - (τ14.1 x0 11)), τ14)
  else
    some (((-1 : Int32) - (τ6.1 x0 11)), τ6)
def fX13_holds_b123 (F : Nat → mm → Nat → Int32 → Int32 → Option Int32) (S : Nat → Nat × Nat) (σ : mm)  (s0 : Int32) : Option Int32 :=
  rZ s0 (some s0)
def fX13_holds_b149 (F : Nat → mm → Nat → Int32 → Int32 → Option Int32) (S : Nat → Nat × Nat) (σ : mm)  (s0 : Int32) : Option Int32 :=
  rZ s0 (some s0)
def fX13_holds_b148 (F : Nat → mm → Nat → Int32 → Int32 → Option Int32) (S : Nat → Nat × Nat) (σ : mm)   : Option Int32 :=
  fX13_holds_b149 F S σ (0 : Int32)
def fX13_holds_b175 (F : Nat → mm → Nat → Int32 → Int32 → Option Int32) (S : Nat → Nat × Nat) (σ : mm)  (s0 : Int32) : Option Int32 :=
  rZ s0 (some s0)
def fX13_holds_b170 (F : Nat → mm → Nat → Int32 → Int32 → Option Int32) (S : Nat → Nat × Nat) (σ : mm)   : Option Int32 :=
  fX13_holds_b175 F S σ (1 : Int32)
def fX13_holds_b199 (F : Nat → mm → Nat → Int32 → Int32 → Option Int32) (S : Nat → Nat × Nat) (σ : mm)  (s0 : Int32) : Option Int32 :=
  rZ s0 (some s0)
def fX13_holds_b219 (F : Nat → mm → Nat → Int32 → Int32 → Option Int32) (S : Nat → Nat × Nat) (σ : mm)  (s0 : Int32) : Option Int32 :=
  rZ s0 (some s0)
def fX13_holds_b271 (F : Nat → mm → Nat → Int32 → Int32 → Option Int32) (S : Nat → Nat × Nat) (σ : mm)  (s0 : Int32) : Option Int32 :=
  rZ s0 (some s0)
def fX13_holds_b270 (F : Nat → mm → Nat → Int32 → Int32 → Option Int32) (S : Nat → Nat × Nat) (σ : mm)   : Option Int32 :=
  fX13_holds_b271 F S σ (0 : Int32)
def fX13_holds_b305 (F : Nat → mm → Nat → Int32 → Int32 → Option Int32) (S : Nat → Nat × Nat) (σ : mm)  (s0 : Int32) : Option Int32 :=
  rZ s0 (some s0)
def fX13_holds_b300 (F : Nat → mm → Nat → Int32 → Int32 → Option Int32) (S : Nat → Nat × Nat) (σ : mm)   : Option Int32 :=
  fX13_holds_b305 F S σ (1 : Int32)
def fX13_holds_b446 (F : Nat → mm → Nat → Int32 → Int32 → Option Int32) (S : Nat → Nat × Nat) (σ : mm)  (s0 : Int32) : Option Int32 :=
  rZ s0 (some s0)
def fX13_holds_b376 (F : Nat → mm → Nat → Int32 → Int32 → Option Int32) (S : Nat → Nat × Nat) (σ : mm) (x0 : Nat) (x3 : Int32) (x5 : Int32) (s0 : Int32) : Option Int32 :=
  gR σ x0 14 fun r1 =>
  ldI S σ r1 (x3 + (3 : Int32)) fun v2 =>
  if ¬ v2 = (60 : Int32) then
    gR σ x0 14 fun r3 =>
    ldI S σ r3 (x3 + (3 : Int32)) fun v4 =>
    if ¬ v4 = (61 : Int32) then
      if s0 ≤ x5 then
        fX13_holds_b446 F S σ (0 : Int32)
      else
        fX13_holds_b446 F S σ (1 : Int32)
    else
      if ¬ s0 = x5 then
        fX13_holds_b446 F S σ (0 : Int32)
      else
        fX13_holds_b446 F S σ (1 : Int32)
  else
    if x5 ≤ s0 then
      fX13_holds_b446 F S σ (0 : Int32)
    else
      fX13_holds_b446 F S σ (1 : Int32)
def fX13_holds (F : Nat → mm → Nat → Int32 → Int32 → Option Int32) (S : Nat → Nat × Nat) (σ : mm) (x0 : Nat) (x1 : Int32) (x2 : Int32) : Option Int32 :=
  nm ((143 : Int32) + ((4 : Int32) * x1)) fun v1 =>
  gR σ x0 14 fun r2 =>
  ldI S σ r2 (v1 + (1 : Int32)) fun v3 =>
  gR σ x0 14 fun r4 =>
  ldI S σ r4 (v1 + (2 : Int32)) fun v5 =>
  gR σ x0 14 fun r6 =>
  ldI S σ r6 v1 fun v7 =>
  if v7 = (1 : Int32) then
    bd0 (F 0 σ x0 v3 x2) fun v8 =>
    if ¬ v8 = 0 then
      fX13_holds_b123 F S σ (0 : Int32)
    else
      fX13_holds_b123 F S σ (1 : Int32)
  else if v7 = (2 : Int32) then
    bd0 (F 0 σ x0 v3 x2) fun v9 =>
    if v9 = 0 then
      fX13_holds_b148 F S σ
    else
      bd0 (F 0 σ x0 v5 x2) fun v10 =>
      if v10 = 0 then
        fX13_holds_b148 F S σ
      else
        fX13_holds_b149 F S σ (1 : Int32)
  else if v7 = (3 : Int32) then
    bd0 (F 0 σ x0 v3 x2) fun v11 =>
    if ¬ v11 = 0 then
      fX13_holds_b170 F S σ
    else
      bd0 (F 0 σ x0 v5 x2) fun v12 =>
      if v12 = 0 then
        fX13_holds_b175 F S σ (0 : Int32)
      else
        fX13_holds_b170 F S σ
  else if v7 = (70 : Int32) then
    bd0 (fX13_isLapsed S σ x0 x2) fun v13 =>
    rZ v13 (some v13)
  else if v7 = (71 : Int32) then
    gR σ x0 14 fun r14 =>
    ldI S σ r14 ((125 : Int32) + x2) fun v15 =>
    if ¬ v15 = 0 then
      fX13_holds_b199 F S σ (0 : Int32)
    else
      fX13_holds_b199 F S σ (1 : Int32)
  else if v7 = (72 : Int32) then
    gR σ x0 14 fun r16 =>
    ldI S σ r16 ((129 : Int32) + x2) fun v17 =>
    if ¬ v17 = (1 : Int32) then
      fX13_holds_b219 F S σ (0 : Int32)
    else
      fX13_holds_b219 F S σ (1 : Int32)
  else if v7 = (73 : Int32) then
    gR σ x0 14 fun r18 =>
    ldI S σ r18 ((56 : Int32) + x2) fun v19 =>
    gR σ x0 14 fun r20 =>
    ldI S σ r20 (102 : Int32) fun v21 =>
    bd0 (fX13_isAwake S σ x0 v19 v21) fun v22 =>
    if v22 = 0 then
      fX13_holds_b270 F S σ
    else
      gR σ x0 14 fun r23 =>
      ldI S σ r23 ((60 : Int32) + x2) fun v24 =>
      gR σ x0 14 fun r25 =>
      ldI S σ r25 (102 : Int32) fun v26 =>
      bd0 (fX13_isAwake S σ x0 v24 v26) fun v27 =>
      if v27 = 0 then
        fX13_holds_b270 F S σ
      else
        fX13_holds_b271 F S σ (1 : Int32)
  else if v7 = (74 : Int32) then
    gR σ x0 14 fun r28 =>
    ldI S σ r28 ((56 : Int32) + x2) fun v29 =>
    if v29 = v3 then
      fX13_holds_b300 F S σ
    else
      gR σ x0 14 fun r30 =>
      ldI S σ r30 ((60 : Int32) + x2) fun v31 =>
      if ¬ v31 = v3 then
        fX13_holds_b305 F S σ (0 : Int32)
      else
        fX13_holds_b300 F S σ
  else gR σ x0 14 fun r32 =>
  ldI S σ r32 v1 fun v33 =>
  nm (v33 - (50 : Int32)) fun v34 =>
  if ¬ v34 = (25 : Int32) then
    if ¬ v34 = (26 : Int32) then
      if ¬ v34 = (27 : Int32) then
        fX13_holds_b376 F S σ x0 v1 v5 x2
      else
        gR σ x0 14 fun r35 =>
        ldI S σ r35 ((137 : Int32) + x2) fun v36 =>
        fX13_holds_b376 F S σ x0 v1 v5 v36
    else
      gR σ x0 14 fun r37 =>
      ldI S σ r37 ((121 : Int32) + x2) fun v38 =>
      fX13_holds_b376 F S σ x0 v1 v5 v38
  else
    gR σ x0 14 fun r39 =>
    ldI S σ r39 ((125 : Int32) + x2) fun v40 =>
    fX13_holds_b376 F S σ x0 v1 v5 v40
def gX13_holds (S : Nat → Nat × Nat) : Nat → Nat → mm → Nat → Int32 → Int32 → Option Int32
  | 0 => fun _ _ _ _ _ => none
  | n + 1 => fun i σ x0 x1 x2 => match i with
    | _ => fX13_holds (gX13_holds S n) S σ x0 x1 x2
def fX13_said_b61 (S : Nat → Nat × Nat) (σ : mm) (x0 : Nat) (x1 : Int32) (x2 : Int32) (x3 : Int32)  : Option ((Int32 × Int32) ⊕ (Int32 ⊕ Int32)) :=
  nm (x3 + (1 : Int32)) fun v1 =>
  some (.inl (x2, v1))
def fX13_said_L22 (S : Nat → Nat × Nat) (σ : mm) (x0 : Nat) (x1 : Int32) : (Int32 × Int32) → Option ((Int32 × Int32) ⊕ (Int32 ⊕ Int32)) :=
  un2 fun x2 x3 =>
  gR σ x0 14 fun r1 =>
    ldI S σ r1 (1 : Int32) fun v2 =>
    if v2 ≤ x3 then
      some (.inr (.inr x2))
    else
      gR σ x0 14 fun r3 =>
      ldI S σ r3 (142 : Int32) fun v4 =>
      bd0 (gX13_holds S 100 0 σ x0 v4 x3) fun v5 =>
      if ¬ v5 = 0 then
        if ¬ x2 = x1 then
          nm (x2 + (1 : Int32)) fun v6 =>
          fX13_said_b61 S σ x0 x1 v6 x3
        else
          some (.inr (.inl x3))
      else
        fX13_said_b61 S σ x0 x1 x2 x3
def fX13_said_b77 (S : Nat → Nat × Nat) (σ : mm)  (s0 : Int32) : Option (Int32 × mm) :=
  some (s0, σ)
def fX13_said (S : Nat → Nat × Nat) (σ : mm) (x0 : Nat) (x1 : Int32) : Option (Int32 × mm) :=
  wI σ x0 0 (0 : Int32) fun τ1 =>
  gR τ1 x0 14 fun r2 =>
  ldI S τ1 r2 (141 : Int32) fun v3 =>
  if ¬ v3 = 0 then
    bd0 (loopN (fX13_said_L22 S τ1 x0 x1) 1000 ((0 : Int32), (0 : Int32))) (cs2 (fun v5 => some (v5, τ1)) (fun v6 => if ¬ x1 = (-1 : Int32) then
        fX13_said_b77 S τ1 (-1 : Int32)
      else
        fX13_said_b77 S τ1 v6))
  else
    some ((-1 : Int32), τ1)
def fX13_image_L18 (S : Nat → Nat × Nat) (x0 : Nat) (x1 : Int32) : (Int32 × mm) → Option ((Int32 × mm) ⊕ mm) :=
  un2 fun x2 σ =>
  if (383 : Int32) ≤ x2 then
      some (.inr σ)
    else
      gR σ x0 16 fun r1 =>
      gR σ x0 14 fun r2 =>
      ldI S σ r2 x2 fun v3 =>
      stI S σ r1 (((383 : Int32) * x1) + x2) v3 fun τ4 =>
      nm (x2 + (1 : Int32)) fun v5 =>
      some (.inl (v5, τ4))
def fX13_image_L51 (S : Nat → Nat × Nat) (x0 : Nat) (x1 : Int32) : (Int32 × mm) → Option ((Int32 × mm) ⊕ mm) :=
  un2 fun x2 σ =>
  if (18 : Int32) ≤ x2 then
      some (.inr σ)
    else
      gR σ x0 21 fun r1 =>
      gR σ x0 19 fun r2 =>
      ldL S σ r2 x2 fun v3 =>
      stL S σ r1 (((18 : Int32) * x1) + x2) v3 fun τ4 =>
      nm (x2 + (1 : Int32)) fun v5 =>
      some (.inl (v5, τ4))
def fX13_image (S : Nat → Nat × Nat) (σ : mm) (x0 : Nat) (x1 : Int32) : Option (Int32 × mm) :=
  wI σ x0 0 (0 : Int32) fun τ1 =>
  bd0 (fX13_isIn S τ1 x1 (0 : Int32) (1 : Int32)) fun v2 =>
  if ¬ v2 = 0 then
    bd0 (loopN (fX13_image_L18 S x0 x1) 1000 ((0 : Int32), τ1)) (fun τ4 => bd0 (loopN (fX13_image_L51 S x0 x1) 1000 ((0 : Int32), τ4)) (fun τ6 => gR τ6 x0 22 fun r7 =>
    stZ S τ6 r7 x1 (1 : Int32) fun τ8 =>
    some ((1 : Int32), τ8)))
  else
    some ((0 : Int32), τ1)
def fX13_restore_b23 (S : Nat → Nat × Nat) (σ : mm)   : Option (Int32 × mm) :=
  some ((0 : Int32), σ)
def fX13_restore_L27 (S : Nat → Nat × Nat) (x0 : Nat) (x1 : Int32) : (Int32 × mm) → Option ((Int32 × mm) ⊕ mm) :=
  un2 fun x2 σ =>
  if (383 : Int32) ≤ x2 then
      some (.inr σ)
    else
      gR σ x0 14 fun r1 =>
      gR σ x0 16 fun r2 =>
      ldI S σ r2 (((383 : Int32) * x1) + x2) fun v3 =>
      stI S σ r1 x2 v3 fun τ4 =>
      nm (x2 + (1 : Int32)) fun v5 =>
      some (.inl (v5, τ4))
def fX13_restore_L60 (S : Nat → Nat × Nat) (x0 : Nat) (x1 : Int32) : (Int32 × mm) → Option ((Int32 × mm) ⊕ mm) :=
  un2 fun x2 σ =>
  if (18 : Int32) ≤ x2 then
      some (.inr σ)
    else
      gR σ x0 19 fun r1 =>
      gR σ x0 21 fun r2 =>
      ldL S σ r2 (((18 : Int32) * x1) + x2) fun v3 =>
      stL S σ r1 x2 v3 fun τ4 =>
      nm (x2 + (1 : Int32)) fun v5 =>
      some (.inl (v5, τ4))
def fX13_restore (S : Nat → Nat × Nat) (σ : mm) (x0 : Nat) (x1 : Int32) : Option (Int32 × mm) :=
  wI σ x0 0 (0 : Int32) fun τ1 =>
  bd0 (fX13_isIn S τ1 x1 (0 : Int32) (1 : Int32)) fun v2 =>
  if v2 = 0 then
    fX13_restore_b23 S τ1
  else
    gR τ1 x0 22 fun r3 =>
    ldI S τ1 r3 x1 fun v4 =>
    if ¬ v4 = 0 then
      bd0 (loopN (fX13_restore_L27 S x0 x1) 1000 ((0 : Int32), τ1)) (fun τ6 => bd0 (loopN (fX13_restore_L60 S x0 x1) 1000 ((0 : Int32), τ6)) (fun τ8 => wI τ8 x0 23 (0 : Int32) fun τ9 =>
      some ((1 : Int32), τ9)))
    else
      fX13_restore_b23 S τ1
def fX13_count (S : Nat → Nat × Nat) (σ : mm) (x0 : Nat) (x1 : Int32) : Option (Int32 × mm) :=
  wI σ x0 0 (0 : Int32) fun τ1 =>
  if x1 = (0 : Int32) then
    gR τ1 x0 14 fun r2 =>
    ldI S τ1 r2 (0 : Int32) fun v3 =>
    some (v3, τ1)
  else if x1 = (1 : Int32) then
    gR τ1 x0 14 fun r4 =>
    ldI S τ1 r4 (1 : Int32) fun v5 =>
    some (v5, τ1)
  else if x1 = (2 : Int32) then
    gR τ1 x0 14 fun r6 =>
    ldI S τ1 r6 (2 : Int32) fun v7 =>
    some (v7, τ1)
  else if x1 = (3 : Int32) then
    gR τ1 x0 14 fun r8 =>
    ldI S τ1 r8 (3 : Int32) fun v9 =>
    some (v9, τ1)
  else if x1 = (4 : Int32) then
    gR τ1 x0 14 fun r10 =>
    ldI S τ1 r10 (4 : Int32) fun v11 =>
    some (v11, τ1)
  else if x1 = (5 : Int32) then
    gR τ1 x0 14 fun r12 =>
    ldI S τ1 r12 (5 : Int32) fun v13 =>
    some (v13, τ1)
  else if x1 = (6 : Int32) then
    gR τ1 x0 14 fun r14 =>
    ldI S τ1 r14 (6 : Int32) fun v15 =>
    some (v15, τ1)
  else if x1 = (7 : Int32) then
    gR τ1 x0 14 fun r16 =>
    ldI S τ1 r16 (7 : Int32) fun v17 =>
    some (v17, τ1)
  else if x1 = (8 : Int32) then
    some ((τ1.1 x0 2), τ1)
  else some ((-1 : Int32), τ1)
