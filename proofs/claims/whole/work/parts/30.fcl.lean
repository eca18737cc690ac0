/-! methods as functions -/
def fX3_isWoken_b17 (S : Nat → Nat × Nat) (σ : mm)  (s0 : Int32) : Option Int32 :=
  rZ s0 (some s0)
def fX3_isWoken (S : Nat → Nat × Nat) (σ : mm) (x0 : Nat) (x1 : Int32) : Option Int32 :=
  if ¬ (((σ.1 x0 3) >>> (x1 &&& 31)) &&& (1 : Int32)) = (1 : Int32) then
    fX3_isWoken_b17 S σ (0 : Int32)
  else
    fX3_isWoken_b17 S σ (1 : Int32)
def fX4_isUp_b88 (S : Nat → Nat × Nat) (σ : mm)  (s0 : Int32) : Option Int32 :=
  rZ s0 (some s0)
def fX4_isUp_b87 (S : Nat → Nat × Nat) (σ : mm)   : Option Int32 :=
  fX4_isUp_b88 S σ (0 : Int32)
def fX4_isUp_b62 (S : Nat → Nat × Nat) (σ : mm)  (s0 : Int32) : Option Int32 :=
  rZ s0 (some s0)
def fX4_isUp_b57 (S : Nat → Nat × Nat) (σ : mm)   : Option Int32 :=
  fX4_isUp_b62 S σ (1 : Int32)
def fX4_isUp (S : Nat → Nat × Nat) (σ : mm) (x0 : Nat) (x1 : Int32) (x2 : Int32) : Option Int32 :=
  nm (x2 - x2 / (24 : Int32) * (24 : Int32)) fun v1 =>
  gR σ x0 1 fun r2 =>
  ldI S σ r2 x1 fun v3 =>
  gR σ x0 2 fun r4 =>
  ldI S σ r4 x1 fun v5 =>
  if ¬ v3 = v5 then
    gR σ x0 2 fun r6 =>
    ldI S σ r6 x1 fun v7 =>
    gR σ x0 1 fun r8 =>
    ldI S σ r8 x1 fun v9 =>
    if v9 ≤ v7 then
      gR σ x0 1 fun r10 =>
      ldI S σ r10 x1 fun v11 =>
      if v1 < v11 then
        fX4_isUp_b87 S σ
      else
        gR σ x0 2 fun r12 =>
        ldI S σ r12 x1 fun v13 =>
        if v13 ≤ v1 then
          fX4_isUp_b87 S σ
        else
          fX4_isUp_b88 S σ (1 : Int32)
    else
      gR σ x0 1 fun r14 =>
      ldI S σ r14 x1 fun v15 =>
      if v15 ≤ v1 then
        fX4_isUp_b57 S σ
      else
        gR σ x0 2 fun r16 =>
        ldI S σ r16 x1 fun v17 =>
        if v17 ≤ v1 then
          fX4_isUp_b62 S σ (0 : Int32)
        else
          fX4_isUp_b57 S σ
  else
    some (1 : Int32)
def fX1_mood_b64 (S : Nat → Nat × Nat) (σ : mm)  (s0 : Int32) : Option Int32 :=
  some s0
def fX1_mood_b59 (S : Nat → Nat × Nat) (σ : mm)   : Option Int32 :=
  fX1_mood_b64 S σ (5 : Int32)
def fX1_mood_b40 (S : Nat → Nat × Nat) (σ : mm) (x0 : Nat) (x1 : Int32) (x3 : Int32) (s0 : Int32) : Option Int32 :=
  if ¬ s0 = 0 then
    fX1_mood_b59 S σ
  else
    gR σ x0 0 fun r1 =>
    bd0 (fX4_isUp S σ r1 x1 x3) fun v2 =>
    if v2 = 0 then
      fX1_mood_b64 S σ (4 : Int32)
    else
      fX1_mood_b59 S σ
def fX1_mood_b39 (S : Nat → Nat × Nat) (σ : mm) (x0 : Nat) (x1 : Int32) (x3 : Int32)  : Option Int32 :=
  fX1_mood_b40 S σ x0 x1 x3 (0 : Int32)
def fX1_mood (S : Nat → Nat × Nat) (σ : mm) (x0 : Nat) (x1 : Int32) (x2 : Int32) (x3 : Int32) : Option Int32 :=
  gR σ x0 0 fun r1 =>
  if (σ.1 r1 17) ≤ x2 then
    gR σ x0 1 fun r2 =>
    if ¬ x3 = (σ.1 r2 1) then
      fX1_mood_b39 S σ x0 x1 x3
    else
      gR σ x0 1 fun r3 =>
      bd0 (fX3_isWoken S σ r3 x1) fun v4 =>
      if v4 = 0 then
        fX1_mood_b39 S σ x0 x1 x3
      else
        fX1_mood_b40 S σ x0 x1 x3 (1 : Int32)
  else
    some (0 : Int32)
def fX4_isDamp_b38 (S : Nat → Nat × Nat) (σ : mm) (x0 : Nat) (x1 : Int32) (x2 : Int32)  : Option (Int32 ⊕ (Unit ⊕ Unit)) :=
  nm (x2 + (1 : Int32)) fun v1 =>
  some (.inl v1)
def fX4_isDamp_L2 (S : Nat → Nat × Nat) (σ : mm) (x0 : Nat) (x1 : Int32) : Int32 → Option (Int32 ⊕ (Unit ⊕ Unit)) :=
  fun x2 => if (σ.1 x0 14) ≤ x2 then
      some (.inr (.inr ()))
    else
      gR σ x0 13 fun r1 =>
      ldI S σ r1 ((2 : Int32) * x2) fun v2 =>
      if x1 < v2 then
        fX4_isDamp_b38 S σ x0 x1 x2
      else
        gR σ x0 13 fun r3 =>
        ldI S σ r3 (((2 : Int32) * x2) + (1 : Int32)) fun v4 =>
        if v4 < x1 then
          fX4_isDamp_b38 S σ x0 x1 x2
        else
          some (.inr (.inl ()))
def fX4_isDamp (S : Nat → Nat × Nat) (σ : mm) (x0 : Nat) (x1 : Int32) : Option Int32 :=
  bd0 (loopN (fX4_isDamp_L2 S σ x0 x1) 1000 (0 : Int32)) (cs2 (fun (_ : Unit) => some (1 : Int32)) (fun (_ : Unit) => some (0 : Int32)))
def fX3_runsAt_b59 (S : Nat → Nat × Nat) (σ : mm)  (s0 : Int32) : Option Int32 :=
  some s0
def fX3_runsAt_b37 (S : Nat → Nat × Nat) (σ : mm) (x0 : Nat) (x2 : Int32) (x3 : Int32)  : Option Int32 :=
  gR σ x0 0 fun r1 =>
  bd0 (fX4_isDamp S σ r1 x2) fun v2 =>
  if v2 = 0 then
    fX3_runsAt_b59 S σ x3
  else
    fX3_runsAt_b59 S σ (mxI (1 : Int32) (x3 / (2 : Int32)))
def fX3_runsAt (S : Nat → Nat × Nat) (σ : mm) (x0 : Nat) (x1 : Int32) (x2 : Int32) : Option Int32 :=
  gR σ x0 7 fun r1 =>
  ldI S σ r1 x1 fun v2 =>
  if ¬ v2 = (2 : Int32) then
    gR σ x0 8 fun r3 =>
    ldI S σ r3 x1 fun v4 =>
    gR σ x0 7 fun r5 =>
    ldI S σ r5 x1 fun v6 =>
    if ¬ v6 = (1 : Int32) then
      fX3_runsAt_b37 S σ x0 x2 v4
    else
      nm (mxI (1 : Int32) (v4 / (2 : Int32))) fun v7 =>
      fX3_runsAt_b37 S σ x0 x2 v7
  else
    some (0 : Int32)
def fX4_fondNextDay (S : Nat → Nat × Nat) (σ : mm) (x0 : Nat) (x1 : Int32) (x2 : Int32) : Option Int32 :=
  gR σ x0 4 fun r1 =>
  ldI S σ r1 x1 fun v2 =>
  nm (mnI (99 : Int32) (x2 + v2)) fun v3 =>
  gR σ x0 5 fun r4 =>
  ldI S σ r4 x1 fun v5 =>
  some (mxI (0 : Int32) (v3 - v5))
def fX1_look_b143 (S : Nat → Nat × Nat) (σ : mm) (x0 : Nat) (x1 : Int32) (x2 : Int32) (x3 : Int32) (x4 : Int32) (x5 : Int32) (x6 : Int32)  : Option ((Int32 × Int32 × Int32 × mm) ⊕ mm) :=
  nm (x6 + (1 : Int32)) fun v1 =>
  some (.inl (x4, x5, v1, σ))
def fX1_look_L56 (S : Nat → Nat × Nat) (x0 : Nat) (x1 : Int32) (x2 : Int32) (x3 : Int32) : (Int32 × Int32 × Int32 × mm) → Option ((Int32 × Int32 × Int32 × mm) ⊕ mm) :=
  un4 fun x4 x5 x6 σ =>
  if (600 : Int32) ≤ x6 then
      some (.inr σ)
    else
      gR σ x0 2 fun r1 =>
      gR σ x0 1 fun r2 =>
      bd0 (fX3_runsAt S σ r2 x1 x6) fun v3 =>
      stI S σ r1 x6 v3 fun τ4 =>
      gR τ4 x0 3 fun r5 =>
      bd0 (fX1_mood S τ4 x0 x2 x4 x6) fun v6 =>
      bd0 (fX1_mood S τ4 x0 x3 x5 x6) fun v7 =>
      stI S τ4 r5 x6 (v6 ||| (v7 <<< ((1 : Int32) &&& 31))) fun τ8 =>
      if ¬ (x6 - x6 / (24 : Int32) * (24 : Int32)) = (23 : Int32) then
        fX1_look_b143 S τ8 x0 x1 x2 x3 x4 x5 x6
      else
        gR τ8 x0 0 fun r9 =>
        bd0 (fX4_fondNextDay S τ8 r9 x2 x4) fun v10 =>
        gR τ8 x0 0 fun r11 =>
        bd0 (fX4_fondNextDay S τ8 r11 x3 x5) fun v12 =>
        fX1_look_b143 S τ8 x0 x1 x2 x3 v10 v12 x6
def fX1_look (S : Nat → Nat × Nat) (σ : mm) (x0 : Nat) (x1 : Int32) : Option mm :=
  wI σ x0 4 x1 fun τ1 =>
  gR τ1 x0 0 fun r2 =>
  gR τ1 r2 8 fun r3 =>
  ldI S τ1 r3 x1 fun v4 =>
  gR τ1 x0 0 fun r5 =>
  gR τ1 r5 9 fun r6 =>
  ldI S τ1 r6 x1 fun v7 =>
  gR τ1 x0 1 fun r8 =>
  gR τ1 r8 4 fun r9 =>
  ldI S τ1 r9 v4 fun v10 =>
  gR τ1 x0 1 fun r11 =>
  gR τ1 r11 4 fun r12 =>
  ldI S τ1 r12 v7 fun v13 =>
  gR τ1 x0 1 fun r14 =>
  nm (τ1.1 r14 1) fun v15 =>
  bd0 (loopN (fX1_look_L56 S x0 x1 v4 v7) 1000 (v10, v13, v15, τ1)) (fun τ17 => some τ17)
def fX1_start (S : Nat → Nat × Nat) (σ : mm) (x0 : Nat) : Option Int32 :=
  gR σ x0 1 fun r1 =>
  some (σ.1 r1 1)
def fX1_grains (S : Nat → Nat × Nat) (σ : mm) (x0 : Nat) : Option Int32 :=
  gR σ x0 0 fun r1 =>
  gR σ r1 10 fun r2 =>
  ldI S σ r2 (σ.1 x0 4) fun v3 =>
  some v3
def fX1_grace (S : Nat → Nat × Nat) (σ : mm) (x0 : Nat) : Option Int32 :=
  gR σ x0 0 fun r1 =>
  some (σ.1 r1 16)
def fX1_waited (S : Nat → Nat × Nat) (σ : mm) (x0 : Nat) : Option Int32 :=
  gR σ x0 1 fun r1 =>
  gR σ r1 9 fun r2 =>
  ldI S σ r2 (σ.1 x0 4) fun v3 =>
  some v3
def fX1_has_b27 (S : Nat → Nat × Nat) (σ : mm)  (s0 : Int32) : Option Int32 :=
  rZ s0 (some s0)
def fX1_has_b26 (S : Nat → Nat × Nat) (σ : mm)   : Option Int32 :=
  fX1_has_b27 S σ (0 : Int32)
def fX1_has (S : Nat → Nat × Nat) (σ : mm) (x0 : Nat) (x1 : Int32) (x2 : Int32) : Option Int32 :=
  if x1 < 0 then
    fX1_has_b26 S σ
  else
    if (600 : Int32) ≤ x1 then
      fX1_has_b26 S σ
    else
      gR σ x0 3 fun r1 =>
      ldI S σ r1 x1 fun v2 =>
      if (v2 &&& x2) = 0 then
        fX1_has_b26 S σ
      else
        fX1_has_b27 S σ (1 : Int32)
def fX1_isSomeoneWilling (S : Nat → Nat × Nat) (σ : mm) (x0 : Nat) (x1 : Int32) : Option Int32 :=
  bd0 (fX1_has S σ x0 x1 (3 : Int32)) fun v1 =>
  rZ v1 (some v1)
def fX1_areBothWilling_b23 (S : Nat → Nat × Nat) (σ : mm)  (s0 : Int32) : Option Int32 :=
  rZ s0 (some s0)
def fX1_areBothWilling_b22 (S : Nat → Nat × Nat) (σ : mm)   : Option Int32 :=
  fX1_areBothWilling_b23 S σ (0 : Int32)
def fX1_areBothWilling (S : Nat → Nat × Nat) (σ : mm) (x0 : Nat) (x1 : Int32) : Option Int32 :=
  bd0 (fX1_has S σ x0 x1 (1 : Int32)) fun v1 =>
  if v1 = 0 then
    fX1_areBothWilling_b22 S σ
  else
    bd0 (fX1_has S σ x0 x1 (2 : Int32)) fun v2 =>
    if v2 = 0 then
      fX1_areBothWilling_b22 S σ
    else
      fX1_areBothWilling_b23 S σ (1 : Int32)
def fX1_endFrom_L9 (S : Nat → Nat × Nat) (σ : mm) (x0 : Nat) : (Int32 × Int32) → Option ((Int32 × Int32) ⊕ (Int32 ⊕ Unit)) :=
  un2 fun x3 x4 =>
  if (600 : Int32) ≤ x4 then
      some (.inr (.inr ()))
    else
      if 0 < x3 then
        gR σ x0 2 fun r1 =>
        ldI S σ r1 x4 fun v2 =>
        nm (x3 - v2) fun v3 =>
        nm (x4 + (1 : Int32)) fun v4 =>
        some (.inl (v3, v4))
      else
        some (.inr (.inl x4))
def fX1_endFrom (S : Nat → Nat × Nat) (σ : mm) (x0 : Nat) (x1 : Int32) (x2 : Int32) : Option Int32 :=
  nm (mxI (0 : Int32) x1) fun v1 =>
  bd0 (loopN (fX1_endFrom_L9 S σ x0) 1000 (x2, v1)) (cs2 (fun v3 => some v3) (fun (_ : Unit) => some (600 : Int32)))
def fX1_endNow (S : Nat → Nat × Nat) (σ : mm) (x0 : Nat) : Option Int32 :=
  gR σ x0 1 fun r1 =>
  gR σ x0 1 fun r2 =>
  gR σ r2 6 fun r3 =>
  ldI S σ r3 (σ.1 x0 4) fun v4 =>
  bd0 (fX1_endFrom S σ x0 (σ.1 r1 1) v4) fun v5 =>
  some v5
def fX1_lapseHour_b105 (S : Nat → Nat × Nat) (σ : mm) (x0 : Nat) (x2 : Int32) (x3 : Int32) (x4 : Int32) (x5 : Int32) (x6 : Int32)  : Option ((Int32 × Int32 × Int32) ⊕ (Int32 ⊕ Unit)) :=
  nm (x6 + (1 : Int32)) fun v1 =>
  some (.inl (x4, x5, v1))
def fX1_lapseHour_L26 (S : Nat → Nat × Nat) (σ : mm) (x0 : Nat) (x2 : Int32) (x3 : Int32) : (Int32 × Int32 × Int32) → Option ((Int32 × Int32 × Int32) ⊕ (Int32 ⊕ Unit)) :=
  un3 fun x4 x5 x6 =>
  if x3 ≤ x6 then
      some (.inr (.inr ()))
    else
      if (600 : Int32) ≤ x6 then
        some (.inr (.inr ()))
      else
        if x4 ≤ 0 then
          bd0 (fX1_isSomeoneWilling S σ x0 x6) fun v1 =>
          if v1 = 0 then
            nm (x5 + (1 : Int32)) fun v2 =>
            if v2 < x2 then
              fX1_lapseHour_b105 S σ x0 x2 x3 x4 v2 x6
            else
              some (.inr (.inl x6))
          else
            gR σ x0 0 fun r3 =>
            gR σ r3 10 fun r4 =>
            ldI S σ r4 (σ.1 x0 4) fun v5 =>
            fX1_lapseHour_b105 S σ x0 x2 x3 v5 (0 : Int32) x6
        else
          gR σ x0 2 fun r6 =>
          ldI S σ r6 x6 fun v7 =>
          nm (mxI (0 : Int32) (x4 - v7)) fun v8 =>
          fX1_lapseHour_b105 S σ x0 x2 x3 v8 x5 x6
def fX1_lapseHour_b111 (S : Nat → Nat × Nat) (σ : mm)   : Option Int32 :=
  some (-1 : Int32)
def fX1_lapseHour (S : Nat → Nat × Nat) (σ : mm) (x0 : Nat) (x1 : Int32) (x2 : Int32) (x3 : Int32) : Option Int32 :=
  gR σ x0 1 fun r1 =>
  gR σ r1 9 fun r2 =>
  ldI S σ r2 (σ.1 x0 4) fun v3 =>
  gR σ x0 1 fun r4 =>
  nm (σ.1 r4 1) fun v5 =>
  bd0 (loopN (fX1_lapseHour_L26 S σ x0 x2 x3) 1000 (x1, v3, v5)) (cs2 (fun v7 => some v7) (fun (_ : Unit) => fX1_lapseHour_b111 S σ))
def fX1_weighGrains_b81 (S : Nat → Nat × Nat) (σ : mm) (x0 : Nat) (x2 : Int32) (x3 : Int32)  : Option ((Int32 × Int32 × mm) ⊕ mm) :=
  nm (x2 + (1 : Int32)) fun v1 =>
  some (.inl (x3, v1, σ))
def fX1_weighGrains_L20 (S : Nat → Nat × Nat) (x0 : Nat) : (Int32 × Int32 × mm) → Option ((Int32 × Int32 × mm) ⊕ mm) :=
  un3 fun x1 x2 σ =>
  if (599 : Int32) ≤ x2 then
      some (.inr σ)
    else
      if (250 : Int32) ≤ x1 then
        some (.inr σ)
      else
        gR σ x0 2 fun r1 =>
        ldI S σ r1 x2 fun v2 =>
        nm (mnI (250 : Int32) (x1 + v2)) fun v3 =>
        if v3 ≤ x1 then
          fX1_weighGrains_b81 S σ x0 x2 v3
        else
          bd0 (fX1_areBothWilling S σ x0 (x2 + (1 : Int32))) fun v4 =>
          if v4 = 0 then
            fX1_weighGrains_b81 S σ x0 x2 v3
          else
            wI σ x0 5 v3 fun τ5 =>
            wI τ5 x0 6 ((τ5.1 x0 6) + (v3 - x1)) fun τ6 =>
            fX1_weighGrains_b81 S τ6 x0 x2 v3
def fX1_weighGrains_b89 (S : Nat → Nat × Nat) (σ : mm)   : Option mm :=
  some σ
def fX1_weighGrains (S : Nat → Nat × Nat) (σ : mm) (x0 : Nat) : Option mm :=
  wI σ x0 5 (-1 : Int32) fun τ1 =>
  wI τ1 x0 6 (0 : Int32) fun τ2 =>
  gR τ2 x0 1 fun r3 =>
  nm (τ2.1 r3 1) fun v4 =>
  bd0 (loopN (fX1_weighGrains_L20 S x0) 1000 ((0 : Int32), v4, τ2)) (fun τ6 => fX1_weighGrains_b89 S τ6)
def fX1_findLastTurner_b90 (S : Nat → Nat × Nat) (σ : mm) (x0 : Nat) (x1 : Int32) (x2 : Int32)  : Option ((Int32 × mm) ⊕ mm) :=
  nm (x2 + (1 : Int32)) fun v1 =>
  some (.inl (v1, σ))
def fX1_findLastTurner_b87 (S : Nat → Nat × Nat) (σ : mm) (x0 : Nat) (x1 : Int32) (x2 : Int32) (s0 : Nat) (s1 : Int32) : Option ((Int32 × mm) ⊕ mm) :=
  wI σ s0 7 s1 fun τ1 =>
  fX1_findLastTurner_b90 S τ1 x0 x1 x2
def fX1_findLastTurner_L17 (S : Nat → Nat × Nat) (x0 : Nat) (x1 : Int32) : (Int32 × mm) → Option ((Int32 × mm) ⊕ mm) :=
  un2 fun x2 σ =>
  gR σ x0 0 fun r1 =>
    if (x1 + (σ.1 r1 16)) ≤ x2 then
      some (.inr σ)
    else
      if (600 : Int32) ≤ x2 then
        some (.inr σ)
      else
        bd0 (fX1_isSomeoneWilling S σ x0 x2) fun v2 =>
        if v2 = 0 then
          fX1_findLastTurner_b90 S σ x0 x1 x2
        else
          wI σ x0 8 x2 fun τ3 =>
          bd0 (fX1_has S τ3 x0 x2 (2 : Int32)) fun v4 =>
          if v4 = 0 then
            gR τ3 x0 0 fun r5 =>
            gR τ3 r5 8 fun r6 =>
            ldI S τ3 r6 (τ3.1 x0 4) fun v7 =>
            fX1_findLastTurner_b87 S τ3 x0 x1 x2 x0 v7
          else
            gR τ3 x0 0 fun r8 =>
            gR τ3 r8 9 fun r9 =>
            ldI S τ3 r9 (τ3.1 x0 4) fun v10 =>
            fX1_findLastTurner_b87 S τ3 x0 x1 x2 x0 v10
def fX1_findLastTurner_b96 (S : Nat → Nat × Nat) (σ : mm)   : Option mm :=
  some σ
def fX1_findLastTurner (S : Nat → Nat × Nat) (σ : mm) (x0 : Nat) : Option mm :=
  wI σ x0 7 (-1 : Int32) fun τ1 =>
  wI τ1 x0 8 (-1 : Int32) fun τ2 =>
  bd0 (fX1_endNow S τ2 x0) fun v3 =>
  bd0 (loopN (fX1_findLastTurner_L17 S x0 v3) 1000 (v3, τ2)) (fun τ5 => fX1_findLastTurner_b96 S τ5)
def fX2_copyFrom (S : Nat → Nat × Nat) (σ : mm) (x0 : Nat) (x1 : Nat) : Option mm :=
  gR σ x1 0 fun r1 =>
  gR σ x0 0 fun r2 =>
  cpL S σ r1 (0 : Int32) r2 (0 : Int32) (6 : Int32) fun τ3 =>
  gR τ3 x1 1 fun r4 =>
  gR τ3 x0 1 fun r5 =>
  cpI S τ3 r4 (0 : Int32) r5 (0 : Int32) (6 : Int32) fun τ6 =>
  gR τ6 x1 2 fun r7 =>
  gR τ6 x0 2 fun r8 =>
  cpI S τ6 r7 (0 : Int32) r8 (0 : Int32) (6 : Int32) fun τ9 =>
  gR τ9 x1 3 fun r10 =>
  gR τ9 x0 3 fun r11 =>
  cpI S τ9 r10 (0 : Int32) r11 (0 : Int32) (6 : Int32) fun τ12 =>
  wI τ12 x0 4 (τ12.1 x1 4) fun τ13 =>
  some τ13
def fX2_allOf_b28 (S : Nat → Nat × Nat) (σ : mm) (x0 : Nat) (x1 : Int32) (x2 : Int32) (x3 : Int32)  : Option ((Int32 × Int32) ⊕ Int32) :=
  nm (x3 + (1 : Int32)) fun v1 =>
  some (.inl (x2, v1))
def fX2_allOf_L4 (S : Nat → Nat × Nat) (σ : mm) (x0 : Nat) (x1 : Int32) : (Int32 × Int32) → Option ((Int32 × Int32) ⊕ Int32) :=
  un2 fun x2 x3 =>
  if (σ.1 x0 4) ≤ x3 then
      some (.inr x2)
    else
      gR σ x0 1 fun r1 =>
      ldI S σ r1 x3 fun v2 =>
      if ¬ v2 = x1 then
        fX2_allOf_b28 S σ x0 x1 x2 x3
      else
        nm (x2 ||| ((1 : Int32) <<< (x3 &&& 31))) fun v3 =>
        fX2_allOf_b28 S σ x0 x1 v3 x3
def fX2_allOf (S : Nat → Nat × Nat) (σ : mm) (x0 : Nat) (x1 : Int32) : Option Int32 :=
  bd0 (loopN (fX2_allOf_L4 S σ x0 x1) 1000 ((0 : Int32), (0 : Int32))) (fun v2 => some v2)
def fX2_lesserSum_b63 (S : Nat → Nat × Nat) (σ : mm) (x0 : Nat) (x1 : Int32) (x2 : Int32) (x3 : Int32) (x4 : Int32) (x5 : Int32)  : Option ((Int32 × Int32 × Int32) ⊕ (Int32 × Int32)) :=
  nm (x5 + (1 : Int32)) fun v1 =>
  some (.inl (x3, x4, v1))
def fX2_lesserSum_L8 (S : Nat → Nat × Nat) (σ : mm) (x0 : Nat) (x1 : Int32) (x2 : Int32) : (Int32 × Int32 × Int32) → Option ((Int32 × Int32 × Int32) ⊕ (Int32 × Int32)) :=
  un3 fun x3 x4 x5 =>
  if (σ.1 x0 4) ≤ x5 then
      some (.inr (x3, x4))
    else
      gR σ x0 1 fun r1 =>
      ldI S σ r1 x5 fun v2 =>
      if ¬ v2 = x1 then
        fX2_lesserSum_b63 S σ x0 x1 x2 x3 x4 x5
      else
        if ¬ ((x2 >>> (x5 &&& 31)) &&& (1 : Int32)) = (1 : Int32) then
          gR σ x0 3 fun r3 =>
          ldI S σ r3 x5 fun v4 =>
          nm (x4 + v4) fun v5 =>
          fX2_lesserSum_b63 S σ x0 x1 x2 x3 v5 x5
        else
          gR σ x0 2 fun r6 =>
          ldI S σ r6 x5 fun v7 =>
          nm (x3 + v7) fun v8 =>
          fX2_lesserSum_b63 S σ x0 x1 x2 v8 x4 x5
def fX2_lesserSum (S : Nat → Nat × Nat) (σ : mm) (x0 : Nat) (x1 : Int32) (x2 : Int32) : Option Int32 :=
  bd0 (loopN (fX2_lesserSum_L8 S σ x0 x1 x2) 1000 ((0 : Int32), (0 : Int32), (0 : Int32))) (un2 fun v2 v3 => some (mnI v2 v3))
def fX2_bestParting_b61 (S : Nat → Nat × Nat) (σ : mm) (x0 : Nat) (x1 : Int32) (x2 : Int32) (x3 : Int32) (x4 : Int32) (x5 : Int32)  : Option ((Int32 × Int32 × Int32) ⊕ Int32) :=
  nm (x5 + (1 : Int32)) fun v1 =>
  some (.inl (x3, x4, v1))
def fX2_bestParting_b45 (S : Nat → Nat × Nat) (σ : mm) (x0 : Nat) (x1 : Int32) (x2 : Int32) (x3 : Int32) (x4 : Int32) (x5 : Int32) (s0 : Int32) : Option ((Int32 × Int32 × Int32) ⊕ Int32) :=
  if s0 ≤ x4 then
    fX2_bestParting_b61 S σ x0 x1 x2 x3 x4 x5
  else
    fX2_bestParting_b61 S σ x0 x1 x2 x5 s0 x5
def fX2_bestParting_L14 (S : Nat → Nat × Nat) (σ : mm) (x0 : Nat) (x1 : Int32) (x2 : Int32) : (Int32 × Int32 × Int32) → Option ((Int32 × Int32 × Int32) ⊕ Int32) :=
  un3 fun x3 x4 x5 =>
  if ((1 : Int32) <<< ((σ.1 x0 4) &&& 31)) ≤ x5 then
      some (.inr x3)
    else
      if ¬ (x5 &&& (x2 ^^^ (-1 : Int32))) = 0 then
        fX2_bestParting_b45 S σ x0 x1 x2 x3 x4 x5 (-1 : Int32)
      else
        bd0 (fX2_lesserSum S σ x0 x1 x5) fun v1 =>
        fX2_bestParting_b45 S σ x0 x1 x2 x3 x4 x5 v1
def fX2_bestParting (S : Nat → Nat × Nat) (σ : mm) (x0 : Nat) (x1 : Int32) : Option Int32 :=
  bd0 (fX2_allOf S σ x0 x1) fun v1 =>
  bd0 (loopN (fX2_bestParting_L14 S σ x0 x1 v1) 1000 ((0 : Int32), (-1 : Int32), (0 : Int32))) (fun v3 => some v3)
def fX3_begin_L17 (S : Nat → Nat × Nat) (x0 : Nat) : (Int32 × mm) → Option ((Int32 × mm) ⊕ mm) :=
  un2 fun x1 σ =>
  gR σ x0 0 fun r1 =>
    if (σ.1 r1 6) ≤ x1 then
      some (.inr σ)
    else
      gR σ x0 4 fun r2 =>
      gR σ x0 0 fun r3 =>
      gR σ r3 3 fun r4 =>
      ldI S σ r4 x1 fun v5 =>
      stI S σ r2 x1 v5 fun τ6 =>
      gR τ6 x0 5 fun r7 =>
      stI S τ6 r7 x1 (0 : Int32) fun τ8 =>
      nm (x1 + (1 : Int32)) fun v9 =>
      some (.inl (v9, τ8))
def fX3_begin_L58 (S : Nat → Nat × Nat) (x0 : Nat) : (Int32 × mm) → Option ((Int32 × mm) ⊕ mm) :=
  un2 fun x1 σ =>
  gR σ x0 0 fun r1 =>
    if (σ.1 r1 12) ≤ x1 then
      some (.inr σ)
    else
      gR σ x0 6 fun r2 =>
      gR σ x0 0 fun r3 =>
      gR σ r3 10 fun r4 =>
      ldI S σ r4 x1 fun v5 =>
      stI S σ r2 x1 v5 fun τ6 =>
      gR τ6 x0 7 fun r7 =>
      stI S τ6 r7 x1 (0 : Int32) fun τ8 =>
      gR τ8 x0 8 fun r9 =>
      gR τ8 x0 0 fun r10 =>
      gR τ8 r10 11 fun r11 =>
      ldI S τ8 r11 x1 fun v12 =>
      stI S τ8 r9 x1 v12 fun τ13 =>
      gR τ13 x0 9 fun r14 =>
      stI S τ13 r14 x1 (0 : Int32) fun τ15 =>
      gR τ15 x0 10 fun r16 =>
      stI S τ15 r16 x1 (0 : Int32) fun τ17 =>
      nm (x1 + (1 : Int32)) fun v18 =>
      some (.inl (v18, τ17))
def fX3_begin (S : Nat → Nat × Nat) (σ : mm) (x0 : Nat) : Option mm :=
  wI σ x0 1 (0 : Int32) fun τ1 =>
  wI τ1 x0 2 (0 : Int32) fun τ2 =>
  wI τ2 x0 3 (0 : Int32) fun τ3 =>
  bd0 (loopN (fX3_begin_L17 S x0) 1000 ((0 : Int32), τ3)) (fun τ5 => bd0 (loopN (fX3_begin_L58 S x0) 1000 ((0 : Int32), τ5)) (fun τ7 => some τ7))
def fX3_copyFrom (S : Nat → Nat × Nat) (σ : mm) (x0 : Nat) (x1 : Nat) : Option mm :=
  wI σ x0 1 (σ.1 x1 1) fun τ1 =>
  wI τ1 x0 2 (τ1.1 x1 2) fun τ2 =>
  wI τ2 x0 3 (τ2.1 x1 3) fun τ3 =>
  gR τ3 x1 4 fun r4 =>
  gR τ3 x0 4 fun r5 =>
  cpI S τ3 r4 (0 : Int32) r5 (0 : Int32) (8 : Int32) fun τ6 =>
  gR τ6 x1 5 fun r7 =>
  gR τ6 x0 5 fun r8 =>
  cpI S τ6 r7 (0 : Int32) r8 (0 : Int32) (8 : Int32) fun τ9 =>
  gR τ9 x1 6 fun r10 =>
  gR τ9 x0 6 fun r11 =>
  cpI S τ9 r10 (0 : Int32) r11 (0 : Int32) (4 : Int32) fun τ12 =>
  gR τ12 x1 7 fun r13 =>
  gR τ12 x0 7 fun r14 =>
  cpI S τ12 r13 (0 : Int32) r14 (0 : Int32) (4 : Int32) fun τ15 =>
  gR τ15 x1 8 fun r16 =>
  gR τ15 x0 8 fun r17 =>
  cpI S τ15 r16 (0 : Int32) r17 (0 : Int32) (4 : Int32) fun τ18 =>
  gR τ18 x1 9 fun r19 =>
  gR τ18 x0 9 fun r20 =>
  cpI S τ18 r19 (0 : Int32) r20 (0 : Int32) (4 : Int32) fun τ21 =>
  gR τ21 x1 10 fun r22 =>
  gR τ21 x0 10 fun r23 =>
  cpI S τ21 r22 (0 : Int32) r23 (0 : Int32) (4 : Int32) fun τ24 =>
  some τ24
def fX3_isAwake_b28 (S : Nat → Nat × Nat) (σ : mm)  (s0 : Int32) : Option Int32 :=
  rZ s0 (some s0)
def fX3_isAwake_b23 (S : Nat → Nat × Nat) (σ : mm)   : Option Int32 :=
  fX3_isAwake_b28 S σ (1 : Int32)
def fX3_isAwake (S : Nat → Nat × Nat) (σ : mm) (x0 : Nat) (x1 : Int32) : Option Int32 :=
  bd0 (fX3_isWoken S σ x0 x1) fun v1 =>
  if ¬ v1 = 0 then
    fX3_isAwake_b23 S σ
  else
    gR σ x0 0 fun r2 =>
    bd0 (fX4_isUp S σ r2 x1 (σ.1 x0 1)) fun v3 =>
    if v3 = 0 then
      fX3_isAwake_b28 S σ (0 : Int32)
    else
      fX3_isAwake_b23 S σ
def fX3_isWilling_b29 (S : Nat → Nat × Nat) (σ : mm)  (s0 : Int32) : Option Int32 :=
  rZ s0 (some s0)
def fX3_isWilling_b28 (S : Nat → Nat × Nat) (σ : mm)   : Option Int32 :=
  fX3_isWilling_b29 S σ (0 : Int32)
def fX3_isWilling (S : Nat → Nat × Nat) (σ : mm) (x0 : Nat) (x1 : Int32) : Option Int32 :=
  gR σ x0 4 fun r1 =>
  ldI S σ r1 x1 fun v2 =>
  gR σ x0 0 fun r3 =>
  if v2 < (σ.1 r3 17) then
    fX3_isWilling_b28 S σ
  else
    bd0 (fX3_isAwake S σ x0 x1) fun v4 =>
    if v4 = 0 then
      fX3_isWilling_b28 S σ
    else
      fX3_isWilling_b29 S σ (1 : Int32)
def fX3_isLapsed_b17 (S : Nat → Nat × Nat) (σ : mm)  (s0 : Int32) : Option Int32 :=
  rZ s0 (some s0)
def fX3_isLapsed (S : Nat → Nat × Nat) (σ : mm) (x0 : Nat) (x1 : Int32) : Option Int32 :=
  if ¬ (((σ.1 x0 2) >>> (x1 &&& 31)) &&& (1 : Int32)) = (1 : Int32) then
    fX3_isLapsed_b17 S σ (0 : Int32)
  else
    fX3_isLapsed_b17 S σ (1 : Int32)
def fX3_awakeBits_b29 (S : Nat → Nat × Nat) (σ : mm) (x0 : Nat) (x1 : Int32) (x2 : Int32)  : Option ((Int32 × Int32) ⊕ Int32) :=
  nm (x2 + (1 : Int32)) fun v1 =>
  some (.inl (x1, v1))
def fX3_awakeBits_L4 (S : Nat → Nat × Nat) (σ : mm) (x0 : Nat) : (Int32 × Int32) → Option ((Int32 × Int32) ⊕ Int32) :=
  un2 fun x1 x2 =>
  gR σ x0 0 fun r1 =>
    if (σ.1 r1 6) ≤ x2 then
      some (.inr x1)
    else
      bd0 (fX3_isAwake S σ x0 x2) fun v2 =>
      if v2 = 0 then
        fX3_awakeBits_b29 S σ x0 x1 x2
      else
        nm (x1 ||| ((1 : Int32) <<< (x2 &&& 31))) fun v3 =>
        fX3_awakeBits_b29 S σ x0 v3 x2
def fX3_awakeBits (S : Nat → Nat × Nat) (σ : mm) (x0 : Nat) : Option Int32 :=
  bd0 (loopN (fX3_awakeBits_L4 S σ x0) 1000 ((0 : Int32), (0 : Int32))) (fun v2 => some v2)
def fX3_sumOverGlasses_L4 (S : Nat → Nat × Nat) (σ : mm) (x0 : Nat) (x1 : Nat) : (Int32 × Int32) → Option ((Int32 × Int32) ⊕ Int32) :=
  un2 fun x2 x3 =>
  gR σ x0 0 fun r1 =>
    if (σ.1 r1 12) ≤ x3 then
      some (.inr x2)
    else
      if (Int32.ofNat (S x1).2) ≤ x3 then
        some (.inr x2)
      else
        ldI S σ x1 x3 fun v2 =>
        nm (x2 + v2) fun v3 =>
        nm (x3 + (1 : Int32)) fun v4 =>
        some (.inl (v3, v4))
def fX3_sumOverGlasses_b33 (S : Nat → Nat × Nat) (σ : mm) (x2 : Int32)  : Option Int32 :=
  some x2
def fX3_sumOverGlasses (S : Nat → Nat × Nat) (σ : mm) (x0 : Nat) (x1 : Nat) : Option Int32 :=
  bd0 (loopN (fX3_sumOverGlasses_L4 S σ x0 x1) 1000 ((0 : Int32), (0 : Int32))) (fun v2 => fX3_sumOverGlasses_b33 S σ v2)
def fX3_hoursOf (S : Nat → Nat × Nat) (σ : mm) (x0 : Nat) (x1 : Int32) : Option Int32 :=
  some (mnI x1 ((600 : Int32) - (σ.1 x0 1)))
def fX3_whyNotTilt_b42 (S : Nat → Nat × Nat) (σ : mm)  (s0 : Int32) : Option Int32 :=
  some s0
def fX3_whyNotTilt_b41 (S : Nat → Nat × Nat) (σ : mm)   : Option Int32 :=
  fX3_whyNotTilt_b42 S σ (0 : Int32)
def fX3_whyNotTilt (S : Nat → Nat × Nat) (σ : mm) (x0 : Nat) (x1 : Int32) (x2 : Int32) : Option Int32 :=
  bd0 (fX3_isLapsed S σ x0 x1) fun v1 =>
  if v1 = 0 then
    gR σ x0 7 fun r2 =>
    ldI S σ r2 x1 fun v3 =>
    if ¬ v3 = x2 then
      if ¬ x2 = (2 : Int32) then
        fX3_whyNotTilt_b41 S σ
      else
        gR σ x0 0 fun r4 =>
        if ¬ (σ.1 r4 19) = 0 then
          fX3_whyNotTilt_b41 S σ
        else
          fX3_whyNotTilt_b42 S σ (3 : Int32)
    else
      some (2 : Int32)
  else
    some (1 : Int32)
def fX4_glassOf_L2 (S : Nat → Nat × Nat) (σ : mm) (x0 : Nat) (x1 : Int32) : Int32 → Option (Int32 ⊕ (Int32 ⊕ Unit)) :=
  fun x2 => if (σ.1 x0 12) ≤ x2 then
      some (.inr (.inr ()))
    else
      gR σ x0 8 fun r1 =>
      ldI S σ r1 x2 fun v2 =>
      if v2 = x1 then
        some (.inr (.inl x2))
      else
        gR σ x0 9 fun r3 =>
        ldI S σ r3 x2 fun v4 =>
        if ¬ v4 = x1 then
          nm (x2 + (1 : Int32)) fun v5 =>
          some (.inl v5)
        else
          some (.inr (.inl x2))
def fX4_glassOf_b30 (S : Nat → Nat × Nat) (σ : mm) (x2 : Int32)  : Option Int32 :=
  some x2
def fX4_glassOf (S : Nat → Nat × Nat) (σ : mm) (x0 : Nat) (x1 : Int32) : Option Int32 :=
  bd0 (loopN (fX4_glassOf_L2 S σ x0 x1) 1000 (0 : Int32)) (cs2 (fun v2 => fX4_glassOf_b30 S σ v2) (fun (_ : Unit) => some (-1 : Int32)))
def fX4_hasGlass_b17 (S : Nat → Nat × Nat) (σ : mm)  (s0 : Int32) : Option Int32 :=
  rZ s0 (some s0)
def fX4_hasGlass_b16 (S : Nat → Nat × Nat) (σ : mm)   : Option Int32 :=
  fX4_hasGlass_b17 S σ (0 : Int32)
def fX4_hasGlass (S : Nat → Nat × Nat) (σ : mm) (x0 : Nat) (x1 : Int32) : Option Int32 :=
  if x1 < 0 then
    fX4_hasGlass_b16 S σ
  else
    if (σ.1 x0 12) ≤ x1 then
      fX4_hasGlass_b16 S σ
    else
      fX4_hasGlass_b17 S σ (1 : Int32)
def fX3_isWedStill_b33 (S : Nat → Nat × Nat) (σ : mm)  (s0 : Int32) : Option Int32 :=
  rZ s0 (some s0)
def fX3_isWedStill_b32 (S : Nat → Nat × Nat) (σ : mm)   : Option Int32 :=
  fX3_isWedStill_b33 S σ (0 : Int32)
def fX3_isWedStill (S : Nat → Nat × Nat) (σ : mm) (x0 : Nat) (x1 : Int32) : Option Int32 :=
  gR σ x0 0 fun r1 =>
  bd0 (fX4_glassOf S σ r1 x1) fun v2 =>
  gR σ x0 0 fun r3 =>
  bd0 (fX4_hasGlass S σ r3 v2) fun v4 =>
  if v4 = 0 then
    fX3_isWedStill_b32 S σ
  else
    bd0 (fX3_isLapsed S σ x0 v2) fun v5 =>
    if ¬ v5 = 0 then
      fX3_isWedStill_b32 S σ
    else
      fX3_isWedStill_b33 S σ (1 : Int32)
def fX3_whyNotTurn_b73 (S : Nat → Nat × Nat) (σ : mm)  (s0 : Int32) : Option Int32 :=
  some s0
def fX3_whyNotTurn_b50 (S : Nat → Nat × Nat) (σ : mm) (x0 : Nat) (x2 : Int32)  : Option Int32 :=
  gR σ x0 6 fun r1 =>
  ldI S σ r1 x2 fun v2 =>
  gR σ x0 0 fun r3 =>
  gR σ r3 10 fun r4 =>
  ldI S σ r4 x2 fun v5 =>
  if ¬ v2 = v5 then
    fX3_whyNotTurn_b73 S σ (0 : Int32)
  else
    fX3_whyNotTurn_b73 S σ (4 : Int32)
def fX3_whyNotTurn (S : Nat → Nat × Nat) (σ : mm) (x0 : Nat) (x1 : Int32) : Option Int32 :=
  bd0 (fX3_isWedStill S σ x0 x1) fun v1 =>
  if ¬ v1 = 0 then
    bd0 (fX3_isAwake S σ x0 x1) fun v2 =>
    if ¬ v2 = 0 then
      gR σ x0 0 fun r3 =>
      bd0 (fX4_glassOf S σ r3 x1) fun v4 =>
      gR σ x0 6 fun r5 =>
      ldI S σ r5 v4 fun v6 =>
      if v6 ≤ 0 then
        fX3_whyNotTurn_b50 S σ x0 v4
      else
        gR σ x0 0 fun r7 =>
        if ¬ (σ.1 r7 18) = 0 then
          fX3_whyNotTurn_b50 S σ x0 v4
        else
          some (3 : Int32)
    else
      some (2 : Int32)
  else
    some (1 : Int32)
def fX3_whyNotWoo_b23 (S : Nat → Nat × Nat) (σ : mm)  (s0 : Int32) : Option Int32 :=
  some s0
def fX3_whyNotWoo (S : Nat → Nat × Nat) (σ : mm) (x0 : Nat) (x1 : Int32) : Option Int32 :=
  bd0 (fX3_isWedStill S σ x0 x1) fun v1 =>
  if ¬ v1 = 0 then
    bd0 (fX3_isAwake S σ x0 x1) fun v2 =>
    if v2 = 0 then
      fX3_whyNotWoo_b23 S σ (2 : Int32)
    else
      fX3_whyNotWoo_b23 S σ (0 : Int32)
  else
    some (1 : Int32)
def fX3_whyNot_b59 (S : Nat → Nat × Nat) (σ : mm)  (s0 : Int32) : Option Int32 :=
  some s0
def fX3_whyNot_b103 (S : Nat → Nat × Nat) (σ : mm)  (s0 : Int32) : Option Int32 :=
  some s0
def fX3_whyNot_b131 (S : Nat → Nat × Nat) (σ : mm)  (s0 : Int32) : Option Int32 :=
  some s0
def fX3_whyNot_b149 (S : Nat → Nat × Nat) (σ : mm)  (s0 : Int32) : Option Int32 :=
  some s0
def fX3_whyNot (S : Nat → Nat × Nat) (σ : mm) (x0 : Nat) (x1 : Int32) (x2 : Int32) (x3 : Int32) : Option Int32 :=
  if x1 = (0 : Int32) then
    bd0 (fX3_whyNotTurn S σ x0 x2) fun v1 =>
    some v1
  else if x1 = (1 : Int32) then
    bd0 (fX3_isAwake S σ x0 x2) fun v2 =>
    if v2 = 0 then
      fX3_whyNot_b59 S σ (0 : Int32)
    else
      fX3_whyNot_b59 S σ (1 : Int32)
  else if x1 = (2 : Int32) then
    bd0 (fX3_whyNotWoo S σ x0 x2) fun v3 =>
    some v3
  else if x1 = (3 : Int32) then
    bd0 (fX3_whyNotTilt S σ x0 x2 x3) fun v4 =>
    some v4
  else if x1 = (4 : Int32) then
    bd0 (fX3_isLapsed S σ x0 x2) fun v5 =>
    if v5 = 0 then
      gR σ x0 8 fun r6 =>
      ldI S σ r6 x2 fun v7 =>
      if (v7 + x3) ≤ (9 : Int32) then
        fX3_whyNot_b103 S σ (0 : Int32)
      else
        fX3_whyNot_b103 S σ (2 : Int32)
    else
      fX3_whyNot_b103 S σ (1 : Int32)
  else if x1 = (5 : Int32) then
    bd0 (fX3_isLapsed S σ x0 x2) fun v8 =>
    if v8 = 0 then
      gR σ x0 6 fun r9 =>
      ldI S σ r9 x2 fun v10 =>
      if x3 ≤ v10 then
        fX3_whyNot_b131 S σ (0 : Int32)
      else
        fX3_whyNot_b131 S σ (2 : Int32)
    else
      fX3_whyNot_b131 S σ (1 : Int32)
  else if x3 ≤ ((600 : Int32) - (σ.1 x0 1)) then
    fX3_whyNot_b149 S σ (0 : Int32)
  else
    fX3_whyNot_b149 S σ (1 : Int32)
def fX4_hasPerson_b17 (S : Nat → Nat × Nat) (σ : mm)  (s0 : Int32) : Option Int32 :=
  rZ s0 (some s0)
def fX4_hasPerson_b16 (S : Nat → Nat × Nat) (σ : mm)   : Option Int32 :=
  fX4_hasPerson_b17 S σ (0 : Int32)
def fX4_hasPerson (S : Nat → Nat × Nat) (σ : mm) (x0 : Nat) (x1 : Int32) : Option Int32 :=
  if x1 < 0 then
    fX4_hasPerson_b16 S σ
  else
    if (σ.1 x0 6) ≤ x1 then
      fX4_hasPerson_b16 S σ
    else
      fX4_hasPerson_b17 S σ (1 : Int32)
def fX3_endear_b30 (S : Nat → Nat × Nat) (σ : mm)   : Option mm :=
  some σ
def fX3_endear (S : Nat → Nat × Nat) (σ : mm) (x0 : Nat) (x1 : Int32) (x2 : Int32) : Option mm :=
  gR σ x0 0 fun r1 =>
  bd0 (fX4_hasPerson S σ r1 x1) fun v2 =>
  if v2 = 0 then
    fX3_endear_b30 S σ
  else
    gR σ x0 4 fun r3 =>
    gR σ x0 4 fun r4 =>
    ldI S σ r4 x1 fun v5 =>
    stI S σ r3 x1 (mnI (99 : Int32) (v5 + x2)) fun τ6 =>
    fX3_endear_b30 S τ6
def fX3_turnOver (S : Nat → Nat × Nat) (σ : mm) (x0 : Nat) (x1 : Int32) (x2 : Int32) : Option mm :=
  gR σ x0 0 fun r1 =>
  bd0 (fX4_hasGlass S σ r1 x1) fun v2 =>
  if ¬ v2 = 0 then
    gR σ x0 6 fun r3 =>
    gR σ x0 0 fun r4 =>
    gR σ r4 10 fun r5 =>
    ldI S σ r5 x1 fun v6 =>
    gR σ x0 6 fun r7 =>
    ldI S σ r7 x1 fun v8 =>
    stI S σ r3 x1 (v6 - v8) fun τ9 =>
    gR τ9 x0 9 fun r10 =>
    stI S τ9 r10 x1 (0 : Int32) fun τ11 =>
    gR τ11 x0 5 fun r12 =>
    ldI S τ11 r12 x2 fun v13 =>
    stI S τ11 r12 x2 (v13 + (1 : Int32)) fun τ14 =>
    gR τ14 x0 10 fun r15 =>
    ldI S τ14 r15 x1 fun v16 =>
    stI S τ14 r15 x1 (v16 + (1 : Int32)) fun τ17 =>
    some τ17
  else
    some σ
def fX4_otherOf_b41 (S : Nat → Nat × Nat) (σ : mm)  (s0 : Int32) : Option Int32 :=
  some s0
def fX4_otherOf (S : Nat → Nat × Nat) (σ : mm) (x0 : Nat) (x1 : Int32) : Option Int32 :=
  bd0 (fX4_glassOf S σ x0 x1) fun v1 =>
  bd0 (fX4_hasGlass S σ x0 v1) fun v2 =>
  if ¬ v2 = 0 then
    gR σ x0 8 fun r3 =>
    ldI S σ r3 v1 fun v4 =>
    if ¬ v4 = x1 then
      gR σ x0 8 fun r5 =>
      ldI S σ r5 v1 fun v6 =>
      fX4_otherOf_b41 S σ v6
    else
      gR σ x0 9 fun r7 =>
      ldI S σ r7 v1 fun v8 =>
      fX4_otherOf_b41 S σ v8
  else
    some (-1 : Int32)
def fX3_carryOut_b123 (S : Nat → Nat × Nat) (σ : mm)   : Option mm :=
  some σ
def fX3_carryOut (S : Nat → Nat × Nat) (σ : mm) (x0 : Nat) (x1 : Int32) (x2 : Int32) (x3 : Int32) : Option mm :=
  if x1 = (0 : Int32) then
    gR σ x0 0 fun r1 =>
    bd0 (fX4_glassOf S σ r1 x2) fun v2 =>
    bd0 (fX3_turnOver S σ x0 v2 x2) fun τ3 =>
    fX3_carryOut_b123 S τ3
  else if x1 = (1 : Int32) then
    wI σ x0 3 ((σ.1 x0 3) ||| ((1 : Int32) <<< (x2 &&& 31))) fun τ4 =>
    fX3_carryOut_b123 S τ4
  else if x1 = (2 : Int32) then
    gR σ x0 0 fun r5 =>
    bd0 (fX4_otherOf S σ r5 x2) fun v6 =>
    bd0 (fX3_endear S σ x0 v6 x3) fun τ7 =>
    fX3_carryOut_b123 S τ7
  else if x1 = (3 : Int32) then
    gR σ x0 7 fun r8 =>
    stI S σ r8 x2 x3 fun τ9 =>
    fX3_carryOut_b123 S τ9
  else if x1 = (4 : Int32) then
    gR σ x0 8 fun r10 =>
    ldI S σ r10 x2 fun v11 =>
    stI S σ r10 x2 (v11 + x3) fun τ12 =>
    fX3_carryOut_b123 S τ12
  else if x1 = (5 : Int32) then
    gR σ x0 6 fun r13 =>
    ldI S σ r13 x2 fun v14 =>
    stI S σ r13 x2 (v14 - x3) fun τ15 =>
    fX3_carryOut_b123 S τ15
  else fX3_carryOut_b123 S σ
def fX3_passHourOf_b142 (S : Nat → Nat × Nat) (σ : mm)   : Option mm :=
  some σ
def fX3_passHourOf (S : Nat → Nat × Nat) (σ : mm) (x0 : Nat) (x1 : Int32) : Option mm :=
  gR σ x0 6 fun r1 =>
  ldI S σ r1 x1 fun v2 =>
  if v2 ≤ 0 then
    gR σ x0 0 fun r3 =>
    gR σ r3 8 fun r4 =>
    ldI S σ r4 x1 fun v5 =>
    bd0 (fX3_isWilling S σ x0 v5) fun v6 =>
    if v6 = 0 then
      gR σ x0 0 fun r7 =>
      gR σ r7 9 fun r8 =>
      ldI S σ r8 x1 fun v9 =>
      bd0 (fX3_isWilling S σ x0 v9) fun v10 =>
      if v10 = 0 then
        gR σ x0 9 fun r11 =>
        ldI S σ r11 x1 fun v12 =>
        stI S σ r11 x1 (v12 + (1 : Int32)) fun τ13 =>
        gR τ13 x0 9 fun r14 =>
        ldI S τ13 r14 x1 fun v15 =>
        gR τ13 x0 0 fun r16 =>
        if v15 < (τ13.1 r16 16) then
          fX3_passHourOf_b142 S τ13
        else
          wI τ13 x0 2 ((τ13.1 x0 2) ||| ((1 : Int32) <<< (x1 &&& 31))) fun τ17 =>
          fX3_passHourOf_b142 S τ17
      else
        gR σ x0 0 fun r18 =>
        gR σ r18 9 fun r19 =>
        ldI S σ r19 x1 fun v20 =>
        bd0 (fX3_turnOver S σ x0 x1 v20) fun τ21 =>
        fX3_passHourOf_b142 S τ21
    else
      gR σ x0 0 fun r22 =>
      gR σ r22 8 fun r23 =>
      ldI S σ r23 x1 fun v24 =>
      bd0 (fX3_turnOver S σ x0 x1 v24) fun τ25 =>
      fX3_passHourOf_b142 S τ25
  else
    gR σ x0 6 fun r26 =>
    gR σ x0 6 fun r27 =>
    ldI S σ r27 x1 fun v28 =>
    bd0 (fX3_runsAt S σ x0 x1 (σ.1 x0 1)) fun v29 =>
    stI S σ r26 x1 (mxI (0 : Int32) (v28 - v29)) fun τ30 =>
    fX3_passHourOf_b142 S τ30
def fX3_passHour_b26 (S : Nat → Nat × Nat) (σ : mm) (x0 : Nat) (x1 : Int32)  : Option ((Int32 × mm) ⊕ mm) :=
  nm (x1 + (1 : Int32)) fun v1 =>
  some (.inl (v1, σ))
def fX3_passHour_L2 (S : Nat → Nat × Nat) (x0 : Nat) : (Int32 × mm) → Option ((Int32 × mm) ⊕ mm) :=
  un2 fun x1 σ =>
  gR σ x0 0 fun r1 =>
    if (σ.1 r1 12) ≤ x1 then
      some (.inr σ)
    else
      bd0 (fX3_isLapsed S σ x0 x1) fun v2 =>
      if ¬ v2 = 0 then
        fX3_passHour_b26 S σ x0 x1
      else
        bd0 (fX3_passHourOf S σ x0 x1) fun τ3 =>
        fX3_passHour_b26 S τ3 x0 x1
def fX3_passHour_b88 (S : Nat → Nat × Nat) (σ : mm) (x0 : Nat)  : Option mm :=
  wI σ x0 1 ((σ.1 x0 1) + (1 : Int32)) fun τ1 =>
  some τ1
def fX3_passHour_L51 (S : Nat → Nat × Nat) (x0 : Nat) : (Int32 × mm) → Option ((Int32 × mm) ⊕ mm) :=
  un2 fun x1 σ =>
  gR σ x0 0 fun r1 =>
    if (σ.1 r1 6) ≤ x1 then
      some (.inr σ)
    else
      gR σ x0 4 fun r2 =>
      gR σ x0 0 fun r3 =>
      gR σ x0 4 fun r4 =>
      ldI S σ r4 x1 fun v5 =>
      bd0 (fX4_fondNextDay S σ r3 x1 v5) fun v6 =>
      stI S σ r2 x1 v6 fun τ7 =>
      nm (x1 + (1 : Int32)) fun v8 =>
      some (.inl (v8, τ7))
def fX3_passHour (S : Nat → Nat × Nat) (σ : mm) (x0 : Nat) : Option mm :=
  bd0 (loopN (fX3_passHour_L2 S x0) 1000 ((0 : Int32), σ)) (fun τ2 => wI τ2 x0 3 (0 : Int32) fun τ3 =>
  if ¬ ((τ3.1 x0 1) - (τ3.1 x0 1) / (24 : Int32) * (24 : Int32)) = (23 : Int32) then
    fX3_passHour_b88 S τ3 x0
  else
    bd0 (loopN (fX3_passHour_L51 S x0) 1000 ((0 : Int32), τ3)) (fun τ5 => fX3_passHour_b88 S τ5 x0))
def fX3_passHours_L2 (S : Nat → Nat × Nat) (x0 : Nat) (x1 : Int32) : (Int32 × mm) → Option ((Int32 × mm) ⊕ mm) :=
  un2 fun x2 σ =>
  if x1 ≤ x2 then
      some (.inr σ)
    else
      bd0 (fX3_passHour S σ x0) fun τ1 =>
      nm (x2 + (1 : Int32)) fun v2 =>
      some (.inl (v2, τ1))
def fX3_passHours (S : Nat → Nat × Nat) (σ : mm) (x0 : Nat) (x1 : Int32) : Option mm :=
  bd0 (loopN (fX3_passHours_L2 S x0 x1) 1000 ((0 : Int32), σ)) (fun τ2 => some τ2)
def fX3_doIfCan_b17 (S : Nat → Nat × Nat) (σ : mm)   : Option mm :=
  some σ
def fX3_doIfCan (S : Nat → Nat × Nat) (σ : mm) (x0 : Nat) (x1 : Int32) (x2 : Int32) (x3 : Int32) : Option mm :=
  bd0 (fX3_whyNot S σ x0 x1 x2 x3) fun v1 =>
  if ¬ v1 = 0 then
    fX3_doIfCan_b17 S σ
  else
    bd0 (fX3_carryOut S σ x0 x1 x2 x3) fun τ2 =>
    fX3_doIfCan_b17 S τ2
def fX3_nextSeed (S : Nat → Nat × Nat) (σ : mm) (x0 : Int32) : Option Int32 :=
  some ((x0 * (1103515245 : Int32)) + (12345 : Int32))
def fX3_drawForGlass_b35 (S : Nat → Nat × Nat) (σ : mm) (x3 : Int32)  : Option (Int32 × mm) :=
  some (x3, σ)
def fX3_drawForGlass (S : Nat → Nat × Nat) (σ : mm) (x0 : Nat) (x1 : Int32) (x2 : Int32) : Option (Int32 × mm) :=
  bd0 (fX3_nextSeed S σ x2) fun v1 =>
  if ¬ (((v1.toUInt32 >>> ((8 : Int32).toUInt32 &&& Int32.toUInt32 31)).toInt32) - ((v1.toUInt32 >>> ((8 : Int32).toUInt32 &&& Int32.toUInt32 31)).toInt32) / (30 : Int32) * (30 : Int32)) = 0 then
    fX3_drawForGlass_b35 S σ v1
  else
    bd0 (fX3_nextSeed S σ v1) fun v2 =>
    bd0 (fX3_doIfCan S σ x0 (5 : Int32) x1 ((((v2.toUInt32 >>> ((8 : Int32).toUInt32 &&& Int32.toUInt32 31)).toInt32) - ((v2.toUInt32 >>> ((8 : Int32).toUInt32 &&& Int32.toUInt32 31)).toInt32) / (20 : Int32) * (20 : Int32)) + (1 : Int32))) fun τ3 =>
    fX3_drawForGlass_b35 S τ3 v2
def fX3_drawForPerson_b83 (S : Nat → Nat × Nat) (σ : mm) (x3 : Int32)  : Option (Int32 × mm) :=
  some (x3, σ)
def fX3_drawForPerson (S : Nat → Nat × Nat) (σ : mm) (x0 : Nat) (x1 : Int32) (x2 : Int32) : Option (Int32 × mm) :=
  bd0 (fX3_nextSeed S σ x2) fun v1 =>
  nm (((v1.toUInt32 >>> ((8 : Int32).toUInt32 &&& Int32.toUInt32 31)).toInt32) - ((v1.toUInt32 >>> ((8 : Int32).toUInt32 &&& Int32.toUInt32 31)).toInt32) / (12 : Int32) * (12 : Int32)) fun v2 =>
  if v2 = (0 : Int32) then
    bd0 (fX3_nextSeed S σ v1) fun v3 =>
    bd0 (fX3_doIfCan S σ x0 (2 : Int32) x1 ((((v3.toUInt32 >>> ((8 : Int32).toUInt32 &&& Int32.toUInt32 31)).toInt32) - ((v3.toUInt32 >>> ((8 : Int32).toUInt32 &&& Int32.toUInt32 31)).toInt32) / (10 : Int32) * (10 : Int32)) + (1 : Int32))) fun τ4 =>
    fX3_drawForPerson_b83 S τ4 v3
  else if v2 = (1 : Int32) then
    bd0 (fX3_doIfCan S σ x0 (0 : Int32) x1 (0 : Int32)) fun τ5 =>
    fX3_drawForPerson_b83 S τ5 v1
  else if v2 = (2 : Int32) then
    bd0 (fX3_doIfCan S σ x0 (1 : Int32) x1 (0 : Int32)) fun τ6 =>
    fX3_drawForPerson_b83 S τ6 v1
  else fX3_drawForPerson_b83 S σ v1
def fX3_drawHours_L14 (S : Nat → Nat × Nat) (x0 : Nat) (x1 : Int32) (x4 : Int32) : (Int32 × Int32 × mm) → Option ((Int32 × Int32 × mm) ⊕ (Int32 × mm)) :=
  un3 fun x3 x5 σ =>
  gR σ x0 0 fun r1 =>
    if (σ.1 r1 6) ≤ x5 then
      some (.inr (x3, σ))
    else
      bd2 (fX3_drawForPerson S σ x0 x5 x3) fun v2 τ3 =>
      nm (x5 + (1 : Int32)) fun v4 =>
      some (.inl (v2, v4, τ3))
def fX3_drawHours_L43 (S : Nat → Nat × Nat) (x0 : Nat) (x1 : Int32) (x4 : Int32) : (Int32 × Int32 × mm) → Option ((Int32 × Int32 × mm) ⊕ (Int32 × mm)) :=
  un3 fun x3 x5 σ =>
  gR σ x0 0 fun r1 =>
    if (σ.1 r1 12) ≤ x5 then
      some (.inr (x3, σ))
    else
      bd2 (fX3_drawForGlass S σ x0 x5 x3) fun v2 τ3 =>
      nm (x5 + (1 : Int32)) fun v4 =>
      some (.inl (v2, v4, τ3))
def fX3_drawHours_L5 (S : Nat → Nat × Nat) (x0 : Nat) (x1 : Int32) : (Int32 × Int32 × mm) → Option ((Int32 × Int32 × mm) ⊕ mm) :=
  un3 fun x3 x4 σ =>
  if x1 ≤ x4 then
      some (.inr σ)
    else
      bd0 (loopN (fX3_drawHours_L14 S x0 x1 x4) 1000 (x3, (0 : Int32), σ)) (un2 fun v2 τ3 => bd0 (loopN (fX3_drawHours_L43 S x0 x1 x4) 1000 (v2, (0 : Int32), τ3)) (un2 fun v5 τ6 => bd0 (fX3_passHour S τ6 x0) fun τ7 =>
      nm (x4 + (1 : Int32)) fun v8 =>
      some (.inl (v5, v8, τ7))))
def fX3_drawHours (S : Nat → Nat × Nat) (σ : mm) (x0 : Nat) (x1 : Int32) (x2 : Int32) : Option mm :=
  bd0 (loopN (fX3_drawHours_L5 S x0 x1) 1000 (x2, (0 : Int32), σ)) (fun τ2 => some τ2)
def fX4_forget (S : Nat → Nat × Nat) (σ : mm) (x0 : Nat) : Option mm :=
  wI σ x0 6 (0 : Int32) fun τ1 =>
  wI τ1 x0 12 (0 : Int32) fun τ2 =>
  wI τ2 x0 14 (0 : Int32) fun τ3 =>
  gR τ3 x0 15 fun r4 =>
  wI τ3 r4 4 (0 : Int32) fun τ5 =>
  wI τ5 x0 16 (2 : Int32) fun τ6 =>
  wI τ6 x0 17 (50 : Int32) fun τ7 =>
  wZ τ7 x0 18 (0 : Int32) fun τ8 =>
  wZ τ8 x0 19 (0 : Int32) fun τ9 =>
  some τ9
def fX4_copyFrom (S : Nat → Nat × Nat) (σ : mm) (x0 : Nat) (x1 : Nat) : Option mm :=
  gR σ x1 0 fun r1 =>
  gR σ x0 0 fun r2 =>
  cpL S σ r1 (0 : Int32) r2 (0 : Int32) (8 : Int32) fun τ3 =>
  gR τ3 x1 1 fun r4 =>
  gR τ3 x0 1 fun r5 =>
  cpI S τ3 r4 (0 : Int32) r5 (0 : Int32) (8 : Int32) fun τ6 =>
  gR τ6 x1 2 fun r7 =>
  gR τ6 x0 2 fun r8 =>
  cpI S τ6 r7 (0 : Int32) r8 (0 : Int32) (8 : Int32) fun τ9 =>
  gR τ9 x1 3 fun r10 =>
  gR τ9 x0 3 fun r11 =>
  cpI S τ9 r10 (0 : Int32) r11 (0 : Int32) (8 : Int32) fun τ12 =>
  gR τ12 x1 4 fun r13 =>
  gR τ12 x0 4 fun r14 =>
  cpI S τ12 r13 (0 : Int32) r14 (0 : Int32) (8 : Int32) fun τ15 =>
  gR τ15 x1 5 fun r16 =>
  gR τ15 x0 5 fun r17 =>
  cpI S τ15 r16 (0 : Int32) r17 (0 : Int32) (8 : Int32) fun τ18 =>
  wI τ18 x0 6 (τ18.1 x1 6) fun τ19 =>
  gR τ19 x1 7 fun r20 =>
  gR τ19 x0 7 fun r21 =>
  cpL S τ19 r20 (0 : Int32) r21 (0 : Int32) (4 : Int32) fun τ22 =>
  gR τ22 x1 8 fun r23 =>
  gR τ22 x0 8 fun r24 =>
  cpI S τ22 r23 (0 : Int32) r24 (0 : Int32) (4 : Int32) fun τ25 =>
  gR τ25 x1 9 fun r26 =>
  gR τ25 x0 9 fun r27 =>
  cpI S τ25 r26 (0 : Int32) r27 (0 : Int32) (4 : Int32) fun τ28 =>
  gR τ28 x1 10 fun r29 =>
  gR τ28 x0 10 fun r30 =>
  cpI S τ28 r29 (0 : Int32) r30 (0 : Int32) (4 : Int32) fun τ31 =>
  gR τ31 x1 11 fun r32 =>
  gR τ31 x0 11 fun r33 =>
  cpI S τ31 r32 (0 : Int32) r33 (0 : Int32) (4 : Int32) fun τ34 =>
  wI τ34 x0 12 (τ34.1 x1 12) fun τ35 =>
  gR τ35 x1 13 fun r36 =>
  gR τ35 x0 13 fun r37 =>
  cpI S τ35 r36 (0 : Int32) r37 (0 : Int32) (12 : Int32) fun τ38 =>
  wI τ38 x0 14 (τ38.1 x1 14) fun τ39 =>
  gR τ39 x0 15 fun r40 =>
  gR τ39 x1 15 fun r41 =>
  bd0 (fX2_copyFrom S τ39 r40 r41) fun τ42 =>
  wI τ42 x0 16 (τ42.1 x1 16) fun τ43 =>
  wI τ43 x0 17 (τ43.1 x1 17) fun τ44 =>
  wZ τ44 x0 18 (τ44.1 x1 18) fun τ45 =>
  wZ τ45 x0 19 (τ45.1 x1 19) fun τ46 =>
  some τ46
def fX4_placeOf_L3 (S : Nat → Nat × Nat) (σ : mm) (x0 : Nat) (x1 : Int32) (x2 : Int64) : Int32 → Option (Int32 ⊕ (Int32 ⊕ Unit)) :=
  fun x4 => if x1 ≤ x4 then
      some (.inr (.inr ()))
    else
      if (Int32.ofNat (S x0).2) ≤ x4 then
        some (.inr (.inr ()))
      else
        ldL S σ x0 x4 fun v1 =>
        if ¬ (lg_cmp v1 x2) = 0 then
          nm (x4 + (1 : Int32)) fun v2 =>
          some (.inl v2)
        else
          some (.inr (.inl x4))
def fX4_placeOf_b34 (S : Nat → Nat × Nat) (σ : mm)   : Option Int32 :=
  some (-1 : Int32)
def fX4_placeOf (S : Nat → Nat × Nat) (σ : mm) (x0 : Nat) (x1 : Int32) (x2 : Int64) : Option Int32 :=
  bd0 (loopN (fX4_placeOf_L3 S σ x0 x1 x2) 1000 (0 : Int32)) (cs2 (fun v2 => some v2) (fun (_ : Unit) => fX4_placeOf_b34 S σ))
def fX4_personNamed (S : Nat → Nat × Nat) (σ : mm) (x0 : Nat) (x1 : Int64) : Option Int32 :=
  gR σ x0 0 fun r1 =>
  bd0 (fX4_placeOf S σ r1 (σ.1 x0 6) x1) fun v2 =>
  some v2
def fX4_glassNamed (S : Nat → Nat × Nat) (σ : mm) (x0 : Nat) (x1 : Int64) : Option Int32 :=
  gR σ x0 7 fun r1 =>
  bd0 (fX4_placeOf S σ r1 (σ.1 x0 12) x1) fun v2 =>
  some v2
def fX4_isTold_b45 (S : Nat → Nat × Nat) (σ : mm)  (s0 : Int32) : Option Int32 :=
  rZ s0 (some s0)
def fX4_isTold_b40 (S : Nat → Nat × Nat) (σ : mm)   : Option Int32 :=
  fX4_isTold_b45 S σ (1 : Int32)
def fX4_isTold (S : Nat → Nat × Nat) (σ : mm) (x0 : Nat) (x1 : Int64) : Option Int32 :=
  bd0 (fX4_personNamed S σ x0 x1) fun v1 =>
  if ¬ v1 = (-1 : Int32) then
    fX4_isTold_b40 S σ
  else
    bd0 (fX4_glassNamed S σ x0 x1) fun v2 =>
    if ¬ v2 = (-1 : Int32) then
      fX4_isTold_b40 S σ
    else
      gR σ x0 15 fun r3 =>
      gR σ r3 0 fun r4 =>
      gR σ x0 15 fun r5 =>
      bd0 (fX4_placeOf S σ r4 (σ.1 r5 4) x1) fun v6 =>
      if v6 = (-1 : Int32) then
        fX4_isTold_b45 S σ (0 : Int32)
      else
        fX4_isTold_b40 S σ
def fX8_fails (S : Nat → Nat × Nat) (σ : mm) (x0 : Nat) (x1 : Int32) : Option (Int32 × mm) :=
  wI σ x0 9 x1 fun τ1 =>
  wI τ1 x0 10 (τ1.1 x0 5) fun τ2 =>
  some ((0 : Int32), τ2)
def fX8_isSign_b41 (S : Nat → Nat × Nat) (σ : mm)  (s0 : Int32) : Option Int32 :=
  rZ s0 (some s0)
def fX8_isSign_b36 (S : Nat → Nat × Nat) (σ : mm)   : Option Int32 :=
  fX8_isSign_b41 S σ (1 : Int32)
def fX8_isSign (S : Nat → Nat × Nat) (σ : mm) (x0 : Int32) : Option Int32 :=
  if x0 = (59 : Int32) then
    fX8_isSign_b36 S σ
  else
    if x0 = (60 : Int32) then
      fX8_isSign_b36 S σ
    else
      if x0 = (61 : Int32) then
        fX8_isSign_b36 S σ
      else
        if x0 = (62 : Int32) then
          fX8_isSign_b36 S σ
        else
          if x0 = (40 : Int32) then
            fX8_isSign_b36 S σ
          else
            if ¬ x0 = (41 : Int32) then
              fX8_isSign_b41 S σ (0 : Int32)
            else
              fX8_isSign_b36 S σ
def fX8_readRun_b138 (S : Nat → Nat × Nat) (σ : mm) (x0 : Nat) (x1 : Int32) (x2 : Int32) (x3 : Int32) (s0 : Nat) (s1 : Int32) : Option ((Int32 × Int32 × Int32 × mm) ⊕ (Int32 × Int32 × mm)) :=
  wI σ s0 3 s1 fun τ1 =>
  some (.inl (x1, x2, x3, τ1))
def fX8_readRun_b120 (S : Nat → Nat × Nat) (σ : mm) (x0 : Nat) (x1 : Int32) (x2 : Int32) (x3 : Int32)  : Option ((Int32 × Int32 × Int32 × mm) ⊕ (Int32 × Int32 × mm)) :=
  if x3 = 0 then
    fX8_readRun_b138 S σ x0 x1 x2 x3 x0 (σ.1 x0 3)
  else
    fX8_readRun_b138 S σ x0 x1 x2 x3 x0 ((σ.1 x0 3) + (1 : Int32))
def fX8_readRun_b118 (S : Nat → Nat × Nat) (σ : mm) (x0 : Nat) (x1 : Int32) (x2 : Int32)  : Option ((Int32 × Int32 × Int32 × mm) ⊕ (Int32 × Int32 × mm)) :=
  fX8_readRun_b120 S σ x0 x1 x2 (0 : Int32)
def fX8_readRun_b81 (S : Nat → Nat × Nat) (σ : mm) (x0 : Nat) (x1 : Int32) (x2 : Int32) (x3 : Int32) (x4 : Int32)  : Option ((Int32 × Int32 × Int32 × mm) ⊕ (Int32 × Int32 × mm)) :=
  if x4 < (48 : Int32) then
    fX8_readRun_b118 S σ x0 x1 x2
  else
    if (57 : Int32) < x4 then
      fX8_readRun_b118 S σ x0 x1 x2
    else
      nm (x2 + (1 : Int32)) fun v1 =>
      wI σ x0 6 ((((σ.1 x0 6) * (10 : Int32)) + x4) - (48 : Int32)) fun τ2 =>
      fX8_readRun_b120 S τ2 x0 x1 v1 x3
def fX8_readRun_L16 (S : Nat → Nat × Nat) (x0 : Nat) : (Int32 × Int32 × Int32 × mm) → Option ((Int32 × Int32 × Int32 × mm) ⊕ (Int32 × Int32 × mm)) :=
  un4 fun x1 x2 x3 σ =>
  if x3 = 0 then
      some (.inr (x1, x2, σ))
    else
      if (σ.1 x0 1) ≤ (σ.1 x0 3) then
        some (.inr (x1, x2, σ))
      else
        gR σ x0 0 fun r1 =>
        ldI S σ r1 (σ.1 x0 3) fun v2 =>
        if v2 < (97 : Int32) then
          fX8_readRun_b81 S σ x0 x1 x2 x3 v2
        else
          if (122 : Int32) < v2 then
            fX8_readRun_b81 S σ x0 x1 x2 x3 v2
          else
            nm (x1 + (1 : Int32)) fun v3 =>
            wL σ x0 7 (((σ.2.1 x0 7) <<< ((5 : Int32).toInt64 &&& 63)) ||| (((v2 - (97 : Int32)) + (1 : Int32)).toInt64)) fun τ4 =>
            fX8_readRun_b120 S τ4 x0 v3 x2 x3
def fX8_readRun_b189 (S : Nat → Nat × Nat) (σ : mm)   : Option mm :=
  some σ
def fX8_readRun_b171 (S : Nat → Nat × Nat) (σ : mm) (x0 : Nat) (x1 : Int32) (x2 : Int32)  : Option mm :=
  if ¬ x1 = 0 then
    fX8_readRun_b189 S σ
  else
    if x2 ≤ 0 then
      fX8_readRun_b189 S σ
    else
      if (3 : Int32) < x2 then
        fX8_readRun_b189 S σ
      else
        wI σ x0 4 (3 : Int32) fun τ1 =>
        fX8_readRun_b189 S τ1
def fX8_readRun_b144 (S : Nat → Nat × Nat) (σ : mm) (x0 : Nat) (x1 : Int32) (x2 : Int32)  : Option mm :=
  wI σ x0 4 (1 : Int32) fun τ1 =>
  if ¬ x2 = 0 then
    fX8_readRun_b171 S τ1 x0 x1 x2
  else
    if x1 ≤ 0 then
      fX8_readRun_b171 S τ1 x0 x1 x2
    else
      if (7 : Int32) < x1 then
        fX8_readRun_b171 S τ1 x0 x1 x2
      else
        wI τ1 x0 4 (2 : Int32) fun τ2 =>
        fX8_readRun_b189 S τ2
def fX8_readRun (S : Nat → Nat × Nat) (σ : mm) (x0 : Nat) : Option mm :=
  wL σ x0 7 (0 : Int64) fun τ1 =>
  wI τ1 x0 6 (0 : Int32) fun τ2 =>
  bd0 (loopN (fX8_readRun_L16 S x0) 1000 ((0 : Int32), (0 : Int32), (1 : Int32), τ2)) (un3 fun v4 v5 τ6 => fX8_readRun_b144 S τ6 x0 v4 v5)
def fX11_of_L2 (S : Nat → Nat × Nat) (σ : mm) (x0 : Int64) : Int32 → Option (Int32 ⊕ (Int32 ⊕ Unit)) :=
  fun x2 => if (31 : Int32) ≤ x2 then
      some (.inr (.inr ()))
    else
      ldW x2 fun r1 =>
      if ¬ (lg_cmp (wcode r1) x0) = 0 then
        nm (x2 + (1 : Int32)) fun v2 =>
        some (.inl v2)
      else
        some (.inr (.inl x2))
def fX11_of (S : Nat → Nat × Nat) (σ : mm) (x0 : Int64) : Option Nat :=
  bd0 (loopN (fX11_of_L2 S σ x0) 1000 (0 : Int32)) (cs2 (fun v2 => ldW v2 fun r3 =>
    some r3) (fun (_ : Unit) => some 1))
def fX8_next_b39 (S : Nat → Nat × Nat) (σ : mm) (x0 : Nat)  : Option (mm ⊕ mm) :=
  wI σ x0 3 ((σ.1 x0 3) + (1 : Int32)) fun τ1 =>
  some (.inl τ1)
def fX8_next_L0 (S : Nat → Nat × Nat) (x0 : Nat) : mm → Option (mm ⊕ mm) :=
  fun σ => if (σ.1 x0 1) ≤ (σ.1 x0 3) then
      some (.inr σ)
    else
      gR σ x0 0 fun r1 =>
      ldI S σ r1 (σ.1 x0 3) fun v2 =>
      if v2 = (32 : Int32) then
        fX8_next_b39 S σ x0
      else
        gR σ x0 0 fun r3 =>
        ldI S σ r3 (σ.1 x0 3) fun v4 =>
        if ¬ v4 = (10 : Int32) then
          some (.inr σ)
        else
          fX8_next_b39 S σ x0
def fX8_next_b194 (S : Nat → Nat × Nat) (σ : mm)   : Option mm :=
  some σ
def fX8_next_b191 (S : Nat → Nat × Nat) (σ : mm)  (s0 : Nat) (s1 : Nat) : Option mm :=
  wR σ s0 8 s1 fun τ1 =>
  fX8_next_b194 S τ1
def fX8_next_b105 (S : Nat → Nat × Nat) (σ : mm) (x0 : Nat)  : Option mm :=
  if (σ.1 x0 3) < (σ.1 x0 1) then
    gR σ x0 0 fun r1 =>
    ldI S σ r1 (σ.1 x0 3) fun v2 =>
    bd0 (fX8_isSign S σ v2) fun v3 =>
    if v3 = 0 then
      bd0 (fX8_readRun S σ x0) fun τ4 =>
      if ¬ (τ4.1 x0 4) = (2 : Int32) then
        fX8_next_b191 S τ4 x0 0
      else
        bd0 (fX11_of S τ4 (τ4.2.1 x0 7)) fun v5 =>
        ckW v5 (fX8_next_b191 S τ4 x0 v5)
    else
      gR σ x0 0 fun r6 =>
      ldI S σ r6 (σ.1 x0 3) fun v7 =>
      wI σ x0 4 v7 fun τ8 =>
      wI τ8 x0 3 ((τ8.1 x0 3) + (1 : Int32)) fun τ9 =>
      fX8_next_b194 S τ9
  else
    wI σ x0 4 (0 : Int32) fun τ10 =>
    fX8_next_b194 S τ10
def fX8_next_b52 (S : Nat → Nat × Nat) (σ : mm) (x0 : Nat)  : Option mm :=
  wI σ x0 5 (σ.1 x0 3) fun τ1 =>
  wR τ1 x0 8 0 fun τ2 =>
  if (τ2.1 x0 3) < (τ2.1 x0 2) then
    fX8_next_b105 S τ2 x0
  else
    if (τ2.1 x0 1) ≤ (τ2.1 x0 2) then
      fX8_next_b105 S τ2 x0
    else
      wI τ2 x0 4 (1 : Int32) fun τ3 =>
      wI τ3 x0 5 (τ3.1 x0 2) fun τ4 =>
      fX8_next_b194 S τ4
def fX8_next (S : Nat → Nat × Nat) (σ : mm) (x0 : Nat) : Option mm :=
  bd0 (loopN (fX8_next_L0 S x0) 1000 σ) (fun τ2 => fX8_next_b52 S τ2 x0)
def fX8_takeNumber_b47 (S : Nat → Nat × Nat) (σ : mm)  (s0 : Int32) : Option (Int32 × mm) :=
  rZ s0 (some (s0, σ))
def fX8_takeNumber_b42 (S : Nat → Nat × Nat) (σ : mm)   : Option (Int32 × mm) :=
  fX8_takeNumber_b47 S σ (1 : Int32)
def fX8_takeNumber_b34 (S : Nat → Nat × Nat) (σ : mm) (x0 : Nat)  : Option (Int32 × mm) :=
  bd2 (fX8_fails S σ x0 (2 : Int32)) fun v1 τ2 =>
  if v1 = 0 then
    fX8_takeNumber_b47 S τ2 (0 : Int32)
  else
    fX8_takeNumber_b42 S τ2
def fX8_takeNumber (S : Nat → Nat × Nat) (σ : mm) (x0 : Nat) (x1 : Int32) (x2 : Int32) : Option (Int32 × mm) :=
  bd0 (fX8_next S σ x0) fun τ1 =>
  if (τ1.1 x0 4) = (3 : Int32) then
    if (τ1.1 x0 6) < x1 then
      fX8_takeNumber_b34 S τ1 x0
    else
      if (τ1.1 x0 6) ≤ x2 then
        fX8_takeNumber_b42 S τ1
      else
        fX8_takeNumber_b34 S τ1 x0
  else
    bd2 (fX8_fails S τ1 x0 (1 : Int32)) fun v2 τ3 =>
    rZ v2 (some (v2, τ3))
def fX5_readDamp (S : Nat → Nat × Nat) (σ : mm) (x0 : Nat) : Option (Int32 × mm) :=
  gR σ x0 1 fun r1 =>
  if (σ.1 r1 14) < (6 : Int32) then
    gR σ x0 0 fun r2 =>
    bd2 (fX8_takeNumber S σ r2 (0 : Int32) (599 : Int32)) fun v3 τ4 =>
    if ¬ v3 = 0 then
      gR τ4 x0 0 fun r5 =>
      nm (τ4.1 r5 6) fun v6 =>
      gR τ4 x0 0 fun r7 =>
      bd2 (fX8_takeNumber S τ4 r7 v6 (599 : Int32)) fun v8 τ9 =>
      if ¬ v8 = 0 then
        gR τ9 x0 1 fun r10 =>
        gR τ9 r10 13 fun r11 =>
        gR τ9 x0 1 fun r12 =>
        stI S τ9 r11 ((2 : Int32) * (τ9.1 r12 14)) v6 fun τ13 =>
        gR τ13 x0 1 fun r14 =>
        gR τ13 r14 13 fun r15 =>
        gR τ13 x0 1 fun r16 =>
        gR τ13 x0 0 fun r17 =>
        stI S τ13 r15 (((2 : Int32) * (τ13.1 r16 14)) + (1 : Int32)) (τ13.1 r17 6) fun τ18 =>
        gR τ18 x0 1 fun r19 =>
        wI τ18 r19 14 ((τ18.1 r19 14) + (1 : Int32)) fun τ20 =>
        some ((1 : Int32), τ20)
      else
        some ((0 : Int32), τ9)
    else
      some ((0 : Int32), τ4)
  else
    gR σ x0 0 fun r21 =>
    bd2 (fX8_fails S σ r21 (4 : Int32)) fun v22 τ23 =>
    rZ v22 (some (v22, τ23))
def fX5_readEarly (S : Nat → Nat × Nat) (σ : mm) (x0 : Nat) : Option (Int32 × mm) :=
  gR σ x0 1 fun r1 =>
  if (σ.1 r1 18) = 0 then
    gR σ x0 1 fun r2 =>
    wZ σ r2 18 (1 : Int32) fun τ3 =>
    some ((1 : Int32), τ3)
  else
    gR σ x0 0 fun r4 =>
    bd2 (fX8_fails S σ r4 (3 : Int32)) fun v5 τ6 =>
    rZ v5 (some (v5, τ6))
def fX5_takePerson_b60 (S : Nat → Nat × Nat) (σ : mm) (x1 : Int32)  : Option (Int32 × mm) :=
  some (x1, σ)
def fX5_takePerson (S : Nat → Nat × Nat) (σ : mm) (x0 : Nat) : Option (Int32 × mm) :=
  gR σ x0 0 fun r1 =>
  bd0 (fX8_next S σ r1) fun τ2 =>
  gR τ2 x0 0 fun r3 =>
  gR τ2 r3 8 fun r4 =>
  if r4 = 1 then
    gR τ2 x0 1 fun r5 =>
    gR τ2 x0 0 fun r6 =>
    bd0 (fX4_personNamed S τ2 r5 (τ2.2.1 r6 7)) fun v7 =>
    if ¬ v7 = (-1 : Int32) then
      fX5_takePerson_b60 S τ2 v7
    else
      gR τ2 x0 0 fun r8 =>
      bd2 (fX8_fails S τ2 r8 (3 : Int32)) fun v9 τ10 =>
      fX5_takePerson_b60 S τ10 v7
  else
    gR τ2 x0 0 fun r11 =>
    bd2 (fX8_fails S τ2 r11 (1 : Int32)) fun v12 τ13 =>
    some ((-1 : Int32), τ13)
def fX5_readPair_b62 (S : Nat → Nat × Nat) (σ : mm) (x0 : Nat)  : Option (Int32 × mm) :=
  gR σ x0 0 fun r1 =>
  bd2 (fX8_fails S σ r1 (3 : Int32)) fun v2 τ3 =>
  rZ v2 (some (v2, τ3))
def fX5_readPair (S : Nat → Nat × Nat) (σ : mm) (x0 : Nat) (x1 : Int32) : Option (Int32 × mm) :=
  bd2 (fX5_takePerson S σ x0) fun v1 τ2 =>
  if ¬ v1 = (-1 : Int32) then
    gR τ2 x0 1 fun r3 =>
    bd0 (fX4_glassOf S τ2 r3 v1) fun v4 =>
    if v4 = (-1 : Int32) then
      bd2 (fX5_takePerson S τ2 x0) fun v5 τ6 =>
      if ¬ v5 = (-1 : Int32) then
        if v5 = v1 then
          fX5_readPair_b62 S τ6 x0
        else
          gR τ6 x0 1 fun r7 =>
          bd0 (fX4_glassOf S τ6 r7 v5) fun v8 =>
          if v8 = (-1 : Int32) then
            gR τ6 x0 1 fun r9 =>
            gR τ6 r9 8 fun r10 =>
            stI S τ6 r10 x1 v1 fun τ11 =>
            gR τ11 x0 1 fun r12 =>
            gR τ11 r12 9 fun r13 =>
            stI S τ11 r13 x1 v5 fun τ14 =>
            some ((1 : Int32), τ14)
          else
            fX5_readPair_b62 S τ6 x0
      else
        some ((0 : Int32), τ6)
    else
      gR τ2 x0 0 fun r15 =>
      bd2 (fX8_fails S τ2 r15 (3 : Int32)) fun v16 τ17 =>
      rZ v16 (some (v16, τ17))
  else
    some ((0 : Int32), τ2)
def fX5_takeNewName_b62 (S : Nat → Nat × Nat) (σ : mm)  (s0 : Int32) : Option (Int32 × mm) :=
  rZ s0 (some (s0, σ))
def fX5_takeNewName_b57 (S : Nat → Nat × Nat) (σ : mm)   : Option (Int32 × mm) :=
  fX5_takeNewName_b62 S σ (1 : Int32)
def fX5_takeNewName (S : Nat → Nat × Nat) (σ : mm) (x0 : Nat) : Option (Int32 × mm) :=
  gR σ x0 0 fun r1 =>
  bd0 (fX8_next S σ r1) fun τ2 =>
  gR τ2 x0 0 fun r3 =>
  gR τ2 r3 8 fun r4 =>
  if r4 = 1 then
    gR τ2 x0 1 fun r5 =>
    gR τ2 x0 0 fun r6 =>
    bd0 (fX4_isTold S τ2 r5 (τ2.2.1 r6 7)) fun v7 =>
    if v7 = 0 then
      fX5_takeNewName_b57 S τ2
    else
      gR τ2 x0 0 fun r8 =>
      bd2 (fX8_fails S τ2 r8 (3 : Int32)) fun v9 τ10 =>
      if v9 = 0 then
        fX5_takeNewName_b62 S τ10 (0 : Int32)
      else
        fX5_takeNewName_b57 S τ10
  else
    gR τ2 x0 0 fun r11 =>
    bd2 (fX8_fails S τ2 r11 (1 : Int32)) fun v12 τ13 =>
    rZ v12 (some (v12, τ13))
def fX5_readGlass_b69 (S : Nat → Nat × Nat) (σ : mm)   : Option (Int32 × mm) :=
  some ((0 : Int32), σ)
def fX5_readGlass (S : Nat → Nat × Nat) (σ : mm) (x0 : Nat) : Option (Int32 × mm) :=
  gR σ x0 1 fun r1 =>
  nm (σ.1 r1 12) fun v2 =>
  if v2 < (4 : Int32) then
    bd2 (fX5_takeNewName S σ x0) fun v3 τ4 =>
    if ¬ v3 = 0 then
      gR τ4 x0 1 fun r5 =>
      gR τ4 r5 7 fun r6 =>
      gR τ4 x0 0 fun r7 =>
      stL S τ4 r6 v2 (τ4.2.1 r7 7) fun τ8 =>
      bd2 (fX5_readPair S τ8 x0 v2) fun v9 τ10 =>
      if v9 = 0 then
        fX5_readGlass_b69 S τ10
      else
        gR τ10 x0 0 fun r11 =>
        bd2 (fX8_takeNumber S τ10 r11 (1 : Int32) (250 : Int32)) fun v12 τ13 =>
        if ¬ v12 = 0 then
          gR τ13 x0 1 fun r14 =>
          gR τ13 r14 10 fun r15 =>
          gR τ13 x0 0 fun r16 =>
          stI S τ13 r15 v2 (τ13.1 r16 6) fun τ17 =>
          gR τ17 x0 0 fun r18 =>
          bd2 (fX8_takeNumber S τ17 r18 (1 : Int32) (9 : Int32)) fun v19 τ20 =>
          if ¬ v19 = 0 then
            gR τ20 x0 1 fun r21 =>
            gR τ20 r21 11 fun r22 =>
            gR τ20 x0 0 fun r23 =>
            stI S τ20 r22 v2 (τ20.1 r23 6) fun τ24 =>
            gR τ24 x0 1 fun r25 =>
            wI τ24 r25 12 ((τ24.1 r25 12) + (1 : Int32)) fun τ26 =>
            some ((1 : Int32), τ26)
          else
            some ((0 : Int32), τ20)
        else
          fX5_readGlass_b69 S τ13
    else
      some ((0 : Int32), τ4)
  else
    gR σ x0 0 fun r27 =>
    bd2 (fX8_fails S σ r27 (4 : Int32)) fun v28 τ29 =>
    rZ v28 (some (v28, τ29))
def fX5_readGood (S : Nat → Nat × Nat) (σ : mm) (x0 : Nat) : Option (Int32 × mm) :=
  gR σ x0 1 fun r1 =>
  gR σ r1 15 fun r2 =>
  nm (σ.1 r2 4) fun v3 =>
  if v3 < (6 : Int32) then
    bd2 (fX5_takeNewName S σ x0) fun v4 τ5 =>
    if ¬ v4 = 0 then
      gR τ5 x0 1 fun r6 =>
      gR τ5 r6 15 fun r7 =>
      gR τ5 r7 0 fun r8 =>
      gR τ5 x0 0 fun r9 =>
      stL S τ5 r8 v3 (τ5.2.1 r9 7) fun τ10 =>
      gR τ10 x0 0 fun r11 =>
      bd0 (fX8_next S τ10 r11) fun τ12 =>
      gR τ12 x0 0 fun r13 =>
      gR τ12 r13 8 fun r14 =>
      if r14 = 1 then
        gR τ12 x0 1 fun r15 =>
        gR τ12 r15 15 fun r16 =>
        gR τ12 r16 1 fun r17 =>
        gR τ12 x0 1 fun r18 =>
        gR τ12 x0 0 fun r19 =>
        bd0 (fX4_glassNamed S τ12 r18 (τ12.2.1 r19 7)) fun v20 =>
        stI S τ12 r17 v3 v20 fun τ21 =>
        gR τ21 x0 1 fun r22 =>
        gR τ21 r22 15 fun r23 =>
        gR τ21 r23 1 fun r24 =>
        ldI S τ21 r24 v3 fun v25 =>
        if ¬ v25 = (-1 : Int32) then
          gR τ21 x0 0 fun r26 =>
          bd2 (fX8_takeNumber S τ21 r26 (0 : Int32) (99 : Int32)) fun v27 τ28 =>
          if ¬ v27 = 0 then
            gR τ28 x0 1 fun r29 =>
            gR τ28 r29 15 fun r30 =>
            gR τ28 r30 2 fun r31 =>
            gR τ28 x0 0 fun r32 =>
            stI S τ28 r31 v3 (τ28.1 r32 6) fun τ33 =>
            gR τ33 x0 0 fun r34 =>
            bd2 (fX8_takeNumber S τ33 r34 (0 : Int32) (99 : Int32)) fun v35 τ36 =>
            if ¬ v35 = 0 then
              gR τ36 x0 1 fun r37 =>
              gR τ36 r37 15 fun r38 =>
              gR τ36 r38 3 fun r39 =>
              gR τ36 x0 0 fun r40 =>
              stI S τ36 r39 v3 (τ36.1 r40 6) fun τ41 =>
              gR τ41 x0 1 fun r42 =>
              gR τ41 r42 15 fun r43 =>
              wI τ41 r43 4 ((τ41.1 r43 4) + (1 : Int32)) fun τ44 =>
              some ((1 : Int32), τ44)
            else
              some ((0 : Int32), τ36)
          else
            some ((0 : Int32), τ28)
        else
          gR τ21 x0 0 fun r45 =>
          bd2 (fX8_fails S τ21 r45 (3 : Int32)) fun v46 τ47 =>
          rZ v46 (some (v46, τ47))
      else
        gR τ12 x0 0 fun r48 =>
        bd2 (fX8_fails S τ12 r48 (1 : Int32)) fun v49 τ50 =>
        rZ v49 (some (v49, τ50))
    else
      some ((0 : Int32), τ5)
  else
    gR σ x0 0 fun r51 =>
    bd2 (fX8_fails S σ r51 (4 : Int32)) fun v52 τ53 =>
    rZ v52 (some (v52, τ53))
def fX5_readGrace (S : Nat → Nat × Nat) (σ : mm) (x0 : Nat) : Option (Int32 × mm) :=
  if (σ.1 x0 2) = 0 then
    gR σ x0 0 fun r1 =>
    bd2 (fX8_takeNumber S σ r1 (1 : Int32) (9 : Int32)) fun v2 τ3 =>
    if ¬ v2 = 0 then
      wZ τ3 x0 2 (1 : Int32) fun τ4 =>
      gR τ4 x0 1 fun r5 =>
      gR τ4 x0 0 fun r6 =>
      wI τ4 r5 16 (τ4.1 r6 6) fun τ7 =>
      some ((1 : Int32), τ7)
    else
      some ((0 : Int32), τ3)
  else
    gR σ x0 0 fun r8 =>
    bd2 (fX8_fails S σ r8 (3 : Int32)) fun v9 τ10 =>
    rZ v9 (some (v9, τ10))
def fX5_readLevel (S : Nat → Nat × Nat) (σ : mm) (x0 : Nat) : Option (Int32 × mm) :=
  gR σ x0 1 fun r1 =>
  if (σ.1 r1 19) = 0 then
    gR σ x0 1 fun r2 =>
    wZ σ r2 19 (1 : Int32) fun τ3 =>
    some ((1 : Int32), τ3)
  else
    gR σ x0 0 fun r4 =>
    bd2 (fX8_fails S σ r4 (3 : Int32)) fun v5 τ6 =>
    rZ v5 (some (v5, τ6))
def fX5_readPerson (S : Nat → Nat × Nat) (σ : mm) (x0 : Nat) : Option (Int32 × mm) :=
  gR σ x0 1 fun r1 =>
  nm (σ.1 r1 6) fun v2 =>
  if v2 < (8 : Int32) then
    bd2 (fX5_takeNewName S σ x0) fun v3 τ4 =>
    if ¬ v3 = 0 then
      gR τ4 x0 1 fun r5 =>
      gR τ4 r5 0 fun r6 =>
      gR τ4 x0 0 fun r7 =>
      stL S τ4 r6 v2 (τ4.2.1 r7 7) fun τ8 =>
      gR τ8 x0 0 fun r9 =>
      bd2 (fX8_takeNumber S τ8 r9 (0 : Int32) (23 : Int32)) fun v10 τ11 =>
      if ¬ v10 = 0 then
        gR τ11 x0 1 fun r12 =>
        gR τ11 r12 1 fun r13 =>
        gR τ11 x0 0 fun r14 =>
        stI S τ11 r13 v2 (τ11.1 r14 6) fun τ15 =>
        gR τ15 x0 0 fun r16 =>
        bd2 (fX8_takeNumber S τ15 r16 (0 : Int32) (23 : Int32)) fun v17 τ18 =>
        if ¬ v17 = 0 then
          gR τ18 x0 1 fun r19 =>
          gR τ18 r19 2 fun r20 =>
          gR τ18 x0 0 fun r21 =>
          stI S τ18 r20 v2 (τ18.1 r21 6) fun τ22 =>
          gR τ22 x0 0 fun r23 =>
          bd2 (fX8_takeNumber S τ22 r23 (0 : Int32) (99 : Int32)) fun v24 τ25 =>
          if ¬ v24 = 0 then
            gR τ25 x0 1 fun r26 =>
            gR τ25 r26 3 fun r27 =>
            gR τ25 x0 0 fun r28 =>
            stI S τ25 r27 v2 (τ25.1 r28 6) fun τ29 =>
            gR τ29 x0 1 fun r30 =>
            gR τ29 r30 4 fun r31 =>
            stI S τ29 r31 v2 (0 : Int32) fun τ32 =>
            gR τ32 x0 1 fun r33 =>
            gR τ32 r33 5 fun r34 =>
            stI S τ32 r34 v2 (0 : Int32) fun τ35 =>
            gR τ35 x0 1 fun r36 =>
            wI τ35 r36 6 ((τ35.1 r36 6) + (1 : Int32)) fun τ37 =>
            some ((1 : Int32), τ37)
          else
            some ((0 : Int32), τ25)
        else
          some ((0 : Int32), τ18)
      else
        some ((0 : Int32), τ11)
    else
      some ((0 : Int32), τ4)
  else
    gR σ x0 0 fun r38 =>
    bd2 (fX8_fails S σ r38 (4 : Int32)) fun v39 τ40 =>
    rZ v39 (some (v39, τ40))
def fX5_readWarmth (S : Nat → Nat × Nat) (σ : mm) (x0 : Nat) (x1 : Nat) : Option (Int32 × mm) :=
  bd2 (fX5_takePerson S σ x0) fun v1 τ2 =>
  if ¬ v1 = (-1 : Int32) then
    ldI S τ2 x1 v1 fun v3 =>
    if v3 = 0 then
      gR τ2 x0 0 fun r4 =>
      bd2 (fX8_takeNumber S τ2 r4 (1 : Int32) (9 : Int32)) fun v5 τ6 =>
      if ¬ v5 = 0 then
        gR τ6 x0 0 fun r7 =>
        stI S τ6 x1 v1 (τ6.1 r7 6) fun τ8 =>
        some ((1 : Int32), τ8)
      else
        some ((0 : Int32), τ6)
    else
      gR τ2 x0 0 fun r9 =>
      bd2 (fX8_fails S τ2 r9 (3 : Int32)) fun v10 τ11 =>
      rZ v10 (some (v10, τ11))
  else
    some ((0 : Int32), τ2)
def fX5_readWish (S : Nat → Nat × Nat) (σ : mm) (x0 : Nat) : Option (Int32 × mm) :=
  if (σ.1 x0 3) = 0 then
    gR σ x0 0 fun r1 =>
    bd2 (fX8_takeNumber S σ r1 (0 : Int32) (99 : Int32)) fun v2 τ3 =>
    if ¬ v2 = 0 then
      wZ τ3 x0 3 (1 : Int32) fun τ4 =>
      gR τ4 x0 1 fun r5 =>
      gR τ4 x0 0 fun r6 =>
      wI τ4 r5 17 (τ4.1 r6 6) fun τ7 =>
      some ((1 : Int32), τ7)
    else
      some ((0 : Int32), τ3)
  else
    gR σ x0 0 fun r8 =>
    bd2 (fX8_fails S σ r8 (3 : Int32)) fun v9 τ10 =>
    rZ v9 (some (v9, τ10))
def fX5_readLine (S : Nat → Nat × Nat) (σ : mm) (x0 : Nat) : Option (Int32 × mm) :=
  gR σ x0 0 fun r1 =>
  gR σ r1 8 fun r2 =>
  ldS (Int32.ofNat r2) fun v3 =>
  if v3 = (1 : Int32) then
    bd2 (fX5_readPerson S σ x0) fun v4 τ5 =>
    rZ v4 (some (v4, τ5))
  else if v3 = (2 : Int32) then
    gR σ x0 1 fun r6 =>
    gR σ r6 4 fun r7 =>
    bd2 (fX5_readWarmth S σ x0 r7) fun v8 τ9 =>
    rZ v8 (some (v8, τ9))
  else if v3 = (3 : Int32) then
    gR σ x0 1 fun r10 =>
    gR σ r10 5 fun r11 =>
    bd2 (fX5_readWarmth S σ x0 r11) fun v12 τ13 =>
    rZ v12 (some (v12, τ13))
  else if v3 = (4 : Int32) then
    bd2 (fX5_readGlass S σ x0) fun v14 τ15 =>
    rZ v14 (some (v14, τ15))
  else if v3 = (5 : Int32) then
    bd2 (fX5_readDamp S σ x0) fun v16 τ17 =>
    rZ v16 (some (v16, τ17))
  else if v3 = (6 : Int32) then
    bd2 (fX5_readGood S σ x0) fun v18 τ19 =>
    rZ v18 (some (v18, τ19))
  else if v3 = (7 : Int32) then
    bd2 (fX5_readGrace S σ x0) fun v20 τ21 =>
    rZ v20 (some (v20, τ21))
  else if v3 = (8 : Int32) then
    bd2 (fX5_readWish S σ x0) fun v22 τ23 =>
    rZ v22 (some (v22, τ23))
  else if v3 = (9 : Int32) then
    bd2 (fX5_readEarly S σ x0) fun v24 τ25 =>
    rZ v24 (some (v24, τ25))
  else if v3 = (10 : Int32) then
    bd2 (fX5_readLevel S σ x0) fun v26 τ27 =>
    rZ v26 (some (v26, τ27))
  else gR σ x0 0 fun r28 =>
  bd2 (fX8_fails S σ r28 (1 : Int32)) fun v29 τ30 =>
  rZ v29 (some (v29, τ30))
def fX8_begin (S : Nat → Nat × Nat) (σ : mm) (x0 : Nat) (x1 : Int32) : Option mm :=
  wI σ x0 2 x1 fun τ1 =>
  wI τ1 x0 3 (0 : Int32) fun τ2 =>
  wI τ2 x0 9 (0 : Int32) fun τ3 =>
  wI τ3 x0 10 (0 : Int32) fun τ4 =>
  some τ4
def fX8_takeSemicolon_b26 (S : Nat → Nat × Nat) (σ : mm)  (s0 : Int32) : Option (Int32 × mm) :=
  rZ s0 (some (s0, σ))
def fX8_takeSemicolon_b21 (S : Nat → Nat × Nat) (σ : mm)   : Option (Int32 × mm) :=
  fX8_takeSemicolon_b26 S σ (1 : Int32)
def fX8_takeSemicolon (S : Nat → Nat × Nat) (σ : mm) (x0 : Nat) : Option (Int32 × mm) :=
  bd0 (fX8_next S σ x0) fun τ1 =>
  if (τ1.1 x0 4) = (59 : Int32) then
    fX8_takeSemicolon_b21 S τ1
  else
    bd2 (fX8_fails S τ1 x0 (1 : Int32)) fun v2 τ3 =>
    if v2 = 0 then
      fX8_takeSemicolon_b26 S τ3 (0 : Int32)
    else
      fX8_takeSemicolon_b21 S τ3
def fX5_read_L36 (S : Nat → Nat × Nat) (x0 : Nat) : (Int32 × mm) → Option ((Int32 × mm) ⊕ (mm ⊕ (Int32 × mm))) :=
  un2 fun x1 σ =>
  gR σ x0 0 fun r1 =>
    if (σ.1 r1 4) = 0 then
      some (.inr (.inr (x1, σ)))
    else
      if (900 : Int32) ≤ x1 then
        some (.inr (.inr (x1, σ)))
      else
        bd2 (fX5_readLine S σ x0) fun v2 τ3 =>
        if v2 = 0 then
          some (.inr (.inl τ3))
        else
          gR τ3 x0 0 fun r4 =>
          bd2 (fX8_takeSemicolon S τ3 r4) fun v5 τ6 =>
          if ¬ v5 = 0 then
            nm (x1 + (1 : Int32)) fun v7 =>
            gR τ6 x0 0 fun r8 =>
            bd0 (fX8_next S τ6 r8) fun τ9 =>
            some (.inl (v7, τ9))
          else
            some (.inr (.inl τ6))
def fX5_read_b70 (S : Nat → Nat × Nat) (σ : mm) (x0 : Nat)  : Option (Int32 × mm) :=
  gR σ x0 0 fun r1 =>
  some (((-1 : Int32) - (σ.1 r1 10)), σ)
def fX5_read_b93 (S : Nat → Nat × Nat) (σ : mm) (x1 : Int32)  : Option (Int32 × mm) :=
  some (x1, σ)
def fX5_read (S : Nat → Nat × Nat) (σ : mm) (x0 : Nat) : Option (Int32 × mm) :=
  gR σ x0 1 fun r1 =>
  bd0 (fX4_forget S σ r1) fun τ2 =>
  wZ τ2 x0 2 (0 : Int32) fun τ3 =>
  wZ τ3 x0 3 (0 : Int32) fun τ4 =>
  gR τ4 x0 0 fun r5 =>
  bd0 (fX8_begin S τ4 r5 (900 : Int32)) fun τ6 =>
  gR τ6 x0 0 fun r7 =>
  bd0 (fX8_next S τ6 r7) fun τ8 =>
  bd0 (loopN (fX5_read_L36 S x0) 1000 ((0 : Int32), τ8)) (cs2 (fun τ10 => fX5_read_b70 S τ10 x0) (un2 fun v11 τ12 => fX5_read_b93 S τ12 v11))
def fX6_note (S : Nat → Nat × Nat) (σ : mm) (x0 : Nat) (x1 : Int32) (x2 : Int32) (x3 : Int32) : Option (Int32 × mm) :=
  gR σ x0 2 fun r1 =>
  stI S σ r1 (σ.1 x0 5) x1 fun τ2 =>
  gR τ2 x0 3 fun r3 =>
  stI S τ2 r3 (τ2.1 x0 5) x2 fun τ4 =>
  gR τ4 x0 4 fun r5 =>
  stI S τ4 r5 (τ4.1 x0 5) x3 fun τ6 =>
  some ((1 : Int32), τ6)
def fX6_takeAct_b34 (S : Nat → Nat × Nat) (σ : mm)  (s0 : Int32) : Option (Int32 × mm) :=
  rZ s0 (some (s0, σ))
def fX6_takeAct_b33 (S : Nat → Nat × Nat) (σ : mm)   : Option (Int32 × mm) :=
  fX6_takeAct_b34 S σ (0 : Int32)
def fX6_takeAct (S : Nat → Nat × Nat) (σ : mm) (x0 : Nat) (x1 : Int32) (x2 : Int32) (x3 : Int32) (x4 : Int32) : Option (Int32 × mm) :=
  gR σ x0 0 fun r1 =>
  bd2 (fX8_takeNumber S σ r1 x3 x4) fun v2 τ3 =>
  if v2 = 0 then
    fX6_takeAct_b33 S τ3
  else
    gR τ3 x0 0 fun r4 =>
    bd2 (fX6_note S τ3 x0 x1 x2 (τ3.1 r4 6)) fun v5 τ6 =>
    if v5 = 0 then
      fX6_takeAct_b33 S τ6
    else
      fX6_takeAct_b34 S τ6 (1 : Int32)
def fX6_readActOfGlass (S : Nat → Nat × Nat) (σ : mm) (x0 : Nat) (x1 : Int32) : Option (Int32 × mm) :=
  gR σ x0 0 fun r1 =>
  gR σ r1 8 fun r2 =>
  ldS (Int32.ofNat r2) fun v3 =>
  if v3 = (14 : Int32) then
    bd2 (fX6_takeAct S σ x0 (3 : Int32) x1 (0 : Int32) (2 : Int32)) fun v4 τ5 =>
    rZ v4 (some (v4, τ5))
  else if v3 = (15 : Int32) then
    bd2 (fX6_takeAct S σ x0 (4 : Int32) x1 (1 : Int32) (8 : Int32)) fun v6 τ7 =>
    rZ v6 (some (v6, τ7))
  else if v3 = (16 : Int32) then
    bd2 (fX6_takeAct S σ x0 (5 : Int32) x1 (1 : Int32) (250 : Int32)) fun v8 τ9 =>
    rZ v8 (some (v8, τ9))
  else gR σ x0 0 fun r10 =>
  bd2 (fX8_fails S σ r10 (1 : Int32)) fun v11 τ12 =>
  rZ v11 (some (v11, τ12))
def fX6_readActOfPerson (S : Nat → Nat × Nat) (σ : mm) (x0 : Nat) (x1 : Int32) : Option (Int32 × mm) :=
  gR σ x0 0 fun r1 =>
  gR σ r1 8 fun r2 =>
  ldS (Int32.ofNat r2) fun v3 =>
  if v3 = (11 : Int32) then
    bd2 (fX6_note S σ x0 (0 : Int32) x1 (0 : Int32)) fun v4 τ5 =>
    rZ v4 (some (v4, τ5))
  else if v3 = (12 : Int32) then
    bd2 (fX6_note S σ x0 (1 : Int32) x1 (0 : Int32)) fun v6 τ7 =>
    rZ v6 (some (v6, τ7))
  else if v3 = (13 : Int32) then
    bd2 (fX6_takeAct S σ x0 (2 : Int32) x1 (1 : Int32) (20 : Int32)) fun v8 τ9 =>
    rZ v8 (some (v8, τ9))
  else gR σ x0 0 fun r10 =>
  bd2 (fX8_fails S σ r10 (1 : Int32)) fun v11 τ12 =>
  rZ v11 (some (v11, τ12))
def fX6_readLine_b164 (S : Nat → Nat × Nat) (σ : mm)  (s0 : Int32) : Option (Int32 × mm) :=
  rZ s0 (some (s0, σ))
def fX6_readLine_b97 (S : Nat → Nat × Nat) (σ : mm) (x0 : Nat) (x1 : Int32) (x2 : Int32)  : Option (Int32 × mm) :=
  if (σ.1 x0 5) < (40 : Int32) then
    gR σ x0 0 fun r1 =>
    gR σ r1 8 fun r2 =>
    if ¬ r2 = 18 then
      gR σ x0 0 fun r3 =>
      bd0 (fX8_next S σ r3) fun τ4 =>
      if x1 = (-1 : Int32) then
        bd2 (fX6_readActOfGlass S τ4 x0 x2) fun v5 τ6 =>
        fX6_readLine_b164 S τ6 v5
      else
        bd2 (fX6_readActOfPerson S τ4 x0 x1) fun v7 τ8 =>
        fX6_readLine_b164 S τ8 v7
    else
      bd2 (fX6_takeAct S σ x0 (6 : Int32) (0 : Int32) (1 : Int32) (60 : Int32)) fun v9 τ10 =>
      rZ v9 (some (v9, τ10))
  else
    gR σ x0 0 fun r11 =>
    bd2 (fX8_fails S σ r11 (4 : Int32)) fun v12 τ13 =>
    rZ v12 (some (v12, τ13))
def fX6_readLine_b65 (S : Nat → Nat × Nat) (σ : mm) (x0 : Nat) (x1 : Int32) (x2 : Int32)  : Option (Int32 × mm) :=
  gR σ x0 0 fun r1 =>
  gR σ r1 8 fun r2 =>
  if ¬ r2 = 1 then
    fX6_readLine_b97 S σ x0 x1 x2
  else
    if ¬ x1 = (-1 : Int32) then
      fX6_readLine_b97 S σ x0 x1 x2
    else
      if ¬ x2 = (-1 : Int32) then
        fX6_readLine_b97 S σ x0 x1 x2
      else
        gR σ x0 0 fun r3 =>
        bd2 (fX8_fails S σ r3 (3 : Int32)) fun v4 τ5 =>
        rZ v4 (some (v4, τ5))
def fX6_readLine (S : Nat → Nat × Nat) (σ : mm) (x0 : Nat) : Option (Int32 × mm) :=
  gR σ x0 1 fun r1 =>
  gR σ x0 0 fun r2 =>
  bd0 (fX4_personNamed S σ r1 (σ.2.1 r2 7)) fun v3 =>
  gR σ x0 1 fun r4 =>
  gR σ x0 0 fun r5 =>
  bd0 (fX4_glassNamed S σ r4 (σ.2.1 r5 7)) fun v6 =>
  gR σ x0 0 fun r7 =>
  gR σ r7 8 fun r8 =>
  if r8 = 18 then
    fX6_readLine_b65 S σ x0 v3 v6
  else
    gR σ x0 0 fun r9 =>
    gR σ r9 8 fun r10 =>
    if r10 = 1 then
      fX6_readLine_b65 S σ x0 v3 v6
    else
      gR σ x0 0 fun r11 =>
      bd2 (fX8_fails S σ r11 (1 : Int32)) fun v12 τ13 =>
      rZ v12 (some (v12, τ13))
def fX6_read_L22 (S : Nat → Nat × Nat) (x0 : Nat) : mm → Option (mm ⊕ (mm ⊕ mm)) :=
  fun σ => gR σ x0 0 fun r1 =>
    if (σ.1 r1 4) = 0 then
      some (.inr (.inr σ))
    else
      if (40 : Int32) < (σ.1 x0 5) then
        some (.inr (.inr σ))
      else
        bd2 (fX6_readLine S σ x0) fun v2 τ3 =>
        if v2 = 0 then
          some (.inr (.inl τ3))
        else
          gR τ3 x0 0 fun r4 =>
          bd2 (fX8_takeSemicolon S τ3 r4) fun v5 τ6 =>
          if ¬ v5 = 0 then
            wI τ6 x0 5 ((τ6.1 x0 5) + (1 : Int32)) fun τ7 =>
            gR τ7 x0 0 fun r8 =>
            bd0 (fX8_next S τ7 r8) fun τ9 =>
            some (.inl τ9)
          else
            some (.inr (.inl τ6))
def fX6_read_b58 (S : Nat → Nat × Nat) (σ : mm)   : Option (Int32 × mm) :=
  some ((0 : Int32), σ)
def fX6_read_b80 (S : Nat → Nat × Nat) (σ : mm)   : Option (Int32 × mm) :=
  some ((1 : Int32), σ)
def fX6_read (S : Nat → Nat × Nat) (σ : mm) (x0 : Nat) : Option (Int32 × mm) :=
  gR σ x0 0 fun r1 =>
  bd0 (fX8_begin S σ r1 (400 : Int32)) fun τ2 =>
  wI τ2 x0 5 (0 : Int32) fun τ3 =>
  gR τ3 x0 0 fun r4 =>
  bd0 (fX8_next S τ3 r4) fun τ5 =>
  bd0 (loopN (fX6_read_L22 S x0) 1000 τ5) (cs2 (fun τ7 => fX6_read_b58 S τ7) (fun τ8 => fX6_read_b80 S τ8))
def fX6_judge_b145 (S : Nat → Nat × Nat) (σ : mm) (x0 : Nat) (x1 : Nat)  : Option (mm ⊕ mm) :=
  some (.inl σ)
def fX6_judge_L15 (S : Nat → Nat × Nat) (x0 : Nat) (x1 : Nat) : mm → Option (mm ⊕ mm) :=
  fun σ => if ¬ (σ.1 x0 7) = 0 then
      some (.inr σ)
    else
      if (σ.1 x0 5) ≤ (σ.1 x0 8) then
        some (.inr σ)
      else
        if (40 : Int32) ≤ (σ.1 x0 8) then
          some (.inr σ)
        else
          gR σ x0 2 fun r1 =>
          ldI S σ r1 (σ.1 x0 8) fun v2 =>
          gR σ x0 3 fun r3 =>
          ldI S σ r3 (σ.1 x0 8) fun v4 =>
          gR σ x0 4 fun r5 =>
          ldI S σ r5 (σ.1 x0 8) fun v6 =>
          bd0 (fX3_whyNot S σ x1 v2 v4 v6) fun v7 =>
          if v7 = 0 then
            if ¬ v2 = (6 : Int32) then
              bd0 (fX3_carryOut S σ x1 v2 v4 v6) fun τ8 =>
              wI τ8 x0 8 ((τ8.1 x0 8) + (1 : Int32)) fun τ9 =>
              fX6_judge_b145 S τ9 x0 x1
            else
              bd0 (fX3_passHours S σ x1 v6) fun τ10 =>
              wI τ10 x0 8 ((τ10.1 x0 8) + (1 : Int32)) fun τ11 =>
              fX6_judge_b145 S τ11 x0 x1
          else
            wI σ x0 7 (((10 : Int32) * v2) + v7) fun τ12 =>
            fX6_judge_b145 S τ12 x0 x1
def fX6_judge_b179 (S : Nat → Nat × Nat) (σ : mm)  (s0 : Int32) : Option (Int32 × mm) :=
  some (s0, σ)
def fX6_judge_b148 (S : Nat → Nat × Nat) (σ : mm) (x0 : Nat) (x1 : Nat)  : Option (Int32 × mm) :=
  wI σ x0 9 (σ.1 x1 1) fun τ1 =>
  wI τ1 x0 10 (τ1.1 x1 2) fun τ2 =>
  if ¬ (τ2.1 x0 7) = 0 then
    fX6_judge_b179 S τ2 (τ2.1 x0 8)
  else
    fX6_judge_b179 S τ2 (-1 : Int32)
def fX6_judge (S : Nat → Nat × Nat) (σ : mm) (x0 : Nat) (x1 : Nat) : Option (Int32 × mm) :=
  wZ σ x0 6 (1 : Int32) fun τ1 =>
  wI τ1 x0 7 (0 : Int32) fun τ2 =>
  wI τ2 x0 8 (0 : Int32) fun τ3 =>
  bd0 (loopN (fX6_judge_L15 S x0 x1) 1000 τ3) (fun τ5 => fX6_judge_b148 S τ5 x0 x1)
def fX6_told (S : Nat → Nat × Nat) (σ : mm) (x0 : Nat) (x1 : Int32) : Option Int32 :=
  if ¬ (σ.1 x0 6) = 0 then
    if x1 = (0 : Int32) then
      some (σ.1 x0 7)
    else if x1 = (1 : Int32) then
      some (σ.1 x0 8)
    else if x1 = (2 : Int32) then
      some (σ.1 x0 9)
    else if x1 = (3 : Int32) then
      some (σ.1 x0 10)
    else some (-1 : Int32)
  else
    some (-1 : Int32)
def fX7_forget (S : Nat → Nat × Nat) (σ : mm) (x0 : Nat) : Option mm :=
  wI σ x0 4 (0 : Int32) fun τ1 =>
  wI τ1 x0 3 (0 : Int32) fun τ2 =>
  some τ2
def fX7_copyFrom_L2 (S : Nat → Nat × Nat) (x0 : Nat) (x1 : Nat) : (Int32 × mm) → Option ((Int32 × mm) ⊕ mm) :=
  un2 fun x2 σ =>
  if (40 : Int32) ≤ x2 then
      some (.inr σ)
    else
      gR σ x0 0 fun r1 =>
      gR σ x1 0 fun r2 =>
      ldR S σ r2 x2 fun r3 =>
      stR S σ r1 x2 r3 fun τ4 =>
      gR τ4 x0 1 fun r5 =>
      gR τ4 x1 1 fun r6 =>
      ldI S τ4 r6 x2 fun v7 =>
      stI S τ4 r5 x2 v7 fun τ8 =>
      gR τ8 x0 2 fun r9 =>
      gR τ8 x1 2 fun r10 =>
      ldI S τ8 r10 x2 fun v11 =>
      stI S τ8 r9 x2 v11 fun τ12 =>
      nm (x2 + (1 : Int32)) fun v13 =>
      some (.inl (v13, τ12))
def fX7_copyFrom (S : Nat → Nat × Nat) (σ : mm) (x0 : Nat) (x1 : Nat) : Option mm :=
  bd0 (loopN (fX7_copyFrom_L2 S x0 x1) 1000 ((0 : Int32), σ)) (fun τ2 => wI τ2 x0 3 (τ2.1 x1 3) fun τ3 =>
  wI τ3 x0 4 (τ3.1 x1 4) fun τ4 =>
  some τ4)
def fX7_addStep_b49 (S : Nat → Nat × Nat) (σ : mm)   : Option (Int32 × mm) :=
  some ((1 : Int32), σ)
def fX7_addStep (S : Nat → Nat × Nat) (σ : mm) (x0 : Nat) (x1 : Nat) (x2 : Int32) (x3 : Int32) : Option (Int32 × mm) :=
  if (40 : Int32) ≤ (σ.1 x0 3) then
    fX7_addStep_b49 S σ
  else
    gR σ x0 0 fun r1 =>
    stR S σ r1 (σ.1 x0 3) x1 fun τ2 =>
    gR τ2 x0 1 fun r3 =>
    stI S τ2 r3 (τ2.1 x0 3) x2 fun τ4 =>
    gR τ4 x0 2 fun r5 =>
    stI S τ4 r5 (τ4.1 x0 3) x3 fun τ6 =>
    wI τ6 x0 3 ((τ6.1 x0 3) + (1 : Int32)) fun τ7 =>
    fX7_addStep_b49 S τ7
def fX7_isMeasure_b33 (S : Nat → Nat × Nat) (σ : mm)  (s0 : Int32) : Option Int32 :=
  rZ s0 (some s0)
def fX7_isMeasure_b28 (S : Nat → Nat × Nat) (σ : mm)   : Option Int32 :=
  fX7_isMeasure_b33 S σ (1 : Int32)
def fX7_isMeasure (S : Nat → Nat × Nat) (σ : mm) (x0 : Nat) : Option Int32 :=
  if x0 = 27 then
    fX7_isMeasure_b28 S σ
  else
    if x0 = 28 then
      fX7_isMeasure_b28 S σ
    else
      if x0 = 29 then
        fX7_isMeasure_b28 S σ
      else
        if ¬ x0 = 30 then
          fX7_isMeasure_b33 S σ (0 : Int32)
        else
          fX7_isMeasure_b28 S σ
def fX7_mayBegin (S : Nat → Nat × Nat) (σ : mm) (x0 : Nat) : Option Int32 :=
  ldS (Int32.ofNat x0) fun v1 =>
  if v1 = (17 : Int32) then
    some (1 : Int32)
  else if v1 = (18 : Int32) then
    some (1 : Int32)
  else if v1 = (19 : Int32) then
    some (1 : Int32)
  else if v1 = (20 : Int32) then
    some (1 : Int32)
  else if v1 = (21 : Int32) then
    some (1 : Int32)
  else if v1 = (22 : Int32) then
    some (1 : Int32)
  else bd0 (fX7_isMeasure S σ x0) fun v2 =>
  rZ v2 (some v2)
def fX7_readPlain_b135 (S : Nat → Nat × Nat) (σ : mm) (x0 : Nat) (x3 : Nat) (x4 : Int32) (x5 : Int32)  : Option (Int32 × mm) :=
  bd2 (fX7_addStep S σ x0 x3 x4 x5) fun v1 τ2 =>
  rZ v1 (some (v1, τ2))
def fX7_readPlain_b107 (S : Nat → Nat × Nat) (σ : mm) (x0 : Nat) (x1 : Nat) (x3 : Nat) (x4 : Int32)  : Option (Int32 × mm) :=
  bd0 (fX8_next S σ x1) fun τ1 =>
  if (τ1.1 x1 4) = (3 : Int32) then
    nm (τ1.1 x1 6) fun v2 =>
    bd0 (fX8_next S τ1 x1) fun τ3 =>
    fX7_readPlain_b135 S τ3 x0 x3 x4 v2
  else
    bd2 (fX8_fails S τ1 x1 (1 : Int32)) fun v4 τ5 =>
    rZ v4 (some (v4, τ5))
def fX7_readPlain (S : Nat → Nat × Nat) (σ : mm) (x0 : Nat) (x1 : Nat) (x2 : Nat) : Option (Int32 × mm) :=
  gR σ x1 8 fun r1 =>
  bd0 (fX8_next S σ x1) fun τ2 =>
  if ¬ r1 = 26 then
    bd0 (fX7_isMeasure S τ2 r1) fun v3 =>
    if v3 = 0 then
      fX7_readPlain_b135 S τ2 x0 r1 (0 : Int32) (0 : Int32)
    else
      nm (τ2.1 x1 4) fun v4 =>
      if v4 = (60 : Int32) then
        fX7_readPlain_b107 S τ2 x0 x1 r1 v4
      else
        if v4 = (61 : Int32) then
          fX7_readPlain_b107 S τ2 x0 x1 r1 v4
        else
          if v4 = (62 : Int32) then
            fX7_readPlain_b107 S τ2 x0 x1 r1 v4
          else
            bd2 (fX8_fails S τ2 x1 (1 : Int32)) fun v5 τ6 =>
            rZ v5 (some (v5, τ6))
  else
    gR τ2 x1 8 fun r7 =>
    if r7 = 1 then
      bd0 (fX4_personNamed S τ2 x2 (τ2.2.1 x1 7)) fun v8 =>
      if ¬ v8 = (-1 : Int32) then
        bd0 (fX8_next S τ2 x1) fun τ9 =>
        fX7_readPlain_b135 S τ9 x0 r1 (0 : Int32) v8
      else
        bd2 (fX8_fails S τ2 x1 (3 : Int32)) fun v10 τ11 =>
        rZ v10 (some (v10, τ11))
    else
      bd2 (fX8_fails S τ2 x1 (1 : Int32)) fun v12 τ13 =>
      rZ v12 (some (v12, τ13))
def fX7_readOne_b52 (F : Nat → mm → Nat → Nat → Nat → Int32 → Option (Int32 × mm)) (S : Nat → Nat × Nat) (σ : mm) (x1 : Nat)  : Option (Int32 × mm) :=
  bd2 (fX8_fails S σ x1 (4 : Int32)) fun v1 τ2 =>
  rZ v1 (some (v1, τ2))
def fX7_readOne_b111 (F : Nat → mm → Nat → Nat → Nat → Int32 → Option (Int32 × mm)) (S : Nat → Nat × Nat) (σ : mm)  (s0 : Int32) : Option (Int32 × mm) :=
  rZ s0 (some (s0, σ))
def fX7_readOne_b110 (F : Nat → mm → Nat → Nat → Nat → Int32 → Option (Int32 × mm)) (S : Nat → Nat × Nat) (σ : mm)   : Option (Int32 × mm) :=
  fX7_readOne_b111 F S σ (0 : Int32)
def fX7_readOne_b37 (F : Nat → mm → Nat → Nat → Nat → Int32 → Option (Int32 × mm)) (S : Nat → Nat × Nat) (σ : mm) (x0 : Nat) (x1 : Nat) (x2 : Nat) (x3 : Int32) (x4 : Int32)  : Option (Int32 × mm) :=
  if (20 : Int32) ≤ (σ.1 x0 4) then
    fX7_readOne_b52 F S σ x1
  else
    if x3 < (8 : Int32) then
      wI σ x0 4 ((σ.1 x0 4) + (1 : Int32)) fun τ1 =>
      gR τ1 x1 8 fun r2 =>
      if ¬ r2 = 21 then
        if ¬ x4 = 0 then
          bd0 (fX8_next S τ1 x1) fun τ3 =>
          bd2 (F 1 τ3 x0 x1 x2 (x3 + (1 : Int32))) fun v4 τ5 =>
          if ¬ v4 = 0 then
            if (τ5.1 x1 4) = (41 : Int32) then
              bd0 (fX8_next S τ5 x1) fun τ6 =>
              some ((1 : Int32), τ6)
            else
              bd2 (fX8_fails S τ5 x1 (1 : Int32)) fun v7 τ8 =>
              rZ v7 (some (v7, τ8))
          else
            some ((0 : Int32), τ5)
        else
          bd2 (fX7_readPlain S τ1 x0 x1 x2) fun v9 τ10 =>
          rZ v9 (some (v9, τ10))
      else
        bd0 (fX8_next S τ1 x1) fun τ11 =>
        bd2 (F 2 τ11 x0 x1 x2 (x3 + (1 : Int32))) fun v12 τ13 =>
        if v12 = 0 then
          fX7_readOne_b110 F S τ13
        else
          bd2 (fX7_addStep S τ13 x0 21 (0 : Int32) (0 : Int32)) fun v14 τ15 =>
          if v14 = 0 then
            fX7_readOne_b110 F S τ15
          else
            fX7_readOne_b111 F S τ15 (1 : Int32)
    else
      fX7_readOne_b52 F S σ x1
def fX7_readOne_b14 (F : Nat → mm → Nat → Nat → Nat → Int32 → Option (Int32 × mm)) (S : Nat → Nat × Nat) (σ : mm) (x0 : Nat) (x1 : Nat) (x2 : Nat) (x3 : Int32) (s0 : Int32) : Option (Int32 × mm) :=
  if ¬ s0 = 0 then
    fX7_readOne_b37 F S σ x0 x1 x2 x3 s0
  else
    gR σ x1 8 fun r1 =>
    bd0 (fX7_mayBegin S σ r1) fun v2 =>
    if ¬ v2 = 0 then
      fX7_readOne_b37 F S σ x0 x1 x2 x3 s0
    else
      bd2 (fX8_fails S σ x1 (1 : Int32)) fun v3 τ4 =>
      rZ v3 (some (v3, τ4))
def fX7_readOne (F : Nat → mm → Nat → Nat → Nat → Int32 → Option (Int32 × mm)) (S : Nat → Nat × Nat) (σ : mm) (x0 : Nat) (x1 : Nat) (x2 : Nat) (x3 : Int32) : Option (Int32 × mm) :=
  if ¬ (σ.1 x1 4) = (40 : Int32) then
    fX7_readOne_b14 F S σ x0 x1 x2 x3 (0 : Int32)
  else
    fX7_readOne_b14 F S σ x0 x1 x2 x3 (1 : Int32)
def fX7_readAll_L15 (F : Nat → mm → Nat → Nat → Nat → Int32 → Option (Int32 × mm)) (S : Nat → Nat × Nat) (x0 : Nat) (x1 : Nat) (x2 : Nat) (x3 : Int32) : (Int32 × mm) → Option ((Int32 × mm) ⊕ (mm ⊕ mm)) :=
  un2 fun x4 σ =>
  if (20 : Int32) ≤ x4 then
      some (.inr (.inr σ))
    else
      gR σ x1 8 fun r1 =>
      if ¬ r1 = 20 then
        some (.inr (.inr σ))
      else
        bd0 (fX8_next S σ x1) fun τ2 =>
        bd2 (F 2 τ2 x0 x1 x2 x3) fun v3 τ4 =>
        if ¬ v3 = 0 then
          bd2 (fX7_addStep S τ4 x0 20 (0 : Int32) (0 : Int32)) fun v5 τ6 =>
          nm (x4 + (1 : Int32)) fun v7 =>
          some (.inl (v7, τ6))
        else
          some (.inr (.inl τ4))
def fX7_readAll_b64 (F : Nat → mm → Nat → Nat → Nat → Int32 → Option (Int32 × mm)) (S : Nat → Nat × Nat) (σ : mm)   : Option (Int32 × mm) :=
  some ((1 : Int32), σ)
def fX7_readAll (F : Nat → mm → Nat → Nat → Nat → Int32 → Option (Int32 × mm)) (S : Nat → Nat × Nat) (σ : mm) (x0 : Nat) (x1 : Nat) (x2 : Nat) (x3 : Int32) : Option (Int32 × mm) :=
  bd2 (F 2 σ x0 x1 x2 x3) fun v1 τ2 =>
  if ¬ v1 = 0 then
    bd0 (loopN (fX7_readAll_L15 F S x0 x1 x2 x3) 1000 ((0 : Int32), τ2)) (cs2 (fun τ4 => some ((0 : Int32), τ4)) (fun τ5 => fX7_readAll_b64 F S τ5))
  else
    some ((0 : Int32), τ2)
def fX7_readCond_L15 (F : Nat → mm → Nat → Nat → Nat → Int32 → Option (Int32 × mm)) (S : Nat → Nat × Nat) (x0 : Nat) (x1 : Nat) (x2 : Nat) (x3 : Int32) : (Int32 × mm) → Option ((Int32 × mm) ⊕ (mm ⊕ mm)) :=
  un2 fun x4 σ =>
  if (20 : Int32) ≤ x4 then
      some (.inr (.inr σ))
    else
      gR σ x1 8 fun r1 =>
      if ¬ r1 = 19 then
        some (.inr (.inr σ))
      else
        bd0 (fX8_next S σ x1) fun τ2 =>
        bd2 (F 0 τ2 x0 x1 x2 x3) fun v3 τ4 =>
        if ¬ v3 = 0 then
          bd2 (fX7_addStep S τ4 x0 19 (0 : Int32) (0 : Int32)) fun v5 τ6 =>
          nm (x4 + (1 : Int32)) fun v7 =>
          some (.inl (v7, τ6))
        else
          some (.inr (.inl τ4))
def fX7_readCond_b64 (F : Nat → mm → Nat → Nat → Nat → Int32 → Option (Int32 × mm)) (S : Nat → Nat × Nat) (σ : mm)   : Option (Int32 × mm) :=
  some ((1 : Int32), σ)
def fX7_readCond (F : Nat → mm → Nat → Nat → Nat → Int32 → Option (Int32 × mm)) (S : Nat → Nat × Nat) (σ : mm) (x0 : Nat) (x1 : Nat) (x2 : Nat) (x3 : Int32) : Option (Int32 × mm) :=
  bd2 (F 0 σ x0 x1 x2 x3) fun v1 τ2 =>
  if ¬ v1 = 0 then
    bd0 (loopN (fX7_readCond_L15 F S x0 x1 x2 x3) 1000 ((0 : Int32), τ2)) (cs2 (fun τ4 => some ((0 : Int32), τ4)) (fun τ5 => fX7_readCond_b64 F S τ5))
  else
    some ((0 : Int32), τ2)
def gX7_readAll (S : Nat → Nat × Nat) : Nat → Nat → mm → Nat → Nat → Nat → Int32 → Option (Int32 × mm)
  | 0 => fun _ _ _ _ _ _ => none
  | n + 1 => fun i σ x0 x1 x2 x3 => match i with
    | 0 => fX7_readAll (gX7_readAll S n) S σ x0 x1 x2 x3
    | 1 => fX7_readCond (gX7_readAll S n) S σ x0 x1 x2 x3
    | _ => fX7_readOne (gX7_readAll S n) S σ x0 x1 x2 x3
def fX7_read_b47 (S : Nat → Nat × Nat) (σ : mm)  (s0 : Int32) : Option (Int32 × mm) :=
  rZ s0 (some (s0, σ))
def fX7_read_b42 (S : Nat → Nat × Nat) (σ : mm)   : Option (Int32 × mm) :=
  fX7_read_b47 S σ (1 : Int32)
def fX7_read (S : Nat → Nat × Nat) (σ : mm) (x0 : Nat) (x1 : Nat) (x2 : Nat) : Option (Int32 × mm) :=
  bd0 (fX7_forget S σ x0) fun τ1 =>
  bd0 (fX8_begin S τ1 x1 (200 : Int32)) fun τ2 =>
  bd0 (fX8_next S τ2 x1) fun τ3 =>
  bd2 (gX7_readAll S 100 1 τ3 x0 x1 x2 (0 : Int32)) fun v4 τ5 =>
  if ¬ v4 = 0 then
    if (τ5.1 x1 4) = 0 then
      fX7_read_b42 S τ5
    else
      bd2 (fX8_fails S τ5 x1 (1 : Int32)) fun v6 τ7 =>
      if v6 = 0 then
        fX7_read_b47 S τ7 (0 : Int32)
      else
        fX7_read_b42 S τ7
  else
    some ((0 : Int32), τ5)
def fX7_compares_b71 (S : Nat → Nat × Nat) (σ : mm)  (s0 : Int32) : Option Int32 :=
  rZ s0 (some s0)
def fX7_compares_b26 (S : Nat → Nat × Nat) (σ : mm)  (s0 : Int32) : Option Int32 :=
  rZ s0 (some s0)
def fX7_compares (S : Nat → Nat × Nat) (σ : mm) (x0 : Nat) (x1 : Int32) (x2 : Int32) : Option Int32 :=
  gR σ x0 1 fun r1 =>
  ldI S σ r1 x2 fun v2 =>
  if ¬ v2 = (60 : Int32) then
    gR σ x0 1 fun r3 =>
    ldI S σ r3 x2 fun v4 =>
    if ¬ v4 = (62 : Int32) then
      gR σ x0 2 fun r5 =>
      ldI S σ r5 x2 fun v6 =>
      if ¬ x1 = v6 then
        fX7_compares_b71 S σ (0 : Int32)
      else
        fX7_compares_b71 S σ (1 : Int32)
    else
      gR σ x0 2 fun r7 =>
      ldI S σ r7 x2 fun v8 =>
      if x1 ≤ v8 then
        fX7_compares_b71 S σ (0 : Int32)
      else
        fX7_compares_b71 S σ (1 : Int32)
  else
    gR σ x0 2 fun r9 =>
    ldI S σ r9 x2 fun v10 =>
    if v10 ≤ x1 then
      fX7_compares_b26 S σ (0 : Int32)
    else
      fX7_compares_b26 S σ (1 : Int32)
def fX7_isSo_b90 (S : Nat → Nat × Nat) (σ : mm)  (s0 : Int32) : Option Int32 :=
  rZ s0 (some s0)
def fX7_isSo_b107 (S : Nat → Nat × Nat) (σ : mm)  (s0 : Int32) : Option Int32 :=
  rZ s0 (some s0)
def fX7_isSo_b141 (S : Nat → Nat × Nat) (σ : mm)  (s0 : Int32) : Option Int32 :=
  rZ s0 (some s0)
def fX7_isSo_b140 (S : Nat → Nat × Nat) (σ : mm)   : Option Int32 :=
  fX7_isSo_b141 S σ (0 : Int32)
def fX7_isSo_b179 (S : Nat → Nat × Nat) (σ : mm)  (s0 : Int32) : Option Int32 :=
  rZ s0 (some s0)
def fX7_isSo_b174 (S : Nat → Nat × Nat) (σ : mm)   : Option Int32 :=
  fX7_isSo_b179 S σ (1 : Int32)
def fX7_isSo (S : Nat → Nat × Nat) (σ : mm) (x0 : Nat) (x1 : Int32) (x2 : Nat) (x3 : Nat) (x4 : Int32) : Option Int32 :=
  gR σ x0 0 fun r1 =>
  ldR S σ r1 x1 fun r2 =>
  ldS (Int32.ofNat r2) fun v3 =>
  if v3 = (18 : Int32) then
    bd0 (fX3_isLapsed S σ x2 x4) fun v4 =>
    rZ v4 (some v4)
  else if v3 = (19 : Int32) then
    gR σ x2 6 fun r5 =>
    ldI S σ r5 x4 fun v6 =>
    if ¬ v6 = 0 then
      fX7_isSo_b90 S σ (0 : Int32)
    else
      fX7_isSo_b90 S σ (1 : Int32)
  else if v3 = (20 : Int32) then
    gR σ x2 7 fun r7 =>
    ldI S σ r7 x4 fun v8 =>
    if ¬ v8 = (1 : Int32) then
      fX7_isSo_b107 S σ (0 : Int32)
    else
      fX7_isSo_b107 S σ (1 : Int32)
  else if v3 = (21 : Int32) then
    gR σ x3 8 fun r9 =>
    ldI S σ r9 x4 fun v10 =>
    bd0 (fX3_isAwake S σ x2 v10) fun v11 =>
    if v11 = 0 then
      fX7_isSo_b140 S σ
    else
      gR σ x3 9 fun r12 =>
      ldI S σ r12 x4 fun v13 =>
      bd0 (fX3_isAwake S σ x2 v13) fun v14 =>
      if v14 = 0 then
        fX7_isSo_b140 S σ
      else
        fX7_isSo_b141 S σ (1 : Int32)
  else if v3 = (22 : Int32) then
    gR σ x0 2 fun r15 =>
    ldI S σ r15 x1 fun v16 =>
    gR σ x3 8 fun r17 =>
    ldI S σ r17 x4 fun v18 =>
    if v16 = v18 then
      fX7_isSo_b174 S σ
    else
      gR σ x0 2 fun r19 =>
      ldI S σ r19 x1 fun v20 =>
      gR σ x3 9 fun r21 =>
      ldI S σ r21 x4 fun v22 =>
      if ¬ v20 = v22 then
        fX7_isSo_b179 S σ (0 : Int32)
      else
        fX7_isSo_b174 S σ
  else if v3 = (23 : Int32) then
    bd0 (fX7_compares S σ x0 x4 x1) fun v23 =>
    rZ v23 (some v23)
  else if v3 = (24 : Int32) then
    bd0 (fX7_compares S σ x0 x4 x1) fun v24 =>
    rZ v24 (some v24)
  else if v3 = (25 : Int32) then
    gR σ x2 6 fun r25 =>
    ldI S σ r25 x4 fun v26 =>
    bd0 (fX7_compares S σ x0 v26 x1) fun v27 =>
    rZ v27 (some v27)
  else if v3 = (26 : Int32) then
    gR σ x2 8 fun r28 =>
    ldI S σ r28 x4 fun v29 =>
    bd0 (fX7_compares S σ x0 v29 x1) fun v30 =>
    rZ v30 (some v30)
  else if v3 = (27 : Int32) then
    gR σ x2 10 fun r31 =>
    ldI S σ r31 x4 fun v32 =>
    bd0 (fX7_compares S σ x0 v32 x1) fun v33 =>
    rZ v33 (some v33)
  else bd0 (fX7_compares S σ x0 x4 x1) fun v34 =>
  rZ v34 (some v34)
def fX7_holds_b128 (S : Nat → Nat × Nat) (σ : mm) (x0 : Nat) (x1 : Nat) (x2 : Nat) (x3 : Int32) (x4 : Int32) (x5 : Int32)  : Option ((Int32 × Int32) ⊕ Int32) :=
  nm (x5 + (1 : Int32)) fun v1 =>
  some (.inl (x4, v1))
def fX7_holds_b125 (S : Nat → Nat × Nat) (σ : mm) (x0 : Nat) (x1 : Nat) (x2 : Nat) (x3 : Int32) (x5 : Int32) (s0 : Int32) (s1 : Int32) : Option ((Int32 × Int32) ⊕ Int32) :=
  nm (s0 ||| s1) fun v1 =>
  fX7_holds_b128 S σ x0 x1 x2 x3 v1 x5
def fX7_holds_L6 (S : Nat → Nat × Nat) (σ : mm) (x0 : Nat) (x1 : Nat) (x2 : Nat) (x3 : Int32) : (Int32 × Int32) → Option ((Int32 × Int32) ⊕ Int32) :=
  un2 fun x4 x5 =>
  if (σ.1 x0 3) ≤ x5 then
      some (.inr x4)
    else
      nm (x4 &&& (1 : Int32)) fun v1 =>
      gR σ x0 0 fun r2 =>
      ldR S σ r2 x5 fun r3 =>
      ldS (Int32.ofNat r3) fun v4 =>
      if v4 = (17 : Int32) then
        nm (x4 ^^^ (1 : Int32)) fun v5 =>
        fX7_holds_b128 S σ x0 x1 x2 x3 v5 x5
      else if v4 = (23 : Int32) then
        nm ((x4 >>> ((1 : Int32) &&& 31)) &&& (v1 ||| (-2 : Int32))) fun v6 =>
        fX7_holds_b128 S σ x0 x1 x2 x3 v6 x5
      else if v4 = (24 : Int32) then
        nm ((x4 >>> ((1 : Int32) &&& 31)) ||| v1) fun v7 =>
        fX7_holds_b128 S σ x0 x1 x2 x3 v7 x5
      else bd0 (fX7_isSo S σ x0 x5 x1 x2 x3) fun v8 =>
      if v8 = 0 then
        fX7_holds_b125 S σ x0 x1 x2 x3 x5 (x4 <<< ((1 : Int32) &&& 31)) (0 : Int32)
      else
        fX7_holds_b125 S σ x0 x1 x2 x3 x5 (x4 <<< ((1 : Int32) &&& 31)) (1 : Int32)
def fX7_holds_b147 (S : Nat → Nat × Nat) (σ : mm)  (s0 : Int32) : Option Int32 :=
  rZ s0 (some s0)
def fX7_holds (S : Nat → Nat × Nat) (σ : mm) (x0 : Nat) (x1 : Nat) (x2 : Nat) (x3 : Int32) : Option Int32 :=
  bd0 (loopN (fX7_holds_L6 S σ x0 x1 x2 x3) 1000 ((0 : Int32), (0 : Int32))) (fun v2 => if ¬ (v2 &&& (1 : Int32)) = (1 : Int32) then
    fX7_holds_b147 S σ (0 : Int32)
  else
    fX7_holds_b147 S σ (1 : Int32))
def fX8_hasRoom_b18 (S : Nat → Nat × Nat) (σ : mm)  (s0 : Int32) : Option Int32 :=
  rZ s0 (some s0)
def fX8_hasRoom (S : Nat → Nat × Nat) (σ : mm) (x0 : Nat) : Option Int32 :=
  if (940 : Int32) < ((σ.1 x0 1) + (20 : Int32)) then
    fX8_hasRoom_b18 S σ (0 : Int32)
  else
    fX8_hasRoom_b18 S σ (1 : Int32)
def fX8_append_L3 (S : Nat → Nat × Nat) (x0 : Nat) (x1 : Int32) : (Int32 × mm) → Option ((Int32 × mm) ⊕ mm) :=
  un2 fun x2 σ =>
  if x2 < 0 then
      some (.inr σ)
    else
      if (940 : Int32) ≤ (σ.1 x0 1) then
        some (.inr σ)
      else
        gR σ x0 0 fun r1 =>
        stB S σ r1 (σ.1 x0 1) ((x1 >>> (x2 &&& 31)).toInt8.toInt32) fun τ2 =>
        wI τ2 x0 1 ((τ2.1 x0 1) + (1 : Int32)) fun τ3 =>
        nm (x2 + (-8 : Int32)) fun v4 =>
        some (.inl (v4, τ3))
def fX8_append_b46 (S : Nat → Nat × Nat) (σ : mm)   : Option mm :=
  some σ
def fX8_append (S : Nat → Nat × Nat) (σ : mm) (x0 : Nat) (x1 : Int32) : Option mm :=
  bd0 (loopN (fX8_append_L3 S x0 x1) 1000 ((24 : Int32), σ)) (fun τ2 => fX8_append_b46 S τ2)
def fX8_firstByte (S : Nat → Nat × Nat) (σ : mm) (x0 : Nat) : Option Int32 :=
  gR σ x0 0 fun r1 =>
  ldI S σ r1 (0 : Int32) fun v2 =>
  some (v2 &&& (255 : Int32))
def fX9_forget (S : Nat → Nat × Nat) (σ : mm) (x0 : Nat) : Option mm :=
  wI σ x0 1 (0 : Int32) fun τ1 =>
  some τ1
def fX9_dropOldest_L9 (S : Nat → Nat × Nat) (x0 : Nat) (x1 : Nat) : (Int32 × mm) → Option ((Int32 × mm) ⊕ mm) :=
  un2 fun x2 σ =>
  if (8 : Int32) ≤ x2 then
      some (.inr σ)
    else
      gR σ x0 0 fun r1 =>
      gR σ x0 0 fun r2 =>
      ldR S σ r2 x2 fun r3 =>
      stR S σ r1 (x2 - (1 : Int32)) r3 fun τ4 =>
      nm (x2 + (1 : Int32)) fun v5 =>
      some (.inl (v5, τ4))
def fX9_dropOldest (S : Nat → Nat × Nat) (σ : mm) (x0 : Nat) : Option mm :=
  gR σ x0 0 fun r1 =>
  ldR S σ r1 (0 : Int32) fun r2 =>
  bd0 (loopN (fX9_dropOldest_L9 S x0 r2) 1000 ((1 : Int32), σ)) (fun τ4 => gR τ4 x0 0 fun r5 =>
  stR S τ4 r5 (7 : Int32) r2 fun τ6 =>
  wI τ6 x0 1 ((τ6.1 x0 1) - (1 : Int32)) fun τ7 =>
  some τ7)
def fX9_keep_b13 (S : Nat → Nat × Nat) (σ : mm) (x0 : Nat) (x1 : Nat)  : Option mm :=
  gR σ x0 0 fun r1 =>
  ldR S σ r1 (σ.1 x0 1) fun r2 =>
  bd0 (fX3_copyFrom S σ r2 x1) fun τ3 =>
  wI τ3 x0 1 ((τ3.1 x0 1) + (1 : Int32)) fun τ4 =>
  some τ4
def fX9_keep (S : Nat → Nat × Nat) (σ : mm) (x0 : Nat) (x1 : Nat) : Option mm :=
  if ¬ (σ.1 x0 1) = (8 : Int32) then
    fX9_keep_b13 S σ x0 x1
  else
    bd0 (fX9_dropOldest S σ x0) fun τ1 =>
    fX9_keep_b13 S τ1 x0 x1
def fX9_takeBack (S : Nat → Nat × Nat) (σ : mm) (x0 : Nat) (x1 : Nat) : Option (Int32 × mm) :=
  if ¬ (σ.1 x0 1) = 0 then
    wI σ x0 1 ((σ.1 x0 1) - (1 : Int32)) fun τ1 =>
    gR τ1 x0 0 fun r2 =>
    ldR S τ1 r2 (τ1.1 x0 1) fun r3 =>
    bd0 (fX3_copyFrom S τ1 x1 r3) fun τ4 =>
    some ((τ4.1 x0 1), τ4)
  else
    some ((-1 : Int32), σ)
def fX10_wakingAt_b22 (S : Nat → Nat × Nat) (σ : mm)  (s0 : Int32) : Option Int32 :=
  some s0
def fX10_wakingAt_b21 (S : Nat → Nat × Nat) (σ : mm)   : Option Int32 :=
  fX10_wakingAt_b22 S σ (-1 : Int32)
def fX10_wakingAt (S : Nat → Nat × Nat) (σ : mm) (x0 : Nat) (x1 : Int32) : Option Int32 :=
  if x1 < 0 then
    fX10_wakingAt_b21 S σ
  else
    if (σ.1 x0 4) ≤ x1 then
      fX10_wakingAt_b21 S σ
    else
      gR σ x0 3 fun r1 =>
      ldI S σ r1 x1 fun v2 =>
      fX10_wakingAt_b22 S σ v2
def fX10_fewestFrom_b15 (S : Nat → Nat × Nat) (σ : mm)   : Option Int32 :=
  some (1000 : Int32)
def fX10_fewestFrom_b42 (S : Nat → Nat × Nat) (σ : mm)  (s0 : Int32) : Option Int32 :=
  some s0
def fX10_fewestFrom (S : Nat → Nat × Nat) (σ : mm) (x0 : Nat) (x1 : Int32) (x2 : Int32) : Option Int32 :=
  if x2 < 0 then
    fX10_fewestFrom_b15 S σ
  else
    gR σ x0 0 fun r1 =>
    bd0 (fX1_grace S σ r1) fun v2 =>
    if x2 < v2 then
      if (σ.1 x0 5) ≤ x1 then
        fX10_fewestFrom_b42 S σ (0 : Int32)
      else
        gR σ x0 1 fun r3 =>
        ldI S σ r3 ((x1 * (9 : Int32)) + x2) fun v4 =>
        fX10_fewestFrom_b42 S σ v4
    else
      fX10_fewestFrom_b15 S σ
def fX10_costOfWaking_b42 (S : Nat → Nat × Nat) (σ : mm)  (s0 : Int32) : Option Int32 :=
  some s0
def fX10_costOfWaking (S : Nat → Nat × Nat) (σ : mm) (x0 : Nat) (x1 : Int32) : Option Int32 :=
  gR σ x0 0 fun r1 =>
  gR σ x0 0 fun r2 =>
  bd0 (fX1_start S σ r2) fun v3 =>
  bd0 (fX1_has S σ r1 (v3 + x1) (12 : Int32)) fun v4 =>
  if v4 = 0 then
    fX10_costOfWaking_b42 S σ (1000 : Int32)
  else
    gR σ x0 2 fun r5 =>
    ldI S σ r5 x1 fun v6 =>
    bd0 (fX10_fewestFrom S σ x0 v6 (0 : Int32)) fun v7 =>
    fX10_costOfWaking_b42 S σ ((1 : Int32) + v7)
def fX10_noteWakings_b148 (S : Nat → Nat × Nat) (σ : mm) (x0 : Nat) (x4 : Int32) (s0 : Int32) : Option ((Int32 × Int32 × mm) ⊕ mm) :=
  some (.inl (s0, x4, σ))
def fX10_noteWakings_b123 (S : Nat → Nat × Nat) (σ : mm) (x0 : Nat) (x3 : Int32) (x6 : Int32) (s0 : Int32) : Option ((Int32 × Int32 × mm) ⊕ mm) :=
  if x6 = 0 then
    fX10_noteWakings_b148 S σ x0 s0 (x3 + (1 : Int32))
  else
    gR σ x0 2 fun r1 =>
    ldI S σ r1 x3 fun v2 =>
    fX10_noteWakings_b148 S σ x0 s0 (mxI (x3 + (1 : Int32)) v2)
def fX10_noteWakings_b110 (S : Nat → Nat × Nat) (σ : mm) (x0 : Nat) (x3 : Int32) (x4 : Int32) (x6 : Int32)  : Option ((Int32 × Int32 × mm) ⊕ mm) :=
  if x6 = 0 then
    fX10_noteWakings_b123 S σ x0 x3 x6 (x4 + (1 : Int32))
  else
    fX10_noteWakings_b123 S σ x0 x3 x6 (0 : Int32)
def fX10_noteWakings_b95 (S : Nat → Nat × Nat) (σ : mm) (x0 : Nat) (x3 : Int32) (x4 : Int32) (s0 : Nat) (s1 : Int32) (s2 : Int32) (s3 : Int32) : Option ((Int32 × Int32 × mm) ⊕ mm) :=
  stI S σ s0 s1 (s2 + s3) fun τ1 =>
  wI τ1 x0 4 ((τ1.1 x0 4) + (1 : Int32)) fun τ2 =>
  fX10_noteWakings_b110 S τ2 x0 x3 x4 (1 : Int32)
def fX10_noteWakings_L10 (S : Nat → Nat × Nat) (x0 : Nat) : (Int32 × Int32 × mm) → Option ((Int32 × Int32 × mm) ⊕ mm) :=
  un3 fun x3 x4 σ =>
  if (σ.1 x0 5) ≤ x3 then
      some (.inr σ)
    else
      gR σ x0 0 fun r1 =>
      bd0 (fX1_start S σ r1) fun v2 =>
      nm (v2 + x3) fun v3 =>
      gR σ x0 0 fun r4 =>
      bd0 (fX1_isSomeoneWilling S σ r4 v3) fun v5 =>
      if ¬ v5 = 0 then
        fX10_noteWakings_b110 S σ x0 x3 x4 v5
      else
        bd0 (fX10_fewestFrom S σ x0 (x3 + (1 : Int32)) (x4 + (1 : Int32))) fun v6 =>
        bd0 (fX10_costOfWaking S σ x0 x3) fun v7 =>
        if v6 ≤ v7 then
          fX10_noteWakings_b110 S σ x0 x3 x4 v5
        else
          gR σ x0 3 fun r8 =>
          gR σ x0 0 fun r9 =>
          bd0 (fX1_has S σ r9 v3 (4 : Int32)) fun v10 =>
          if v10 = 0 then
            fX10_noteWakings_b95 S σ x0 x3 x4 r8 (σ.1 x0 4) ((10 : Int32) * v3) (1 : Int32)
          else
            fX10_noteWakings_b95 S σ x0 x3 x4 r8 (σ.1 x0 4) ((10 : Int32) * v3) (0 : Int32)
def fX10_noteWakings (S : Nat → Nat × Nat) (σ : mm) (x0 : Nat) (x1 : Int32) (x2 : Int32) : Option mm :=
  wI σ x0 4 (0 : Int32) fun τ1 =>
  bd0 (loopN (fX10_noteWakings_L10 S x0) 1000 (x1, x2, τ1)) (fun τ3 => some τ3)
def fX10_weighHour_b98 (S : Nat → Nat × Nat) (σ : mm) (x0 : Nat) (x1 : Int32) (x2 : Int32) (x3 : Int32) (x4 : Int32)  : Option ((Int32 × mm) ⊕ mm) :=
  gR σ x0 1 fun r1 =>
  stI S σ r1 ((x1 * (9 : Int32)) + x3) x4 fun τ2 =>
  nm (x3 + (1 : Int32)) fun v3 =>
  some (.inl (v3, τ2))
def fX10_weighHour_L43 (S : Nat → Nat × Nat) (x0 : Nat) (x1 : Int32) (x2 : Int32) : (Int32 × mm) → Option ((Int32 × mm) ⊕ mm) :=
  un2 fun x3 σ =>
  gR σ x0 0 fun r1 =>
    bd0 (fX1_grace S σ r1) fun v2 =>
    if v2 ≤ x3 then
      some (.inr σ)
    else
      gR σ x0 2 fun r3 =>
      ldI S σ r3 x1 fun v4 =>
      bd0 (fX10_fewestFrom S σ x0 v4 (0 : Int32)) fun v5 =>
      gR σ x0 0 fun r6 =>
      bd0 (fX1_isSomeoneWilling S σ r6 x2) fun v7 =>
      if ¬ v7 = 0 then
        fX10_weighHour_b98 S σ x0 x1 x2 x3 v5
      else
        bd0 (fX10_costOfWaking S σ x0 x1) fun v8 =>
        bd0 (fX10_fewestFrom S σ x0 (x1 + (1 : Int32)) (x3 + (1 : Int32))) fun v9 =>
        nm (mnI v8 v9) fun v10 =>
        fX10_weighHour_b98 S σ x0 x1 x2 x3 v10
def fX10_weighHour (S : Nat → Nat × Nat) (σ : mm) (x0 : Nat) (x1 : Int32) : Option mm :=
  gR σ x0 0 fun r1 =>
  bd0 (fX1_start S σ r1) fun v2 =>
  nm (v2 + x1) fun v3 =>
  gR σ x0 2 fun r4 =>
  gR σ x0 0 fun r5 =>
  gR σ x0 0 fun r6 =>
  bd0 (fX1_grains S σ r6) fun v7 =>
  bd0 (fX1_endFrom S σ r5 (v3 + (1 : Int32)) v7) fun v8 =>
  gR σ x0 0 fun r9 =>
  bd0 (fX1_start S σ r9) fun v10 =>
  stI S σ r4 x1 (v8 - v10) fun τ11 =>
  bd0 (loopN (fX10_weighHour_L43 S x0 x1 v3) 1000 ((0 : Int32), τ11)) (fun τ13 => some τ13)
def fX10_keepFor_L21 (S : Nat → Nat × Nat) (x0 : Nat) : (Int32 × mm) → Option ((Int32 × mm) ⊕ mm) :=
  un2 fun x2 σ =>
  if x2 < 0 then
      some (.inr σ)
    else
      bd0 (fX10_weighHour S σ x0 x2) fun τ1 =>
      nm (x2 + (-1 : Int32)) fun v2 =>
      some (.inl (v2, τ1))
def fX10_keepFor (S : Nat → Nat × Nat) (σ : mm) (x0 : Nat) (x1 : Int32) : Option (Int32 × mm) :=
  wI σ x0 5 (mxI (0 : Int32) (mnI x1 (60 : Int32))) fun τ1 =>
  nm ((τ1.1 x0 5) - (1 : Int32)) fun v2 =>
  bd0 (loopN (fX10_keepFor_L21 S x0) 1000 (v2, τ1)) (fun τ4 => gR τ4 x0 0 fun r5 =>
  bd0 (fX1_endNow S τ4 r5) fun v6 =>
  gR τ4 x0 0 fun r7 =>
  bd0 (fX1_start S τ4 r7) fun v8 =>
  nm (v6 - v8) fun v9 =>
  gR τ4 x0 0 fun r10 =>
  bd0 (fX1_waited S τ4 r10) fun v11 =>
  bd0 (fX10_fewestFrom S τ4 x0 v9 v11) fun v12 =>
  if v12 < (1000 : Int32) then
    gR τ4 x0 0 fun r13 =>
    bd0 (fX1_waited S τ4 r13) fun v14 =>
    bd0 (fX10_noteWakings S τ4 x0 v9 v14) fun τ15 =>
    some ((τ15.1 x0 4), τ15)
  else
    some ((-1 : Int32), τ4))
def fX12_feed (S : Nat → Nat × Nat) (σ : mm) (x0 : Nat) (x1 : Int32) (x2 : Int32) (x3 : Int32) (x4 : Int32) (x5 : Int32) : Option (Int32 × mm) :=
  gR σ x0 0 fun r1 =>
  bd0 (fX8_hasRoom S σ r1) fun v2 =>
  if ¬ v2 = 0 then
    gR σ x0 0 fun r3 =>
    bd0 (fX8_append S σ r3 x1) fun τ4 =>
    gR τ4 x0 0 fun r5 =>
    bd0 (fX8_append S τ4 r5 x2) fun τ6 =>
    gR τ6 x0 0 fun r7 =>
    bd0 (fX8_append S τ6 r7 x3) fun τ8 =>
    gR τ8 x0 0 fun r9 =>
    bd0 (fX8_append S τ8 r9 x4) fun τ10 =>
    gR τ10 x0 0 fun r11 =>
    bd0 (fX8_append S τ10 r11 x5) fun τ12 =>
    gR τ12 x0 0 fun r13 =>
    some ((τ12.1 r13 1), τ12)
  else
    some ((-1 : Int32), σ)
def fX12_end_b15 (S : Nat → Nat × Nat) (σ : mm)   : Option (Int32 × mm) :=
  some ((0 : Int32), σ)
def fX12_end (S : Nat → Nat × Nat) (σ : mm) (x0 : Nat) (x1 : Int32) : Option (Int32 × mm) :=
  if x1 < 0 then
    fX12_end_b15 S σ
  else
    gR σ x0 0 fun r1 =>
    if x1 ≤ (σ.1 r1 1) then
      gR σ x0 0 fun r2 =>
      wI σ r2 1 x1 fun τ3 =>
      some ((1 : Int32), τ3)
    else
      fX12_end_b15 S σ
def fX12_parish_b63 (S : Nat → Nat × Nat) (σ : mm) (x1 : Int32)  : Option (Int32 × mm) :=
  some (x1, σ)
def fX12_parish (S : Nat → Nat × Nat) (σ : mm) (x0 : Nat) : Option (Int32 × mm) :=
  gR σ x0 3 fun r1 =>
  bd2 (fX5_read S σ r1) fun v2 τ3 =>
  gR τ3 x0 0 fun r4 =>
  wI τ3 x0 17 (τ3.1 r4 9) fun τ5 =>
  gR τ5 x0 0 fun r6 =>
  wI τ5 r6 1 (0 : Int32) fun τ7 =>
  if v2 < 0 then
    fX12_parish_b63 S τ7 v2
  else
    gR τ7 x0 1 fun r8 =>
    gR τ7 x0 2 fun r9 =>
    bd0 (fX4_copyFrom S τ7 r8 r9) fun τ10 =>
    gR τ10 x0 4 fun r11 =>
    bd0 (fX3_begin S τ10 r11) fun τ12 =>
    gR τ12 x0 10 fun r13 =>
    bd0 (fX7_forget S τ12 r13) fun τ14 =>
    gR τ14 x0 6 fun r15 =>
    bd0 (fX9_forget S τ14 r15) fun τ16 =>
    fX12_parish_b63 S τ16 v2
def fX12_fault (S : Nat → Nat × Nat) (σ : mm) (x0 : Nat) : Option Int32 :=
  some (σ.1 x0 17)
def fX12_asNumber_b9 (S : Nat → Nat × Nat) (σ : mm)  (s0 : Int32) : Option Int32 :=
  some s0
def fX12_asNumber (S : Nat → Nat × Nat) (σ : mm) (x0 : Int32) : Option Int32 :=
  if x0 = 0 then
    fX12_asNumber_b9 S σ (0 : Int32)
  else
    fX12_asNumber_b9 S σ (1 : Int32)
def fX12_person (S : Nat → Nat × Nat) (σ : mm) (x0 : Nat) (x1 : Int32) (x2 : Int32) : Option Int32 :=
  gR σ x0 1 fun r1 =>
  bd0 (fX4_hasPerson S σ r1 x1) fun v2 =>
  if ¬ v2 = 0 then
    if x2 = (0 : Int32) then
      gR σ x0 4 fun r3 =>
      bd0 (fX3_isAwake S σ r3 x1) fun v4 =>
      bd0 (fX12_asNumber S σ v4) fun v5 =>
      some v5
    else if x2 = (1 : Int32) then
      gR σ x0 4 fun r6 =>
      gR σ r6 4 fun r7 =>
      ldI S σ r7 x1 fun v8 =>
      some v8
    else if x2 = (2 : Int32) then
      gR σ x0 1 fun r9 =>
      bd0 (fX4_glassOf S σ r9 x1) fun v10 =>
      some v10
    else if x2 = (3 : Int32) then
      gR σ x0 1 fun r11 =>
      bd0 (fX4_otherOf S σ r11 x1) fun v12 =>
      some v12
    else if x2 = (4 : Int32) then
      gR σ x0 4 fun r13 =>
      gR σ r13 5 fun r14 =>
      ldI S σ r14 x1 fun v15 =>
      some v15
    else if x2 = (5 : Int32) then
      gR σ x0 4 fun r16 =>
      bd0 (fX3_isWilling S σ r16 x1) fun v17 =>
      bd0 (fX12_asNumber S σ v17) fun v18 =>
      some v18
    else none
  else
    none
def fX12_glass_b211 (S : Nat → Nat × Nat) (σ : mm)  (s0 : Int32) : Option Int32 :=
  some s0
def fX12_glass_b192 (S : Nat → Nat × Nat) (σ : mm)   : Option Int32 :=
  fX12_glass_b211 S σ (0 : Int32)
def fX12_glass (S : Nat → Nat × Nat) (σ : mm) (x0 : Nat) (x1 : Int32) (x2 : Int32) : Option Int32 :=
  gR σ x0 1 fun r1 =>
  bd0 (fX4_hasGlass S σ r1 x1) fun v2 =>
  if ¬ v2 = 0 then
    if x2 = (0 : Int32) then
      gR σ x0 1 fun r3 =>
      gR σ r3 8 fun r4 =>
      ldI S σ r4 x1 fun v5 =>
      some v5
    else if x2 = (1 : Int32) then
      gR σ x0 1 fun r6 =>
      gR σ r6 9 fun r7 =>
      ldI S σ r7 x1 fun v8 =>
      some v8
    else if x2 = (2 : Int32) then
      gR σ x0 1 fun r9 =>
      gR σ r9 10 fun r10 =>
      ldI S σ r10 x1 fun v11 =>
      some v11
    else if x2 = (3 : Int32) then
      gR σ x0 4 fun r12 =>
      gR σ r12 8 fun r13 =>
      ldI S σ r13 x1 fun v14 =>
      some v14
    else if x2 = (4 : Int32) then
      gR σ x0 4 fun r15 =>
      gR σ r15 6 fun r16 =>
      ldI S σ r16 x1 fun v17 =>
      some v17
    else if x2 = (5 : Int32) then
      gR σ x0 4 fun r18 =>
      gR σ r18 7 fun r19 =>
      ldI S σ r19 x1 fun v20 =>
      some v20
    else if x2 = (6 : Int32) then
      gR σ x0 4 fun r21 =>
      bd0 (fX3_isLapsed S σ r21 x1) fun v22 =>
      bd0 (fX12_asNumber S σ v22) fun v23 =>
      some v23
    else if x2 = (7 : Int32) then
      gR σ x0 4 fun r24 =>
      gR σ r24 9 fun r25 =>
      ldI S σ r25 x1 fun v26 =>
      some v26
    else if x2 = (8 : Int32) then
      gR σ x0 4 fun r27 =>
      gR σ r27 10 fun r28 =>
      ldI S σ r28 x1 fun v29 =>
      some v29
    else if x2 = (9 : Int32) then
      gR σ x0 4 fun r30 =>
      bd0 (fX3_isLapsed S σ r30 x1) fun v31 =>
      if ¬ v31 = 0 then
        fX12_glass_b192 S σ
      else
        gR σ x0 4 fun r32 =>
        if (σ.1 r32 1) < (600 : Int32) then
          gR σ x0 4 fun r33 =>
          gR σ x0 4 fun r34 =>
          bd0 (fX3_runsAt S σ r33 x1 (σ.1 r34 1)) fun v35 =>
          fX12_glass_b211 S σ v35
        else
          fX12_glass_b192 S σ
    else none
  else
    none
def fX12_now (S : Nat → Nat × Nat) (σ : mm) (x0 : Nat) (x1 : Int32) : Option Int32 :=
  if x1 = (0 : Int32) then
    gR σ x0 4 fun r1 =>
    some (σ.1 r1 1)
  else if x1 = (1 : Int32) then
    gR σ x0 1 fun r2 =>
    gR σ x0 4 fun r3 =>
    bd0 (fX4_isDamp S σ r2 (σ.1 r3 1)) fun v4 =>
    bd0 (fX12_asNumber S σ v4) fun v5 =>
    some v5
  else if x1 = (2 : Int32) then
    gR σ x0 4 fun r6 =>
    some (σ.1 r6 2)
  else if x1 = (3 : Int32) then
    gR σ x0 4 fun r7 =>
    bd0 (fX3_awakeBits S σ r7) fun v8 =>
    some v8
  else if x1 = (4 : Int32) then
    gR σ x0 4 fun r9 =>
    gR σ x0 4 fun r10 =>
    gR σ r10 10 fun r11 =>
    bd0 (fX3_sumOverGlasses S σ r9 r11) fun v12 =>
    some v12
  else if x1 = (5 : Int32) then
    gR σ x0 4 fun r13 =>
    gR σ x0 4 fun r14 =>
    gR σ r14 6 fun r15 =>
    bd0 (fX3_sumOverGlasses S σ r13 r15) fun v16 =>
    some v16
  else some (-1 : Int32)
def fX12_count (S : Nat → Nat × Nat) (σ : mm) (x0 : Nat) (x1 : Int32) : Option Int32 :=
  if x1 = (0 : Int32) then
    gR σ x0 1 fun r1 =>
    some (σ.1 r1 6)
  else if x1 = (1 : Int32) then
    gR σ x0 1 fun r2 =>
    some (σ.1 r2 12)
  else if x1 = (2 : Int32) then
    gR σ x0 1 fun r3 =>
    gR σ r3 15 fun r4 =>
    some (σ.1 r4 4)
  else if x1 = (3 : Int32) then
    gR σ x0 1 fun r5 =>
    some (σ.1 r5 16)
  else if x1 = (4 : Int32) then
    gR σ x0 1 fun r6 =>
    some (σ.1 r6 17)
  else if x1 = (5 : Int32) then
    gR σ x0 1 fun r7 =>
    bd0 (fX12_asNumber S σ (σ.1 r7 18)) fun v8 =>
    some v8
  else if x1 = (6 : Int32) then
    gR σ x0 1 fun r9 =>
    bd0 (fX12_asNumber S σ (σ.1 r9 19)) fun v10 =>
    some v10
  else if x1 = (7 : Int32) then
    gR σ x0 1 fun r11 =>
    some (σ.1 r11 14)
  else if x1 = (8 : Int32) then
    gR σ x0 0 fun r12 =>
    some (σ.1 r12 1)
  else some (-1 : Int32)
def fX12_isFrom_b15 (S : Nat → Nat × Nat) (σ : mm)  (s0 : Int32) : Option Int32 :=
  rZ s0 (some s0)
def fX12_isFrom_b14 (S : Nat → Nat × Nat) (σ : mm)   : Option Int32 :=
  fX12_isFrom_b15 S σ (0 : Int32)
def fX12_isFrom (S : Nat → Nat × Nat) (σ : mm) (x0 : Int32) (x1 : Int32) (x2 : Int32) : Option Int32 :=
  if x2 < x0 then
    fX12_isFrom_b14 S σ
  else
    if x1 < x2 then
      fX12_isFrom_b14 S σ
    else
      fX12_isFrom_b15 S σ (1 : Int32)
def fX12_attempt_b38 (S : Nat → Nat × Nat) (σ : mm) (x4 : Int32)  : Option (Int32 × mm) :=
  some (x4, σ)
def fX12_attempt (S : Nat → Nat × Nat) (σ : mm) (x0 : Nat) (x1 : Int32) (x2 : Int32) (x3 : Int32) : Option (Int32 × mm) :=
  gR σ x0 4 fun r1 =>
  bd0 (fX3_whyNot S σ r1 x1 x2 x3) fun v2 =>
  if ¬ v2 = 0 then
    fX12_attempt_b38 S σ v2
  else
    gR σ x0 6 fun r3 =>
    gR σ x0 4 fun r4 =>
    bd0 (fX9_keep S σ r3 r4) fun τ5 =>
    gR τ5 x0 4 fun r6 =>
    bd0 (fX3_carryOut S τ5 r6 x1 x2 x3) fun τ7 =>
    fX12_attempt_b38 S τ7 v2
def fX12_turn_b22 (S : Nat → Nat × Nat) (σ : mm)  (s0 : Int32) : Option (Int32 × mm) :=
  some (s0, σ)
def fX12_turn (S : Nat → Nat × Nat) (σ : mm) (x0 : Nat) (x1 : Int32) : Option (Int32 × mm) :=
  gR σ x0 1 fun r1 =>
  bd0 (fX4_hasPerson S σ r1 x1) fun v2 =>
  if v2 = 0 then
    fX12_turn_b22 S σ (-1 : Int32)
  else
    bd2 (fX12_attempt S σ x0 (0 : Int32) x1 (0 : Int32)) fun v3 τ4 =>
    fX12_turn_b22 S τ4 v3
def fX12_wake_b22 (S : Nat → Nat × Nat) (σ : mm)  (s0 : Int32) : Option (Int32 × mm) :=
  some (s0, σ)
def fX12_wake (S : Nat → Nat × Nat) (σ : mm) (x0 : Nat) (x1 : Int32) : Option (Int32 × mm) :=
  gR σ x0 1 fun r1 =>
  bd0 (fX4_hasPerson S σ r1 x1) fun v2 =>
  if v2 = 0 then
    fX12_wake_b22 S σ (-1 : Int32)
  else
    bd2 (fX12_attempt S σ x0 (1 : Int32) x1 (0 : Int32)) fun v3 τ4 =>
    fX12_wake_b22 S τ4 v3
def fX12_woo_b32 (S : Nat → Nat × Nat) (σ : mm)  (s0 : Int32) : Option (Int32 × mm) :=
  some (s0, σ)
def fX12_woo_b31 (S : Nat → Nat × Nat) (σ : mm)   : Option (Int32 × mm) :=
  fX12_woo_b32 S σ (-1 : Int32)
def fX12_woo (S : Nat → Nat × Nat) (σ : mm) (x0 : Nat) (x1 : Int32) (x2 : Int32) : Option (Int32 × mm) :=
  gR σ x0 1 fun r1 =>
  bd0 (fX4_hasPerson S σ r1 x1) fun v2 =>
  if v2 = 0 then
    fX12_woo_b31 S σ
  else
    bd0 (fX12_isFrom S σ (1 : Int32) (20 : Int32) x2) fun v3 =>
    if v3 = 0 then
      fX12_woo_b31 S σ
    else
      bd2 (fX12_attempt S σ x0 (2 : Int32) x1 x2) fun v4 τ5 =>
      fX12_woo_b32 S τ5 v4
def fX12_tilt_b31 (S : Nat → Nat × Nat) (σ : mm)  (s0 : Int32) : Option (Int32 × mm) :=
  some (s0, σ)
def fX12_tilt_b30 (S : Nat → Nat × Nat) (σ : mm)   : Option (Int32 × mm) :=
  fX12_tilt_b31 S σ (-1 : Int32)
def fX12_tilt (S : Nat → Nat × Nat) (σ : mm) (x0 : Nat) (x1 : Int32) (x2 : Int32) : Option (Int32 × mm) :=
  gR σ x0 1 fun r1 =>
  bd0 (fX4_hasGlass S σ r1 x1) fun v2 =>
  if v2 = 0 then
    fX12_tilt_b30 S σ
  else
    bd0 (fX12_isFrom S σ (0 : Int32) (2 : Int32) x2) fun v3 =>
    if v3 = 0 then
      fX12_tilt_b30 S σ
    else
      bd2 (fX12_attempt S σ x0 (3 : Int32) x1 x2) fun v4 τ5 =>
      fX12_tilt_b31 S τ5 v4
def fX12_widen_b32 (S : Nat → Nat × Nat) (σ : mm)  (s0 : Int32) : Option (Int32 × mm) :=
  some (s0, σ)
def fX12_widen_b31 (S : Nat → Nat × Nat) (σ : mm)   : Option (Int32 × mm) :=
  fX12_widen_b32 S σ (-1 : Int32)
def fX12_widen (S : Nat → Nat × Nat) (σ : mm) (x0 : Nat) (x1 : Int32) (x2 : Int32) : Option (Int32 × mm) :=
  gR σ x0 1 fun r1 =>
  bd0 (fX4_hasGlass S σ r1 x1) fun v2 =>
  if v2 = 0 then
    fX12_widen_b31 S σ
  else
    bd0 (fX12_isFrom S σ (1 : Int32) (8 : Int32) x2) fun v3 =>
    if v3 = 0 then
      fX12_widen_b31 S σ
    else
      bd2 (fX12_attempt S σ x0 (4 : Int32) x1 x2) fun v4 τ5 =>
      fX12_widen_b32 S τ5 v4
def fX12_spill_b33 (S : Nat → Nat × Nat) (σ : mm)  (s0 : Int32) : Option (Int32 × mm) :=
  some (s0, σ)
def fX12_spill_b32 (S : Nat → Nat × Nat) (σ : mm)   : Option (Int32 × mm) :=
  fX12_spill_b33 S σ (-1 : Int32)
def fX12_spill (S : Nat → Nat × Nat) (σ : mm) (x0 : Nat) (x1 : Int32) (x2 : Int32) : Option (Int32 × mm) :=
  gR σ x0 1 fun r1 =>
  bd0 (fX4_hasGlass S σ r1 x1) fun v2 =>
  if v2 = 0 then
    fX12_spill_b32 S σ
  else
    bd0 (fX12_isFrom S σ (1 : Int32) (250 : Int32) x2) fun v3 =>
    if v3 = 0 then
      fX12_spill_b32 S σ
    else
      bd2 (fX12_attempt S σ x0 (5 : Int32) x1 x2) fun v4 τ5 =>
      fX12_spill_b33 S τ5 v4
def fX12_hours_b44 (S : Nat → Nat × Nat) (σ : mm) (x2 : Int32)  : Option (Int32 × mm) :=
  some (x2, σ)
def fX12_hours (S : Nat → Nat × Nat) (σ : mm) (x0 : Nat) (x1 : Int32) : Option (Int32 × mm) :=
  bd0 (fX12_isFrom S σ (1 : Int32) (60 : Int32) x1) fun v1 =>
  if ¬ v1 = 0 then
    gR σ x0 4 fun r2 =>
    bd0 (fX3_hoursOf S σ r2 x1) fun v3 =>
    if v3 ≤ 0 then
      fX12_hours_b44 S σ v3
    else
      gR σ x0 6 fun r4 =>
      gR σ x0 4 fun r5 =>
      bd0 (fX9_keep S σ r4 r5) fun τ6 =>
      gR τ6 x0 4 fun r7 =>
      bd0 (fX3_passHours S τ6 r7 v3) fun τ8 =>
      fX12_hours_b44 S τ8 v3
  else
    some ((-1 : Int32), σ)
def fX12_undo (S : Nat → Nat × Nat) (σ : mm) (x0 : Nat) : Option (Int32 × mm) :=
  gR σ x0 6 fun r1 =>
  gR σ x0 4 fun r2 =>
  bd2 (fX9_takeBack S σ r1 r2) fun v3 τ4 =>
  some (v3, τ4)
def fX12_isRunning_b27 (S : Nat → Nat × Nat) (σ : mm)  (s0 : Int32) : Option Int32 :=
  rZ s0 (some s0)
def fX12_isRunning_b26 (S : Nat → Nat × Nat) (σ : mm)   : Option Int32 :=
  fX12_isRunning_b27 S σ (0 : Int32)
def fX12_isRunning (S : Nat → Nat × Nat) (σ : mm) (x0 : Nat) (x1 : Int32) : Option Int32 :=
  gR σ x0 1 fun r1 =>
  bd0 (fX4_hasGlass S σ r1 x1) fun v2 =>
  if v2 = 0 then
    fX12_isRunning_b26 S σ
  else
    gR σ x0 4 fun r3 =>
    bd0 (fX3_isLapsed S σ r3 x1) fun v4 =>
    if ¬ v4 = 0 then
      fX12_isRunning_b26 S σ
    else
      fX12_isRunning_b27 S σ (1 : Int32)
def fX12_endOf_b28 (S : Nat → Nat × Nat) (σ : mm)  (s0 : Int32) : Option (Int32 × mm) :=
  some (s0, σ)
def fX12_endOf (S : Nat → Nat × Nat) (σ : mm) (x0 : Nat) (x1 : Int32) : Option (Int32 × mm) :=
  gR σ x0 7 fun r1 =>
  bd0 (fX1_look S σ r1 x1) fun τ2 =>
  gR τ2 x0 7 fun r3 =>
  bd0 (fX1_endNow S τ2 r3) fun v4 =>
  if (600 : Int32) ≤ v4 then
    fX12_endOf_b28 S τ2 (-1 : Int32)
  else
    fX12_endOf_b28 S τ2 v4
def fX12_ends_b17 (S : Nat → Nat × Nat) (σ : mm)  (s0 : Int32) : Option (Int32 × mm) :=
  some (s0, σ)
def fX12_ends (S : Nat → Nat × Nat) (σ : mm) (x0 : Nat) (x1 : Int32) : Option (Int32 × mm) :=
  bd0 (fX12_isRunning S σ x0 x1) fun v1 =>
  if v1 = 0 then
    fX12_ends_b17 S σ (-1 : Int32)
  else
    bd2 (fX12_endOf S σ x0 x1) fun v2 τ3 =>
    fX12_ends_b17 S τ3 v2
def fX12_lapseOf (S : Nat → Nat × Nat) (σ : mm) (x0 : Nat) (x1 : Int32) : Option (Int32 × mm) :=
  gR σ x0 7 fun r1 =>
  bd0 (fX1_look S σ r1 x1) fun τ2 =>
  gR τ2 x0 7 fun r3 =>
  gR τ2 x0 4 fun r4 =>
  gR τ2 r4 6 fun r5 =>
  ldI S τ2 r5 x1 fun v6 =>
  gR τ2 x0 1 fun r7 =>
  bd0 (fX1_lapseHour S τ2 r3 v6 (τ2.1 r7 16) (600 : Int32)) fun v8 =>
  some (v8, τ2)
def fX12_lapses_b17 (S : Nat → Nat × Nat) (σ : mm)  (s0 : Int32) : Option (Int32 × mm) :=
  some (s0, σ)
def fX12_lapses (S : Nat → Nat × Nat) (σ : mm) (x0 : Nat) (x1 : Int32) : Option (Int32 × mm) :=
  bd0 (fX12_isRunning S σ x0 x1) fun v1 =>
  if v1 = 0 then
    fX12_lapses_b17 S σ (-1 : Int32)
  else
    bd2 (fX12_lapseOf S σ x0 x1) fun v2 τ3 =>
    fX12_lapses_b17 S τ3 v2
def fX12_soonest_b58 (S : Nat → Nat × Nat) (σ : mm) (x0 : Nat) (x1 : Int32) (x2 : Int32) (x3 : Int32)  : Option ((Int32 × Int32 × Int32 × mm) ⊕ (Int32 × mm)) :=
  nm (x3 + (1 : Int32)) fun v1 =>
  some (.inl (x1, x2, v1, σ))
def fX12_soonest_b39 (S : Nat → Nat × Nat) (σ : mm) (x0 : Nat) (x1 : Int32) (x2 : Int32) (x3 : Int32) (s0 : Int32) : Option ((Int32 × Int32 × Int32 × mm) ⊕ (Int32 × mm)) :=
  if s0 = (-1 : Int32) then
    fX12_soonest_b58 S σ x0 x1 x2 x3
  else
    if x2 ≤ s0 then
      fX12_soonest_b58 S σ x0 x1 x2 x3
    else
      fX12_soonest_b58 S σ x0 x3 s0 x3
def fX12_soonest_L8 (S : Nat → Nat × Nat) (x0 : Nat) : (Int32 × Int32 × Int32 × mm) → Option ((Int32 × Int32 × Int32 × mm) ⊕ (Int32 × mm)) :=
  un4 fun x1 x2 x3 σ =>
  gR σ x0 1 fun r1 =>
    if (σ.1 r1 12) ≤ x3 then
      some (.inr (x1, σ))
    else
      gR σ x0 4 fun r2 =>
      bd0 (fX3_isLapsed S σ r2 x3) fun v3 =>
      if v3 = 0 then
        bd2 (fX12_lapseOf S σ x0 x3) fun v4 τ5 =>
        fX12_soonest_b39 S τ5 x0 x1 x2 x3 v4
      else
        fX12_soonest_b39 S σ x0 x1 x2 x3 (-1 : Int32)
def fX12_soonest (S : Nat → Nat × Nat) (σ : mm) (x0 : Nat) : Option (Int32 × mm) :=
  bd0 (loopN (fX12_soonest_L8 S x0) 1000 ((-1 : Int32), (600 : Int32), (0 : Int32), σ)) (un2 fun v2 τ3 => some (v2, τ3))
def fX12_watch_b18 (S : Nat → Nat × Nat) (σ : mm)   : Option (Int32 × mm) :=
  some ((-1 : Int32), σ)
def fX12_watch (S : Nat → Nat × Nat) (σ : mm) (x0 : Nat) (x1 : Int32) (x2 : Int32) : Option (Int32 × mm) :=
  bd0 (fX12_isRunning S σ x0 x1) fun v1 =>
  if v1 = 0 then
    fX12_watch_b18 S σ
  else
    bd0 (fX12_isFrom S σ (1 : Int32) (60 : Int32) x2) fun v2 =>
    if ¬ v2 = 0 then
      gR σ x0 7 fun r3 =>
      bd0 (fX1_look S σ r3 x1) fun τ4 =>
      gR τ4 x0 8 fun r5 =>
      gR τ4 x0 4 fun r6 =>
      bd0 (fX3_hoursOf S τ4 r6 x2) fun v7 =>
      bd2 (fX10_keepFor S τ4 r5 v7) fun v8 τ9 =>
      some (v8, τ9)
    else
      fX12_watch_b18 S σ
def fX12_waking (S : Nat → Nat × Nat) (σ : mm) (x0 : Nat) (x1 : Int32) : Option Int32 :=
  gR σ x0 8 fun r1 =>
  bd0 (fX10_wakingAt S σ r1 x1) fun v2 =>
  some v2
def fX12_chosen (S : Nat → Nat × Nat) (σ : mm) (x0 : Nat) (x1 : Int32) : Option (Int32 × mm) :=
  bd0 (fX12_isRunning S σ x0 x1) fun v1 =>
  if ¬ v1 = 0 then
    gR σ x0 7 fun r2 =>
    bd0 (fX1_look S σ r2 x1) fun τ3 =>
    gR τ3 x0 7 fun r4 =>
    bd0 (fX1_weighGrains S τ3 r4) fun τ5 =>
    gR τ5 x0 7 fun r6 =>
    some ((τ5.1 r6 5), τ5)
  else
    some ((-1 : Int32), σ)
def fX12_choices (S : Nat → Nat × Nat) (σ : mm) (x0 : Nat) (x1 : Int32) : Option (Int32 × mm) :=
  bd0 (fX12_isRunning S σ x0 x1) fun v1 =>
  if ¬ v1 = 0 then
    gR σ x0 7 fun r2 =>
    bd0 (fX1_look S σ r2 x1) fun τ3 =>
    gR τ3 x0 7 fun r4 =>
    bd0 (fX1_weighGrains S τ3 r4) fun τ5 =>
    gR τ5 x0 7 fun r6 =>
    some ((τ5.1 r6 6), τ5)
  else
    some ((-1 : Int32), σ)
def fX12_play (S : Nat → Nat × Nat) (σ : mm) (x0 : Nat) (x1 : Int32) : Option (Int32 × mm) :=
  bd0 (fX12_isRunning S σ x0 x1) fun v1 =>
  if ¬ v1 = 0 then
    gR σ x0 7 fun r2 =>
    bd0 (fX1_look S σ r2 x1) fun τ3 =>
    gR τ3 x0 7 fun r4 =>
    bd0 (fX1_findLastTurner S τ3 r4) fun τ5 =>
    gR τ5 x0 7 fun r6 =>
    some ((τ5.1 r6 7), τ5)
  else
    some ((-1 : Int32), σ)
def fX12_playAt (S : Nat → Nat × Nat) (σ : mm) (x0 : Nat) (x1 : Int32) : Option (Int32 × mm) :=
  bd0 (fX12_isRunning S σ x0 x1) fun v1 =>
  if ¬ v1 = 0 then
    gR σ x0 7 fun r2 =>
    bd0 (fX1_look S σ r2 x1) fun τ3 =>
    gR τ3 x0 7 fun r4 =>
    bd0 (fX1_findLastTurner S τ3 r4) fun τ5 =>
    gR τ5 x0 7 fun r6 =>
    some ((τ5.1 r6 8), τ5)
  else
    some ((-1 : Int32), σ)
def fX12_steal_b26 (S : Nat → Nat × Nat) (σ : mm)   : Option (Int32 × mm) :=
  some ((-1 : Int32), σ)
def fX12_steal_L38 (S : Nat → Nat × Nat) (σ : mm) (x0 : Nat) (x1 : Int32) (x2 : Int32) : Int32 → Option (Int32 ⊕ (Int32 ⊕ Unit)) :=
  fun x3 => gR σ x0 4 fun r1 =>
    gR σ r1 6 fun r2 =>
    ldI S σ r2 x1 fun v3 =>
    if v3 < x3 then
      some (.inr (.inr ()))
    else
      gR σ x0 7 fun r4 =>
      gR σ x0 4 fun r5 =>
      gR σ r5 6 fun r6 =>
      ldI S σ r6 x1 fun v7 =>
      gR σ x0 1 fun r8 =>
      bd0 (fX1_lapseHour S σ r4 (v7 - x3) (σ.1 r8 16) x2) fun v9 =>
      if v9 = (-1 : Int32) then
        nm (x3 + (1 : Int32)) fun v10 =>
        some (.inl v10)
      else
        some (.inr (.inl x3))
def fX12_steal (S : Nat → Nat × Nat) (σ : mm) (x0 : Nat) (x1 : Int32) (x2 : Int32) : Option (Int32 × mm) :=
  bd0 (fX12_isRunning S σ x0 x1) fun v1 =>
  if v1 = 0 then
    fX12_steal_b26 S σ
  else
    gR σ x0 4 fun r2 =>
    if x2 ≤ (σ.1 r2 1) then
      fX12_steal_b26 S σ
    else
      if x2 ≤ (600 : Int32) then
        gR σ x0 7 fun r3 =>
        bd0 (fX1_look S σ r3 x1) fun τ4 =>
        bd0 (loopN (fX12_steal_L38 S τ4 x0 x1 x2) 1000 (0 : Int32)) (cs2 (fun v6 => some (v6, τ4)) (fun (_ : Unit) => some ((-1 : Int32), τ4)))
      else
        fX12_steal_b26 S σ
def fX12_leastGrace_L29 (S : Nat → Nat × Nat) (σ : mm) (x0 : Nat) (x1 : Int32) (x4 : Int32) : Int32 → Option (Int32 ⊕ Int32) :=
  fun x5 => if (9 : Int32) < x5 then
      some (.inr x5)
    else
      gR σ x0 7 fun r1 =>
      gR σ x0 4 fun r2 =>
      gR σ r2 6 fun r3 =>
      ldI S σ r3 x1 fun v4 =>
      bd0 (fX1_lapseHour S σ r1 v4 x5 x4) fun v5 =>
      if v5 = (-1 : Int32) then
        some (.inr x5)
      else
        nm (x5 + (1 : Int32)) fun v6 =>
        some (.inl v6)
def fX12_leastGrace_b66 (S : Nat → Nat × Nat) (σ : mm) (x5 : Int32)  : Option (Int32 × mm) :=
  some (x5, σ)
def fX12_leastGrace (S : Nat → Nat × Nat) (σ : mm) (x0 : Nat) (x1 : Int32) (x2 : Int32) (x3 : Int32) : Option (Int32 × mm) :=
  gR σ x0 7 fun r1 =>
  bd0 (fX1_look S σ r1 x1) fun τ2 =>
  gR τ2 x0 4 fun r3 =>
  gR τ2 x0 4 fun r4 =>
  bd0 (fX3_hoursOf S τ2 r4 x2) fun v5 =>
  nm ((τ2.1 r3 1) + v5) fun v6 =>
  bd0 (loopN (fX12_leastGrace_L29 S τ2 x0 x1 v6) 1000 x3) (fun v8 => fX12_leastGrace_b66 S τ2 v8)
def fX12_law_b39 (S : Nat → Nat × Nat) (σ : mm)   : Option (Int32 × mm) :=
  some ((-1 : Int32), σ)
def fX12_law_b77 (S : Nat → Nat × Nat) (σ : mm) (x0 : Nat) (x1 : Int32) (x2 : Int32) (x3 : Int32) (x4 : Int32)  : Option ((Int32 × Int32 × mm) ⊕ (Int32 × mm)) :=
  nm (x4 + (1 : Int32)) fun v1 =>
  some (.inl (x3, v1, σ))
def fX12_law_L46 (S : Nat → Nat × Nat) (x0 : Nat) (x1 : Int32) (x2 : Int32) : (Int32 × Int32 × mm) → Option ((Int32 × Int32 × mm) ⊕ (Int32 × mm)) :=
  un3 fun x3 x4 σ =>
  gR σ x0 1 fun r1 =>
    if (σ.1 r1 12) ≤ x4 then
      some (.inr (x3, σ))
    else
      if ¬ ((x1 >>> (x4 &&& 31)) &&& (1 : Int32)) = (1 : Int32) then
        fX12_law_b77 S σ x0 x1 x2 x3 x4
      else
        bd2 (fX12_leastGrace S σ x0 x4 x2 x3) fun v2 τ3 =>
        fX12_law_b77 S τ3 x0 x1 x2 v2 x4
def fX12_law_b94 (S : Nat → Nat × Nat) (σ : mm)  (s0 : Int32) : Option (Int32 × mm) :=
  some (s0, σ)
def fX12_law (S : Nat → Nat × Nat) (σ : mm) (x0 : Nat) (x1 : Int32) (x2 : Int32) : Option (Int32 × mm) :=
  if x1 < 0 then
    fX12_law_b39 S σ
  else
    gR σ x0 1 fun r1 =>
    if ((1 : Int32) <<< ((σ.1 r1 12) &&& 31)) ≤ x1 then
      fX12_law_b39 S σ
    else
      bd0 (fX12_isFrom S σ (1 : Int32) (60 : Int32) x2) fun v2 =>
      if v2 = 0 then
        fX12_law_b39 S σ
      else
        gR σ x0 4 fun r3 =>
        if (x1 &&& (σ.1 r3 2)) = 0 then
          bd0 (loopN (fX12_law_L46 S x0 x1 x2) 1000 ((1 : Int32), (0 : Int32), σ)) (un2 fun v5 τ6 => if (9 : Int32) < v5 then
            fX12_law_b94 S τ6 (-1 : Int32)
          else
            fX12_law_b94 S τ6 v5)
        else
          fX12_law_b39 S σ
def fX12_together_b21 (S : Nat → Nat × Nat) (σ : mm)   : Option Int32 :=
  some (-1 : Int32)
def fX12_together_b104 (S : Nat → Nat × Nat) (σ : mm) (x0 : Nat) (x1 : Int32) (x3 : Int32) (x4 : Int32) (x5 : Int32)  : Option ((Int32 × Int32) ⊕ Int32) :=
  nm (x5 + (1 : Int32)) fun v1 =>
  some (.inl (x3, v1))
def fX12_together_L52 (S : Nat → Nat × Nat) (σ : mm) (x0 : Nat) (x1 : Int32) (x4 : Int32) : (Int32 × Int32) → Option ((Int32 × Int32) ⊕ Int32) :=
  un2 fun x3 x5 =>
  if x4 ≤ x5 then
      some (.inr x3)
    else
      gR σ x0 1 fun r1 =>
      gR σ x0 1 fun r2 =>
      gR σ r2 8 fun r3 =>
      ldI S σ r3 x1 fun v4 =>
      bd0 (fX4_isUp S σ r1 v4 x5) fun v5 =>
      if v5 = 0 then
        fX12_together_b104 S σ x0 x1 x3 x4 x5
      else
        gR σ x0 1 fun r6 =>
        gR σ x0 1 fun r7 =>
        gR σ r7 9 fun r8 =>
        ldI S σ r8 x1 fun v9 =>
        bd0 (fX4_isUp S σ r6 v9 x5) fun v10 =>
        if v10 = 0 then
          fX12_together_b104 S σ x0 x1 x3 x4 x5
        else
          nm (x3 + (1 : Int32)) fun v11 =>
          fX12_together_b104 S σ x0 x1 v11 x4 x5
def fX12_together (S : Nat → Nat × Nat) (σ : mm) (x0 : Nat) (x1 : Int32) (x2 : Int32) : Option Int32 :=
  gR σ x0 1 fun r1 =>
  bd0 (fX4_hasGlass S σ r1 x1) fun v2 =>
  if v2 = 0 then
    fX12_together_b21 S σ
  else
    bd0 (fX12_isFrom S σ (1 : Int32) (60 : Int32) x2) fun v3 =>
    if ¬ v3 = 0 then
      gR σ x0 4 fun r4 =>
      gR σ x0 4 fun r5 =>
      bd0 (fX3_hoursOf S σ r5 x2) fun v6 =>
      nm ((σ.1 r4 1) + v6) fun v7 =>
      gR σ x0 4 fun r8 =>
      nm (σ.1 r8 1) fun v9 =>
      bd0 (loopN (fX12_together_L52 S σ x0 x1 v7) 1000 ((0 : Int32), v9)) (fun v11 => some v11)
    else
      fX12_together_b21 S σ
def fX12_parts_b37 (S : Nat → Nat × Nat) (σ : mm)  (s0 : Int32) : Option Int32 :=
  some s0
def fX12_parts (S : Nat → Nat × Nat) (σ : mm) (x0 : Nat) (x1 : Int32) : Option Int32 :=
  gR σ x0 1 fun r1 =>
  bd0 (fX4_hasGlass S σ r1 x1) fun v2 =>
  if v2 = 0 then
    fX12_parts_b37 S σ (-1 : Int32)
  else
    gR σ x0 1 fun r3 =>
    gR σ r3 15 fun r4 =>
    gR σ x0 1 fun r5 =>
    gR σ r5 15 fun r6 =>
    bd0 (fX2_bestParting S σ r6 x1) fun v7 =>
    bd0 (fX2_lesserSum S σ r4 x1 v7) fun v8 =>
    fX12_parts_b37 S σ v8
def fX12_parted_b26 (S : Nat → Nat × Nat) (σ : mm)  (s0 : Int32) : Option Int32 :=
  some s0
def fX12_parted (S : Nat → Nat × Nat) (σ : mm) (x0 : Nat) (x1 : Int32) : Option Int32 :=
  gR σ x0 1 fun r1 =>
  bd0 (fX4_hasGlass S σ r1 x1) fun v2 =>
  if v2 = 0 then
    fX12_parted_b26 S σ (-1 : Int32)
  else
    gR σ x0 1 fun r3 =>
    gR σ r3 15 fun r4 =>
    bd0 (fX2_bestParting S σ r4 x1) fun v5 =>
    fX12_parted_b26 S σ v5
def fX12_good_b18 (S : Nat → Nat × Nat) (σ : mm)   : Option Int32 :=
  some (-1 : Int32)
def fX12_good (S : Nat → Nat × Nat) (σ : mm) (x0 : Nat) (x1 : Int32) (x2 : Int32) : Option Int32 :=
  if x1 < 0 then
    fX12_good_b18 S σ
  else
    gR σ x0 1 fun r1 =>
    gR σ r1 15 fun r2 =>
    if x1 < (σ.1 r2 4) then
      if x2 = (0 : Int32) then
        gR σ x0 1 fun r3 =>
        gR σ r3 15 fun r4 =>
        gR σ r4 1 fun r5 =>
        ldI S σ r5 x1 fun v6 =>
        some v6
      else if x2 = (1 : Int32) then
        gR σ x0 1 fun r7 =>
        gR σ r7 15 fun r8 =>
        gR σ r8 2 fun r9 =>
        ldI S σ r9 x1 fun v10 =>
        some v10
      else if x2 = (2 : Int32) then
        gR σ x0 1 fun r11 =>
        gR σ r11 15 fun r12 =>
        gR σ r12 3 fun r13 =>
        ldI S σ r13 x1 fun v14 =>
        some v14
      else some (-1 : Int32)
    else
      fX12_good_b18 S σ
def fX12_ringBits_b80 (S : Nat → Nat × Nat) (σ : mm) (x0 : Nat) (x1 : Int32) (x2 : Int32) (x3 : Int32) (x4 : Int32) (x5 : Int32)  : Option ((Int32 × Int32 × Int32) ⊕ Int32) :=
  nm (x5 + (1 : Int32)) fun v1 =>
  some (.inl (x3, x4, v1))
def fX12_ringBits_b67 (S : Nat → Nat × Nat) (σ : mm) (x0 : Nat) (x1 : Int32) (x2 : Int32) (x3 : Int32) (x4 : Int32) (x5 : Int32)  : Option ((Int32 × Int32 × Int32) ⊕ Int32) :=
  if ¬ x4 = x2 then
    fX12_ringBits_b80 S σ x0 x1 x2 x3 x4 x5
  else
    nm (x3 ||| ((1 : Int32) <<< (x5 &&& 31))) fun v1 =>
    fX12_ringBits_b80 S σ x0 x1 x2 v1 x4 x5
def fX12_ringBits_L16 (S : Nat → Nat × Nat) (σ : mm) (x0 : Nat) (x1 : Int32) (x2 : Int32) : (Int32 × Int32 × Int32) → Option ((Int32 × Int32 × Int32) ⊕ Int32) :=
  un3 fun x3 x4 x5 =>
  if (24 : Int32) < x5 then
      some (.inr x3)
    else
      gR σ x0 4 fun r1 =>
      if (σ.1 r1 1) < x5 then
        some (.inr x3)
      else
        if x5 ≤ 0 then
          fX12_ringBits_b67 S σ x0 x1 x2 x3 x4 x5
        else
          gR σ x0 4 fun r2 =>
          gR σ x0 4 fun r3 =>
          bd0 (fX3_runsAt S σ r2 x1 ((σ.1 r3 1) - x5)) fun v4 =>
          nm (mxI (0 : Int32) (x4 - v4)) fun v5 =>
          fX12_ringBits_b67 S σ x0 x1 x2 x3 v5 x5
def fX12_ringBits_b86 (S : Nat → Nat × Nat) (σ : mm) (x3 : Int32)  : Option Int32 :=
  some x3
def fX12_ringBits (S : Nat → Nat × Nat) (σ : mm) (x0 : Nat) (x1 : Int32) (x2 : Int32) : Option Int32 :=
  gR σ x0 1 fun r1 =>
  gR σ r1 10 fun r2 =>
  ldI S σ r2 x1 fun v3 =>
  bd0 (loopN (fX12_ringBits_L16 S σ x0 x1 x2) 1000 ((0 : Int32), v3, (0 : Int32))) (fun v5 => fX12_ringBits_b86 S σ v5)
def fX12_rings_b54 (S : Nat → Nat × Nat) (σ : mm)  (s0 : Int32) : Option (Int32 × mm) :=
  some (s0, σ)
def fX12_rings_b53 (S : Nat → Nat × Nat) (σ : mm)   : Option (Int32 × mm) :=
  fX12_rings_b54 S σ (-1 : Int32)
def fX12_rings_b22 (S : Nat → Nat × Nat) (σ : mm) (x0 : Nat) (x1 : Int32) (s0 : Int32) : Option (Int32 × mm) :=
  gR σ x0 0 fun r1 =>
  wI σ r1 1 (0 : Int32) fun τ2 =>
  if s0 = (-1 : Int32) then
    fX12_rings_b53 S τ2
  else
    bd0 (fX12_isRunning S τ2 x0 x1) fun v3 =>
    if v3 = 0 then
      fX12_rings_b53 S τ2
    else
      bd0 (fX12_ringBits S τ2 x0 x1 s0) fun v4 =>
      fX12_rings_b54 S τ2 v4
def fX12_rings (S : Nat → Nat × Nat) (σ : mm) (x0 : Nat) (x1 : Int32) : Option (Int32 × mm) :=
  gR σ x0 0 fun r1 =>
  if ¬ (σ.1 r1 1) = (1 : Int32) then
    fX12_rings_b22 S σ x0 x1 (-1 : Int32)
  else
    gR σ x0 0 fun r2 =>
    bd0 (fX8_firstByte S σ r2) fun v3 =>
    fX12_rings_b22 S σ x0 x1 v3
def fX12_drawn_b20 (S : Nat → Nat × Nat) (σ : mm)   : Option (Int32 × mm) :=
  some ((-1 : Int32), σ)
def fX12_drawn_b55 (S : Nat → Nat × Nat) (σ : mm) (x3 : Int32)  : Option (Int32 × mm) :=
  some (x3, σ)
def fX12_drawn (S : Nat → Nat × Nat) (σ : mm) (x0 : Nat) (x1 : Int32) (x2 : Int32) : Option (Int32 × mm) :=
  bd0 (fX12_isFrom S σ (1 : Int32) (60 : Int32) x1) fun v1 =>
  if v1 = 0 then
    fX12_drawn_b20 S σ
  else
    gR σ x0 1 fun r2 =>
    if ¬ (σ.1 r2 6) = 0 then
      gR σ x0 4 fun r3 =>
      bd0 (fX3_hoursOf S σ r3 x1) fun v4 =>
      if v4 ≤ 0 then
        fX12_drawn_b55 S σ v4
      else
        gR σ x0 6 fun r5 =>
        gR σ x0 4 fun r6 =>
        bd0 (fX9_keep S σ r5 r6) fun τ7 =>
        gR τ7 x0 4 fun r8 =>
        bd0 (fX3_drawHours S τ7 r8 v4 x2) fun τ9 =>
        fX12_drawn_b55 S τ9 v4
    else
      fX12_drawn_b20 S σ
def fX12_odds_b21 (S : Nat → Nat × Nat) (σ : mm)   : Option (Int32 × mm) :=
  some ((-1 : Int32), σ)
def fX12_odds_b80 (S : Nat → Nat × Nat) (σ : mm) (x0 : Nat) (x1 : Int32) (x2 : Int32) (x3 : Int32) (x4 : Int32) (x5 : Int32)  : Option ((Int32 × Int32 × mm) ⊕ (Int32 × mm)) :=
  nm (x5 + (1 : Int32)) fun v1 =>
  some (.inl (x4, v1, σ))
def fX12_odds_L29 (S : Nat → Nat × Nat) (x0 : Nat) (x1 : Int32) (x2 : Int32) (x3 : Int32) : (Int32 × Int32 × mm) → Option ((Int32 × Int32 × mm) ⊕ (Int32 × mm)) :=
  un3 fun x4 x5 σ =>
  if x2 ≤ x5 then
      some (.inr (x4, σ))
    else
      gR σ x0 5 fun r1 =>
      gR σ x0 4 fun r2 =>
      bd0 (fX3_copyFrom S σ r1 r2) fun τ3 =>
      gR τ3 x0 5 fun r4 =>
      gR τ3 x0 5 fun r5 =>
      bd0 (fX3_hoursOf S τ3 r5 (48 : Int32)) fun v6 =>
      bd0 (fX3_drawHours S τ3 r4 v6 (x3 + x5)) fun τ7 =>
      gR τ7 x0 5 fun r8 =>
      bd0 (fX3_isLapsed S τ7 r8 x1) fun v9 =>
      if ¬ v9 = 0 then
        fX12_odds_b80 S τ7 x0 x1 x2 x3 x4 x5
      else
        nm (x4 + (1 : Int32)) fun v10 =>
        fX12_odds_b80 S τ7 x0 x1 x2 x3 v10 x5
def fX12_odds (S : Nat → Nat × Nat) (σ : mm) (x0 : Nat) (x1 : Int32) (x2 : Int32) (x3 : Int32) : Option (Int32 × mm) :=
  gR σ x0 1 fun r1 =>
  bd0 (fX4_hasGlass S σ r1 x1) fun v2 =>
  if v2 = 0 then
    fX12_odds_b21 S σ
  else
    bd0 (fX12_isFrom S σ (1 : Int32) (30 : Int32) x2) fun v3 =>
    if ¬ v3 = 0 then
      bd0 (loopN (fX12_odds_L29 S x0 x1 x2 x3) 1000 ((0 : Int32), (0 : Int32), σ)) (un2 fun v5 τ6 => some (v5, τ6))
    else
      fX12_odds_b21 S σ
def fX12_roll_b115 (S : Nat → Nat × Nat) (σ : mm) (x3 : Int32)  : Option (Int32 × mm) :=
  some (x3, σ)
def fX12_roll_b13 (S : Nat → Nat × Nat) (σ : mm) (x0 : Nat) (x1 : Int32)  : Option (Int32 × mm) :=
  gR σ x0 9 fun r1 =>
  bd2 (fX6_read S σ r1) fun v2 τ3 =>
  gR τ3 x0 0 fun r4 =>
  wI τ3 x0 17 (τ3.1 r4 9) fun τ5 =>
  gR τ5 x0 0 fun r6 =>
  wI τ5 r6 1 (0 : Int32) fun τ7 =>
  if ¬ v2 = 0 then
    gR τ7 x0 5 fun r8 =>
    gR τ7 x0 4 fun r9 =>
    bd0 (fX3_copyFrom S τ7 r8 r9) fun τ10 =>
    gR τ10 x0 9 fun r11 =>
    gR τ10 x0 5 fun r12 =>
    bd2 (fX6_judge S τ10 r11 r12) fun v13 τ14 =>
    if ¬ x1 = (1 : Int32) then
      fX12_roll_b115 S τ14 v13
    else
      gR τ14 x0 9 fun r15 =>
      if (τ14.1 r15 8) ≤ 0 then
        fX12_roll_b115 S τ14 v13
      else
        gR τ14 x0 6 fun r16 =>
        gR τ14 x0 4 fun r17 =>
        bd0 (fX9_keep S τ14 r16 r17) fun τ18 =>
        gR τ18 x0 4 fun r19 =>
        gR τ18 x0 5 fun r20 =>
        bd0 (fX3_copyFrom S τ18 r19 r20) fun τ21 =>
        fX12_roll_b115 S τ21 v13
  else
    gR τ7 x0 0 fun r22 =>
    some (((-2 : Int32) - (τ7.1 r22 10)), τ7)
def fX12_roll (S : Nat → Nat × Nat) (σ : mm) (x0 : Nat) (x1 : Int32) : Option (Int32 × mm) :=
  if x1 = 0 then
    fX12_roll_b13 S σ x0 x1
  else
    if x1 = (1 : Int32) then
      fX12_roll_b13 S σ x0 x1
    else
      some ((-1000 : Int32), σ)
def fX12_rolled (S : Nat → Nat × Nat) (σ : mm) (x0 : Nat) (x1 : Int32) : Option Int32 :=
  gR σ x0 9 fun r1 =>
  bd0 (fX6_told S σ r1 x1) fun v2 =>
  some v2
def fX12_sentence (S : Nat → Nat × Nat) (σ : mm) (x0 : Nat) : Option (Int32 × mm) :=
  gR σ x0 11 fun r1 =>
  gR σ x0 0 fun r2 =>
  gR σ x0 1 fun r3 =>
  bd2 (fX7_read S σ r1 r2 r3) fun v4 τ5 =>
  gR τ5 x0 0 fun r6 =>
  wI τ5 x0 17 (τ5.1 r6 9) fun τ7 =>
  gR τ7 x0 0 fun r8 =>
  wI τ7 r8 1 (0 : Int32) fun τ9 =>
  if ¬ v4 = 0 then
    gR τ9 x0 10 fun r10 =>
    gR τ9 x0 11 fun r11 =>
    bd0 (fX7_copyFrom S τ9 r10 r11) fun τ12 =>
    gR τ12 x0 10 fun r13 =>
    some ((τ12.1 r13 4), τ12)
  else
    gR τ9 x0 0 fun r14 =>
    some (((-1 : Int32) - (τ9.1 r14 10)), τ9)
def fX12_said_b56 (S : Nat → Nat × Nat) (σ : mm) (x0 : Nat) (x1 : Int32) (x2 : Int32) (x3 : Int32)  : Option ((Int32 × Int32) ⊕ (Int32 ⊕ Int32)) :=
  nm (x3 + (1 : Int32)) fun v1 =>
  some (.inl (x2, v1))
def fX12_said_L16 (S : Nat → Nat × Nat) (σ : mm) (x0 : Nat) (x1 : Int32) : (Int32 × Int32) → Option ((Int32 × Int32) ⊕ (Int32 ⊕ Int32)) :=
  un2 fun x2 x3 =>
  gR σ x0 1 fun r1 =>
    if (σ.1 r1 12) ≤ x3 then
      some (.inr (.inr x2))
    else
      gR σ x0 10 fun r2 =>
      gR σ x0 4 fun r3 =>
      gR σ x0 1 fun r4 =>
      bd0 (fX7_holds S σ r2 r3 r4 x3) fun v5 =>
      if v5 = 0 then
        fX12_said_b56 S σ x0 x1 x2 x3
      else
        if ¬ x2 = x1 then
          nm (x2 + (1 : Int32)) fun v6 =>
          fX12_said_b56 S σ x0 x1 v6 x3
        else
          some (.inr (.inl x3))
def fX12_said_b72 (S : Nat → Nat × Nat) (σ : mm)  (s0 : Int32) : Option Int32 :=
  some s0
def fX12_said (S : Nat → Nat × Nat) (σ : mm) (x0 : Nat) (x1 : Int32) : Option Int32 :=
  gR σ x0 10 fun r1 =>
  if ¬ (σ.1 r1 4) = 0 then
    bd0 (loopN (fX12_said_L16 S σ x0 x1) 1000 ((0 : Int32), (0 : Int32))) (cs2 (fun v3 => some v3) (fun v4 => if ¬ x1 = (-1 : Int32) then
        fX12_said_b72 S σ (-1 : Int32)
      else
        fX12_said_b72 S σ v4))
  else
    some (-1 : Int32)
def fX12_image_b9 (S : Nat → Nat × Nat) (σ : mm)   : Option (Int32 × mm) :=
  some ((0 : Int32), σ)
def fX12_image (S : Nat → Nat × Nat) (σ : mm) (x0 : Nat) (x1 : Int32) : Option (Int32 × mm) :=
  if x1 < 0 then
    fX12_image_b9 S σ
  else
    if x1 < (2 : Int32) then
      gR σ x0 12 fun r1 =>
      ldR S σ r1 x1 fun r2 =>
      gR σ x0 1 fun r3 =>
      bd0 (fX4_copyFrom S σ r2 r3) fun τ4 =>
      gR τ4 x0 13 fun r5 =>
      ldR S τ4 r5 x1 fun r6 =>
      gR τ4 x0 4 fun r7 =>
      bd0 (fX3_copyFrom S τ4 r6 r7) fun τ8 =>
      gR τ8 x0 14 fun r9 =>
      ldR S τ8 r9 x1 fun r10 =>
      gR τ8 x0 10 fun r11 =>
      bd0 (fX7_copyFrom S τ8 r10 r11) fun τ12 =>
      gR τ12 x0 15 fun r13 =>
      stZ S τ12 r13 x1 (1 : Int32) fun τ14 =>
      some ((1 : Int32), τ14)
    else
      fX12_image_b9 S σ
def fX12_restore_b18 (S : Nat → Nat × Nat) (σ : mm)   : Option (Int32 × mm) :=
  some ((0 : Int32), σ)
def fX12_restore (S : Nat → Nat × Nat) (σ : mm) (x0 : Nat) (x1 : Int32) : Option (Int32 × mm) :=
  if x1 < 0 then
    fX12_restore_b18 S σ
  else
    if (2 : Int32) ≤ x1 then
      fX12_restore_b18 S σ
    else
      gR σ x0 15 fun r1 =>
      ldI S σ r1 x1 fun v2 =>
      if ¬ v2 = 0 then
        gR σ x0 1 fun r3 =>
        gR σ x0 12 fun r4 =>
        ldR S σ r4 x1 fun r5 =>
        bd0 (fX4_copyFrom S σ r3 r5) fun τ6 =>
        gR τ6 x0 4 fun r7 =>
        gR τ6 x0 13 fun r8 =>
        ldR S τ6 r8 x1 fun r9 =>
        bd0 (fX3_copyFrom S τ6 r7 r9) fun τ10 =>
        gR τ10 x0 10 fun r11 =>
        gR τ10 x0 14 fun r12 =>
        ldR S τ10 r12 x1 fun r13 =>
        bd0 (fX7_copyFrom S τ10 r11 r13) fun τ14 =>
        gR τ14 x0 6 fun r15 =>
        bd0 (fX9_forget S τ14 r15) fun τ16 =>
        some ((1 : Int32), τ16)
      else
        fX12_restore_b18 S σ
