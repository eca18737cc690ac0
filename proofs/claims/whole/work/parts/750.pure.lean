theorem gD85_0 {α : Type} {Q : Nat → Int → Int} {w : Nat → Nat → Int64} {rf : Nat → Nat → Option Nat} {F : Nat → Option α} (hr : RCok rf) : gR (mk Q w rf) 85 0 F = F 86 := gP0_0 hr isPar85
theorem gD85_1 {α : Type} {Q : Nat → Int → Int} {w : Nat → Nat → Int64} {rf : Nat → Nat → Option Nat} {F : Nat → Option α} (hr : RCok rf) : gR (mk Q w rf) 85 1 F = F 87 := gP0_1 hr isPar85
theorem gD85_2 {α : Type} {Q : Nat → Int → Int} {w : Nat → Nat → Int64} {rf : Nat → Nat → Option Nat} {F : Nat → Option α} (hr : RCok rf) : gR (mk Q w rf) 85 2 F = F 88 := gP0_2 hr isPar85
theorem gD85_3 {α : Type} {Q : Nat → Int → Int} {w : Nat → Nat → Int64} {rf : Nat → Nat → Option Nat} {F : Nat → Option α} (hr : RCok rf) : gR (mk Q w rf) 85 3 F = F 89 := gP0_3 hr isPar85
theorem gD85_4 {α : Type} {Q : Nat → Int → Int} {w : Nat → Nat → Int64} {rf : Nat → Nat → Option Nat} {F : Nat → Option α} (hr : RCok rf) : gR (mk Q w rf) 85 4 F = F 90 := gP0_4 hr isPar85
theorem gD85_5 {α : Type} {Q : Nat → Int → Int} {w : Nat → Nat → Int64} {rf : Nat → Nat → Option Nat} {F : Nat → Option α} (hr : RCok rf) : gR (mk Q w rf) 85 5 F = F 91 := gP0_5 hr isPar85
theorem gD85_7 {α : Type} {Q : Nat → Int → Int} {w : Nat → Nat → Int64} {rf : Nat → Nat → Option Nat} {F : Nat → Option α} (hr : RCok rf) : gR (mk Q w rf) 85 7 F = F 92 := gP0_7 hr isPar85
theorem gD85_8 {α : Type} {Q : Nat → Int → Int} {w : Nat → Nat → Int64} {rf : Nat → Nat → Option Nat} {F : Nat → Option α} (hr : RCok rf) : gR (mk Q w rf) 85 8 F = F 93 := gP0_8 hr isPar85
theorem gD85_9 {α : Type} {Q : Nat → Int → Int} {w : Nat → Nat → Int64} {rf : Nat → Nat → Option Nat} {F : Nat → Option α} (hr : RCok rf) : gR (mk Q w rf) 85 9 F = F 94 := gP0_9 hr isPar85
theorem gD85_10 {α : Type} {Q : Nat → Int → Int} {w : Nat → Nat → Int64} {rf : Nat → Nat → Option Nat} {F : Nat → Option α} (hr : RCok rf) : gR (mk Q w rf) 85 10 F = F 95 := gP0_10 hr isPar85
theorem gD85_11 {α : Type} {Q : Nat → Int → Int} {w : Nat → Nat → Int64} {rf : Nat → Nat → Option Nat} {F : Nat → Option α} (hr : RCok rf) : gR (mk Q w rf) 85 11 F = F 96 := gP0_11 hr isPar85
theorem gD85_13 {α : Type} {Q : Nat → Int → Int} {w : Nat → Nat → Int64} {rf : Nat → Nat → Option Nat} {F : Nat → Option α} (hr : RCok rf) : gR (mk Q w rf) 85 13 F = F 97 := gP0_13 hr isPar85
theorem gD85_15 {α : Type} {Q : Nat → Int → Int} {w : Nat → Nat → Int64} {rf : Nat → Nat → Option Nat} {F : Nat → Option α} (hr : RCok rf) : gR (mk Q w rf) 85 15 F = F 98 := gP0_15 hr isPar85
theorem gD98_0 {α : Type} {Q : Nat → Int → Int} {w : Nat → Nat → Int64} {rf : Nat → Nat → Option Nat} {F : Nat → Option α} (hr : RCok rf) : gR (mk Q w rf) 98 0 F = F 99 := gP13_0 hr isPar85
theorem gD98_1 {α : Type} {Q : Nat → Int → Int} {w : Nat → Nat → Int64} {rf : Nat → Nat → Option Nat} {F : Nat → Option α} (hr : RCok rf) : gR (mk Q w rf) 98 1 F = F 100 := gP13_1 hr isPar85
theorem gD98_2 {α : Type} {Q : Nat → Int → Int} {w : Nat → Nat → Int64} {rf : Nat → Nat → Option Nat} {F : Nat → Option α} (hr : RCok rf) : gR (mk Q w rf) 98 2 F = F 101 := gP13_2 hr isPar85
theorem gD98_3 {α : Type} {Q : Nat → Int → Int} {w : Nat → Nat → Int64} {rf : Nat → Nat → Option Nat} {F : Nat → Option α} (hr : RCok rf) : gR (mk Q w rf) 98 3 F = F 102 := gP13_3 hr isPar85
theorem gD67_0 {α : Type} {Q : Nat → Int → Int} {w : Nat → Nat → Int64} {rf : Nat → Nat → Option Nat} {F : Nat → Option α} (hr : RCok rf) : gR (mk Q w rf) 67 0 F = F 68 := gP0_0 hr isPar67
theorem gD67_1 {α : Type} {Q : Nat → Int → Int} {w : Nat → Nat → Int64} {rf : Nat → Nat → Option Nat} {F : Nat → Option α} (hr : RCok rf) : gR (mk Q w rf) 67 1 F = F 69 := gP0_1 hr isPar67
theorem gD67_2 {α : Type} {Q : Nat → Int → Int} {w : Nat → Nat → Int64} {rf : Nat → Nat → Option Nat} {F : Nat → Option α} (hr : RCok rf) : gR (mk Q w rf) 67 2 F = F 70 := gP0_2 hr isPar67
theorem gD67_3 {α : Type} {Q : Nat → Int → Int} {w : Nat → Nat → Int64} {rf : Nat → Nat → Option Nat} {F : Nat → Option α} (hr : RCok rf) : gR (mk Q w rf) 67 3 F = F 71 := gP0_3 hr isPar67
theorem gD67_4 {α : Type} {Q : Nat → Int → Int} {w : Nat → Nat → Int64} {rf : Nat → Nat → Option Nat} {F : Nat → Option α} (hr : RCok rf) : gR (mk Q w rf) 67 4 F = F 72 := gP0_4 hr isPar67
theorem gD67_5 {α : Type} {Q : Nat → Int → Int} {w : Nat → Nat → Int64} {rf : Nat → Nat → Option Nat} {F : Nat → Option α} (hr : RCok rf) : gR (mk Q w rf) 67 5 F = F 73 := gP0_5 hr isPar67
theorem gD67_7 {α : Type} {Q : Nat → Int → Int} {w : Nat → Nat → Int64} {rf : Nat → Nat → Option Nat} {F : Nat → Option α} (hr : RCok rf) : gR (mk Q w rf) 67 7 F = F 74 := gP0_7 hr isPar67
theorem gD67_8 {α : Type} {Q : Nat → Int → Int} {w : Nat → Nat → Int64} {rf : Nat → Nat → Option Nat} {F : Nat → Option α} (hr : RCok rf) : gR (mk Q w rf) 67 8 F = F 75 := gP0_8 hr isPar67
theorem gD67_9 {α : Type} {Q : Nat → Int → Int} {w : Nat → Nat → Int64} {rf : Nat → Nat → Option Nat} {F : Nat → Option α} (hr : RCok rf) : gR (mk Q w rf) 67 9 F = F 76 := gP0_9 hr isPar67
theorem gD67_10 {α : Type} {Q : Nat → Int → Int} {w : Nat → Nat → Int64} {rf : Nat → Nat → Option Nat} {F : Nat → Option α} (hr : RCok rf) : gR (mk Q w rf) 67 10 F = F 77 := gP0_10 hr isPar67
theorem gD67_11 {α : Type} {Q : Nat → Int → Int} {w : Nat → Nat → Int64} {rf : Nat → Nat → Option Nat} {F : Nat → Option α} (hr : RCok rf) : gR (mk Q w rf) 67 11 F = F 78 := gP0_11 hr isPar67
theorem gD67_13 {α : Type} {Q : Nat → Int → Int} {w : Nat → Nat → Int64} {rf : Nat → Nat → Option Nat} {F : Nat → Option α} (hr : RCok rf) : gR (mk Q w rf) 67 13 F = F 79 := gP0_13 hr isPar67
theorem gD67_15 {α : Type} {Q : Nat → Int → Int} {w : Nat → Nat → Int64} {rf : Nat → Nat → Option Nat} {F : Nat → Option α} (hr : RCok rf) : gR (mk Q w rf) 67 15 F = F 80 := gP0_15 hr isPar67
theorem gD80_0 {α : Type} {Q : Nat → Int → Int} {w : Nat → Nat → Int64} {rf : Nat → Nat → Option Nat} {F : Nat → Option α} (hr : RCok rf) : gR (mk Q w rf) 80 0 F = F 81 := gP13_0 hr isPar67
theorem gD80_1 {α : Type} {Q : Nat → Int → Int} {w : Nat → Nat → Int64} {rf : Nat → Nat → Option Nat} {F : Nat → Option α} (hr : RCok rf) : gR (mk Q w rf) 80 1 F = F 82 := gP13_1 hr isPar67
theorem gD80_2 {α : Type} {Q : Nat → Int → Int} {w : Nat → Nat → Int64} {rf : Nat → Nat → Option Nat} {F : Nat → Option α} (hr : RCok rf) : gR (mk Q w rf) 80 2 F = F 83 := gP13_2 hr isPar67
theorem gD80_3 {α : Type} {Q : Nat → Int → Int} {w : Nat → Nat → Int64} {rf : Nat → Nat → Option Nat} {F : Nat → Option α} (hr : RCok rf) : gR (mk Q w rf) 80 3 F = F 84 := gP13_3 hr isPar67
theorem stD86 {α : Type} {S : Nat → Nat × Nat} {Q : Nat → Int → Int} {w : Nat → Nat → Int64} {rf : Nat → Nat → Option Nat} {F : mm → Option α} {z : Int} {y : Int64} (hS : SCok S) (h : 0 ≤ z ∧ z < 8) : stL S (mk Q w rf) 86 (I z) y F = F (mk Q (up2 w 86 z.toNat y) rf) := stP1 hS isPar85 h
theorem stD87 {α : Type} {S : Nat → Nat × Nat} {Q : Nat → Int → Int} {w : Nat → Nat → Int64} {rf : Nat → Nat → Option Nat} {F : mm → Option α} {z y : Int} (hS : SCok S) (h : 0 ≤ z ∧ z < 8) : stI S (mk Q w rf) 87 (I z) (I y) F = F (mk (setR Q 87 (updf (Q 87) z y)) w rf) := stP2 hS isPar85 h
theorem ldD87 {α : Type} {S : Nat → Nat × Nat} {Q : Nat → Int → Int} {w : Nat → Nat → Int64} {rf : Nat → Nat → Option Nat} {F : Int32 → Option α} {z : Int} (hS : SCok S) (h : 0 ≤ z ∧ z < 8) : ldI S (mk Q w rf) 87 (I z) F = F (I (Q 87 z)) := ldP2 hS isPar85 h
theorem stD88 {α : Type} {S : Nat → Nat × Nat} {Q : Nat → Int → Int} {w : Nat → Nat → Int64} {rf : Nat → Nat → Option Nat} {F : mm → Option α} {z y : Int} (hS : SCok S) (h : 0 ≤ z ∧ z < 8) : stI S (mk Q w rf) 88 (I z) (I y) F = F (mk (setR Q 88 (updf (Q 88) z y)) w rf) := stP3 hS isPar85 h
theorem ldD88 {α : Type} {S : Nat → Nat × Nat} {Q : Nat → Int → Int} {w : Nat → Nat → Int64} {rf : Nat → Nat → Option Nat} {F : Int32 → Option α} {z : Int} (hS : SCok S) (h : 0 ≤ z ∧ z < 8) : ldI S (mk Q w rf) 88 (I z) F = F (I (Q 88 z)) := ldP3 hS isPar85 h
theorem stD89 {α : Type} {S : Nat → Nat × Nat} {Q : Nat → Int → Int} {w : Nat → Nat → Int64} {rf : Nat → Nat → Option Nat} {F : mm → Option α} {z y : Int} (hS : SCok S) (h : 0 ≤ z ∧ z < 8) : stI S (mk Q w rf) 89 (I z) (I y) F = F (mk (setR Q 89 (updf (Q 89) z y)) w rf) := stP4 hS isPar85 h
theorem ldD89 {α : Type} {S : Nat → Nat × Nat} {Q : Nat → Int → Int} {w : Nat → Nat → Int64} {rf : Nat → Nat → Option Nat} {F : Int32 → Option α} {z : Int} (hS : SCok S) (h : 0 ≤ z ∧ z < 8) : ldI S (mk Q w rf) 89 (I z) F = F (I (Q 89 z)) := ldP4 hS isPar85 h
theorem stD90 {α : Type} {S : Nat → Nat × Nat} {Q : Nat → Int → Int} {w : Nat → Nat → Int64} {rf : Nat → Nat → Option Nat} {F : mm → Option α} {z y : Int} (hS : SCok S) (h : 0 ≤ z ∧ z < 8) : stI S (mk Q w rf) 90 (I z) (I y) F = F (mk (setR Q 90 (updf (Q 90) z y)) w rf) := stP5 hS isPar85 h
theorem ldD90 {α : Type} {S : Nat → Nat × Nat} {Q : Nat → Int → Int} {w : Nat → Nat → Int64} {rf : Nat → Nat → Option Nat} {F : Int32 → Option α} {z : Int} (hS : SCok S) (h : 0 ≤ z ∧ z < 8) : ldI S (mk Q w rf) 90 (I z) F = F (I (Q 90 z)) := ldP5 hS isPar85 h
theorem stD91 {α : Type} {S : Nat → Nat × Nat} {Q : Nat → Int → Int} {w : Nat → Nat → Int64} {rf : Nat → Nat → Option Nat} {F : mm → Option α} {z y : Int} (hS : SCok S) (h : 0 ≤ z ∧ z < 8) : stI S (mk Q w rf) 91 (I z) (I y) F = F (mk (setR Q 91 (updf (Q 91) z y)) w rf) := stP6 hS isPar85 h
theorem ldD91 {α : Type} {S : Nat → Nat × Nat} {Q : Nat → Int → Int} {w : Nat → Nat → Int64} {rf : Nat → Nat → Option Nat} {F : Int32 → Option α} {z : Int} (hS : SCok S) (h : 0 ≤ z ∧ z < 8) : ldI S (mk Q w rf) 91 (I z) F = F (I (Q 91 z)) := ldP6 hS isPar85 h
theorem stD92 {α : Type} {S : Nat → Nat × Nat} {Q : Nat → Int → Int} {w : Nat → Nat → Int64} {rf : Nat → Nat → Option Nat} {F : mm → Option α} {z : Int} {y : Int64} (hS : SCok S) (h : 0 ≤ z ∧ z < 4) : stL S (mk Q w rf) 92 (I z) y F = F (mk Q (up2 w 92 z.toNat y) rf) := stP7 hS isPar85 h
theorem stD93 {α : Type} {S : Nat → Nat × Nat} {Q : Nat → Int → Int} {w : Nat → Nat → Int64} {rf : Nat → Nat → Option Nat} {F : mm → Option α} {z y : Int} (hS : SCok S) (h : 0 ≤ z ∧ z < 4) : stI S (mk Q w rf) 93 (I z) (I y) F = F (mk (setR Q 93 (updf (Q 93) z y)) w rf) := stP8 hS isPar85 h
theorem ldD93 {α : Type} {S : Nat → Nat × Nat} {Q : Nat → Int → Int} {w : Nat → Nat → Int64} {rf : Nat → Nat → Option Nat} {F : Int32 → Option α} {z : Int} (hS : SCok S) (h : 0 ≤ z ∧ z < 4) : ldI S (mk Q w rf) 93 (I z) F = F (I (Q 93 z)) := ldP8 hS isPar85 h
theorem stD94 {α : Type} {S : Nat → Nat × Nat} {Q : Nat → Int → Int} {w : Nat → Nat → Int64} {rf : Nat → Nat → Option Nat} {F : mm → Option α} {z y : Int} (hS : SCok S) (h : 0 ≤ z ∧ z < 4) : stI S (mk Q w rf) 94 (I z) (I y) F = F (mk (setR Q 94 (updf (Q 94) z y)) w rf) := stP9 hS isPar85 h
theorem ldD94 {α : Type} {S : Nat → Nat × Nat} {Q : Nat → Int → Int} {w : Nat → Nat → Int64} {rf : Nat → Nat → Option Nat} {F : Int32 → Option α} {z : Int} (hS : SCok S) (h : 0 ≤ z ∧ z < 4) : ldI S (mk Q w rf) 94 (I z) F = F (I (Q 94 z)) := ldP9 hS isPar85 h
theorem stD95 {α : Type} {S : Nat → Nat × Nat} {Q : Nat → Int → Int} {w : Nat → Nat → Int64} {rf : Nat → Nat → Option Nat} {F : mm → Option α} {z y : Int} (hS : SCok S) (h : 0 ≤ z ∧ z < 4) : stI S (mk Q w rf) 95 (I z) (I y) F = F (mk (setR Q 95 (updf (Q 95) z y)) w rf) := stP10 hS isPar85 h
theorem ldD95 {α : Type} {S : Nat → Nat × Nat} {Q : Nat → Int → Int} {w : Nat → Nat → Int64} {rf : Nat → Nat → Option Nat} {F : Int32 → Option α} {z : Int} (hS : SCok S) (h : 0 ≤ z ∧ z < 4) : ldI S (mk Q w rf) 95 (I z) F = F (I (Q 95 z)) := ldP10 hS isPar85 h
theorem stD96 {α : Type} {S : Nat → Nat × Nat} {Q : Nat → Int → Int} {w : Nat → Nat → Int64} {rf : Nat → Nat → Option Nat} {F : mm → Option α} {z y : Int} (hS : SCok S) (h : 0 ≤ z ∧ z < 4) : stI S (mk Q w rf) 96 (I z) (I y) F = F (mk (setR Q 96 (updf (Q 96) z y)) w rf) := stP11 hS isPar85 h
theorem ldD96 {α : Type} {S : Nat → Nat × Nat} {Q : Nat → Int → Int} {w : Nat → Nat → Int64} {rf : Nat → Nat → Option Nat} {F : Int32 → Option α} {z : Int} (hS : SCok S) (h : 0 ≤ z ∧ z < 4) : ldI S (mk Q w rf) 96 (I z) F = F (I (Q 96 z)) := ldP11 hS isPar85 h
theorem stD97 {α : Type} {S : Nat → Nat × Nat} {Q : Nat → Int → Int} {w : Nat → Nat → Int64} {rf : Nat → Nat → Option Nat} {F : mm → Option α} {z y : Int} (hS : SCok S) (h : 0 ≤ z ∧ z < 12) : stI S (mk Q w rf) 97 (I z) (I y) F = F (mk (setR Q 97 (updf (Q 97) z y)) w rf) := stP12 hS isPar85 h
theorem ldD97 {α : Type} {S : Nat → Nat × Nat} {Q : Nat → Int → Int} {w : Nat → Nat → Int64} {rf : Nat → Nat → Option Nat} {F : Int32 → Option α} {z : Int} (hS : SCok S) (h : 0 ≤ z ∧ z < 12) : ldI S (mk Q w rf) 97 (I z) F = F (I (Q 97 z)) := ldP12 hS isPar85 h
theorem stD99 {α : Type} {S : Nat → Nat × Nat} {Q : Nat → Int → Int} {w : Nat → Nat → Int64} {rf : Nat → Nat → Option Nat} {F : mm → Option α} {z : Int} {y : Int64} (hS : SCok S) (h : 0 ≤ z ∧ z < 6) : stL S (mk Q w rf) 99 (I z) y F = F (mk Q (up2 w 99 z.toNat y) rf) := stP14 hS isPar85 h
theorem stD100 {α : Type} {S : Nat → Nat × Nat} {Q : Nat → Int → Int} {w : Nat → Nat → Int64} {rf : Nat → Nat → Option Nat} {F : mm → Option α} {z y : Int} (hS : SCok S) (h : 0 ≤ z ∧ z < 6) : stI S (mk Q w rf) 100 (I z) (I y) F = F (mk (setR Q 100 (updf (Q 100) z y)) w rf) := stP15 hS isPar85 h
theorem ldD100 {α : Type} {S : Nat → Nat × Nat} {Q : Nat → Int → Int} {w : Nat → Nat → Int64} {rf : Nat → Nat → Option Nat} {F : Int32 → Option α} {z : Int} (hS : SCok S) (h : 0 ≤ z ∧ z < 6) : ldI S (mk Q w rf) 100 (I z) F = F (I (Q 100 z)) := ldP15 hS isPar85 h
theorem stD101 {α : Type} {S : Nat → Nat × Nat} {Q : Nat → Int → Int} {w : Nat → Nat → Int64} {rf : Nat → Nat → Option Nat} {F : mm → Option α} {z y : Int} (hS : SCok S) (h : 0 ≤ z ∧ z < 6) : stI S (mk Q w rf) 101 (I z) (I y) F = F (mk (setR Q 101 (updf (Q 101) z y)) w rf) := stP16 hS isPar85 h
theorem ldD101 {α : Type} {S : Nat → Nat × Nat} {Q : Nat → Int → Int} {w : Nat → Nat → Int64} {rf : Nat → Nat → Option Nat} {F : Int32 → Option α} {z : Int} (hS : SCok S) (h : 0 ≤ z ∧ z < 6) : ldI S (mk Q w rf) 101 (I z) F = F (I (Q 101 z)) := ldP16 hS isPar85 h
theorem stD102 {α : Type} {S : Nat → Nat × Nat} {Q : Nat → Int → Int} {w : Nat → Nat → Int64} {rf : Nat → Nat → Option Nat} {F : mm → Option α} {z y : Int} (hS : SCok S) (h : 0 ≤ z ∧ z < 6) : stI S (mk Q w rf) 102 (I z) (I y) F = F (mk (setR Q 102 (updf (Q 102) z y)) w rf) := stP17 hS isPar85 h
theorem ldD102 {α : Type} {S : Nat → Nat × Nat} {Q : Nat → Int → Int} {w : Nat → Nat → Int64} {rf : Nat → Nat → Option Nat} {F : Int32 → Option α} {z : Int} (hS : SCok S) (h : 0 ≤ z ∧ z < 6) : ldI S (mk Q w rf) 102 (I z) F = F (I (Q 102 z)) := ldP17 hS isPar85 h
theorem sh86 {S : Nat → Nat × Nat} (hS : SCok S) : (S 86).2 = 8 := (hS.1 85 isPar85).1
theorem sh68 {S : Nat → Nat × Nat} (hS : SCok S) : (S 68).2 = 8 := (hS.1 67 isPar67).1
theorem sh92 {S : Nat → Nat × Nat} (hS : SCok S) : (S 92).2 = 4 := (hS.1 85 isPar85).2.2.2.2.2.2.1
theorem sh74 {S : Nat → Nat × Nat} (hS : SCok S) : (S 74).2 = 4 := (hS.1 67 isPar67).2.2.2.2.2.2.1
theorem sh99 {S : Nat → Nat × Nat} (hS : SCok S) : (S 99).2 = 6 := (hS.1 85 isPar85).2.2.2.2.2.2.2.2.2.2.2.2.1
theorem sh81 {S : Nat → Nat × Nat} (hS : SCok S) : (S 81).2 = 6 := (hS.1 67 isPar67).2.2.2.2.2.2.2.2.2.2.2.2.1
theorem shM71 {S : Nat → Nat × Nat} (hS : SMok S) : (S 71).2 = 18 := hS.2.2.2.2.2.2.1
theorem shM72 {S : Nat → Nat × Nat} (hS : SMok S) : (S 72).2 = 18 := hS.2.2.2.2.2.2.2.1
def flR (q : Int → Int) (o : Int) (N : Int → Int) : Prop := (q 2 = 0 ∨ q 2 = 1) ∧ (q 3 = 0 ∨ q 3 = 1) ∧ o = q 2 + 2 * q 3 + 4 * N 5 + 8 * N 6
def FRz (N : Int → Int) : Prop := ∀ p, N 0 ≤ p → p < 8 → N (32 + p) = 0 ∧ N (40 + p) = 0 ∧ N (48 + p) = -1
def DRF (Q : Nat → Int → Int) (w : Nat → Nat → Int64) (v72 : Nat → Int64) (o : Int) (N : Int → Int) : Prop := WFP N ∧ CP 85 Q N ∧ namR (w 86) (w 92) (w 99) v72 0 N ∧ flR (Q 103) o N ∧ FRz N
theorem DRF_fc {Q Q' : Nat → Int → Int} {w w' : Nat → Nat → Int64} {rf rf' : Nat → Nat → Option Nat} {v72 : Nat → Int64} {o : Int} {N : Int → Int} (h : DRF Q w v72 o N) (fc : fc65 Q Q' w w' rf rf') : DRF Q' w' v72 o N := by
  obtain ⟨h1, h2, h3, h4⟩ := h
  refine ⟨h1, CP_q h2 (fun a i j => fc.1 a (by omega)), ?_, ?_⟩
  · rw [show w' 86 = w 86 from funext (fun j => fc.2.2.1 86 j (by omega)), show w' 92 = w 92 from funext (fun j => fc.2.2.1 92 j (by omega)), show w' 99 = w 99 from funext (fun j => fc.2.2.1 99 j (by omega))]
    exact h3
  · rw [fc.1 103 (by omega)]; exact h4
theorem TK_name {Q R : Nat → Int → Int} {c x : Int64} {st : Option Nat} {n : Int} (h : TK Q c st R x n) (hs : st = some 1) : R 64 7 = 2 ∧ ∃ l, isNm l ∧ c = Int64.ofNat (n5 l) ∧ x = Int64.ofNat (n27 l) := by
  rcases h.2.2 with ⟨z1, z2, z3, -⟩ | ⟨z1, z2, z3⟩ | ⟨z1, -, z2, z3, -⟩ | ⟨z1, z2, -, l, z3, z4, z5, z6⟩ | ⟨z1, z2, z3, -⟩
  · rw [z3] at hs; injection hs; omega
  · rw [z3] at hs; injection hs; omega
  · rw [z3] at hs; injection hs; omega
  · exact ⟨z1, l, z3, z4, z5⟩
  · rw [z3] at hs; injection hs; omega
theorem TK_st {Q R : Nat → Int → Int} {c x : Int64} {st : Option Nat} {n : Int} (h : TK Q c st R x n) : ∃ b, st = some b ∧ b < 31 := by
  rcases h.2.2 with ⟨z1, z2, z3, -⟩ | ⟨z1, z2, z3⟩ | ⟨z1, -, z2, z3, -⟩ | ⟨z1, z2, -, l, z3, z4, z5, z6⟩ | ⟨z1, z2, z3, -⟩
  · exact ⟨0, z3, by omega⟩
  · exact ⟨0, z3, by omega⟩
  · exact ⟨0, z3, by omega⟩
  · exact ⟨wid l, z6, wid_r.2⟩
  · exact ⟨0, z3, by omega⟩
theorem TK_w {Q R : Nat → Int → Int} {c x : Int64} {st : Option Nat} {n : Int} {b : Nat} (h : TK Q c st R x n) (hs : st = some b) (hb : b ≠ 0) : R 64 7 = 2 := by
  rcases h.2.2 with ⟨z1, z2, z3, -⟩ | ⟨z1, z2, z3⟩ | ⟨z1, -, z2, z3, -⟩ | ⟨z1, z2, -, l, z3, z4, z5, z6⟩ | ⟨z1, z2, z3, -⟩
  · rw [z3] at hs; injection hs; omega
  · rw [z3] at hs; injection hs; omega
  · rw [z3] at hs; injection hs; omega
  · exact z1
  · rw [z3] at hs; injection hs; omega
theorem M_isOne {S' : Nat → Nat × Nat} {Q R : Nat → Int → Int} {c : Int64} {st : Option Nat} {v : Nat → Nat → Int64} {rm : Nat → Nat → Option Nat} {n base many : Int} (hr' : RMok rm) (h : TK Q c st R (v 64 12) n) : (st ≠ some 1 → fX13_isOne S' (mk R v rm) 64 (I base) (I many) = some (0, mk (badR R 1) v rm)) ∧ (st = some 1 → ∀ r, -1 ≤ r → r < 100 → fX13_findIn S' (mk R v rm) 72 (I base) (I many) (v 64 12) = some (I r) → fX13_isOne S' (mk R v rm) 64 (I base) (I many) = ii (r = -1) (some (0, mk (badR (setR R 64 (updf (R 64) 13 r)) 3) v rm)) (some (1, mk (setR R 64 (updf (R 64) 13 r)) v rm))) := by
  have mn := M_isName (S' := S') (rm := rm) h
  have k7 := (TK_k h).1
  refine ⟨fun hs => ?_, fun hs r h1 h2 hf => ?_⟩
  · rw [b2_f hs] at mn
    unfold fX13_isOne
    rw [mn, bd0_s, if_neg (by decide), I_lit, M_bad (by omega) k7, bd2_s]
    rfl
  · have k2 := (TK_name h hs).1
    rw [b2_t hs] at mn
    have e13 : (mk (setR R 64 (updf (R 64) 13 r)) v rm).1 64 13 = I r := by rw [mk_1, castI, setR_same, updf_same rfl]
    unfold fX13_isOne
    rw [mn, bd0_s, if_pos (by decide), gM20 hr', mk_2, hf, bd0_s, wI_mk, castI, e13]
    by_cases c : r = -1
    · rw [ii_t c, if_neg (by rw [c]; decide), I_lit, M_bad (by rw [setR_same, updf_ne (by omega)]; omega) (by rw [setR_same, updf_ne (by omega)]; omega), bd2_s]
      rfl
    · rw [ii_f c, if_pos (by intro hh; exact c ((I_eq (by omega) (by omega)).1 hh))]
      rfl
theorem C_named {S : Nat → Nat × Nat} {Q : Nat → Int → Int} {w : Nat → Nat → Int64} {rf : Nat → Nat → Option Nat} {N : Int → Int} {c : Int64} {r1 r2 r3 : Int} (hr : RCok rf) (cp : CP 85 Q N) (h1 : fX4_placeOf S (mk Q w rf) 86 (I (N 0)) c = some (I r1)) (h2 : fX4_placeOf S (mk Q w rf) 92 (I (N 1)) c = some (I r2)) (h3 : fX4_placeOf S (mk Q w rf) 99 (I (N 2)) c = some (I r3)) (b1 : -1 ≤ r1 ∧ r1 < 100) (b2' : -1 ≤ r2 ∧ r2 < 100) (b3 : -1 ≤ r3 ∧ r3 < 100) : fX4_personNamed S (mk Q w rf) 85 c = some (I r1) ∧ fX4_glassNamed S (mk Q w rf) 85 c = some (I r2) ∧ fX4_isTold S (mk Q w rf) 85 c = some (b2 (¬ (r1 = -1 ∧ r2 = -1 ∧ r3 = -1))) := by
  obtain ⟨⟨c0, c1, c2, -⟩, -⟩ := cp
  have c2' : Q 98 4 = N 2 := c2
  have p1 : fX4_personNamed S (mk Q w rf) 85 c = some (I r1) := by
    unfold fX4_personNamed
    rw [gD85_0 hr, mk_1, castI, c0, h1, bd0_s]
  have p2 : fX4_glassNamed S (mk Q w rf) 85 c = some (I r2) := by
    unfold fX4_glassNamed
    rw [gD85_7 hr, mk_1, castI, c1, h2, bd0_s]
  refine ⟨p1, p2, ?_⟩
  have em : ((-1 : Int32)) = I (-1) := rfl
  unfold fX4_isTold
  rw [p1, bd0_s]
  by_cases q1 : r1 = -1
  · rw [if_neg (fun hn => hn (by rw [q1]; rfl)), p2, bd0_s]
    by_cases q2 : r2 = -1
    · rw [if_neg (fun hn => hn (by rw [q2]; rfl)), gD85_15 hr, gD98_0 hr, gD85_15 hr, mk_1, castI, c2', h3, bd0_s]
      by_cases q3 : r3 = -1
      · rw [if_pos (by rw [q3]; rfl), b2_f (by omega)]; rfl
      · rw [if_neg (by rw [em]; intro hh; exact q3 ((I_eq (by omega) (by omega)).1 hh)), b2_t (by omega)]; rfl
    · rw [if_pos (by rw [em]; intro hh; exact q2 ((I_eq (by omega) (by omega)).1 hh)), b2_t (by omega)]; rfl
  · rw [if_pos (by rw [em]; intro hh; exact q1 ((I_eq (by omega) (by omega)).1 hh)), b2_t (by omega)]; rfl
theorem finds {S S' : Nat → Nat × Nat} {Q : Nat → Int → Int} {w : Nat → Nat → Int64} {rf : Nat → Nat → Option Nat} {R : Nat → Int → Int} {v : Nat → Nat → Int64} {rm : Nat → Nat → Option Nat} {c x : Int64} {l : List Nat} {o : Int} (hS : SCok S) (hS' : SMok S') (dr : DRF Q w (v 72) o (R 67)) (hl : isNm l) (e1 : c = Int64.ofNat (n5 l)) (e2 : x = Int64.ofNat (n27 l)) : ∃ r1 r2 r3, (-1 ≤ r1 ∧ r1 < R 67 0) ∧ (-1 ≤ r2 ∧ r2 < R 67 1) ∧ (-1 ≤ r3 ∧ r3 < R 67 2) ∧ (fX4_placeOf S (mk Q w rf) 86 (I (R 67 0)) c = some (I r1) ∧ fX4_placeOf S (mk Q w rf) 92 (I (R 67 1)) c = some (I r2) ∧ fX4_placeOf S (mk Q w rf) 99 (I (R 67 2)) c = some (I r3)) ∧ (fX13_findIn S' (mk R v rm) 72 (I 0) (I (R 67 0)) x = some (I r1) ∧ fX13_findIn S' (mk R v rm) 72 (I 8) (I (R 67 1)) x = some (I r2) ∧ fX13_findIn S' (mk R v rm) 72 (I 12) (I (R 67 2)) x = some (I r3)) := by
  obtain ⟨wf, cp, ⟨n1, n2, n3⟩, -⟩ := dr
  have wn0 := wf.1
  have wn1 := wf.2.1
  have wn2 := wf.2.2.1
  obtain ⟨r1, a1, a2, a3, a4⟩ := find_eq (S := S) (S' := S') (Q := Q) (R := R) (w := w) (v := v) (rf := rf) (rm := rm) (base := 0) (many := R 67 0) (sh86 hS) (by omega) (by omega) (shM72 hS') (by omega) (by omega) n1 hl e1 e2
  obtain ⟨r2, b1, b2', b3, b4⟩ := find_eq (S := S) (S' := S') (Q := Q) (R := R) (w := w) (v := v) (rf := rf) (rm := rm) (base := 8) (many := R 67 1) (sh92 hS) (by omega) (by omega) (shM72 hS') (by omega) (by omega) n2 hl e1 e2
  obtain ⟨r3, c1, c2, c3, c4⟩ := find_eq (S := S) (S' := S') (Q := Q) (R := R) (w := w) (v := v) (rf := rf) (rm := rm) (base := 12) (many := R 67 2) (sh99 hS) (by omega) (by omega) (shM72 hS') (by omega) (by omega) n3 hl e1 e2
  exact ⟨r1, r2, r3, ⟨a1, a2⟩, ⟨b1, b2'⟩, ⟨c1, c2⟩, ⟨a3, b3, c3⟩, ⟨a4, b4, c4⟩⟩
theorem BAD1 {S S' : Nat → Nat × Nat} {Q : Nat → Int → Int} {w : Nat → Nat → Int64} {rf : Nat → Nat → Option Nat} {R : Nat → Int → Int} {v : Nat → Nat → Int64} {rm : Nat → Nat → Option Nat} {n m : Int} {Q0 : Nat → Int → Int} {w0 : Nat → Nat → Int64} {rf0 : Nat → Nat → Option Nat} (fc : fc65 Q0 Q w0 w rf0 rf) (h : SYN Q w rf R v n m) : fc65 Q0 (failQ Q 1) w0 w rf0 rf ∧ fm64 R (badR R 1) v v ∧ FAIL (failQ Q 1) (badR R 1) := ⟨fc_fail fc, fm_bad fm_refl, FAIL_mk h.2⟩
theorem ONE {S S' : Nat → Nat × Nat} {Q : Nat → Int → Int} {w : Nat → Nat → Int64} {rf : Nat → Nat → Option Nat} {R : Nat → Int → Int} {v : Nat → Nat → Int64} {rm : Nat → Nat → Option Nat} {n m : Int} {o : Int} (hS : SCok S) (hS' : SMok S') (hr : RCok rf) (hr' : RMok rm) (h : BEH S' rm Q R v n m) (dr : DRF Q w (v 72) o (R 67)) : ∃ Q1 w1 rf1 R1 v1, RCok rf1 ∧ fc65 Q Q1 w w1 rf rf1 ∧ fm64 R R1 v v1 ∧ v1 = v ∧ ((∃ p, 0 ≤ p ∧ p < R 67 0 ∧ fX5_takePerson S (mk Q w rf) 103 = some (I p, mk Q1 w1 rf1) ∧ fX13_isOne S' (mk R v rm) 64 (I 0) (I (R 67 0)) = some (1, mk R1 v1 rm) ∧ SYN Q1 w1 rf1 R1 v1 n m ∧ R1 64 13 = p ∧ R1 64 7 = 2 ∧ Q 65 3 < Q1 65 3) ∨ (fX5_takePerson S (mk Q w rf) 103 = some (-1, mk Q1 w1 rf1) ∧ fX13_isOne S' (mk R v rm) 64 (I 0) (I (R 67 0)) = some (0, mk R1 v1 rm) ∧ FAIL Q1 R1)) := by
  obtain ⟨Q', w', rf', k1, k2, k3, k4, k5⟩ := nextB (S := S) (w := w) hS hS' hr hr' h
  obtain ⟨t1, t2, t3, t4, t5, -⟩ := TK_k k3.2
  obtain ⟨b, hb, hb2⟩ := TK_st k3.2
  have dr' := DRF_fc dr (fc_of k4)
  have mo := M_isOne (S' := S') (rm := rm) (base := 0) (many := R 67 0) hr' k3.2
  have pre : ∀ F : Nat → Option (Int32 × mm), gR (mk Q' w' rf') 65 8 F = F b := fun F => gR_mk hb
  by_cases q : b = 1
  · obtain ⟨z1, l, z2, z3, z4⟩ := TK_name k3.2 (by rw [hb, q])
    obtain ⟨r1, r2, r3, y1, y2, y3, ⟨y4, y5, y6⟩, ⟨y7, y8, y9⟩⟩ := finds (S := S) (S' := S') (rf := rf') (rm := rm) hS hS' dr' z2 z3 z4
    have wn := dr.1
    obtain ⟨cn1, -, -⟩ := C_named k2 dr'.2.1 y4 y5 y6 (by have := wn.1; omega) (by have := wn.2.1; omega) (by have := wn.2.2.1; omega)
    have m1 := mo.2 (by rw [hb, q]) r1 (by omega) (by have := wn.1; omega) y7
    have wn0 := wn.1
    by_cases c : r1 = -1
    · rw [ii_t c] at m1
      refine ⟨failQ Q' 3, w', rf', badR (setR R 64 (updf (R 64) 13 r1)) 3, v, k2, fc_fail (fc_of k4), fm_bad (fm_set fm_refl (by omega)), rfl, Or.inr ⟨?_, m1, FAIL_mk (SYN_13 k3).2⟩⟩
      unfold fX5_takePerson
      rw [gC103_0 hr, k1, bd0_s, gC103_0 k2, pre, if_pos q, gC103_1 k2, gC103_0 k2, mk_2, cn1, bd0_s, if_neg (fun hn => hn (by rw [c]; rfl)), gC103_0 k2, I_lit, C_fails, bd2_s, c]
      rfl
    · rw [ii_f c] at m1
      refine ⟨Q', w', rf', setR R 64 (updf (R 64) 13 r1), v, k2, fc_of k4, fm_set fm_refl (by omega), rfl, Or.inl ⟨r1, by omega, by omega, ?_, m1, SYN_13 k3, by rw [setR_same, updf_same rfl], by rw [setR_same, updf_ne (by omega)]; exact z1, by unfold wpos at k5; omega⟩⟩
      unfold fX5_takePerson
      rw [gC103_0 hr, k1, bd0_s, gC103_0 k2, pre, if_pos q, gC103_1 k2, gC103_0 k2, mk_2, cn1, bd0_s, if_pos (by intro hh; exact c ((I_eq (by omega) (by omega)).1 hh))]
      rfl
  · have m1 := mo.1 (by rw [hb]; intro hh; injection hh; contradiction)
    refine ⟨failQ Q' 1, w', rf', badR R 1, v, k2, fc_fail (fc_of k4), fm_bad fm_refl, rfl, Or.inr ⟨?_, m1, FAIL_mk k3.2⟩⟩
    unfold fX5_takePerson
    rw [gC103_0 hr, k1, bd0_s, gC103_0 k2, pre, if_neg q, gC103_0 k2, I_lit, C_fails, bd2_s]
theorem NEW {S S' : Nat → Nat × Nat} {Q : Nat → Int → Int} {w : Nat → Nat → Int64} {rf : Nat → Nat → Option Nat} {R : Nat → Int → Int} {v : Nat → Nat → Int64} {rm : Nat → Nat → Option Nat} {n m : Int} {o : Int} {slot : Nat} (hS : SCok S) (hS' : SMok S') (hr : RCok rf) (hr' : RMok rm) (h : BEH S' rm Q R v n m) (dr : DRF Q w (v 72) o (R 67)) (hsl : slot < 18) : ∃ Q1 w1 rf1 R1 v1, RCok rf1 ∧ fc65 Q Q1 w w1 rf rf1 ∧ ((∀ a, a ≠ 64 → R1 a = R a) ∧ (∀ j, j < 5 ∨ 13 < j → R1 64 j = R 64 j) ∧ (∀ a j, ¬ (a = 64 ∧ j = 12) → ¬ (a = 72 ∧ j = slot) → v1 a j = v a j)) ∧ ((fX5_takeNewName S (mk Q w rf) 103 = some (1, mk Q1 w1 rf1) ∧ fX13_readNew S' (mk R v rm) 64 (I slot) = some (1, mk R1 v1 rm) ∧ BEH S' rm Q1 R1 v1 n m ∧ nmR (w1 65 7) (v1 72 slot) ∧ Q 65 3 < Q1 65 3) ∨ (fX5_takeNewName S (mk Q w rf) 103 = some (0, mk Q1 w1 rf1) ∧ fX13_readNew S' (mk R v rm) 64 (I slot) = some (0, mk R1 v1 rm) ∧ FAIL Q1 R1)) := by
  obtain ⟨Q', w', rf', k1, k2, k3, k4, k5⟩ := nextB (S := S) (w := w) hS hS' hr hr' h
  obtain ⟨t1, t2, t3, t4, t5, -⟩ := TK_k k3.2
  obtain ⟨b, hb, hb2⟩ := TK_st k3.2
  have dr' := DRF_fc dr (fc_of k4)
  have mn := M_isName (S' := S') (rm := rm) k3.2
  have pre : ∀ F : Nat → Option (Int32 × mm), gR (mk Q' w' rf') 65 8 F = F b := fun F => gR_mk hb
  have wn0 := dr.1.1
  have wn1 := dr.1.2.1
  have wn2 := dr.1.2.2.1
  by_cases q : b = 1
  · rw [b2_t (by rw [hb, q])] at mn
    obtain ⟨z1, l, z2, z3, z4⟩ := TK_name k3.2 (by rw [hb, q])
    obtain ⟨r1, r2, r3, y1, y2, y3, ⟨y4, y5, y6⟩, ⟨y7, y8, y9⟩⟩ := finds (S := S) (S' := S') (rf := rf') (rm := rm) hS hS' dr' z2 z3 z4
    obtain ⟨-, -, ct⟩ := C_named k2 dr'.2.1 y4 y5 y6 (by omega) (by omega) (by omega)
    have em : ((-1 : Int32)) = I (-1) := rfl
    have L0 : ∀ F : Int32 → Option (Int32 × mm), ldI S' (mk R v rm) 67 0 F = F (I (R 67 0)) := fun F => ldM67 (z := 0) hS' (by omega)
    have L1 : ∀ F : Int32 → Option (Int32 × mm), ldI S' (mk R v rm) 67 1 F = F (I (R 67 1)) := fun F => ldM67 (z := 1) hS' (by omega)
    have L2 : ∀ F : Int32 → Option (Int32 × mm), ldI S' (mk R v rm) 67 2 F = F (I (R 67 2)) := fun F => ldM67 (z := 2) hS' (by omega)
    have y7' : fX13_findIn S' (mk R v rm) 72 0 (I (R 67 0)) (v 64 12) = some (I r1) := y7
    have y8' : fX13_findIn S' (mk R v rm) 72 8 (I (R 67 1)) (v 64 12) = some (I r2) := y8
    have y9' : fX13_findIn S' (mk R v rm) 72 12 (I (R 67 2)) (v 64 12) = some (I r3) := y9
    by_cases c : r1 = -1 ∧ r2 = -1 ∧ r3 = -1
    · rw [b2_f (fun hn => hn c)] at ct
      have k3' : SYN Q' w' rf' R (up2 v 72 slot (v 64 12)) n m := SYN_q k3 (fun _ _ _ => rfl) rfl (fun _ _ _ => rfl) rfl (up2_out (by omega)) rfl rfl
      obtain ⟨R2, v2, g1, g2, g3⟩ := goS (w := w') hS hS' k2 hr' k3' (by omega)
      refine ⟨Q', w', rf', R2, v2, k2, fc_of k4, ⟨g3.1, fun j hj => g3.2.1 j (by omega), fun a j h1 h2 => by rw [g3.2.2 a j h1, up2_out h2]⟩, Or.inl ⟨?_, ?_, g2, ?_, by unfold wpos at k5; omega⟩⟩
      · unfold fX5_takeNewName
        rw [gC103_0 hr, k1, bd0_s, gC103_0 k2, pre, if_pos q, gC103_1 k2, gC103_0 k2, mk_2, ct, bd0_s, if_pos rfl]
        rfl
      · have es : ((slot : Int)).toNat = slot := by omega
        unfold fX13_readNew
        simp only [mn, bd0_s, gM20 hr', gM15 hr', mk_2, castI]
        rw [if_pos (by decide), L0, y7', bd0_s, if_neg (fun hn => hn (by rw [c.1]; rfl)), L1, y8', bd0_s, if_neg (fun hn => hn (by rw [c.2.1]; rfl)), L2, y9', bd0_s, if_pos (by rw [c.2.2]; rfl), stM72 hS' (by omega), es, g1, bd0_s]
      · refine ⟨l, z2, z3, ?_⟩
        rw [g3.2.2 72 slot (by omega), up2_same]
        exact z4
    · rw [b2_t c] at ct
      have mb := M_bad (S' := S') (R := R) (v := v) (rm := rm) (k := 3) (by omega) t1
      have e81 : fX13_readNew_b81 S' (mk R v rm) 64 = some (0, mk (badR R 3) v rm) := by
        unfold fX13_readNew_b81
        rw [I_lit, mb, bd2_s]
        rfl
      refine ⟨failQ Q' 3, w', rf', badR R 3, v, k2, fc_fail (fc_of k4), ⟨(fm_bad (v := v) (k := 3) fm_refl).1, (fm_bad (v := v) (k := 3) fm_refl).2.1, fun _ _ _ _ => rfl⟩, Or.inr ⟨?_, ?_, FAIL_mk k3.2⟩⟩
      · unfold fX5_takeNewName
        rw [gC103_0 hr, k1, bd0_s, gC103_0 k2, pre, if_pos q, gC103_1 k2, gC103_0 k2, mk_2, ct, bd0_s, if_neg (by decide), gC103_0 k2, I_lit, C_fails, bd2_s]
        rfl
      · unfold fX13_readNew
        simp only [mn, bd0_s, gM20 hr', gM15 hr', mk_2, castI]
        rw [if_pos (by decide), L0, y7', bd0_s, e81]
        by_cases c1 : r1 = -1
        · rw [if_neg (fun hn => hn (by rw [c1]; rfl)), L1, y8', bd0_s]
          by_cases c2 : r2 = -1
          · rw [if_neg (fun hn => hn (by rw [c2]; rfl)), L2, y9', bd0_s]
            rw [if_neg (by rw [em]; intro hh; exact c ⟨c1, c2, (I_eq (by omega) (by omega)).1 hh⟩)]
          · rw [if_pos (by rw [em]; intro hh; exact c2 ((I_eq (by omega) (by omega)).1 hh))]
        · rw [if_pos (by rw [em]; intro hh; exact c1 ((I_eq (by omega) (by omega)).1 hh))]
  · rw [b2_f (by rw [hb]; intro hh; injection hh; contradiction)] at mn
    have mb := M_bad (S' := S') (R := R) (v := v) (rm := rm) (k := 1) (by omega) t1
    refine ⟨failQ Q' 1, w', rf', badR R 1, v, k2, fc_fail (fc_of k4), ⟨(fm_bad (v := v) (k := 1) fm_refl).1, (fm_bad (v := v) (k := 1) fm_refl).2.1, fun _ _ _ _ => rfl⟩, Or.inr ⟨?_, ?_, FAIL_mk k3.2⟩⟩
    · unfold fX5_takeNewName
      rw [gC103_0 hr, k1, bd0_s, gC103_0 k2, pre, if_neg q, gC103_0 k2, I_lit, C_fails, bd2_s]
      rfl
    · unfold fX13_readNew
      rw [mn, bd0_s, if_neg (by decide), I_lit, mb, bd2_s]
      rfl
