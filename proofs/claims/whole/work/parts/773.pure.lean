def cmpA (x y : Int32) (r : Int) : Prop := (r = 60 ∧ ¬ y ≤ x) ∨ (r = 61 ∧ x = y) ∨ (r = 62 ∧ ¬ x ≤ y)
noncomputable def lfA (N : Int → Int) (g : Int) (t : Int × Int × Int × Int) : Prop := ii (t.1 = 70) (lapA N g) (ii (t.1 = 71) (N (125 + g) = 0) (ii (t.1 = 72) (N (129 + g) = 1) (ii (t.1 = 73) (awkA N (N (56 + g)) (N 102) ∧ awkA N (N (60 + g)) (N 102)) (ii (t.1 = 74) (N (56 + g) = t.2.1 ∨ N (60 + g) = t.2.1) (ii (t.1 = 75) (cmpA (I (N (125 + g))) (I t.2.2.1) t.2.2.2) (ii (t.1 = 76) (cmpA (I (N (121 + g))) (I t.2.2.1) t.2.2.2) (ii (t.1 = 77) (cmpA (I (N (137 + g))) (I t.2.2.1) t.2.2.2) (cmpA (I g) (I t.2.2.1) t.2.2.2))))))))
def lfK (t : Int × Int × Int × Int) : Prop := (70 ≤ t.1 ∧ t.1 ≤ 78) ∧ (t.1 = 74 → 0 ≤ t.2.1 ∧ t.2.1 < 8) ∧ (75 ≤ t.1 → 60 ≤ t.2.2.2 ∧ t.2.2.2 ≤ 62)
theorem cmp_60 {x y : Int32} {r : Int} (h : r = 60) : b2 (cmpA x y r) = b2 (¬ y ≤ x) := by
  unfold cmpA
  refine congrArg b2 (propext ⟨fun h2 => ?_, fun h2 => Or.inl ⟨h, h2⟩⟩)
  rcases h2 with ⟨_, h3⟩ | ⟨h3, _⟩ | ⟨h3, _⟩
  · exact h3
  · omega
  · omega
theorem cmp_61 {x y : Int32} {r : Int} (h : r = 61) : b2 (cmpA x y r) = b2 (x = y) := by
  unfold cmpA
  refine congrArg b2 (propext ⟨fun h2 => ?_, fun h2 => Or.inr (Or.inl ⟨h, h2⟩)⟩)
  rcases h2 with ⟨h3, _⟩ | ⟨_, h3⟩ | ⟨h3, _⟩
  · omega
  · exact h3
  · omega
theorem cmp_62 {x y : Int32} {r : Int} (h : r = 62) : b2 (cmpA x y r) = b2 (¬ x ≤ y) := by
  unfold cmpA
  refine congrArg b2 (propext ⟨fun h2 => ?_, fun h2 => Or.inr (Or.inr ⟨h, h2⟩)⟩)
  rcases h2 with ⟨h3, _⟩ | ⟨h3, _⟩ | ⟨_, h3⟩
  · omega
  · omega
  · exact h3
theorem C_compares {S : Nat → Nat × Nat} {Q : Nat → Int → Int} {w : Nat → Nat → Int64} {rf : Nat → Nat → Option Nat} {i r y : Int} {x : Int32} (hS : SCok S) (hr : RCok rf) (hi : 0 ≤ i ∧ i < 40) (hr2 : Q 199 i = r) (hy : Q 200 i = y) (hb : 60 ≤ r ∧ r ≤ 62) : fX7_compares S (mk Q w rf) 197 x (I i) = some (b2 (cmpA x (I y) r)) := by
  have i60 : (I r = (60 : Int32)) ↔ r = 60 := I_eq (b := 60) (by omega) (by omega)
  have i62 : (I r = (62 : Int32)) ↔ r = 62 := I_eq (b := 62) (by omega) (by omega)
  unfold fX7_compares
  rw [gC197_1 hr, ldC199 hS hi, hr2]
  by_cases h60 : r = 60
  · rw [if_neg (fun h => h (i60.2 h60)), gC197_2 hr, ldC200 hS hi, hy, cmp_60 h60]
    by_cases c : I y ≤ x
    · rw [if_pos c, b2_f (fun h => h c)]; rfl
    · rw [if_neg c, b2_t c]; rfl
  rw [if_pos (fun h => h60 (i60.1 h)), gC197_1 hr, ldC199 hS hi, hr2]
  by_cases h62 : r = 62
  · rw [if_neg (fun h => h (i62.2 h62)), gC197_2 hr, ldC200 hS hi, hy, cmp_62 h62]
    by_cases c : x ≤ I y
    · rw [if_pos c, b2_f (fun h => h c)]; rfl
    · rw [if_neg c, b2_t c]; rfl
  rw [if_pos (fun h => h62 (i62.1 h)), gC197_2 hr, ldC200 hS hi, hy, cmp_61 (by omega)]
  by_cases c : x = I y
  · rw [if_neg (fun h => h c), b2_t c]; rfl
  · rw [if_pos c, b2_f c]; rfl
theorem M_cmp {F : Nat → mm → Nat → Int32 → Int32 → Option Int32} {S : Nat → Nat × Nat} {R : Nat → Int → Int} {w : Nat → Nat → Int64} {rf : Nat → Nat → Option Nat} {v1 r : Int} {x y : Int32} (hS : SMok S) (hr : RMok rf) (hv : 0 ≤ v1 ∧ v1 + 3 < 383) (hr2 : R 66 (v1 + 3) = r) (hb : 60 ≤ r ∧ r ≤ 62) : fX13_holds_b376 F S (mk R w rf) 64 (I v1) y x = some (b2 (cmpA x y r)) := by
  have i60 : (I r = (60 : Int32)) ↔ r = 60 := I_eq (b := 60) (by omega) (by omega)
  have i61 : (I r = (61 : Int32)) ↔ r = 61 := I_eq (b := 61) (by omega) (by omega)
  unfold fX13_holds_b376
  rw [show (3 : Int32) = I 3 from rfl, I_add, gM14 hr, ldM66 hS (by omega), hr2]
  by_cases h60 : r = 60
  · rw [if_neg (fun h => h (i60.2 h60)), cmp_60 h60]
    by_cases c : y ≤ x
    · rw [if_pos c, b2_f (fun h => h c)]; rfl
    · rw [if_neg c, b2_t c]; rfl
  rw [if_pos (fun h => h60 (i60.1 h)), gM14 hr, ldM66 hS (by omega), hr2]
  by_cases h61 : r = 61
  · rw [if_neg (fun h => h (i61.2 h61)), cmp_61 h61]
    by_cases c : x = y
    · rw [if_neg (fun h => h c), b2_t c]; rfl
    · rw [if_pos c, b2_f c]; rfl
  rw [if_pos (fun h => h61 (i61.1 h)), cmp_62 (by omega)]
  by_cases c : x ≤ y
  · rw [if_pos c, b2_f (fun h => h c)]; rfl
  · rw [if_neg c, b2_t c]; rfl
theorem M_leaf {F : Nat → mm → Nat → Int32 → Int32 → Option Int32} {S : Nat → Nat × Nat} {R : Nat → Int → Int} {w : Nat → Nat → Int64} {rf : Nat → Nat → Option Nat} {k g a b c d : Int} (hS : SMok S) (hr : RMok rf) (wf : WFP (R 66)) (lo : LOK (R 66)) (hg : 0 ≤ g ∧ g < R 66 1) (hk : 0 ≤ k ∧ k < 60) (ha : R 66 (143 + 4 * k) = a) (hb : R 66 (143 + 4 * k + 1) = b) (hc : R 66 (143 + 4 * k + 2) = c) (hd : R 66 (143 + 4 * k + 3) = d) (ok : lfK (a, b, c, d)) : fX13_holds F S (mk R w rf) 64 (I k) (I g) = some (b2 (lfA (R 66) g (a, b, c, d))) := by
  have wl := lo.1
  have hb102 := wl.1
  have wn0 := wf.1
  have wn1 := wf.2.1
  have wgl := wf.2.2.2.2.2.2.2.2.2.2.2.2.2.2.1
  have gl := wgl g hg.1 hg.2
  obtain ⟨o1, o2, o3⟩ := ok
  dsimp only at o1 o2 o3
  have e1 : (143 : Int32) + (4 : Int32) * I k = I (143 + 4 * k) := by rw [show (143 : Int32) = I 143 from rfl, show (4 : Int32) = I 4 from rfl, I_mul, I_add]
  have e2 : I (143 + 4 * k) + (1 : Int32) = I (143 + 4 * k + 1) := by rw [show (1 : Int32) = I 1 from rfl, I_add]
  have e3 : I (143 + 4 * k) + (2 : Int32) = I (143 + 4 * k + 2) := by rw [show (2 : Int32) = I 2 from rfl, I_add]
  have ne1 : a ≠ 1 → ¬ (I a = (1 : Int32)) := fun h3 h => h3 ((I_eq (b := 1) (by omega) (by omega)).1 h)
  have ne2 : a ≠ 2 → ¬ (I a = (2 : Int32)) := fun h3 h => h3 ((I_eq (b := 2) (by omega) (by omega)).1 h)
  have ne3 : a ≠ 3 → ¬ (I a = (3 : Int32)) := fun h3 h => h3 ((I_eq (b := 3) (by omega) (by omega)).1 h)
  have ne70 : a ≠ 70 → ¬ (I a = (70 : Int32)) := fun h3 h => h3 ((I_eq (b := 70) (by omega) (by omega)).1 h)
  have ne71 : a ≠ 71 → ¬ (I a = (71 : Int32)) := fun h3 h => h3 ((I_eq (b := 71) (by omega) (by omega)).1 h)
  have ne72 : a ≠ 72 → ¬ (I a = (72 : Int32)) := fun h3 h => h3 ((I_eq (b := 72) (by omega) (by omega)).1 h)
  have ne73 : a ≠ 73 → ¬ (I a = (73 : Int32)) := fun h3 h => h3 ((I_eq (b := 73) (by omega) (by omega)).1 h)
  have ne74 : a ≠ 74 → ¬ (I a = (74 : Int32)) := fun h3 h => h3 ((I_eq (b := 74) (by omega) (by omega)).1 h)
  unfold fX13_holds lfA
  rw [nm_eq, e1, e2, e3, gM14 hr, ldM66 hS (by omega), gM14 hr, ldM66 hS (by omega), gM14 hr, ldM66 hS (by omega), ha, hb, hc]
  dsimp only
  rw [if_neg (ne1 (by omega)), if_neg (ne2 (by omega)), if_neg (ne3 (by omega))]
  by_cases a70 : a = 70
  · rw [if_pos (by rw [a70]; rfl), ii_t a70, M_isLapsed hS hr, bd0_s, rZ_b2]
  rw [if_neg (ne70 a70), ii_f a70]
  by_cases a71 : a = 71
  · have hle := wl.2.2.2.1 g hg.1 (by omega)
    rw [if_pos (by rw [a71]; rfl), ii_t a71, gM14 hr, show (125 : Int32) = I 125 from rfl, I_add, ldM66 hS (by omega)]
    by_cases h : R 66 (125 + g) = 0
    · rw [if_neg (fun h2 => h2 (by rw [h]; rfl)), b2_t h]; rfl
    · rw [if_pos (show ¬ (I (R 66 (125 + g)) = (0 : Int32)) from fun h2 => h ((I_eq (b := 0) (by omega) (by omega)).1 h2)), b2_f h]; rfl
  rw [if_neg (ne71 a71), ii_f a71]
  by_cases a72 : a = 72
  · have hle := wl.2.2.2.2.1 g hg.1 (by omega)
    rw [if_pos (by rw [a72]; rfl), ii_t a72, gM14 hr, show (129 : Int32) = I 129 from rfl, I_add, ldM66 hS (by omega)]
    by_cases h : R 66 (129 + g) = 1
    · rw [if_neg (fun h2 => h2 (by rw [h]; rfl)), b2_t h]; rfl
    · rw [if_pos (show ¬ (I (R 66 (129 + g)) = (1 : Int32)) from fun h2 => h ((I_eq (b := 1) (by omega) (by omega)).1 h2)), b2_f h]; rfl
  rw [if_neg (ne72 a72), ii_f a72]
  by_cases a73 : a = 73
  · rw [if_pos (by rw [a73]; rfl), ii_t a73, gM14 hr, show (56 : Int32) = I 56 from rfl, I_add, ldM66 hS (by omega), gM14 hr, show (102 : Int32) = I 102 from rfl, ldM66 hS (by omega), M_isAwake hS hr wf wl (by omega) (by omega), bd0_s]
    by_cases h1 : awkA (R 66) (R 66 (56 + g)) (R 66 102)
    · rw [if_neg (by rw [b2_0]; exact fun h => h h1), gM14 hr, show (60 : Int32) = I 60 from rfl, I_add, ldM66 hS (by omega), gM14 hr, ldM66 hS (by omega), M_isAwake hS hr wf wl (by omega) (by omega), bd0_s]
      by_cases h2 : awkA (R 66) (R 66 (60 + g)) (R 66 102)
      · rw [if_neg (by rw [b2_0]; exact fun h => h h2), b2_t ⟨h1, h2⟩]; rfl
      · rw [if_pos (b2_f h2), b2_f (fun h => h2 h.2)]; rfl
    · rw [if_pos (b2_f h1), b2_f (fun h => h1 h.1)]; rfl
  rw [if_neg (ne73 a73), ii_f a73]
  by_cases a74 : a = 74
  · have hb2 := o2 a74
    rw [if_pos (by rw [a74]; rfl), ii_t a74, gM14 hr, show (56 : Int32) = I 56 from rfl, I_add, ldM66 hS (by omega)]
    by_cases h1 : R 66 (56 + g) = b
    · rw [if_pos (by rw [h1]), b2_t (Or.inl h1)]; rfl
    · rw [if_neg (fun h => h1 ((I_eq (by omega) (by omega)).1 h)), gM14 hr, show (60 : Int32) = I 60 from rfl, I_add, ldM66 hS (by omega)]
      by_cases h2 : R 66 (60 + g) = b
      · rw [if_neg (fun h => h (by rw [h2])), b2_t (Or.inr h2)]; rfl
      · rw [if_pos (fun h => h2 ((I_eq (by omega) (by omega)).1 h)), b2_f (fun h => by omega)]; rfl
  rw [if_neg (ne74 a74), ii_f a74, gM14 hr, ldM66 hS (by omega), ha, nm_eq, show (50 : Int32) = I 50 from rfl, I_sub]
  have hd3 := o3 (by omega)
  have m25 : a - 50 ≠ 25 → ¬ (I (a - 50) = (25 : Int32)) := fun h3 h => h3 ((I_eq (b := 25) (by omega) (by omega)).1 h)
  have m26 : a - 50 ≠ 26 → ¬ (I (a - 50) = (26 : Int32)) := fun h3 h => h3 ((I_eq (b := 26) (by omega) (by omega)).1 h)
  have m27 : a - 50 ≠ 27 → ¬ (I (a - 50) = (27 : Int32)) := fun h3 h => h3 ((I_eq (b := 27) (by omega) (by omega)).1 h)
  by_cases a75 : a = 75
  · rw [if_neg (fun h => h (by rw [a75]; rfl)), ii_t a75, gM14 hr, show (125 : Int32) = I 125 from rfl, I_add, ldM66 hS (by omega), M_cmp hS hr (by omega) hd hd3]
  rw [if_pos (m25 (by omega)), ii_f a75]
  by_cases a76 : a = 76
  · rw [if_neg (fun h => h (by rw [a76]; rfl)), ii_t a76, gM14 hr, show (121 : Int32) = I 121 from rfl, I_add, ldM66 hS (by omega), M_cmp hS hr (by omega) hd hd3]
  rw [if_pos (m26 (by omega)), ii_f a76]
  by_cases a77 : a = 77
  · rw [if_neg (fun h => h (by rw [a77]; rfl)), ii_t a77, gM14 hr, show (137 : Int32) = I 137 from rfl, I_add, ldM66 hS (by omega), M_cmp hS hr (by omega) hd hd3]
  rw [if_pos (m27 (by omega)), ii_f a77, M_cmp hS hr (by omega) hd hd3]
