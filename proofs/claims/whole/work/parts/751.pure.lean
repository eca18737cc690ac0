def CPz (Q : Nat → Int → Int) (N : Int → Int) : Prop := (Q 85 6 = N 0 ∧ Q 85 12 = N 1 ∧ Q 98 4 = N 2 ∧ Q 85 16 = N 3 ∧ Q 85 17 = N 4 ∧ Q 85 18 = N 5 ∧ Q 85 19 = N 6 ∧ Q 85 14 = N 7) ∧ (∀ p, 0 ≤ p → p < N 0 → Q 87 p = N (8 + p) ∧ Q 88 p = N (16 + p) ∧ Q 89 p = N (24 + p) ∧ Q 90 p = N (32 + p) ∧ Q 91 p = N (40 + p)) ∧ (∀ g, 0 ≤ g → g < N 1 → Q 93 g = N (56 + g) ∧ Q 94 g = N (60 + g) ∧ Q 95 g = N (64 + g) ∧ Q 96 g = N (68 + g)) ∧ (∀ k, 0 ≤ k → k < N 7 → Q 97 (2 * k) = N (72 + k) ∧ Q 97 (2 * k + 1) = N (78 + k)) ∧ (∀ k, 0 ≤ k → k < N 2 → Q 100 k = N (84 + k) ∧ Q 101 k = N (90 + k) ∧ Q 102 k = N (96 + k))
theorem CPz_of {Q : Nat → Int → Int} {N : Int → Int} (h : CP 85 Q N) : CPz Q N := h
theorem CPz_to {Q : Nat → Int → Int} {N : Int → Int} (h : CPz Q N) : CP 85 Q N := h
theorem CP_u87 {Q : Nat → Int → Int} {N : Int → Int} {z v : Int} (cp : CPz Q N) (b0 : 0 ≤ N 0 ∧ N 0 ≤ 8) (b1 : 0 ≤ N 1 ∧ N 1 ≤ 4) (b2 : 0 ≤ N 2 ∧ N 2 ≤ 6) (b7 : 0 ≤ N 7 ∧ N 7 ≤ 6) (hz : 0 ≤ z ∧ z < 8) : CPz (setR Q 87 (updf (Q 87) z v)) (updf N (8 + z) v) := by
  obtain ⟨⟨c0, c1, c2, c3, c4, c5, c6, c7⟩, cpp, cpg, cpd, cpk⟩ := cp
  have n0 : updf N (8 + z) v 0 = N 0 := updf_ne (by omega)
  have n1 : updf N (8 + z) v 1 = N 1 := updf_ne (by omega)
  have n2 : updf N (8 + z) v 2 = N 2 := updf_ne (by omega)
  have n7 : updf N (8 + z) v 7 = N 7 := updf_ne (by omega)
  refine ⟨⟨?_, ?_, ?_, ?_, ?_, ?_, ?_, ?_⟩, fun p g1 g2 => ?_, fun p g1 g2 => ?_, fun p g1 g2 => ?_, fun p g1 g2 => ?_⟩
  · rw [setR_ne (by omega), updf_ne (by omega)]; exact c0
  · rw [setR_ne (by omega), updf_ne (by omega)]; exact c1
  · rw [setR_ne (by omega), updf_ne (by omega)]; exact c2
  · rw [setR_ne (by omega), updf_ne (by omega)]; exact c3
  · rw [setR_ne (by omega), updf_ne (by omega)]; exact c4
  · rw [setR_ne (by omega), updf_ne (by omega)]; exact c5
  · rw [setR_ne (by omega), updf_ne (by omega)]; exact c6
  · rw [setR_ne (by omega), updf_ne (by omega)]; exact c7
  · rw [n0] at g2
    obtain ⟨e0, e1, e2, e3, e4⟩ := cpp p g1 g2
    refine ⟨?_, ?_, ?_, ?_, ?_⟩
    · by_cases hq : p = z
      · rw [setR_same, updf_same hq, updf_same (by omega)]
      · rw [setR_same, updf_ne hq, updf_ne (by omega)]; exact e0
    · rw [setR_ne (by omega), updf_ne (by omega)]; exact e1
    · rw [setR_ne (by omega), updf_ne (by omega)]; exact e2
    · rw [setR_ne (by omega), updf_ne (by omega)]; exact e3
    · rw [setR_ne (by omega), updf_ne (by omega)]; exact e4
  · rw [n1] at g2
    obtain ⟨e0, e1, e2, e3⟩ := cpg p g1 g2
    refine ⟨?_, ?_, ?_, ?_⟩
    · rw [setR_ne (by omega), updf_ne (by omega)]; exact e0
    · rw [setR_ne (by omega), updf_ne (by omega)]; exact e1
    · rw [setR_ne (by omega), updf_ne (by omega)]; exact e2
    · rw [setR_ne (by omega), updf_ne (by omega)]; exact e3
  · rw [n7] at g2
    obtain ⟨e0, e1⟩ := cpd p g1 g2
    refine ⟨?_, ?_⟩
    · rw [setR_ne (by omega), updf_ne (by omega)]; exact e0
    · rw [setR_ne (by omega), updf_ne (by omega)]; exact e1
  · rw [n2] at g2
    obtain ⟨e0, e1, e2⟩ := cpk p g1 g2
    refine ⟨?_, ?_, ?_⟩
    · rw [setR_ne (by omega), updf_ne (by omega)]; exact e0
    · rw [setR_ne (by omega), updf_ne (by omega)]; exact e1
    · rw [setR_ne (by omega), updf_ne (by omega)]; exact e2
theorem CP_u88 {Q : Nat → Int → Int} {N : Int → Int} {z v : Int} (cp : CPz Q N) (b0 : 0 ≤ N 0 ∧ N 0 ≤ 8) (b1 : 0 ≤ N 1 ∧ N 1 ≤ 4) (b2 : 0 ≤ N 2 ∧ N 2 ≤ 6) (b7 : 0 ≤ N 7 ∧ N 7 ≤ 6) (hz : 0 ≤ z ∧ z < 8) : CPz (setR Q 88 (updf (Q 88) z v)) (updf N (16 + z) v) := by
  obtain ⟨⟨c0, c1, c2, c3, c4, c5, c6, c7⟩, cpp, cpg, cpd, cpk⟩ := cp
  have n0 : updf N (16 + z) v 0 = N 0 := updf_ne (by omega)
  have n1 : updf N (16 + z) v 1 = N 1 := updf_ne (by omega)
  have n2 : updf N (16 + z) v 2 = N 2 := updf_ne (by omega)
  have n7 : updf N (16 + z) v 7 = N 7 := updf_ne (by omega)
  refine ⟨⟨?_, ?_, ?_, ?_, ?_, ?_, ?_, ?_⟩, fun p g1 g2 => ?_, fun p g1 g2 => ?_, fun p g1 g2 => ?_, fun p g1 g2 => ?_⟩
  · rw [setR_ne (by omega), updf_ne (by omega)]; exact c0
  · rw [setR_ne (by omega), updf_ne (by omega)]; exact c1
  · rw [setR_ne (by omega), updf_ne (by omega)]; exact c2
  · rw [setR_ne (by omega), updf_ne (by omega)]; exact c3
  · rw [setR_ne (by omega), updf_ne (by omega)]; exact c4
  · rw [setR_ne (by omega), updf_ne (by omega)]; exact c5
  · rw [setR_ne (by omega), updf_ne (by omega)]; exact c6
  · rw [setR_ne (by omega), updf_ne (by omega)]; exact c7
  · rw [n0] at g2
    obtain ⟨e0, e1, e2, e3, e4⟩ := cpp p g1 g2
    refine ⟨?_, ?_, ?_, ?_, ?_⟩
    · rw [setR_ne (by omega), updf_ne (by omega)]; exact e0
    · by_cases hq : p = z
      · rw [setR_same, updf_same hq, updf_same (by omega)]
      · rw [setR_same, updf_ne hq, updf_ne (by omega)]; exact e1
    · rw [setR_ne (by omega), updf_ne (by omega)]; exact e2
    · rw [setR_ne (by omega), updf_ne (by omega)]; exact e3
    · rw [setR_ne (by omega), updf_ne (by omega)]; exact e4
  · rw [n1] at g2
    obtain ⟨e0, e1, e2, e3⟩ := cpg p g1 g2
    refine ⟨?_, ?_, ?_, ?_⟩
    · rw [setR_ne (by omega), updf_ne (by omega)]; exact e0
    · rw [setR_ne (by omega), updf_ne (by omega)]; exact e1
    · rw [setR_ne (by omega), updf_ne (by omega)]; exact e2
    · rw [setR_ne (by omega), updf_ne (by omega)]; exact e3
  · rw [n7] at g2
    obtain ⟨e0, e1⟩ := cpd p g1 g2
    refine ⟨?_, ?_⟩
    · rw [setR_ne (by omega), updf_ne (by omega)]; exact e0
    · rw [setR_ne (by omega), updf_ne (by omega)]; exact e1
  · rw [n2] at g2
    obtain ⟨e0, e1, e2⟩ := cpk p g1 g2
    refine ⟨?_, ?_, ?_⟩
    · rw [setR_ne (by omega), updf_ne (by omega)]; exact e0
    · rw [setR_ne (by omega), updf_ne (by omega)]; exact e1
    · rw [setR_ne (by omega), updf_ne (by omega)]; exact e2
theorem CP_u89 {Q : Nat → Int → Int} {N : Int → Int} {z v : Int} (cp : CPz Q N) (b0 : 0 ≤ N 0 ∧ N 0 ≤ 8) (b1 : 0 ≤ N 1 ∧ N 1 ≤ 4) (b2 : 0 ≤ N 2 ∧ N 2 ≤ 6) (b7 : 0 ≤ N 7 ∧ N 7 ≤ 6) (hz : 0 ≤ z ∧ z < 8) : CPz (setR Q 89 (updf (Q 89) z v)) (updf N (24 + z) v) := by
  obtain ⟨⟨c0, c1, c2, c3, c4, c5, c6, c7⟩, cpp, cpg, cpd, cpk⟩ := cp
  have n0 : updf N (24 + z) v 0 = N 0 := updf_ne (by omega)
  have n1 : updf N (24 + z) v 1 = N 1 := updf_ne (by omega)
  have n2 : updf N (24 + z) v 2 = N 2 := updf_ne (by omega)
  have n7 : updf N (24 + z) v 7 = N 7 := updf_ne (by omega)
  refine ⟨⟨?_, ?_, ?_, ?_, ?_, ?_, ?_, ?_⟩, fun p g1 g2 => ?_, fun p g1 g2 => ?_, fun p g1 g2 => ?_, fun p g1 g2 => ?_⟩
  · rw [setR_ne (by omega), updf_ne (by omega)]; exact c0
  · rw [setR_ne (by omega), updf_ne (by omega)]; exact c1
  · rw [setR_ne (by omega), updf_ne (by omega)]; exact c2
  · rw [setR_ne (by omega), updf_ne (by omega)]; exact c3
  · rw [setR_ne (by omega), updf_ne (by omega)]; exact c4
  · rw [setR_ne (by omega), updf_ne (by omega)]; exact c5
  · rw [setR_ne (by omega), updf_ne (by omega)]; exact c6
  · rw [setR_ne (by omega), updf_ne (by omega)]; exact c7
  · rw [n0] at g2
    obtain ⟨e0, e1, e2, e3, e4⟩ := cpp p g1 g2
    refine ⟨?_, ?_, ?_, ?_, ?_⟩
    · rw [setR_ne (by omega), updf_ne (by omega)]; exact e0
    · rw [setR_ne (by omega), updf_ne (by omega)]; exact e1
    · by_cases hq : p = z
      · rw [setR_same, updf_same hq, updf_same (by omega)]
      · rw [setR_same, updf_ne hq, updf_ne (by omega)]; exact e2
    · rw [setR_ne (by omega), updf_ne (by omega)]; exact e3
    · rw [setR_ne (by omega), updf_ne (by omega)]; exact e4
  · rw [n1] at g2
    obtain ⟨e0, e1, e2, e3⟩ := cpg p g1 g2
    refine ⟨?_, ?_, ?_, ?_⟩
    · rw [setR_ne (by omega), updf_ne (by omega)]; exact e0
    · rw [setR_ne (by omega), updf_ne (by omega)]; exact e1
    · rw [setR_ne (by omega), updf_ne (by omega)]; exact e2
    · rw [setR_ne (by omega), updf_ne (by omega)]; exact e3
  · rw [n7] at g2
    obtain ⟨e0, e1⟩ := cpd p g1 g2
    refine ⟨?_, ?_⟩
    · rw [setR_ne (by omega), updf_ne (by omega)]; exact e0
    · rw [setR_ne (by omega), updf_ne (by omega)]; exact e1
  · rw [n2] at g2
    obtain ⟨e0, e1, e2⟩ := cpk p g1 g2
    refine ⟨?_, ?_, ?_⟩
    · rw [setR_ne (by omega), updf_ne (by omega)]; exact e0
    · rw [setR_ne (by omega), updf_ne (by omega)]; exact e1
    · rw [setR_ne (by omega), updf_ne (by omega)]; exact e2
theorem CP_u90 {Q : Nat → Int → Int} {N : Int → Int} {z v : Int} (cp : CPz Q N) (b0 : 0 ≤ N 0 ∧ N 0 ≤ 8) (b1 : 0 ≤ N 1 ∧ N 1 ≤ 4) (b2 : 0 ≤ N 2 ∧ N 2 ≤ 6) (b7 : 0 ≤ N 7 ∧ N 7 ≤ 6) (hz : 0 ≤ z ∧ z < 8) : CPz (setR Q 90 (updf (Q 90) z v)) (updf N (32 + z) v) := by
  obtain ⟨⟨c0, c1, c2, c3, c4, c5, c6, c7⟩, cpp, cpg, cpd, cpk⟩ := cp
  have n0 : updf N (32 + z) v 0 = N 0 := updf_ne (by omega)
  have n1 : updf N (32 + z) v 1 = N 1 := updf_ne (by omega)
  have n2 : updf N (32 + z) v 2 = N 2 := updf_ne (by omega)
  have n7 : updf N (32 + z) v 7 = N 7 := updf_ne (by omega)
  refine ⟨⟨?_, ?_, ?_, ?_, ?_, ?_, ?_, ?_⟩, fun p g1 g2 => ?_, fun p g1 g2 => ?_, fun p g1 g2 => ?_, fun p g1 g2 => ?_⟩
  · rw [setR_ne (by omega), updf_ne (by omega)]; exact c0
  · rw [setR_ne (by omega), updf_ne (by omega)]; exact c1
  · rw [setR_ne (by omega), updf_ne (by omega)]; exact c2
  · rw [setR_ne (by omega), updf_ne (by omega)]; exact c3
  · rw [setR_ne (by omega), updf_ne (by omega)]; exact c4
  · rw [setR_ne (by omega), updf_ne (by omega)]; exact c5
  · rw [setR_ne (by omega), updf_ne (by omega)]; exact c6
  · rw [setR_ne (by omega), updf_ne (by omega)]; exact c7
  · rw [n0] at g2
    obtain ⟨e0, e1, e2, e3, e4⟩ := cpp p g1 g2
    refine ⟨?_, ?_, ?_, ?_, ?_⟩
    · rw [setR_ne (by omega), updf_ne (by omega)]; exact e0
    · rw [setR_ne (by omega), updf_ne (by omega)]; exact e1
    · rw [setR_ne (by omega), updf_ne (by omega)]; exact e2
    · by_cases hq : p = z
      · rw [setR_same, updf_same hq, updf_same (by omega)]
      · rw [setR_same, updf_ne hq, updf_ne (by omega)]; exact e3
    · rw [setR_ne (by omega), updf_ne (by omega)]; exact e4
  · rw [n1] at g2
    obtain ⟨e0, e1, e2, e3⟩ := cpg p g1 g2
    refine ⟨?_, ?_, ?_, ?_⟩
    · rw [setR_ne (by omega), updf_ne (by omega)]; exact e0
    · rw [setR_ne (by omega), updf_ne (by omega)]; exact e1
    · rw [setR_ne (by omega), updf_ne (by omega)]; exact e2
    · rw [setR_ne (by omega), updf_ne (by omega)]; exact e3
  · rw [n7] at g2
    obtain ⟨e0, e1⟩ := cpd p g1 g2
    refine ⟨?_, ?_⟩
    · rw [setR_ne (by omega), updf_ne (by omega)]; exact e0
    · rw [setR_ne (by omega), updf_ne (by omega)]; exact e1
  · rw [n2] at g2
    obtain ⟨e0, e1, e2⟩ := cpk p g1 g2
    refine ⟨?_, ?_, ?_⟩
    · rw [setR_ne (by omega), updf_ne (by omega)]; exact e0
    · rw [setR_ne (by omega), updf_ne (by omega)]; exact e1
    · rw [setR_ne (by omega), updf_ne (by omega)]; exact e2
theorem CP_u91 {Q : Nat → Int → Int} {N : Int → Int} {z v : Int} (cp : CPz Q N) (b0 : 0 ≤ N 0 ∧ N 0 ≤ 8) (b1 : 0 ≤ N 1 ∧ N 1 ≤ 4) (b2 : 0 ≤ N 2 ∧ N 2 ≤ 6) (b7 : 0 ≤ N 7 ∧ N 7 ≤ 6) (hz : 0 ≤ z ∧ z < 8) : CPz (setR Q 91 (updf (Q 91) z v)) (updf N (40 + z) v) := by
  obtain ⟨⟨c0, c1, c2, c3, c4, c5, c6, c7⟩, cpp, cpg, cpd, cpk⟩ := cp
  have n0 : updf N (40 + z) v 0 = N 0 := updf_ne (by omega)
  have n1 : updf N (40 + z) v 1 = N 1 := updf_ne (by omega)
  have n2 : updf N (40 + z) v 2 = N 2 := updf_ne (by omega)
  have n7 : updf N (40 + z) v 7 = N 7 := updf_ne (by omega)
  refine ⟨⟨?_, ?_, ?_, ?_, ?_, ?_, ?_, ?_⟩, fun p g1 g2 => ?_, fun p g1 g2 => ?_, fun p g1 g2 => ?_, fun p g1 g2 => ?_⟩
  · rw [setR_ne (by omega), updf_ne (by omega)]; exact c0
  · rw [setR_ne (by omega), updf_ne (by omega)]; exact c1
  · rw [setR_ne (by omega), updf_ne (by omega)]; exact c2
  · rw [setR_ne (by omega), updf_ne (by omega)]; exact c3
  · rw [setR_ne (by omega), updf_ne (by omega)]; exact c4
  · rw [setR_ne (by omega), updf_ne (by omega)]; exact c5
  · rw [setR_ne (by omega), updf_ne (by omega)]; exact c6
  · rw [setR_ne (by omega), updf_ne (by omega)]; exact c7
  · rw [n0] at g2
    obtain ⟨e0, e1, e2, e3, e4⟩ := cpp p g1 g2
    refine ⟨?_, ?_, ?_, ?_, ?_⟩
    · rw [setR_ne (by omega), updf_ne (by omega)]; exact e0
    · rw [setR_ne (by omega), updf_ne (by omega)]; exact e1
    · rw [setR_ne (by omega), updf_ne (by omega)]; exact e2
    · rw [setR_ne (by omega), updf_ne (by omega)]; exact e3
    · by_cases hq : p = z
      · rw [setR_same, updf_same hq, updf_same (by omega)]
      · rw [setR_same, updf_ne hq, updf_ne (by omega)]; exact e4
  · rw [n1] at g2
    obtain ⟨e0, e1, e2, e3⟩ := cpg p g1 g2
    refine ⟨?_, ?_, ?_, ?_⟩
    · rw [setR_ne (by omega), updf_ne (by omega)]; exact e0
    · rw [setR_ne (by omega), updf_ne (by omega)]; exact e1
    · rw [setR_ne (by omega), updf_ne (by omega)]; exact e2
    · rw [setR_ne (by omega), updf_ne (by omega)]; exact e3
  · rw [n7] at g2
    obtain ⟨e0, e1⟩ := cpd p g1 g2
    refine ⟨?_, ?_⟩
    · rw [setR_ne (by omega), updf_ne (by omega)]; exact e0
    · rw [setR_ne (by omega), updf_ne (by omega)]; exact e1
  · rw [n2] at g2
    obtain ⟨e0, e1, e2⟩ := cpk p g1 g2
    refine ⟨?_, ?_, ?_⟩
    · rw [setR_ne (by omega), updf_ne (by omega)]; exact e0
    · rw [setR_ne (by omega), updf_ne (by omega)]; exact e1
    · rw [setR_ne (by omega), updf_ne (by omega)]; exact e2
theorem CP_u93 {Q : Nat → Int → Int} {N : Int → Int} {z v : Int} (cp : CPz Q N) (b0 : 0 ≤ N 0 ∧ N 0 ≤ 8) (b1 : 0 ≤ N 1 ∧ N 1 ≤ 4) (b2 : 0 ≤ N 2 ∧ N 2 ≤ 6) (b7 : 0 ≤ N 7 ∧ N 7 ≤ 6) (hz : 0 ≤ z ∧ z < 4) : CPz (setR Q 93 (updf (Q 93) z v)) (updf N (56 + z) v) := by
  obtain ⟨⟨c0, c1, c2, c3, c4, c5, c6, c7⟩, cpp, cpg, cpd, cpk⟩ := cp
  have n0 : updf N (56 + z) v 0 = N 0 := updf_ne (by omega)
  have n1 : updf N (56 + z) v 1 = N 1 := updf_ne (by omega)
  have n2 : updf N (56 + z) v 2 = N 2 := updf_ne (by omega)
  have n7 : updf N (56 + z) v 7 = N 7 := updf_ne (by omega)
  refine ⟨⟨?_, ?_, ?_, ?_, ?_, ?_, ?_, ?_⟩, fun p g1 g2 => ?_, fun p g1 g2 => ?_, fun p g1 g2 => ?_, fun p g1 g2 => ?_⟩
  · rw [setR_ne (by omega), updf_ne (by omega)]; exact c0
  · rw [setR_ne (by omega), updf_ne (by omega)]; exact c1
  · rw [setR_ne (by omega), updf_ne (by omega)]; exact c2
  · rw [setR_ne (by omega), updf_ne (by omega)]; exact c3
  · rw [setR_ne (by omega), updf_ne (by omega)]; exact c4
  · rw [setR_ne (by omega), updf_ne (by omega)]; exact c5
  · rw [setR_ne (by omega), updf_ne (by omega)]; exact c6
  · rw [setR_ne (by omega), updf_ne (by omega)]; exact c7
  · rw [n0] at g2
    obtain ⟨e0, e1, e2, e3, e4⟩ := cpp p g1 g2
    refine ⟨?_, ?_, ?_, ?_, ?_⟩
    · rw [setR_ne (by omega), updf_ne (by omega)]; exact e0
    · rw [setR_ne (by omega), updf_ne (by omega)]; exact e1
    · rw [setR_ne (by omega), updf_ne (by omega)]; exact e2
    · rw [setR_ne (by omega), updf_ne (by omega)]; exact e3
    · rw [setR_ne (by omega), updf_ne (by omega)]; exact e4
  · rw [n1] at g2
    obtain ⟨e0, e1, e2, e3⟩ := cpg p g1 g2
    refine ⟨?_, ?_, ?_, ?_⟩
    · by_cases hq : p = z
      · rw [setR_same, updf_same hq, updf_same (by omega)]
      · rw [setR_same, updf_ne hq, updf_ne (by omega)]; exact e0
    · rw [setR_ne (by omega), updf_ne (by omega)]; exact e1
    · rw [setR_ne (by omega), updf_ne (by omega)]; exact e2
    · rw [setR_ne (by omega), updf_ne (by omega)]; exact e3
  · rw [n7] at g2
    obtain ⟨e0, e1⟩ := cpd p g1 g2
    refine ⟨?_, ?_⟩
    · rw [setR_ne (by omega), updf_ne (by omega)]; exact e0
    · rw [setR_ne (by omega), updf_ne (by omega)]; exact e1
  · rw [n2] at g2
    obtain ⟨e0, e1, e2⟩ := cpk p g1 g2
    refine ⟨?_, ?_, ?_⟩
    · rw [setR_ne (by omega), updf_ne (by omega)]; exact e0
    · rw [setR_ne (by omega), updf_ne (by omega)]; exact e1
    · rw [setR_ne (by omega), updf_ne (by omega)]; exact e2
theorem CP_u94 {Q : Nat → Int → Int} {N : Int → Int} {z v : Int} (cp : CPz Q N) (b0 : 0 ≤ N 0 ∧ N 0 ≤ 8) (b1 : 0 ≤ N 1 ∧ N 1 ≤ 4) (b2 : 0 ≤ N 2 ∧ N 2 ≤ 6) (b7 : 0 ≤ N 7 ∧ N 7 ≤ 6) (hz : 0 ≤ z ∧ z < 4) : CPz (setR Q 94 (updf (Q 94) z v)) (updf N (60 + z) v) := by
  obtain ⟨⟨c0, c1, c2, c3, c4, c5, c6, c7⟩, cpp, cpg, cpd, cpk⟩ := cp
  have n0 : updf N (60 + z) v 0 = N 0 := updf_ne (by omega)
  have n1 : updf N (60 + z) v 1 = N 1 := updf_ne (by omega)
  have n2 : updf N (60 + z) v 2 = N 2 := updf_ne (by omega)
  have n7 : updf N (60 + z) v 7 = N 7 := updf_ne (by omega)
  refine ⟨⟨?_, ?_, ?_, ?_, ?_, ?_, ?_, ?_⟩, fun p g1 g2 => ?_, fun p g1 g2 => ?_, fun p g1 g2 => ?_, fun p g1 g2 => ?_⟩
  · rw [setR_ne (by omega), updf_ne (by omega)]; exact c0
  · rw [setR_ne (by omega), updf_ne (by omega)]; exact c1
  · rw [setR_ne (by omega), updf_ne (by omega)]; exact c2
  · rw [setR_ne (by omega), updf_ne (by omega)]; exact c3
  · rw [setR_ne (by omega), updf_ne (by omega)]; exact c4
  · rw [setR_ne (by omega), updf_ne (by omega)]; exact c5
  · rw [setR_ne (by omega), updf_ne (by omega)]; exact c6
  · rw [setR_ne (by omega), updf_ne (by omega)]; exact c7
  · rw [n0] at g2
    obtain ⟨e0, e1, e2, e3, e4⟩ := cpp p g1 g2
    refine ⟨?_, ?_, ?_, ?_, ?_⟩
    · rw [setR_ne (by omega), updf_ne (by omega)]; exact e0
    · rw [setR_ne (by omega), updf_ne (by omega)]; exact e1
    · rw [setR_ne (by omega), updf_ne (by omega)]; exact e2
    · rw [setR_ne (by omega), updf_ne (by omega)]; exact e3
    · rw [setR_ne (by omega), updf_ne (by omega)]; exact e4
  · rw [n1] at g2
    obtain ⟨e0, e1, e2, e3⟩ := cpg p g1 g2
    refine ⟨?_, ?_, ?_, ?_⟩
    · rw [setR_ne (by omega), updf_ne (by omega)]; exact e0
    · by_cases hq : p = z
      · rw [setR_same, updf_same hq, updf_same (by omega)]
      · rw [setR_same, updf_ne hq, updf_ne (by omega)]; exact e1
    · rw [setR_ne (by omega), updf_ne (by omega)]; exact e2
    · rw [setR_ne (by omega), updf_ne (by omega)]; exact e3
  · rw [n7] at g2
    obtain ⟨e0, e1⟩ := cpd p g1 g2
    refine ⟨?_, ?_⟩
    · rw [setR_ne (by omega), updf_ne (by omega)]; exact e0
    · rw [setR_ne (by omega), updf_ne (by omega)]; exact e1
  · rw [n2] at g2
    obtain ⟨e0, e1, e2⟩ := cpk p g1 g2
    refine ⟨?_, ?_, ?_⟩
    · rw [setR_ne (by omega), updf_ne (by omega)]; exact e0
    · rw [setR_ne (by omega), updf_ne (by omega)]; exact e1
    · rw [setR_ne (by omega), updf_ne (by omega)]; exact e2
theorem CP_u95 {Q : Nat → Int → Int} {N : Int → Int} {z v : Int} (cp : CPz Q N) (b0 : 0 ≤ N 0 ∧ N 0 ≤ 8) (b1 : 0 ≤ N 1 ∧ N 1 ≤ 4) (b2 : 0 ≤ N 2 ∧ N 2 ≤ 6) (b7 : 0 ≤ N 7 ∧ N 7 ≤ 6) (hz : 0 ≤ z ∧ z < 4) : CPz (setR Q 95 (updf (Q 95) z v)) (updf N (64 + z) v) := by
  obtain ⟨⟨c0, c1, c2, c3, c4, c5, c6, c7⟩, cpp, cpg, cpd, cpk⟩ := cp
  have n0 : updf N (64 + z) v 0 = N 0 := updf_ne (by omega)
  have n1 : updf N (64 + z) v 1 = N 1 := updf_ne (by omega)
  have n2 : updf N (64 + z) v 2 = N 2 := updf_ne (by omega)
  have n7 : updf N (64 + z) v 7 = N 7 := updf_ne (by omega)
  refine ⟨⟨?_, ?_, ?_, ?_, ?_, ?_, ?_, ?_⟩, fun p g1 g2 => ?_, fun p g1 g2 => ?_, fun p g1 g2 => ?_, fun p g1 g2 => ?_⟩
  · rw [setR_ne (by omega), updf_ne (by omega)]; exact c0
  · rw [setR_ne (by omega), updf_ne (by omega)]; exact c1
  · rw [setR_ne (by omega), updf_ne (by omega)]; exact c2
  · rw [setR_ne (by omega), updf_ne (by omega)]; exact c3
  · rw [setR_ne (by omega), updf_ne (by omega)]; exact c4
  · rw [setR_ne (by omega), updf_ne (by omega)]; exact c5
  · rw [setR_ne (by omega), updf_ne (by omega)]; exact c6
  · rw [setR_ne (by omega), updf_ne (by omega)]; exact c7
  · rw [n0] at g2
    obtain ⟨e0, e1, e2, e3, e4⟩ := cpp p g1 g2
    refine ⟨?_, ?_, ?_, ?_, ?_⟩
    · rw [setR_ne (by omega), updf_ne (by omega)]; exact e0
    · rw [setR_ne (by omega), updf_ne (by omega)]; exact e1
    · rw [setR_ne (by omega), updf_ne (by omega)]; exact e2
    · rw [setR_ne (by omega), updf_ne (by omega)]; exact e3
    · rw [setR_ne (by omega), updf_ne (by omega)]; exact e4
  · rw [n1] at g2
    obtain ⟨e0, e1, e2, e3⟩ := cpg p g1 g2
    refine ⟨?_, ?_, ?_, ?_⟩
    · rw [setR_ne (by omega), updf_ne (by omega)]; exact e0
    · rw [setR_ne (by omega), updf_ne (by omega)]; exact e1
    · by_cases hq : p = z
      · rw [setR_same, updf_same hq, updf_same (by omega)]
      · rw [setR_same, updf_ne hq, updf_ne (by omega)]; exact e2
    · rw [setR_ne (by omega), updf_ne (by omega)]; exact e3
  · rw [n7] at g2
    obtain ⟨e0, e1⟩ := cpd p g1 g2
    refine ⟨?_, ?_⟩
    · rw [setR_ne (by omega), updf_ne (by omega)]; exact e0
    · rw [setR_ne (by omega), updf_ne (by omega)]; exact e1
  · rw [n2] at g2
    obtain ⟨e0, e1, e2⟩ := cpk p g1 g2
    refine ⟨?_, ?_, ?_⟩
    · rw [setR_ne (by omega), updf_ne (by omega)]; exact e0
    · rw [setR_ne (by omega), updf_ne (by omega)]; exact e1
    · rw [setR_ne (by omega), updf_ne (by omega)]; exact e2
theorem CP_u96 {Q : Nat → Int → Int} {N : Int → Int} {z v : Int} (cp : CPz Q N) (b0 : 0 ≤ N 0 ∧ N 0 ≤ 8) (b1 : 0 ≤ N 1 ∧ N 1 ≤ 4) (b2 : 0 ≤ N 2 ∧ N 2 ≤ 6) (b7 : 0 ≤ N 7 ∧ N 7 ≤ 6) (hz : 0 ≤ z ∧ z < 4) : CPz (setR Q 96 (updf (Q 96) z v)) (updf N (68 + z) v) := by
  obtain ⟨⟨c0, c1, c2, c3, c4, c5, c6, c7⟩, cpp, cpg, cpd, cpk⟩ := cp
  have n0 : updf N (68 + z) v 0 = N 0 := updf_ne (by omega)
  have n1 : updf N (68 + z) v 1 = N 1 := updf_ne (by omega)
  have n2 : updf N (68 + z) v 2 = N 2 := updf_ne (by omega)
  have n7 : updf N (68 + z) v 7 = N 7 := updf_ne (by omega)
  refine ⟨⟨?_, ?_, ?_, ?_, ?_, ?_, ?_, ?_⟩, fun p g1 g2 => ?_, fun p g1 g2 => ?_, fun p g1 g2 => ?_, fun p g1 g2 => ?_⟩
  · rw [setR_ne (by omega), updf_ne (by omega)]; exact c0
  · rw [setR_ne (by omega), updf_ne (by omega)]; exact c1
  · rw [setR_ne (by omega), updf_ne (by omega)]; exact c2
  · rw [setR_ne (by omega), updf_ne (by omega)]; exact c3
  · rw [setR_ne (by omega), updf_ne (by omega)]; exact c4
  · rw [setR_ne (by omega), updf_ne (by omega)]; exact c5
  · rw [setR_ne (by omega), updf_ne (by omega)]; exact c6
  · rw [setR_ne (by omega), updf_ne (by omega)]; exact c7
  · rw [n0] at g2
    obtain ⟨e0, e1, e2, e3, e4⟩ := cpp p g1 g2
    refine ⟨?_, ?_, ?_, ?_, ?_⟩
    · rw [setR_ne (by omega), updf_ne (by omega)]; exact e0
    · rw [setR_ne (by omega), updf_ne (by omega)]; exact e1
    · rw [setR_ne (by omega), updf_ne (by omega)]; exact e2
    · rw [setR_ne (by omega), updf_ne (by omega)]; exact e3
    · rw [setR_ne (by omega), updf_ne (by omega)]; exact e4
  · rw [n1] at g2
    obtain ⟨e0, e1, e2, e3⟩ := cpg p g1 g2
    refine ⟨?_, ?_, ?_, ?_⟩
    · rw [setR_ne (by omega), updf_ne (by omega)]; exact e0
    · rw [setR_ne (by omega), updf_ne (by omega)]; exact e1
    · rw [setR_ne (by omega), updf_ne (by omega)]; exact e2
    · by_cases hq : p = z
      · rw [setR_same, updf_same hq, updf_same (by omega)]
      · rw [setR_same, updf_ne hq, updf_ne (by omega)]; exact e3
  · rw [n7] at g2
    obtain ⟨e0, e1⟩ := cpd p g1 g2
    refine ⟨?_, ?_⟩
    · rw [setR_ne (by omega), updf_ne (by omega)]; exact e0
    · rw [setR_ne (by omega), updf_ne (by omega)]; exact e1
  · rw [n2] at g2
    obtain ⟨e0, e1, e2⟩ := cpk p g1 g2
    refine ⟨?_, ?_, ?_⟩
    · rw [setR_ne (by omega), updf_ne (by omega)]; exact e0
    · rw [setR_ne (by omega), updf_ne (by omega)]; exact e1
    · rw [setR_ne (by omega), updf_ne (by omega)]; exact e2
theorem CP_u100 {Q : Nat → Int → Int} {N : Int → Int} {z v : Int} (cp : CPz Q N) (b0 : 0 ≤ N 0 ∧ N 0 ≤ 8) (b1 : 0 ≤ N 1 ∧ N 1 ≤ 4) (b2 : 0 ≤ N 2 ∧ N 2 ≤ 6) (b7 : 0 ≤ N 7 ∧ N 7 ≤ 6) (hz : 0 ≤ z ∧ z < 6) : CPz (setR Q 100 (updf (Q 100) z v)) (updf N (84 + z) v) := by
  obtain ⟨⟨c0, c1, c2, c3, c4, c5, c6, c7⟩, cpp, cpg, cpd, cpk⟩ := cp
  have n0 : updf N (84 + z) v 0 = N 0 := updf_ne (by omega)
  have n1 : updf N (84 + z) v 1 = N 1 := updf_ne (by omega)
  have n2 : updf N (84 + z) v 2 = N 2 := updf_ne (by omega)
  have n7 : updf N (84 + z) v 7 = N 7 := updf_ne (by omega)
  refine ⟨⟨?_, ?_, ?_, ?_, ?_, ?_, ?_, ?_⟩, fun p g1 g2 => ?_, fun p g1 g2 => ?_, fun p g1 g2 => ?_, fun p g1 g2 => ?_⟩
  · rw [setR_ne (by omega), updf_ne (by omega)]; exact c0
  · rw [setR_ne (by omega), updf_ne (by omega)]; exact c1
  · rw [setR_ne (by omega), updf_ne (by omega)]; exact c2
  · rw [setR_ne (by omega), updf_ne (by omega)]; exact c3
  · rw [setR_ne (by omega), updf_ne (by omega)]; exact c4
  · rw [setR_ne (by omega), updf_ne (by omega)]; exact c5
  · rw [setR_ne (by omega), updf_ne (by omega)]; exact c6
  · rw [setR_ne (by omega), updf_ne (by omega)]; exact c7
  · rw [n0] at g2
    obtain ⟨e0, e1, e2, e3, e4⟩ := cpp p g1 g2
    refine ⟨?_, ?_, ?_, ?_, ?_⟩
    · rw [setR_ne (by omega), updf_ne (by omega)]; exact e0
    · rw [setR_ne (by omega), updf_ne (by omega)]; exact e1
    · rw [setR_ne (by omega), updf_ne (by omega)]; exact e2
    · rw [setR_ne (by omega), updf_ne (by omega)]; exact e3
    · rw [setR_ne (by omega), updf_ne (by omega)]; exact e4
  · rw [n1] at g2
    obtain ⟨e0, e1, e2, e3⟩ := cpg p g1 g2
    refine ⟨?_, ?_, ?_, ?_⟩
    · rw [setR_ne (by omega), updf_ne (by omega)]; exact e0
    · rw [setR_ne (by omega), updf_ne (by omega)]; exact e1
    · rw [setR_ne (by omega), updf_ne (by omega)]; exact e2
    · rw [setR_ne (by omega), updf_ne (by omega)]; exact e3
  · rw [n7] at g2
    obtain ⟨e0, e1⟩ := cpd p g1 g2
    refine ⟨?_, ?_⟩
    · rw [setR_ne (by omega), updf_ne (by omega)]; exact e0
    · rw [setR_ne (by omega), updf_ne (by omega)]; exact e1
  · rw [n2] at g2
    obtain ⟨e0, e1, e2⟩ := cpk p g1 g2
    refine ⟨?_, ?_, ?_⟩
    · by_cases hq : p = z
      · rw [setR_same, updf_same hq, updf_same (by omega)]
      · rw [setR_same, updf_ne hq, updf_ne (by omega)]; exact e0
    · rw [setR_ne (by omega), updf_ne (by omega)]; exact e1
    · rw [setR_ne (by omega), updf_ne (by omega)]; exact e2
theorem CP_u101 {Q : Nat → Int → Int} {N : Int → Int} {z v : Int} (cp : CPz Q N) (b0 : 0 ≤ N 0 ∧ N 0 ≤ 8) (b1 : 0 ≤ N 1 ∧ N 1 ≤ 4) (b2 : 0 ≤ N 2 ∧ N 2 ≤ 6) (b7 : 0 ≤ N 7 ∧ N 7 ≤ 6) (hz : 0 ≤ z ∧ z < 6) : CPz (setR Q 101 (updf (Q 101) z v)) (updf N (90 + z) v) := by
  obtain ⟨⟨c0, c1, c2, c3, c4, c5, c6, c7⟩, cpp, cpg, cpd, cpk⟩ := cp
  have n0 : updf N (90 + z) v 0 = N 0 := updf_ne (by omega)
  have n1 : updf N (90 + z) v 1 = N 1 := updf_ne (by omega)
  have n2 : updf N (90 + z) v 2 = N 2 := updf_ne (by omega)
  have n7 : updf N (90 + z) v 7 = N 7 := updf_ne (by omega)
  refine ⟨⟨?_, ?_, ?_, ?_, ?_, ?_, ?_, ?_⟩, fun p g1 g2 => ?_, fun p g1 g2 => ?_, fun p g1 g2 => ?_, fun p g1 g2 => ?_⟩
  · rw [setR_ne (by omega), updf_ne (by omega)]; exact c0
  · rw [setR_ne (by omega), updf_ne (by omega)]; exact c1
  · rw [setR_ne (by omega), updf_ne (by omega)]; exact c2
  · rw [setR_ne (by omega), updf_ne (by omega)]; exact c3
  · rw [setR_ne (by omega), updf_ne (by omega)]; exact c4
  · rw [setR_ne (by omega), updf_ne (by omega)]; exact c5
  · rw [setR_ne (by omega), updf_ne (by omega)]; exact c6
  · rw [setR_ne (by omega), updf_ne (by omega)]; exact c7
  · rw [n0] at g2
    obtain ⟨e0, e1, e2, e3, e4⟩ := cpp p g1 g2
    refine ⟨?_, ?_, ?_, ?_, ?_⟩
    · rw [setR_ne (by omega), updf_ne (by omega)]; exact e0
    · rw [setR_ne (by omega), updf_ne (by omega)]; exact e1
    · rw [setR_ne (by omega), updf_ne (by omega)]; exact e2
    · rw [setR_ne (by omega), updf_ne (by omega)]; exact e3
    · rw [setR_ne (by omega), updf_ne (by omega)]; exact e4
  · rw [n1] at g2
    obtain ⟨e0, e1, e2, e3⟩ := cpg p g1 g2
    refine ⟨?_, ?_, ?_, ?_⟩
    · rw [setR_ne (by omega), updf_ne (by omega)]; exact e0
    · rw [setR_ne (by omega), updf_ne (by omega)]; exact e1
    · rw [setR_ne (by omega), updf_ne (by omega)]; exact e2
    · rw [setR_ne (by omega), updf_ne (by omega)]; exact e3
  · rw [n7] at g2
    obtain ⟨e0, e1⟩ := cpd p g1 g2
    refine ⟨?_, ?_⟩
    · rw [setR_ne (by omega), updf_ne (by omega)]; exact e0
    · rw [setR_ne (by omega), updf_ne (by omega)]; exact e1
  · rw [n2] at g2
    obtain ⟨e0, e1, e2⟩ := cpk p g1 g2
    refine ⟨?_, ?_, ?_⟩
    · rw [setR_ne (by omega), updf_ne (by omega)]; exact e0
    · by_cases hq : p = z
      · rw [setR_same, updf_same hq, updf_same (by omega)]
      · rw [setR_same, updf_ne hq, updf_ne (by omega)]; exact e1
    · rw [setR_ne (by omega), updf_ne (by omega)]; exact e2
theorem CP_u102 {Q : Nat → Int → Int} {N : Int → Int} {z v : Int} (cp : CPz Q N) (b0 : 0 ≤ N 0 ∧ N 0 ≤ 8) (b1 : 0 ≤ N 1 ∧ N 1 ≤ 4) (b2 : 0 ≤ N 2 ∧ N 2 ≤ 6) (b7 : 0 ≤ N 7 ∧ N 7 ≤ 6) (hz : 0 ≤ z ∧ z < 6) : CPz (setR Q 102 (updf (Q 102) z v)) (updf N (96 + z) v) := by
  obtain ⟨⟨c0, c1, c2, c3, c4, c5, c6, c7⟩, cpp, cpg, cpd, cpk⟩ := cp
  have n0 : updf N (96 + z) v 0 = N 0 := updf_ne (by omega)
  have n1 : updf N (96 + z) v 1 = N 1 := updf_ne (by omega)
  have n2 : updf N (96 + z) v 2 = N 2 := updf_ne (by omega)
  have n7 : updf N (96 + z) v 7 = N 7 := updf_ne (by omega)
  refine ⟨⟨?_, ?_, ?_, ?_, ?_, ?_, ?_, ?_⟩, fun p g1 g2 => ?_, fun p g1 g2 => ?_, fun p g1 g2 => ?_, fun p g1 g2 => ?_⟩
  · rw [setR_ne (by omega), updf_ne (by omega)]; exact c0
  · rw [setR_ne (by omega), updf_ne (by omega)]; exact c1
  · rw [setR_ne (by omega), updf_ne (by omega)]; exact c2
  · rw [setR_ne (by omega), updf_ne (by omega)]; exact c3
  · rw [setR_ne (by omega), updf_ne (by omega)]; exact c4
  · rw [setR_ne (by omega), updf_ne (by omega)]; exact c5
  · rw [setR_ne (by omega), updf_ne (by omega)]; exact c6
  · rw [setR_ne (by omega), updf_ne (by omega)]; exact c7
  · rw [n0] at g2
    obtain ⟨e0, e1, e2, e3, e4⟩ := cpp p g1 g2
    refine ⟨?_, ?_, ?_, ?_, ?_⟩
    · rw [setR_ne (by omega), updf_ne (by omega)]; exact e0
    · rw [setR_ne (by omega), updf_ne (by omega)]; exact e1
    · rw [setR_ne (by omega), updf_ne (by omega)]; exact e2
    · rw [setR_ne (by omega), updf_ne (by omega)]; exact e3
    · rw [setR_ne (by omega), updf_ne (by omega)]; exact e4
  · rw [n1] at g2
    obtain ⟨e0, e1, e2, e3⟩ := cpg p g1 g2
    refine ⟨?_, ?_, ?_, ?_⟩
    · rw [setR_ne (by omega), updf_ne (by omega)]; exact e0
    · rw [setR_ne (by omega), updf_ne (by omega)]; exact e1
    · rw [setR_ne (by omega), updf_ne (by omega)]; exact e2
    · rw [setR_ne (by omega), updf_ne (by omega)]; exact e3
  · rw [n7] at g2
    obtain ⟨e0, e1⟩ := cpd p g1 g2
    refine ⟨?_, ?_⟩
    · rw [setR_ne (by omega), updf_ne (by omega)]; exact e0
    · rw [setR_ne (by omega), updf_ne (by omega)]; exact e1
  · rw [n2] at g2
    obtain ⟨e0, e1, e2⟩ := cpk p g1 g2
    refine ⟨?_, ?_, ?_⟩
    · rw [setR_ne (by omega), updf_ne (by omega)]; exact e0
    · rw [setR_ne (by omega), updf_ne (by omega)]; exact e1
    · by_cases hq : p = z
      · rw [setR_same, updf_same hq, updf_same (by omega)]
      · rw [setR_same, updf_ne hq, updf_ne (by omega)]; exact e2
theorem CP_s3 {Q : Nat → Int → Int} {N : Int → Int} {v : Int} (cp : CPz Q N) (b0 : 0 ≤ N 0 ∧ N 0 ≤ 8) (b1 : 0 ≤ N 1 ∧ N 1 ≤ 4) (b2 : 0 ≤ N 2 ∧ N 2 ≤ 6) (b7 : 0 ≤ N 7 ∧ N 7 ≤ 6) : CPz (setR Q 85 (updf (Q 85) 16 v)) (updf N 3 v) := by
  obtain ⟨⟨c0, c1, c2, c3, c4, c5, c6, c7⟩, cpp, cpg, cpd, cpk⟩ := cp
  have n0 : updf N 3 v 0 = N 0 := updf_ne (by omega)
  have n1 : updf N 3 v 1 = N 1 := updf_ne (by omega)
  have n2 : updf N 3 v 2 = N 2 := updf_ne (by omega)
  have n7 : updf N 3 v 7 = N 7 := updf_ne (by omega)
  refine ⟨⟨?_, ?_, ?_, ?_, ?_, ?_, ?_, ?_⟩, fun p g1 g2 => ?_, fun p g1 g2 => ?_, fun p g1 g2 => ?_, fun p g1 g2 => ?_⟩
  · rw [setR_same, updf_ne (by omega), updf_ne (by omega)]; exact c0
  · rw [setR_same, updf_ne (by omega), updf_ne (by omega)]; exact c1
  · rw [setR_ne (by omega), updf_ne (by omega)]; exact c2
  · rw [setR_same, updf_same rfl, updf_same rfl]
  · rw [setR_same, updf_ne (by omega), updf_ne (by omega)]; exact c4
  · rw [setR_same, updf_ne (by omega), updf_ne (by omega)]; exact c5
  · rw [setR_same, updf_ne (by omega), updf_ne (by omega)]; exact c6
  · rw [setR_same, updf_ne (by omega), updf_ne (by omega)]; exact c7
  · rw [n0] at g2
    obtain ⟨e0, e1, e2, e3, e4⟩ := cpp p g1 g2
    refine ⟨?_, ?_, ?_, ?_, ?_⟩
    · rw [setR_ne (by omega), updf_ne (by omega)]; exact e0
    · rw [setR_ne (by omega), updf_ne (by omega)]; exact e1
    · rw [setR_ne (by omega), updf_ne (by omega)]; exact e2
    · rw [setR_ne (by omega), updf_ne (by omega)]; exact e3
    · rw [setR_ne (by omega), updf_ne (by omega)]; exact e4
  · rw [n1] at g2
    obtain ⟨e0, e1, e2, e3⟩ := cpg p g1 g2
    refine ⟨?_, ?_, ?_, ?_⟩
    · rw [setR_ne (by omega), updf_ne (by omega)]; exact e0
    · rw [setR_ne (by omega), updf_ne (by omega)]; exact e1
    · rw [setR_ne (by omega), updf_ne (by omega)]; exact e2
    · rw [setR_ne (by omega), updf_ne (by omega)]; exact e3
  · rw [n7] at g2
    obtain ⟨e0, e1⟩ := cpd p g1 g2
    refine ⟨?_, ?_⟩
    · rw [setR_ne (by omega), updf_ne (by omega)]; exact e0
    · rw [setR_ne (by omega), updf_ne (by omega)]; exact e1
  · rw [n2] at g2
    obtain ⟨e0, e1, e2⟩ := cpk p g1 g2
    refine ⟨?_, ?_, ?_⟩
    · rw [setR_ne (by omega), updf_ne (by omega)]; exact e0
    · rw [setR_ne (by omega), updf_ne (by omega)]; exact e1
    · rw [setR_ne (by omega), updf_ne (by omega)]; exact e2
theorem CP_s4 {Q : Nat → Int → Int} {N : Int → Int} {v : Int} (cp : CPz Q N) (b0 : 0 ≤ N 0 ∧ N 0 ≤ 8) (b1 : 0 ≤ N 1 ∧ N 1 ≤ 4) (b2 : 0 ≤ N 2 ∧ N 2 ≤ 6) (b7 : 0 ≤ N 7 ∧ N 7 ≤ 6) : CPz (setR Q 85 (updf (Q 85) 17 v)) (updf N 4 v) := by
  obtain ⟨⟨c0, c1, c2, c3, c4, c5, c6, c7⟩, cpp, cpg, cpd, cpk⟩ := cp
  have n0 : updf N 4 v 0 = N 0 := updf_ne (by omega)
  have n1 : updf N 4 v 1 = N 1 := updf_ne (by omega)
  have n2 : updf N 4 v 2 = N 2 := updf_ne (by omega)
  have n7 : updf N 4 v 7 = N 7 := updf_ne (by omega)
  refine ⟨⟨?_, ?_, ?_, ?_, ?_, ?_, ?_, ?_⟩, fun p g1 g2 => ?_, fun p g1 g2 => ?_, fun p g1 g2 => ?_, fun p g1 g2 => ?_⟩
  · rw [setR_same, updf_ne (by omega), updf_ne (by omega)]; exact c0
  · rw [setR_same, updf_ne (by omega), updf_ne (by omega)]; exact c1
  · rw [setR_ne (by omega), updf_ne (by omega)]; exact c2
  · rw [setR_same, updf_ne (by omega), updf_ne (by omega)]; exact c3
  · rw [setR_same, updf_same rfl, updf_same rfl]
  · rw [setR_same, updf_ne (by omega), updf_ne (by omega)]; exact c5
  · rw [setR_same, updf_ne (by omega), updf_ne (by omega)]; exact c6
  · rw [setR_same, updf_ne (by omega), updf_ne (by omega)]; exact c7
  · rw [n0] at g2
    obtain ⟨e0, e1, e2, e3, e4⟩ := cpp p g1 g2
    refine ⟨?_, ?_, ?_, ?_, ?_⟩
    · rw [setR_ne (by omega), updf_ne (by omega)]; exact e0
    · rw [setR_ne (by omega), updf_ne (by omega)]; exact e1
    · rw [setR_ne (by omega), updf_ne (by omega)]; exact e2
    · rw [setR_ne (by omega), updf_ne (by omega)]; exact e3
    · rw [setR_ne (by omega), updf_ne (by omega)]; exact e4
  · rw [n1] at g2
    obtain ⟨e0, e1, e2, e3⟩ := cpg p g1 g2
    refine ⟨?_, ?_, ?_, ?_⟩
    · rw [setR_ne (by omega), updf_ne (by omega)]; exact e0
    · rw [setR_ne (by omega), updf_ne (by omega)]; exact e1
    · rw [setR_ne (by omega), updf_ne (by omega)]; exact e2
    · rw [setR_ne (by omega), updf_ne (by omega)]; exact e3
  · rw [n7] at g2
    obtain ⟨e0, e1⟩ := cpd p g1 g2
    refine ⟨?_, ?_⟩
    · rw [setR_ne (by omega), updf_ne (by omega)]; exact e0
    · rw [setR_ne (by omega), updf_ne (by omega)]; exact e1
  · rw [n2] at g2
    obtain ⟨e0, e1, e2⟩ := cpk p g1 g2
    refine ⟨?_, ?_, ?_⟩
    · rw [setR_ne (by omega), updf_ne (by omega)]; exact e0
    · rw [setR_ne (by omega), updf_ne (by omega)]; exact e1
    · rw [setR_ne (by omega), updf_ne (by omega)]; exact e2
theorem CP_s5 {Q : Nat → Int → Int} {N : Int → Int} {v : Int} (cp : CPz Q N) (b0 : 0 ≤ N 0 ∧ N 0 ≤ 8) (b1 : 0 ≤ N 1 ∧ N 1 ≤ 4) (b2 : 0 ≤ N 2 ∧ N 2 ≤ 6) (b7 : 0 ≤ N 7 ∧ N 7 ≤ 6) : CPz (setR Q 85 (updf (Q 85) 18 v)) (updf N 5 v) := by
  obtain ⟨⟨c0, c1, c2, c3, c4, c5, c6, c7⟩, cpp, cpg, cpd, cpk⟩ := cp
  have n0 : updf N 5 v 0 = N 0 := updf_ne (by omega)
  have n1 : updf N 5 v 1 = N 1 := updf_ne (by omega)
  have n2 : updf N 5 v 2 = N 2 := updf_ne (by omega)
  have n7 : updf N 5 v 7 = N 7 := updf_ne (by omega)
  refine ⟨⟨?_, ?_, ?_, ?_, ?_, ?_, ?_, ?_⟩, fun p g1 g2 => ?_, fun p g1 g2 => ?_, fun p g1 g2 => ?_, fun p g1 g2 => ?_⟩
  · rw [setR_same, updf_ne (by omega), updf_ne (by omega)]; exact c0
  · rw [setR_same, updf_ne (by omega), updf_ne (by omega)]; exact c1
  · rw [setR_ne (by omega), updf_ne (by omega)]; exact c2
  · rw [setR_same, updf_ne (by omega), updf_ne (by omega)]; exact c3
  · rw [setR_same, updf_ne (by omega), updf_ne (by omega)]; exact c4
  · rw [setR_same, updf_same rfl, updf_same rfl]
  · rw [setR_same, updf_ne (by omega), updf_ne (by omega)]; exact c6
  · rw [setR_same, updf_ne (by omega), updf_ne (by omega)]; exact c7
  · rw [n0] at g2
    obtain ⟨e0, e1, e2, e3, e4⟩ := cpp p g1 g2
    refine ⟨?_, ?_, ?_, ?_, ?_⟩
    · rw [setR_ne (by omega), updf_ne (by omega)]; exact e0
    · rw [setR_ne (by omega), updf_ne (by omega)]; exact e1
    · rw [setR_ne (by omega), updf_ne (by omega)]; exact e2
    · rw [setR_ne (by omega), updf_ne (by omega)]; exact e3
    · rw [setR_ne (by omega), updf_ne (by omega)]; exact e4
  · rw [n1] at g2
    obtain ⟨e0, e1, e2, e3⟩ := cpg p g1 g2
    refine ⟨?_, ?_, ?_, ?_⟩
    · rw [setR_ne (by omega), updf_ne (by omega)]; exact e0
    · rw [setR_ne (by omega), updf_ne (by omega)]; exact e1
    · rw [setR_ne (by omega), updf_ne (by omega)]; exact e2
    · rw [setR_ne (by omega), updf_ne (by omega)]; exact e3
  · rw [n7] at g2
    obtain ⟨e0, e1⟩ := cpd p g1 g2
    refine ⟨?_, ?_⟩
    · rw [setR_ne (by omega), updf_ne (by omega)]; exact e0
    · rw [setR_ne (by omega), updf_ne (by omega)]; exact e1
  · rw [n2] at g2
    obtain ⟨e0, e1, e2⟩ := cpk p g1 g2
    refine ⟨?_, ?_, ?_⟩
    · rw [setR_ne (by omega), updf_ne (by omega)]; exact e0
    · rw [setR_ne (by omega), updf_ne (by omega)]; exact e1
    · rw [setR_ne (by omega), updf_ne (by omega)]; exact e2
theorem CP_s6 {Q : Nat → Int → Int} {N : Int → Int} {v : Int} (cp : CPz Q N) (b0 : 0 ≤ N 0 ∧ N 0 ≤ 8) (b1 : 0 ≤ N 1 ∧ N 1 ≤ 4) (b2 : 0 ≤ N 2 ∧ N 2 ≤ 6) (b7 : 0 ≤ N 7 ∧ N 7 ≤ 6) : CPz (setR Q 85 (updf (Q 85) 19 v)) (updf N 6 v) := by
  obtain ⟨⟨c0, c1, c2, c3, c4, c5, c6, c7⟩, cpp, cpg, cpd, cpk⟩ := cp
  have n0 : updf N 6 v 0 = N 0 := updf_ne (by omega)
  have n1 : updf N 6 v 1 = N 1 := updf_ne (by omega)
  have n2 : updf N 6 v 2 = N 2 := updf_ne (by omega)
  have n7 : updf N 6 v 7 = N 7 := updf_ne (by omega)
  refine ⟨⟨?_, ?_, ?_, ?_, ?_, ?_, ?_, ?_⟩, fun p g1 g2 => ?_, fun p g1 g2 => ?_, fun p g1 g2 => ?_, fun p g1 g2 => ?_⟩
  · rw [setR_same, updf_ne (by omega), updf_ne (by omega)]; exact c0
  · rw [setR_same, updf_ne (by omega), updf_ne (by omega)]; exact c1
  · rw [setR_ne (by omega), updf_ne (by omega)]; exact c2
  · rw [setR_same, updf_ne (by omega), updf_ne (by omega)]; exact c3
  · rw [setR_same, updf_ne (by omega), updf_ne (by omega)]; exact c4
  · rw [setR_same, updf_ne (by omega), updf_ne (by omega)]; exact c5
  · rw [setR_same, updf_same rfl, updf_same rfl]
  · rw [setR_same, updf_ne (by omega), updf_ne (by omega)]; exact c7
  · rw [n0] at g2
    obtain ⟨e0, e1, e2, e3, e4⟩ := cpp p g1 g2
    refine ⟨?_, ?_, ?_, ?_, ?_⟩
    · rw [setR_ne (by omega), updf_ne (by omega)]; exact e0
    · rw [setR_ne (by omega), updf_ne (by omega)]; exact e1
    · rw [setR_ne (by omega), updf_ne (by omega)]; exact e2
    · rw [setR_ne (by omega), updf_ne (by omega)]; exact e3
    · rw [setR_ne (by omega), updf_ne (by omega)]; exact e4
  · rw [n1] at g2
    obtain ⟨e0, e1, e2, e3⟩ := cpg p g1 g2
    refine ⟨?_, ?_, ?_, ?_⟩
    · rw [setR_ne (by omega), updf_ne (by omega)]; exact e0
    · rw [setR_ne (by omega), updf_ne (by omega)]; exact e1
    · rw [setR_ne (by omega), updf_ne (by omega)]; exact e2
    · rw [setR_ne (by omega), updf_ne (by omega)]; exact e3
  · rw [n7] at g2
    obtain ⟨e0, e1⟩ := cpd p g1 g2
    refine ⟨?_, ?_⟩
    · rw [setR_ne (by omega), updf_ne (by omega)]; exact e0
    · rw [setR_ne (by omega), updf_ne (by omega)]; exact e1
  · rw [n2] at g2
    obtain ⟨e0, e1, e2⟩ := cpk p g1 g2
    refine ⟨?_, ?_, ?_⟩
    · rw [setR_ne (by omega), updf_ne (by omega)]; exact e0
    · rw [setR_ne (by omega), updf_ne (by omega)]; exact e1
    · rw [setR_ne (by omega), updf_ne (by omega)]; exact e2
theorem CP_n0 {Q : Nat → Int → Int} {N : Int → Int} (cp : CPz Q N) (b0 : 0 ≤ N 0 ∧ N 0 ≤ 8) (b1 : 0 ≤ N 1 ∧ N 1 ≤ 4) (b2 : 0 ≤ N 2 ∧ N 2 ≤ 6) (b7 : 0 ≤ N 7 ∧ N 7 ≤ 6) (hq : Q 87 (N 0) = N (8 + N 0) ∧ Q 88 (N 0) = N (16 + N 0) ∧ Q 89 (N 0) = N (24 + N 0) ∧ Q 90 (N 0) = N (32 + N 0) ∧ Q 91 (N 0) = N (40 + N 0)) : CPz (setR Q 85 (updf (Q 85) 6 (N 0 + 1))) (updf N 0 (N 0 + 1)) := by
  obtain ⟨⟨c0, c1, c2, c3, c4, c5, c6, c7⟩, cpp, cpg, cpd, cpk⟩ := cp
  have n0 : updf N 0 (N 0 + 1) 0 = N 0 + 1 := updf_same rfl
  have n1 : updf N 0 (N 0 + 1) 1 = N 1 := updf_ne (by omega)
  have n2 : updf N 0 (N 0 + 1) 2 = N 2 := updf_ne (by omega)
  have n7 : updf N 0 (N 0 + 1) 7 = N 7 := updf_ne (by omega)
  refine ⟨⟨?_, ?_, ?_, ?_, ?_, ?_, ?_, ?_⟩, fun p g1 g2 => ?_, fun p g1 g2 => ?_, fun p g1 g2 => ?_, fun p g1 g2 => ?_⟩
  · rw [setR_same, updf_same rfl, updf_same rfl]
  · rw [setR_same, updf_ne (by omega), updf_ne (by omega)]; exact c1
  · rw [setR_ne (by omega), updf_ne (by omega)]; exact c2
  · rw [setR_same, updf_ne (by omega), updf_ne (by omega)]; exact c3
  · rw [setR_same, updf_ne (by omega), updf_ne (by omega)]; exact c4
  · rw [setR_same, updf_ne (by omega), updf_ne (by omega)]; exact c5
  · rw [setR_same, updf_ne (by omega), updf_ne (by omega)]; exact c6
  · rw [setR_same, updf_ne (by omega), updf_ne (by omega)]; exact c7
  · rw [n0] at g2
    have hh : Q 87 p = N (8 + p) ∧ Q 88 p = N (16 + p) ∧ Q 89 p = N (24 + p) ∧ Q 90 p = N (32 + p) ∧ Q 91 p = N (40 + p) := by
      by_cases e : p = N 0
      · rw [e]; exact hq
      · exact cpp p g1 (by omega)
    obtain ⟨e0, e1, e2, e3, e4⟩ := hh
    refine ⟨?_, ?_, ?_, ?_, ?_⟩
    · rw [setR_ne (by omega), updf_ne (by omega)]; exact e0
    · rw [setR_ne (by omega), updf_ne (by omega)]; exact e1
    · rw [setR_ne (by omega), updf_ne (by omega)]; exact e2
    · rw [setR_ne (by omega), updf_ne (by omega)]; exact e3
    · rw [setR_ne (by omega), updf_ne (by omega)]; exact e4
  · rw [n1] at g2
    obtain ⟨e0, e1, e2, e3⟩ := cpg p g1 g2
    refine ⟨?_, ?_, ?_, ?_⟩
    · rw [setR_ne (by omega), updf_ne (by omega)]; exact e0
    · rw [setR_ne (by omega), updf_ne (by omega)]; exact e1
    · rw [setR_ne (by omega), updf_ne (by omega)]; exact e2
    · rw [setR_ne (by omega), updf_ne (by omega)]; exact e3
  · rw [n7] at g2
    obtain ⟨e0, e1⟩ := cpd p g1 g2
    refine ⟨?_, ?_⟩
    · rw [setR_ne (by omega), updf_ne (by omega)]; exact e0
    · rw [setR_ne (by omega), updf_ne (by omega)]; exact e1
  · rw [n2] at g2
    obtain ⟨e0, e1, e2⟩ := cpk p g1 g2
    refine ⟨?_, ?_, ?_⟩
    · rw [setR_ne (by omega), updf_ne (by omega)]; exact e0
    · rw [setR_ne (by omega), updf_ne (by omega)]; exact e1
    · rw [setR_ne (by omega), updf_ne (by omega)]; exact e2
theorem CP_n1 {Q : Nat → Int → Int} {N : Int → Int} (cp : CPz Q N) (b0 : 0 ≤ N 0 ∧ N 0 ≤ 8) (b1 : 0 ≤ N 1 ∧ N 1 ≤ 4) (b2 : 0 ≤ N 2 ∧ N 2 ≤ 6) (b7 : 0 ≤ N 7 ∧ N 7 ≤ 6) (hq : Q 93 (N 1) = N (56 + N 1) ∧ Q 94 (N 1) = N (60 + N 1) ∧ Q 95 (N 1) = N (64 + N 1) ∧ Q 96 (N 1) = N (68 + N 1)) : CPz (setR Q 85 (updf (Q 85) 12 (N 1 + 1))) (updf N 1 (N 1 + 1)) := by
  obtain ⟨⟨c0, c1, c2, c3, c4, c5, c6, c7⟩, cpp, cpg, cpd, cpk⟩ := cp
  have n0 : updf N 1 (N 1 + 1) 0 = N 0 := updf_ne (by omega)
  have n1 : updf N 1 (N 1 + 1) 1 = N 1 + 1 := updf_same rfl
  have n2 : updf N 1 (N 1 + 1) 2 = N 2 := updf_ne (by omega)
  have n7 : updf N 1 (N 1 + 1) 7 = N 7 := updf_ne (by omega)
  refine ⟨⟨?_, ?_, ?_, ?_, ?_, ?_, ?_, ?_⟩, fun p g1 g2 => ?_, fun p g1 g2 => ?_, fun p g1 g2 => ?_, fun p g1 g2 => ?_⟩
  · rw [setR_same, updf_ne (by omega), updf_ne (by omega)]; exact c0
  · rw [setR_same, updf_same rfl, updf_same rfl]
  · rw [setR_ne (by omega), updf_ne (by omega)]; exact c2
  · rw [setR_same, updf_ne (by omega), updf_ne (by omega)]; exact c3
  · rw [setR_same, updf_ne (by omega), updf_ne (by omega)]; exact c4
  · rw [setR_same, updf_ne (by omega), updf_ne (by omega)]; exact c5
  · rw [setR_same, updf_ne (by omega), updf_ne (by omega)]; exact c6
  · rw [setR_same, updf_ne (by omega), updf_ne (by omega)]; exact c7
  · rw [n0] at g2
    obtain ⟨e0, e1, e2, e3, e4⟩ := cpp p g1 g2
    refine ⟨?_, ?_, ?_, ?_, ?_⟩
    · rw [setR_ne (by omega), updf_ne (by omega)]; exact e0
    · rw [setR_ne (by omega), updf_ne (by omega)]; exact e1
    · rw [setR_ne (by omega), updf_ne (by omega)]; exact e2
    · rw [setR_ne (by omega), updf_ne (by omega)]; exact e3
    · rw [setR_ne (by omega), updf_ne (by omega)]; exact e4
  · rw [n1] at g2
    have hh : Q 93 p = N (56 + p) ∧ Q 94 p = N (60 + p) ∧ Q 95 p = N (64 + p) ∧ Q 96 p = N (68 + p) := by
      by_cases e : p = N 1
      · rw [e]; exact hq
      · exact cpg p g1 (by omega)
    obtain ⟨e0, e1, e2, e3⟩ := hh
    refine ⟨?_, ?_, ?_, ?_⟩
    · rw [setR_ne (by omega), updf_ne (by omega)]; exact e0
    · rw [setR_ne (by omega), updf_ne (by omega)]; exact e1
    · rw [setR_ne (by omega), updf_ne (by omega)]; exact e2
    · rw [setR_ne (by omega), updf_ne (by omega)]; exact e3
  · rw [n7] at g2
    obtain ⟨e0, e1⟩ := cpd p g1 g2
    refine ⟨?_, ?_⟩
    · rw [setR_ne (by omega), updf_ne (by omega)]; exact e0
    · rw [setR_ne (by omega), updf_ne (by omega)]; exact e1
  · rw [n2] at g2
    obtain ⟨e0, e1, e2⟩ := cpk p g1 g2
    refine ⟨?_, ?_, ?_⟩
    · rw [setR_ne (by omega), updf_ne (by omega)]; exact e0
    · rw [setR_ne (by omega), updf_ne (by omega)]; exact e1
    · rw [setR_ne (by omega), updf_ne (by omega)]; exact e2
theorem CP_n7 {Q : Nat → Int → Int} {N : Int → Int} (cp : CPz Q N) (b0 : 0 ≤ N 0 ∧ N 0 ≤ 8) (b1 : 0 ≤ N 1 ∧ N 1 ≤ 4) (b2 : 0 ≤ N 2 ∧ N 2 ≤ 6) (b7 : 0 ≤ N 7 ∧ N 7 ≤ 6) (hq : Q 97 (2 * N 7) = N (72 + N 7) ∧ Q 97 (2 * N 7 + 1) = N (78 + N 7)) : CPz (setR Q 85 (updf (Q 85) 14 (N 7 + 1))) (updf N 7 (N 7 + 1)) := by
  obtain ⟨⟨c0, c1, c2, c3, c4, c5, c6, c7⟩, cpp, cpg, cpd, cpk⟩ := cp
  have n0 : updf N 7 (N 7 + 1) 0 = N 0 := updf_ne (by omega)
  have n1 : updf N 7 (N 7 + 1) 1 = N 1 := updf_ne (by omega)
  have n2 : updf N 7 (N 7 + 1) 2 = N 2 := updf_ne (by omega)
  have n7 : updf N 7 (N 7 + 1) 7 = N 7 + 1 := updf_same rfl
  refine ⟨⟨?_, ?_, ?_, ?_, ?_, ?_, ?_, ?_⟩, fun p g1 g2 => ?_, fun p g1 g2 => ?_, fun p g1 g2 => ?_, fun p g1 g2 => ?_⟩
  · rw [setR_same, updf_ne (by omega), updf_ne (by omega)]; exact c0
  · rw [setR_same, updf_ne (by omega), updf_ne (by omega)]; exact c1
  · rw [setR_ne (by omega), updf_ne (by omega)]; exact c2
  · rw [setR_same, updf_ne (by omega), updf_ne (by omega)]; exact c3
  · rw [setR_same, updf_ne (by omega), updf_ne (by omega)]; exact c4
  · rw [setR_same, updf_ne (by omega), updf_ne (by omega)]; exact c5
  · rw [setR_same, updf_ne (by omega), updf_ne (by omega)]; exact c6
  · rw [setR_same, updf_same rfl, updf_same rfl]
  · rw [n0] at g2
    obtain ⟨e0, e1, e2, e3, e4⟩ := cpp p g1 g2
    refine ⟨?_, ?_, ?_, ?_, ?_⟩
    · rw [setR_ne (by omega), updf_ne (by omega)]; exact e0
    · rw [setR_ne (by omega), updf_ne (by omega)]; exact e1
    · rw [setR_ne (by omega), updf_ne (by omega)]; exact e2
    · rw [setR_ne (by omega), updf_ne (by omega)]; exact e3
    · rw [setR_ne (by omega), updf_ne (by omega)]; exact e4
  · rw [n1] at g2
    obtain ⟨e0, e1, e2, e3⟩ := cpg p g1 g2
    refine ⟨?_, ?_, ?_, ?_⟩
    · rw [setR_ne (by omega), updf_ne (by omega)]; exact e0
    · rw [setR_ne (by omega), updf_ne (by omega)]; exact e1
    · rw [setR_ne (by omega), updf_ne (by omega)]; exact e2
    · rw [setR_ne (by omega), updf_ne (by omega)]; exact e3
  · rw [n7] at g2
    have hh : Q 97 (2 * p) = N (72 + p) ∧ Q 97 (2 * p + 1) = N (78 + p) := by
      by_cases e : p = N 7
      · rw [e]; exact hq
      · exact cpd p g1 (by omega)
    obtain ⟨e0, e1⟩ := hh
    refine ⟨?_, ?_⟩
    · rw [setR_ne (by omega), updf_ne (by omega)]; exact e0
    · rw [setR_ne (by omega), updf_ne (by omega)]; exact e1
  · rw [n2] at g2
    obtain ⟨e0, e1, e2⟩ := cpk p g1 g2
    refine ⟨?_, ?_, ?_⟩
    · rw [setR_ne (by omega), updf_ne (by omega)]; exact e0
    · rw [setR_ne (by omega), updf_ne (by omega)]; exact e1
    · rw [setR_ne (by omega), updf_ne (by omega)]; exact e2
theorem CP_n2 {Q : Nat → Int → Int} {N : Int → Int} (cp : CPz Q N) (b0 : 0 ≤ N 0 ∧ N 0 ≤ 8) (b1 : 0 ≤ N 1 ∧ N 1 ≤ 4) (b2 : 0 ≤ N 2 ∧ N 2 ≤ 6) (b7 : 0 ≤ N 7 ∧ N 7 ≤ 6) (hq : Q 100 (N 2) = N (84 + N 2) ∧ Q 101 (N 2) = N (90 + N 2) ∧ Q 102 (N 2) = N (96 + N 2)) : CPz (setR Q 98 (updf (Q 98) 4 (N 2 + 1))) (updf N 2 (N 2 + 1)) := by
  obtain ⟨⟨c0, c1, c2, c3, c4, c5, c6, c7⟩, cpp, cpg, cpd, cpk⟩ := cp
  have n0 : updf N 2 (N 2 + 1) 0 = N 0 := updf_ne (by omega)
  have n1 : updf N 2 (N 2 + 1) 1 = N 1 := updf_ne (by omega)
  have n2 : updf N 2 (N 2 + 1) 2 = N 2 + 1 := updf_same rfl
  have n7 : updf N 2 (N 2 + 1) 7 = N 7 := updf_ne (by omega)
  refine ⟨⟨?_, ?_, ?_, ?_, ?_, ?_, ?_, ?_⟩, fun p g1 g2 => ?_, fun p g1 g2 => ?_, fun p g1 g2 => ?_, fun p g1 g2 => ?_⟩
  · rw [setR_ne (by omega), updf_ne (by omega)]; exact c0
  · rw [setR_ne (by omega), updf_ne (by omega)]; exact c1
  · rw [setR_same, updf_same rfl, updf_same rfl]
  · rw [setR_ne (by omega), updf_ne (by omega)]; exact c3
  · rw [setR_ne (by omega), updf_ne (by omega)]; exact c4
  · rw [setR_ne (by omega), updf_ne (by omega)]; exact c5
  · rw [setR_ne (by omega), updf_ne (by omega)]; exact c6
  · rw [setR_ne (by omega), updf_ne (by omega)]; exact c7
  · rw [n0] at g2
    obtain ⟨e0, e1, e2, e3, e4⟩ := cpp p g1 g2
    refine ⟨?_, ?_, ?_, ?_, ?_⟩
    · rw [setR_ne (by omega), updf_ne (by omega)]; exact e0
    · rw [setR_ne (by omega), updf_ne (by omega)]; exact e1
    · rw [setR_ne (by omega), updf_ne (by omega)]; exact e2
    · rw [setR_ne (by omega), updf_ne (by omega)]; exact e3
    · rw [setR_ne (by omega), updf_ne (by omega)]; exact e4
  · rw [n1] at g2
    obtain ⟨e0, e1, e2, e3⟩ := cpg p g1 g2
    refine ⟨?_, ?_, ?_, ?_⟩
    · rw [setR_ne (by omega), updf_ne (by omega)]; exact e0
    · rw [setR_ne (by omega), updf_ne (by omega)]; exact e1
    · rw [setR_ne (by omega), updf_ne (by omega)]; exact e2
    · rw [setR_ne (by omega), updf_ne (by omega)]; exact e3
  · rw [n7] at g2
    obtain ⟨e0, e1⟩ := cpd p g1 g2
    refine ⟨?_, ?_⟩
    · rw [setR_ne (by omega), updf_ne (by omega)]; exact e0
    · rw [setR_ne (by omega), updf_ne (by omega)]; exact e1
  · rw [n2] at g2
    have hh : Q 100 p = N (84 + p) ∧ Q 101 p = N (90 + p) ∧ Q 102 p = N (96 + p) := by
      by_cases e : p = N 2
      · rw [e]; exact hq
      · exact cpk p g1 (by omega)
    obtain ⟨e0, e1, e2⟩ := hh
    refine ⟨?_, ?_, ?_⟩
    · rw [setR_ne (by omega), updf_ne (by omega)]; exact e0
    · rw [setR_ne (by omega), updf_ne (by omega)]; exact e1
    · rw [setR_ne (by omega), updf_ne (by omega)]; exact e2
theorem CP_d0 {Q : Nat → Int → Int} {N : Int → Int} {z v : Int} (cp : CPz Q N) (b0 : 0 ≤ N 0 ∧ N 0 ≤ 8) (b1 : 0 ≤ N 1 ∧ N 1 ≤ 4) (b2 : 0 ≤ N 2 ∧ N 2 ≤ 6) (b7 : 0 ≤ N 7 ∧ N 7 ≤ 6) (hz : 0 ≤ z ∧ z < 6) : CPz (setR Q 97 (updf (Q 97) (2 * z) v)) (updf N (72 + z) v) := by
  obtain ⟨⟨c0, c1, c2, c3, c4, c5, c6, c7⟩, cpp, cpg, cpd, cpk⟩ := cp
  have n0 : updf N (72 + z) v 0 = N 0 := updf_ne (by omega)
  have n1 : updf N (72 + z) v 1 = N 1 := updf_ne (by omega)
  have n2 : updf N (72 + z) v 2 = N 2 := updf_ne (by omega)
  have n7 : updf N (72 + z) v 7 = N 7 := updf_ne (by omega)
  refine ⟨⟨?_, ?_, ?_, ?_, ?_, ?_, ?_, ?_⟩, fun p g1 g2 => ?_, fun p g1 g2 => ?_, fun p g1 g2 => ?_, fun p g1 g2 => ?_⟩
  · rw [setR_ne (by omega), updf_ne (by omega)]; exact c0
  · rw [setR_ne (by omega), updf_ne (by omega)]; exact c1
  · rw [setR_ne (by omega), updf_ne (by omega)]; exact c2
  · rw [setR_ne (by omega), updf_ne (by omega)]; exact c3
  · rw [setR_ne (by omega), updf_ne (by omega)]; exact c4
  · rw [setR_ne (by omega), updf_ne (by omega)]; exact c5
  · rw [setR_ne (by omega), updf_ne (by omega)]; exact c6
  · rw [setR_ne (by omega), updf_ne (by omega)]; exact c7
  · rw [n0] at g2
    obtain ⟨e0, e1, e2, e3, e4⟩ := cpp p g1 g2
    refine ⟨?_, ?_, ?_, ?_, ?_⟩
    · rw [setR_ne (by omega), updf_ne (by omega)]; exact e0
    · rw [setR_ne (by omega), updf_ne (by omega)]; exact e1
    · rw [setR_ne (by omega), updf_ne (by omega)]; exact e2
    · rw [setR_ne (by omega), updf_ne (by omega)]; exact e3
    · rw [setR_ne (by omega), updf_ne (by omega)]; exact e4
  · rw [n1] at g2
    obtain ⟨e0, e1, e2, e3⟩ := cpg p g1 g2
    refine ⟨?_, ?_, ?_, ?_⟩
    · rw [setR_ne (by omega), updf_ne (by omega)]; exact e0
    · rw [setR_ne (by omega), updf_ne (by omega)]; exact e1
    · rw [setR_ne (by omega), updf_ne (by omega)]; exact e2
    · rw [setR_ne (by omega), updf_ne (by omega)]; exact e3
  · rw [n7] at g2
    obtain ⟨e0, e1⟩ := cpd p g1 g2
    refine ⟨?_, ?_⟩
    · by_cases hq : p = z
      · rw [setR_same, updf_same (by omega), updf_same (by omega)]
      · rw [setR_same, updf_ne (by omega), updf_ne (by omega)]; exact e0
    · rw [setR_same, updf_ne (by omega), updf_ne (by omega)]; exact e1
  · rw [n2] at g2
    obtain ⟨e0, e1, e2⟩ := cpk p g1 g2
    refine ⟨?_, ?_, ?_⟩
    · rw [setR_ne (by omega), updf_ne (by omega)]; exact e0
    · rw [setR_ne (by omega), updf_ne (by omega)]; exact e1
    · rw [setR_ne (by omega), updf_ne (by omega)]; exact e2
theorem CP_d1 {Q : Nat → Int → Int} {N : Int → Int} {z v : Int} (cp : CPz Q N) (b0 : 0 ≤ N 0 ∧ N 0 ≤ 8) (b1 : 0 ≤ N 1 ∧ N 1 ≤ 4) (b2 : 0 ≤ N 2 ∧ N 2 ≤ 6) (b7 : 0 ≤ N 7 ∧ N 7 ≤ 6) (hz : 0 ≤ z ∧ z < 6) : CPz (setR Q 97 (updf (Q 97) (2 * z + 1) v)) (updf N (78 + z) v) := by
  obtain ⟨⟨c0, c1, c2, c3, c4, c5, c6, c7⟩, cpp, cpg, cpd, cpk⟩ := cp
  have n0 : updf N (78 + z) v 0 = N 0 := updf_ne (by omega)
  have n1 : updf N (78 + z) v 1 = N 1 := updf_ne (by omega)
  have n2 : updf N (78 + z) v 2 = N 2 := updf_ne (by omega)
  have n7 : updf N (78 + z) v 7 = N 7 := updf_ne (by omega)
  refine ⟨⟨?_, ?_, ?_, ?_, ?_, ?_, ?_, ?_⟩, fun p g1 g2 => ?_, fun p g1 g2 => ?_, fun p g1 g2 => ?_, fun p g1 g2 => ?_⟩
  · rw [setR_ne (by omega), updf_ne (by omega)]; exact c0
  · rw [setR_ne (by omega), updf_ne (by omega)]; exact c1
  · rw [setR_ne (by omega), updf_ne (by omega)]; exact c2
  · rw [setR_ne (by omega), updf_ne (by omega)]; exact c3
  · rw [setR_ne (by omega), updf_ne (by omega)]; exact c4
  · rw [setR_ne (by omega), updf_ne (by omega)]; exact c5
  · rw [setR_ne (by omega), updf_ne (by omega)]; exact c6
  · rw [setR_ne (by omega), updf_ne (by omega)]; exact c7
  · rw [n0] at g2
    obtain ⟨e0, e1, e2, e3, e4⟩ := cpp p g1 g2
    refine ⟨?_, ?_, ?_, ?_, ?_⟩
    · rw [setR_ne (by omega), updf_ne (by omega)]; exact e0
    · rw [setR_ne (by omega), updf_ne (by omega)]; exact e1
    · rw [setR_ne (by omega), updf_ne (by omega)]; exact e2
    · rw [setR_ne (by omega), updf_ne (by omega)]; exact e3
    · rw [setR_ne (by omega), updf_ne (by omega)]; exact e4
  · rw [n1] at g2
    obtain ⟨e0, e1, e2, e3⟩ := cpg p g1 g2
    refine ⟨?_, ?_, ?_, ?_⟩
    · rw [setR_ne (by omega), updf_ne (by omega)]; exact e0
    · rw [setR_ne (by omega), updf_ne (by omega)]; exact e1
    · rw [setR_ne (by omega), updf_ne (by omega)]; exact e2
    · rw [setR_ne (by omega), updf_ne (by omega)]; exact e3
  · rw [n7] at g2
    obtain ⟨e0, e1⟩ := cpd p g1 g2
    refine ⟨?_, ?_⟩
    · rw [setR_same, updf_ne (by omega), updf_ne (by omega)]; exact e0
    · by_cases hq : p = z
      · rw [setR_same, updf_same (by omega), updf_same (by omega)]
      · rw [setR_same, updf_ne (by omega), updf_ne (by omega)]; exact e1
  · rw [n2] at g2
    obtain ⟨e0, e1, e2⟩ := cpk p g1 g2
    refine ⟨?_, ?_, ?_⟩
    · rw [setR_ne (by omega), updf_ne (by omega)]; exact e0
    · rw [setR_ne (by omega), updf_ne (by omega)]; exact e1
    · rw [setR_ne (by omega), updf_ne (by omega)]; exact e2
