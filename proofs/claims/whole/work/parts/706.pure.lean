theorem CL_u1 {l : Nat} {Q : Nat → Int → Int} {N : Int → Int} {z v : Int} (cl : CL l Q N) (h0 : N 0 ≤ 8) (h1 : N 1 ≤ 4) (hz : 0 ≤ z ∧ z < 8) : CL l (setR Q (l + 1) (updf (Q (l + 1)) z v)) (updf N (105 + z) v) := by
  obtain ⟨⟨c102, c104, c103⟩, clp, clg⟩ := cl
  have n0 : updf N (105 + z) v 0 = N 0 := updf_ne (by omega)
  have n1 : updf N (105 + z) v 1 = N 1 := updf_ne (by omega)
  refine ⟨⟨?_, ?_, ?_⟩, fun p g1 g2 => ?_, fun p g1 g2 => ?_⟩
  · rw [setR_ne (by omega), updf_ne (by omega)]; exact c102
  · rw [setR_ne (by omega), updf_ne (by omega)]; exact c104
  · rw [setR_ne (by omega), updf_ne (by omega)]; exact c103
  · rw [n0] at g2
    have e := clp p g1 g2
    obtain ⟨e0, e1⟩ := e
    refine ⟨?_, ?_⟩
    · by_cases hq : p = z
      · rw [setR_same, updf_same hq, updf_same (by omega)]
      · rw [setR_same, updf_ne hq, updf_ne (by omega)]; exact e0
    · rw [setR_ne (by omega), updf_ne (by omega)]; exact e1
  · rw [n1] at g2
    have e := clg p g1 g2
    obtain ⟨e0, e1, e2, e3, e4⟩ := e
    refine ⟨?_, ?_, ?_, ?_, ?_⟩
    · rw [setR_ne (by omega), updf_ne (by omega)]; exact e0
    · rw [setR_ne (by omega), updf_ne (by omega)]; exact e1
    · rw [setR_ne (by omega), updf_ne (by omega)]; exact e2
    · rw [setR_ne (by omega), updf_ne (by omega)]; exact e3
    · rw [setR_ne (by omega), updf_ne (by omega)]; exact e4
theorem CL_u2 {l : Nat} {Q : Nat → Int → Int} {N : Int → Int} {z v : Int} (cl : CL l Q N) (h0 : N 0 ≤ 8) (h1 : N 1 ≤ 4) (hz : 0 ≤ z ∧ z < 8) : CL l (setR Q (l + 2) (updf (Q (l + 2)) z v)) (updf N (113 + z) v) := by
  obtain ⟨⟨c102, c104, c103⟩, clp, clg⟩ := cl
  have n0 : updf N (113 + z) v 0 = N 0 := updf_ne (by omega)
  have n1 : updf N (113 + z) v 1 = N 1 := updf_ne (by omega)
  refine ⟨⟨?_, ?_, ?_⟩, fun p g1 g2 => ?_, fun p g1 g2 => ?_⟩
  · rw [setR_ne (by omega), updf_ne (by omega)]; exact c102
  · rw [setR_ne (by omega), updf_ne (by omega)]; exact c104
  · rw [setR_ne (by omega), updf_ne (by omega)]; exact c103
  · rw [n0] at g2
    have e := clp p g1 g2
    obtain ⟨e0, e1⟩ := e
    refine ⟨?_, ?_⟩
    · rw [setR_ne (by omega), updf_ne (by omega)]; exact e0
    · by_cases hq : p = z
      · rw [setR_same, updf_same hq, updf_same (by omega)]
      · rw [setR_same, updf_ne hq, updf_ne (by omega)]; exact e1
  · rw [n1] at g2
    have e := clg p g1 g2
    obtain ⟨e0, e1, e2, e3, e4⟩ := e
    refine ⟨?_, ?_, ?_, ?_, ?_⟩
    · rw [setR_ne (by omega), updf_ne (by omega)]; exact e0
    · rw [setR_ne (by omega), updf_ne (by omega)]; exact e1
    · rw [setR_ne (by omega), updf_ne (by omega)]; exact e2
    · rw [setR_ne (by omega), updf_ne (by omega)]; exact e3
    · rw [setR_ne (by omega), updf_ne (by omega)]; exact e4
theorem CL_u3 {l : Nat} {Q : Nat → Int → Int} {N : Int → Int} {z v : Int} (cl : CL l Q N) (h0 : N 0 ≤ 8) (h1 : N 1 ≤ 4) (hz : 0 ≤ z ∧ z < 4) : CL l (setR Q (l + 3) (updf (Q (l + 3)) z v)) (updf N (125 + z) v) := by
  obtain ⟨⟨c102, c104, c103⟩, clp, clg⟩ := cl
  have n0 : updf N (125 + z) v 0 = N 0 := updf_ne (by omega)
  have n1 : updf N (125 + z) v 1 = N 1 := updf_ne (by omega)
  refine ⟨⟨?_, ?_, ?_⟩, fun p g1 g2 => ?_, fun p g1 g2 => ?_⟩
  · rw [setR_ne (by omega), updf_ne (by omega)]; exact c102
  · rw [setR_ne (by omega), updf_ne (by omega)]; exact c104
  · rw [setR_ne (by omega), updf_ne (by omega)]; exact c103
  · rw [n0] at g2
    have e := clp p g1 g2
    obtain ⟨e0, e1⟩ := e
    refine ⟨?_, ?_⟩
    · rw [setR_ne (by omega), updf_ne (by omega)]; exact e0
    · rw [setR_ne (by omega), updf_ne (by omega)]; exact e1
  · rw [n1] at g2
    have e := clg p g1 g2
    obtain ⟨e0, e1, e2, e3, e4⟩ := e
    refine ⟨?_, ?_, ?_, ?_, ?_⟩
    · by_cases hq : p = z
      · rw [setR_same, updf_same hq, updf_same (by omega)]
      · rw [setR_same, updf_ne hq, updf_ne (by omega)]; exact e0
    · rw [setR_ne (by omega), updf_ne (by omega)]; exact e1
    · rw [setR_ne (by omega), updf_ne (by omega)]; exact e2
    · rw [setR_ne (by omega), updf_ne (by omega)]; exact e3
    · rw [setR_ne (by omega), updf_ne (by omega)]; exact e4
theorem CL_u4 {l : Nat} {Q : Nat → Int → Int} {N : Int → Int} {z v : Int} (cl : CL l Q N) (h0 : N 0 ≤ 8) (h1 : N 1 ≤ 4) (hz : 0 ≤ z ∧ z < 4) : CL l (setR Q (l + 4) (updf (Q (l + 4)) z v)) (updf N (129 + z) v) := by
  obtain ⟨⟨c102, c104, c103⟩, clp, clg⟩ := cl
  have n0 : updf N (129 + z) v 0 = N 0 := updf_ne (by omega)
  have n1 : updf N (129 + z) v 1 = N 1 := updf_ne (by omega)
  refine ⟨⟨?_, ?_, ?_⟩, fun p g1 g2 => ?_, fun p g1 g2 => ?_⟩
  · rw [setR_ne (by omega), updf_ne (by omega)]; exact c102
  · rw [setR_ne (by omega), updf_ne (by omega)]; exact c104
  · rw [setR_ne (by omega), updf_ne (by omega)]; exact c103
  · rw [n0] at g2
    have e := clp p g1 g2
    obtain ⟨e0, e1⟩ := e
    refine ⟨?_, ?_⟩
    · rw [setR_ne (by omega), updf_ne (by omega)]; exact e0
    · rw [setR_ne (by omega), updf_ne (by omega)]; exact e1
  · rw [n1] at g2
    have e := clg p g1 g2
    obtain ⟨e0, e1, e2, e3, e4⟩ := e
    refine ⟨?_, ?_, ?_, ?_, ?_⟩
    · rw [setR_ne (by omega), updf_ne (by omega)]; exact e0
    · by_cases hq : p = z
      · rw [setR_same, updf_same hq, updf_same (by omega)]
      · rw [setR_same, updf_ne hq, updf_ne (by omega)]; exact e1
    · rw [setR_ne (by omega), updf_ne (by omega)]; exact e2
    · rw [setR_ne (by omega), updf_ne (by omega)]; exact e3
    · rw [setR_ne (by omega), updf_ne (by omega)]; exact e4
theorem CL_u5 {l : Nat} {Q : Nat → Int → Int} {N : Int → Int} {z v : Int} (cl : CL l Q N) (h0 : N 0 ≤ 8) (h1 : N 1 ≤ 4) (hz : 0 ≤ z ∧ z < 4) : CL l (setR Q (l + 5) (updf (Q (l + 5)) z v)) (updf N (121 + z) v) := by
  obtain ⟨⟨c102, c104, c103⟩, clp, clg⟩ := cl
  have n0 : updf N (121 + z) v 0 = N 0 := updf_ne (by omega)
  have n1 : updf N (121 + z) v 1 = N 1 := updf_ne (by omega)
  refine ⟨⟨?_, ?_, ?_⟩, fun p g1 g2 => ?_, fun p g1 g2 => ?_⟩
  · rw [setR_ne (by omega), updf_ne (by omega)]; exact c102
  · rw [setR_ne (by omega), updf_ne (by omega)]; exact c104
  · rw [setR_ne (by omega), updf_ne (by omega)]; exact c103
  · rw [n0] at g2
    have e := clp p g1 g2
    obtain ⟨e0, e1⟩ := e
    refine ⟨?_, ?_⟩
    · rw [setR_ne (by omega), updf_ne (by omega)]; exact e0
    · rw [setR_ne (by omega), updf_ne (by omega)]; exact e1
  · rw [n1] at g2
    have e := clg p g1 g2
    obtain ⟨e0, e1, e2, e3, e4⟩ := e
    refine ⟨?_, ?_, ?_, ?_, ?_⟩
    · rw [setR_ne (by omega), updf_ne (by omega)]; exact e0
    · rw [setR_ne (by omega), updf_ne (by omega)]; exact e1
    · by_cases hq : p = z
      · rw [setR_same, updf_same hq, updf_same (by omega)]
      · rw [setR_same, updf_ne hq, updf_ne (by omega)]; exact e2
    · rw [setR_ne (by omega), updf_ne (by omega)]; exact e3
    · rw [setR_ne (by omega), updf_ne (by omega)]; exact e4
theorem CL_u6 {l : Nat} {Q : Nat → Int → Int} {N : Int → Int} {z v : Int} (cl : CL l Q N) (h0 : N 0 ≤ 8) (h1 : N 1 ≤ 4) (hz : 0 ≤ z ∧ z < 4) : CL l (setR Q (l + 6) (updf (Q (l + 6)) z v)) (updf N (133 + z) v) := by
  obtain ⟨⟨c102, c104, c103⟩, clp, clg⟩ := cl
  have n0 : updf N (133 + z) v 0 = N 0 := updf_ne (by omega)
  have n1 : updf N (133 + z) v 1 = N 1 := updf_ne (by omega)
  refine ⟨⟨?_, ?_, ?_⟩, fun p g1 g2 => ?_, fun p g1 g2 => ?_⟩
  · rw [setR_ne (by omega), updf_ne (by omega)]; exact c102
  · rw [setR_ne (by omega), updf_ne (by omega)]; exact c104
  · rw [setR_ne (by omega), updf_ne (by omega)]; exact c103
  · rw [n0] at g2
    have e := clp p g1 g2
    obtain ⟨e0, e1⟩ := e
    refine ⟨?_, ?_⟩
    · rw [setR_ne (by omega), updf_ne (by omega)]; exact e0
    · rw [setR_ne (by omega), updf_ne (by omega)]; exact e1
  · rw [n1] at g2
    have e := clg p g1 g2
    obtain ⟨e0, e1, e2, e3, e4⟩ := e
    refine ⟨?_, ?_, ?_, ?_, ?_⟩
    · rw [setR_ne (by omega), updf_ne (by omega)]; exact e0
    · rw [setR_ne (by omega), updf_ne (by omega)]; exact e1
    · rw [setR_ne (by omega), updf_ne (by omega)]; exact e2
    · by_cases hq : p = z
      · rw [setR_same, updf_same hq, updf_same (by omega)]
      · rw [setR_same, updf_ne hq, updf_ne (by omega)]; exact e3
    · rw [setR_ne (by omega), updf_ne (by omega)]; exact e4
theorem CL_u7 {l : Nat} {Q : Nat → Int → Int} {N : Int → Int} {z v : Int} (cl : CL l Q N) (h0 : N 0 ≤ 8) (h1 : N 1 ≤ 4) (hz : 0 ≤ z ∧ z < 4) : CL l (setR Q (l + 7) (updf (Q (l + 7)) z v)) (updf N (137 + z) v) := by
  obtain ⟨⟨c102, c104, c103⟩, clp, clg⟩ := cl
  have n0 : updf N (137 + z) v 0 = N 0 := updf_ne (by omega)
  have n1 : updf N (137 + z) v 1 = N 1 := updf_ne (by omega)
  refine ⟨⟨?_, ?_, ?_⟩, fun p g1 g2 => ?_, fun p g1 g2 => ?_⟩
  · rw [setR_ne (by omega), updf_ne (by omega)]; exact c102
  · rw [setR_ne (by omega), updf_ne (by omega)]; exact c104
  · rw [setR_ne (by omega), updf_ne (by omega)]; exact c103
  · rw [n0] at g2
    have e := clp p g1 g2
    obtain ⟨e0, e1⟩ := e
    refine ⟨?_, ?_⟩
    · rw [setR_ne (by omega), updf_ne (by omega)]; exact e0
    · rw [setR_ne (by omega), updf_ne (by omega)]; exact e1
  · rw [n1] at g2
    have e := clg p g1 g2
    obtain ⟨e0, e1, e2, e3, e4⟩ := e
    refine ⟨?_, ?_, ?_, ?_, ?_⟩
    · rw [setR_ne (by omega), updf_ne (by omega)]; exact e0
    · rw [setR_ne (by omega), updf_ne (by omega)]; exact e1
    · rw [setR_ne (by omega), updf_ne (by omega)]; exact e2
    · rw [setR_ne (by omega), updf_ne (by omega)]; exact e3
    · by_cases hq : p = z
      · rw [setR_same, updf_same hq, updf_same (by omega)]
      · rw [setR_same, updf_ne hq, updf_ne (by omega)]; exact e4
theorem CL_f1 {l : Nat} {Q : Nat → Int → Int} {N : Int → Int} {v : Int} (cl : CL l Q N) (h0 : N 0 ≤ 8) (h1 : N 1 ≤ 4) : CL l (setR Q l (updf (Q l) 1 v)) (updf N 102 v) := by
  obtain ⟨⟨c102, c104, c103⟩, clp, clg⟩ := cl
  have n0 : updf N 102 v 0 = N 0 := updf_ne (by omega)
  have n1 : updf N 102 v 1 = N 1 := updf_ne (by omega)
  refine ⟨⟨?_, ?_, ?_⟩, fun p g1 g2 => ?_, fun p g1 g2 => ?_⟩
  · rw [setR_same, updf_same rfl, updf_same rfl]
  · rw [setR_same, updf_ne (by omega), updf_ne (by omega)]; exact c104
  · rw [setR_same, updf_ne (by omega), updf_ne (by omega)]; exact c103
  · rw [n0] at g2
    obtain ⟨e0, e1⟩ := clp p g1 g2
    refine ⟨?_, ?_⟩
    · rw [setR_ne (by omega), updf_ne (by omega)]; exact e0
    · rw [setR_ne (by omega), updf_ne (by omega)]; exact e1
  · rw [n1] at g2
    obtain ⟨e0, e1, e2, e3, e4⟩ := clg p g1 g2
    refine ⟨?_, ?_, ?_, ?_, ?_⟩
    · rw [setR_ne (by omega), updf_ne (by omega)]; exact e0
    · rw [setR_ne (by omega), updf_ne (by omega)]; exact e1
    · rw [setR_ne (by omega), updf_ne (by omega)]; exact e2
    · rw [setR_ne (by omega), updf_ne (by omega)]; exact e3
    · rw [setR_ne (by omega), updf_ne (by omega)]; exact e4
theorem CL_f2 {l : Nat} {Q : Nat → Int → Int} {N : Int → Int} {v : Int} (cl : CL l Q N) (h0 : N 0 ≤ 8) (h1 : N 1 ≤ 4) : CL l (setR Q l (updf (Q l) 2 v)) (updf N 104 v) := by
  obtain ⟨⟨c102, c104, c103⟩, clp, clg⟩ := cl
  have n0 : updf N 104 v 0 = N 0 := updf_ne (by omega)
  have n1 : updf N 104 v 1 = N 1 := updf_ne (by omega)
  refine ⟨⟨?_, ?_, ?_⟩, fun p g1 g2 => ?_, fun p g1 g2 => ?_⟩
  · rw [setR_same, updf_ne (by omega), updf_ne (by omega)]; exact c102
  · rw [setR_same, updf_same rfl, updf_same rfl]
  · rw [setR_same, updf_ne (by omega), updf_ne (by omega)]; exact c103
  · rw [n0] at g2
    obtain ⟨e0, e1⟩ := clp p g1 g2
    refine ⟨?_, ?_⟩
    · rw [setR_ne (by omega), updf_ne (by omega)]; exact e0
    · rw [setR_ne (by omega), updf_ne (by omega)]; exact e1
  · rw [n1] at g2
    obtain ⟨e0, e1, e2, e3, e4⟩ := clg p g1 g2
    refine ⟨?_, ?_, ?_, ?_, ?_⟩
    · rw [setR_ne (by omega), updf_ne (by omega)]; exact e0
    · rw [setR_ne (by omega), updf_ne (by omega)]; exact e1
    · rw [setR_ne (by omega), updf_ne (by omega)]; exact e2
    · rw [setR_ne (by omega), updf_ne (by omega)]; exact e3
    · rw [setR_ne (by omega), updf_ne (by omega)]; exact e4
theorem CL_f3 {l : Nat} {Q : Nat → Int → Int} {N : Int → Int} {v : Int} (cl : CL l Q N) (h0 : N 0 ≤ 8) (h1 : N 1 ≤ 4) : CL l (setR Q l (updf (Q l) 3 v)) (updf N 103 v) := by
  obtain ⟨⟨c102, c104, c103⟩, clp, clg⟩ := cl
  have n0 : updf N 103 v 0 = N 0 := updf_ne (by omega)
  have n1 : updf N 103 v 1 = N 1 := updf_ne (by omega)
  refine ⟨⟨?_, ?_, ?_⟩, fun p g1 g2 => ?_, fun p g1 g2 => ?_⟩
  · rw [setR_same, updf_ne (by omega), updf_ne (by omega)]; exact c102
  · rw [setR_same, updf_ne (by omega), updf_ne (by omega)]; exact c104
  · rw [setR_same, updf_same rfl, updf_same rfl]
  · rw [n0] at g2
    obtain ⟨e0, e1⟩ := clp p g1 g2
    refine ⟨?_, ?_⟩
    · rw [setR_ne (by omega), updf_ne (by omega)]; exact e0
    · rw [setR_ne (by omega), updf_ne (by omega)]; exact e1
  · rw [n1] at g2
    obtain ⟨e0, e1, e2, e3, e4⟩ := clg p g1 g2
    refine ⟨?_, ?_, ?_, ?_, ?_⟩
    · rw [setR_ne (by omega), updf_ne (by omega)]; exact e0
    · rw [setR_ne (by omega), updf_ne (by omega)]; exact e1
    · rw [setR_ne (by omega), updf_ne (by omega)]; exact e2
    · rw [setR_ne (by omega), updf_ne (by omega)]; exact e3
    · rw [setR_ne (by omega), updf_ne (by omega)]; exact e4
def AgP (N N' : Int → Int) : Prop := ∀ j, j < 102 → N' j = N j
theorem AgP_refl (N : Int → Int) : AgP N N := fun j h => rfl
theorem AgP_trans {N N' N'' : Int → Int} (h : AgP N N') (h2 : AgP N' N'') : AgP N N'' := fun j hj => (h2 j hj).trans (h j hj)
theorem AgP_upd {N N' : Int → Int} {z v : Int} (h : AgP N N') (hz : 102 ≤ z) : AgP N (updf N' z v) := fun j hj => by rw [updf_ne (by omega)]; exact h j hj
theorem rP_ag {N N' : Int → Int} {a lo hi n : Int} (h : rP N a lo hi n) (hn : a + n ≤ 102) (ag : AgP N N') : rP N' a lo hi n := fun p h1 h2 => by
  rw [ag (a + p) (by omega)]; exact h p h1 h2
theorem WFP_ag {N N' : Int → Int} (wf : WFP N) (ag : AgP N N') : WFP N' := by
  obtain ⟨wn0, wn1, wn2, wn3, wn4, wn5, wn6, wn7, wfr, wto, wff, wwa, wco, wwd, wgl, wgr, wnk, wda, wdr, wgo, wg1, wg2, wwx⟩ := wf
  have e0 := ag 0 (by omega)
  have e1 := ag 1 (by omega)
  unfold WFP
  rw [ag 2 (by omega), ag 3 (by omega), ag 4 (by omega), ag 5 (by omega), ag 6 (by omega), ag 7 (by omega), e0, e1]
  refine ⟨wn0, wn1, wn2, wn3, wn4, wn5, wn6, wn7, rP_ag wfr (by omega) ag, rP_ag wto (by omega) ag, rP_ag wff (by omega) ag, rP_ag wwa (by omega) ag, rP_ag wco (by omega) ag, fun p h1 h2 => ?_, fun g h1 h2 => ?_, rP_ag wgr (by omega) ag, rP_ag wnk (by omega) ag, rP_ag wda (by omega) ag, rP_ag wdr (by omega) ag, rP_ag wgo (by omega) ag, rP_ag wg1 (by omega) ag, rP_ag wg2 (by omega) ag, fun p h1 h2 => ?_⟩
  · rw [ag (48 + p) (by omega)]; exact wwd p h1 h2
  · have h3 := wgl g h1 h2
    rw [ag (56 + g) (by omega), ag (60 + g) (by omega), ag (64 + g) (by omega), ag (68 + g) (by omega), ag (48 + N (56 + g)) (by omega), ag (48 + N (60 + g)) (by omega)]
    exact h3
  · intro h3
    have h4 := wwd p h1 (by omega)
    rw [ag (48 + p) (by omega)] at h3 ⊢
    rw [ag (56 + N (48 + p)) (by omega), ag (60 + N (48 + p)) (by omega)]
    exact wwx p h1 h2 h3
def FrL (l : Nat) (Q Q' : Nat → Int → Int) : Prop := ∀ a, a < l ∨ l + 7 < a → Q' a = Q a
theorem FrL_refl (l : Nat) (Q : Nat → Int → Int) : FrL l Q Q := fun a h => rfl
theorem FrL_trans {l : Nat} {Q Q' Q'' : Nat → Int → Int} (h : FrL l Q Q') (h2 : FrL l Q' Q'') : FrL l Q Q'' := fun a ha => (h2 a ha).trans (h a ha)
theorem FrL_set {l k : Nat} {Q Q' : Nat → Int → Int} {M : Int → Int} (h : FrL l Q Q') (hk : l ≤ k ∧ k ≤ l + 7) : FrL l Q (setR Q' k M) := fun a ha => by
  rw [setR_ne (by omega)]; exact h a ha
theorem isLife_r {l : Nat} (h : isLife l) : 104 ≤ l ∧ l ≤ 259 := by
  unfold isLife at h; omega
theorem CP_fr {Q Q' : Nat → Int → Int} {N N' : Int → Int} {l : Nat} (cp : CP 67 Q N) (wf : WFP N) (hl : isLife l) (fr : FrL l Q Q') (ag : AgP N N') : CP 67 Q' N' := by
  have hl2 := isLife_r hl
  obtain ⟨wn0, wn1, wn2, wn3, wn4, wn5, wn6, wn7, wfr, wto, wff, wwa, wco, wwd, wgl, wgr, wnk, wda, wdr, wgo, wg1, wg2, wwx⟩ := wf
  have q : ∀ a, a < 104 → Q' a = Q a := fun a ha => fr a (by omega)
  have e0 := ag 0 (by omega)
  have e1 := ag 1 (by omega)
  have e2 := ag 2 (by omega)
  have e7 := ag 7 (by omega)
  obtain ⟨c, cpp, cpg, cpd, cpk⟩ := cp
  unfold CP
  rw [ag 3 (by omega), ag 4 (by omega), ag 5 (by omega), ag 6 (by omega), e0, e1, e2, e7, q 67 (by omega), q (67 + 2) (by omega), q (67 + 3) (by omega), q (67 + 4) (by omega), q (67 + 5) (by omega), q (67 + 6) (by omega), q (67 + 8) (by omega), q (67 + 9) (by omega), q (67 + 10) (by omega), q (67 + 11) (by omega), q (67 + 12) (by omega), q (67 + 13) (by omega), q (67 + 15) (by omega), q (67 + 16) (by omega), q (67 + 17) (by omega)]
  refine ⟨c, fun p h1 h2 => ?_, fun p h1 h2 => ?_, fun p h1 h2 => ?_, fun p h1 h2 => ?_⟩
  · rw [ag (8 + p) (by omega), ag (16 + p) (by omega), ag (24 + p) (by omega), ag (32 + p) (by omega), ag (40 + p) (by omega)]; exact cpp p h1 h2
  · rw [ag (56 + p) (by omega), ag (60 + p) (by omega), ag (64 + p) (by omega), ag (68 + p) (by omega)]; exact cpg p h1 h2
  · rw [ag (72 + p) (by omega), ag (78 + p) (by omega)]; exact cpd p h1 h2
  · rw [ag (84 + p) (by omega), ag (90 + p) (by omega), ag (96 + p) (by omega)]; exact cpk p h1 h2
