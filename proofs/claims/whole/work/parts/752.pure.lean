theorem WF_u8 {N : Int → Int} {z x : Int} (wf : WFP N) (hz : 0 ≤ z ∧ z < 8) (hx : 0 ≤ x ∧ x ≤ 23) : WFP (updf N (8 + z) x) := by
  obtain ⟨wn0, wn1, wn2, wn3, wn4, wn5, wn6, wn7, wfr, wto, wff, wwa, wco, wwd, wgl, wgr, wnk, wda, wdr, wgo, wg1, wg2, wwx⟩ := wf
  have ne : ∀ j, j ≠ 8 + z → updf N (8 + z) x j = N j := fun j hj => updf_ne hj
  have eq : updf N (8 + z) x (8 + z) = x := updf_same rfl
  refine ⟨?_, ?_, ?_, ?_, ?_, ?_, ?_, ?_, ?_, ?_, ?_, ?_, ?_, ?_, ?_, ?_, ?_, ?_, ?_, ?_, ?_, ?_, ?_⟩
  · rw [ne 0 (by omega)]; exact wn0
  · rw [ne 1 (by omega)]; exact wn1
  · rw [ne 2 (by omega)]; exact wn2
  · rw [ne 3 (by omega)]; exact wn3
  · rw [ne 4 (by omega)]; exact wn4
  · rw [ne 5 (by omega)]; exact wn5
  · rw [ne 6 (by omega)]; exact wn6
  · rw [ne 7 (by omega)]; exact wn7
  · intro q h1 h2
    by_cases hq : q = z
    · rw [hq, eq]; omega
    · rw [ne (8 + q) (by omega)]; exact wfr q h1 h2
  · intro q h1 h2
    rw [ne (16 + q) (by omega)]; exact wto q h1 h2
  · intro q h1 h2
    rw [ne (24 + q) (by omega)]; exact wff q h1 h2
  · intro q h1 h2
    rw [ne (32 + q) (by omega)]; exact wwa q h1 h2
  · intro q h1 h2
    rw [ne (40 + q) (by omega)]; exact wco q h1 h2
  · intro q h1 h2
    rw [ne (48 + q) (by omega), ne 1 (by omega)]; exact wwd q h1 h2
  · intro g h1 h2
    rw [ne 1 (by omega)] at h2
    obtain ⟨d1, d2, d3, d4, d5, d6, d7⟩ := wgl g h1 h2
    rw [ne (56 + g) (by omega), ne (60 + g) (by omega), ne (48 + N (56 + g)) (by omega), ne (48 + N (60 + g)) (by omega)]
    refine ⟨by rw [ne 0 (by omega)]; exact d1, by rw [ne 0 (by omega)]; exact d2, d3, d4, d5, by rw [ne (64 + g) (by omega)]; exact d6, by rw [ne (68 + g) (by omega)]; exact d7⟩
  · intro q h1 h2
    rw [ne (64 + q) (by omega)]; exact wgr q h1 h2
  · intro q h1 h2
    rw [ne (68 + q) (by omega)]; exact wnk q h1 h2
  · intro q h1 h2
    rw [ne (72 + q) (by omega)]; exact wda q h1 h2
  · intro q h1 h2
    rw [ne (78 + q) (by omega)]; exact wdr q h1 h2
  · intro q h1 h2
    rw [ne (84 + q) (by omega)]; exact wgo q h1 h2
  · intro q h1 h2
    rw [ne (90 + q) (by omega)]; exact wg1 q h1 h2
  · intro q h1 h2
    rw [ne (96 + q) (by omega)]; exact wg2 q h1 h2
  · intro p h1 h2 h3
    rw [ne 0 (by omega)] at h2
    have h4 := wwd p h1 (by omega)
    rw [ne (48 + p) (by omega)] at h3 ⊢
    rw [ne (56 + N (48 + p)) (by omega), ne (60 + N (48 + p)) (by omega)]
    exact wwx p h1 h2 h3
theorem WF_u16 {N : Int → Int} {z x : Int} (wf : WFP N) (hz : 0 ≤ z ∧ z < 8) (hx : 0 ≤ x ∧ x ≤ 23) : WFP (updf N (16 + z) x) := by
  obtain ⟨wn0, wn1, wn2, wn3, wn4, wn5, wn6, wn7, wfr, wto, wff, wwa, wco, wwd, wgl, wgr, wnk, wda, wdr, wgo, wg1, wg2, wwx⟩ := wf
  have ne : ∀ j, j ≠ 16 + z → updf N (16 + z) x j = N j := fun j hj => updf_ne hj
  have eq : updf N (16 + z) x (16 + z) = x := updf_same rfl
  refine ⟨?_, ?_, ?_, ?_, ?_, ?_, ?_, ?_, ?_, ?_, ?_, ?_, ?_, ?_, ?_, ?_, ?_, ?_, ?_, ?_, ?_, ?_, ?_⟩
  · rw [ne 0 (by omega)]; exact wn0
  · rw [ne 1 (by omega)]; exact wn1
  · rw [ne 2 (by omega)]; exact wn2
  · rw [ne 3 (by omega)]; exact wn3
  · rw [ne 4 (by omega)]; exact wn4
  · rw [ne 5 (by omega)]; exact wn5
  · rw [ne 6 (by omega)]; exact wn6
  · rw [ne 7 (by omega)]; exact wn7
  · intro q h1 h2
    rw [ne (8 + q) (by omega)]; exact wfr q h1 h2
  · intro q h1 h2
    by_cases hq : q = z
    · rw [hq, eq]; omega
    · rw [ne (16 + q) (by omega)]; exact wto q h1 h2
  · intro q h1 h2
    rw [ne (24 + q) (by omega)]; exact wff q h1 h2
  · intro q h1 h2
    rw [ne (32 + q) (by omega)]; exact wwa q h1 h2
  · intro q h1 h2
    rw [ne (40 + q) (by omega)]; exact wco q h1 h2
  · intro q h1 h2
    rw [ne (48 + q) (by omega), ne 1 (by omega)]; exact wwd q h1 h2
  · intro g h1 h2
    rw [ne 1 (by omega)] at h2
    obtain ⟨d1, d2, d3, d4, d5, d6, d7⟩ := wgl g h1 h2
    rw [ne (56 + g) (by omega), ne (60 + g) (by omega), ne (48 + N (56 + g)) (by omega), ne (48 + N (60 + g)) (by omega)]
    refine ⟨by rw [ne 0 (by omega)]; exact d1, by rw [ne 0 (by omega)]; exact d2, d3, d4, d5, by rw [ne (64 + g) (by omega)]; exact d6, by rw [ne (68 + g) (by omega)]; exact d7⟩
  · intro q h1 h2
    rw [ne (64 + q) (by omega)]; exact wgr q h1 h2
  · intro q h1 h2
    rw [ne (68 + q) (by omega)]; exact wnk q h1 h2
  · intro q h1 h2
    rw [ne (72 + q) (by omega)]; exact wda q h1 h2
  · intro q h1 h2
    rw [ne (78 + q) (by omega)]; exact wdr q h1 h2
  · intro q h1 h2
    rw [ne (84 + q) (by omega)]; exact wgo q h1 h2
  · intro q h1 h2
    rw [ne (90 + q) (by omega)]; exact wg1 q h1 h2
  · intro q h1 h2
    rw [ne (96 + q) (by omega)]; exact wg2 q h1 h2
  · intro p h1 h2 h3
    rw [ne 0 (by omega)] at h2
    have h4 := wwd p h1 (by omega)
    rw [ne (48 + p) (by omega)] at h3 ⊢
    rw [ne (56 + N (48 + p)) (by omega), ne (60 + N (48 + p)) (by omega)]
    exact wwx p h1 h2 h3
theorem WF_u24 {N : Int → Int} {z x : Int} (wf : WFP N) (hz : 0 ≤ z ∧ z < 8) (hx : 0 ≤ x ∧ x ≤ 99) : WFP (updf N (24 + z) x) := by
  obtain ⟨wn0, wn1, wn2, wn3, wn4, wn5, wn6, wn7, wfr, wto, wff, wwa, wco, wwd, wgl, wgr, wnk, wda, wdr, wgo, wg1, wg2, wwx⟩ := wf
  have ne : ∀ j, j ≠ 24 + z → updf N (24 + z) x j = N j := fun j hj => updf_ne hj
  have eq : updf N (24 + z) x (24 + z) = x := updf_same rfl
  refine ⟨?_, ?_, ?_, ?_, ?_, ?_, ?_, ?_, ?_, ?_, ?_, ?_, ?_, ?_, ?_, ?_, ?_, ?_, ?_, ?_, ?_, ?_, ?_⟩
  · rw [ne 0 (by omega)]; exact wn0
  · rw [ne 1 (by omega)]; exact wn1
  · rw [ne 2 (by omega)]; exact wn2
  · rw [ne 3 (by omega)]; exact wn3
  · rw [ne 4 (by omega)]; exact wn4
  · rw [ne 5 (by omega)]; exact wn5
  · rw [ne 6 (by omega)]; exact wn6
  · rw [ne 7 (by omega)]; exact wn7
  · intro q h1 h2
    rw [ne (8 + q) (by omega)]; exact wfr q h1 h2
  · intro q h1 h2
    rw [ne (16 + q) (by omega)]; exact wto q h1 h2
  · intro q h1 h2
    by_cases hq : q = z
    · rw [hq, eq]; omega
    · rw [ne (24 + q) (by omega)]; exact wff q h1 h2
  · intro q h1 h2
    rw [ne (32 + q) (by omega)]; exact wwa q h1 h2
  · intro q h1 h2
    rw [ne (40 + q) (by omega)]; exact wco q h1 h2
  · intro q h1 h2
    rw [ne (48 + q) (by omega), ne 1 (by omega)]; exact wwd q h1 h2
  · intro g h1 h2
    rw [ne 1 (by omega)] at h2
    obtain ⟨d1, d2, d3, d4, d5, d6, d7⟩ := wgl g h1 h2
    rw [ne (56 + g) (by omega), ne (60 + g) (by omega), ne (48 + N (56 + g)) (by omega), ne (48 + N (60 + g)) (by omega)]
    refine ⟨by rw [ne 0 (by omega)]; exact d1, by rw [ne 0 (by omega)]; exact d2, d3, d4, d5, by rw [ne (64 + g) (by omega)]; exact d6, by rw [ne (68 + g) (by omega)]; exact d7⟩
  · intro q h1 h2
    rw [ne (64 + q) (by omega)]; exact wgr q h1 h2
  · intro q h1 h2
    rw [ne (68 + q) (by omega)]; exact wnk q h1 h2
  · intro q h1 h2
    rw [ne (72 + q) (by omega)]; exact wda q h1 h2
  · intro q h1 h2
    rw [ne (78 + q) (by omega)]; exact wdr q h1 h2
  · intro q h1 h2
    rw [ne (84 + q) (by omega)]; exact wgo q h1 h2
  · intro q h1 h2
    rw [ne (90 + q) (by omega)]; exact wg1 q h1 h2
  · intro q h1 h2
    rw [ne (96 + q) (by omega)]; exact wg2 q h1 h2
  · intro p h1 h2 h3
    rw [ne 0 (by omega)] at h2
    have h4 := wwd p h1 (by omega)
    rw [ne (48 + p) (by omega)] at h3 ⊢
    rw [ne (56 + N (48 + p)) (by omega), ne (60 + N (48 + p)) (by omega)]
    exact wwx p h1 h2 h3
theorem WF_u32 {N : Int → Int} {z x : Int} (wf : WFP N) (hz : 0 ≤ z ∧ z < 8) (hx : 0 ≤ x ∧ x ≤ 9) : WFP (updf N (32 + z) x) := by
  obtain ⟨wn0, wn1, wn2, wn3, wn4, wn5, wn6, wn7, wfr, wto, wff, wwa, wco, wwd, wgl, wgr, wnk, wda, wdr, wgo, wg1, wg2, wwx⟩ := wf
  have ne : ∀ j, j ≠ 32 + z → updf N (32 + z) x j = N j := fun j hj => updf_ne hj
  have eq : updf N (32 + z) x (32 + z) = x := updf_same rfl
  refine ⟨?_, ?_, ?_, ?_, ?_, ?_, ?_, ?_, ?_, ?_, ?_, ?_, ?_, ?_, ?_, ?_, ?_, ?_, ?_, ?_, ?_, ?_, ?_⟩
  · rw [ne 0 (by omega)]; exact wn0
  · rw [ne 1 (by omega)]; exact wn1
  · rw [ne 2 (by omega)]; exact wn2
  · rw [ne 3 (by omega)]; exact wn3
  · rw [ne 4 (by omega)]; exact wn4
  · rw [ne 5 (by omega)]; exact wn5
  · rw [ne 6 (by omega)]; exact wn6
  · rw [ne 7 (by omega)]; exact wn7
  · intro q h1 h2
    rw [ne (8 + q) (by omega)]; exact wfr q h1 h2
  · intro q h1 h2
    rw [ne (16 + q) (by omega)]; exact wto q h1 h2
  · intro q h1 h2
    rw [ne (24 + q) (by omega)]; exact wff q h1 h2
  · intro q h1 h2
    by_cases hq : q = z
    · rw [hq, eq]; omega
    · rw [ne (32 + q) (by omega)]; exact wwa q h1 h2
  · intro q h1 h2
    rw [ne (40 + q) (by omega)]; exact wco q h1 h2
  · intro q h1 h2
    rw [ne (48 + q) (by omega), ne 1 (by omega)]; exact wwd q h1 h2
  · intro g h1 h2
    rw [ne 1 (by omega)] at h2
    obtain ⟨d1, d2, d3, d4, d5, d6, d7⟩ := wgl g h1 h2
    rw [ne (56 + g) (by omega), ne (60 + g) (by omega), ne (48 + N (56 + g)) (by omega), ne (48 + N (60 + g)) (by omega)]
    refine ⟨by rw [ne 0 (by omega)]; exact d1, by rw [ne 0 (by omega)]; exact d2, d3, d4, d5, by rw [ne (64 + g) (by omega)]; exact d6, by rw [ne (68 + g) (by omega)]; exact d7⟩
  · intro q h1 h2
    rw [ne (64 + q) (by omega)]; exact wgr q h1 h2
  · intro q h1 h2
    rw [ne (68 + q) (by omega)]; exact wnk q h1 h2
  · intro q h1 h2
    rw [ne (72 + q) (by omega)]; exact wda q h1 h2
  · intro q h1 h2
    rw [ne (78 + q) (by omega)]; exact wdr q h1 h2
  · intro q h1 h2
    rw [ne (84 + q) (by omega)]; exact wgo q h1 h2
  · intro q h1 h2
    rw [ne (90 + q) (by omega)]; exact wg1 q h1 h2
  · intro q h1 h2
    rw [ne (96 + q) (by omega)]; exact wg2 q h1 h2
  · intro p h1 h2 h3
    rw [ne 0 (by omega)] at h2
    have h4 := wwd p h1 (by omega)
    rw [ne (48 + p) (by omega)] at h3 ⊢
    rw [ne (56 + N (48 + p)) (by omega), ne (60 + N (48 + p)) (by omega)]
    exact wwx p h1 h2 h3
theorem WF_u40 {N : Int → Int} {z x : Int} (wf : WFP N) (hz : 0 ≤ z ∧ z < 8) (hx : 0 ≤ x ∧ x ≤ 9) : WFP (updf N (40 + z) x) := by
  obtain ⟨wn0, wn1, wn2, wn3, wn4, wn5, wn6, wn7, wfr, wto, wff, wwa, wco, wwd, wgl, wgr, wnk, wda, wdr, wgo, wg1, wg2, wwx⟩ := wf
  have ne : ∀ j, j ≠ 40 + z → updf N (40 + z) x j = N j := fun j hj => updf_ne hj
  have eq : updf N (40 + z) x (40 + z) = x := updf_same rfl
  refine ⟨?_, ?_, ?_, ?_, ?_, ?_, ?_, ?_, ?_, ?_, ?_, ?_, ?_, ?_, ?_, ?_, ?_, ?_, ?_, ?_, ?_, ?_, ?_⟩
  · rw [ne 0 (by omega)]; exact wn0
  · rw [ne 1 (by omega)]; exact wn1
  · rw [ne 2 (by omega)]; exact wn2
  · rw [ne 3 (by omega)]; exact wn3
  · rw [ne 4 (by omega)]; exact wn4
  · rw [ne 5 (by omega)]; exact wn5
  · rw [ne 6 (by omega)]; exact wn6
  · rw [ne 7 (by omega)]; exact wn7
  · intro q h1 h2
    rw [ne (8 + q) (by omega)]; exact wfr q h1 h2
  · intro q h1 h2
    rw [ne (16 + q) (by omega)]; exact wto q h1 h2
  · intro q h1 h2
    rw [ne (24 + q) (by omega)]; exact wff q h1 h2
  · intro q h1 h2
    rw [ne (32 + q) (by omega)]; exact wwa q h1 h2
  · intro q h1 h2
    by_cases hq : q = z
    · rw [hq, eq]; omega
    · rw [ne (40 + q) (by omega)]; exact wco q h1 h2
  · intro q h1 h2
    rw [ne (48 + q) (by omega), ne 1 (by omega)]; exact wwd q h1 h2
  · intro g h1 h2
    rw [ne 1 (by omega)] at h2
    obtain ⟨d1, d2, d3, d4, d5, d6, d7⟩ := wgl g h1 h2
    rw [ne (56 + g) (by omega), ne (60 + g) (by omega), ne (48 + N (56 + g)) (by omega), ne (48 + N (60 + g)) (by omega)]
    refine ⟨by rw [ne 0 (by omega)]; exact d1, by rw [ne 0 (by omega)]; exact d2, d3, d4, d5, by rw [ne (64 + g) (by omega)]; exact d6, by rw [ne (68 + g) (by omega)]; exact d7⟩
  · intro q h1 h2
    rw [ne (64 + q) (by omega)]; exact wgr q h1 h2
  · intro q h1 h2
    rw [ne (68 + q) (by omega)]; exact wnk q h1 h2
  · intro q h1 h2
    rw [ne (72 + q) (by omega)]; exact wda q h1 h2
  · intro q h1 h2
    rw [ne (78 + q) (by omega)]; exact wdr q h1 h2
  · intro q h1 h2
    rw [ne (84 + q) (by omega)]; exact wgo q h1 h2
  · intro q h1 h2
    rw [ne (90 + q) (by omega)]; exact wg1 q h1 h2
  · intro q h1 h2
    rw [ne (96 + q) (by omega)]; exact wg2 q h1 h2
  · intro p h1 h2 h3
    rw [ne 0 (by omega)] at h2
    have h4 := wwd p h1 (by omega)
    rw [ne (48 + p) (by omega)] at h3 ⊢
    rw [ne (56 + N (48 + p)) (by omega), ne (60 + N (48 + p)) (by omega)]
    exact wwx p h1 h2 h3
theorem WF_u64 {N : Int → Int} {z x : Int} (wf : WFP N) (hz : 0 ≤ z ∧ z < 4) (hx : 1 ≤ x ∧ x ≤ 250) : WFP (updf N (64 + z) x) := by
  obtain ⟨wn0, wn1, wn2, wn3, wn4, wn5, wn6, wn7, wfr, wto, wff, wwa, wco, wwd, wgl, wgr, wnk, wda, wdr, wgo, wg1, wg2, wwx⟩ := wf
  have ne : ∀ j, j ≠ 64 + z → updf N (64 + z) x j = N j := fun j hj => updf_ne hj
  have eq : updf N (64 + z) x (64 + z) = x := updf_same rfl
  refine ⟨?_, ?_, ?_, ?_, ?_, ?_, ?_, ?_, ?_, ?_, ?_, ?_, ?_, ?_, ?_, ?_, ?_, ?_, ?_, ?_, ?_, ?_, ?_⟩
  · rw [ne 0 (by omega)]; exact wn0
  · rw [ne 1 (by omega)]; exact wn1
  · rw [ne 2 (by omega)]; exact wn2
  · rw [ne 3 (by omega)]; exact wn3
  · rw [ne 4 (by omega)]; exact wn4
  · rw [ne 5 (by omega)]; exact wn5
  · rw [ne 6 (by omega)]; exact wn6
  · rw [ne 7 (by omega)]; exact wn7
  · intro q h1 h2
    rw [ne (8 + q) (by omega)]; exact wfr q h1 h2
  · intro q h1 h2
    rw [ne (16 + q) (by omega)]; exact wto q h1 h2
  · intro q h1 h2
    rw [ne (24 + q) (by omega)]; exact wff q h1 h2
  · intro q h1 h2
    rw [ne (32 + q) (by omega)]; exact wwa q h1 h2
  · intro q h1 h2
    rw [ne (40 + q) (by omega)]; exact wco q h1 h2
  · intro q h1 h2
    rw [ne (48 + q) (by omega), ne 1 (by omega)]; exact wwd q h1 h2
  · intro g h1 h2
    rw [ne 1 (by omega)] at h2
    obtain ⟨d1, d2, d3, d4, d5, d6, d7⟩ := wgl g h1 h2
    rw [ne (56 + g) (by omega), ne (60 + g) (by omega), ne (48 + N (56 + g)) (by omega), ne (48 + N (60 + g)) (by omega)]
    refine ⟨by rw [ne 0 (by omega)]; exact d1, by rw [ne 0 (by omega)]; exact d2, d3, d4, d5, ?_, ?_⟩
    · by_cases hq : g = z
      · rw [hq, eq]; omega
      · rw [ne (64 + g) (by omega)]; omega
    · rw [ne (68 + g) (by omega)]; omega
  · intro q h1 h2
    by_cases hq : q = z
    · rw [hq, eq]; omega
    · rw [ne (64 + q) (by omega)]; exact wgr q h1 h2
  · intro q h1 h2
    rw [ne (68 + q) (by omega)]; exact wnk q h1 h2
  · intro q h1 h2
    rw [ne (72 + q) (by omega)]; exact wda q h1 h2
  · intro q h1 h2
    rw [ne (78 + q) (by omega)]; exact wdr q h1 h2
  · intro q h1 h2
    rw [ne (84 + q) (by omega)]; exact wgo q h1 h2
  · intro q h1 h2
    rw [ne (90 + q) (by omega)]; exact wg1 q h1 h2
  · intro q h1 h2
    rw [ne (96 + q) (by omega)]; exact wg2 q h1 h2
  · intro p h1 h2 h3
    rw [ne 0 (by omega)] at h2
    have h4 := wwd p h1 (by omega)
    rw [ne (48 + p) (by omega)] at h3 ⊢
    rw [ne (56 + N (48 + p)) (by omega), ne (60 + N (48 + p)) (by omega)]
    exact wwx p h1 h2 h3
theorem WF_u68 {N : Int → Int} {z x : Int} (wf : WFP N) (hz : 0 ≤ z ∧ z < 4) (hx : 1 ≤ x ∧ x ≤ 9) : WFP (updf N (68 + z) x) := by
  obtain ⟨wn0, wn1, wn2, wn3, wn4, wn5, wn6, wn7, wfr, wto, wff, wwa, wco, wwd, wgl, wgr, wnk, wda, wdr, wgo, wg1, wg2, wwx⟩ := wf
  have ne : ∀ j, j ≠ 68 + z → updf N (68 + z) x j = N j := fun j hj => updf_ne hj
  have eq : updf N (68 + z) x (68 + z) = x := updf_same rfl
  refine ⟨?_, ?_, ?_, ?_, ?_, ?_, ?_, ?_, ?_, ?_, ?_, ?_, ?_, ?_, ?_, ?_, ?_, ?_, ?_, ?_, ?_, ?_, ?_⟩
  · rw [ne 0 (by omega)]; exact wn0
  · rw [ne 1 (by omega)]; exact wn1
  · rw [ne 2 (by omega)]; exact wn2
  · rw [ne 3 (by omega)]; exact wn3
  · rw [ne 4 (by omega)]; exact wn4
  · rw [ne 5 (by omega)]; exact wn5
  · rw [ne 6 (by omega)]; exact wn6
  · rw [ne 7 (by omega)]; exact wn7
  · intro q h1 h2
    rw [ne (8 + q) (by omega)]; exact wfr q h1 h2
  · intro q h1 h2
    rw [ne (16 + q) (by omega)]; exact wto q h1 h2
  · intro q h1 h2
    rw [ne (24 + q) (by omega)]; exact wff q h1 h2
  · intro q h1 h2
    rw [ne (32 + q) (by omega)]; exact wwa q h1 h2
  · intro q h1 h2
    rw [ne (40 + q) (by omega)]; exact wco q h1 h2
  · intro q h1 h2
    rw [ne (48 + q) (by omega), ne 1 (by omega)]; exact wwd q h1 h2
  · intro g h1 h2
    rw [ne 1 (by omega)] at h2
    obtain ⟨d1, d2, d3, d4, d5, d6, d7⟩ := wgl g h1 h2
    rw [ne (56 + g) (by omega), ne (60 + g) (by omega), ne (48 + N (56 + g)) (by omega), ne (48 + N (60 + g)) (by omega)]
    refine ⟨by rw [ne 0 (by omega)]; exact d1, by rw [ne 0 (by omega)]; exact d2, d3, d4, d5, ?_, ?_⟩
    · rw [ne (64 + g) (by omega)]; omega
    · by_cases hq : g = z
      · rw [hq, eq]; omega
      · rw [ne (68 + g) (by omega)]; omega
  · intro q h1 h2
    rw [ne (64 + q) (by omega)]; exact wgr q h1 h2
  · intro q h1 h2
    by_cases hq : q = z
    · rw [hq, eq]; omega
    · rw [ne (68 + q) (by omega)]; exact wnk q h1 h2
  · intro q h1 h2
    rw [ne (72 + q) (by omega)]; exact wda q h1 h2
  · intro q h1 h2
    rw [ne (78 + q) (by omega)]; exact wdr q h1 h2
  · intro q h1 h2
    rw [ne (84 + q) (by omega)]; exact wgo q h1 h2
  · intro q h1 h2
    rw [ne (90 + q) (by omega)]; exact wg1 q h1 h2
  · intro q h1 h2
    rw [ne (96 + q) (by omega)]; exact wg2 q h1 h2
  · intro p h1 h2 h3
    rw [ne 0 (by omega)] at h2
    have h4 := wwd p h1 (by omega)
    rw [ne (48 + p) (by omega)] at h3 ⊢
    rw [ne (56 + N (48 + p)) (by omega), ne (60 + N (48 + p)) (by omega)]
    exact wwx p h1 h2 h3
theorem WF_u72 {N : Int → Int} {z x : Int} (wf : WFP N) (hz : 0 ≤ z ∧ z < 6) (hx : 0 ≤ x ∧ x ≤ 599) : WFP (updf N (72 + z) x) := by
  obtain ⟨wn0, wn1, wn2, wn3, wn4, wn5, wn6, wn7, wfr, wto, wff, wwa, wco, wwd, wgl, wgr, wnk, wda, wdr, wgo, wg1, wg2, wwx⟩ := wf
  have ne : ∀ j, j ≠ 72 + z → updf N (72 + z) x j = N j := fun j hj => updf_ne hj
  have eq : updf N (72 + z) x (72 + z) = x := updf_same rfl
  refine ⟨?_, ?_, ?_, ?_, ?_, ?_, ?_, ?_, ?_, ?_, ?_, ?_, ?_, ?_, ?_, ?_, ?_, ?_, ?_, ?_, ?_, ?_, ?_⟩
  · rw [ne 0 (by omega)]; exact wn0
  · rw [ne 1 (by omega)]; exact wn1
  · rw [ne 2 (by omega)]; exact wn2
  · rw [ne 3 (by omega)]; exact wn3
  · rw [ne 4 (by omega)]; exact wn4
  · rw [ne 5 (by omega)]; exact wn5
  · rw [ne 6 (by omega)]; exact wn6
  · rw [ne 7 (by omega)]; exact wn7
  · intro q h1 h2
    rw [ne (8 + q) (by omega)]; exact wfr q h1 h2
  · intro q h1 h2
    rw [ne (16 + q) (by omega)]; exact wto q h1 h2
  · intro q h1 h2
    rw [ne (24 + q) (by omega)]; exact wff q h1 h2
  · intro q h1 h2
    rw [ne (32 + q) (by omega)]; exact wwa q h1 h2
  · intro q h1 h2
    rw [ne (40 + q) (by omega)]; exact wco q h1 h2
  · intro q h1 h2
    rw [ne (48 + q) (by omega), ne 1 (by omega)]; exact wwd q h1 h2
  · intro g h1 h2
    rw [ne 1 (by omega)] at h2
    obtain ⟨d1, d2, d3, d4, d5, d6, d7⟩ := wgl g h1 h2
    rw [ne (56 + g) (by omega), ne (60 + g) (by omega), ne (48 + N (56 + g)) (by omega), ne (48 + N (60 + g)) (by omega)]
    refine ⟨by rw [ne 0 (by omega)]; exact d1, by rw [ne 0 (by omega)]; exact d2, d3, d4, d5, by rw [ne (64 + g) (by omega)]; exact d6, by rw [ne (68 + g) (by omega)]; exact d7⟩
  · intro q h1 h2
    rw [ne (64 + q) (by omega)]; exact wgr q h1 h2
  · intro q h1 h2
    rw [ne (68 + q) (by omega)]; exact wnk q h1 h2
  · intro q h1 h2
    by_cases hq : q = z
    · rw [hq, eq]; omega
    · rw [ne (72 + q) (by omega)]; exact wda q h1 h2
  · intro q h1 h2
    rw [ne (78 + q) (by omega)]; exact wdr q h1 h2
  · intro q h1 h2
    rw [ne (84 + q) (by omega)]; exact wgo q h1 h2
  · intro q h1 h2
    rw [ne (90 + q) (by omega)]; exact wg1 q h1 h2
  · intro q h1 h2
    rw [ne (96 + q) (by omega)]; exact wg2 q h1 h2
  · intro p h1 h2 h3
    rw [ne 0 (by omega)] at h2
    have h4 := wwd p h1 (by omega)
    rw [ne (48 + p) (by omega)] at h3 ⊢
    rw [ne (56 + N (48 + p)) (by omega), ne (60 + N (48 + p)) (by omega)]
    exact wwx p h1 h2 h3
theorem WF_u78 {N : Int → Int} {z x : Int} (wf : WFP N) (hz : 0 ≤ z ∧ z < 6) (hx : 0 ≤ x ∧ x ≤ 599) : WFP (updf N (78 + z) x) := by
  obtain ⟨wn0, wn1, wn2, wn3, wn4, wn5, wn6, wn7, wfr, wto, wff, wwa, wco, wwd, wgl, wgr, wnk, wda, wdr, wgo, wg1, wg2, wwx⟩ := wf
  have ne : ∀ j, j ≠ 78 + z → updf N (78 + z) x j = N j := fun j hj => updf_ne hj
  have eq : updf N (78 + z) x (78 + z) = x := updf_same rfl
  refine ⟨?_, ?_, ?_, ?_, ?_, ?_, ?_, ?_, ?_, ?_, ?_, ?_, ?_, ?_, ?_, ?_, ?_, ?_, ?_, ?_, ?_, ?_, ?_⟩
  · rw [ne 0 (by omega)]; exact wn0
  · rw [ne 1 (by omega)]; exact wn1
  · rw [ne 2 (by omega)]; exact wn2
  · rw [ne 3 (by omega)]; exact wn3
  · rw [ne 4 (by omega)]; exact wn4
  · rw [ne 5 (by omega)]; exact wn5
  · rw [ne 6 (by omega)]; exact wn6
  · rw [ne 7 (by omega)]; exact wn7
  · intro q h1 h2
    rw [ne (8 + q) (by omega)]; exact wfr q h1 h2
  · intro q h1 h2
    rw [ne (16 + q) (by omega)]; exact wto q h1 h2
  · intro q h1 h2
    rw [ne (24 + q) (by omega)]; exact wff q h1 h2
  · intro q h1 h2
    rw [ne (32 + q) (by omega)]; exact wwa q h1 h2
  · intro q h1 h2
    rw [ne (40 + q) (by omega)]; exact wco q h1 h2
  · intro q h1 h2
    rw [ne (48 + q) (by omega), ne 1 (by omega)]; exact wwd q h1 h2
  · intro g h1 h2
    rw [ne 1 (by omega)] at h2
    obtain ⟨d1, d2, d3, d4, d5, d6, d7⟩ := wgl g h1 h2
    rw [ne (56 + g) (by omega), ne (60 + g) (by omega), ne (48 + N (56 + g)) (by omega), ne (48 + N (60 + g)) (by omega)]
    refine ⟨by rw [ne 0 (by omega)]; exact d1, by rw [ne 0 (by omega)]; exact d2, d3, d4, d5, by rw [ne (64 + g) (by omega)]; exact d6, by rw [ne (68 + g) (by omega)]; exact d7⟩
  · intro q h1 h2
    rw [ne (64 + q) (by omega)]; exact wgr q h1 h2
  · intro q h1 h2
    rw [ne (68 + q) (by omega)]; exact wnk q h1 h2
  · intro q h1 h2
    rw [ne (72 + q) (by omega)]; exact wda q h1 h2
  · intro q h1 h2
    by_cases hq : q = z
    · rw [hq, eq]; omega
    · rw [ne (78 + q) (by omega)]; exact wdr q h1 h2
  · intro q h1 h2
    rw [ne (84 + q) (by omega)]; exact wgo q h1 h2
  · intro q h1 h2
    rw [ne (90 + q) (by omega)]; exact wg1 q h1 h2
  · intro q h1 h2
    rw [ne (96 + q) (by omega)]; exact wg2 q h1 h2
  · intro p h1 h2 h3
    rw [ne 0 (by omega)] at h2
    have h4 := wwd p h1 (by omega)
    rw [ne (48 + p) (by omega)] at h3 ⊢
    rw [ne (56 + N (48 + p)) (by omega), ne (60 + N (48 + p)) (by omega)]
    exact wwx p h1 h2 h3
theorem WF_u84 {N : Int → Int} {z x : Int} (wf : WFP N) (hz : 0 ≤ z ∧ z < 6) (hx : 0 ≤ x ∧ x ≤ 3) : WFP (updf N (84 + z) x) := by
  obtain ⟨wn0, wn1, wn2, wn3, wn4, wn5, wn6, wn7, wfr, wto, wff, wwa, wco, wwd, wgl, wgr, wnk, wda, wdr, wgo, wg1, wg2, wwx⟩ := wf
  have ne : ∀ j, j ≠ 84 + z → updf N (84 + z) x j = N j := fun j hj => updf_ne hj
  have eq : updf N (84 + z) x (84 + z) = x := updf_same rfl
  refine ⟨?_, ?_, ?_, ?_, ?_, ?_, ?_, ?_, ?_, ?_, ?_, ?_, ?_, ?_, ?_, ?_, ?_, ?_, ?_, ?_, ?_, ?_, ?_⟩
  · rw [ne 0 (by omega)]; exact wn0
  · rw [ne 1 (by omega)]; exact wn1
  · rw [ne 2 (by omega)]; exact wn2
  · rw [ne 3 (by omega)]; exact wn3
  · rw [ne 4 (by omega)]; exact wn4
  · rw [ne 5 (by omega)]; exact wn5
  · rw [ne 6 (by omega)]; exact wn6
  · rw [ne 7 (by omega)]; exact wn7
  · intro q h1 h2
    rw [ne (8 + q) (by omega)]; exact wfr q h1 h2
  · intro q h1 h2
    rw [ne (16 + q) (by omega)]; exact wto q h1 h2
  · intro q h1 h2
    rw [ne (24 + q) (by omega)]; exact wff q h1 h2
  · intro q h1 h2
    rw [ne (32 + q) (by omega)]; exact wwa q h1 h2
  · intro q h1 h2
    rw [ne (40 + q) (by omega)]; exact wco q h1 h2
  · intro q h1 h2
    rw [ne (48 + q) (by omega), ne 1 (by omega)]; exact wwd q h1 h2
  · intro g h1 h2
    rw [ne 1 (by omega)] at h2
    obtain ⟨d1, d2, d3, d4, d5, d6, d7⟩ := wgl g h1 h2
    rw [ne (56 + g) (by omega), ne (60 + g) (by omega), ne (48 + N (56 + g)) (by omega), ne (48 + N (60 + g)) (by omega)]
    refine ⟨by rw [ne 0 (by omega)]; exact d1, by rw [ne 0 (by omega)]; exact d2, d3, d4, d5, by rw [ne (64 + g) (by omega)]; exact d6, by rw [ne (68 + g) (by omega)]; exact d7⟩
  · intro q h1 h2
    rw [ne (64 + q) (by omega)]; exact wgr q h1 h2
  · intro q h1 h2
    rw [ne (68 + q) (by omega)]; exact wnk q h1 h2
  · intro q h1 h2
    rw [ne (72 + q) (by omega)]; exact wda q h1 h2
  · intro q h1 h2
    rw [ne (78 + q) (by omega)]; exact wdr q h1 h2
  · intro q h1 h2
    by_cases hq : q = z
    · rw [hq, eq]; omega
    · rw [ne (84 + q) (by omega)]; exact wgo q h1 h2
  · intro q h1 h2
    rw [ne (90 + q) (by omega)]; exact wg1 q h1 h2
  · intro q h1 h2
    rw [ne (96 + q) (by omega)]; exact wg2 q h1 h2
  · intro p h1 h2 h3
    rw [ne 0 (by omega)] at h2
    have h4 := wwd p h1 (by omega)
    rw [ne (48 + p) (by omega)] at h3 ⊢
    rw [ne (56 + N (48 + p)) (by omega), ne (60 + N (48 + p)) (by omega)]
    exact wwx p h1 h2 h3
theorem WF_u90 {N : Int → Int} {z x : Int} (wf : WFP N) (hz : 0 ≤ z ∧ z < 6) (hx : 0 ≤ x ∧ x ≤ 99) : WFP (updf N (90 + z) x) := by
  obtain ⟨wn0, wn1, wn2, wn3, wn4, wn5, wn6, wn7, wfr, wto, wff, wwa, wco, wwd, wgl, wgr, wnk, wda, wdr, wgo, wg1, wg2, wwx⟩ := wf
  have ne : ∀ j, j ≠ 90 + z → updf N (90 + z) x j = N j := fun j hj => updf_ne hj
  have eq : updf N (90 + z) x (90 + z) = x := updf_same rfl
  refine ⟨?_, ?_, ?_, ?_, ?_, ?_, ?_, ?_, ?_, ?_, ?_, ?_, ?_, ?_, ?_, ?_, ?_, ?_, ?_, ?_, ?_, ?_, ?_⟩
  · rw [ne 0 (by omega)]; exact wn0
  · rw [ne 1 (by omega)]; exact wn1
  · rw [ne 2 (by omega)]; exact wn2
  · rw [ne 3 (by omega)]; exact wn3
  · rw [ne 4 (by omega)]; exact wn4
  · rw [ne 5 (by omega)]; exact wn5
  · rw [ne 6 (by omega)]; exact wn6
  · rw [ne 7 (by omega)]; exact wn7
  · intro q h1 h2
    rw [ne (8 + q) (by omega)]; exact wfr q h1 h2
  · intro q h1 h2
    rw [ne (16 + q) (by omega)]; exact wto q h1 h2
  · intro q h1 h2
    rw [ne (24 + q) (by omega)]; exact wff q h1 h2
  · intro q h1 h2
    rw [ne (32 + q) (by omega)]; exact wwa q h1 h2
  · intro q h1 h2
    rw [ne (40 + q) (by omega)]; exact wco q h1 h2
  · intro q h1 h2
    rw [ne (48 + q) (by omega), ne 1 (by omega)]; exact wwd q h1 h2
  · intro g h1 h2
    rw [ne 1 (by omega)] at h2
    obtain ⟨d1, d2, d3, d4, d5, d6, d7⟩ := wgl g h1 h2
    rw [ne (56 + g) (by omega), ne (60 + g) (by omega), ne (48 + N (56 + g)) (by omega), ne (48 + N (60 + g)) (by omega)]
    refine ⟨by rw [ne 0 (by omega)]; exact d1, by rw [ne 0 (by omega)]; exact d2, d3, d4, d5, by rw [ne (64 + g) (by omega)]; exact d6, by rw [ne (68 + g) (by omega)]; exact d7⟩
  · intro q h1 h2
    rw [ne (64 + q) (by omega)]; exact wgr q h1 h2
  · intro q h1 h2
    rw [ne (68 + q) (by omega)]; exact wnk q h1 h2
  · intro q h1 h2
    rw [ne (72 + q) (by omega)]; exact wda q h1 h2
  · intro q h1 h2
    rw [ne (78 + q) (by omega)]; exact wdr q h1 h2
  · intro q h1 h2
    rw [ne (84 + q) (by omega)]; exact wgo q h1 h2
  · intro q h1 h2
    by_cases hq : q = z
    · rw [hq, eq]; omega
    · rw [ne (90 + q) (by omega)]; exact wg1 q h1 h2
  · intro q h1 h2
    rw [ne (96 + q) (by omega)]; exact wg2 q h1 h2
  · intro p h1 h2 h3
    rw [ne 0 (by omega)] at h2
    have h4 := wwd p h1 (by omega)
    rw [ne (48 + p) (by omega)] at h3 ⊢
    rw [ne (56 + N (48 + p)) (by omega), ne (60 + N (48 + p)) (by omega)]
    exact wwx p h1 h2 h3
theorem WF_u96 {N : Int → Int} {z x : Int} (wf : WFP N) (hz : 0 ≤ z ∧ z < 6) (hx : 0 ≤ x ∧ x ≤ 99) : WFP (updf N (96 + z) x) := by
  obtain ⟨wn0, wn1, wn2, wn3, wn4, wn5, wn6, wn7, wfr, wto, wff, wwa, wco, wwd, wgl, wgr, wnk, wda, wdr, wgo, wg1, wg2, wwx⟩ := wf
  have ne : ∀ j, j ≠ 96 + z → updf N (96 + z) x j = N j := fun j hj => updf_ne hj
  have eq : updf N (96 + z) x (96 + z) = x := updf_same rfl
  refine ⟨?_, ?_, ?_, ?_, ?_, ?_, ?_, ?_, ?_, ?_, ?_, ?_, ?_, ?_, ?_, ?_, ?_, ?_, ?_, ?_, ?_, ?_, ?_⟩
  · rw [ne 0 (by omega)]; exact wn0
  · rw [ne 1 (by omega)]; exact wn1
  · rw [ne 2 (by omega)]; exact wn2
  · rw [ne 3 (by omega)]; exact wn3
  · rw [ne 4 (by omega)]; exact wn4
  · rw [ne 5 (by omega)]; exact wn5
  · rw [ne 6 (by omega)]; exact wn6
  · rw [ne 7 (by omega)]; exact wn7
  · intro q h1 h2
    rw [ne (8 + q) (by omega)]; exact wfr q h1 h2
  · intro q h1 h2
    rw [ne (16 + q) (by omega)]; exact wto q h1 h2
  · intro q h1 h2
    rw [ne (24 + q) (by omega)]; exact wff q h1 h2
  · intro q h1 h2
    rw [ne (32 + q) (by omega)]; exact wwa q h1 h2
  · intro q h1 h2
    rw [ne (40 + q) (by omega)]; exact wco q h1 h2
  · intro q h1 h2
    rw [ne (48 + q) (by omega), ne 1 (by omega)]; exact wwd q h1 h2
  · intro g h1 h2
    rw [ne 1 (by omega)] at h2
    obtain ⟨d1, d2, d3, d4, d5, d6, d7⟩ := wgl g h1 h2
    rw [ne (56 + g) (by omega), ne (60 + g) (by omega), ne (48 + N (56 + g)) (by omega), ne (48 + N (60 + g)) (by omega)]
    refine ⟨by rw [ne 0 (by omega)]; exact d1, by rw [ne 0 (by omega)]; exact d2, d3, d4, d5, by rw [ne (64 + g) (by omega)]; exact d6, by rw [ne (68 + g) (by omega)]; exact d7⟩
  · intro q h1 h2
    rw [ne (64 + q) (by omega)]; exact wgr q h1 h2
  · intro q h1 h2
    rw [ne (68 + q) (by omega)]; exact wnk q h1 h2
  · intro q h1 h2
    rw [ne (72 + q) (by omega)]; exact wda q h1 h2
  · intro q h1 h2
    rw [ne (78 + q) (by omega)]; exact wdr q h1 h2
  · intro q h1 h2
    rw [ne (84 + q) (by omega)]; exact wgo q h1 h2
  · intro q h1 h2
    rw [ne (90 + q) (by omega)]; exact wg1 q h1 h2
  · intro q h1 h2
    by_cases hq : q = z
    · rw [hq, eq]; omega
    · rw [ne (96 + q) (by omega)]; exact wg2 q h1 h2
  · intro p h1 h2 h3
    rw [ne 0 (by omega)] at h2
    have h4 := wwd p h1 (by omega)
    rw [ne (48 + p) (by omega)] at h3 ⊢
    rw [ne (56 + N (48 + p)) (by omega), ne (60 + N (48 + p)) (by omega)]
    exact wwx p h1 h2 h3
theorem WF_s3 {N : Int → Int} {x : Int} (wf : WFP N) (hx : 1 ≤ x ∧ x ≤ 9) : WFP (updf N 3 x) := by
  obtain ⟨wn0, wn1, wn2, wn3, wn4, wn5, wn6, wn7, wfr, wto, wff, wwa, wco, wwd, wgl, wgr, wnk, wda, wdr, wgo, wg1, wg2, wwx⟩ := wf
  have ne : ∀ j, j ≠ 3 → updf N 3 x j = N j := fun j hj => updf_ne hj
  have eq : updf N 3 x 3 = x := updf_same rfl
  refine ⟨?_, ?_, ?_, ?_, ?_, ?_, ?_, ?_, ?_, ?_, ?_, ?_, ?_, ?_, ?_, ?_, ?_, ?_, ?_, ?_, ?_, ?_, ?_⟩
  · rw [ne 0 (by omega)]; exact wn0
  · rw [ne 1 (by omega)]; exact wn1
  · rw [ne 2 (by omega)]; exact wn2
  · rw [eq]; omega
  · rw [ne 4 (by omega)]; exact wn4
  · rw [ne 5 (by omega)]; exact wn5
  · rw [ne 6 (by omega)]; exact wn6
  · rw [ne 7 (by omega)]; exact wn7
  · intro q h1 h2
    rw [ne (8 + q) (by omega)]; exact wfr q h1 h2
  · intro q h1 h2
    rw [ne (16 + q) (by omega)]; exact wto q h1 h2
  · intro q h1 h2
    rw [ne (24 + q) (by omega)]; exact wff q h1 h2
  · intro q h1 h2
    rw [ne (32 + q) (by omega)]; exact wwa q h1 h2
  · intro q h1 h2
    rw [ne (40 + q) (by omega)]; exact wco q h1 h2
  · intro q h1 h2
    rw [ne (48 + q) (by omega), ne 1 (by omega)]; exact wwd q h1 h2
  · intro g h1 h2
    rw [ne 1 (by omega)] at h2
    obtain ⟨d1, d2, d3, d4, d5, d6, d7⟩ := wgl g h1 h2
    rw [ne (56 + g) (by omega), ne (60 + g) (by omega), ne (48 + N (56 + g)) (by omega), ne (48 + N (60 + g)) (by omega)]
    refine ⟨by rw [ne 0 (by omega)]; exact d1, by rw [ne 0 (by omega)]; exact d2, d3, d4, d5, by rw [ne (64 + g) (by omega)]; exact d6, by rw [ne (68 + g) (by omega)]; exact d7⟩
  · intro q h1 h2
    rw [ne (64 + q) (by omega)]; exact wgr q h1 h2
  · intro q h1 h2
    rw [ne (68 + q) (by omega)]; exact wnk q h1 h2
  · intro q h1 h2
    rw [ne (72 + q) (by omega)]; exact wda q h1 h2
  · intro q h1 h2
    rw [ne (78 + q) (by omega)]; exact wdr q h1 h2
  · intro q h1 h2
    rw [ne (84 + q) (by omega)]; exact wgo q h1 h2
  · intro q h1 h2
    rw [ne (90 + q) (by omega)]; exact wg1 q h1 h2
  · intro q h1 h2
    rw [ne (96 + q) (by omega)]; exact wg2 q h1 h2
  · intro p h1 h2 h3
    rw [ne 0 (by omega)] at h2
    have h4 := wwd p h1 (by omega)
    rw [ne (48 + p) (by omega)] at h3 ⊢
    rw [ne (56 + N (48 + p)) (by omega), ne (60 + N (48 + p)) (by omega)]
    exact wwx p h1 h2 h3
theorem WF_s4 {N : Int → Int} {x : Int} (wf : WFP N) (hx : 0 ≤ x ∧ x ≤ 99) : WFP (updf N 4 x) := by
  obtain ⟨wn0, wn1, wn2, wn3, wn4, wn5, wn6, wn7, wfr, wto, wff, wwa, wco, wwd, wgl, wgr, wnk, wda, wdr, wgo, wg1, wg2, wwx⟩ := wf
  have ne : ∀ j, j ≠ 4 → updf N 4 x j = N j := fun j hj => updf_ne hj
  have eq : updf N 4 x 4 = x := updf_same rfl
  refine ⟨?_, ?_, ?_, ?_, ?_, ?_, ?_, ?_, ?_, ?_, ?_, ?_, ?_, ?_, ?_, ?_, ?_, ?_, ?_, ?_, ?_, ?_, ?_⟩
  · rw [ne 0 (by omega)]; exact wn0
  · rw [ne 1 (by omega)]; exact wn1
  · rw [ne 2 (by omega)]; exact wn2
  · rw [ne 3 (by omega)]; exact wn3
  · rw [eq]; omega
  · rw [ne 5 (by omega)]; exact wn5
  · rw [ne 6 (by omega)]; exact wn6
  · rw [ne 7 (by omega)]; exact wn7
  · intro q h1 h2
    rw [ne (8 + q) (by omega)]; exact wfr q h1 h2
  · intro q h1 h2
    rw [ne (16 + q) (by omega)]; exact wto q h1 h2
  · intro q h1 h2
    rw [ne (24 + q) (by omega)]; exact wff q h1 h2
  · intro q h1 h2
    rw [ne (32 + q) (by omega)]; exact wwa q h1 h2
  · intro q h1 h2
    rw [ne (40 + q) (by omega)]; exact wco q h1 h2
  · intro q h1 h2
    rw [ne (48 + q) (by omega), ne 1 (by omega)]; exact wwd q h1 h2
  · intro g h1 h2
    rw [ne 1 (by omega)] at h2
    obtain ⟨d1, d2, d3, d4, d5, d6, d7⟩ := wgl g h1 h2
    rw [ne (56 + g) (by omega), ne (60 + g) (by omega), ne (48 + N (56 + g)) (by omega), ne (48 + N (60 + g)) (by omega)]
    refine ⟨by rw [ne 0 (by omega)]; exact d1, by rw [ne 0 (by omega)]; exact d2, d3, d4, d5, by rw [ne (64 + g) (by omega)]; exact d6, by rw [ne (68 + g) (by omega)]; exact d7⟩
  · intro q h1 h2
    rw [ne (64 + q) (by omega)]; exact wgr q h1 h2
  · intro q h1 h2
    rw [ne (68 + q) (by omega)]; exact wnk q h1 h2
  · intro q h1 h2
    rw [ne (72 + q) (by omega)]; exact wda q h1 h2
  · intro q h1 h2
    rw [ne (78 + q) (by omega)]; exact wdr q h1 h2
  · intro q h1 h2
    rw [ne (84 + q) (by omega)]; exact wgo q h1 h2
  · intro q h1 h2
    rw [ne (90 + q) (by omega)]; exact wg1 q h1 h2
  · intro q h1 h2
    rw [ne (96 + q) (by omega)]; exact wg2 q h1 h2
  · intro p h1 h2 h3
    rw [ne 0 (by omega)] at h2
    have h4 := wwd p h1 (by omega)
    rw [ne (48 + p) (by omega)] at h3 ⊢
    rw [ne (56 + N (48 + p)) (by omega), ne (60 + N (48 + p)) (by omega)]
    exact wwx p h1 h2 h3
theorem WF_s5 {N : Int → Int} {x : Int} (wf : WFP N) (hx : 0 ≤ x ∧ x ≤ 1) : WFP (updf N 5 x) := by
  obtain ⟨wn0, wn1, wn2, wn3, wn4, wn5, wn6, wn7, wfr, wto, wff, wwa, wco, wwd, wgl, wgr, wnk, wda, wdr, wgo, wg1, wg2, wwx⟩ := wf
  have ne : ∀ j, j ≠ 5 → updf N 5 x j = N j := fun j hj => updf_ne hj
  have eq : updf N 5 x 5 = x := updf_same rfl
  refine ⟨?_, ?_, ?_, ?_, ?_, ?_, ?_, ?_, ?_, ?_, ?_, ?_, ?_, ?_, ?_, ?_, ?_, ?_, ?_, ?_, ?_, ?_, ?_⟩
  · rw [ne 0 (by omega)]; exact wn0
  · rw [ne 1 (by omega)]; exact wn1
  · rw [ne 2 (by omega)]; exact wn2
  · rw [ne 3 (by omega)]; exact wn3
  · rw [ne 4 (by omega)]; exact wn4
  · rw [eq]; omega
  · rw [ne 6 (by omega)]; exact wn6
  · rw [ne 7 (by omega)]; exact wn7
  · intro q h1 h2
    rw [ne (8 + q) (by omega)]; exact wfr q h1 h2
  · intro q h1 h2
    rw [ne (16 + q) (by omega)]; exact wto q h1 h2
  · intro q h1 h2
    rw [ne (24 + q) (by omega)]; exact wff q h1 h2
  · intro q h1 h2
    rw [ne (32 + q) (by omega)]; exact wwa q h1 h2
  · intro q h1 h2
    rw [ne (40 + q) (by omega)]; exact wco q h1 h2
  · intro q h1 h2
    rw [ne (48 + q) (by omega), ne 1 (by omega)]; exact wwd q h1 h2
  · intro g h1 h2
    rw [ne 1 (by omega)] at h2
    obtain ⟨d1, d2, d3, d4, d5, d6, d7⟩ := wgl g h1 h2
    rw [ne (56 + g) (by omega), ne (60 + g) (by omega), ne (48 + N (56 + g)) (by omega), ne (48 + N (60 + g)) (by omega)]
    refine ⟨by rw [ne 0 (by omega)]; exact d1, by rw [ne 0 (by omega)]; exact d2, d3, d4, d5, by rw [ne (64 + g) (by omega)]; exact d6, by rw [ne (68 + g) (by omega)]; exact d7⟩
  · intro q h1 h2
    rw [ne (64 + q) (by omega)]; exact wgr q h1 h2
  · intro q h1 h2
    rw [ne (68 + q) (by omega)]; exact wnk q h1 h2
  · intro q h1 h2
    rw [ne (72 + q) (by omega)]; exact wda q h1 h2
  · intro q h1 h2
    rw [ne (78 + q) (by omega)]; exact wdr q h1 h2
  · intro q h1 h2
    rw [ne (84 + q) (by omega)]; exact wgo q h1 h2
  · intro q h1 h2
    rw [ne (90 + q) (by omega)]; exact wg1 q h1 h2
  · intro q h1 h2
    rw [ne (96 + q) (by omega)]; exact wg2 q h1 h2
  · intro p h1 h2 h3
    rw [ne 0 (by omega)] at h2
    have h4 := wwd p h1 (by omega)
    rw [ne (48 + p) (by omega)] at h3 ⊢
    rw [ne (56 + N (48 + p)) (by omega), ne (60 + N (48 + p)) (by omega)]
    exact wwx p h1 h2 h3
theorem WF_s6 {N : Int → Int} {x : Int} (wf : WFP N) (hx : 0 ≤ x ∧ x ≤ 1) : WFP (updf N 6 x) := by
  obtain ⟨wn0, wn1, wn2, wn3, wn4, wn5, wn6, wn7, wfr, wto, wff, wwa, wco, wwd, wgl, wgr, wnk, wda, wdr, wgo, wg1, wg2, wwx⟩ := wf
  have ne : ∀ j, j ≠ 6 → updf N 6 x j = N j := fun j hj => updf_ne hj
  have eq : updf N 6 x 6 = x := updf_same rfl
  refine ⟨?_, ?_, ?_, ?_, ?_, ?_, ?_, ?_, ?_, ?_, ?_, ?_, ?_, ?_, ?_, ?_, ?_, ?_, ?_, ?_, ?_, ?_, ?_⟩
  · rw [ne 0 (by omega)]; exact wn0
  · rw [ne 1 (by omega)]; exact wn1
  · rw [ne 2 (by omega)]; exact wn2
  · rw [ne 3 (by omega)]; exact wn3
  · rw [ne 4 (by omega)]; exact wn4
  · rw [ne 5 (by omega)]; exact wn5
  · rw [eq]; omega
  · rw [ne 7 (by omega)]; exact wn7
  · intro q h1 h2
    rw [ne (8 + q) (by omega)]; exact wfr q h1 h2
  · intro q h1 h2
    rw [ne (16 + q) (by omega)]; exact wto q h1 h2
  · intro q h1 h2
    rw [ne (24 + q) (by omega)]; exact wff q h1 h2
  · intro q h1 h2
    rw [ne (32 + q) (by omega)]; exact wwa q h1 h2
  · intro q h1 h2
    rw [ne (40 + q) (by omega)]; exact wco q h1 h2
  · intro q h1 h2
    rw [ne (48 + q) (by omega), ne 1 (by omega)]; exact wwd q h1 h2
  · intro g h1 h2
    rw [ne 1 (by omega)] at h2
    obtain ⟨d1, d2, d3, d4, d5, d6, d7⟩ := wgl g h1 h2
    rw [ne (56 + g) (by omega), ne (60 + g) (by omega), ne (48 + N (56 + g)) (by omega), ne (48 + N (60 + g)) (by omega)]
    refine ⟨by rw [ne 0 (by omega)]; exact d1, by rw [ne 0 (by omega)]; exact d2, d3, d4, d5, by rw [ne (64 + g) (by omega)]; exact d6, by rw [ne (68 + g) (by omega)]; exact d7⟩
  · intro q h1 h2
    rw [ne (64 + q) (by omega)]; exact wgr q h1 h2
  · intro q h1 h2
    rw [ne (68 + q) (by omega)]; exact wnk q h1 h2
  · intro q h1 h2
    rw [ne (72 + q) (by omega)]; exact wda q h1 h2
  · intro q h1 h2
    rw [ne (78 + q) (by omega)]; exact wdr q h1 h2
  · intro q h1 h2
    rw [ne (84 + q) (by omega)]; exact wgo q h1 h2
  · intro q h1 h2
    rw [ne (90 + q) (by omega)]; exact wg1 q h1 h2
  · intro q h1 h2
    rw [ne (96 + q) (by omega)]; exact wg2 q h1 h2
  · intro p h1 h2 h3
    rw [ne 0 (by omega)] at h2
    have h4 := wwd p h1 (by omega)
    rw [ne (48 + p) (by omega)] at h3 ⊢
    rw [ne (56 + N (48 + p)) (by omega), ne (60 + N (48 + p)) (by omega)]
    exact wwx p h1 h2 h3
theorem WF_n0 {N : Int → Int} (wf : WFP N) (fz : FRz N) (hx : N 0 < 8) : WFP (updf N 0 (N 0 + 1)) := by
  obtain ⟨wn0, wn1, wn2, wn3, wn4, wn5, wn6, wn7, wfr, wto, wff, wwa, wco, wwd, wgl, wgr, wnk, wda, wdr, wgo, wg1, wg2, wwx⟩ := wf
  have ne : ∀ j, j ≠ 0 → updf N 0 (N 0 + 1) j = N j := fun j hj => updf_ne hj
  have eq : updf N 0 (N 0 + 1) 0 = N 0 + 1 := updf_same rfl
  refine ⟨?_, ?_, ?_, ?_, ?_, ?_, ?_, ?_, ?_, ?_, ?_, ?_, ?_, ?_, ?_, ?_, ?_, ?_, ?_, ?_, ?_, ?_, ?_⟩
  · rw [eq]; omega
  · rw [ne 1 (by omega)]; exact wn1
  · rw [ne 2 (by omega)]; exact wn2
  · rw [ne 3 (by omega)]; exact wn3
  · rw [ne 4 (by omega)]; exact wn4
  · rw [ne 5 (by omega)]; exact wn5
  · rw [ne 6 (by omega)]; exact wn6
  · rw [ne 7 (by omega)]; exact wn7
  · intro q h1 h2
    rw [ne (8 + q) (by omega)]; exact wfr q h1 h2
  · intro q h1 h2
    rw [ne (16 + q) (by omega)]; exact wto q h1 h2
  · intro q h1 h2
    rw [ne (24 + q) (by omega)]; exact wff q h1 h2
  · intro q h1 h2
    rw [ne (32 + q) (by omega)]; exact wwa q h1 h2
  · intro q h1 h2
    rw [ne (40 + q) (by omega)]; exact wco q h1 h2
  · intro q h1 h2
    rw [ne (48 + q) (by omega), ne 1 (by omega)]; exact wwd q h1 h2
  · intro g h1 h2
    rw [ne 1 (by omega)] at h2
    obtain ⟨d1, d2, d3, d4, d5, d6, d7⟩ := wgl g h1 h2
    rw [ne (56 + g) (by omega), ne (60 + g) (by omega), ne (48 + N (56 + g)) (by omega), ne (48 + N (60 + g)) (by omega)]
    refine ⟨by rw [eq]; omega, by rw [eq]; omega, d3, d4, d5, by rw [ne (64 + g) (by omega)]; exact d6, by rw [ne (68 + g) (by omega)]; exact d7⟩
  · intro q h1 h2
    rw [ne (64 + q) (by omega)]; exact wgr q h1 h2
  · intro q h1 h2
    rw [ne (68 + q) (by omega)]; exact wnk q h1 h2
  · intro q h1 h2
    rw [ne (72 + q) (by omega)]; exact wda q h1 h2
  · intro q h1 h2
    rw [ne (78 + q) (by omega)]; exact wdr q h1 h2
  · intro q h1 h2
    rw [ne (84 + q) (by omega)]; exact wgo q h1 h2
  · intro q h1 h2
    rw [ne (90 + q) (by omega)]; exact wg1 q h1 h2
  · intro q h1 h2
    rw [ne (96 + q) (by omega)]; exact wg2 q h1 h2
  · intro p h1 h2 h3
    rw [eq] at h2
    have h4 := wwd p h1 (by omega)
    rw [ne (48 + p) (by omega)] at h3 ⊢
    by_cases hp : p = N 0
    · rw [hp] at h3
      have := (fz (N 0) (by omega) (by omega)).2.2
      omega
    · rw [ne (56 + N (48 + p)) (by omega), ne (60 + N (48 + p)) (by omega)]
      exact wwx p h1 (by omega) h3
theorem WF_n2 {N : Int → Int} (wf : WFP N) (hx : N 2 < 6) : WFP (updf N 2 (N 2 + 1)) := by
  obtain ⟨wn0, wn1, wn2, wn3, wn4, wn5, wn6, wn7, wfr, wto, wff, wwa, wco, wwd, wgl, wgr, wnk, wda, wdr, wgo, wg1, wg2, wwx⟩ := wf
  have ne : ∀ j, j ≠ 2 → updf N 2 (N 2 + 1) j = N j := fun j hj => updf_ne hj
  have eq : updf N 2 (N 2 + 1) 2 = N 2 + 1 := updf_same rfl
  refine ⟨?_, ?_, ?_, ?_, ?_, ?_, ?_, ?_, ?_, ?_, ?_, ?_, ?_, ?_, ?_, ?_, ?_, ?_, ?_, ?_, ?_, ?_, ?_⟩
  · rw [ne 0 (by omega)]; exact wn0
  · rw [ne 1 (by omega)]; exact wn1
  · rw [eq]; omega
  · rw [ne 3 (by omega)]; exact wn3
  · rw [ne 4 (by omega)]; exact wn4
  · rw [ne 5 (by omega)]; exact wn5
  · rw [ne 6 (by omega)]; exact wn6
  · rw [ne 7 (by omega)]; exact wn7
  · intro q h1 h2
    rw [ne (8 + q) (by omega)]; exact wfr q h1 h2
  · intro q h1 h2
    rw [ne (16 + q) (by omega)]; exact wto q h1 h2
  · intro q h1 h2
    rw [ne (24 + q) (by omega)]; exact wff q h1 h2
  · intro q h1 h2
    rw [ne (32 + q) (by omega)]; exact wwa q h1 h2
  · intro q h1 h2
    rw [ne (40 + q) (by omega)]; exact wco q h1 h2
  · intro q h1 h2
    rw [ne (48 + q) (by omega), ne 1 (by omega)]; exact wwd q h1 h2
  · intro g h1 h2
    rw [ne 1 (by omega)] at h2
    obtain ⟨d1, d2, d3, d4, d5, d6, d7⟩ := wgl g h1 h2
    rw [ne (56 + g) (by omega), ne (60 + g) (by omega), ne (48 + N (56 + g)) (by omega), ne (48 + N (60 + g)) (by omega)]
    refine ⟨by rw [ne 0 (by omega)]; exact d1, by rw [ne 0 (by omega)]; exact d2, d3, d4, d5, by rw [ne (64 + g) (by omega)]; exact d6, by rw [ne (68 + g) (by omega)]; exact d7⟩
  · intro q h1 h2
    rw [ne (64 + q) (by omega)]; exact wgr q h1 h2
  · intro q h1 h2
    rw [ne (68 + q) (by omega)]; exact wnk q h1 h2
  · intro q h1 h2
    rw [ne (72 + q) (by omega)]; exact wda q h1 h2
  · intro q h1 h2
    rw [ne (78 + q) (by omega)]; exact wdr q h1 h2
  · intro q h1 h2
    rw [ne (84 + q) (by omega)]; exact wgo q h1 h2
  · intro q h1 h2
    rw [ne (90 + q) (by omega)]; exact wg1 q h1 h2
  · intro q h1 h2
    rw [ne (96 + q) (by omega)]; exact wg2 q h1 h2
  · intro p h1 h2 h3
    rw [ne 0 (by omega)] at h2
    have h4 := wwd p h1 (by omega)
    rw [ne (48 + p) (by omega)] at h3 ⊢
    rw [ne (56 + N (48 + p)) (by omega), ne (60 + N (48 + p)) (by omega)]
    exact wwx p h1 h2 h3
theorem WF_n7 {N : Int → Int} (wf : WFP N) (hx : N 7 < 6) : WFP (updf N 7 (N 7 + 1)) := by
  obtain ⟨wn0, wn1, wn2, wn3, wn4, wn5, wn6, wn7, wfr, wto, wff, wwa, wco, wwd, wgl, wgr, wnk, wda, wdr, wgo, wg1, wg2, wwx⟩ := wf
  have ne : ∀ j, j ≠ 7 → updf N 7 (N 7 + 1) j = N j := fun j hj => updf_ne hj
  have eq : updf N 7 (N 7 + 1) 7 = N 7 + 1 := updf_same rfl
  refine ⟨?_, ?_, ?_, ?_, ?_, ?_, ?_, ?_, ?_, ?_, ?_, ?_, ?_, ?_, ?_, ?_, ?_, ?_, ?_, ?_, ?_, ?_, ?_⟩
  · rw [ne 0 (by omega)]; exact wn0
  · rw [ne 1 (by omega)]; exact wn1
  · rw [ne 2 (by omega)]; exact wn2
  · rw [ne 3 (by omega)]; exact wn3
  · rw [ne 4 (by omega)]; exact wn4
  · rw [ne 5 (by omega)]; exact wn5
  · rw [ne 6 (by omega)]; exact wn6
  · rw [eq]; omega
  · intro q h1 h2
    rw [ne (8 + q) (by omega)]; exact wfr q h1 h2
  · intro q h1 h2
    rw [ne (16 + q) (by omega)]; exact wto q h1 h2
  · intro q h1 h2
    rw [ne (24 + q) (by omega)]; exact wff q h1 h2
  · intro q h1 h2
    rw [ne (32 + q) (by omega)]; exact wwa q h1 h2
  · intro q h1 h2
    rw [ne (40 + q) (by omega)]; exact wco q h1 h2
  · intro q h1 h2
    rw [ne (48 + q) (by omega), ne 1 (by omega)]; exact wwd q h1 h2
  · intro g h1 h2
    rw [ne 1 (by omega)] at h2
    obtain ⟨d1, d2, d3, d4, d5, d6, d7⟩ := wgl g h1 h2
    rw [ne (56 + g) (by omega), ne (60 + g) (by omega), ne (48 + N (56 + g)) (by omega), ne (48 + N (60 + g)) (by omega)]
    refine ⟨by rw [ne 0 (by omega)]; exact d1, by rw [ne 0 (by omega)]; exact d2, d3, d4, d5, by rw [ne (64 + g) (by omega)]; exact d6, by rw [ne (68 + g) (by omega)]; exact d7⟩
  · intro q h1 h2
    rw [ne (64 + q) (by omega)]; exact wgr q h1 h2
  · intro q h1 h2
    rw [ne (68 + q) (by omega)]; exact wnk q h1 h2
  · intro q h1 h2
    rw [ne (72 + q) (by omega)]; exact wda q h1 h2
  · intro q h1 h2
    rw [ne (78 + q) (by omega)]; exact wdr q h1 h2
  · intro q h1 h2
    rw [ne (84 + q) (by omega)]; exact wgo q h1 h2
  · intro q h1 h2
    rw [ne (90 + q) (by omega)]; exact wg1 q h1 h2
  · intro q h1 h2
    rw [ne (96 + q) (by omega)]; exact wg2 q h1 h2
  · intro p h1 h2 h3
    rw [ne 0 (by omega)] at h2
    have h4 := wwd p h1 (by omega)
    rw [ne (48 + p) (by omega)] at h3 ⊢
    rw [ne (56 + N (48 + p)) (by omega), ne (60 + N (48 + p)) (by omega)]
    exact wwx p h1 h2 h3
def glA (N : Int → Int) (a b : Int) : Int → Int := updf (updf (updf (updf (updf N (56 + N 1) a) (60 + N 1) b) (48 + a) (N 1)) (48 + b) (N 1)) 1 (N 1 + 1)
theorem glA_ne {N : Int → Int} {a b j : Int} (h : j ≠ 56 + N 1) (h2 : j ≠ 60 + N 1) (h3 : j ≠ 48 + a) (h4 : j ≠ 48 + b) (h5 : j ≠ 1) : glA N a b j = N j := by
  unfold glA
  rw [updf_ne h5, updf_ne h4, updf_ne h3, updf_ne h2, updf_ne h]
theorem glA_1 {N : Int → Int} {a b : Int} : glA N a b 1 = N 1 + 1 := by
  unfold glA
  rw [updf_same rfl]
theorem glA_56 {N : Int → Int} {a b : Int} (h1 : 0 ≤ N 1) (ha : a < 8) (hb : b < 8) : glA N a b (56 + N 1) = a := by
  unfold glA
  rw [updf_ne (by omega), updf_ne (by omega), updf_ne (by omega), updf_ne (by omega), updf_same rfl]
theorem glA_60 {N : Int → Int} {a b : Int} (h1 : 0 ≤ N 1) (ha : a < 8) (hb : b < 8) : glA N a b (60 + N 1) = b := by
  unfold glA
  rw [updf_ne (by omega), updf_ne (by omega), updf_ne (by omega), updf_same rfl]
theorem glA_48 {N : Int → Int} {a b p : Int} (h1 : 0 ≤ N 1) (ha : 0 ≤ a ∧ a < 8) (hb : 0 ≤ b ∧ b < 8) (hp : 0 ≤ p ∧ p < 8) : glA N a b (48 + p) = ii (p = a ∨ p = b) (N 1) (N (48 + p)) := by
  unfold glA
  rw [updf_ne (by omega)]
  by_cases e : p = b
  · rw [ii_t (by omega), updf_same (by omega)]
  · rw [updf_ne (by omega)]
    by_cases e2 : p = a
    · rw [ii_t (by omega), updf_same (by omega)]
    · rw [ii_f (by omega), updf_ne (by omega), updf_ne (by omega), updf_ne (by omega)]
theorem WF_gl {N : Int → Int} {a b : Int} (wf : WFP N) (h1 : N 1 < 4) (ha : 0 ≤ a ∧ a < N 0) (hb : 0 ≤ b ∧ b < N 0) (hab : a ≠ b) (wa : N (48 + a) = -1) (wb : N (48 + b) = -1) (h64 : 1 ≤ N (64 + N 1)) (h68 : 1 ≤ N (68 + N 1)) : WFP (glA N a b) := by
  obtain ⟨wn0, wn1, wn2, wn3, wn4, wn5, wn6, wn7, wfr, wto, wff, wwa, wco, wwd, wgl, wgr, wnk, wda, wdr, wgo, wg1, wg2, wwx⟩ := wf
  have e48 : ∀ p, 0 ≤ p → p < 8 → glA N a b (48 + p) = ii (p = a ∨ p = b) (N 1) (N (48 + p)) := fun p i1 i2 => glA_48 (by omega) (by omega) (by omega) (by omega)
  have e1 : glA N a b 1 = N 1 + 1 := glA_1
  have e0 : glA N a b 0 = N 0 := glA_ne (by omega) (by omega) (by omega) (by omega) (by omega)
  have e56 := glA_56 (N := N) (a := a) (b := b) (by omega) (by omega) (by omega)
  have e60 := glA_60 (N := N) (a := a) (b := b) (by omega) (by omega) (by omega)
  refine ⟨?_, ?_, ?_, ?_, ?_, ?_, ?_, ?_, ?_, ?_, ?_, ?_, ?_, ?_, ?_, ?_, ?_, ?_, ?_, ?_, ?_, ?_, ?_⟩
  · rw [glA_ne (by omega) (by omega) (by omega) (by omega) (by omega)]; exact wn0
  · rw [e1]; omega
  · rw [glA_ne (by omega) (by omega) (by omega) (by omega) (by omega)]; exact wn2
  · rw [glA_ne (by omega) (by omega) (by omega) (by omega) (by omega)]; exact wn3
  · rw [glA_ne (by omega) (by omega) (by omega) (by omega) (by omega)]; exact wn4
  · rw [glA_ne (by omega) (by omega) (by omega) (by omega) (by omega)]; exact wn5
  · rw [glA_ne (by omega) (by omega) (by omega) (by omega) (by omega)]; exact wn6
  · rw [glA_ne (by omega) (by omega) (by omega) (by omega) (by omega)]; exact wn7
  · intro q i1 i2
    rw [glA_ne (by omega) (by omega) (by omega) (by omega) (by omega)]; exact wfr q i1 i2
  · intro q i1 i2
    rw [glA_ne (by omega) (by omega) (by omega) (by omega) (by omega)]; exact wto q i1 i2
  · intro q i1 i2
    rw [glA_ne (by omega) (by omega) (by omega) (by omega) (by omega)]; exact wff q i1 i2
  · intro q i1 i2
    rw [glA_ne (by omega) (by omega) (by omega) (by omega) (by omega)]; exact wwa q i1 i2
  · intro q i1 i2
    rw [glA_ne (by omega) (by omega) (by omega) (by omega) (by omega)]; exact wco q i1 i2
  · intro q i1 i2
    have := wwd q i1 i2
    rw [e48 q i1 i2, e1]
    unfold ii
    split <;> omega
  · intro g i1 i2
    rw [e1] at i2
    rw [e0]
    by_cases q : g = N 1
    · rw [q, e56, e60, e48 a (by omega) (by omega), e48 b (by omega) (by omega), ii_t (by omega), ii_t (by omega), glA_ne (by omega) (by omega) (by omega) (by omega) (by omega), glA_ne (by omega) (by omega) (by omega) (by omega) (by omega)]
      exact ⟨ha, hb, hab, rfl, rfl, h64, h68⟩
    · obtain ⟨d1, d2, d3, d4, d5, d6, d7⟩ := wgl g i1 (by omega)
      have f1 : ¬ (N (56 + g) = a) := fun hh => by rw [hh] at d4; omega
      have f2 : ¬ (N (56 + g) = b) := fun hh => by rw [hh] at d4; omega
      have f3 : ¬ (N (60 + g) = a) := fun hh => by rw [hh] at d5; omega
      have f4 : ¬ (N (60 + g) = b) := fun hh => by rw [hh] at d5; omega
      rw [glA_ne (j := 56 + g) (by omega) (by omega) (by omega) (by omega) (by omega), glA_ne (j := 60 + g) (by omega) (by omega) (by omega) (by omega) (by omega), glA_ne (j := 64 + g) (by omega) (by omega) (by omega) (by omega) (by omega), glA_ne (j := 68 + g) (by omega) (by omega) (by omega) (by omega) (by omega), e48 _ d1.1 (by omega), e48 _ d2.1 (by omega), ii_f (by omega), ii_f (by omega)]
      exact ⟨d1, d2, d3, d4, d5, d6, d7⟩
  · intro q i1 i2
    rw [glA_ne (by omega) (by omega) (by omega) (by omega) (by omega)]; exact wgr q i1 i2
  · intro q i1 i2
    rw [glA_ne (by omega) (by omega) (by omega) (by omega) (by omega)]; exact wnk q i1 i2
  · intro q i1 i2
    rw [glA_ne (by omega) (by omega) (by omega) (by omega) (by omega)]; exact wda q i1 i2
  · intro q i1 i2
    rw [glA_ne (by omega) (by omega) (by omega) (by omega) (by omega)]; exact wdr q i1 i2
  · intro q i1 i2
    rw [glA_ne (by omega) (by omega) (by omega) (by omega) (by omega)]; exact wgo q i1 i2
  · intro q i1 i2
    rw [glA_ne (by omega) (by omega) (by omega) (by omega) (by omega)]; exact wg1 q i1 i2
  · intro q i1 i2
    rw [glA_ne (by omega) (by omega) (by omega) (by omega) (by omega)]; exact wg2 q i1 i2
  · intro p i1 i2 i3
    rw [e0] at i2
    have w8 := wwd p i1 (by omega)
    rw [e48 p i1 (by omega)] at i3 ⊢
    by_cases q : p = a ∨ p = b
    · rw [ii_t q, e56, e60]; omega
    · rw [ii_f q] at i3 ⊢
      rw [glA_ne (by omega) (by omega) (by omega) (by omega) (by omega), glA_ne (by omega) (by omega) (by omega) (by omega) (by omega)]
      exact wwx p i1 i2 i3
