theorem DRF_u87 {Q : Nat → Int → Int} {w : Nat → Nat → Int64} {v72 : Nat → Int64} {o : Int} {N : Int → Int} {z x : Int} (h : DRF Q w v72 o N) (hz : 0 ≤ z ∧ z < 8) (hx : 0 ≤ x ∧ x ≤ 23) : DRF (setR Q 87 (updf (Q 87) z x)) w v72 o (updf N (8 + z) x) := by
  obtain ⟨wf, cp, nm, fl, fz⟩ := h
  have b0 := wf.1
  have b1 := wf.2.1
  have b2 := wf.2.2.1
  have b7 := wf.2.2.2.2.2.2.2.1
  refine ⟨WF_u8 wf (by omega) hx, CPz_to (CP_u87 (CPz_of cp) b0 b1 b2 b7 (by omega)), ?_, ?_, ?_⟩
  · unfold namR; rw [updf_ne (by omega), updf_ne (by omega), updf_ne (by omega)]; exact nm
  · rw [setR_ne (by omega)]; unfold flR; rw [updf_ne (by omega), updf_ne (by omega)]; exact fl
  · intro p h1 h2
    rw [updf_ne (by omega)] at h1
    have h3 := fz p h1 h2
    rw [updf_ne (by omega), updf_ne (by omega), updf_ne (by omega)]
    exact h3

theorem DRF_u88 {Q : Nat → Int → Int} {w : Nat → Nat → Int64} {v72 : Nat → Int64} {o : Int} {N : Int → Int} {z x : Int} (h : DRF Q w v72 o N) (hz : 0 ≤ z ∧ z < 8) (hx : 0 ≤ x ∧ x ≤ 23) : DRF (setR Q 88 (updf (Q 88) z x)) w v72 o (updf N (16 + z) x) := by
  obtain ⟨wf, cp, nm, fl, fz⟩ := h
  have b0 := wf.1
  have b1 := wf.2.1
  have b2 := wf.2.2.1
  have b7 := wf.2.2.2.2.2.2.2.1
  refine ⟨WF_u16 wf (by omega) hx, CPz_to (CP_u88 (CPz_of cp) b0 b1 b2 b7 (by omega)), ?_, ?_, ?_⟩
  · unfold namR; rw [updf_ne (by omega), updf_ne (by omega), updf_ne (by omega)]; exact nm
  · rw [setR_ne (by omega)]; unfold flR; rw [updf_ne (by omega), updf_ne (by omega)]; exact fl
  · intro p h1 h2
    rw [updf_ne (by omega)] at h1
    have h3 := fz p h1 h2
    rw [updf_ne (by omega), updf_ne (by omega), updf_ne (by omega)]
    exact h3

theorem DRF_u89 {Q : Nat → Int → Int} {w : Nat → Nat → Int64} {v72 : Nat → Int64} {o : Int} {N : Int → Int} {z x : Int} (h : DRF Q w v72 o N) (hz : 0 ≤ z ∧ z < 8) (hx : 0 ≤ x ∧ x ≤ 99) : DRF (setR Q 89 (updf (Q 89) z x)) w v72 o (updf N (24 + z) x) := by
  obtain ⟨wf, cp, nm, fl, fz⟩ := h
  have b0 := wf.1
  have b1 := wf.2.1
  have b2 := wf.2.2.1
  have b7 := wf.2.2.2.2.2.2.2.1
  refine ⟨WF_u24 wf (by omega) hx, CPz_to (CP_u89 (CPz_of cp) b0 b1 b2 b7 (by omega)), ?_, ?_, ?_⟩
  · unfold namR; rw [updf_ne (by omega), updf_ne (by omega), updf_ne (by omega)]; exact nm
  · rw [setR_ne (by omega)]; unfold flR; rw [updf_ne (by omega), updf_ne (by omega)]; exact fl
  · intro p h1 h2
    rw [updf_ne (by omega)] at h1
    have h3 := fz p h1 h2
    rw [updf_ne (by omega), updf_ne (by omega), updf_ne (by omega)]
    exact h3

theorem DRF_u90 {Q : Nat → Int → Int} {w : Nat → Nat → Int64} {v72 : Nat → Int64} {o : Int} {N : Int → Int} {z x : Int} (h : DRF Q w v72 o N) (hz : 0 ≤ z ∧ z < N 0) (hx : 0 ≤ x ∧ x ≤ 9) : DRF (setR Q 90 (updf (Q 90) z x)) w v72 o (updf N (32 + z) x) := by
  obtain ⟨wf, cp, nm, fl, fz⟩ := h
  have b0 := wf.1
  have b1 := wf.2.1
  have b2 := wf.2.2.1
  have b7 := wf.2.2.2.2.2.2.2.1
  refine ⟨WF_u32 wf (by omega) hx, CPz_to (CP_u90 (CPz_of cp) b0 b1 b2 b7 (by omega)), ?_, ?_, ?_⟩
  · unfold namR; rw [updf_ne (by omega), updf_ne (by omega), updf_ne (by omega)]; exact nm
  · rw [setR_ne (by omega)]; unfold flR; rw [updf_ne (by omega), updf_ne (by omega)]; exact fl
  · intro p h1 h2
    rw [updf_ne (by omega)] at h1
    have h3 := fz p h1 h2
    rw [updf_ne (by omega), updf_ne (by omega), updf_ne (by omega)]
    exact h3

theorem DRF_u91 {Q : Nat → Int → Int} {w : Nat → Nat → Int64} {v72 : Nat → Int64} {o : Int} {N : Int → Int} {z x : Int} (h : DRF Q w v72 o N) (hz : 0 ≤ z ∧ z < N 0) (hx : 0 ≤ x ∧ x ≤ 9) : DRF (setR Q 91 (updf (Q 91) z x)) w v72 o (updf N (40 + z) x) := by
  obtain ⟨wf, cp, nm, fl, fz⟩ := h
  have b0 := wf.1
  have b1 := wf.2.1
  have b2 := wf.2.2.1
  have b7 := wf.2.2.2.2.2.2.2.1
  refine ⟨WF_u40 wf (by omega) hx, CPz_to (CP_u91 (CPz_of cp) b0 b1 b2 b7 (by omega)), ?_, ?_, ?_⟩
  · unfold namR; rw [updf_ne (by omega), updf_ne (by omega), updf_ne (by omega)]; exact nm
  · rw [setR_ne (by omega)]; unfold flR; rw [updf_ne (by omega), updf_ne (by omega)]; exact fl
  · intro p h1 h2
    rw [updf_ne (by omega)] at h1
    have h3 := fz p h1 h2
    rw [updf_ne (by omega), updf_ne (by omega), updf_ne (by omega)]
    exact h3

theorem DRF_u95 {Q : Nat → Int → Int} {w : Nat → Nat → Int64} {v72 : Nat → Int64} {o : Int} {N : Int → Int} {z x : Int} (h : DRF Q w v72 o N) (hz : 0 ≤ z ∧ z < 4) (hx : 1 ≤ x ∧ x ≤ 250) : DRF (setR Q 95 (updf (Q 95) z x)) w v72 o (updf N (64 + z) x) := by
  obtain ⟨wf, cp, nm, fl, fz⟩ := h
  have b0 := wf.1
  have b1 := wf.2.1
  have b2 := wf.2.2.1
  have b7 := wf.2.2.2.2.2.2.2.1
  refine ⟨WF_u64 wf (by omega) hx, CPz_to (CP_u95 (CPz_of cp) b0 b1 b2 b7 (by omega)), ?_, ?_, ?_⟩
  · unfold namR; rw [updf_ne (by omega), updf_ne (by omega), updf_ne (by omega)]; exact nm
  · rw [setR_ne (by omega)]; unfold flR; rw [updf_ne (by omega), updf_ne (by omega)]; exact fl
  · intro p h1 h2
    rw [updf_ne (by omega)] at h1
    have h3 := fz p h1 h2
    rw [updf_ne (by omega), updf_ne (by omega), updf_ne (by omega)]
    exact h3

theorem DRF_u96 {Q : Nat → Int → Int} {w : Nat → Nat → Int64} {v72 : Nat → Int64} {o : Int} {N : Int → Int} {z x : Int} (h : DRF Q w v72 o N) (hz : 0 ≤ z ∧ z < 4) (hx : 1 ≤ x ∧ x ≤ 9) : DRF (setR Q 96 (updf (Q 96) z x)) w v72 o (updf N (68 + z) x) := by
  obtain ⟨wf, cp, nm, fl, fz⟩ := h
  have b0 := wf.1
  have b1 := wf.2.1
  have b2 := wf.2.2.1
  have b7 := wf.2.2.2.2.2.2.2.1
  refine ⟨WF_u68 wf (by omega) hx, CPz_to (CP_u96 (CPz_of cp) b0 b1 b2 b7 (by omega)), ?_, ?_, ?_⟩
  · unfold namR; rw [updf_ne (by omega), updf_ne (by omega), updf_ne (by omega)]; exact nm
  · rw [setR_ne (by omega)]; unfold flR; rw [updf_ne (by omega), updf_ne (by omega)]; exact fl
  · intro p h1 h2
    rw [updf_ne (by omega)] at h1
    have h3 := fz p h1 h2
    rw [updf_ne (by omega), updf_ne (by omega), updf_ne (by omega)]
    exact h3

theorem DRF_u100 {Q : Nat → Int → Int} {w : Nat → Nat → Int64} {v72 : Nat → Int64} {o : Int} {N : Int → Int} {z x : Int} (h : DRF Q w v72 o N) (hz : 0 ≤ z ∧ z < 6) (hx : 0 ≤ x ∧ x ≤ 3) : DRF (setR Q 100 (updf (Q 100) z x)) w v72 o (updf N (84 + z) x) := by
  obtain ⟨wf, cp, nm, fl, fz⟩ := h
  have b0 := wf.1
  have b1 := wf.2.1
  have b2 := wf.2.2.1
  have b7 := wf.2.2.2.2.2.2.2.1
  refine ⟨WF_u84 wf (by omega) hx, CPz_to (CP_u100 (CPz_of cp) b0 b1 b2 b7 (by omega)), ?_, ?_, ?_⟩
  · unfold namR; rw [updf_ne (by omega), updf_ne (by omega), updf_ne (by omega)]; exact nm
  · rw [setR_ne (by omega)]; unfold flR; rw [updf_ne (by omega), updf_ne (by omega)]; exact fl
  · intro p h1 h2
    rw [updf_ne (by omega)] at h1
    have h3 := fz p h1 h2
    rw [updf_ne (by omega), updf_ne (by omega), updf_ne (by omega)]
    exact h3

theorem DRF_u101 {Q : Nat → Int → Int} {w : Nat → Nat → Int64} {v72 : Nat → Int64} {o : Int} {N : Int → Int} {z x : Int} (h : DRF Q w v72 o N) (hz : 0 ≤ z ∧ z < 6) (hx : 0 ≤ x ∧ x ≤ 99) : DRF (setR Q 101 (updf (Q 101) z x)) w v72 o (updf N (90 + z) x) := by
  obtain ⟨wf, cp, nm, fl, fz⟩ := h
  have b0 := wf.1
  have b1 := wf.2.1
  have b2 := wf.2.2.1
  have b7 := wf.2.2.2.2.2.2.2.1
  refine ⟨WF_u90 wf (by omega) hx, CPz_to (CP_u101 (CPz_of cp) b0 b1 b2 b7 (by omega)), ?_, ?_, ?_⟩
  · unfold namR; rw [updf_ne (by omega), updf_ne (by omega), updf_ne (by omega)]; exact nm
  · rw [setR_ne (by omega)]; unfold flR; rw [updf_ne (by omega), updf_ne (by omega)]; exact fl
  · intro p h1 h2
    rw [updf_ne (by omega)] at h1
    have h3 := fz p h1 h2
    rw [updf_ne (by omega), updf_ne (by omega), updf_ne (by omega)]
    exact h3

theorem DRF_u102 {Q : Nat → Int → Int} {w : Nat → Nat → Int64} {v72 : Nat → Int64} {o : Int} {N : Int → Int} {z x : Int} (h : DRF Q w v72 o N) (hz : 0 ≤ z ∧ z < 6) (hx : 0 ≤ x ∧ x ≤ 99) : DRF (setR Q 102 (updf (Q 102) z x)) w v72 o (updf N (96 + z) x) := by
  obtain ⟨wf, cp, nm, fl, fz⟩ := h
  have b0 := wf.1
  have b1 := wf.2.1
  have b2 := wf.2.2.1
  have b7 := wf.2.2.2.2.2.2.2.1
  refine ⟨WF_u96 wf (by omega) hx, CPz_to (CP_u102 (CPz_of cp) b0 b1 b2 b7 (by omega)), ?_, ?_, ?_⟩
  · unfold namR; rw [updf_ne (by omega), updf_ne (by omega), updf_ne (by omega)]; exact nm
  · rw [setR_ne (by omega)]; unfold flR; rw [updf_ne (by omega), updf_ne (by omega)]; exact fl
  · intro p h1 h2
    rw [updf_ne (by omega)] at h1
    have h3 := fz p h1 h2
    rw [updf_ne (by omega), updf_ne (by omega), updf_ne (by omega)]
    exact h3

theorem DRF_d0 {Q : Nat → Int → Int} {w : Nat → Nat → Int64} {v72 : Nat → Int64} {o : Int} {N : Int → Int} {z x : Int} (h : DRF Q w v72 o N) (hz : 0 ≤ z ∧ z < 6) (hx : 0 ≤ x ∧ x ≤ 599) : DRF (setR Q 97 (updf (Q 97) (2 * z) x)) w v72 o (updf N (72 + z) x) := by
  obtain ⟨wf, cp, nm, fl, fz⟩ := h
  have b0 := wf.1
  have b1 := wf.2.1
  have b2 := wf.2.2.1
  have b7 := wf.2.2.2.2.2.2.2.1
  refine ⟨WF_u72 wf (by omega) hx, CPz_to (CP_d0 (CPz_of cp) b0 b1 b2 b7 (by omega)), ?_, ?_, ?_⟩
  · unfold namR; rw [updf_ne (by omega), updf_ne (by omega), updf_ne (by omega)]; exact nm
  · rw [setR_ne (by omega)]; unfold flR; rw [updf_ne (by omega), updf_ne (by omega)]; exact fl
  · intro p h1 h2
    rw [updf_ne (by omega)] at h1
    have h3 := fz p h1 h2
    rw [updf_ne (by omega), updf_ne (by omega), updf_ne (by omega)]
    exact h3

theorem DRF_d1 {Q : Nat → Int → Int} {w : Nat → Nat → Int64} {v72 : Nat → Int64} {o : Int} {N : Int → Int} {z x : Int} (h : DRF Q w v72 o N) (hz : 0 ≤ z ∧ z < 6) (hx : 0 ≤ x ∧ x ≤ 599) : DRF (setR Q 97 (updf (Q 97) (2 * z + 1) x)) w v72 o (updf N (78 + z) x) := by
  obtain ⟨wf, cp, nm, fl, fz⟩ := h
  have b0 := wf.1
  have b1 := wf.2.1
  have b2 := wf.2.2.1
  have b7 := wf.2.2.2.2.2.2.2.1
  refine ⟨WF_u78 wf (by omega) hx, CPz_to (CP_d1 (CPz_of cp) b0 b1 b2 b7 (by omega)), ?_, ?_, ?_⟩
  · unfold namR; rw [updf_ne (by omega), updf_ne (by omega), updf_ne (by omega)]; exact nm
  · rw [setR_ne (by omega)]; unfold flR; rw [updf_ne (by omega), updf_ne (by omega)]; exact fl
  · intro p h1 h2
    rw [updf_ne (by omega)] at h1
    have h3 := fz p h1 h2
    rw [updf_ne (by omega), updf_ne (by omega), updf_ne (by omega)]
    exact h3

theorem DRF_o90 {Q : Nat → Int → Int} {w : Nat → Nat → Int64} {v72 : Nat → Int64} {o : Int} {N : Int → Int} {z x : Int} (h : DRF Q w v72 o N) (hz : N 0 ≤ z) : DRF (setR Q 90 (updf (Q 90) z x)) w v72 o N := by
  obtain ⟨wf, cp, nm, fl, fz⟩ := h
  have b0 := wf.1
  have b1 := wf.2.1
  have b2 := wf.2.2.1
  have b7 := wf.2.2.2.2.2.2.2.1
  obtain ⟨⟨c0, c1, c2, c3, c4, c5, c6, c7⟩, cpp, cpg, cpd, cpk⟩ := CPz_of cp
  refine ⟨wf, CPz_to ⟨⟨?_, ?_, ?_, ?_, ?_, ?_, ?_, ?_⟩, fun p g1 g2 => ?_, fun p g1 g2 => ?_, fun p g1 g2 => ?_, fun p g1 g2 => ?_⟩, nm, by rw [setR_ne (by omega)]; exact fl, fz⟩
  · rw [setR_ne (by omega)]; exact c0
  · rw [setR_ne (by omega)]; exact c1
  · rw [setR_ne (by omega)]; exact c2
  · rw [setR_ne (by omega)]; exact c3
  · rw [setR_ne (by omega)]; exact c4
  · rw [setR_ne (by omega)]; exact c5
  · rw [setR_ne (by omega)]; exact c6
  · rw [setR_ne (by omega)]; exact c7
  · obtain ⟨e0, e1, e2, e3, e4⟩ := cpp p g1 g2
    refine ⟨?_, ?_, ?_, ?_, ?_⟩
    · rw [setR_ne (by omega)]; exact e0
    · rw [setR_ne (by omega)]; exact e1
    · rw [setR_ne (by omega)]; exact e2
    · rw [setR_same, updf_ne (by omega)]; exact e3
    · rw [setR_ne (by omega)]; exact e4
  · obtain ⟨e0, e1, e2, e3⟩ := cpg p g1 g2
    refine ⟨?_, ?_, ?_, ?_⟩
    · rw [setR_ne (by omega)]; exact e0
    · rw [setR_ne (by omega)]; exact e1
    · rw [setR_ne (by omega)]; exact e2
    · rw [setR_ne (by omega)]; exact e3
  · obtain ⟨e0, e1⟩ := cpd p g1 g2
    refine ⟨?_, ?_⟩
    · rw [setR_ne (by omega)]; exact e0
    · rw [setR_ne (by omega)]; exact e1
  · obtain ⟨e0, e1, e2⟩ := cpk p g1 g2
    refine ⟨?_, ?_, ?_⟩
    · rw [setR_ne (by omega)]; exact e0
    · rw [setR_ne (by omega)]; exact e1
    · rw [setR_ne (by omega)]; exact e2
theorem DRF_o91 {Q : Nat → Int → Int} {w : Nat → Nat → Int64} {v72 : Nat → Int64} {o : Int} {N : Int → Int} {z x : Int} (h : DRF Q w v72 o N) (hz : N 0 ≤ z) : DRF (setR Q 91 (updf (Q 91) z x)) w v72 o N := by
  obtain ⟨wf, cp, nm, fl, fz⟩ := h
  have b0 := wf.1
  have b1 := wf.2.1
  have b2 := wf.2.2.1
  have b7 := wf.2.2.2.2.2.2.2.1
  obtain ⟨⟨c0, c1, c2, c3, c4, c5, c6, c7⟩, cpp, cpg, cpd, cpk⟩ := CPz_of cp
  refine ⟨wf, CPz_to ⟨⟨?_, ?_, ?_, ?_, ?_, ?_, ?_, ?_⟩, fun p g1 g2 => ?_, fun p g1 g2 => ?_, fun p g1 g2 => ?_, fun p g1 g2 => ?_⟩, nm, by rw [setR_ne (by omega)]; exact fl, fz⟩
  · rw [setR_ne (by omega)]; exact c0
  · rw [setR_ne (by omega)]; exact c1
  · rw [setR_ne (by omega)]; exact c2
  · rw [setR_ne (by omega)]; exact c3
  · rw [setR_ne (by omega)]; exact c4
  · rw [setR_ne (by omega)]; exact c5
  · rw [setR_ne (by omega)]; exact c6
  · rw [setR_ne (by omega)]; exact c7
  · obtain ⟨e0, e1, e2, e3, e4⟩ := cpp p g1 g2
    refine ⟨?_, ?_, ?_, ?_, ?_⟩
    · rw [setR_ne (by omega)]; exact e0
    · rw [setR_ne (by omega)]; exact e1
    · rw [setR_ne (by omega)]; exact e2
    · rw [setR_ne (by omega)]; exact e3
    · rw [setR_same, updf_ne (by omega)]; exact e4
  · obtain ⟨e0, e1, e2, e3⟩ := cpg p g1 g2
    refine ⟨?_, ?_, ?_, ?_⟩
    · rw [setR_ne (by omega)]; exact e0
    · rw [setR_ne (by omega)]; exact e1
    · rw [setR_ne (by omega)]; exact e2
    · rw [setR_ne (by omega)]; exact e3
  · obtain ⟨e0, e1⟩ := cpd p g1 g2
    refine ⟨?_, ?_⟩
    · rw [setR_ne (by omega)]; exact e0
    · rw [setR_ne (by omega)]; exact e1
  · obtain ⟨e0, e1, e2⟩ := cpk p g1 g2
    refine ⟨?_, ?_, ?_⟩
    · rw [setR_ne (by omega)]; exact e0
    · rw [setR_ne (by omega)]; exact e1
    · rw [setR_ne (by omega)]; exact e2
theorem DRF_o93 {Q : Nat → Int → Int} {w : Nat → Nat → Int64} {v72 : Nat → Int64} {o : Int} {N : Int → Int} {z x : Int} (h : DRF Q w v72 o N) (hz : N 1 ≤ z) : DRF (setR Q 93 (updf (Q 93) z x)) w v72 o N := by
  obtain ⟨wf, cp, nm, fl, fz⟩ := h
  have b0 := wf.1
  have b1 := wf.2.1
  have b2 := wf.2.2.1
  have b7 := wf.2.2.2.2.2.2.2.1
  obtain ⟨⟨c0, c1, c2, c3, c4, c5, c6, c7⟩, cpp, cpg, cpd, cpk⟩ := CPz_of cp
  refine ⟨wf, CPz_to ⟨⟨?_, ?_, ?_, ?_, ?_, ?_, ?_, ?_⟩, fun p g1 g2 => ?_, fun p g1 g2 => ?_, fun p g1 g2 => ?_, fun p g1 g2 => ?_⟩, nm, by rw [setR_ne (by omega)]; exact fl, fz⟩
  · rw [setR_ne (by omega)]; exact c0
  · rw [setR_ne (by omega)]; exact c1
  · rw [setR_ne (by omega)]; exact c2
  · rw [setR_ne (by omega)]; exact c3
  · rw [setR_ne (by omega)]; exact c4
  · rw [setR_ne (by omega)]; exact c5
  · rw [setR_ne (by omega)]; exact c6
  · rw [setR_ne (by omega)]; exact c7
  · obtain ⟨e0, e1, e2, e3, e4⟩ := cpp p g1 g2
    refine ⟨?_, ?_, ?_, ?_, ?_⟩
    · rw [setR_ne (by omega)]; exact e0
    · rw [setR_ne (by omega)]; exact e1
    · rw [setR_ne (by omega)]; exact e2
    · rw [setR_ne (by omega)]; exact e3
    · rw [setR_ne (by omega)]; exact e4
  · obtain ⟨e0, e1, e2, e3⟩ := cpg p g1 g2
    refine ⟨?_, ?_, ?_, ?_⟩
    · rw [setR_same, updf_ne (by omega)]; exact e0
    · rw [setR_ne (by omega)]; exact e1
    · rw [setR_ne (by omega)]; exact e2
    · rw [setR_ne (by omega)]; exact e3
  · obtain ⟨e0, e1⟩ := cpd p g1 g2
    refine ⟨?_, ?_⟩
    · rw [setR_ne (by omega)]; exact e0
    · rw [setR_ne (by omega)]; exact e1
  · obtain ⟨e0, e1, e2⟩ := cpk p g1 g2
    refine ⟨?_, ?_, ?_⟩
    · rw [setR_ne (by omega)]; exact e0
    · rw [setR_ne (by omega)]; exact e1
    · rw [setR_ne (by omega)]; exact e2
theorem DRF_o94 {Q : Nat → Int → Int} {w : Nat → Nat → Int64} {v72 : Nat → Int64} {o : Int} {N : Int → Int} {z x : Int} (h : DRF Q w v72 o N) (hz : N 1 ≤ z) : DRF (setR Q 94 (updf (Q 94) z x)) w v72 o N := by
  obtain ⟨wf, cp, nm, fl, fz⟩ := h
  have b0 := wf.1
  have b1 := wf.2.1
  have b2 := wf.2.2.1
  have b7 := wf.2.2.2.2.2.2.2.1
  obtain ⟨⟨c0, c1, c2, c3, c4, c5, c6, c7⟩, cpp, cpg, cpd, cpk⟩ := CPz_of cp
  refine ⟨wf, CPz_to ⟨⟨?_, ?_, ?_, ?_, ?_, ?_, ?_, ?_⟩, fun p g1 g2 => ?_, fun p g1 g2 => ?_, fun p g1 g2 => ?_, fun p g1 g2 => ?_⟩, nm, by rw [setR_ne (by omega)]; exact fl, fz⟩
  · rw [setR_ne (by omega)]; exact c0
  · rw [setR_ne (by omega)]; exact c1
  · rw [setR_ne (by omega)]; exact c2
  · rw [setR_ne (by omega)]; exact c3
  · rw [setR_ne (by omega)]; exact c4
  · rw [setR_ne (by omega)]; exact c5
  · rw [setR_ne (by omega)]; exact c6
  · rw [setR_ne (by omega)]; exact c7
  · obtain ⟨e0, e1, e2, e3, e4⟩ := cpp p g1 g2
    refine ⟨?_, ?_, ?_, ?_, ?_⟩
    · rw [setR_ne (by omega)]; exact e0
    · rw [setR_ne (by omega)]; exact e1
    · rw [setR_ne (by omega)]; exact e2
    · rw [setR_ne (by omega)]; exact e3
    · rw [setR_ne (by omega)]; exact e4
  · obtain ⟨e0, e1, e2, e3⟩ := cpg p g1 g2
    refine ⟨?_, ?_, ?_, ?_⟩
    · rw [setR_ne (by omega)]; exact e0
    · rw [setR_same, updf_ne (by omega)]; exact e1
    · rw [setR_ne (by omega)]; exact e2
    · rw [setR_ne (by omega)]; exact e3
  · obtain ⟨e0, e1⟩ := cpd p g1 g2
    refine ⟨?_, ?_⟩
    · rw [setR_ne (by omega)]; exact e0
    · rw [setR_ne (by omega)]; exact e1
  · obtain ⟨e0, e1, e2⟩ := cpk p g1 g2
    refine ⟨?_, ?_, ?_⟩
    · rw [setR_ne (by omega)]; exact e0
    · rw [setR_ne (by omega)]; exact e1
    · rw [setR_ne (by omega)]; exact e2
theorem DRF_n0 {Q : Nat → Int → Int} {w : Nat → Nat → Int64} {v72 : Nat → Int64} {o : Int} {N : Int → Int} (h : DRF Q w v72 o N) (hc : N 0 < 8) (hn : nmR (w 86 (N 0).toNat) (v72 (0 + (N 0).toNat))) (hq : Q 87 (N 0) = N (8 + N 0) ∧ Q 88 (N 0) = N (16 + N 0) ∧ Q 89 (N 0) = N (24 + N 0) ∧ Q 90 (N 0) = 0 ∧ Q 91 (N 0) = 0) : DRF (setR Q 85 (updf (Q 85) 6 (N 0 + 1))) w v72 o (updf N 0 (N 0 + 1)) := by
  obtain ⟨wf, cp, nm, fl, fz⟩ := h
  have b0 := wf.1
  have b1 := wf.2.1
  have b2 := wf.2.2.1
  have b7 := wf.2.2.2.2.2.2.2.1
  refine ⟨WF_n0 wf fz hc, CPz_to (CP_n0 (CPz_of cp) b0 b1 b2 b7 ⟨hq.1, hq.2.1, hq.2.2.1, by rw [hq.2.2.2.1, (fz (N 0) (by omega) (by omega)).1], by rw [hq.2.2.2.2, (fz (N 0) (by omega) (by omega)).2.1]⟩), ?_, ?_, ?_⟩
  · obtain ⟨m0, m1, m2⟩ := nm
    refine ⟨fun p hp => ?_, fun p hp => ?_, fun p hp => ?_⟩
    · rw [updf_same rfl] at hp
      by_cases e : p = (N 0).toNat
      · rw [e]; simpa using hn
      · exact m0 p (by omega)
    · rw [updf_ne (by omega)] at hp
      exact m1 p hp
    · rw [updf_ne (by omega)] at hp
      exact m2 p hp
  · rw [setR_ne (by omega)]; unfold flR; rw [updf_ne (by omega), updf_ne (by omega)]; exact fl
  · intro p h1 h2
    rw [updf_same rfl] at h1
    have h3 := fz p (by omega) h2
    rw [updf_ne (by omega), updf_ne (by omega), updf_ne (by omega)]
    exact h3
theorem DRF_n2 {Q : Nat → Int → Int} {w : Nat → Nat → Int64} {v72 : Nat → Int64} {o : Int} {N : Int → Int} (h : DRF Q w v72 o N) (hc : N 2 < 6) (hn : nmR (w 99 (N 2).toNat) (v72 (12 + (N 2).toNat))) (hq : Q 100 (N 2) = N (84 + N 2) ∧ Q 101 (N 2) = N (90 + N 2) ∧ Q 102 (N 2) = N (96 + N 2)) : DRF (setR Q 98 (updf (Q 98) 4 (N 2 + 1))) w v72 o (updf N 2 (N 2 + 1)) := by
  obtain ⟨wf, cp, nm, fl, fz⟩ := h
  have b0 := wf.1
  have b1 := wf.2.1
  have b2 := wf.2.2.1
  have b7 := wf.2.2.2.2.2.2.2.1
  refine ⟨WF_n2 wf hc, CPz_to (CP_n2 (CPz_of cp) b0 b1 b2 b7 hq), ?_, ?_, ?_⟩
  · obtain ⟨m0, m1, m2⟩ := nm
    refine ⟨fun p hp => ?_, fun p hp => ?_, fun p hp => ?_⟩
    · rw [updf_ne (by omega)] at hp
      exact m0 p hp
    · rw [updf_ne (by omega)] at hp
      exact m1 p hp
    · rw [updf_same rfl] at hp
      by_cases e : p = (N 2).toNat
      · rw [e]; simpa using hn
      · exact m2 p (by omega)
  · rw [setR_ne (by omega)]; unfold flR; rw [updf_ne (by omega), updf_ne (by omega)]; exact fl
  · intro p h1 h2
    rw [updf_ne (by omega)] at h1
    have h3 := fz p h1 h2
    rw [updf_ne (by omega), updf_ne (by omega), updf_ne (by omega)]
    exact h3
theorem DRF_n7 {Q : Nat → Int → Int} {w : Nat → Nat → Int64} {v72 : Nat → Int64} {o : Int} {N : Int → Int} (h : DRF Q w v72 o N) (hc : N 7 < 6) (hq : Q 97 (2 * N 7) = N (72 + N 7) ∧ Q 97 (2 * N 7 + 1) = N (78 + N 7)) : DRF (setR Q 85 (updf (Q 85) 14 (N 7 + 1))) w v72 o (updf N 7 (N 7 + 1)) := by
  obtain ⟨wf, cp, nm, fl, fz⟩ := h
  have b0 := wf.1
  have b1 := wf.2.1
  have b2 := wf.2.2.1
  have b7 := wf.2.2.2.2.2.2.2.1
  refine ⟨WF_n7 wf hc, CPz_to (CP_n7 (CPz_of cp) b0 b1 b2 b7 hq), ?_, ?_, ?_⟩
  · unfold namR; rw [updf_ne (by omega), updf_ne (by omega), updf_ne (by omega)]; exact nm
  · rw [setR_ne (by omega)]; unfold flR; rw [updf_ne (by omega), updf_ne (by omega)]; exact fl
  · intro p h1 h2
    rw [updf_ne (by omega)] at h1
    have h3 := fz p h1 h2
    rw [updf_ne (by omega), updf_ne (by omega), updf_ne (by omega)]
    exact h3

theorem DRF_gl {Q : Nat → Int → Int} {w : Nat → Nat → Int64} {v72 : Nat → Int64} {o : Int} {N : Int → Int} {a b : Int} (h : DRF Q w v72 o N) (h1 : N 1 < 4) (ha : 0 ≤ a ∧ a < N 0) (hb : 0 ≤ b ∧ b < N 0) (hab : a ≠ b) (wa : N (48 + a) = -1) (wb : N (48 + b) = -1) (h64 : 1 ≤ N (64 + N 1)) (h68 : 1 ≤ N (68 + N 1)) (hn : nmR (w 92 (N 1).toNat) (v72 (8 + (N 1).toNat))) (hq : Q 93 (N 1) = a ∧ Q 94 (N 1) = b ∧ Q 95 (N 1) = N (64 + N 1) ∧ Q 96 (N 1) = N (68 + N 1)) : DRF (setR Q 85 (updf (Q 85) 12 (N 1 + 1))) w v72 o (glA N a b) := by
  obtain ⟨wf, cp, nm, fl, fz⟩ := h
  have b0 := wf.1
  have b1 := wf.2.1
  have b2 := wf.2.2.1
  have b7 := wf.2.2.2.2.2.2.2.1
  obtain ⟨⟨c0, c1, c2, c3, c4, c5, c6, c7⟩, cpp, cpg, cpd, cpk⟩ := CPz_of cp
  have gn : ∀ j, j ≠ 1 → (j < 48 ∨ 64 ≤ j) → glA N a b j = N j := fun j i1 i2 => glA_ne (by omega) (by omega) (by omega) (by omega) i1
  have g1' : glA N a b 1 = N 1 + 1 := glA_1
  refine ⟨WF_gl wf h1 ha hb hab wa wb h64 h68, CPz_to ⟨⟨?_, ?_, ?_, ?_, ?_, ?_, ?_, ?_⟩, fun p g1 g2 => ?_, fun p g1 g2 => ?_, fun p g1 g2 => ?_, fun p g1 g2 => ?_⟩, ?_, ?_, ?_⟩
  · rw [setR_same, updf_ne (by omega), gn 0 (by omega) (by omega)]; exact c0
  · rw [setR_same, updf_same rfl, g1']
  · rw [setR_ne (by omega), gn 2 (by omega) (by omega)]; exact c2
  · rw [setR_same, updf_ne (by omega), gn 3 (by omega) (by omega)]; exact c3
  · rw [setR_same, updf_ne (by omega), gn 4 (by omega) (by omega)]; exact c4
  · rw [setR_same, updf_ne (by omega), gn 5 (by omega) (by omega)]; exact c5
  · rw [setR_same, updf_ne (by omega), gn 6 (by omega) (by omega)]; exact c6
  · rw [setR_same, updf_ne (by omega), gn 7 (by omega) (by omega)]; exact c7
  · rw [gn 0 (by omega) (by omega)] at g2
    obtain ⟨e0, e1, e2, e3, e4⟩ := cpp p g1 g2
    rw [setR_ne (by omega), setR_ne (by omega), setR_ne (by omega), setR_ne (by omega), setR_ne (by omega), gn _ (by omega) (by omega), gn _ (by omega) (by omega), gn _ (by omega) (by omega), gn _ (by omega) (by omega), gn _ (by omega) (by omega)]
    exact ⟨e0, e1, e2, e3, e4⟩
  · rw [g1'] at g2
    rw [setR_ne (by omega), setR_ne (by omega), setR_ne (by omega), setR_ne (by omega), gn (64 + p) (by omega) (by omega), gn (68 + p) (by omega) (by omega)]
    by_cases e : p = N 1
    · rw [e, glA_56 (by omega) (by omega) (by omega), glA_60 (by omega) (by omega) (by omega)]
      exact hq
    · obtain ⟨e0, e1, e2, e3⟩ := cpg p g1 (by omega)
      rw [glA_ne (by omega) (by omega) (by omega) (by omega) (by omega), glA_ne (by omega) (by omega) (by omega) (by omega) (by omega)]
      exact ⟨e0, e1, e2, e3⟩
  · rw [gn 7 (by omega) (by omega)] at g2
    obtain ⟨e0, e1⟩ := cpd p g1 g2
    rw [setR_ne (by omega), gn _ (by omega) (by omega), gn _ (by omega) (by omega)]
    exact ⟨e0, e1⟩
  · rw [gn 2 (by omega) (by omega)] at g2
    obtain ⟨e0, e1, e2⟩ := cpk p g1 g2
    rw [setR_ne (by omega), setR_ne (by omega), setR_ne (by omega), gn _ (by omega) (by omega), gn _ (by omega) (by omega), gn _ (by omega) (by omega)]
    exact ⟨e0, e1, e2⟩
  · obtain ⟨m0, m1, m2⟩ := nm
    refine ⟨fun p hp => ?_, fun p hp => ?_, fun p hp => ?_⟩
    · rw [gn 0 (by omega) (by omega)] at hp
      exact m0 p hp
    · rw [g1'] at hp
      by_cases e : p = (N 1).toNat
      · rw [e]; simpa using hn
      · exact m1 p (by omega)
    · rw [gn 2 (by omega) (by omega)] at hp
      exact m2 p hp
  · rw [setR_ne (by omega)]; unfold flR; rw [gn 5 (by omega) (by omega), gn 6 (by omega) (by omega)]; exact fl
  · intro p h1 h2
    rw [gn 0 (by omega) (by omega)] at h1
    have h3 := fz p h1 h2
    rw [gn (32 + p) (by omega) (by omega), gn (40 + p) (by omega) (by omega), glA_ne (by omega) (by omega) (by omega) (by omega) (by omega)]
    exact h3
theorem DRF_s3 {Q : Nat → Int → Int} {w : Nat → Nat → Int64} {v72 : Nat → Int64} {o : Int} {N : Int → Int} {x : Int} (h : DRF Q w v72 o N) (h0 : Q 103 2 = 0) (hx : 1 ≤ x ∧ x ≤ 9) : DRF (setR (setR Q 103 (updf (Q 103) 2 1)) 85 (updf (Q 85) 16 x)) w v72 (o + 1) (updf N 3 x) := by
  obtain ⟨wf, cp, nm, fl, fz⟩ := h
  have b0 := wf.1
  have b1 := wf.2.1
  have b2 := wf.2.2.1
  have b7 := wf.2.2.2.2.2.2.2.1
  have cp1 : CPz (setR Q 103 (updf (Q 103) 2 1)) N := CPz_of (CP_q cp (fun a i1 i2 => setR_ne (by omega)))
  have cp2 := CP_s3 (v := x) cp1 b0 b1 b2 b7
  rw [setR_ne (a := 103) (b := 85) (by omega)] at cp2
  refine ⟨WF_s3 wf hx, CPz_to cp2, ?_, ?_, ?_⟩
  · unfold namR; rw [updf_ne (by omega), updf_ne (by omega), updf_ne (by omega)]; exact nm
  · rw [setR_ne (by omega), setR_same]
    unfold flR at fl ⊢
    rw [updf_same rfl, updf_ne (by omega), updf_ne (by omega), updf_ne (by omega)]
    omega
  · intro p h1 h2
    rw [updf_ne (by omega)] at h1
    have h3 := fz p h1 h2
    rw [updf_ne (by omega), updf_ne (by omega), updf_ne (by omega)]
    exact h3

theorem DRF_s4 {Q : Nat → Int → Int} {w : Nat → Nat → Int64} {v72 : Nat → Int64} {o : Int} {N : Int → Int} {x : Int} (h : DRF Q w v72 o N) (h0 : Q 103 3 = 0) (hx : 0 ≤ x ∧ x ≤ 99) : DRF (setR (setR Q 103 (updf (Q 103) 3 1)) 85 (updf (Q 85) 17 x)) w v72 (o + 2) (updf N 4 x) := by
  obtain ⟨wf, cp, nm, fl, fz⟩ := h
  have b0 := wf.1
  have b1 := wf.2.1
  have b2 := wf.2.2.1
  have b7 := wf.2.2.2.2.2.2.2.1
  have cp1 : CPz (setR Q 103 (updf (Q 103) 3 1)) N := CPz_of (CP_q cp (fun a i1 i2 => setR_ne (by omega)))
  have cp2 := CP_s4 (v := x) cp1 b0 b1 b2 b7
  rw [setR_ne (a := 103) (b := 85) (by omega)] at cp2
  refine ⟨WF_s4 wf hx, CPz_to cp2, ?_, ?_, ?_⟩
  · unfold namR; rw [updf_ne (by omega), updf_ne (by omega), updf_ne (by omega)]; exact nm
  · rw [setR_ne (by omega), setR_same]
    unfold flR at fl ⊢
    rw [updf_same rfl, updf_ne (by omega), updf_ne (by omega), updf_ne (by omega)]
    omega
  · intro p h1 h2
    rw [updf_ne (by omega)] at h1
    have h3 := fz p h1 h2
    rw [updf_ne (by omega), updf_ne (by omega), updf_ne (by omega)]
    exact h3

theorem DRF_s5 {Q : Nat → Int → Int} {w : Nat → Nat → Int64} {v72 : Nat → Int64} {o : Int} {N : Int → Int} (h : DRF Q w v72 o N) (h0 : N 5 = 0) : DRF (setR Q 85 (updf (Q 85) 18 1)) w v72 (o + 4) (updf N 5 1) := by
  obtain ⟨wf, cp, nm, fl, fz⟩ := h
  have b0 := wf.1
  have b1 := wf.2.1
  have b2 := wf.2.2.1
  have b7 := wf.2.2.2.2.2.2.2.1
  refine ⟨WF_s5 wf (by omega), CPz_to (CP_s5 (CPz_of cp) b0 b1 b2 b7), ?_, ?_, ?_⟩
  · unfold namR; rw [updf_ne (by omega), updf_ne (by omega), updf_ne (by omega)]; exact nm
  · rw [setR_ne (by omega)]
    unfold flR at fl ⊢
    rw [updf_same rfl, updf_ne (by omega)]
    omega
  · intro p h1 h2
    rw [updf_ne (by omega)] at h1
    have h3 := fz p h1 h2
    rw [updf_ne (by omega), updf_ne (by omega), updf_ne (by omega)]
    exact h3

theorem DRF_s6 {Q : Nat → Int → Int} {w : Nat → Nat → Int64} {v72 : Nat → Int64} {o : Int} {N : Int → Int} (h : DRF Q w v72 o N) (h0 : N 6 = 0) : DRF (setR Q 85 (updf (Q 85) 19 1)) w v72 (o + 8) (updf N 6 1) := by
  obtain ⟨wf, cp, nm, fl, fz⟩ := h
  have b0 := wf.1
  have b1 := wf.2.1
  have b2 := wf.2.2.1
  have b7 := wf.2.2.2.2.2.2.2.1
  refine ⟨WF_s6 wf (by omega), CPz_to (CP_s6 (CPz_of cp) b0 b1 b2 b7), ?_, ?_, ?_⟩
  · unfold namR; rw [updf_ne (by omega), updf_ne (by omega), updf_ne (by omega)]; exact nm
  · rw [setR_ne (by omega)]
    unfold flR at fl ⊢
    rw [updf_same rfl, updf_ne (by omega)]
    omega
  · intro p h1 h2
    rw [updf_ne (by omega)] at h1
    have h3 := fz p h1 h2
    rw [updf_ne (by omega), updf_ne (by omega), updf_ne (by omega)]
    exact h3

theorem DRF_nm {w' : Nat → Nat → Int64} {v' : Nat → Int64} {row slot zn : Nat} {Q : Nat → Int → Int} {w : Nat → Nat → Int64} {v72 : Nat → Int64} {o : Int} {N : Int → Int} (h : DRF Q w v72 o N) (hw : ∀ a j, ¬ (a = row ∧ j = zn) → a = 86 ∨ a = 92 ∨ a = 99 → w' a j = w a j) (hv : ∀ j, j ≠ slot → v' j = v72 j) (hc : (row = 86 ∧ slot = zn ∧ N 0 ≤ zn ∧ zn < 8) ∨ (row = 92 ∧ slot = 8 + zn ∧ N 1 ≤ zn ∧ zn < 4) ∨ (row = 99 ∧ slot = 12 + zn ∧ N 2 ≤ zn)) : DRF Q w' v' o N := by
  obtain ⟨wf, cp, nm, fl, fz⟩ := h
  have b0 := wf.1
  have b1 := wf.2.1
  have b2 := wf.2.2.1
  have b7 := wf.2.2.2.2.2.2.2.1
  obtain ⟨m0, m1, m2⟩ := nm
  refine ⟨wf, cp, ⟨fun p hp => ?_, fun p hp => ?_, fun p hp => ?_⟩, fl, fz⟩
  · rw [hw 86 p (by omega) (by omega), hv (0 + p) (by omega)]; exact m0 p hp
  · rw [hw 92 p (by omega) (by omega), hv (0 + 8 + p) (by omega)]; exact m1 p hp
  · rw [hw 99 p (by omega) (by omega), hv (0 + 12 + p) (by omega)]; exact m2 p hp
