def turnA (N : Int → Int) (p : Int) : Int → Int := updf (updf (updf (updf N (125 + N (48 + p)) (N (64 + N (48 + p)) - N (125 + N (48 + p)))) (133 + N (48 + p)) 0) (137 + N (48 + p)) (N (137 + N (48 + p)) + 1)) (113 + p) (N (113 + p) + 1)
theorem M_doTurn {S : Nat → Nat × Nat} {R : Nat → Int → Int} {w : Nat → Nat → Int64} {rf : Nat → Nat → Option Nat} {p : Int} (hS : SMok S) (hr : RMok rf) (wf : WFP (R 66)) (hp : 0 ≤ p ∧ p < R 66 0) (hg : 0 ≤ R 66 (48 + p)) : fX13_doTurn S (mk R w rf) 64 (I p) = some (mk (setR R 66 (turnA (R 66) p)) w rf) := by
  obtain ⟨wn0, wn1, wn2, wn3, wn4, wn5, wn6, wn7, wfr, wto, wff, wwa, wco, wwd, wgl, wgr, wnk, wda, wdr, wgo, wg1, wg2, wwx⟩ := wf
  have h1 := wwd p (by omega) (by omega)
  simp (disch := first | assumption | omega) only [fX13_doTurn, I_lit, orb_I, I_add, I_sub, I_mul, I_neg, nm_eq, bd0_s, bd2_s, un2_eq, un3_eq, un4_eq, un5_eq, un6_eq, cs2_l, cs2_r, mk_1, mk_2, wI_mk, wL_mk, wR_mk, setR_same, setR_setR, rZ_0, rZ_1, rZ_b2, it_b2, it_nb2, it_b21, it_nb21, I_lt, I_le, I_eq, I_div, castI, if_true, if_false, Classical.not_not, gM14, ldM66, stM66, updf_ne]
  rfl
theorem WFL_upd {N : Int → Int} {z v : Int} (wl : WFL N) (h0 : N 1 ≤ 4) (hz : 102 ≤ z) (h102 : z = 102 → 0 ≤ v ∧ v ≤ 600) (h105 : 105 ≤ z → z < 113 → 0 ≤ v ∧ v ≤ 99) (h121 : 121 ≤ z → z < 125 → 1 ≤ v ∧ v ≤ 9) (h125 : 125 ≤ z → z < 129 → 0 ≤ v ∧ v ≤ 250 ∧ v ≤ N (64 + (z - 125))) (h129 : 129 ≤ z → z < 133 → 0 ≤ v ∧ v ≤ 2) (h133 : 133 ≤ z → z < 137 → 0 ≤ v ∧ v ≤ 9) : WFL (updf N z v) := by
  obtain ⟨vh, vfo, vnk, vle, vti, vwa, vgl⟩ := wl
  refine ⟨?_, ?_, ?_, ?_, ?_, ?_, ?_⟩
  · by_cases h : z = 102
    · rw [updf_same h.symm]; exact h102 h
    · rw [updf_ne (by omega)]; exact vh
  · intro p h1 h2
    by_cases h : 105 + p = z
    · rw [updf_same h]; exact h105 (by omega) (by omega)
    · rw [updf_ne h]; exact vfo p h1 h2
  · intro p h1 h2
    by_cases h : 121 + p = z
    · have := h121 (by omega) (by omega)
      rw [updf_same h]; omega
    · rw [updf_ne h]; exact vnk p h1 h2
  · intro p h1 h2
    by_cases h : 125 + p = z
    · have := h125 (by omega) (by omega)
      rw [updf_same h]; omega
    · rw [updf_ne h]; exact vle p h1 h2
  · intro p h1 h2
    by_cases h : 129 + p = z
    · rw [updf_same h]; exact h129 (by omega) (by omega)
    · rw [updf_ne h]; exact vti p h1 h2
  · intro p h1 h2
    by_cases h : 133 + p = z
    · rw [updf_same h]; exact h133 (by omega) (by omega)
    · rw [updf_ne h]; exact vwa p h1 h2
  · intro g h1 h2
    rw [updf_ne (by omega)] at h2
    have h3 := vgl g h1 h2
    refine ⟨?_, ?_⟩
    · by_cases h : 121 + g = z
      · rw [updf_same h]; exact (h121 (by omega) (by omega)).1
      · rw [updf_ne h]; exact h3.1
    · rw [updf_ne (y := 64 + g) (by omega)]
      by_cases h : 125 + g = z
      · have h4 := h125 (by omega) (by omega)
        rw [updf_same h]
        have h5 : z - 125 = g := by omega
        rw [h5] at h4
        exact h4.2.2
      · rw [updf_ne h]; exact h3.2
theorem AgP_turn {N : Int → Int} {p : Int} (h : 0 ≤ N (48 + p)) (hp : 0 ≤ p) : AgP N (turnA N p) := by
  unfold turnA
  exact AgP_upd (AgP_upd (AgP_upd (AgP_upd (AgP_refl N) (by omega)) (by omega)) (by omega)) (by omega)
theorem WFL_turn {N : Int → Int} {p : Int} (wf : WFP N) (wl : WFL N) (hp : 0 ≤ p ∧ p < N 0) (hg : 0 ≤ N (48 + p)) : WFL (turnA N p) := by
  obtain ⟨wn0, wn1, wn2, wn3, wn4, wn5, wn6, wn7, wfr, wto, wff, wwa, wco, wwd, wgl, wgr, wnk, wda, wdr, wgo, wg1, wg2, wwx⟩ := wf
  have h1 := wwd p (by omega) (by omega)
  have h2 := wgr (N (48 + p)) hg (by omega)
  have h3 := wl.2.2.2.1 (N (48 + p)) hg (by omega)
  have h4 := wl.2.2.2.2.2.2 (N (48 + p)) hg (by omega)
  unfold turnA
  refine WFL_upd (WFL_upd (WFL_upd (WFL_upd wl (by omega) (by omega) (by omega) (by omega) (by omega) ?_ (by omega) (by omega)) ?_ (by omega) (by omega) (by omega) (by omega) (by omega) (by omega) (by omega)) ?_ (by omega) (by omega) (by omega) (by omega) (by omega) (by omega) (by omega)) ?_ (by omega) (by omega) (by omega) (by omega) (by omega) (by omega) (by omega)
  · intro _ _
    have h5 : 125 + N (48 + p) - 125 = N (48 + p) := by omega
    rw [h5]; omega
  · rw [updf_ne (by omega)]; omega
  · rw [updf_ne (by omega), updf_ne (by omega)]; omega
  · rw [updf_ne (by omega), updf_ne (by omega), updf_ne (by omega)]; omega
theorem C_turnOver {S : Nat → Nat × Nat} {Q : Nat → Int → Int} {w : Nat → Nat → Int64} {rf : Nat → Nat → Option Nat} {N : Int → Int} {l : Nat} {g p : Int} (hS : SCok S) (hr : RCok rf) (hl : isLife l) (wf : WFP N) (cp : CP 67 Q N) (cl : CL l Q N) (hp : 0 ≤ p ∧ p < N 0) (hg : 0 ≤ g ∧ g < N 1) (he : N (48 + p) = g) : ∃ Q', fX3_turnOver S (mk Q w rf) l (I g) (I p) = some (mk Q' w rf) ∧ CL l Q' (turnA N p) ∧ FrL l Q Q' := by
  have hl2 := isLife_r hl
  have wf' := wf
  obtain ⟨wn0, wn1, wn2, wn3, wn4, wn5, wn6, wn7, wfr, wto, wff, wwa, wco, wwd, wgl, wgr, wnk, wda, wdr, wgo, wg1, wg2, wwx⟩ := wf
  have cp' := cp
  have ip67 := isPar67; obtain ⟨⟨c0, c1, c2, c3, c4, c5, c6, c7⟩, cpp, cpg, cpd, cpk⟩ := CPl_of cp
  have cl' := cl
  obtain ⟨⟨c102, c104, c103⟩, clp, clg⟩ := cl
  obtain ⟨e1, e2, e3, e4, e5⟩ := clg g hg.1 hg.2
  obtain ⟨d1, d2⟩ := clp p hp.1 hp.2
  obtain ⟨f1, f2, f3, f4⟩ := cpg g hg.1 hg.2
  refine ⟨setR (setR (setR (setR Q (l + 3) (updf (Q (l + 3)) g (N (64 + g) - N (125 + g)))) (l + 6) (updf (Q (l + 6)) g 0)) (l + 2) (updf (Q (l + 2)) p (N (113 + p) + 1))) (l + 7) (updf (Q (l + 7)) g (N (137 + g) + 1)), ?_, ?_, ?_⟩
  · have hb := C_hasGlass (S := S) (w := w) hS hr wf' cp' (⟨by omega, by omega⟩ : -2147483648 ≤ g ∧ g < 2147483648)
    rw [b2_t hg] at hb
    simp (disch := first | assumption | omega) only [fX3_turnOver, I_lit, orb_I, I_add, I_sub, I_mul, I_neg, nm_eq, bd0_s, bd2_s, un2_eq, un3_eq, un4_eq, un5_eq, un6_eq, cs2_l, cs2_r, mk_1, mk_2, wI_mk, wL_mk, wR_mk, setR_same, setR_setR, rZ_0, rZ_1, rZ_b2, it_b2, it_nb2, it_b21, it_nb21, I_lt, I_le, I_eq, I_div, castI, if_true, if_false, Classical.not_not, hb, gL0, gL6, gL9, gL5, gL10, gP0_10, ldP10, ldL3, stL3, stL6, stL2, ldL2, stL7, ldL7, setR_ne, e1, f3, d2, e5, Int.reduceEq, not_false_eq_true]
  · unfold turnA
    rw [he]
    rw [updf_comm (z := 137 + g) (z' := 113 + p) (by omega)]
    have q1 := CL_u3 (z := g) (v := N (64 + g) - N (125 + g)) cl' wn0.2 wn1.2 (by omega)
    have q2 := CL_u6 (z := g) (v := 0) q1 (by rw [updf_ne (by omega)]; omega) (by rw [updf_ne (by omega)]; omega) (by omega)
    rw [setR_ne (by omega)] at q2
    have q3 := CL_u2 (z := p) (v := N (113 + p) + 1) q2 (by rw [updf_ne (by omega), updf_ne (by omega)]; omega) (by rw [updf_ne (by omega), updf_ne (by omega)]; omega) (by omega)
    rw [setR_ne (by omega), setR_ne (by omega)] at q3
    have q4 := CL_u7 (z := g) (v := N (137 + g) + 1) q3 (by rw [updf_ne (by omega), updf_ne (by omega), updf_ne (by omega)]; omega) (by rw [updf_ne (by omega), updf_ne (by omega), updf_ne (by omega)]; omega) (by omega)
    rw [setR_ne (by omega), setR_ne (by omega), setR_ne (by omega)] at q4
    exact q4
  · exact FrL_set (FrL_set (FrL_set (FrL_set (FrL_refl l Q) (by omega)) (by omega)) (by omega)) (by omega)
noncomputable def liveA (N : Int → Int) (a who n : Int) : Int → Int := ii (a = 0) (turnA N who) (ii (a = 1) (updf N 103 (orbA (N 103) who)) (ii (a = 2) (updf N (105 + othA N who) (min 99 (N (105 + othA N who) + n))) (ii (a = 3) (updf N (129 + who) n) (ii (a = 4) (updf N (121 + who) (N (121 + who) + n)) (updf N (125 + who) (N (125 + who) - n))))))
theorem othA_r {N : Int → Int} {p : Int} (wf : WFP N) (hp : 0 ≤ p ∧ p < N 0) (hg : 0 ≤ N (48 + p)) : 0 ≤ othA N p ∧ othA N p < N 0 := by
  obtain ⟨wn0, wn1, wn2, wn3, wn4, wn5, wn6, wn7, wfr, wto, wff, wwa, wco, wwd, wgl, wgr, wnk, wda, wdr, wgo, wg1, wg2, wwx⟩ := wf
  have h1 := wwd p (by omega) (by omega)
  obtain ⟨g1, g2, -⟩ := wgl _ hg (by omega)
  unfold othA ii
  split <;> assumption
theorem why_wed {N : Int → Int} {a who n : Int} (h : whyA N a who n = 0) (ha : a = 0 ∨ a = 2) : wedA N who := by
  unfold whyA at h
  rcases ha with ha | ha
  · rw [ii_t ha] at h
    unfold why0 at h
    by_cases hw : wedA N who
    · exact hw
    · rw [ii_f hw] at h; omega
  · rw [ii_f (by omega), ii_f (by omega), ii_t ha] at h
    unfold why2 at h
    by_cases hw : wedA N who
    · exact hw
    · rw [ii_f hw] at h; omega
theorem M_live {S : Nat → Nat × Nat} {R : Nat → Int → Int} {w : Nat → Nat → Int64} {rf : Nat → Nat → Option Nat} {a who n : Int} (hS : SMok S) (hr : RMok rf) (wf : WFP (R 66)) (wl : WFL (R 66)) (ok : okA (R 66) a who n) (hy : whyA (R 66) a who n = 0) : fX13_live S (mk R w rf) 64 (I a) (I who) (I n) = some (mk (setR R 66 (liveA (R 66) a who n)) w rf) := by
  obtain ⟨o1, o2, o3, o4, -⟩ := ok
  have wf' := wf
  obtain ⟨wn0, wn1, wn2, wn3, wn4, wn5, wn6, wn7, wfr, wto, wff, wwa, wco, wwd, wgl, wgr, wnk, wda, wdr, wgo, wg1, wg2, wwx⟩ := wf
  unfold liveA
  by_cases a0 : a = 0
  · rw [ii_t a0]
    have hw := why_wed hy (by omega)
    subst a0
    have hp := o2 (by omega)
    simp (disch := first | assumption | omega) only [fX13_live, I_lit, orb_I, I_add, I_sub, I_mul, I_neg, nm_eq, bd0_s, bd2_s, un2_eq, un3_eq, un4_eq, un5_eq, un6_eq, cs2_l, cs2_r, mk_1, mk_2, wI_mk, wL_mk, wR_mk, setR_same, setR_setR, rZ_0, rZ_1, rZ_b2, it_b2, it_nb2, it_b21, it_nb21, I_lt, I_le, I_eq, I_div, castI, if_true, if_false, Classical.not_not, M_doTurn hS hr wf' hp hw.1]
  rw [ii_f a0]
  by_cases a1 : a = 1
  · rw [ii_t a1]
    subst a1
    simp (disch := first | assumption | omega) only [fX13_live, I_lit, orb_I, I_add, I_sub, I_mul, I_neg, nm_eq, bd0_s, bd2_s, un2_eq, un3_eq, un4_eq, un5_eq, un6_eq, cs2_l, cs2_r, mk_1, mk_2, wI_mk, wL_mk, wR_mk, setR_same, setR_setR, rZ_0, rZ_1, rZ_b2, it_b2, it_nb2, it_b21, it_nb21, I_lt, I_le, I_eq, I_div, castI, if_true, if_false, Classical.not_not, gM14, ldM66, Int.reduceEq, stM66]
  rw [ii_f a1]
  by_cases a2 : a = 2
  · rw [ii_t a2]
    have hw := why_wed hy (by omega)
    subst a2
    have hp := o2 (by omega)
    have ho := othA_r wf' hp hw.1
    have h3 := wl.2.1 (othA (R 66) who) ho.1 (by omega)
    simp (disch := first | assumption | omega) only [fX13_live, fX13_doWoo, I_lit, orb_I, I_add, I_sub, I_mul, I_neg, nm_eq, bd0_s, bd2_s, un2_eq, un3_eq, un4_eq, un5_eq, un6_eq, cs2_l, cs2_r, mk_1, mk_2, wI_mk, wL_mk, wR_mk, setR_same, setR_setR, rZ_0, rZ_1, rZ_b2, it_b2, it_nb2, it_b21, it_nb21, I_lt, I_le, I_eq, I_div, castI, if_true, if_false, Classical.not_not, gM14, ldM66, Int.reduceEq, stM66, M_otherOf hS hr wf' hp hw.1, M_least]
  rw [ii_f a2]
  have hp := o3 (by omega)
  by_cases a3 : a = 3
  · rw [ii_t a3]
    subst a3
    simp (disch := first | assumption | omega) only [fX13_live, I_lit, orb_I, I_add, I_sub, I_mul, I_neg, nm_eq, bd0_s, bd2_s, un2_eq, un3_eq, un4_eq, un5_eq, un6_eq, cs2_l, cs2_r, mk_1, mk_2, wI_mk, wL_mk, wR_mk, setR_same, setR_setR, rZ_0, rZ_1, rZ_b2, it_b2, it_nb2, it_b21, it_nb21, I_lt, I_le, I_eq, I_div, castI, if_true, if_false, Classical.not_not, gM14, ldM66, Int.reduceEq, stM66]
  rw [ii_f a3]
  by_cases a4 : a = 4
  · rw [ii_t a4]
    subst a4
    simp (disch := first | assumption | omega) only [fX13_live, I_lit, orb_I, I_add, I_sub, I_mul, I_neg, nm_eq, bd0_s, bd2_s, un2_eq, un3_eq, un4_eq, un5_eq, un6_eq, cs2_l, cs2_r, mk_1, mk_2, wI_mk, wL_mk, wR_mk, setR_same, setR_setR, rZ_0, rZ_1, rZ_b2, it_b2, it_nb2, it_b21, it_nb21, I_lt, I_le, I_eq, I_div, castI, if_true, if_false, Classical.not_not, gM14, ldM66, Int.reduceEq, stM66]
  rw [ii_f a4]
  have a5 : a = 5 := by omega
  subst a5
  simp (disch := first | assumption | omega) only [fX13_live, I_lit, orb_I, I_add, I_sub, I_mul, I_neg, nm_eq, bd0_s, bd2_s, un2_eq, un3_eq, un4_eq, un5_eq, un6_eq, cs2_l, cs2_r, mk_1, mk_2, wI_mk, wL_mk, wR_mk, setR_same, setR_setR, rZ_0, rZ_1, rZ_b2, it_b2, it_nb2, it_b21, it_nb21, I_lt, I_le, I_eq, I_div, castI, if_true, if_false, Classical.not_not, gM14, ldM66, Int.reduceEq, stM66]
theorem AgP_live {N : Int → Int} {a who n : Int} (wf : WFP N) (ok : okA N a who n) (hy : whyA N a who n = 0) : AgP N (liveA N a who n) := by
  obtain ⟨o1, o2, o3, o4, -⟩ := ok
  unfold liveA
  by_cases a0 : a = 0
  · rw [ii_t a0]
    exact AgP_turn (why_wed hy (by omega)).1 (o2 (by omega)).1
  rw [ii_f a0]
  by_cases a1 : a = 1
  · rw [ii_t a1]; exact AgP_upd (AgP_refl N) (by omega)
  rw [ii_f a1]
  by_cases a2 : a = 2
  · rw [ii_t a2]
    have ho := othA_r wf (o2 (by omega)) (why_wed hy (by omega)).1
    exact AgP_upd (AgP_refl N) (by omega)
  rw [ii_f a2]
  have hp := o3 (by omega)
  by_cases a3 : a = 3
  · rw [ii_t a3]; exact AgP_upd (AgP_refl N) (by omega)
  rw [ii_f a3]
  by_cases a4 : a = 4
  · rw [ii_t a4]; exact AgP_upd (AgP_refl N) (by omega)
  rw [ii_f a4]
  exact AgP_upd (AgP_refl N) (by omega)
theorem WFL_live {N : Int → Int} {a who n : Int} (wf : WFP N) (wl : WFL N) (ok : okA N a who n) (hy : whyA N a who n = 0) : WFL (liveA N a who n) := by
  obtain ⟨o1, o2, o3, o4, o5⟩ := ok
  have wf' := wf
  have wl' := wl
  obtain ⟨wn0, wn1, wn2, wn3, wn4, wn5, wn6, wn7, wfr, wto, wff, wwa, wco, wwd, wgl, wgr, wnk, wda, wdr, wgo, wg1, wg2, wwx⟩ := wf
  obtain ⟨vh, vfo, vnk, vle, vti, vwa, vgl⟩ := wl
  have hw := why_wed hy
  unfold liveA
  unfold whyA at hy
  by_cases a0 : a = 0
  · rw [ii_t a0]
    exact WFL_turn wf' wl' (o2 (by omega)) (hw (by omega)).1
  rw [ii_f a0] at hy ⊢
  by_cases a1 : a = 1
  · rw [ii_t a1]; exact WFL_upd wl' (by omega) (by omega) (by omega) (by omega) (by omega) (by omega) (by omega) (by omega)
  rw [ii_f a1] at hy ⊢
  by_cases a2 : a = 2
  · rw [ii_t a2]
    have ho := othA_r wf' (o2 (by omega)) (hw (by omega)).1
    have h3 := vfo (othA N who) ho.1 (by omega)
    exact WFL_upd wl' (by omega) (by omega) (by omega) (by omega) (by omega) (by omega) (by omega) (by omega)
  rw [ii_f a2] at hy ⊢
  have hp := o3 (by omega)
  have h1 := vnk who (by omega) (by omega)
  have h2 := vle who (by omega) (by omega)
  have h3 := vgl who (by omega) (by omega)
  by_cases a3 : a = 3
  · rw [ii_t a3]; exact WFL_upd wl' (by omega) (by omega) (by omega) (by omega) (by omega) (by omega) (by omega) (by omega)
  rw [ii_f a3] at hy ⊢
  by_cases a4 : a = 4
  · rw [ii_t a4] at hy ⊢
    unfold why4 at hy
    by_cases g1 : lapA N who
    · rw [ii_t g1] at hy; omega
    rw [ii_f g1] at hy
    by_cases g2 : N (121 + who) + n ≤ 9
    · exact WFL_upd wl' (by omega) (by omega) (by omega) (by omega) (by omega) (by omega) (by omega) (by omega)
    · rw [ii_f g2] at hy; omega
  rw [ii_f a4] at hy ⊢
  unfold why5 at hy
  by_cases g1 : lapA N who
  · rw [ii_t g1] at hy; omega
  rw [ii_f g1] at hy
  by_cases g2 : n ≤ N (125 + who)
  · refine WFL_upd wl' (by omega) (by omega) (by omega) (by omega) (by omega) ?_ (by omega) (by omega)
    intro _ _
    have h5 : 125 + who - 125 = who := by omega
    rw [h5]; omega
  · rw [ii_f g2] at hy; omega
theorem C_carryOut {S : Nat → Nat × Nat} {Q : Nat → Int → Int} {w : Nat → Nat → Int64} {rf : Nat → Nat → Option Nat} {N : Int → Int} {l : Nat} {a who n : Int} (hS : SCok S) (hr : RCok rf) (hl : isLife l) (wf : WFP N) (wl : WFL N) (cp : CP 67 Q N) (cl : CL l Q N) (ok : okA N a who n) (hy : whyA N a who n = 0) : ∃ Q', fX3_carryOut S (mk Q w rf) l (I a) (I who) (I n) = some (mk Q' w rf) ∧ CL l Q' (liveA N a who n) ∧ FrL l Q Q' := by
  obtain ⟨o1, o2, o3, o4, -⟩ := ok
  have cl' := cl
  have cp' := cp
  have wl' := wl
  have wf' := wf
  obtain ⟨wn0, wn1, wn2, wn3, wn4, wn5, wn6, wn7, wfr, wto, wff, wwa, wco, wwd, wgl, wgr, wnk, wda, wdr, wgo, wg1, wg2, wwx⟩ := wf
  obtain ⟨vh, vfo, vnk, vle, vti, vwa, vgl⟩ := wl
  obtain ⟨⟨c102, c104, c103⟩, clp, clg⟩ := cl
  have ip67 := isPar67; obtain ⟨⟨c0, c1, c2, c3, c4, c5, c6, c7⟩, cpp, cpg, cpd, cpk⟩ := CPl_of cp
  unfold liveA
  by_cases a0 : a = 0
  · have hw := why_wed hy (by omega)
    rw [ii_t a0]
    subst a0
    have hp := o2 (by omega)
    have h1 := wwd who (by omega) (by omega)
    obtain ⟨Q', q1, q2, q3⟩ := C_turnOver (w := w) hS hr hl wf' cp' cl' hp ⟨hw.1, h1.2⟩ rfl
    refine ⟨Q', ?_, q2, q3⟩
    simp (disch := first | assumption | omega) only [fX3_carryOut, fX3_carryOut_b123, I_lit, orb_I, I_add, I_sub, I_mul, I_neg, nm_eq, bd0_s, bd2_s, un2_eq, un3_eq, un4_eq, un5_eq, un6_eq, cs2_l, cs2_r, mk_1, mk_2, wI_mk, wL_mk, wR_mk, setR_same, setR_setR, rZ_0, rZ_1, rZ_b2, it_b2, it_nb2, it_b21, it_nb21, I_lt, I_le, I_eq, I_div, castI, if_true, if_false, Classical.not_not, gL0, C_glassOf hS hr ip67 wf' cp' hp, q1]
  rw [ii_f a0]
  by_cases a1 : a = 1
  · rw [ii_t a1]
    subst a1
    refine ⟨_, ?_, CL_f3 cl' (by omega) (by omega), FrL_set (FrL_refl l Q) (by omega)⟩
    simp (disch := first | assumption | omega) only [fX3_carryOut, fX3_carryOut_b123, I_lit, orb_I, I_add, I_sub, I_mul, I_neg, nm_eq, bd0_s, bd2_s, un2_eq, un3_eq, un4_eq, un5_eq, un6_eq, cs2_l, cs2_r, mk_1, mk_2, wI_mk, wL_mk, wR_mk, setR_same, setR_setR, rZ_0, rZ_1, rZ_b2, it_b2, it_nb2, it_b21, it_nb21, I_lt, I_le, I_eq, I_div, castI, if_true, if_false, Classical.not_not, Int.reduceEq, c103]
  rw [ii_f a1]
  by_cases a2 : a = 2
  · have hw := why_wed hy (by omega)
    rw [ii_t a2]
    subst a2
    have hp := o2 (by omega)
    have ho := othA_r wf' hp hw.1
    have h3 := vfo (othA N who) ho.1 (by omega)
    obtain ⟨d1, d2⟩ := clp _ ho.1 ho.2
    have hoo := C_otherOf (S := S) (w := w) hS hr ip67 wf' cp' hp
    rw [ii_t hw.1] at hoo
    have hb := C_hasPerson (S := S) (w := w) hS hr wf' cp' (⟨by omega, by omega⟩ : -2147483648 ≤ othA N who ∧ othA N who < 2147483648)
    rw [b2_t ho] at hb
    refine ⟨_, ?_, CL_u1 cl' (by omega) (by omega) ⟨ho.1, by omega⟩, FrL_set (FrL_refl l Q) (by omega)⟩
    simp (disch := first | assumption | omega) only [fX3_carryOut, fX3_carryOut_b123, fX3_endear, fX3_endear_b30, I_lit, orb_I, I_add, I_sub, I_mul, I_neg, nm_eq, bd0_s, bd2_s, un2_eq, un3_eq, un4_eq, un5_eq, un6_eq, cs2_l, cs2_r, mk_1, mk_2, wI_mk, wL_mk, wR_mk, setR_same, setR_setR, rZ_0, rZ_1, rZ_b2, it_b2, it_nb2, it_b21, it_nb21, I_lt, I_le, I_eq, I_div, castI, if_true, if_false, Classical.not_not, Int.reduceEq, gL0, hoo, hb, gL4, ldL1, stL1, d1, mnI_I]
  rw [ii_f a2]
  have hp := o3 (by omega)
  obtain ⟨e1, e2, e3, e4, e5⟩ := clg who hp.1 hp.2
  by_cases a3 : a = 3
  · rw [ii_t a3]
    subst a3
    refine ⟨_, ?_, CL_u4 cl' (by omega) (by omega) (by omega), FrL_set (FrL_refl l Q) (by omega)⟩
    simp (disch := first | assumption | omega) only [fX3_carryOut, fX3_carryOut_b123, I_lit, orb_I, I_add, I_sub, I_mul, I_neg, nm_eq, bd0_s, bd2_s, un2_eq, un3_eq, un4_eq, un5_eq, un6_eq, cs2_l, cs2_r, mk_1, mk_2, wI_mk, wL_mk, wR_mk, setR_same, setR_setR, rZ_0, rZ_1, rZ_b2, it_b2, it_nb2, it_b21, it_nb21, I_lt, I_le, I_eq, I_div, castI, if_true, if_false, Classical.not_not, Int.reduceEq, gL7, stL4]
  rw [ii_f a3]
  by_cases a4 : a = 4
  · rw [ii_t a4]
    subst a4
    refine ⟨_, ?_, CL_u5 cl' (by omega) (by omega) (by omega), FrL_set (FrL_refl l Q) (by omega)⟩
    simp (disch := first | assumption | omega) only [fX3_carryOut, fX3_carryOut_b123, I_lit, orb_I, I_add, I_sub, I_mul, I_neg, nm_eq, bd0_s, bd2_s, un2_eq, un3_eq, un4_eq, un5_eq, un6_eq, cs2_l, cs2_r, mk_1, mk_2, wI_mk, wL_mk, wR_mk, setR_same, setR_setR, rZ_0, rZ_1, rZ_b2, it_b2, it_nb2, it_b21, it_nb21, I_lt, I_le, I_eq, I_div, castI, if_true, if_false, Classical.not_not, Int.reduceEq, gL8, ldL5, stL5, e3]
  rw [ii_f a4]
  have a5 : a = 5 := by omega
  subst a5
  refine ⟨_, ?_, CL_u3 cl' (by omega) (by omega) (by omega), FrL_set (FrL_refl l Q) (by omega)⟩
  simp (disch := first | assumption | omega) only [fX3_carryOut, fX3_carryOut_b123, I_lit, orb_I, I_add, I_sub, I_mul, I_neg, nm_eq, bd0_s, bd2_s, un2_eq, un3_eq, un4_eq, un5_eq, un6_eq, cs2_l, cs2_r, mk_1, mk_2, wI_mk, wL_mk, wR_mk, setR_same, setR_setR, rZ_0, rZ_1, rZ_b2, it_b2, it_nb2, it_b21, it_nb21, I_lt, I_le, I_eq, I_div, castI, if_true, if_false, Classical.not_not, Int.reduceEq, gL6, ldL3, stL3, e1]
