def wedA (N : Int → Int) (p : Int) : Prop := 0 ≤ N (48 + p) ∧ ¬ lapA N (N (48 + p))
noncomputable def why0 (N : Int → Int) (p : Int) : Int := ii (wedA N p) (ii (awkA N p (N 102)) (ii (0 < N (125 + N (48 + p)) ∧ N 5 = 0) 3 (ii (N (125 + N (48 + p)) = N (64 + N (48 + p))) 4 0)) 2) 1
noncomputable def why1 (N : Int → Int) (p : Int) : Int := ii (awkA N p (N 102)) 1 0
noncomputable def why2 (N : Int → Int) (p : Int) : Int := ii (wedA N p) (ii (awkA N p (N 102)) 0 2) 1
noncomputable def why3 (N : Int → Int) (g n : Int) : Int := ii (lapA N g) 1 (ii (N (129 + g) = n) 2 (ii (n = 2 ∧ N 6 = 0) 3 0))
noncomputable def why4 (N : Int → Int) (g n : Int) : Int := ii (lapA N g) 1 (ii (N (121 + g) + n ≤ 9) 0 2)
noncomputable def why5 (N : Int → Int) (g n : Int) : Int := ii (lapA N g) 1 (ii (n ≤ N (125 + g)) 0 2)
theorem M_whyWed {S : Nat → Nat × Nat} {R : Nat → Int → Int} {w : Nat → Nat → Int64} {rf : Nat → Nat → Option Nat} {p : Int} (hS : SMok S) (hr : RMok rf) (wf : WFP (R 66)) (wl : WFL (R 66)) (hp : 0 ≤ p ∧ p < R 66 0) : fX13_whyWed S (mk R w rf) 64 (I p) = some (I (why2 (R 66) p)) := by
  have wf' := wf
  obtain ⟨wn0, wn1, wn2, wn3, wn4, wn5, wn6, wn7, wfr, wto, wff, wwa, wco, wwd, wgl, wgr, wnk, wda, wdr, wgo, wg1, wg2, wwx⟩ := wf
  have h1 := wwd p (by omega) (by omega)
  have h2 := wl.1
  simp (disch := first | assumption | omega) only [fX13_whyWed, fX13_whyWed_b23, fX13_whyWed_b45, I_lit, orb_I, I_add, I_sub, I_mul, I_neg, nm_eq, bd0_s, bd2_s, un2_eq, un3_eq, un4_eq, un5_eq, un6_eq, cs2_l, cs2_r, mk_1, mk_2, wI_mk, wL_mk, wR_mk, setR_same, setR_setR, rZ_0, rZ_1, rZ_b2, it_b2, it_nb2, it_b21, it_nb21, I_lt, I_le, I_eq, I_div, castI, if_true, if_false, Classical.not_not, gM14, ldM66, M_isLapsed hS hr, M_isAwake hS hr wf' wl (⟨hp.1, by omega⟩ : 0 ≤ p ∧ p < 8) h2]
  unfold why2 wedA
  by_cases h3 : 0 ≤ R 66 (48 + p)
  · have h4 : ¬ (R 66 (48 + p) = -1) := by omega
    by_cases h5 : lapA (R 66) (R 66 (48 + p))
    · rw [ii_f (fun h => h.2 h5)]
      simp only [h4, h5, if_true, if_false]
    · rw [ii_t ⟨h3, h5⟩]
      simp only [h4, h5, if_true, if_false]
      unfold ii
      split <;> rfl
  · have h4 : (R 66 (48 + p) = -1) := by omega
    rw [ii_f (fun h => h3 h.1)]
    simp only [h4, if_true]
theorem M_whyTurn {S : Nat → Nat × Nat} {R : Nat → Int → Int} {w : Nat → Nat → Int64} {rf : Nat → Nat → Option Nat} {p : Int} (hS : SMok S) (hr : RMok rf) (wf : WFP (R 66)) (wl : WFL (R 66)) (hp : 0 ≤ p ∧ p < R 66 0) : fX13_whyTurn S (mk R w rf) 64 (I p) = some (I (why0 (R 66) p)) := by
  have wf' := wf
  obtain ⟨wn0, wn1, wn2, wn3, wn4, wn5, wn6, wn7, wfr, wto, wff, wwa, wco, wwd, wgl, wgr, wnk, wda, wdr, wgo, wg1, wg2, wwx⟩ := wf
  have wl' := wl
  obtain ⟨vh, vfo, vnk, vle, vti, vwa, vgl⟩ := wl
  have h1 := wwd p (by omega) (by omega)
  have hw := M_whyWed (w := w) hS hr wf' wl' hp
  by_cases h3 : wedA (R 66) p
  · have h4 := vle (R 66 (48 + p)) h3.1 (by omega)
    have h5 := wgr (R 66 (48 + p)) h3.1 (by omega)
    have h6 := h3.1
    unfold why2 at hw
    unfold why0
    rw [ii_t h3] at hw ⊢
    by_cases h7 : awkA (R 66) p (R 66 102)
    · rw [ii_t h7] at hw ⊢
      simp (disch := first | assumption | omega) only [fX13_whyTurn, fX13_whyTurn_b47, fX13_whyTurn_b73, I_lit, orb_I, I_add, I_sub, I_mul, I_neg, nm_eq, bd0_s, bd2_s, un2_eq, un3_eq, un4_eq, un5_eq, un6_eq, cs2_l, cs2_r, mk_1, mk_2, wI_mk, wL_mk, wR_mk, setR_same, setR_setR, rZ_0, rZ_1, rZ_b2, it_b2, it_nb2, it_b21, it_nb21, I_lt, I_le, I_eq, I_div, castI, if_true, if_false, Classical.not_not, hw, gM14, ldM66]
      unfold ii
      by_cases g1 : R 66 (125 + R 66 (48 + p)) ≤ 0
      · have g2 : ¬ (0 < R 66 (125 + R 66 (48 + p)) ∧ R 66 5 = 0) := by omega
        simp only [g1, g2, if_true, if_false]
        by_cases g3 : R 66 (125 + R 66 (48 + p)) = R 66 (64 + R 66 (48 + p))
        · simp only [g3, not_true, if_true, if_false]
        · simp only [g3, not_false_eq_true, if_true, if_false]
      · by_cases g4 : R 66 5 = 0
        · have g2 : (0 < R 66 (125 + R 66 (48 + p)) ∧ R 66 5 = 0) := by omega
          rw [if_pos g2]
          simp only [g1, g4, not_true, if_true, if_false]
        · have g2 : ¬ (0 < R 66 (125 + R 66 (48 + p)) ∧ R 66 5 = 0) := by omega
          rw [if_neg g2]
          simp only [g1, g4, not_false_eq_true, if_true, if_false]
          by_cases g3 : R 66 (125 + R 66 (48 + p)) = R 66 (64 + R 66 (48 + p))
          · simp only [g3, not_true, if_true, if_false]
          · simp only [g3, not_false_eq_true, if_true, if_false]
    · rw [ii_f h7] at hw ⊢
      simp (disch := first | assumption | omega) only [fX13_whyTurn, I_lit, orb_I, I_add, I_sub, I_mul, I_neg, nm_eq, bd0_s, bd2_s, un2_eq, un3_eq, un4_eq, un5_eq, un6_eq, cs2_l, cs2_r, mk_1, mk_2, wI_mk, wL_mk, wR_mk, setR_same, setR_setR, rZ_0, rZ_1, rZ_b2, it_b2, it_nb2, it_b21, it_nb21, I_lt, I_le, I_eq, I_div, castI, if_true, if_false, Classical.not_not, hw, Int.reduceEq]
  · unfold why2 at hw
    unfold why0
    rw [ii_f h3] at hw ⊢
    simp (disch := first | assumption | omega) only [fX13_whyTurn, I_lit, orb_I, I_add, I_sub, I_mul, I_neg, nm_eq, bd0_s, bd2_s, un2_eq, un3_eq, un4_eq, un5_eq, un6_eq, cs2_l, cs2_r, mk_1, mk_2, wI_mk, wL_mk, wR_mk, setR_same, setR_setR, rZ_0, rZ_1, rZ_b2, it_b2, it_nb2, it_b21, it_nb21, I_lt, I_le, I_eq, I_div, castI, if_true, if_false, Classical.not_not, hw, Int.reduceEq]
theorem M_whyTilt {S : Nat → Nat × Nat} {R : Nat → Int → Int} {w : Nat → Nat → Int64} {rf : Nat → Nat → Option Nat} {g n : Int} (hS : SMok S) (hr : RMok rf) (wf : WFP (R 66)) (wl : WFL (R 66)) (hg : 0 ≤ g ∧ g < R 66 1) (hn : 0 ≤ n ∧ n ≤ 250) : fX13_whyTilt S (mk R w rf) 64 (I g) (I n) = some (I (why3 (R 66) g n)) := by
  obtain ⟨wn0, wn1, wn2, wn3, wn4, wn5, wn6, wn7, wfr, wto, wff, wwa, wco, wwd, wgl, wgr, wnk, wda, wdr, wgo, wg1, wg2, wwx⟩ := wf
  obtain ⟨vh, vfo, vnk, vle, vti, vwa, vgl⟩ := wl
  have h1 := vti g (by omega) (by omega)
  simp (disch := first | assumption | omega) only [fX13_whyTilt, fX13_whyTilt_b49, fX13_whyTilt_b50, I_lit, orb_I, I_add, I_sub, I_mul, I_neg, nm_eq, bd0_s, bd2_s, un2_eq, un3_eq, un4_eq, un5_eq, un6_eq, cs2_l, cs2_r, mk_1, mk_2, wI_mk, wL_mk, wR_mk, setR_same, setR_setR, rZ_0, rZ_1, rZ_b2, it_b2, it_nb2, it_b21, it_nb21, I_lt, I_le, I_eq, I_div, castI, if_true, if_false, Classical.not_not, gM14, ldM66, M_isLapsed hS hr]
  unfold why3
  unfold ii; (repeat' split) <;> (first | rfl | contradiction | omega | (exfalso; simp_all; done) | (exfalso; simp_all; omega))
theorem M_whyWiden {S : Nat → Nat × Nat} {R : Nat → Int → Int} {w : Nat → Nat → Int64} {rf : Nat → Nat → Option Nat} {g n : Int} (hS : SMok S) (hr : RMok rf) (wf : WFP (R 66)) (wl : WFL (R 66)) (hg : 0 ≤ g ∧ g < R 66 1) (hn : 0 ≤ n ∧ n ≤ 250) : fX13_whyWiden S (mk R w rf) 64 (I g) (I n) = some (I (why4 (R 66) g n)) := by
  obtain ⟨wn0, wn1, wn2, wn3, wn4, wn5, wn6, wn7, wfr, wto, wff, wwa, wco, wwd, wgl, wgr, wnk, wda, wdr, wgo, wg1, wg2, wwx⟩ := wf
  obtain ⟨vh, vfo, vnk, vle, vti, vwa, vgl⟩ := wl
  have h1 := vnk g (by omega) (by omega)
  simp (disch := first | assumption | omega) only [fX13_whyWiden, fX13_whyWiden_b33, I_lit, orb_I, I_add, I_sub, I_mul, I_neg, nm_eq, bd0_s, bd2_s, un2_eq, un3_eq, un4_eq, un5_eq, un6_eq, cs2_l, cs2_r, mk_1, mk_2, wI_mk, wL_mk, wR_mk, setR_same, setR_setR, rZ_0, rZ_1, rZ_b2, it_b2, it_nb2, it_b21, it_nb21, I_lt, I_le, I_eq, I_div, castI, if_true, if_false, Classical.not_not, gM14, ldM66, M_isLapsed hS hr]
  unfold why4
  unfold ii; (repeat' split) <;> (first | rfl | contradiction | omega | (exfalso; simp_all; done) | (exfalso; simp_all; omega))
theorem M_whySpill {S : Nat → Nat × Nat} {R : Nat → Int → Int} {w : Nat → Nat → Int64} {rf : Nat → Nat → Option Nat} {g n : Int} (hS : SMok S) (hr : RMok rf) (wf : WFP (R 66)) (wl : WFL (R 66)) (hg : 0 ≤ g ∧ g < R 66 1) (hn : 0 ≤ n ∧ n ≤ 250) : fX13_whySpill S (mk R w rf) 64 (I g) (I n) = some (I (why5 (R 66) g n)) := by
  obtain ⟨wn0, wn1, wn2, wn3, wn4, wn5, wn6, wn7, wfr, wto, wff, wwa, wco, wwd, wgl, wgr, wnk, wda, wdr, wgo, wg1, wg2, wwx⟩ := wf
  obtain ⟨vh, vfo, vnk, vle, vti, vwa, vgl⟩ := wl
  have h1 := vle g (by omega) (by omega)
  simp (disch := first | assumption | omega) only [fX13_whySpill, fX13_whySpill_b30, I_lit, orb_I, I_add, I_sub, I_mul, I_neg, nm_eq, bd0_s, bd2_s, un2_eq, un3_eq, un4_eq, un5_eq, un6_eq, cs2_l, cs2_r, mk_1, mk_2, wI_mk, wL_mk, wR_mk, setR_same, setR_setR, rZ_0, rZ_1, rZ_b2, it_b2, it_nb2, it_b21, it_nb21, I_lt, I_le, I_eq, I_div, castI, if_true, if_false, Classical.not_not, gM14, ldM66, M_isLapsed hS hr]
  unfold why5
  unfold ii; (repeat' split) <;> (first | rfl | contradiction | omega | (exfalso; simp_all; done) | (exfalso; simp_all; omega))
noncomputable def whyA (N : Int → Int) (a who n : Int) : Int := ii (a = 0) (why0 N who) (ii (a = 1) (why1 N who) (ii (a = 2) (why2 N who) (ii (a = 3) (why3 N who n) (ii (a = 4) (why4 N who n) (why5 N who n)))))
def okA (N : Int → Int) (a who n : Int) : Prop := (0 ≤ a ∧ a ≤ 5) ∧ (a ≤ 2 → 0 ≤ who ∧ who < N 0) ∧ (3 ≤ a → 0 ≤ who ∧ who < N 1) ∧ (0 ≤ n ∧ n ≤ 250) ∧ (a = 3 → n ≤ 2)
theorem M_why {S : Nat → Nat × Nat} {R : Nat → Int → Int} {w : Nat → Nat → Int64} {rf : Nat → Nat → Option Nat} {a who n : Int} (hS : SMok S) (hr : RMok rf) (wf : WFP (R 66)) (wl : WFL (R 66)) (ok : okA (R 66) a who n) : fX13_why S (mk R w rf) 64 (I a) (I who) (I n) = some (I (whyA (R 66) a who n)) := by
  obtain ⟨o1, o2, o3, o4, -⟩ := ok
  have h2 := wl.1
  have h0 := wf.1
  unfold whyA
  by_cases a0 : a = 0
  · rw [ii_t a0]
    subst a0
    have hp := o2 (by omega)
    simp (disch := first | assumption | omega) only [fX13_why, I_lit, orb_I, I_add, I_sub, I_mul, I_neg, nm_eq, bd0_s, bd2_s, un2_eq, un3_eq, un4_eq, un5_eq, un6_eq, cs2_l, cs2_r, mk_1, mk_2, wI_mk, wL_mk, wR_mk, setR_same, setR_setR, rZ_0, rZ_1, rZ_b2, it_b2, it_nb2, it_b21, it_nb21, I_lt, I_le, I_eq, I_div, castI, if_true, if_false, Classical.not_not, M_whyTurn hS hr wf wl hp]
  rw [ii_f a0]
  by_cases a1 : a = 1
  · rw [ii_t a1]
    subst a1
    have hp := o2 (by omega)
    simp (disch := first | assumption | omega) only [fX13_why, fX13_why_b62, I_lit, orb_I, I_add, I_sub, I_mul, I_neg, nm_eq, bd0_s, bd2_s, un2_eq, un3_eq, un4_eq, un5_eq, un6_eq, cs2_l, cs2_r, mk_1, mk_2, wI_mk, wL_mk, wR_mk, setR_same, setR_setR, rZ_0, rZ_1, rZ_b2, it_b2, it_nb2, it_b21, it_nb21, I_lt, I_le, I_eq, I_div, castI, if_true, if_false, Classical.not_not, gM14, ldM66, Int.reduceEq, M_isAwake hS hr wf wl (⟨hp.1, by omega⟩ : 0 ≤ who ∧ who < 8) h2]
    unfold why1 ii
    split <;> rfl
  rw [ii_f a1]
  by_cases a2 : a = 2
  · rw [ii_t a2]
    subst a2
    have hp := o2 (by omega)
    simp (disch := first | assumption | omega) only [fX13_why, I_lit, orb_I, I_add, I_sub, I_mul, I_neg, nm_eq, bd0_s, bd2_s, un2_eq, un3_eq, un4_eq, un5_eq, un6_eq, cs2_l, cs2_r, mk_1, mk_2, wI_mk, wL_mk, wR_mk, setR_same, setR_setR, rZ_0, rZ_1, rZ_b2, it_b2, it_nb2, it_b21, it_nb21, I_lt, I_le, I_eq, I_div, castI, if_true, if_false, Classical.not_not, Int.reduceEq, M_whyWed hS hr wf wl hp]
  rw [ii_f a2]
  have hp := o3 (by omega)
  by_cases a3 : a = 3
  · rw [ii_t a3]
    subst a3
    simp (disch := first | assumption | omega) only [fX13_why, I_lit, orb_I, I_add, I_sub, I_mul, I_neg, nm_eq, bd0_s, bd2_s, un2_eq, un3_eq, un4_eq, un5_eq, un6_eq, cs2_l, cs2_r, mk_1, mk_2, wI_mk, wL_mk, wR_mk, setR_same, setR_setR, rZ_0, rZ_1, rZ_b2, it_b2, it_nb2, it_b21, it_nb21, I_lt, I_le, I_eq, I_div, castI, if_true, if_false, Classical.not_not, Int.reduceEq, M_whyTilt hS hr wf wl hp o4]
  rw [ii_f a3]
  by_cases a4 : a = 4
  · rw [ii_t a4]
    subst a4
    simp (disch := first | assumption | omega) only [fX13_why, I_lit, orb_I, I_add, I_sub, I_mul, I_neg, nm_eq, bd0_s, bd2_s, un2_eq, un3_eq, un4_eq, un5_eq, un6_eq, cs2_l, cs2_r, mk_1, mk_2, wI_mk, wL_mk, wR_mk, setR_same, setR_setR, rZ_0, rZ_1, rZ_b2, it_b2, it_nb2, it_b21, it_nb21, I_lt, I_le, I_eq, I_div, castI, if_true, if_false, Classical.not_not, Int.reduceEq, M_whyWiden hS hr wf wl hp o4]
  rw [ii_f a4]
  simp (disch := first | assumption | omega) only [fX13_why, I_lit, orb_I, I_add, I_sub, I_mul, I_neg, nm_eq, bd0_s, bd2_s, un2_eq, un3_eq, un4_eq, un5_eq, un6_eq, cs2_l, cs2_r, mk_1, mk_2, wI_mk, wL_mk, wR_mk, setR_same, setR_setR, rZ_0, rZ_1, rZ_b2, it_b2, it_nb2, it_b21, it_nb21, I_lt, I_le, I_eq, I_div, castI, if_true, if_false, Classical.not_not, a0, a1, a2, a3, a4, M_whySpill hS hr wf wl hp o4]
theorem C_isWedStill {S : Nat → Nat × Nat} {Q : Nat → Int → Int} {w : Nat → Nat → Int64} {rf : Nat → Nat → Option Nat} {N : Int → Int} {l : Nat} {p : Int} (hS : SCok S) (hr : RCok rf) (hl : isLife l) (wf : WFP N) (cp : CP 67 Q N) (cl : CL l Q N) (hp : 0 ≤ p ∧ p < N 0) : fX3_isWedStill S (mk Q w rf) l (I p) = some (b2 (wedA N p)) := by
  have h1 := C_glassOf (w := w) hS hr isPar67 wf cp hp
  have wf' := wf
  obtain ⟨wn0, wn1, wn2, wn3, wn4, wn5, wn6, wn7, wfr, wto, wff, wwa, wco, wwd, wgl, wgr, wnk, wda, wdr, wgo, wg1, wg2, wwx⟩ := wf
  have h2 := wwd p (by omega) (by omega)
  simp (disch := first | assumption | omega) only [fX3_isWedStill, fX3_isWedStill_b32, fX3_isWedStill_b33, I_lit, orb_I, I_add, I_sub, I_mul, I_neg, nm_eq, bd0_s, bd2_s, un2_eq, un3_eq, un4_eq, un5_eq, un6_eq, cs2_l, cs2_r, mk_1, mk_2, wI_mk, wL_mk, wR_mk, setR_same, setR_setR, rZ_0, rZ_1, rZ_b2, it_b2, it_nb2, it_b21, it_nb21, I_lt, I_le, I_eq, I_div, castI, if_true, if_false, Classical.not_not, gL0, h1, C_isLapsed cl, C_hasGlass hS hr wf' cp (⟨by omega, by omega⟩ : -2147483648 ≤ N (48 + p) ∧ N (48 + p) < 2147483648)]
  unfold wedA
  by_cases h3 : 0 ≤ N (48 + p)
  · have h4 : 0 ≤ N (48 + p) ∧ N (48 + p) < N 1 := by omega
    by_cases h5 : lapA N (N (48 + p))
    · rw [b2_f (fun h => h.2 h5), if_pos h4, if_pos h5]; rfl
    · rw [b2_t ⟨h3, h5⟩, if_pos h4, if_neg h5]; rfl
  · rw [b2_f (fun h => h3 h.1), if_neg (by omega)]; rfl
theorem C_whyNotTurn {S : Nat → Nat × Nat} {Q : Nat → Int → Int} {w : Nat → Nat → Int64} {rf : Nat → Nat → Option Nat} {N : Int → Int} {l : Nat} {p : Int} (hS : SCok S) (hr : RCok rf) (hl : isLife l) (wf : WFP N) (wl : WFL N) (cp : CP 67 Q N) (cl : CL l Q N) (hp : 0 ≤ p ∧ p < N 0) : fX3_whyNotTurn S (mk Q w rf) l (I p) = some (I (why0 N p)) := by
  have h1 := C_glassOf (w := w) hS hr isPar67 wf cp hp
  have hw := C_isWedStill (w := w) hS hr hl wf cp cl hp
  have ha := C_isAwake (w := w) hS hr hl wf wl cp cl hp
  have wf' := wf
  obtain ⟨wn0, wn1, wn2, wn3, wn4, wn5, wn6, wn7, wfr, wto, wff, wwa, wco, wwd, wgl, wgr, wnk, wda, wdr, wgo, wg1, wg2, wwx⟩ := wf
  have h2 := wwd p (by omega) (by omega)
  have wl' := wl
  obtain ⟨vh, vfo, vnk, vle, vti, vwa, vgl⟩ := wl
  have cp' := cp
  have ip67 := isPar67; obtain ⟨⟨c0, c1, c2, c3, c4, c5, c6, c7⟩, cpp, cpg, cpd, cpk⟩ := CPl_of cp
  obtain ⟨⟨c102, c104, c103⟩, clp, clg⟩ := cl
  simp (disch := first | assumption | omega) only [fX3_whyNotTurn, fX3_whyNotTurn_b50, fX3_whyNotTurn_b73, I_lit, orb_I, I_add, I_sub, I_mul, I_neg, nm_eq, bd0_s, bd2_s, un2_eq, un3_eq, un4_eq, un5_eq, un6_eq, cs2_l, cs2_r, mk_1, mk_2, wI_mk, wL_mk, wR_mk, setR_same, setR_setR, rZ_0, rZ_1, rZ_b2, it_b2, it_nb2, it_b21, it_nb21, I_lt, I_le, I_eq, I_div, castI, if_true, if_false, Classical.not_not, hw, ha, h1, gL0]
  unfold why0
  by_cases h3 : wedA N p
  · have h4 := vle (N (48 + p)) h3.1 (by omega)
    have h5 := wgr (N (48 + p)) h3.1 (by omega)
    have h6 := h3.1
    obtain ⟨e1, e2, e3, e4, e5⟩ := clg _ h6 (by omega)
    obtain ⟨f1, f2, f3, f4⟩ := cpg _ h6 (by omega)
    rw [ii_t h3, if_pos h3]
    by_cases h7 : awkA N p (N 102)
    · rw [ii_t h7, if_pos h7]
      simp (disch := first | assumption | omega) only [gL6, ldL3, gP0_10, ldP10, I_lit, orb_I, I_add, I_sub, I_mul, I_neg, nm_eq, bd0_s, bd2_s, un2_eq, un3_eq, un4_eq, un5_eq, un6_eq, cs2_l, cs2_r, mk_1, mk_2, wI_mk, wL_mk, wR_mk, setR_same, setR_setR, rZ_0, rZ_1, rZ_b2, it_b2, it_nb2, it_b21, it_nb21, I_lt, I_le, I_eq, I_div, castI, if_true, if_false, Classical.not_not, e1, f3, c5]
      unfold ii
      by_cases g1 : N (125 + N (48 + p)) ≤ 0
      · have g2 : ¬ (0 < N (125 + N (48 + p)) ∧ N 5 = 0) := by omega
        simp only [g1, g2, if_true, if_false]
        by_cases g3 : N (125 + N (48 + p)) = N (64 + N (48 + p))
        · simp only [g3, not_true, if_true, if_false]
        · simp only [g3, not_false_eq_true, if_true, if_false]
      · by_cases g4 : N 5 = 0
        · have g2 : (0 < N (125 + N (48 + p)) ∧ N 5 = 0) := by omega
          rw [if_pos g2]
          simp only [g1, g4, not_true, if_true, if_false]
        · have g2 : ¬ (0 < N (125 + N (48 + p)) ∧ N 5 = 0) := by omega
          rw [if_neg g2]
          simp only [g1, g4, not_false_eq_true, if_true, if_false]
          by_cases g3 : N (125 + N (48 + p)) = N (64 + N (48 + p))
          · simp only [g3, not_true, if_true, if_false]
          · simp only [g3, not_false_eq_true, if_true, if_false]
    · rw [ii_f h7, if_neg h7]
  · rw [ii_f h3, if_neg h3]
theorem C_whyNot {S : Nat → Nat × Nat} {Q : Nat → Int → Int} {w : Nat → Nat → Int64} {rf : Nat → Nat → Option Nat} {N : Int → Int} {l : Nat} {a who n : Int} (hS : SCok S) (hr : RCok rf) (hl : isLife l) (wf : WFP N) (wl : WFL N) (cp : CP 67 Q N) (cl : CL l Q N) (ok : okA N a who n) : fX3_whyNot S (mk Q w rf) l (I a) (I who) (I n) = some (I (whyA N a who n)) := by
  obtain ⟨o1, o2, o3, o4, -⟩ := ok
  have cl' := cl
  have cp' := cp
  have wl' := wl
  have h0 := wf.1
  have h0' := wf.2.1
  have h6 := wf.2.2.2.2.2.2.1
  obtain ⟨⟨c102, c104, c103⟩, clp, clg⟩ := cl
  have ip67 := isPar67; obtain ⟨⟨c0, c1, c2, c3, c4, c5, c6, c7⟩, cpp, cpg, cpd, cpk⟩ := CPl_of cp
  obtain ⟨vh, vfo, vnk, vle, vti, vwa, vgl⟩ := wl
  unfold whyA
  by_cases a0 : a = 0
  · rw [ii_t a0]
    subst a0
    have hp := o2 (by omega)
    simp (disch := first | assumption | omega) only [fX3_whyNot, I_lit, orb_I, I_add, I_sub, I_mul, I_neg, nm_eq, bd0_s, bd2_s, un2_eq, un3_eq, un4_eq, un5_eq, un6_eq, cs2_l, cs2_r, mk_1, mk_2, wI_mk, wL_mk, wR_mk, setR_same, setR_setR, rZ_0, rZ_1, rZ_b2, it_b2, it_nb2, it_b21, it_nb21, I_lt, I_le, I_eq, I_div, castI, if_true, if_false, Classical.not_not, C_whyNotTurn hS hr hl wf wl' cp' cl' hp]
  rw [ii_f a0]
  by_cases a1 : a = 1
  · rw [ii_t a1]
    subst a1
    have hp := o2 (by omega)
    simp (disch := first | assumption | omega) only [fX3_whyNot, fX3_whyNot_b59, I_lit, orb_I, I_add, I_sub, I_mul, I_neg, nm_eq, bd0_s, bd2_s, un2_eq, un3_eq, un4_eq, un5_eq, un6_eq, cs2_l, cs2_r, mk_1, mk_2, wI_mk, wL_mk, wR_mk, setR_same, setR_setR, rZ_0, rZ_1, rZ_b2, it_b2, it_nb2, it_b21, it_nb21, I_lt, I_le, I_eq, I_div, castI, if_true, if_false, Classical.not_not, Int.reduceEq, C_isAwake hS hr hl wf wl' cp' cl' hp]
    unfold why1 ii
    split <;> rfl
  rw [ii_f a1]
  by_cases a2 : a = 2
  · rw [ii_t a2]
    subst a2
    have hp := o2 (by omega)
    simp (disch := first | assumption | omega) only [fX3_whyNot, fX3_whyNotWoo, fX3_whyNotWoo_b23, I_lit, orb_I, I_add, I_sub, I_mul, I_neg, nm_eq, bd0_s, bd2_s, un2_eq, un3_eq, un4_eq, un5_eq, un6_eq, cs2_l, cs2_r, mk_1, mk_2, wI_mk, wL_mk, wR_mk, setR_same, setR_setR, rZ_0, rZ_1, rZ_b2, it_b2, it_nb2, it_b21, it_nb21, I_lt, I_le, I_eq, I_div, castI, if_true, if_false, Classical.not_not, Int.reduceEq, C_isWedStill hS hr hl wf cp' cl' hp, C_isAwake hS hr hl wf wl' cp' cl' hp]
    unfold why2 ii
    (repeat' split) <;> rfl
  rw [ii_f a2]
  have hp := o3 (by omega)
  obtain ⟨e1, e2, e3, e4, e5⟩ := clg _ hp.1 hp.2
  have h1 := vti who (by omega) (by omega)
  have h2 := vnk who (by omega) (by omega)
  have h3 := vle who (by omega) (by omega)
  by_cases a3 : a = 3
  · rw [ii_t a3]
    subst a3
    simp (disch := first | assumption | omega) only [fX3_whyNot, fX3_whyNotTilt, fX3_whyNotTilt_b41, fX3_whyNotTilt_b42, I_lit, orb_I, I_add, I_sub, I_mul, I_neg, nm_eq, bd0_s, bd2_s, un2_eq, un3_eq, un4_eq, un5_eq, un6_eq, cs2_l, cs2_r, mk_1, mk_2, wI_mk, wL_mk, wR_mk, setR_same, setR_setR, rZ_0, rZ_1, rZ_b2, it_b2, it_nb2, it_b21, it_nb21, I_lt, I_le, I_eq, I_div, castI, if_true, if_false, Classical.not_not, Int.reduceEq, C_isLapsed cl', gL7, gL0, ldL4, e2, c6]
    unfold why3 ii
    clear o2 o3 clp clg vfo vnk vle vti vwa vgl cpp cpg cpd cpk
    by_cases g1 : lapA N who
    · simp only [g1, if_true]
      rfl
    · simp only [g1, if_false]
      (repeat' split) <;> first | rfl | omega
  rw [ii_f a3]
  by_cases a4 : a = 4
  · rw [ii_t a4]
    subst a4
    simp (disch := first | assumption | omega) only [fX3_whyNot, fX3_whyNot_b103, I_lit, orb_I, I_add, I_sub, I_mul, I_neg, nm_eq, bd0_s, bd2_s, un2_eq, un3_eq, un4_eq, un5_eq, un6_eq, cs2_l, cs2_r, mk_1, mk_2, wI_mk, wL_mk, wR_mk, setR_same, setR_setR, rZ_0, rZ_1, rZ_b2, it_b2, it_nb2, it_b21, it_nb21, I_lt, I_le, I_eq, I_div, castI, if_true, if_false, Classical.not_not, Int.reduceEq, C_isLapsed cl', gL8, ldL5, e3]
    unfold why4 ii
    (repeat' split) <;> first | rfl | omega
  rw [ii_f a4]
  have a5 : a = 5 := by omega
  subst a5
  simp (disch := first | assumption | omega) only [fX3_whyNot, fX3_whyNot_b131, I_lit, orb_I, I_add, I_sub, I_mul, I_neg, nm_eq, bd0_s, bd2_s, un2_eq, un3_eq, un4_eq, un5_eq, un6_eq, cs2_l, cs2_r, mk_1, mk_2, wI_mk, wL_mk, wR_mk, setR_same, setR_setR, rZ_0, rZ_1, rZ_b2, it_b2, it_nb2, it_b21, it_nb21, I_lt, I_le, I_eq, I_div, castI, if_true, if_false, Classical.not_not, Int.reduceEq, C_isLapsed cl', gL6, ldL3, e1]
  unfold why5 ii
  (repeat' split) <;> first | rfl | omega
