theorem C_isDamp {S : Nat → Nat × Nat} {Q : Nat → Int → Int} {w : Nat → Nat → Int64} {rf : Nat → Nat → Option Nat} {N : Int → Int} {x : Nat} {h : Int} (hS : SCok S) (hr : RCok rf) (hx : isPar x) (wf : WFP N) (cp : CP x Q N) (hh : -1 ≤ h ∧ h ≤ 600) : fX4_isDamp S (mk Q w rf) x (I h) = some (b2 (dampA N h)) := by
  obtain ⟨wn0, wn1, wn2, wn3, wn4, wn5, wn6, wn7, wfr, wto, wff, wwa, wco, wwd, wgl, wgr, wnk, wda, wdr, wgo, wg1, wg2, wwx⟩ := wf
  obtain ⟨⟨c0, c1, c2, c3, c4, c5, c6, c7⟩, cpp, cpg, cpd, cpk⟩ := cp
  obtain ⟨r, h1, h2⟩ := loop_inv (f := fX4_isDamp_L2 S (mk Q w rf) x (I h)) (m := 1000) (s := (0 : Int32)) (fun k s => s = I k ∧ (k : Int) ≤ N 7 ∧ ∀ j : Int, 0 ≤ j → j < k → ¬ (N (72 + j) ≤ h ∧ h ≤ N (78 + j))) (fun r => (cs2 (fun (_ : Unit) => some (1 : Int32)) (fun (_ : Unit) => some (0 : Int32))) r = some (b2 (dampA N h))) (N 7).toNat (by omega) ⟨rfl, by omega, fun j h1 h2 => by omega⟩ (by
      intro k t hk ⟨ht, hk1, hj⟩
      subst ht
      have h3 := wda k (by omega) (by omega)
      have h4 := wdr k (by omega) (by omega)
      obtain ⟨e1, e2⟩ := cpd k (by omega) (by omega)
      have h5 : ¬ (N 7 ≤ (k : Int)) := by omega
      simp (disch := first | assumption | omega) only [fX4_isDamp_L2, fX4_isDamp_b38, I_lit, orb_I, I_add, I_sub, I_mul, I_neg, nm_eq, bd0_s, bd2_s, un2_eq, un3_eq, un4_eq, un5_eq, un6_eq, cs2_l, cs2_r, mk_1, mk_2, wI_mk, wL_mk, wR_mk, setR_same, setR_setR, rZ_0, rZ_1, rZ_b2, it_b2, it_nb2, it_b21, it_nb21, I_lt, I_le, I_eq, I_div, castI, if_true, if_false, Classical.not_not, c7, h5, gP0_13, ldP12, e1, e2]
      by_cases h6 : N (72 + k) ≤ h ∧ h ≤ N (78 + k)
      · right
        have h7 : ¬ (h < N (72 + k)) := by omega
        have h8 : ¬ (N (78 + k) < h) := by omega
        refine ⟨.inl (), ?_, ?_⟩
        · simp only [h7, h8, if_false]
        · exact sb_t ⟨k, by omega, by omega, h6.1, h6.2⟩
      · left
        refine ⟨I (k + 1), ?_, rfl, by omega, ?_⟩
        · by_cases h7 : h < N (72 + k)
          · simp only [h7, if_true]
          · have h8 : N (78 + k) < h := by omega
            simp only [h7, h8, if_true, if_false]
        · intro j hj1 hj2
          by_cases h7 : j = k
          · rw [h7]; exact h6
          · exact hj j hj1 (by omega)) (by
      intro t ⟨ht, hk1, hj⟩
      subst ht
      have h5 : (N 7 ≤ ((N 7).toNat : Int)) := by omega
      simp (disch := first | assumption | omega) only [fX4_isDamp_L2, I_lit, orb_I, I_add, I_sub, I_mul, I_neg, nm_eq, bd0_s, bd2_s, un2_eq, un3_eq, un4_eq, un5_eq, un6_eq, cs2_l, cs2_r, mk_1, mk_2, wI_mk, wL_mk, wR_mk, setR_same, setR_setR, rZ_0, rZ_1, rZ_b2, it_b2, it_nb2, it_b21, it_nb21, I_lt, I_le, I_eq, I_div, castI, if_true, if_false, Classical.not_not, c7, h5]
      refine ⟨.inr (), rfl, ?_⟩
      apply sb_f
      intro ⟨j, h1, h2, h3⟩
      exact hj j h1 (by omega) h3)
  simp only [fX4_isDamp, h1, bd0_s, h2]
noncomputable def runA (N : Int → Int) (g h : Int) : Int := ii (N (129 + g) = 2) 0 (ii (dampA N h) (max 1 ((ii (N (129 + g) = 1) (max 1 (N (121 + g) / 2)) (N (121 + g))) / 2)) (ii (N (129 + g) = 1) (max 1 (N (121 + g) / 2)) (N (121 + g))))
theorem ii_r {p : Prop} {a b lo hi : Int} (h1 : lo ≤ a ∧ a ≤ hi) (h2 : lo ≤ b ∧ b ≤ hi) : lo ≤ ii p a b ∧ ii p a b ≤ hi := by
  by_cases h : p
  · rw [ii_t h]; exact h1
  · rw [ii_f h]; exact h2
theorem runA_r {N : Int → Int} {g h : Int} (wl : WFL N) (hg : 0 ≤ g ∧ g < 4) : 0 ≤ runA N g h ∧ runA N g h ≤ 9 := by
  obtain ⟨vh, vfo, vnk, vle, vti, vwa, vgl⟩ := wl
  have h1 := vnk g hg.1 hg.2
  have h2 := ii_r (p := N (129 + g) = 1) (a := max 1 (N (121 + g) / 2)) (b := N (121 + g)) (lo := 0) (hi := 9) (by omega) (by omega)
  unfold runA
  exact ii_r (by omega) (ii_r (by omega) (by omega))
theorem M_half {S : Nat → Nat × Nat} {σ : mm} {v : Int} (hv : 0 ≤ v ∧ v ≤ 100) : fX13_half S σ (I v) = some (I (max 1 (v / 2))) := by
  simp (disch := first | assumption | omega) only [fX13_half, fX13_half_b12, I_lit, orb_I, I_add, I_sub, I_mul, I_neg, nm_eq, bd0_s, bd2_s, un2_eq, un3_eq, un4_eq, un5_eq, un6_eq, cs2_l, cs2_r, mk_1, mk_2, wI_mk, wL_mk, wR_mk, setR_same, setR_setR, rZ_0, rZ_1, rZ_b2, it_b2, it_nb2, it_b21, it_nb21, I_lt, I_le, I_eq, I_div, castI, if_true, if_false, Classical.not_not]
  split <;> (congr 2; omega)
theorem M_runs {S : Nat → Nat × Nat} {R : Nat → Int → Int} {w : Nat → Nat → Int64} {rf : Nat → Nat → Option Nat} {g h : Int} (hS : SMok S) (hr : RMok rf) (wf : WFP (R 66)) (wl : WFL (R 66)) (hg : 0 ≤ g ∧ g < 4) (hh : -1 ≤ h ∧ h ≤ 600) : fX13_runs S (mk R w rf) 64 (I g) (I h) = some (I (runA (R 66) g h)) := by
  obtain ⟨vh, vfo, vnk, vle, vti, vwa, vgl⟩ := wl
  have h1 := vnk g hg.1 hg.2
  have h2 := vti g hg.1 hg.2
  simp (disch := first | assumption | omega) only [fX13_runs, fX13_runs_b45, fX13_runs_b61, I_lit, orb_I, I_add, I_sub, I_mul, I_neg, nm_eq, bd0_s, bd2_s, un2_eq, un3_eq, un4_eq, un5_eq, un6_eq, cs2_l, cs2_r, mk_1, mk_2, wI_mk, wL_mk, wR_mk, setR_same, setR_setR, rZ_0, rZ_1, rZ_b2, it_b2, it_nb2, it_b21, it_nb21, I_lt, I_le, I_eq, I_div, castI, if_true, if_false, Classical.not_not, gM14, ldM66, M_isDamp hS hr wf hh, M_half]
  unfold runA
  by_cases h3 : R 66 (129 + g) = 2
  · rw [ii_t h3]
    simp only [h3, not_true, if_false]
  · rw [ii_f h3]
    by_cases h4 : R 66 (129 + g) = 1
    · rw [ii_t h4]
      by_cases h5 : dampA (R 66) h
      · rw [ii_t h5]
        simp (disch := first | assumption | omega) only [h4, h5, if_true, if_false, not_true, I_lit, orb_I, I_add, I_sub, I_mul, I_neg, nm_eq, bd0_s, bd2_s, un2_eq, un3_eq, un4_eq, un5_eq, un6_eq, cs2_l, cs2_r, mk_1, mk_2, wI_mk, wL_mk, wR_mk, setR_same, setR_setR, rZ_0, rZ_1, rZ_b2, it_b2, it_nb2, it_b21, it_nb21, I_lt, I_le, I_eq, I_div, castI, if_true, if_false, Classical.not_not, M_half]
        simp only [Int.reduceEq, not_false_eq_true, if_true]
      · rw [ii_f h5]
        simp (disch := first | assumption | omega) only [h4, h5, if_true, if_false, not_true, I_lit, orb_I, I_add, I_sub, I_mul, I_neg, nm_eq, bd0_s, bd2_s, un2_eq, un3_eq, un4_eq, un5_eq, un6_eq, cs2_l, cs2_r, mk_1, mk_2, wI_mk, wL_mk, wR_mk, setR_same, setR_setR, rZ_0, rZ_1, rZ_b2, it_b2, it_nb2, it_b21, it_nb21, I_lt, I_le, I_eq, I_div, castI, if_true, if_false, Classical.not_not, M_half]
        simp only [Int.reduceEq, not_false_eq_true, if_true]
    · rw [ii_f h4]
      by_cases h5 : dampA (R 66) h
      · rw [ii_t h5]
        simp (disch := first | assumption | omega) only [h3, h4, h5, if_true, if_false, not_false_eq_true, I_lit, orb_I, I_add, I_sub, I_mul, I_neg, nm_eq, bd0_s, bd2_s, un2_eq, un3_eq, un4_eq, un5_eq, un6_eq, cs2_l, cs2_r, mk_1, mk_2, wI_mk, wL_mk, wR_mk, setR_same, setR_setR, rZ_0, rZ_1, rZ_b2, it_b2, it_nb2, it_b21, it_nb21, I_lt, I_le, I_eq, I_div, castI, if_true, if_false, Classical.not_not, M_half]
      · rw [ii_f h5]
        simp (disch := first | assumption | omega) only [h3, h4, h5, if_true, if_false, not_false_eq_true, I_lit, orb_I, I_add, I_sub, I_mul, I_neg, nm_eq, bd0_s, bd2_s, un2_eq, un3_eq, un4_eq, un5_eq, un6_eq, cs2_l, cs2_r, mk_1, mk_2, wI_mk, wL_mk, wR_mk, setR_same, setR_setR, rZ_0, rZ_1, rZ_b2, it_b2, it_nb2, it_b21, it_nb21, I_lt, I_le, I_eq, I_div, castI, if_true, if_false, Classical.not_not, M_half]
theorem C_runsAt {S : Nat → Nat × Nat} {Q : Nat → Int → Int} {w : Nat → Nat → Int64} {rf : Nat → Nat → Option Nat} {N : Int → Int} {l : Nat} {g h : Int} (hS : SCok S) (hr : RCok rf) (hl : isLife l) (wf : WFP N) (wl : WFL N) (cp : CP 67 Q N) (cl : CL l Q N) (hg : 0 ≤ g ∧ g < N 1) (hh : -1 ≤ h ∧ h ≤ 600) : fX3_runsAt S (mk Q w rf) l (I g) (I h) = some (I (runA N g h)) := by
  obtain ⟨vh, vfo, vnk, vle, vti, vwa, vgl⟩ := wl
  obtain ⟨⟨c102, c104, c103⟩, clp, clg⟩ := cl
  have h0 := wf.2.1
  have h1 := vnk g hg.1 (by omega)
  have h2 := vti g hg.1 (by omega)
  obtain ⟨e1, e2, e3, e4, e5⟩ := clg g hg.1 hg.2
  simp (disch := first | assumption | omega) only [fX3_runsAt, fX3_runsAt_b37, fX3_runsAt_b59, I_lit, orb_I, I_add, I_sub, I_mul, I_neg, nm_eq, bd0_s, bd2_s, un2_eq, un3_eq, un4_eq, un5_eq, un6_eq, cs2_l, cs2_r, mk_1, mk_2, wI_mk, wL_mk, wR_mk, setR_same, setR_setR, rZ_0, rZ_1, rZ_b2, it_b2, it_nb2, it_b21, it_nb21, I_lt, I_le, I_eq, I_div, castI, if_true, if_false, Classical.not_not, gL0, gL7, gL8, ldL4, ldL5, e2, e3, C_isDamp hS hr isPar67 wf cp hh, mxI_I]
  unfold runA
  by_cases h3 : N (129 + g) = 2
  · rw [ii_t h3]
    simp only [h3, not_true, if_false]
  · rw [ii_f h3]
    by_cases h4 : N (129 + g) = 1
    · rw [ii_t h4]
      by_cases h5 : dampA N h
      · rw [ii_t h5]
        simp (disch := first | assumption | omega) only [h4, h5, if_true, if_false, not_true, I_lit, orb_I, I_add, I_sub, I_mul, I_neg, nm_eq, bd0_s, bd2_s, un2_eq, un3_eq, un4_eq, un5_eq, un6_eq, cs2_l, cs2_r, mk_1, mk_2, wI_mk, wL_mk, wR_mk, setR_same, setR_setR, rZ_0, rZ_1, rZ_b2, it_b2, it_nb2, it_b21, it_nb21, I_lt, I_le, I_eq, I_div, castI, if_true, if_false, Classical.not_not, mxI_I]
        simp only [Int.reduceEq, not_false_eq_true, if_true]
      · rw [ii_f h5]
        simp (disch := first | assumption | omega) only [h4, h5, if_true, if_false, not_true, I_lit, orb_I, I_add, I_sub, I_mul, I_neg, nm_eq, bd0_s, bd2_s, un2_eq, un3_eq, un4_eq, un5_eq, un6_eq, cs2_l, cs2_r, mk_1, mk_2, wI_mk, wL_mk, wR_mk, setR_same, setR_setR, rZ_0, rZ_1, rZ_b2, it_b2, it_nb2, it_b21, it_nb21, I_lt, I_le, I_eq, I_div, castI, if_true, if_false, Classical.not_not, mxI_I]
        simp only [Int.reduceEq, not_false_eq_true, if_true]
    · rw [ii_f h4]
      by_cases h5 : dampA N h
      · rw [ii_t h5]
        simp (disch := first | assumption | omega) only [h3, h4, h5, if_true, if_false, not_false_eq_true, I_lit, orb_I, I_add, I_sub, I_mul, I_neg, nm_eq, bd0_s, bd2_s, un2_eq, un3_eq, un4_eq, un5_eq, un6_eq, cs2_l, cs2_r, mk_1, mk_2, wI_mk, wL_mk, wR_mk, setR_same, setR_setR, rZ_0, rZ_1, rZ_b2, it_b2, it_nb2, it_b21, it_nb21, I_lt, I_le, I_eq, I_div, castI, if_true, if_false, Classical.not_not, mxI_I]
      · rw [ii_f h5]
        simp (disch := first | assumption | omega) only [h3, h4, h5, if_true, if_false, not_false_eq_true, I_lit, orb_I, I_add, I_sub, I_mul, I_neg, nm_eq, bd0_s, bd2_s, un2_eq, un3_eq, un4_eq, un5_eq, un6_eq, cs2_l, cs2_r, mk_1, mk_2, wI_mk, wL_mk, wR_mk, setR_same, setR_setR, rZ_0, rZ_1, rZ_b2, it_b2, it_nb2, it_b21, it_nb21, I_lt, I_le, I_eq, I_div, castI, if_true, if_false, Classical.not_not, mxI_I]
theorem C_glassOf {S : Nat → Nat × Nat} {Q : Nat → Int → Int} {w : Nat → Nat → Int64} {rf : Nat → Nat → Option Nat} {N : Int → Int} {x : Nat} {p : Int} (hS : SCok S) (hr : RCok rf) (hx : isPar x) (wf : WFP N) (cp : CP x Q N) (hp : 0 ≤ p ∧ p < N 0) : fX4_glassOf S (mk Q w rf) x (I p) = some (I (N (48 + p))) := by
  obtain ⟨wn0, wn1, wn2, wn3, wn4, wn5, wn6, wn7, wfr, wto, wff, wwa, wco, wwd, wgl, wgr, wnk, wda, wdr, wgo, wg1, wg2, wwx⟩ := wf
  obtain ⟨⟨c0, c1, c2, c3, c4, c5, c6, c7⟩, cpp, cpg, cpd, cpk⟩ := cp
  obtain ⟨r, h1, h2⟩ := loop_inv (f := fX4_glassOf_L2 S (mk Q w rf) x (I p)) (m := 1000) (s := (0 : Int32)) (fun k s => s = I k ∧ (k : Int) ≤ N 1 ∧ ∀ j : Int, 0 ≤ j → j < k → ¬ (N (56 + j) = p ∨ N (60 + j) = p)) (fun r => (cs2 (fun v2 => fX4_glassOf_b30 S (mk Q w rf) v2) (fun (_ : Unit) => some (-1 : Int32))) r = some (I (N (48 + p)))) (N 1).toNat (by omega) ⟨rfl, by omega, fun j h1 h2 => by omega⟩ (by
      intro k t hk ⟨ht, hk1, hj⟩
      subst ht
      obtain ⟨e1, e2, -, -⟩ := cpg k (by omega) (by omega)
      obtain ⟨g1, g2, g3, g4, g5, -, -⟩ := wgl k (by omega) (by omega)
      have h5 : ¬ (N 1 ≤ (k : Int)) := by omega
      simp (disch := first | assumption | omega) only [fX4_glassOf_L2, I_lit, orb_I, I_add, I_sub, I_mul, I_neg, nm_eq, bd0_s, bd2_s, un2_eq, un3_eq, un4_eq, un5_eq, un6_eq, cs2_l, cs2_r, mk_1, mk_2, wI_mk, wL_mk, wR_mk, setR_same, setR_setR, rZ_0, rZ_1, rZ_b2, it_b2, it_nb2, it_b21, it_nb21, I_lt, I_le, I_eq, I_div, castI, if_true, if_false, Classical.not_not, c1, h5, gP0_8, gP0_9, ldP8, ldP9, e1, e2]
      by_cases h6 : N (56 + k) = p
      · right
        refine ⟨.inl (I k), ?_, ?_⟩
        · simp only [h6, if_true]
        · rw [h6] at g4
          rw [g4]; rfl
      · by_cases h7 : N (60 + k) = p
        · right
          refine ⟨.inl (I k), ?_, ?_⟩
          · simp only [h6, h7, if_true, if_false, not_true]
          · rw [h7] at g5
            rw [g5]; rfl
        · left
          refine ⟨I (k + 1), ?_, rfl, by omega, ?_⟩
          · simp only [h6, h7, if_true, if_false, not_false_eq_true]
          · intro j hj1 hj2
            by_cases h8 : j = k
            · rw [h8]; omega
            · exact hj j hj1 (by omega)) (by
      intro t ⟨ht, hk1, hj⟩
      subst ht
      have h5 : (N 1 ≤ ((N 1).toNat : Int)) := by omega
      simp (disch := first | assumption | omega) only [fX4_glassOf_L2, I_lit, orb_I, I_add, I_sub, I_mul, I_neg, nm_eq, bd0_s, bd2_s, un2_eq, un3_eq, un4_eq, un5_eq, un6_eq, cs2_l, cs2_r, mk_1, mk_2, wI_mk, wL_mk, wR_mk, setR_same, setR_setR, rZ_0, rZ_1, rZ_b2, it_b2, it_nb2, it_b21, it_nb21, I_lt, I_le, I_eq, I_div, castI, if_true, if_false, Classical.not_not, c1, h5]
      refine ⟨.inr (), rfl, ?_⟩
      have h6 := wwd p (by omega) (by omega)
      by_cases h7 : 0 ≤ N (48 + p)
      · exact absurd (wwx p hp.1 hp.2 h7) (hj _ h7 (by omega))
      · have h8 : N (48 + p) = -1 := by omega
        rw [h8]; rfl)
  simp only [fX4_glassOf, h1, bd0_s, h2]
noncomputable def othA (N : Int → Int) (p : Int) : Int := ii (N (56 + N (48 + p)) = p) (N (60 + N (48 + p))) (N (56 + N (48 + p)))
theorem M_otherOf {S : Nat → Nat × Nat} {R : Nat → Int → Int} {w : Nat → Nat → Int64} {rf : Nat → Nat → Option Nat} {p : Int} (hS : SMok S) (hr : RMok rf) (wf : WFP (R 66)) (hp : 0 ≤ p ∧ p < R 66 0) (hg : 0 ≤ R 66 (48 + p)) : fX13_otherOf S (mk R w rf) 64 (I p) = some (I (othA (R 66) p)) := by
  obtain ⟨wn0, wn1, wn2, wn3, wn4, wn5, wn6, wn7, wfr, wto, wff, wwa, wco, wwd, wgl, wgr, wnk, wda, wdr, wgo, wg1, wg2, wwx⟩ := wf
  have h1 := wwd p (by omega) (by omega)
  obtain ⟨g1, g2, g3, -⟩ := wgl (R 66 (48 + p)) hg (by omega)
  simp (disch := first | assumption | omega) only [fX13_otherOf, fX13_otherOf_b44, I_lit, orb_I, I_add, I_sub, I_mul, I_neg, nm_eq, bd0_s, bd2_s, un2_eq, un3_eq, un4_eq, un5_eq, un6_eq, cs2_l, cs2_r, mk_1, mk_2, wI_mk, wL_mk, wR_mk, setR_same, setR_setR, rZ_0, rZ_1, rZ_b2, it_b2, it_nb2, it_b21, it_nb21, I_lt, I_le, I_eq, I_div, castI, if_true, if_false, Classical.not_not, gM14, ldM66]
  unfold othA
  by_cases h : R 66 (56 + R 66 (48 + p)) = p
  · rw [ii_t h]; simp only [h, not_true, if_false]
  · rw [ii_f h]; simp only [h, not_false_eq_true, if_true]
theorem C_otherOf {S : Nat → Nat × Nat} {Q : Nat → Int → Int} {w : Nat → Nat → Int64} {rf : Nat → Nat → Option Nat} {N : Int → Int} {x : Nat} {p : Int} (hS : SCok S) (hr : RCok rf) (hx : isPar x) (wf : WFP N) (cp : CP x Q N) (hp : 0 ≤ p ∧ p < N 0) : fX4_otherOf S (mk Q w rf) x (I p) = some (I (ii (0 ≤ N (48 + p)) (othA N p) (-1))) := by
  have hg := C_glassOf (w := w) hS hr hx wf cp hp
  have cp' := cp
  have wf' := wf
  obtain ⟨wn0, wn1, wn2, wn3, wn4, wn5, wn6, wn7, wfr, wto, wff, wwa, wco, wwd, wgl, wgr, wnk, wda, wdr, wgo, wg1, wg2, wwx⟩ := wf
  obtain ⟨⟨c0, c1, c2, c3, c4, c5, c6, c7⟩, cpp, cpg, cpd, cpk⟩ := cp
  have h1 := wwd p (by omega) (by omega)
  simp (disch := first | assumption | omega) only [fX4_otherOf, fX4_otherOf_b41, I_lit, orb_I, I_add, I_sub, I_mul, I_neg, nm_eq, bd0_s, bd2_s, un2_eq, un3_eq, un4_eq, un5_eq, un6_eq, cs2_l, cs2_r, mk_1, mk_2, wI_mk, wL_mk, wR_mk, setR_same, setR_setR, rZ_0, rZ_1, rZ_b2, it_b2, it_nb2, it_b21, it_nb21, I_lt, I_le, I_eq, I_div, castI, if_true, if_false, Classical.not_not, hg, C_hasGlass hS hr wf' cp' (⟨by omega, by omega⟩ : -2147483648 ≤ N (48 + p) ∧ N (48 + p) < 2147483648)]
  by_cases h2 : 0 ≤ N (48 + p)
  · have h3 : 0 ≤ N (48 + p) ∧ N (48 + p) < N 1 := by omega
    obtain ⟨e1, e2, -, -⟩ := cpg _ h3.1 h3.2
    obtain ⟨g1, g2, g3, -⟩ := wgl _ h3.1 h3.2
    rw [ii_t h2, if_pos h3]
    simp (disch := first | assumption | omega) only [I_lit, orb_I, I_add, I_sub, I_mul, I_neg, nm_eq, bd0_s, bd2_s, un2_eq, un3_eq, un4_eq, un5_eq, un6_eq, cs2_l, cs2_r, mk_1, mk_2, wI_mk, wL_mk, wR_mk, setR_same, setR_setR, rZ_0, rZ_1, rZ_b2, it_b2, it_nb2, it_b21, it_nb21, I_lt, I_le, I_eq, I_div, castI, if_true, if_false, Classical.not_not, gP0_8, gP0_9, ldP8, ldP9, e1, e2]
    unfold othA
    by_cases h : N (56 + N (48 + p)) = p
    · rw [ii_t h]; simp only [h, not_true, if_false]
    · rw [ii_f h]; simp only [h, not_false_eq_true, if_true]
  · rw [ii_f h2, if_neg (by omega)]
