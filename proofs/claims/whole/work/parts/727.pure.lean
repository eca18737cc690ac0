def cpPar (x y : Nat) (Q : Nat → Int → Int) : Nat → Int → Int := setR (setR (setR (setR (setR (setR (setR (setR (setR (setR (setR (setR (setR (setR (setR (Q) (x + 2) (cpf (Q (x + 2)) (Q (y + 2)) 0 0 8)) (x + 3) (cpf (Q (x + 3)) (Q (y + 3)) 0 0 8)) (x + 4) (cpf (Q (x + 4)) (Q (y + 4)) 0 0 8)) (x + 5) (cpf (Q (x + 5)) (Q (y + 5)) 0 0 8)) (x + 6) (cpf (Q (x + 6)) (Q (y + 6)) 0 0 8)) (x + 8) (cpf (Q (x + 8)) (Q (y + 8)) 0 0 4)) (x + 9) (cpf (Q (x + 9)) (Q (y + 9)) 0 0 4)) (x + 10) (cpf (Q (x + 10)) (Q (y + 10)) 0 0 4)) (x + 11) (cpf (Q (x + 11)) (Q (y + 11)) 0 0 4)) (x + 12) (cpf (Q (x + 12)) (Q (y + 12)) 0 0 12)) (x + 15) (cpf (Q (x + 15)) (Q (y + 15)) 0 0 6)) (x + 16) (cpf (Q (x + 16)) (Q (y + 16)) 0 0 6)) (x + 17) (cpf (Q (x + 17)) (Q (y + 17)) 0 0 6)) x (updf (updf (updf (updf (updf (updf (updf (Q x) 6 (Q y 6)) 12 (Q y 12)) 14 (Q y 14)) 16 (Q y 16)) 17 (Q y 17)) 18 (Q y 18)) 19 (Q y 19))) (x + 13) (updf (Q (x + 13)) 4 (Q (y + 13) 4))
def cpNam (x y : Nat) (w : Nat → Nat → Int64) : Nat → Nat → Int64 := up1 (up1 (up1 w (x + 1) (fun j => if j < 8 then w (y + 1) j else w (x + 1) j)) (x + 7) (fun j => if j < 4 then w (y + 7) j else w (x + 7) j)) (x + 14) (fun j => if j < 6 then w (y + 14) j else w (x + 14) j)
theorem cpPar_0 {x y : Nat} {Q : Nat → Int → Int} : cpPar x y Q (x) = updf (updf (updf (updf (updf (updf (updf (Q x) 6 (Q y 6)) 12 (Q y 12)) 14 (Q y 14)) 16 (Q y 16)) 17 (Q y 17)) 18 (Q y 18)) 19 (Q y 19) := by
  simp (disch := omega) only [cpPar, setR_ne, setR_same]
theorem cpPar_2 {x y : Nat} {Q : Nat → Int → Int} : cpPar x y Q (x + 2) = cpf (Q (x + 2)) (Q (y + 2)) 0 0 8 := by
  simp (disch := omega) only [cpPar, setR_ne, setR_same]
theorem cpPar_3 {x y : Nat} {Q : Nat → Int → Int} : cpPar x y Q (x + 3) = cpf (Q (x + 3)) (Q (y + 3)) 0 0 8 := by
  simp (disch := omega) only [cpPar, setR_ne, setR_same]
theorem cpPar_4 {x y : Nat} {Q : Nat → Int → Int} : cpPar x y Q (x + 4) = cpf (Q (x + 4)) (Q (y + 4)) 0 0 8 := by
  simp (disch := omega) only [cpPar, setR_ne, setR_same]
theorem cpPar_5 {x y : Nat} {Q : Nat → Int → Int} : cpPar x y Q (x + 5) = cpf (Q (x + 5)) (Q (y + 5)) 0 0 8 := by
  simp (disch := omega) only [cpPar, setR_ne, setR_same]
theorem cpPar_6 {x y : Nat} {Q : Nat → Int → Int} : cpPar x y Q (x + 6) = cpf (Q (x + 6)) (Q (y + 6)) 0 0 8 := by
  simp (disch := omega) only [cpPar, setR_ne, setR_same]
theorem cpPar_8 {x y : Nat} {Q : Nat → Int → Int} : cpPar x y Q (x + 8) = cpf (Q (x + 8)) (Q (y + 8)) 0 0 4 := by
  simp (disch := omega) only [cpPar, setR_ne, setR_same]
theorem cpPar_9 {x y : Nat} {Q : Nat → Int → Int} : cpPar x y Q (x + 9) = cpf (Q (x + 9)) (Q (y + 9)) 0 0 4 := by
  simp (disch := omega) only [cpPar, setR_ne, setR_same]
theorem cpPar_10 {x y : Nat} {Q : Nat → Int → Int} : cpPar x y Q (x + 10) = cpf (Q (x + 10)) (Q (y + 10)) 0 0 4 := by
  simp (disch := omega) only [cpPar, setR_ne, setR_same]
theorem cpPar_11 {x y : Nat} {Q : Nat → Int → Int} : cpPar x y Q (x + 11) = cpf (Q (x + 11)) (Q (y + 11)) 0 0 4 := by
  simp (disch := omega) only [cpPar, setR_ne, setR_same]
theorem cpPar_12 {x y : Nat} {Q : Nat → Int → Int} : cpPar x y Q (x + 12) = cpf (Q (x + 12)) (Q (y + 12)) 0 0 12 := by
  simp (disch := omega) only [cpPar, setR_ne, setR_same]
theorem cpPar_15 {x y : Nat} {Q : Nat → Int → Int} : cpPar x y Q (x + 15) = cpf (Q (x + 15)) (Q (y + 15)) 0 0 6 := by
  simp (disch := omega) only [cpPar, setR_ne, setR_same]
theorem cpPar_16 {x y : Nat} {Q : Nat → Int → Int} : cpPar x y Q (x + 16) = cpf (Q (x + 16)) (Q (y + 16)) 0 0 6 := by
  simp (disch := omega) only [cpPar, setR_ne, setR_same]
theorem cpPar_17 {x y : Nat} {Q : Nat → Int → Int} : cpPar x y Q (x + 17) = cpf (Q (x + 17)) (Q (y + 17)) 0 0 6 := by
  simp (disch := omega) only [cpPar, setR_ne, setR_same]
theorem cpPar_13 {x y : Nat} {Q : Nat → Int → Int} : cpPar x y Q (x + 13) = updf (Q (x + 13)) 4 (Q (y + 13) 4) := by
  simp (disch := omega) only [cpPar, setR_ne, setR_same]
theorem cpPar_out {x y a : Nat} {Q : Nat → Int → Int} (h : a < x ∨ x + 17 < a) : cpPar x y Q a = Q a := by
  simp (disch := omega) only [cpPar, setR_ne]
theorem cpPar_mid {x y : Nat} {Q : Nat → Int → Int} : True := trivial
theorem CP_cp {x y : Nat} {Q : Nat → Int → Int} {N : Int → Int} (wf : WFP N) (cp : CP y Q N) : CP x (cpPar x y Q) N := by
  obtain ⟨wn0, wn1, wn2, wn3, wn4, wn5, wn6, wn7, wfr, wto, wff, wwa, wco, wwd, wgl, wgr, wnk, wda, wdr, wgo, wg1, wg2, wwx⟩ := wf
  obtain ⟨⟨c0, c1, c2, c3, c4, c5, c6, c7⟩, cpp, cpg, cpd, cpk⟩ := cp
  unfold CP
  rw [cpPar_0, cpPar_2, cpPar_3, cpPar_4, cpPar_5, cpPar_6, cpPar_8, cpPar_9, cpPar_10, cpPar_11, cpPar_12, cpPar_15, cpPar_16, cpPar_17, cpPar_13]
  refine ⟨⟨?_, ?_, ?_, ?_, ?_, ?_, ?_, ?_⟩, fun p h1 h2 => ?_, fun p h1 h2 => ?_, fun p h1 h2 => ?_, fun p h1 h2 => ?_⟩
  · simp (disch := omega) only [updf_ne, updf_same]; exact c0
  · simp (disch := omega) only [updf_ne, updf_same]; exact c1
  · simp (disch := omega) only [updf_ne, updf_same]; exact c2
  · simp (disch := omega) only [updf_ne, updf_same]; exact c3
  · simp (disch := omega) only [updf_ne, updf_same]; exact c4
  · simp (disch := omega) only [updf_ne, updf_same]; exact c5
  · simp (disch := omega) only [updf_ne, updf_same]; exact c6
  · simp (disch := omega) only [updf_ne, updf_same]; exact c7
  · have e : ∀ (d s : Int → Int), cpf d s 0 0 8 p = s p := fun d s => cpf_in (by omega) (by omega)
    rw [e, e, e, e, e]; exact cpp p h1 h2
  · have e : ∀ (d s : Int → Int), cpf d s 0 0 4 p = s p := fun d s => cpf_in (by omega) (by omega)
    rw [e, e, e, e]; exact cpg p h1 h2
  · have e : ∀ (d s : Int → Int), cpf d s 0 0 12 (2 * p) = s (2 * p) := fun d s => cpf_in (by omega) (by omega)
    have e2 : ∀ (d s : Int → Int), cpf d s 0 0 12 (2 * p + 1) = s (2 * p + 1) := fun d s => cpf_in (by omega) (by omega)
    rw [e, e2]; exact cpd p h1 h2
  · have e : ∀ (d s : Int → Int), cpf d s 0 0 6 p = s p := fun d s => cpf_in (by omega) (by omega)
    rw [e, e, e]; exact cpk p h1 h2
theorem isPar_far {x y : Nat} (h : isPar x) (h' : isPar y) (hne : x ≠ y) : x + 18 ≤ y ∨ y + 18 ≤ x := by
  unfold isPar at h h'
  omega
theorem u1_same {α : Type} {w : Nat → Nat → α} {a : Nat} {g : Nat → α} : up1 w a g a = g := by
  simp [up1]
theorem u1_ne {α : Type} {w : Nat → Nat → α} {a b : Nat} {g : Nat → α} (h : b ≠ a) : up1 w a g b = w b := by
  simp [up1, h]
theorem setR_comm {R : Nat → Int → Int} {a b : Nat} {M M' : Int → Int} (h : a ≠ b) : setR (setR R a M) b M' = setR (setR R b M') a M := by
  funext c
  by_cases h1 : c = a
  · rw [h1, setR_same, setR_ne h, setR_same]
  · rw [setR_ne h1]
    by_cases h2 : c = b
    · rw [h2, setR_same, setR_same]
    · rw [setR_ne h2, setR_ne h2, setR_ne h1]
theorem C_copyPar {S : Nat → Nat × Nat} {Q : Nat → Int → Int} {w : Nat → Nat → Int64} {rf : Nat → Nat → Option Nat} {N : Int → Int} {x y : Nat} (hS : SCok S) (hr : RCok rf) (hx : isPar x) (hy : isPar y) (hne : x ≠ y) (wf : WFP N) (cp : CP y Q N) : fX4_copyFrom S (mk Q w rf) x y = some (mk (cpPar x y Q) (cpNam x y w) rf) := by
  have hf := isPar_far hx hy hne
  have w5 := wf.2.2.2.2.2.1
  have w6 := wf.2.2.2.2.2.2.1
  obtain ⟨⟨c0, c1, c2, c3, c4, c5, c6, c7⟩, -⟩ := cp
  obtain ⟨s1, s2, s3, s4, s5, s6, s7, s8, s9, s10, s11, s12, s14, s15, s16, s17⟩ := hS.1 x hx
  obtain ⟨t1, t2, t3, t4, t5, t6, t7, t8, t9, t10, t11, t12, t14, t15, t16, t17⟩ := hS.1 y hy
  simp (disch := first | assumption | omega) only [fX4_copyFrom, I_lit, orb_I, I_add, I_sub, I_mul, I_neg, nm_eq, bd0_s, bd2_s, un2_eq, un3_eq, un4_eq, un5_eq, un6_eq, cs2_l, cs2_r, mk_1, mk_2, wI_mk, wL_mk, wR_mk, setR_same, setR_setR, rZ_0, rZ_1, rZ_b2, it_b2, it_nb2, it_b21, it_nb21, I_lt, I_le, I_eq, I_div, castI, if_true, if_false, Classical.not_not, setR_ne, updf_ne, u1_ne, gP0_0, gP0_1, gP0_2, gP0_3, gP0_4, gP0_5, gP0_7, gP0_8, gP0_9, gP0_10, gP0_11, gP0_13, gP0_15, gP13_0, gP13_1, gP13_2, gP13_3]
  rw [cpL_mk t1 s1 (by omega) (by omega) (by omega)]
  simp (disch := first | assumption | omega) only [fX2_copyFrom, I_lit, orb_I, I_add, I_sub, I_mul, I_neg, nm_eq, bd0_s, bd2_s, un2_eq, un3_eq, un4_eq, un5_eq, un6_eq, cs2_l, cs2_r, mk_1, mk_2, wI_mk, wL_mk, wR_mk, setR_same, setR_setR, rZ_0, rZ_1, rZ_b2, it_b2, it_nb2, it_b21, it_nb21, I_lt, I_le, I_eq, I_div, castI, if_true, if_false, Classical.not_not, setR_ne, updf_ne, u1_ne, gP0_0, gP0_1, gP0_2, gP0_3, gP0_4, gP0_5, gP0_7, gP0_8, gP0_9, gP0_10, gP0_11, gP0_13, gP0_15, gP13_0, gP13_1, gP13_2, gP13_3]
  rw [cpI_mk t2 s2 (by omega) (by omega) (by omega)]
  simp (disch := first | assumption | omega) only [fX2_copyFrom, I_lit, orb_I, I_add, I_sub, I_mul, I_neg, nm_eq, bd0_s, bd2_s, un2_eq, un3_eq, un4_eq, un5_eq, un6_eq, cs2_l, cs2_r, mk_1, mk_2, wI_mk, wL_mk, wR_mk, setR_same, setR_setR, rZ_0, rZ_1, rZ_b2, it_b2, it_nb2, it_b21, it_nb21, I_lt, I_le, I_eq, I_div, castI, if_true, if_false, Classical.not_not, setR_ne, updf_ne, u1_ne, gP0_0, gP0_1, gP0_2, gP0_3, gP0_4, gP0_5, gP0_7, gP0_8, gP0_9, gP0_10, gP0_11, gP0_13, gP0_15, gP13_0, gP13_1, gP13_2, gP13_3]
  rw [cpI_mk t3 s3 (by omega) (by omega) (by omega)]
  simp (disch := first | assumption | omega) only [fX2_copyFrom, I_lit, orb_I, I_add, I_sub, I_mul, I_neg, nm_eq, bd0_s, bd2_s, un2_eq, un3_eq, un4_eq, un5_eq, un6_eq, cs2_l, cs2_r, mk_1, mk_2, wI_mk, wL_mk, wR_mk, setR_same, setR_setR, rZ_0, rZ_1, rZ_b2, it_b2, it_nb2, it_b21, it_nb21, I_lt, I_le, I_eq, I_div, castI, if_true, if_false, Classical.not_not, setR_ne, updf_ne, u1_ne, gP0_0, gP0_1, gP0_2, gP0_3, gP0_4, gP0_5, gP0_7, gP0_8, gP0_9, gP0_10, gP0_11, gP0_13, gP0_15, gP13_0, gP13_1, gP13_2, gP13_3]
  rw [cpI_mk t4 s4 (by omega) (by omega) (by omega)]
  simp (disch := first | assumption | omega) only [fX2_copyFrom, I_lit, orb_I, I_add, I_sub, I_mul, I_neg, nm_eq, bd0_s, bd2_s, un2_eq, un3_eq, un4_eq, un5_eq, un6_eq, cs2_l, cs2_r, mk_1, mk_2, wI_mk, wL_mk, wR_mk, setR_same, setR_setR, rZ_0, rZ_1, rZ_b2, it_b2, it_nb2, it_b21, it_nb21, I_lt, I_le, I_eq, I_div, castI, if_true, if_false, Classical.not_not, setR_ne, updf_ne, u1_ne, gP0_0, gP0_1, gP0_2, gP0_3, gP0_4, gP0_5, gP0_7, gP0_8, gP0_9, gP0_10, gP0_11, gP0_13, gP0_15, gP13_0, gP13_1, gP13_2, gP13_3]
  rw [cpI_mk t5 s5 (by omega) (by omega) (by omega)]
  simp (disch := first | assumption | omega) only [fX2_copyFrom, I_lit, orb_I, I_add, I_sub, I_mul, I_neg, nm_eq, bd0_s, bd2_s, un2_eq, un3_eq, un4_eq, un5_eq, un6_eq, cs2_l, cs2_r, mk_1, mk_2, wI_mk, wL_mk, wR_mk, setR_same, setR_setR, rZ_0, rZ_1, rZ_b2, it_b2, it_nb2, it_b21, it_nb21, I_lt, I_le, I_eq, I_div, castI, if_true, if_false, Classical.not_not, setR_ne, updf_ne, u1_ne, gP0_0, gP0_1, gP0_2, gP0_3, gP0_4, gP0_5, gP0_7, gP0_8, gP0_9, gP0_10, gP0_11, gP0_13, gP0_15, gP13_0, gP13_1, gP13_2, gP13_3]
  rw [cpI_mk t6 s6 (by omega) (by omega) (by omega)]
  simp (disch := first | assumption | omega) only [fX2_copyFrom, I_lit, orb_I, I_add, I_sub, I_mul, I_neg, nm_eq, bd0_s, bd2_s, un2_eq, un3_eq, un4_eq, un5_eq, un6_eq, cs2_l, cs2_r, mk_1, mk_2, wI_mk, wL_mk, wR_mk, setR_same, setR_setR, rZ_0, rZ_1, rZ_b2, it_b2, it_nb2, it_b21, it_nb21, I_lt, I_le, I_eq, I_div, castI, if_true, if_false, Classical.not_not, setR_ne, updf_ne, u1_ne, gP0_0, gP0_1, gP0_2, gP0_3, gP0_4, gP0_5, gP0_7, gP0_8, gP0_9, gP0_10, gP0_11, gP0_13, gP0_15, gP13_0, gP13_1, gP13_2, gP13_3]
  rw [cpL_mk t7 s7 (by omega) (by omega) (by omega)]
  simp (disch := first | assumption | omega) only [fX2_copyFrom, I_lit, orb_I, I_add, I_sub, I_mul, I_neg, nm_eq, bd0_s, bd2_s, un2_eq, un3_eq, un4_eq, un5_eq, un6_eq, cs2_l, cs2_r, mk_1, mk_2, wI_mk, wL_mk, wR_mk, setR_same, setR_setR, rZ_0, rZ_1, rZ_b2, it_b2, it_nb2, it_b21, it_nb21, I_lt, I_le, I_eq, I_div, castI, if_true, if_false, Classical.not_not, setR_ne, updf_ne, u1_ne, gP0_0, gP0_1, gP0_2, gP0_3, gP0_4, gP0_5, gP0_7, gP0_8, gP0_9, gP0_10, gP0_11, gP0_13, gP0_15, gP13_0, gP13_1, gP13_2, gP13_3]
  rw [cpI_mk t8 s8 (by omega) (by omega) (by omega)]
  simp (disch := first | assumption | omega) only [fX2_copyFrom, I_lit, orb_I, I_add, I_sub, I_mul, I_neg, nm_eq, bd0_s, bd2_s, un2_eq, un3_eq, un4_eq, un5_eq, un6_eq, cs2_l, cs2_r, mk_1, mk_2, wI_mk, wL_mk, wR_mk, setR_same, setR_setR, rZ_0, rZ_1, rZ_b2, it_b2, it_nb2, it_b21, it_nb21, I_lt, I_le, I_eq, I_div, castI, if_true, if_false, Classical.not_not, setR_ne, updf_ne, u1_ne, gP0_0, gP0_1, gP0_2, gP0_3, gP0_4, gP0_5, gP0_7, gP0_8, gP0_9, gP0_10, gP0_11, gP0_13, gP0_15, gP13_0, gP13_1, gP13_2, gP13_3]
  rw [cpI_mk t9 s9 (by omega) (by omega) (by omega)]
  simp (disch := first | assumption | omega) only [fX2_copyFrom, I_lit, orb_I, I_add, I_sub, I_mul, I_neg, nm_eq, bd0_s, bd2_s, un2_eq, un3_eq, un4_eq, un5_eq, un6_eq, cs2_l, cs2_r, mk_1, mk_2, wI_mk, wL_mk, wR_mk, setR_same, setR_setR, rZ_0, rZ_1, rZ_b2, it_b2, it_nb2, it_b21, it_nb21, I_lt, I_le, I_eq, I_div, castI, if_true, if_false, Classical.not_not, setR_ne, updf_ne, u1_ne, gP0_0, gP0_1, gP0_2, gP0_3, gP0_4, gP0_5, gP0_7, gP0_8, gP0_9, gP0_10, gP0_11, gP0_13, gP0_15, gP13_0, gP13_1, gP13_2, gP13_3]
  rw [cpI_mk t10 s10 (by omega) (by omega) (by omega)]
  simp (disch := first | assumption | omega) only [fX2_copyFrom, I_lit, orb_I, I_add, I_sub, I_mul, I_neg, nm_eq, bd0_s, bd2_s, un2_eq, un3_eq, un4_eq, un5_eq, un6_eq, cs2_l, cs2_r, mk_1, mk_2, wI_mk, wL_mk, wR_mk, setR_same, setR_setR, rZ_0, rZ_1, rZ_b2, it_b2, it_nb2, it_b21, it_nb21, I_lt, I_le, I_eq, I_div, castI, if_true, if_false, Classical.not_not, setR_ne, updf_ne, u1_ne, gP0_0, gP0_1, gP0_2, gP0_3, gP0_4, gP0_5, gP0_7, gP0_8, gP0_9, gP0_10, gP0_11, gP0_13, gP0_15, gP13_0, gP13_1, gP13_2, gP13_3]
  rw [cpI_mk t11 s11 (by omega) (by omega) (by omega)]
  simp (disch := first | assumption | omega) only [fX2_copyFrom, I_lit, orb_I, I_add, I_sub, I_mul, I_neg, nm_eq, bd0_s, bd2_s, un2_eq, un3_eq, un4_eq, un5_eq, un6_eq, cs2_l, cs2_r, mk_1, mk_2, wI_mk, wL_mk, wR_mk, setR_same, setR_setR, rZ_0, rZ_1, rZ_b2, it_b2, it_nb2, it_b21, it_nb21, I_lt, I_le, I_eq, I_div, castI, if_true, if_false, Classical.not_not, setR_ne, updf_ne, u1_ne, gP0_0, gP0_1, gP0_2, gP0_3, gP0_4, gP0_5, gP0_7, gP0_8, gP0_9, gP0_10, gP0_11, gP0_13, gP0_15, gP13_0, gP13_1, gP13_2, gP13_3]
  rw [cpI_mk t12 s12 (by omega) (by omega) (by omega)]
  simp (disch := first | assumption | omega) only [fX2_copyFrom, I_lit, orb_I, I_add, I_sub, I_mul, I_neg, nm_eq, bd0_s, bd2_s, un2_eq, un3_eq, un4_eq, un5_eq, un6_eq, cs2_l, cs2_r, mk_1, mk_2, wI_mk, wL_mk, wR_mk, setR_same, setR_setR, rZ_0, rZ_1, rZ_b2, it_b2, it_nb2, it_b21, it_nb21, I_lt, I_le, I_eq, I_div, castI, if_true, if_false, Classical.not_not, setR_ne, updf_ne, u1_ne, gP0_0, gP0_1, gP0_2, gP0_3, gP0_4, gP0_5, gP0_7, gP0_8, gP0_9, gP0_10, gP0_11, gP0_13, gP0_15, gP13_0, gP13_1, gP13_2, gP13_3]
  rw [cpL_mk t14 s14 (by omega) (by omega) (by omega)]
  simp (disch := first | assumption | omega) only [fX2_copyFrom, I_lit, orb_I, I_add, I_sub, I_mul, I_neg, nm_eq, bd0_s, bd2_s, un2_eq, un3_eq, un4_eq, un5_eq, un6_eq, cs2_l, cs2_r, mk_1, mk_2, wI_mk, wL_mk, wR_mk, setR_same, setR_setR, rZ_0, rZ_1, rZ_b2, it_b2, it_nb2, it_b21, it_nb21, I_lt, I_le, I_eq, I_div, castI, if_true, if_false, Classical.not_not, setR_ne, updf_ne, u1_ne, gP0_0, gP0_1, gP0_2, gP0_3, gP0_4, gP0_5, gP0_7, gP0_8, gP0_9, gP0_10, gP0_11, gP0_13, gP0_15, gP13_0, gP13_1, gP13_2, gP13_3]
  rw [cpI_mk t15 s15 (by omega) (by omega) (by omega)]
  simp (disch := first | assumption | omega) only [fX2_copyFrom, I_lit, orb_I, I_add, I_sub, I_mul, I_neg, nm_eq, bd0_s, bd2_s, un2_eq, un3_eq, un4_eq, un5_eq, un6_eq, cs2_l, cs2_r, mk_1, mk_2, wI_mk, wL_mk, wR_mk, setR_same, setR_setR, rZ_0, rZ_1, rZ_b2, it_b2, it_nb2, it_b21, it_nb21, I_lt, I_le, I_eq, I_div, castI, if_true, if_false, Classical.not_not, setR_ne, updf_ne, u1_ne, gP0_0, gP0_1, gP0_2, gP0_3, gP0_4, gP0_5, gP0_7, gP0_8, gP0_9, gP0_10, gP0_11, gP0_13, gP0_15, gP13_0, gP13_1, gP13_2, gP13_3]
  rw [cpI_mk t16 s16 (by omega) (by omega) (by omega)]
  simp (disch := first | assumption | omega) only [fX2_copyFrom, I_lit, orb_I, I_add, I_sub, I_mul, I_neg, nm_eq, bd0_s, bd2_s, un2_eq, un3_eq, un4_eq, un5_eq, un6_eq, cs2_l, cs2_r, mk_1, mk_2, wI_mk, wL_mk, wR_mk, setR_same, setR_setR, rZ_0, rZ_1, rZ_b2, it_b2, it_nb2, it_b21, it_nb21, I_lt, I_le, I_eq, I_div, castI, if_true, if_false, Classical.not_not, setR_ne, updf_ne, u1_ne, gP0_0, gP0_1, gP0_2, gP0_3, gP0_4, gP0_5, gP0_7, gP0_8, gP0_9, gP0_10, gP0_11, gP0_13, gP0_15, gP13_0, gP13_1, gP13_2, gP13_3]
  rw [cpI_mk t17 s17 (by omega) (by omega) (by omega)]
  simp (disch := first | assumption | omega) only [fX2_copyFrom, I_lit, orb_I, I_add, I_sub, I_mul, I_neg, nm_eq, bd0_s, bd2_s, un2_eq, un3_eq, un4_eq, un5_eq, un6_eq, cs2_l, cs2_r, mk_1, mk_2, wI_mk, wL_mk, wR_mk, setR_same, setR_setR, rZ_0, rZ_1, rZ_b2, it_b2, it_nb2, it_b21, it_nb21, I_lt, I_le, I_eq, I_div, castI, if_true, if_false, Classical.not_not, setR_ne, updf_ne, u1_ne, gP0_0, gP0_1, gP0_2, gP0_3, gP0_4, gP0_5, gP0_7, gP0_8, gP0_9, gP0_10, gP0_11, gP0_13, gP0_15, gP13_0, gP13_1, gP13_2, gP13_3]
  rw [wZ_mk (by omega)]
  simp (disch := first | assumption | omega) only [I_lit, orb_I, I_add, I_sub, I_mul, I_neg, nm_eq, bd0_s, bd2_s, un2_eq, un3_eq, un4_eq, un5_eq, un6_eq, cs2_l, cs2_r, mk_1, mk_2, wI_mk, wL_mk, wR_mk, setR_same, setR_setR, rZ_0, rZ_1, rZ_b2, it_b2, it_nb2, it_b21, it_nb21, I_lt, I_le, I_eq, I_div, castI, if_true, if_false, Classical.not_not, setR_ne, updf_ne, u1_ne]
  rw [wZ_mk (by omega)]
  congr 2
  funext a
  have hc : a = x ∨ a = x + 2 ∨ a = x + 3 ∨ a = x + 4 ∨ a = x + 5 ∨ a = x + 6 ∨ a = x + 8 ∨ a = x + 9 ∨ a = x + 10 ∨ a = x + 11 ∨ a = x + 12 ∨ a = x + 15 ∨ a = x + 16 ∨ a = x + 17 ∨ a = x + 13 ∨ (a ≠ x ∧ a ≠ x + 2 ∧ a ≠ x + 3 ∧ a ≠ x + 4 ∧ a ≠ x + 5 ∧ a ≠ x + 6 ∧ a ≠ x + 8 ∧ a ≠ x + 9 ∧ a ≠ x + 10 ∧ a ≠ x + 11 ∧ a ≠ x + 12 ∧ a ≠ x + 15 ∧ a ≠ x + 16 ∧ a ≠ x + 17 ∧ a ≠ x + 13) := by omega
  rcases hc with h | h | h | h | h | h | h | h | h | h | h | h | h | h | h | ⟨h0, h2, h3, h4, h5, h6, h8, h9, h10, h11, h12, h15, h16, h17, h13⟩
  · subst h
    rw [cpPar_0]
    simp (disch := omega) only [setR_ne, setR_same, castI]
  · subst h
    rw [cpPar_2]
    simp (disch := omega) only [setR_ne, setR_same, castI]
  · subst h
    rw [cpPar_3]
    simp (disch := omega) only [setR_ne, setR_same, castI]
  · subst h
    rw [cpPar_4]
    simp (disch := omega) only [setR_ne, setR_same, castI]
  · subst h
    rw [cpPar_5]
    simp (disch := omega) only [setR_ne, setR_same, castI]
  · subst h
    rw [cpPar_6]
    simp (disch := omega) only [setR_ne, setR_same, castI]
  · subst h
    rw [cpPar_8]
    simp (disch := omega) only [setR_ne, setR_same, castI]
  · subst h
    rw [cpPar_9]
    simp (disch := omega) only [setR_ne, setR_same, castI]
  · subst h
    rw [cpPar_10]
    simp (disch := omega) only [setR_ne, setR_same, castI]
  · subst h
    rw [cpPar_11]
    simp (disch := omega) only [setR_ne, setR_same, castI]
  · subst h
    rw [cpPar_12]
    simp (disch := omega) only [setR_ne, setR_same, castI]
  · subst h
    rw [cpPar_15]
    simp (disch := omega) only [setR_ne, setR_same, castI]
  · subst h
    rw [cpPar_16]
    simp (disch := omega) only [setR_ne, setR_same, castI]
  · subst h
    rw [cpPar_17]
    simp (disch := omega) only [setR_ne, setR_same, castI]
  · subst h
    rw [cpPar_13]
    simp (disch := omega) only [setR_ne, setR_same, castI]
  · simp (disch := assumption) only [cpPar, setR_ne]
