def cpf (dst src : Int → Int) (d s n : Int) : Int → Int := fun j => if d ≤ j ∧ j < d + n then src (s + (j - d)) else dst j
theorem cpf_in {dst src : Int → Int} {d s n j k : Int} (h : d ≤ j ∧ j < d + n) (hk : k = s + (j - d)) : cpf dst src d s n j = src k := by
  rw [hk]; simp only [cpf, h, and_self, if_true]
theorem cpf_out {dst src : Int → Int} {d s n j : Int} (h : ¬ (d ≤ j ∧ j < d + n)) : cpf dst src d s n j = dst j := by
  unfold cpf
  rw [if_neg h]
theorem cpf_0 {dst src : Int → Int} {d s : Int} : cpf dst src d s 0 = dst := by
  funext j
  exact cpf_out (by omega)
theorem cpf_succ {dst src : Int → Int} {d s n z x : Int} (hn : 0 ≤ n) (hz : z = d + n) (hx : x = src (s + n)) : updf (cpf dst src d s n) z x = cpf dst src d s (n + 1) := by
  funext j
  by_cases h : j = z
  · rw [updf_same h, cpf_in (k := s + n) (by omega) (by omega), hx]
  · rw [updf_ne h]
    by_cases h2 : d ≤ j ∧ j < d + n
    · rw [cpf_in h2 rfl, cpf_in (by omega) rfl]
    · rw [cpf_out h2, cpf_out (by omega)]
theorem cpI_mk {α : Type} {S : Nat → Nat × Nat} {R : Nat → Int → Int} {w : Nat → Nat → Int64} {rf : Nat → Nat → Option Nat} {F : mm → Option α} {a b na nb : Nat} {sp dp n : Int} (hSa : (S a).2 = na) (hSb : (S b).2 = nb) (h1 : 0 ≤ sp ∧ 0 ≤ dp ∧ 0 ≤ n) (h2 : sp + n ≤ na ∧ dp + n ≤ nb) (h3 : na < 2147483648 ∧ nb < 2147483648) : cpI S (mk R w rf) a (I sp) b (I dp) (I n) F = F (mk (setR R b (cpf (R b) (R a) dp sp n)) w rf) := by
  have k : cpk (I sp) (I dp) (I n) (S a).2 (S b).2 = true := by
    rw [hSa, hSb]
    simp (disch := first | assumption | omega) only [cpk, I_lit, orb_I, I_add, I_sub, I_mul, I_neg, nm_eq, bd0_s, bd2_s, un2_eq, un3_eq, un4_eq, un5_eq, un6_eq, cs2_l, cs2_r, mk_1, mk_2, wI_mk, wL_mk, wR_mk, setR_same, setR_setR, rZ_0, rZ_1, rZ_b2, it_b2, it_nb2, it_b21, it_nb21, I_lt, I_le, I_eq, I_div, castI, if_true, if_false, Classical.not_not, I_tc, Bool.and_eq_true, Bool.not_eq_true', decide_eq_false_iff_not, decide_eq_true_eq]
    omega
  simp only [cpI, k, if_true]
  congr 1
  have : up1 (mk R w rf).1 b (va_cpy ((mk R w rf).1 a) ((mk R w rf).1 b) (I sp).toNatClampNeg (I dp).toNatClampNeg (I n).toNatClampNeg) = (mk (setR R b (cpf (R b) (R a) dp sp n)) w rf).1 := by
    rw [I_tc (by omega) (by omega), I_tc (by omega) (by omega), I_tc (by omega) (by omega)]
    funext q j
    rw [mk_1]
    simp only [up1, setR]
    by_cases hq : q = b
    · simp only [hq, if_true]
      unfold cpf
      simp only [va_cpy, mk_1]
      by_cases hj : dp.toNat ≤ j ∧ j < dp.toNat + n.toNat
      · rw [if_pos hj, if_pos (by omega)]
        congr 2
        omega
      · rw [if_neg hj, if_neg (by omega)]
    · simp only [hq, if_false, mk_1]
  rw [this]
  rfl
theorem cpL_mk {α : Type} {S : Nat → Nat × Nat} {R : Nat → Int → Int} {w : Nat → Nat → Int64} {rf : Nat → Nat → Option Nat} {F : mm → Option α} {a b na nb : Nat} {n : Int} (hSa : (S a).2 = na) (hSb : (S b).2 = nb) (h1 : 0 ≤ n) (h2 : n ≤ na ∧ n ≤ nb) (h3 : na < 2147483648 ∧ nb < 2147483648) : cpL S (mk R w rf) a (I 0) b (I 0) (I n) F = F (mk R (up1 w b (fun j => if j < n.toNat then w a j else w b j)) rf) := by
  have k : cpk (I 0) (I 0) (I n) (S a).2 (S b).2 = true := by
    rw [hSa, hSb]
    simp (disch := first | assumption | omega) only [cpk, I_lit, orb_I, I_add, I_sub, I_mul, I_neg, nm_eq, bd0_s, bd2_s, un2_eq, un3_eq, un4_eq, un5_eq, un6_eq, cs2_l, cs2_r, mk_1, mk_2, wI_mk, wL_mk, wR_mk, setR_same, setR_setR, rZ_0, rZ_1, rZ_b2, it_b2, it_nb2, it_b21, it_nb21, I_lt, I_le, I_eq, I_div, castI, if_true, if_false, Classical.not_not, I_tc, Bool.and_eq_true, Bool.not_eq_true', decide_eq_false_iff_not, decide_eq_true_eq]
    omega
  simp only [cpL, k, if_true]
  congr 1
  have : up1 (mk R w rf).2.1 b (va_cpy ((mk R w rf).2.1 a) ((mk R w rf).2.1 b) (I 0).toNatClampNeg (I 0).toNatClampNeg (I n).toNatClampNeg) = up1 w b (fun j => if j < n.toNat then w a j else w b j) := by
    rw [I_tc (by omega) (by omega), I_tc (by omega) (by omega)]
    funext q j
    simp only [up1]
    by_cases hq : q = b
    · simp only [hq, if_true, va_cpy, mk_2]
      by_cases hj : j < n.toNat
      · rw [if_pos hj, if_pos (by omega)]
        congr 1
        omega
      · rw [if_neg hj, if_neg (by omega)]
    · simp only [hq, if_false, mk_2]
  rw [this]
  rfl
theorem isLife_far {l l' : Nat} (h : isLife l) (h' : isLife l') (hne : l ≠ l') : l + 8 ≤ l' ∨ l' + 8 ≤ l := by
  unfold isLife at h h'
  omega
def cpLife (l l' : Nat) (Q : Nat → Int → Int) : Nat → Int → Int := setR (setR (setR (setR (setR (setR (setR (setR Q l (updf (updf (updf (Q l) 1 (Q l' 1)) 2 (Q l' 2)) 3 (Q l' 3))) (l + 1) (cpf (Q (l + 1)) (Q (l' + 1)) 0 0 8)) (l + 2) (cpf (Q (l + 2)) (Q (l' + 2)) 0 0 8)) (l + 3) (cpf (Q (l + 3)) (Q (l' + 3)) 0 0 4)) (l + 4) (cpf (Q (l + 4)) (Q (l' + 4)) 0 0 4)) (l + 5) (cpf (Q (l + 5)) (Q (l' + 5)) 0 0 4)) (l + 6) (cpf (Q (l + 6)) (Q (l' + 6)) 0 0 4)) (l + 7) (cpf (Q (l + 7)) (Q (l' + 7)) 0 0 4)
theorem C_copyLife {S : Nat → Nat × Nat} {Q : Nat → Int → Int} {w : Nat → Nat → Int64} {rf : Nat → Nat → Option Nat} {l l' : Nat} (hS : SCok S) (hr : RCok rf) (hl : isLife l) (hl' : isLife l') (hne : l ≠ l') : fX3_copyFrom S (mk Q w rf) l l' = some (mk (cpLife l l' Q) w rf) := by
  have hf := isLife_far hl hl' hne
  obtain ⟨s1, s2, s3, s4, s5, s6, s7⟩ := hS.2.1 l hl
  obtain ⟨t1, t2, t3, t4, t5, t6, t7⟩ := hS.2.1 l' hl'
  simp (disch := first | assumption | omega) only [fX3_copyFrom, I_lit, orb_I, I_add, I_sub, I_mul, I_neg, nm_eq, bd0_s, bd2_s, un2_eq, un3_eq, un4_eq, un5_eq, un6_eq, cs2_l, cs2_r, mk_1, mk_2, wI_mk, wL_mk, wR_mk, setR_same, setR_setR, rZ_0, rZ_1, rZ_b2, it_b2, it_nb2, it_b21, it_nb21, I_lt, I_le, I_eq, I_div, castI, if_true, if_false, Classical.not_not, setR_ne, updf_ne, gL4, gL5, gL6, gL7, gL8, gL9, gL10]
  rw [cpI_mk t1 s1 (by omega) (by omega) (by omega)]
  simp (disch := first | assumption | omega) only [I_lit, orb_I, I_add, I_sub, I_mul, I_neg, nm_eq, bd0_s, bd2_s, un2_eq, un3_eq, un4_eq, un5_eq, un6_eq, cs2_l, cs2_r, mk_1, mk_2, wI_mk, wL_mk, wR_mk, setR_same, setR_setR, rZ_0, rZ_1, rZ_b2, it_b2, it_nb2, it_b21, it_nb21, I_lt, I_le, I_eq, I_div, castI, if_true, if_false, Classical.not_not, setR_ne, updf_ne, gL4, gL5, gL6, gL7, gL8, gL9, gL10]
  rw [cpI_mk t2 s2 (by omega) (by omega) (by omega)]
  simp (disch := first | assumption | omega) only [I_lit, orb_I, I_add, I_sub, I_mul, I_neg, nm_eq, bd0_s, bd2_s, un2_eq, un3_eq, un4_eq, un5_eq, un6_eq, cs2_l, cs2_r, mk_1, mk_2, wI_mk, wL_mk, wR_mk, setR_same, setR_setR, rZ_0, rZ_1, rZ_b2, it_b2, it_nb2, it_b21, it_nb21, I_lt, I_le, I_eq, I_div, castI, if_true, if_false, Classical.not_not, setR_ne, updf_ne, gL4, gL5, gL6, gL7, gL8, gL9, gL10]
  rw [cpI_mk t3 s3 (by omega) (by omega) (by omega)]
  simp (disch := first | assumption | omega) only [I_lit, orb_I, I_add, I_sub, I_mul, I_neg, nm_eq, bd0_s, bd2_s, un2_eq, un3_eq, un4_eq, un5_eq, un6_eq, cs2_l, cs2_r, mk_1, mk_2, wI_mk, wL_mk, wR_mk, setR_same, setR_setR, rZ_0, rZ_1, rZ_b2, it_b2, it_nb2, it_b21, it_nb21, I_lt, I_le, I_eq, I_div, castI, if_true, if_false, Classical.not_not, setR_ne, updf_ne, gL4, gL5, gL6, gL7, gL8, gL9, gL10]
  rw [cpI_mk t4 s4 (by omega) (by omega) (by omega)]
  simp (disch := first | assumption | omega) only [I_lit, orb_I, I_add, I_sub, I_mul, I_neg, nm_eq, bd0_s, bd2_s, un2_eq, un3_eq, un4_eq, un5_eq, un6_eq, cs2_l, cs2_r, mk_1, mk_2, wI_mk, wL_mk, wR_mk, setR_same, setR_setR, rZ_0, rZ_1, rZ_b2, it_b2, it_nb2, it_b21, it_nb21, I_lt, I_le, I_eq, I_div, castI, if_true, if_false, Classical.not_not, setR_ne, updf_ne, gL4, gL5, gL6, gL7, gL8, gL9, gL10]
  rw [cpI_mk t5 s5 (by omega) (by omega) (by omega)]
  simp (disch := first | assumption | omega) only [I_lit, orb_I, I_add, I_sub, I_mul, I_neg, nm_eq, bd0_s, bd2_s, un2_eq, un3_eq, un4_eq, un5_eq, un6_eq, cs2_l, cs2_r, mk_1, mk_2, wI_mk, wL_mk, wR_mk, setR_same, setR_setR, rZ_0, rZ_1, rZ_b2, it_b2, it_nb2, it_b21, it_nb21, I_lt, I_le, I_eq, I_div, castI, if_true, if_false, Classical.not_not, setR_ne, updf_ne, gL4, gL5, gL6, gL7, gL8, gL9, gL10]
  rw [cpI_mk t6 s6 (by omega) (by omega) (by omega)]
  simp (disch := first | assumption | omega) only [I_lit, orb_I, I_add, I_sub, I_mul, I_neg, nm_eq, bd0_s, bd2_s, un2_eq, un3_eq, un4_eq, un5_eq, un6_eq, cs2_l, cs2_r, mk_1, mk_2, wI_mk, wL_mk, wR_mk, setR_same, setR_setR, rZ_0, rZ_1, rZ_b2, it_b2, it_nb2, it_b21, it_nb21, I_lt, I_le, I_eq, I_div, castI, if_true, if_false, Classical.not_not, setR_ne, updf_ne, gL4, gL5, gL6, gL7, gL8, gL9, gL10]
  rw [cpI_mk t7 s7 (by omega) (by omega) (by omega)]
  simp (disch := first | assumption | omega) only [I_lit, orb_I, I_add, I_sub, I_mul, I_neg, nm_eq, bd0_s, bd2_s, un2_eq, un3_eq, un4_eq, un5_eq, un6_eq, cs2_l, cs2_r, mk_1, mk_2, wI_mk, wL_mk, wR_mk, setR_same, setR_setR, rZ_0, rZ_1, rZ_b2, it_b2, it_nb2, it_b21, it_nb21, I_lt, I_le, I_eq, I_div, castI, if_true, if_false, Classical.not_not, setR_ne, updf_ne]
  rfl
theorem FrL_cp {l l' : Nat} {Q : Nat → Int → Int} : FrL l Q (cpLife l l' Q) := by
  unfold cpLife
  exact FrL_set (FrL_set (FrL_set (FrL_set (FrL_set (FrL_set (FrL_set (FrL_set (FrL_refl l Q) (by omega)) (by omega)) (by omega)) (by omega)) (by omega)) (by omega)) (by omega)) (by omega)
theorem CL_cp {l l' : Nat} {Q : Nat → Int → Int} {N : Int → Int} (wn0 : N 0 ≤ 8) (wn1 : N 1 ≤ 4) (cl : CL l' Q N) : CL l (cpLife l l' Q) N := by
  obtain ⟨⟨c102, c104, c103⟩, clp, clg⟩ := cl
  have r0 : cpLife l l' Q l = updf (updf (updf (Q l) 1 (Q l' 1)) 2 (Q l' 2)) 3 (Q l' 3) := by
    simp (disch := omega) only [cpLife, setR_ne, setR_same]
  have r1 : cpLife l l' Q (l + 1) = cpf (Q (l + 1)) (Q (l' + 1)) 0 0 8 := by
    simp (disch := omega) only [cpLife, setR_ne, setR_same]
  have r2 : cpLife l l' Q (l + 2) = cpf (Q (l + 2)) (Q (l' + 2)) 0 0 8 := by
    simp (disch := omega) only [cpLife, setR_ne, setR_same]
  have r3 : cpLife l l' Q (l + 3) = cpf (Q (l + 3)) (Q (l' + 3)) 0 0 4 := by
    simp (disch := omega) only [cpLife, setR_ne, setR_same]
  have r4 : cpLife l l' Q (l + 4) = cpf (Q (l + 4)) (Q (l' + 4)) 0 0 4 := by
    simp (disch := omega) only [cpLife, setR_ne, setR_same]
  have r5 : cpLife l l' Q (l + 5) = cpf (Q (l + 5)) (Q (l' + 5)) 0 0 4 := by
    simp (disch := omega) only [cpLife, setR_ne, setR_same]
  have r6 : cpLife l l' Q (l + 6) = cpf (Q (l + 6)) (Q (l' + 6)) 0 0 4 := by
    simp (disch := omega) only [cpLife, setR_ne, setR_same]
  have r7 : cpLife l l' Q (l + 7) = cpf (Q (l + 7)) (Q (l' + 7)) 0 0 4 := by
    simp (disch := omega) only [cpLife, setR_ne, setR_same]
  refine ⟨⟨?_, ?_, ?_⟩, fun p h1 h2 => ?_, fun g h1 h2 => ?_⟩
  · rw [r0, updf_ne (by omega), updf_ne (by omega), updf_same rfl]; exact c102
  · rw [r0, updf_ne (by omega), updf_same rfl]; exact c104
  · rw [r0, updf_same rfl]; exact c103
  · rw [r1, r2, cpf_in (k := p) (by omega) (by omega), cpf_in (k := p) (by omega) (by omega)]; exact clp p h1 h2
  · rw [r3, r4, r5, r6, r7, cpf_in (k := g) (by omega) (by omega), cpf_in (k := g) (by omega) (by omega), cpf_in (k := g) (by omega) (by omega), cpf_in (k := g) (by omega) (by omega), cpf_in (k := g) (by omega) (by omega)]; exact clg g h1 h2
noncomputable def asideA (R : Nat → Int → Int) : Int → Int := cpf (R 70) (R 66) 0 102 39
theorem M_layAside {S : Nat → Nat × Nat} {R : Nat → Int → Int} {w : Nat → Nat → Int64} {rf : Nat → Nat → Option Nat} (hS : SMok S) (hr : RMok rf) : fX13_layAside S (mk R w rf) 64 = some (mk (setR R 70 (cpf (R 70) (R 66) 0 102 39)) w rf) := by
  have l1 := loop_seq (f := fX13_layAside_L2 S 64) (m := 1000) (fun k => (I k, mk (setR R 70 (cpf (R 70) (R 66) 0 102 k)) w rf)) 39 (r := mk (setR R 70 (cpf (R 70) (R 66) 0 102 39)) w rf) (by omega) (by
    intro k hk
    have h5 : ¬ ((39 : Int) ≤ (k : Int)) := by omega
    simp (disch := first | assumption | omega) only [fX13_layAside_L2, I_lit, orb_I, I_add, I_sub, I_mul, I_neg, nm_eq, bd0_s, bd2_s, un2_eq, un3_eq, un4_eq, un5_eq, un6_eq, cs2_l, cs2_r, mk_1, mk_2, wI_mk, wL_mk, wR_mk, setR_same, setR_setR, rZ_0, rZ_1, rZ_b2, it_b2, it_nb2, it_b21, it_nb21, I_lt, I_le, I_eq, I_div, castI, if_true, if_false, Classical.not_not, gM14, gM18, ldM66, stM70, setR_ne, h5]
    rw [cpf_succ (by omega) (by omega) rfl]
    rfl) (by
    simp (disch := first | assumption | omega) only [fX13_layAside_L2, I_lit, orb_I, I_add, I_sub, I_mul, I_neg, nm_eq, bd0_s, bd2_s, un2_eq, un3_eq, un4_eq, un5_eq, un6_eq, cs2_l, cs2_r, mk_1, mk_2, wI_mk, wL_mk, wR_mk, setR_same, setR_setR, rZ_0, rZ_1, rZ_b2, it_b2, it_nb2, it_b21, it_nb21, I_lt, I_le, I_eq, I_div, castI, if_true, if_false, Classical.not_not]
    rfl)
  have e0 : ((I ((0 : Nat) : Int)), mk (setR R 70 (cpf (R 70) (R 66) 0 102 ((0 : Nat) : Int))) w rf) = ((0 : Int32), mk R w rf) := by
    rw [show ((0 : Nat) : Int) = 0 from rfl, cpf_0, setR_id]; rfl
  simp only [e0] at l1
  simp only [fX13_layAside, l1]
  rfl
theorem M_takeBack {S : Nat → Nat × Nat} {R : Nat → Int → Int} {w : Nat → Nat → Int64} {rf : Nat → Nat → Option Nat} (hS : SMok S) (hr : RMok rf) : fX13_takeBack S (mk R w rf) 64 = some (mk (setR R 66 (cpf (R 66) (R 70) 102 0 39)) w rf) := by
  have l1 := loop_seq (f := fX13_takeBack_L2 S 64) (m := 1000) (fun k => (I k, mk (setR R 66 (cpf (R 66) (R 70) 102 0 k)) w rf)) 39 (r := mk (setR R 66 (cpf (R 66) (R 70) 102 0 39)) w rf) (by omega) (by
    intro k hk
    have h5 : ¬ ((39 : Int) ≤ (k : Int)) := by omega
    simp (disch := first | assumption | omega) only [fX13_takeBack_L2, I_lit, orb_I, I_add, I_sub, I_mul, I_neg, nm_eq, bd0_s, bd2_s, un2_eq, un3_eq, un4_eq, un5_eq, un6_eq, cs2_l, cs2_r, mk_1, mk_2, wI_mk, wL_mk, wR_mk, setR_same, setR_setR, rZ_0, rZ_1, rZ_b2, it_b2, it_nb2, it_b21, it_nb21, I_lt, I_le, I_eq, I_div, castI, if_true, if_false, Classical.not_not, gM14, gM18, ldM70, stM66, setR_ne, h5]
    rw [cpf_succ (by omega) (by omega) (by rw [Int.zero_add])]
    rfl) (by
    simp (disch := first | assumption | omega) only [fX13_takeBack_L2, I_lit, orb_I, I_add, I_sub, I_mul, I_neg, nm_eq, bd0_s, bd2_s, un2_eq, un3_eq, un4_eq, un5_eq, un6_eq, cs2_l, cs2_r, mk_1, mk_2, wI_mk, wL_mk, wR_mk, setR_same, setR_setR, rZ_0, rZ_1, rZ_b2, it_b2, it_nb2, it_b21, it_nb21, I_lt, I_le, I_eq, I_div, castI, if_true, if_false, Classical.not_not]
    rfl)
  have e0 : ((I ((0 : Nat) : Int)), mk (setR R 66 (cpf (R 66) (R 70) 102 0 ((0 : Nat) : Int))) w rf) = ((0 : Int32), mk R w rf) := by
    rw [show ((0 : Nat) : Int) = 0 from rfl, cpf_0, setR_id]; rfl
  simp only [e0] at l1
  simp only [fX13_takeBack, l1]
  rfl
