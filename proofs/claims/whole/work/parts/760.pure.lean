theorem gC104_0 {α : Type} {Q : Nat → Int → Int} {w : Nat → Nat → Int64} {rf : Nat → Nat → Option Nat} {F : Nat → Option α} (hr : RCok rf) : gR (mk Q w rf) 104 0 F = F 67 := gL0 hr isLife104
theorem gC104_4 {α : Type} {Q : Nat → Int → Int} {w : Nat → Nat → Int64} {rf : Nat → Nat → Option Nat} {F : Nat → Option α} (hr : RCok rf) : gR (mk Q w rf) 104 4 F = F 105 := gL4 hr isLife104
theorem stD105 {α : Type} {S : Nat → Nat × Nat} {Q : Nat → Int → Int} {w : Nat → Nat → Int64} {rf : Nat → Nat → Option Nat} {F : mm → Option α} {z y : Int} (hS : SCok S) (h : 0 ≤ z ∧ z < 8) : stI S (mk Q w rf) 105 (I z) (I y) F = F (mk (setR Q 105 (updf (Q 105) z y)) w rf) := stL1 hS isLife104 h
theorem ldD105 {α : Type} {S : Nat → Nat × Nat} {Q : Nat → Int → Int} {w : Nat → Nat → Int64} {rf : Nat → Nat → Option Nat} {F : Int32 → Option α} {z : Int} (hS : SCok S) (h : 0 ≤ z ∧ z < 8) : ldI S (mk Q w rf) 105 (I z) F = F (I (Q 105 z)) := ldL1 hS isLife104 h
theorem gC104_5 {α : Type} {Q : Nat → Int → Int} {w : Nat → Nat → Int64} {rf : Nat → Nat → Option Nat} {F : Nat → Option α} (hr : RCok rf) : gR (mk Q w rf) 104 5 F = F 106 := gL5 hr isLife104
theorem stD106 {α : Type} {S : Nat → Nat × Nat} {Q : Nat → Int → Int} {w : Nat → Nat → Int64} {rf : Nat → Nat → Option Nat} {F : mm → Option α} {z y : Int} (hS : SCok S) (h : 0 ≤ z ∧ z < 8) : stI S (mk Q w rf) 106 (I z) (I y) F = F (mk (setR Q 106 (updf (Q 106) z y)) w rf) := stL2 hS isLife104 h
theorem ldD106 {α : Type} {S : Nat → Nat × Nat} {Q : Nat → Int → Int} {w : Nat → Nat → Int64} {rf : Nat → Nat → Option Nat} {F : Int32 → Option α} {z : Int} (hS : SCok S) (h : 0 ≤ z ∧ z < 8) : ldI S (mk Q w rf) 106 (I z) F = F (I (Q 106 z)) := ldL2 hS isLife104 h
theorem gC104_6 {α : Type} {Q : Nat → Int → Int} {w : Nat → Nat → Int64} {rf : Nat → Nat → Option Nat} {F : Nat → Option α} (hr : RCok rf) : gR (mk Q w rf) 104 6 F = F 107 := gL6 hr isLife104
theorem stD107 {α : Type} {S : Nat → Nat × Nat} {Q : Nat → Int → Int} {w : Nat → Nat → Int64} {rf : Nat → Nat → Option Nat} {F : mm → Option α} {z y : Int} (hS : SCok S) (h : 0 ≤ z ∧ z < 4) : stI S (mk Q w rf) 107 (I z) (I y) F = F (mk (setR Q 107 (updf (Q 107) z y)) w rf) := stL3 hS isLife104 h
theorem ldD107 {α : Type} {S : Nat → Nat × Nat} {Q : Nat → Int → Int} {w : Nat → Nat → Int64} {rf : Nat → Nat → Option Nat} {F : Int32 → Option α} {z : Int} (hS : SCok S) (h : 0 ≤ z ∧ z < 4) : ldI S (mk Q w rf) 107 (I z) F = F (I (Q 107 z)) := ldL3 hS isLife104 h
theorem gC104_7 {α : Type} {Q : Nat → Int → Int} {w : Nat → Nat → Int64} {rf : Nat → Nat → Option Nat} {F : Nat → Option α} (hr : RCok rf) : gR (mk Q w rf) 104 7 F = F 108 := gL7 hr isLife104
theorem stD108 {α : Type} {S : Nat → Nat × Nat} {Q : Nat → Int → Int} {w : Nat → Nat → Int64} {rf : Nat → Nat → Option Nat} {F : mm → Option α} {z y : Int} (hS : SCok S) (h : 0 ≤ z ∧ z < 4) : stI S (mk Q w rf) 108 (I z) (I y) F = F (mk (setR Q 108 (updf (Q 108) z y)) w rf) := stL4 hS isLife104 h
theorem ldD108 {α : Type} {S : Nat → Nat × Nat} {Q : Nat → Int → Int} {w : Nat → Nat → Int64} {rf : Nat → Nat → Option Nat} {F : Int32 → Option α} {z : Int} (hS : SCok S) (h : 0 ≤ z ∧ z < 4) : ldI S (mk Q w rf) 108 (I z) F = F (I (Q 108 z)) := ldL4 hS isLife104 h
theorem gC104_8 {α : Type} {Q : Nat → Int → Int} {w : Nat → Nat → Int64} {rf : Nat → Nat → Option Nat} {F : Nat → Option α} (hr : RCok rf) : gR (mk Q w rf) 104 8 F = F 109 := gL8 hr isLife104
theorem stD109 {α : Type} {S : Nat → Nat × Nat} {Q : Nat → Int → Int} {w : Nat → Nat → Int64} {rf : Nat → Nat → Option Nat} {F : mm → Option α} {z y : Int} (hS : SCok S) (h : 0 ≤ z ∧ z < 4) : stI S (mk Q w rf) 109 (I z) (I y) F = F (mk (setR Q 109 (updf (Q 109) z y)) w rf) := stL5 hS isLife104 h
theorem ldD109 {α : Type} {S : Nat → Nat × Nat} {Q : Nat → Int → Int} {w : Nat → Nat → Int64} {rf : Nat → Nat → Option Nat} {F : Int32 → Option α} {z : Int} (hS : SCok S) (h : 0 ≤ z ∧ z < 4) : ldI S (mk Q w rf) 109 (I z) F = F (I (Q 109 z)) := ldL5 hS isLife104 h
theorem gC104_9 {α : Type} {Q : Nat → Int → Int} {w : Nat → Nat → Int64} {rf : Nat → Nat → Option Nat} {F : Nat → Option α} (hr : RCok rf) : gR (mk Q w rf) 104 9 F = F 110 := gL9 hr isLife104
theorem stD110 {α : Type} {S : Nat → Nat × Nat} {Q : Nat → Int → Int} {w : Nat → Nat → Int64} {rf : Nat → Nat → Option Nat} {F : mm → Option α} {z y : Int} (hS : SCok S) (h : 0 ≤ z ∧ z < 4) : stI S (mk Q w rf) 110 (I z) (I y) F = F (mk (setR Q 110 (updf (Q 110) z y)) w rf) := stL6 hS isLife104 h
theorem ldD110 {α : Type} {S : Nat → Nat × Nat} {Q : Nat → Int → Int} {w : Nat → Nat → Int64} {rf : Nat → Nat → Option Nat} {F : Int32 → Option α} {z : Int} (hS : SCok S) (h : 0 ≤ z ∧ z < 4) : ldI S (mk Q w rf) 110 (I z) F = F (I (Q 110 z)) := ldL6 hS isLife104 h
theorem gC104_10 {α : Type} {Q : Nat → Int → Int} {w : Nat → Nat → Int64} {rf : Nat → Nat → Option Nat} {F : Nat → Option α} (hr : RCok rf) : gR (mk Q w rf) 104 10 F = F 111 := gL10 hr isLife104
theorem stD111 {α : Type} {S : Nat → Nat × Nat} {Q : Nat → Int → Int} {w : Nat → Nat → Int64} {rf : Nat → Nat → Option Nat} {F : mm → Option α} {z y : Int} (hS : SCok S) (h : 0 ≤ z ∧ z < 4) : stI S (mk Q w rf) 111 (I z) (I y) F = F (mk (setR Q 111 (updf (Q 111) z y)) w rf) := stL7 hS isLife104 h
theorem ldD111 {α : Type} {S : Nat → Nat × Nat} {Q : Nat → Int → Int} {w : Nat → Nat → Int64} {rf : Nat → Nat → Option Nat} {F : Int32 → Option α} {z : Int} (hS : SCok S) (h : 0 ≤ z ∧ z < 4) : ldI S (mk Q w rf) 111 (I z) F = F (I (Q 111 z)) := ldL7 hS isLife104 h
theorem ldD71 {α : Type} {S : Nat → Nat × Nat} {Q : Nat → Int → Int} {w : Nat → Nat → Int64} {rf : Nat → Nat → Option Nat} {F : Int32 → Option α} {z : Int} (hS : SCok S) (h : 0 ≤ z ∧ z < 8) : ldI S (mk Q w rf) 71 (I z) F = F (I (Q 71 z)) := ldP4 hS isPar67 h
theorem ldD77 {α : Type} {S : Nat → Nat × Nat} {Q : Nat → Int → Int} {w : Nat → Nat → Int64} {rf : Nat → Nat → Option Nat} {F : Int32 → Option α} {z : Int} (hS : SCok S) (h : 0 ≤ z ∧ z < 4) : ldI S (mk Q w rf) 77 (I z) F = F (I (Q 77 z)) := ldP10 hS isPar67 h
theorem ldD78 {α : Type} {S : Nat → Nat × Nat} {Q : Nat → Int → Int} {w : Nat → Nat → Int64} {rf : Nat → Nat → Option Nat} {F : Int32 → Option α} {z : Int} (hS : SCok S) (h : 0 ≤ z ∧ z < 4) : ldI S (mk Q w rf) 78 (I z) F = F (I (Q 78 z)) := ldP11 hS isPar67 h
def stB1 (N : Int → Int) : Int → Int := cpf N (fun _ => 0) 102 0 281
def stB2 (N : Int → Int) : Int → Int := cpf (stB1 N) (stB1 N) 105 24 8
def stBk (N : Int → Int) (k : Int) : Int → Int := cpf (cpf (stB2 N) (stB2 N) 121 68 k) (stB2 N) 125 64 k
def stA (N : Int → Int) : Int → Int := stBk N 4
theorem upd_cpf {A B : Int → Int} {d s n z x : Int} (h : ¬ (d ≤ z ∧ z < d + n)) : updf (cpf A B d s n) z x = cpf (updf A z x) B d s n := by
  funext j
  by_cases hj : j = z
  · rw [updf_same hj, hj, cpf_out h, updf_same rfl]
  · rw [updf_ne hj]
    by_cases h2 : d ≤ j ∧ j < d + n
    · rw [cpf_in h2 rfl, cpf_in h2 rfl]
    · rw [cpf_out h2, cpf_out h2, updf_ne hj]
theorem stB1_lo {N : Int → Int} {j : Int} (h : j < 102) : stB1 N j = N j := cpf_out (by omega)
theorem stB1_hi {N : Int → Int} {j : Int} (h : 102 ≤ j ∧ j < 383) : stB1 N j = 0 := by
  unfold stB1
  rw [cpf_in (k := 0 + (j - 102)) (by omega) rfl]
theorem stB2_lo {N : Int → Int} {j : Int} (h : j < 102) : stB2 N j = N j := by
  unfold stB2
  rw [cpf_out (by omega), stB1_lo h]
theorem stA_lo {N : Int → Int} {j : Int} (h : j < 102) : stA N j = N j := by
  unfold stA stBk
  rw [cpf_out (by omega), cpf_out (by omega), stB2_lo h]
theorem stA_105 {N : Int → Int} {p : Int} (h : 0 ≤ p ∧ p < 8) : stA N (105 + p) = N (24 + p) := by
  unfold stA stBk
  rw [cpf_out (by omega), cpf_out (by omega)]
  unfold stB2
  rw [cpf_in (k := 24 + p) (by omega) (by omega), stB1_lo (by omega)]
theorem stA_121 {N : Int → Int} {p : Int} (h : 0 ≤ p ∧ p < 4) : stA N (121 + p) = N (68 + p) := by
  unfold stA stBk
  rw [cpf_out (by omega), cpf_in (k := 68 + p) (by omega) (by omega), stB2_lo (by omega)]
theorem stA_125 {N : Int → Int} {p : Int} (h : 0 ≤ p ∧ p < 4) : stA N (125 + p) = N (64 + p) := by
  unfold stA stBk
  rw [cpf_in (k := 64 + p) (by omega) (by omega), stB2_lo (by omega)]
theorem stA_z {N : Int → Int} {j : Int} (h : 102 ≤ j ∧ j < 383) (h1 : ¬ (105 ≤ j ∧ j < 113)) (h2 : ¬ (121 ≤ j ∧ j < 129)) : stA N j = 0 := by
  unfold stA stBk
  rw [cpf_out (by omega), cpf_out (by omega)]
  unfold stB2
  rw [cpf_out (by omega), stB1_hi h]
theorem M_startSo {S : Nat → Nat × Nat} {R : Nat → Int → Int} {w : Nat → Nat → Int64} {rf : Nat → Nat → Option Nat} (hS : SMok S) (hr : RMok rf) : fX13_startSo S (mk R w rf) 64 = some (mk (setR R 66 (stA (R 66))) w rf) := by
  have l1 := loop_seq (f := fX13_startSo_L3 S 64) (m := 1000) (fun k => (I (102 + k), mk (setR R 66 (cpf (R 66) (fun _ => 0) 102 0 k)) w rf)) 281 (r := mk (setR R 66 (stB1 (R 66))) w rf) (by omega) (by
    intro k hk
    have h5 : ¬ ((383 : Int) ≤ 102 + (k : Int)) := by omega
    simp (disch := first | assumption | omega) only [fX13_startSo_L3, I_lit, orb_I, I_add, I_sub, I_mul, I_neg, nm_eq, bd0_s, bd2_s, un2_eq, un3_eq, un4_eq, un5_eq, un6_eq, cs2_l, cs2_r, mk_1, mk_2, wI_mk, wL_mk, wR_mk, setR_same, setR_setR, rZ_0, rZ_1, rZ_b2, it_b2, it_nb2, it_b21, it_nb21, I_lt, I_le, I_eq, I_div, castI, if_true, if_false, Classical.not_not, gM14, stM66, h5]
    rw [cpf_succ (by omega) (by omega) rfl, Int.add_assoc]
    rfl) (by
    simp (disch := first | assumption | omega) only [fX13_startSo_L3, I_lit, orb_I, I_add, I_sub, I_mul, I_neg, nm_eq, bd0_s, bd2_s, un2_eq, un3_eq, un4_eq, un5_eq, un6_eq, cs2_l, cs2_r, mk_1, mk_2, wI_mk, wL_mk, wR_mk, setR_same, setR_setR, rZ_0, rZ_1, rZ_b2, it_b2, it_nb2, it_b21, it_nb21, I_lt, I_le, I_eq, I_div, castI, if_true, if_false, Classical.not_not]
    rfl)
  have e0 : (I (102 + ((0 : Nat) : Int)), mk (setR R 66 (cpf (R 66) (fun _ => 0) 102 0 ((0 : Nat) : Int))) w rf) = ((102 : Int32), mk R w rf) := by
    rw [show ((0 : Nat) : Int) = 0 from rfl, cpf_0, setR_id]
    rfl
  simp only [e0] at l1
  have l2 := loop_seq (f := fX13_startSo_L25 S 64) (m := 1000) (fun k => (I k, mk (setR R 66 (cpf (stB1 (R 66)) (stB1 (R 66)) 105 24 k)) w rf)) 8 (r := mk (setR R 66 (stB2 (R 66))) w rf) (by omega) (by
    intro k hk
    have h5 : ¬ ((8 : Int) ≤ (k : Int)) := by omega
    simp (disch := first | assumption | omega) only [fX13_startSo_L25, I_lit, orb_I, I_add, I_sub, I_mul, I_neg, nm_eq, bd0_s, bd2_s, un2_eq, un3_eq, un4_eq, un5_eq, un6_eq, cs2_l, cs2_r, mk_1, mk_2, wI_mk, wL_mk, wR_mk, setR_same, setR_setR, rZ_0, rZ_1, rZ_b2, it_b2, it_nb2, it_b21, it_nb21, I_lt, I_le, I_eq, I_div, castI, if_true, if_false, Classical.not_not, gM14, ldM66, stM66, h5]
    rw [cpf_out (j := 24 + (k : Int)) (by omega), cpf_succ (by omega) (by omega) rfl]
    rfl) (by
    simp (disch := first | assumption | omega) only [fX13_startSo_L25, I_lit, orb_I, I_add, I_sub, I_mul, I_neg, nm_eq, bd0_s, bd2_s, un2_eq, un3_eq, un4_eq, un5_eq, un6_eq, cs2_l, cs2_r, mk_1, mk_2, wI_mk, wL_mk, wR_mk, setR_same, setR_setR, rZ_0, rZ_1, rZ_b2, it_b2, it_nb2, it_b21, it_nb21, I_lt, I_le, I_eq, I_div, castI, if_true, if_false, Classical.not_not]
    rfl)
  have e1 : (I ((0 : Nat) : Int), mk (setR R 66 (cpf (stB1 (R 66)) (stB1 (R 66)) 105 24 ((0 : Nat) : Int))) w rf) = ((0 : Int32), mk (setR R 66 (stB1 (R 66))) w rf) := by
    rw [show ((0 : Nat) : Int) = 0 from rfl, cpf_0]
    rfl
  simp only [e1] at l2
  have l3 := loop_seq (f := fX13_startSo_L57 S 64) (m := 1000) (fun k => (I k, mk (setR R 66 (stBk (R 66) k)) w rf)) 4 (r := mk (setR R 66 (stA (R 66))) w rf) (by omega) (by
    intro k hk
    have h5 : ¬ ((4 : Int) ≤ (k : Int)) := by omega
    simp (disch := first | assumption | omega) only [fX13_startSo_L57, I_lit, orb_I, I_add, I_sub, I_mul, I_neg, nm_eq, bd0_s, bd2_s, un2_eq, un3_eq, un4_eq, un5_eq, un6_eq, cs2_l, cs2_r, mk_1, mk_2, wI_mk, wL_mk, wR_mk, setR_same, setR_setR, rZ_0, rZ_1, rZ_b2, it_b2, it_nb2, it_b21, it_nb21, I_lt, I_le, I_eq, I_div, castI, if_true, if_false, Classical.not_not, gM14, ldM66, stM66, h5, updf_ne]
    have f1 : stBk (R 66) k (68 + k) = stB2 (R 66) (68 + k) := by
      unfold stBk
      rw [cpf_out (by omega), cpf_out (by omega)]
    have f2 : stBk (R 66) k (64 + k) = stB2 (R 66) (64 + k) := by
      unfold stBk
      rw [cpf_out (by omega), cpf_out (by omega)]
    have f3 : updf (updf (stBk (R 66) k) (121 + k) (stB2 (R 66) (68 + k))) (125 + k) (stB2 (R 66) (64 + k)) = stBk (R 66) (k + 1) := by
      unfold stBk
      rw [upd_cpf (z := 121 + (k : Int)) (by omega), cpf_succ (by omega) (by omega) rfl, cpf_succ (by omega) (by omega) rfl]
    rw [f1, f2, f3]
    rfl) (by
    simp (disch := first | assumption | omega) only [fX13_startSo_L57, I_lit, orb_I, I_add, I_sub, I_mul, I_neg, nm_eq, bd0_s, bd2_s, un2_eq, un3_eq, un4_eq, un5_eq, un6_eq, cs2_l, cs2_r, mk_1, mk_2, wI_mk, wL_mk, wR_mk, setR_same, setR_setR, rZ_0, rZ_1, rZ_b2, it_b2, it_nb2, it_b21, it_nb21, I_lt, I_le, I_eq, I_div, castI, if_true, if_false, Classical.not_not]
    rfl)
  have e2 : (I ((0 : Nat) : Int), mk (setR R 66 (stBk (R 66) ((0 : Nat) : Int))) w rf) = ((0 : Int32), mk (setR R 66 (stB2 (R 66))) w rf) := by
    unfold stBk
    rw [show ((0 : Nat) : Int) = 0 from rfl, cpf_0, cpf_0]
    rfl
  simp only [e2] at l3
  simp only [fX13_startSo, l1, bd0_s, l2, l3]
theorem WFP_st {N : Int → Int} (wf : WFP N) : WFP (stA N) := by
  refine WFP_ag wf ?_
  intro j hj
  exact stA_lo (by omega)
theorem LOK_st {N : Int → Int} (wf : WFP N) : LOK (stA N) := by
  obtain ⟨wn0, wn1, wn2, wn3, wn4, wn5, wn6, wn7, wfr, wto, wff, wwa, wco, wwd, wgl, wgr, wnk, wda, wdr, wgo, wg1, wg2, wwx⟩ := wf
  have n1 : stA N 1 = N 1 := stA_lo (by omega)
  refine ⟨⟨?_, ?_, ?_, ?_, ?_, ?_, ?_⟩, ?_⟩
  · rw [stA_z (by omega) (by omega) (by omega)]; omega
  · intro p h1 h2
    rw [stA_105 (by omega)]; exact wff p h1 h2
  · intro p h1 h2
    rw [stA_121 (by omega)]; exact wnk p h1 h2
  · intro p h1 h2
    rw [stA_125 (by omega)]; exact wgr p h1 h2
  · intro p h1 h2
    rw [stA_z (by omega) (by omega) (by omega)]; omega
  · intro p h1 h2
    rw [stA_z (by omega) (by omega) (by omega)]; omega
  · intro g h1 h2
    rw [n1] at h2
    rw [stA_121 (by omega), stA_125 (by omega), stA_lo (by omega)]
    have := wgl g h1 h2
    omega
  · intro g h1 h2
    rw [n1] at h2
    rw [stA_z (j := 133 + g) (by omega) (by omega) (by omega), stA_lo (j := 3) (by omega)]
    exact ⟨fun _ => by omega, fun _ => rfl⟩
theorem C_begin {S : Nat → Nat × Nat} {Q : Nat → Int → Int} {w : Nat → Nat → Int64} {rf : Nat → Nat → Option Nat} {N : Int → Int} (hS : SCok S) (hr : RCok rf) (wf : WFP N) (cp : CP 67 Q N) : ∃ Q', fX3_begin S (mk Q w rf) 104 = some (mk Q' w rf) ∧ CL 104 Q' (stA N) ∧ (∀ a, a < 104 ∨ 111 < a → Q' a = Q a) := by
  have wn0 := wf.1
  have wn1 := wf.2.1
  have il := isLife104
  have ip67 := isPar67; obtain ⟨⟨c0, c1, c2, c3, c4, c5, c6, c7⟩, cpp, cpg, cpd, cpk⟩ := CPl_of cp
  have n0 : stA N 0 = N 0 := stA_lo (by omega)
  have n1 : stA N 1 = N 1 := stA_lo (by omega)
  generalize hq0 : setR Q 104 (updf (updf (updf (Q 104) 1 0) 2 0) 3 0) = Q0
  have q0 : ∀ a, a ≠ 104 → Q0 a = Q a := fun a ha => by rw [← hq0, setR_ne ha]
  obtain ⟨τ, h1, Q1, rfl, a1, a2⟩ := loop_inv (f := fX3_begin_L17 S 104) (m := 1000) (s := ((0 : Int32), mk Q0 w rf)) (fun k s => ∃ Q', s = (I k, mk Q' w rf) ∧ (∀ p : Int, 0 ≤ p → p < k → Q' 105 p = N (24 + p) ∧ Q' 106 p = 0) ∧ (∀ a, a ≠ 105 → a ≠ 106 → Q' a = Q0 a)) (fun r => ∃ Q', r = mk Q' w rf ∧ (∀ p : Int, 0 ≤ p → p < N 0 → Q' 105 p = N (24 + p) ∧ Q' 106 p = 0) ∧ (∀ a, a ≠ 105 → a ≠ 106 → Q' a = Q0 a)) (N 0).toNat (by omega) ⟨Q0, rfl, fun p h1 h2 => by omega, fun a _ _ => rfl⟩ (by
    rintro k t hk ⟨Q', rfl, b1, b2'⟩
    have h5 : ¬ (N 0 ≤ (k : Int)) := by omega
    have e67 : Q' 67 6 = N 0 := by rw [b2' 67 (by omega) (by omega), q0 67 (by omega)]; exact c0
    have e71 : Q' 71 k = N (24 + k) := by rw [b2' 71 (by omega) (by omega), q0 71 (by omega)]; exact (cpp k (by omega) (by omega)).2.2.1
    refine Or.inl ⟨(I (k + 1 : Nat), mk (setR (setR Q' 105 (updf (Q' 105) k (N (24 + k)))) 106 (updf (Q' 106) k 0)) w rf), ?_, _, rfl, ?_, ?_⟩
    · simp (disch := first | assumption | omega) only [fX3_begin_L17, I_lit, orb_I, I_add, I_sub, I_mul, I_neg, nm_eq, bd0_s, bd2_s, un2_eq, un3_eq, un4_eq, un5_eq, un6_eq, cs2_l, cs2_r, mk_1, mk_2, wI_mk, wL_mk, wR_mk, setR_same, setR_setR, rZ_0, rZ_1, rZ_b2, it_b2, it_nb2, it_b21, it_nb21, I_lt, I_le, I_eq, I_div, castI, if_true, if_false, Classical.not_not, gC104_0, gC104_4, gC104_5, gD67_3, e67, h5, ldD71, stD105, stD106, e71, setR_ne]
      rfl
    · intro p h1 h2
      rw [setR_same, setR_ne (by omega), setR_same]
      by_cases hp : p = k
      · rw [updf_same hp, updf_same hp, hp]; exact ⟨rfl, rfl⟩
      · rw [updf_ne hp, updf_ne hp]; exact b1 p h1 (by omega)
    · intro a h1 h2
      rw [setR_ne h2, setR_ne h1, b2' a h1 h2]) (by
    rintro t ⟨Q', rfl, b1, b2'⟩
    have h5 : (N 0 ≤ ((N 0).toNat : Int)) := by omega
    have e67 : Q' 67 6 = N 0 := by rw [b2' 67 (by omega) (by omega), q0 67 (by omega)]; exact c0
    refine ⟨mk Q' w rf, ?_, Q', rfl, fun p h1 h2 => b1 p h1 (by omega), b2'⟩
    simp (disch := first | assumption | omega) only [fX3_begin_L17, I_lit, orb_I, I_add, I_sub, I_mul, I_neg, nm_eq, bd0_s, bd2_s, un2_eq, un3_eq, un4_eq, un5_eq, un6_eq, cs2_l, cs2_r, mk_1, mk_2, wI_mk, wL_mk, wR_mk, setR_same, setR_setR, rZ_0, rZ_1, rZ_b2, it_b2, it_nb2, it_b21, it_nb21, I_lt, I_le, I_eq, I_div, castI, if_true, if_false, Classical.not_not, gC104_0, e67, h5])
  obtain ⟨τ, h2, Q2, rfl, d1, d2⟩ := loop_inv (f := fX3_begin_L58 S 104) (m := 1000) (s := ((0 : Int32), mk Q1 w rf)) (fun k s => ∃ Q', s = (I k, mk Q' w rf) ∧ (∀ p : Int, 0 ≤ p → p < k → Q' 107 p = N (64 + p) ∧ Q' 108 p = 0 ∧ Q' 109 p = N (68 + p) ∧ Q' 110 p = 0 ∧ Q' 111 p = 0) ∧ (∀ a, a < 107 ∨ 111 < a → Q' a = Q1 a)) (fun r => ∃ Q', r = mk Q' w rf ∧ (∀ p : Int, 0 ≤ p → p < N 1 → Q' 107 p = N (64 + p) ∧ Q' 108 p = 0 ∧ Q' 109 p = N (68 + p) ∧ Q' 110 p = 0 ∧ Q' 111 p = 0) ∧ (∀ a, a < 107 ∨ 111 < a → Q' a = Q1 a)) (N 1).toNat (by omega) ⟨Q1, rfl, fun p h1 h2 => by omega, fun a _ => rfl⟩ (by
    rintro k t hk ⟨Q', rfl, b1, b2'⟩
    have h5 : ¬ (N 1 ≤ (k : Int)) := by omega
    have e67 : Q' 67 12 = N 1 := by rw [b2' 67 (by omega), a2 67 (by omega) (by omega), q0 67 (by omega)]; exact c1
    have e77 : Q' 77 k = N (64 + k) := by rw [b2' 77 (by omega), a2 77 (by omega) (by omega), q0 77 (by omega)]; exact (cpg k (by omega) (by omega)).2.2.1
    have e78 : Q' 78 k = N (68 + k) := by rw [b2' 78 (by omega), a2 78 (by omega) (by omega), q0 78 (by omega)]; exact (cpg k (by omega) (by omega)).2.2.2
    refine Or.inl ⟨(I (k + 1 : Nat), mk (setR (setR (setR (setR (setR Q' 107 (updf (Q' 107) k (N (64 + k)))) 108 (updf (Q' 108) k 0)) 109 (updf (Q' 109) k (N (68 + k)))) 110 (updf (Q' 110) k 0)) 111 (updf (Q' 111) k 0)) w rf), ?_, _, rfl, ?_, ?_⟩
    · simp (disch := first | assumption | omega) only [fX3_begin_L58, I_lit, orb_I, I_add, I_sub, I_mul, I_neg, nm_eq, bd0_s, bd2_s, un2_eq, un3_eq, un4_eq, un5_eq, un6_eq, cs2_l, cs2_r, mk_1, mk_2, wI_mk, wL_mk, wR_mk, setR_same, setR_setR, rZ_0, rZ_1, rZ_b2, it_b2, it_nb2, it_b21, it_nb21, I_lt, I_le, I_eq, I_div, castI, if_true, if_false, Classical.not_not, gC104_0, gC104_6, gC104_7, gC104_8, gC104_9, gC104_10, gD67_10, gD67_11, e67, h5, ldD77, ldD78, stD107, stD108, stD109, stD110, stD111, e77, e78, setR_ne]
      rfl
    · intro p h1 h2
      simp (disch := omega) only [setR_same, setR_ne]
      by_cases hp : p = k
      · rw [updf_same hp, updf_same hp, updf_same hp, updf_same hp, updf_same hp, hp]; exact ⟨rfl, rfl, rfl, rfl, rfl⟩
      · simp only [updf_ne hp]; exact b1 p h1 (by omega)
    · intro a ha
      simp (disch := omega) only [setR_ne]
      exact b2' a ha) (by
    rintro t ⟨Q', rfl, b1, b2'⟩
    have h5 : (N 1 ≤ ((N 1).toNat : Int)) := by omega
    have e67 : Q' 67 12 = N 1 := by rw [b2' 67 (by omega), a2 67 (by omega) (by omega), q0 67 (by omega)]; exact c1
    refine ⟨mk Q' w rf, ?_, Q', rfl, fun p h1 h2 => b1 p h1 (by omega), b2'⟩
    simp (disch := first | assumption | omega) only [fX3_begin_L58, I_lit, orb_I, I_add, I_sub, I_mul, I_neg, nm_eq, bd0_s, bd2_s, un2_eq, un3_eq, un4_eq, un5_eq, un6_eq, cs2_l, cs2_r, mk_1, mk_2, wI_mk, wL_mk, wR_mk, setR_same, setR_setR, rZ_0, rZ_1, rZ_b2, it_b2, it_nb2, it_b21, it_nb21, I_lt, I_le, I_eq, I_div, castI, if_true, if_false, Classical.not_not, gC104_0, e67, h5])
  refine ⟨Q2, ?_, ⟨⟨?_, ?_, ?_⟩, ?_, ?_⟩, ?_⟩
  · have e : fX3_begin S (mk Q w rf) 104 = bd0 (loopN (fX3_begin_L17 S 104) 1000 ((0 : Int32), mk Q0 w rf)) (fun τ5 => bd0 (loopN (fX3_begin_L58 S 104) 1000 ((0 : Int32), τ5)) (fun τ7 => some τ7)) := by
      rw [← hq0]
      simp (disch := first | assumption | omega) only [fX3_begin, I_lit, orb_I, I_add, I_sub, I_mul, I_neg, nm_eq, bd0_s, bd2_s, un2_eq, un3_eq, un4_eq, un5_eq, un6_eq, cs2_l, cs2_r, mk_1, mk_2, wI_mk, wL_mk, wR_mk, setR_same, setR_setR, rZ_0, rZ_1, rZ_b2, it_b2, it_nb2, it_b21, it_nb21, I_lt, I_le, I_eq, I_div, castI, if_true, if_false, Classical.not_not]
    rw [e, h1, bd0_s, h2, bd0_s]
  · rw [d2 104 (by omega), a2 104 (by omega) (by omega), ← hq0, setR_same, stA_z (by omega) (by omega) (by omega)]
    rfl
  · rw [d2 104 (by omega), a2 104 (by omega) (by omega), ← hq0, setR_same, stA_z (by omega) (by omega) (by omega)]
    rfl
  · rw [d2 104 (by omega), a2 104 (by omega) (by omega), ← hq0, setR_same, stA_z (by omega) (by omega) (by omega)]
    rfl
  · intro p g1 g2
    rw [n0] at g2
    rw [d2 _ (by omega), d2 _ (by omega), stA_105 (by omega), stA_z (by omega) (by omega) (by omega)]
    exact a1 p g1 g2
  · intro p g1 g2
    rw [n1] at g2
    rw [stA_125 (by omega), stA_121 (by omega), stA_z (j := 129 + p) (by omega) (by omega) (by omega), stA_z (j := 133 + p) (by omega) (by omega) (by omega), stA_z (j := 137 + p) (by omega) (by omega) (by omega)]
    exact d1 p g1 g2
  · intro a ha
    rw [d2 a (by omega), a2 a (by omega) (by omega), q0 a (by omega)]
