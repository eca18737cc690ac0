def srA (N : Int → Int) : Int → Int := updf (updf (cpf (cpf N (fun _ => 0) 0 0 102) (fun _ => -1) 48 0 8) 3 2) 4 50
theorem sr_z {N : Int → Int} {j : Int} (h : 0 ≤ j ∧ j < 102) (h3 : j ≠ 3) (h4 : j ≠ 4) (h5 : ¬ (48 ≤ j ∧ j < 56)) : srA N j = 0 := by
  unfold srA
  rw [updf_ne h4, updf_ne h3, cpf_out (by omega), cpf_in (k := 0 + (j - 0)) (by omega) rfl]
theorem sr_48 {N : Int → Int} {p : Int} (h : 0 ≤ p ∧ p < 8) : srA N (48 + p) = -1 := by
  unfold srA
  rw [updf_ne (by omega), updf_ne (by omega), cpf_in (k := 0 + (48 + p - 48)) (by omega) rfl]
theorem sr_3 {N : Int → Int} : srA N 3 = 2 := by
  unfold srA
  rw [updf_ne (by omega), updf_same rfl]
theorem sr_4 {N : Int → Int} : srA N 4 = 50 := by
  unfold srA
  rw [updf_same rfl]
theorem M_startRead {S : Nat → Nat × Nat} {R : Nat → Int → Int} {w : Nat → Nat → Int64} {rf : Nat → Nat → Option Nat} (hS : SMok S) (hr : RMok rf) : fX13_startRead S (mk R w rf) 64 = some (mk (setR R 67 (srA (R 67))) w rf) := by
  have l1 := loop_seq (f := fX13_startRead_L2 S 64) (m := 1000) (fun k => (I k, mk (setR R 67 (cpf (R 67) (fun _ => 0) 0 0 k)) w rf)) 102 (r := mk (setR R 67 (cpf (R 67) (fun _ => 0) 0 0 102)) w rf) (by omega) (by
    intro k hk
    have h5 : ¬ ((102 : Int) ≤ (k : Int)) := by omega
    simp (disch := first | assumption | omega) only [fX13_startRead_L2, I_lit, orb_I, I_add, I_sub, I_mul, I_neg, nm_eq, bd0_s, bd2_s, un2_eq, un3_eq, un4_eq, un5_eq, un6_eq, cs2_l, cs2_r, mk_1, mk_2, wI_mk, wL_mk, wR_mk, setR_same, setR_setR, rZ_0, rZ_1, rZ_b2, it_b2, it_nb2, it_b21, it_nb21, I_lt, I_le, I_eq, I_div, castI, if_true, if_false, Classical.not_not, gM15, stM67, h5]
    rw [cpf_succ (by omega) (by omega) rfl]
    rfl) (by
    simp (disch := first | assumption | omega) only [fX13_startRead_L2, I_lit, orb_I, I_add, I_sub, I_mul, I_neg, nm_eq, bd0_s, bd2_s, un2_eq, un3_eq, un4_eq, un5_eq, un6_eq, cs2_l, cs2_r, mk_1, mk_2, wI_mk, wL_mk, wR_mk, setR_same, setR_setR, rZ_0, rZ_1, rZ_b2, it_b2, it_nb2, it_b21, it_nb21, I_lt, I_le, I_eq, I_div, castI, if_true, if_false, Classical.not_not]
    rfl)
  have e0 : (I ((0 : Nat) : Int), mk (setR R 67 (cpf (R 67) (fun _ => 0) 0 0 ((0 : Nat) : Int))) w rf) = ((0 : Int32), mk R w rf) := by
    rw [show ((0 : Nat) : Int) = 0 from rfl, cpf_0, setR_id]
    rfl
  simp only [e0] at l1
  generalize hX : cpf (R 67) (fun _ => 0) 0 0 102 = X at l1
  have l2 := loop_seq (f := fX13_startRead_L23 S 64) (m := 1000) (fun k => (I k, mk (setR R 67 (cpf X (fun _ => -1) 48 0 k)) w rf)) 8 (r := mk (setR R 67 (cpf X (fun _ => -1) 48 0 8)) w rf) (by omega) (by
    intro k hk
    have h5 : ¬ ((8 : Int) ≤ (k : Int)) := by omega
    simp (disch := first | assumption | omega) only [fX13_startRead_L23, I_lit, orb_I, I_add, I_sub, I_mul, I_neg, nm_eq, bd0_s, bd2_s, un2_eq, un3_eq, un4_eq, un5_eq, un6_eq, cs2_l, cs2_r, mk_1, mk_2, wI_mk, wL_mk, wR_mk, setR_same, setR_setR, rZ_0, rZ_1, rZ_b2, it_b2, it_nb2, it_b21, it_nb21, I_lt, I_le, I_eq, I_div, castI, if_true, if_false, Classical.not_not, gM15, stM67, h5]
    rw [cpf_succ (by omega) (by omega) rfl]
    rfl) (by
    simp (disch := first | assumption | omega) only [fX13_startRead_L23, I_lit, orb_I, I_add, I_sub, I_mul, I_neg, nm_eq, bd0_s, bd2_s, un2_eq, un3_eq, un4_eq, un5_eq, un6_eq, cs2_l, cs2_r, mk_1, mk_2, wI_mk, wL_mk, wR_mk, setR_same, setR_setR, rZ_0, rZ_1, rZ_b2, it_b2, it_nb2, it_b21, it_nb21, I_lt, I_le, I_eq, I_div, castI, if_true, if_false, Classical.not_not]
    rfl)
  have e1 : (I ((0 : Nat) : Int), mk (setR R 67 (cpf X (fun _ => -1) 48 0 ((0 : Nat) : Int))) w rf) = ((0 : Int32), mk (setR R 67 X) w rf) := by
    rw [show ((0 : Nat) : Int) = 0 from rfl, cpf_0]
    rfl
  simp only [e1] at l2
  simp only [fX13_startRead, l1, bd0_s, l2]
  simp (disch := first | assumption | omega) only [I_lit, orb_I, I_add, I_sub, I_mul, I_neg, nm_eq, bd0_s, bd2_s, un2_eq, un3_eq, un4_eq, un5_eq, un6_eq, cs2_l, cs2_r, mk_1, mk_2, wI_mk, wL_mk, wR_mk, setR_same, setR_setR, rZ_0, rZ_1, rZ_b2, it_b2, it_nb2, it_b21, it_nb21, I_lt, I_le, I_eq, I_div, castI, if_true, if_false, Classical.not_not, gM15, stM67]
  unfold srA
  rw [hX]
theorem WFP_sr {N : Int → Int} : WFP (srA N) ∧ FRz (srA N) := by
  have z : ∀ j, 0 ≤ j → j < 102 → j ≠ 3 → j ≠ 4 → ¬ (48 ≤ j ∧ j < 56) → srA N j = 0 := fun j a b c d e => sr_z ⟨a, b⟩ c d e
  have z0 := z 0 (by omega) (by omega) (by omega) (by omega) (by omega)
  have z1 := z 1 (by omega) (by omega) (by omega) (by omega) (by omega)
  have z2 := z 2 (by omega) (by omega) (by omega) (by omega) (by omega)
  have z5 := z 5 (by omega) (by omega) (by omega) (by omega) (by omega)
  have z6 := z 6 (by omega) (by omega) (by omega) (by omega) (by omega)
  have z7 := z 7 (by omega) (by omega) (by omega) (by omega) (by omega)
  have s3 := sr_3 (N := N)
  have s4 := sr_4 (N := N)
  have rp : ∀ a hi n, 5 ≤ a → a + n ≤ 102 → (a + n ≤ 48 ∨ 56 ≤ a) → 0 ≤ hi → rP (srA N) a 0 hi n := fun a hi n h1 h2 h3 h4 p g1 g2 => by
    rw [z (a + p) (by omega) (by omega) (by omega) (by omega) (by omega)]; omega
  refine ⟨⟨by omega, by omega, by omega, by omega, by omega, by omega, by omega, by omega, rp _ _ _ (by omega) (by omega) (by omega) (by omega), rp _ _ _ (by omega) (by omega) (by omega) (by omega), rp _ _ _ (by omega) (by omega) (by omega) (by omega), rp _ _ _ (by omega) (by omega) (by omega) (by omega), rp _ _ _ (by omega) (by omega) (by omega) (by omega), fun p h1 h2 => ?_, fun g h1 h2 => by omega, rp _ _ _ (by omega) (by omega) (by omega) (by omega), rp _ _ _ (by omega) (by omega) (by omega) (by omega), rp _ _ _ (by omega) (by omega) (by omega) (by omega), rp _ _ _ (by omega) (by omega) (by omega) (by omega), rp _ _ _ (by omega) (by omega) (by omega) (by omega), rp _ _ _ (by omega) (by omega) (by omega) (by omega), rp _ _ _ (by omega) (by omega) (by omega) (by omega), fun p h1 h2 => by omega⟩, fun p h1 h2 => ?_⟩
  · rw [sr_48 ⟨h1, h2⟩]; omega
  · rw [sr_48 (by omega), z (32 + p) (by omega) (by omega) (by omega) (by omega) (by omega), z (40 + p) (by omega) (by omega) (by omega) (by omega) (by omega)]
    exact ⟨rfl, rfl, rfl⟩
theorem C_forget {S : Nat → Nat × Nat} {Q : Nat → Int → Int} {w : Nat → Nat → Int64} {rf : Nat → Nat → Option Nat} (hr : RCok rf) : ∃ Q', fX4_forget S (mk Q w rf) 85 = some (mk Q' w rf) ∧ (∀ a, a ≠ 85 → a ≠ 98 → Q' a = Q a) ∧ Q' 85 6 = 0 ∧ Q' 85 12 = 0 ∧ Q' 98 4 = 0 ∧ Q' 85 16 = 2 ∧ Q' 85 17 = 50 ∧ Q' 85 18 = 0 ∧ Q' 85 19 = 0 ∧ Q' 85 14 = 0 := by
  refine ⟨setR (setR (setR Q 85 (updf (updf (updf (Q 85) 6 0) 12 0) 14 0)) 98 (updf (Q 98) 4 0)) 85 (updf (updf (updf (updf (updf (updf (updf (Q 85) 6 0) 12 0) 14 0) 16 2) 17 50) 18 0) 19 0), ?_, ?_, ?_⟩
  · simp (disch := first | assumption | omega) only [fX4_forget, I_lit, orb_I, I_add, I_sub, I_mul, I_neg, nm_eq, bd0_s, bd2_s, un2_eq, un3_eq, un4_eq, un5_eq, un6_eq, cs2_l, cs2_r, mk_1, mk_2, wI_mk, wL_mk, wR_mk, setR_same, setR_setR, rZ_0, rZ_1, rZ_b2, it_b2, it_nb2, it_b21, it_nb21, I_lt, I_le, I_eq, I_div, castI, if_true, if_false, Classical.not_not, gD85_15, setR_ne]
    rw [wZ_mk (Or.inl rfl)]
    simp (disch := first | assumption | omega) only [I_lit, orb_I, I_add, I_sub, I_mul, I_neg, nm_eq, bd0_s, bd2_s, un2_eq, un3_eq, un4_eq, un5_eq, un6_eq, cs2_l, cs2_r, mk_1, mk_2, wI_mk, wL_mk, wR_mk, setR_same, setR_setR, rZ_0, rZ_1, rZ_b2, it_b2, it_nb2, it_b21, it_nb21, I_lt, I_le, I_eq, I_div, castI, if_true, if_false, Classical.not_not, setR_ne]
    rw [wZ_mk (Or.inl rfl)]
    simp (disch := first | assumption | omega) only [I_lit, orb_I, I_add, I_sub, I_mul, I_neg, nm_eq, bd0_s, bd2_s, un2_eq, un3_eq, un4_eq, un5_eq, un6_eq, cs2_l, cs2_r, mk_1, mk_2, wI_mk, wL_mk, wR_mk, setR_same, setR_setR, rZ_0, rZ_1, rZ_b2, it_b2, it_nb2, it_b21, it_nb21, I_lt, I_le, I_eq, I_div, castI, if_true, if_false, Classical.not_not, setR_ne]
  · intro a h1 h2
    rw [setR_ne h1, setR_ne h2, setR_ne h1]
  · rw [setR_same, setR_ne (by omega), setR_same]
    exact ⟨rfl, rfl, rfl, rfl, rfl, rfl, rfl, rfl⟩
theorem M_par54 {S : Nat → Nat × Nat} {R : Nat → Int → Int} {w : Nat → Nat → Int64} {rf : Nat → Nat → Option Nat} {k : Int32} (hS : SMok S) (hr : RMok rf) : loopN (fX13_parish_L54 S 64 k) 1000 (I 0, mk R w rf) = some (mk (setR R 66 (cpf (R 66) (R 67) 0 0 102)) w rf) := by
  have l1 := loop_seq (f := fX13_parish_L54 S 64 k) (m := 1000) (fun j => (I j, mk (setR R 66 (cpf (R 66) (R 67) 0 0 j)) w rf)) 102 (r := mk (setR R 66 (cpf (R 66) (R 67) 0 0 102)) w rf) (by omega) (by
    intro j hj
    have h5 : ¬ ((102 : Int) ≤ (j : Int)) := by omega
    simp (disch := first | assumption | omega) only [fX13_parish_L54, I_lit, orb_I, I_add, I_sub, I_mul, I_neg, nm_eq, bd0_s, bd2_s, un2_eq, un3_eq, un4_eq, un5_eq, un6_eq, cs2_l, cs2_r, mk_1, mk_2, wI_mk, wL_mk, wR_mk, setR_same, setR_setR, rZ_0, rZ_1, rZ_b2, it_b2, it_nb2, it_b21, it_nb21, I_lt, I_le, I_eq, I_div, castI, if_true, if_false, Classical.not_not, gM14, gM15, ldM67, stM66, setR_ne, h5]
    rw [cpf_succ (by omega) (by omega) (by rw [Int.zero_add])]
    rfl) (by
    simp (disch := first | assumption | omega) only [fX13_parish_L54, I_lit, orb_I, I_add, I_sub, I_mul, I_neg, nm_eq, bd0_s, bd2_s, un2_eq, un3_eq, un4_eq, un5_eq, un6_eq, cs2_l, cs2_r, mk_1, mk_2, wI_mk, wL_mk, wR_mk, setR_same, setR_setR, rZ_0, rZ_1, rZ_b2, it_b2, it_nb2, it_b21, it_nb21, I_lt, I_le, I_eq, I_div, castI, if_true, if_false, Classical.not_not]
    rfl)
  have e0 : (I ((0 : Nat) : Int), mk (setR R 66 (cpf (R 66) (R 67) 0 0 ((0 : Nat) : Int))) w rf) = (I 0, mk R w rf) := by
    rw [show ((0 : Nat) : Int) = 0 from rfl, cpf_0, setR_id]
  simp only [e0] at l1
  exact l1
theorem M_par80 {S : Nat → Nat × Nat} {R : Nat → Int → Int} {w : Nat → Nat → Int64} {rf : Nat → Nat → Option Nat} {k : Int32} (hS : SMok S) (hr : RMok rf) : loopN (fX13_parish_L80 S 64 k) 1000 (I 0, mk R w rf) = some (mk R (vK w 71 72 0 0 18) rf) := by
  have l1 := loop_seq (f := fX13_parish_L80 S 64 k) (m := 1000) (fun j => (I j, mk R (vK w 71 72 0 0 j) rf)) 18 (r := mk R (vK w 71 72 0 0 18) rf) (by omega) (by
    intro j hj
    have h5 : ¬ ((18 : Int) ≤ (j : Int)) := by omega
    have e2 : ((j : Int)).toNat = j := by omega
    simp (disch := first | assumption | omega) only [fX13_parish_L80, I_lit, orb_I, I_add, I_sub, I_mul, I_neg, nm_eq, bd0_s, bd2_s, un2_eq, un3_eq, un4_eq, un5_eq, un6_eq, cs2_l, cs2_r, mk_1, mk_2, wI_mk, wL_mk, wR_mk, setR_same, setR_setR, rZ_0, rZ_1, rZ_b2, it_b2, it_nb2, it_b21, it_nb21, I_lt, I_le, I_eq, I_div, castI, if_true, if_false, Classical.not_not, gM19, gM20, ldM72, stM71, h5, e2]
    rw [vK_succ (by omega) (by rw [vK_out (by omega), Nat.zero_add])]
    rfl) (by
    simp (disch := first | assumption | omega) only [fX13_parish_L80, I_lit, orb_I, I_add, I_sub, I_mul, I_neg, nm_eq, bd0_s, bd2_s, un2_eq, un3_eq, un4_eq, un5_eq, un6_eq, cs2_l, cs2_r, mk_1, mk_2, wI_mk, wL_mk, wR_mk, setR_same, setR_setR, rZ_0, rZ_1, rZ_b2, it_b2, it_nb2, it_b21, it_nb21, I_lt, I_le, I_eq, I_div, castI, if_true, if_false, Classical.not_not]
    rfl)
  have e0 : (I ((0 : Nat) : Int), mk R (vK w 71 72 0 0 0) rf) = (I 0, mk R w rf) := by
    rw [vK_0]; rfl
  simp only [e0] at l1
  exact l1
theorem op_parish {S S' : Nat → Nat × Nat} (hS : SCok S) (hS' : SMok S') : OpC1 (fun σ => fX12_parish S σ 64) (fun σ => fX13_parish S' σ 64) := by
  intro t σC σM ⟨Q, w, rf, R, v, rm, q1, q2, hr, hr', inv, tx⟩; subst q1; subst q2
  obtain ⟨ta, ⟨wf, cp, nam⟩, ⟨lo, cl⟩, ur, fa, wk, ro, se, im, ⟨sw1, sw2, sw3, sw4⟩⟩ := inv
  obtain ⟨Qa, a1, a2, a3⟩ := C_forget (S := S) (Q := Q) (w := w) hr
  generalize hqb : setR Qa 103 (updf (updf (Qa 103) 2 0) 3 0) = Qb
  have qb : ∀ a, a ≠ 85 → a ≠ 98 → a ≠ 103 → Qb a = Q a := fun a h1 h2 h3 => by rw [← hqb, setR_ne h3, a2 a h1 h2]
  have qb2 : ∀ a, a ≠ 103 → Qb a = Qa a := fun a h3 => by rw [← hqb, setR_ne h3]
  have ta' : tapeR (Qb 66) (Qb 65 1) (R 64 2) (R 65) := by rw [qb 66 (by omega) (by omega) (by omega), qb 65 (by omega) (by omega) (by omega)]; exact ta
  obtain ⟨Q1, w1, rf1, R1, v1, b1, b2', b3, b4, b5, ⟨b6, b7, b8⟩, ⟨b9, b10, b11, b12⟩, b13⟩ := BEG (w := w) (v := v) (lim := 900) hS hS' hr hr' ta' (by omega)
  have m1 := M_startRead (S := S') (R := R1) (w := v1) hS' hr'
  generalize hr2 : setR (setR R1 67 (srA (R1 67))) 64 (updf (R1 64) 24 0) = R2
  have r267 : R2 67 = srA (R1 67) := by rw [← hr2, setR_ne (by omega), setR_same]
  have r2o : ∀ a, a ≠ 64 → a ≠ 67 → R2 a = R1 a := fun a h1 h2 => by rw [← hr2, setR_ne h1, setR_ne h2]
  have r264 : ∀ j, j ≠ 24 → R2 64 j = R1 64 j := fun j hj => by rw [← hr2, setR_same, updf_ne hj]
  have r224 : R2 64 24 = 0 := by rw [← hr2, setR_same, updf_same rfl]
  have sy : SYN Q1 w1 rf1 R2 v1 (R 64 2) 900 := SYN_q b4 (fun _ _ _ => rfl) rfl (fun j _ _ => r264 j (by omega)) (r2o 65 (by omega) (by omega)) rfl rfl rfl
  obtain ⟨wf0, fz0⟩ := WFP_sr (N := R1 67)
  have z : ∀ j, 0 ≤ j → j < 102 → j ≠ 3 → j ≠ 4 → ¬ (48 ≤ j ∧ j < 56) → srA (R1 67) j = 0 := fun j a b c d e => sr_z ⟨a, b⟩ c d e
  have z0 := z 0 (by omega) (by omega) (by omega) (by omega) (by omega)
  have z1 := z 1 (by omega) (by omega) (by omega) (by omega) (by omega)
  have z2 := z 2 (by omega) (by omega) (by omega) (by omega) (by omega)
  have z5 := z 5 (by omega) (by omega) (by omega) (by omega) (by omega)
  have z6 := z 6 (by omega) (by omega) (by omega) (by omega) (by omega)
  have z7 := z 7 (by omega) (by omega) (by omega) (by omega) (by omega)
  have q85 : Q1 85 = Qa 85 := by rw [b6 85 (by omega), qb2 85 (by omega)]
  have q98 : Q1 98 = Qa 98 := by rw [b6 98 (by omega), qb2 98 (by omega)]
  have q103 : Q1 103 2 = 0 ∧ Q1 103 3 = 0 := by
    rw [b6 103 (by omega), ← hqb, setR_same]
    exact ⟨rfl, rfl⟩
  have dr : DRF Q1 w1 (v1 72) (R2 64 24) (R2 67) := by
    rw [r267, r224]
    refine ⟨wf0, ⟨?_, fun p h1 h2 => by omega, fun p h1 h2 => by omega, fun p h1 h2 => by omega, fun p h1 h2 => by omega⟩, ⟨fun p hp => by omega, fun p hp => by omega, fun p hp => by omega⟩, ⟨Or.inl q103.1, Or.inl q103.2, by omega⟩, fz0⟩
    rw [q85, q98, z0, z1, z2, z5, z6, z7, sr_3, sr_4]
    obtain ⟨d1, d2, d3, d4, d5, d6, d7, d8⟩ := a3
    exact ⟨d1, d2, d3, d4, d5, d6, d7, d8⟩
  obtain ⟨Q4, w4, rf4, R4, v4, c1, c2, c3, c4⟩ := PLOOP hS hS' hr' 471 0 Q1 w1 rf1 R2 v1 1000 1000 rfl (by omega) (by omega) b5 sy dr (by rw [r264 7 (by omega)]; omega)
  have ecr : fX5_read S (mk Q w rf) 103 = bd0 (loopN (fX5_read_L36 S 103) 1000 (I ((0 : Nat) : Int), mk Q1 w1 rf1)) (cs2 (fun τ10 => fX5_read_b70 S τ10 103) (un2 fun v11 τ12 => fX5_read_b93 S τ12 v11)) := by
    unfold fX5_read
    rw [gC103_1 hr, a1, bd0_s, show (0 : Int32) = I 0 from rfl, wZ_mk (Or.inl rfl), wZ_mk (Or.inl rfl)]
    have e : setR (setR Qa 103 (updf (Qa 103) ((2 : Nat) : Int) 0)) 103 (updf (setR Qa 103 (updf (Qa 103) ((2 : Nat) : Int) 0) 103) ((3 : Nat) : Int) 0) = Qb := by
      rw [setR_same, setR_setR, ← hqb]
      rfl
    rw [e, gC103_0 hr, show (900 : Int32) = I 900 from rfl, b1, bd0_s, gC103_0 hr, b2', bd0_s]
    rfl
  have emr : fX13_parish S' (mk R v rm) 64 = bd0 (loopN (fX13_parish_L18 S' 64) 1000 (I ((0 : Nat) : Int), mk R2 v1 rm)) (cs2 (fun τ5 => fX13_parish_b39 S' τ5 64) (un2 fun v6 τ7 => bd0 (loopN (fX13_parish_L54 S' 64 v6) 1000 ((0 : Int32), τ7)) (fun τ9 => bd0 (loopN (fX13_parish_L80 S' 64 v6) 1000 ((0 : Int32), τ9)) (fun τ11 => bd0 (fX13_startSo S' τ11 64) fun τ12 => wI τ12 64 23 (0 : Int32) fun τ13 => some (v6, τ13))))) := by
    unfold fX13_parish
    rw [show (900 : Int32) = I 900 from rfl, b3, bd0_s, m1, bd0_s, show (0 : Int32) = I 0 from rfl, wI_mk]
    have e : setR (setR R1 67 (srA (R1 67))) 64 (updf (setR R1 67 (srA (R1 67)) 64) ((24 : Nat) : Int) 0) = R2 := by
      rw [setR_ne (b := 64) (a := 67) (by omega), ← hr2]
      rfl
    rw [e]
    rfl
  have k64 : ∀ j, 13 < j → j ≠ 24 → R4 64 j = R 64 j := fun j h1 h2 => by rw [c2.2.1 j (by omega) h2, r264 j h2, b11 j h1]
  have k2 : R4 64 2 = 0 := by rw [c2.2.1 2 (by omega) (by omega), r264 2 (by omega), b10]
  have km : ∀ a, a ≠ 64 → a ≠ 67 → R4 a = R a := fun a h1 h2 => by rw [c2.1 a h1 h2, r2o a h1 h2, b9 a h1]
  have kv : ∀ a j, ¬ (a = 64 ∧ j = 12) → a ≠ 72 → v4 a j = v a j := fun a j h1 h2 => by rw [c2.2.2 a j h1 h2, b12 a j h1]
  have kq : ∀ a, a ≠ 65 → ¬ (85 ≤ a ∧ a ≤ 103) → Q4 a = Q a := fun a h1 h2 => by rw [c1.1 a h1 h2, b6 a h1, qb a (by omega) (by omega) (by omega)]
  have kw : ∀ a j, ¬ (a = 65 ∧ j = 7) → ¬ (85 ≤ a ∧ a ≤ 103) → w4 a j = w a j := fun a j h1 h2 => by rw [c1.2.2.1 a j h1 h2, b7 a j h1]
  have kr : ∀ a j, ¬ (a = 65 ∧ j = 8) → rf4 a j = rf a j := fun a j h => by rw [c1.2.2.2 a j h, b8 a j h]
  have kr' : ∀ a, a ≠ 65 → rf4 a = rf a := fun a h => funext (fun j => kr a j (by omega))
  have v71 : v4 71 = v 71 := funext (fun j => kv 71 j (by omega) (by omega))
  have v73 : v4 73 = v 73 := funext (fun j => kv 73 j (by omega) (by omega))
  have w68 : w4 68 = w 68 := funext (fun j => kw 68 j (by omega) (by omega))
  have w74 : w4 74 = w 74 := funext (fun j => kw 74 j (by omega) (by omega))
  have w81 : w4 81 = w 81 := funext (fun j => kw 81 j (by omega) (by omega))
  rcases c4 with ⟨j, hj, l1, l2, dr4, f1, f2⟩ | ⟨l1, l2, fl⟩
  · rw [l1, bd0_s] at ecr
    rw [l2, bd0_s] at emr
    obtain ⟨wf4, cp4, nm4, -, -⟩ := dr4
    have hr4 := c3
    generalize hq5 : setR (setR Q4 64 (updf (Q4 64) 17 0)) 65 (updf (Q4 65) 1 0) = Q5
    have q5o : ∀ a, a ≠ 64 → a ≠ 65 → Q5 a = Q4 a := fun a h1 h2 => by rw [← hq5, setR_ne h2, setR_ne h1]
    have cp5 : CP 85 Q5 (R4 67) := CP_q cp4 (fun a h1 h2 => q5o a (by omega) (by omega))
    have c5 := C_copyPar (S := S) (w := w4) hS hr4 isPar67 isPar85 (by omega) wf4 cp5
    have cq6 := CP_cp (x := 67) wf4 cp5
    have o6 : ∀ a, a < 67 ∨ 67 + 17 < a → cpPar 67 85 Q5 a = Q5 a := fun a h => cpPar_out h
    generalize hQ6 : cpPar 67 85 Q5 = Q6 at *
    generalize hw6 : cpNam 67 85 w4 = w6 at *
    have ma := M_par54 (S := S') (R := R4) (w := v4) (k := I j) hS' hr'
    have mb := M_par80 (S := S') (R := setR R4 66 (cpf (R4 66) (R4 67) 0 0 102)) (w := v4) (k := I j) hS' hr'
    have mc := M_startSo (S := S') (R := setR R4 66 (cpf (R4 66) (R4 67) 0 0 102)) (w := vK v4 71 72 0 0 18) hS' hr'
    rw [setR_same, setR_setR] at mc
    have xk : ∀ j, 0 ≤ j → j < 102 → cpf (R4 66) (R4 67) 0 0 102 j = R4 67 j := fun j h1 h2 => cpf_in (by omega) (by omega)
    generalize hX : cpf (R4 66) (R4 67) 0 0 102 = X at *
    have agP : AgP (R4 67) (fun j => if j < 102 then R4 67 j else X j) := fun j hj => if_pos hj
    have agW : AgW (fun j => if j < 102 then R4 67 j else X j) X := fun j hj => by
      by_cases h : j < 102
      · simp only [if_pos h]; exact xk j (by omega) h
      · simp only [if_neg h]
    have wfZ := WFP_ag wf4 agP
    have wfX := WFP_w wfZ agW
    have cpX : CP 67 Q6 X := CP_w (CP_fr cq6 wf4 isLife104 (FrL_refl 104 Q6) agP) wfZ agW
    obtain ⟨Q7, g1, g2, g3⟩ := C_begin (S := S) (w := w6) hS hr4 wfX cpX
    have agS : AgP X (stA X) := fun j hj => stA_lo hj
    have wf9 := WFP_st wfX
    have lo9 := LOK_st wfX
    have cp7 : CP 67 Q7 (stA X) := CP_fr cpX wfX isLife104 (fun a h => g3 a (by omega)) agS
    have w6o : ∀ a, a ≠ 68 → a ≠ 74 → a ≠ 81 → w6 a = w4 a := fun a h1 h2 h3 => by
      rw [← hw6]
      unfold cpNam
      rw [u1_ne h3, u1_ne h2, u1_ne h1]
    have n0 : stA X 0 = R4 67 0 := by rw [stA_lo (by omega), xk 0 (by omega) (by omega)]
    have n1 : stA X 1 = R4 67 1 := by rw [stA_lo (by omega), xk 1 (by omega) (by omega)]
    have n2 : stA X 2 = R4 67 2 := by rw [stA_lo (by omega), xk 2 (by omega) (by omega)]
    have b0 := wf4.1
    have b1' := wf4.2.1
    have b2'' := wf4.2.2.1
    generalize hq9 : setR (setR Q7 197 (updf (updf (Q7 197) 4 0) 3 0)) 120 (updf (Q7 120) 1 0) = Q9
    have e9 : ∀ a, a ≠ 64 → a ≠ 65 → ¬ (67 ≤ a ∧ a ≤ 111) → a ≠ 120 → a ≠ 197 → Q9 a = Q a := fun a h1 h2 h3 h4 h5 => by
      rw [← hq9, setR_ne h4, setR_ne h5, g3 a (by omega), o6 a (by omega), q5o a h1 h2, kq a h2 (by omega)]
    have e7 : ∀ a, a ≠ 120 → a ≠ 197 → Q9 a = Q7 a := fun a h4 h5 => by rw [← hq9, setR_ne h4, setR_ne h5]
    generalize hR9 : setR (setR R4 66 (stA X)) 64 (updf (R4 64) 23 0) = R9
    have r966 : R9 66 = stA X := by rw [← hR9, setR_ne (by omega), setR_same]
    have r9o : ∀ a, a ≠ 64 → a ≠ 66 → a ≠ 67 → R9 a = R a := fun a h1 h2 h3 => by rw [← hR9, setR_ne h1, setR_ne h2, km a h1 h3]
    have r964 : ∀ j, j ≠ 23 → R9 64 j = R4 64 j := fun j hj => by rw [← hR9, setR_same, updf_ne hj]
    have vv73 : vK v4 71 72 0 0 18 73 = v 73 := by rw [← v73]; exact funext (fun j => vK_out (by omega))
    have nn : ¬ (I (j : Int) < 0) := by
      rw [I_lit, I_lt (by omega) (by omega)]; omega
    refine ⟨I j, mk Q9 w6 rf4, mk R9 (vK v4 71 72 0 0 18) rm, ?_, ?_, Q9, w6, rf4, R9, vK v4 71 72 0 0 18, rm, rfl, rfl, hr4, hr', ⟨?_, ⟨?_, ?_, ?_⟩, ⟨?_, ?_⟩, ?_, ?_, ?_, ?_, ?_, ?_, ?_⟩, ?_⟩
    · show fX12_parish S (mk Q w rf) 64 = _
      have ec2 : fX5_read S (mk Q w rf) 103 = some (I j, mk Q4 w4 rf4) := by
        rw [ecr]
        rfl
      unfold fX12_parish
      have e5 : setR (setR Q4 64 (updf (Q4 64) ((17 : Nat) : Int) 0)) 65 (updf (setR Q4 64 (updf (Q4 64) ((17 : Nat) : Int) 0) 65) ((1 : Nat) : Int) 0) = Q5 := by
        rw [setR_ne (b := 65) (a := 64) (by omega), ← hq5]
        rfl
      rw [gC64_3 hr, ec2, bd2_p, gC64_0 hr4, mk_1, castI, f1, wI_mk, gC64_0 hr4, show (0 : Int32) = I 0 from rfl, wI_mk, e5, if_neg (by exact nn), gC64_1 hr4, gC64_2 hr4, c5, bd0_s, gC64_4 hr4, g1, bd0_s, gC64_10 hr4]
      unfold fX7_forget
      rw [show (0 : Int32) = I 0 from rfl, wI_mk, wI_mk, bd0_s, gC64_6 hr4]
      unfold fX9_forget fX12_parish_b63
      rw [show (0 : Int32) = I 0 from rfl, wI_mk, bd0_s, setR_same, setR_setR, setR_ne (b := 120) (a := 197) (by omega), ← hq9]
      rfl
    · show fX13_parish S' (mk R v rm) 64 = _
      rw [emr, cs2_r, un2_eq, show (0 : Int32) = I 0 from rfl, ma, bd0_s, mb, bd0_s, mc, bd0_s, wI_mk, setR_ne (b := 64) (a := 66) (by omega), ← hR9]
      rfl
    · have s1 : Q9 65 1 = 0 := by rw [e7 65 (by omega) (by omega), g3 65 (by omega), o6 65 (by omega), ← hq5, setR_same, updf_same rfl]
      exact ⟨by rw [s1, r964 2 (by omega), k2], by rw [r964 2 (by omega), k2]; omega, fun i h1 h2 => by rw [r964 2 (by omega), k2] at h2; omega⟩
    · rw [r966]; exact wf9
    · rw [r966]; exact CP_q cp7 (fun a h1 h2 => e7 a (by omega) (by omega))
    · rw [r966]
      refine ⟨fun p hp => ?_, fun p hp => ?_, fun p hp => ?_⟩
      · rw [n0] at hp
        have h := nm4.1 p hp
        rw [vK_in (k := 0 + p) (by omega) (by omega), ← hw6]
        unfold cpNam
        rw [u1_ne (by omega), u1_ne (by omega), u1_same, if_pos (by omega)]
        exact h
      · rw [n1] at hp
        have h := nm4.2.1 p hp
        rw [vK_in (k := 0 + 8 + p) (by omega) (by omega), ← hw6]
        unfold cpNam
        rw [u1_ne (by omega), u1_same, if_pos (by omega)]
        exact h
      · rw [n2] at hp
        have h := nm4.2.2 p hp
        rw [vK_in (k := 0 + 12 + p) (by omega) (by omega), ← hw6]
        unfold cpNam
        rw [u1_same, if_pos (by omega)]
        exact h
    · rw [r966]; exact lo9
    · rw [r966]; exact CL_q g2 (fun a h1 h2 => e7 a (by omega) (by omega))
    · obtain ⟨u1, u2, L, u3, u4, u5⟩ := ur
      have z23 : R9 64 23 = 0 := by rw [← hR9, setR_same, updf_same rfl]
      rw [z23]
      exact ⟨by rw [← hq9, setR_same, updf_same rfl], by omega, L, by rw [kr' 121 (by omega)]; exact u3, u4, fun i hi => by omega⟩
    · rw [r964 10 (by omega), f2, e7 64 (by omega) (by omega), g3 64 (by omega), o6 64 (by omega), ← hq5, setR_ne (by omega), setR_same, updf_same rfl]
    · rw [e9 189 (by omega) (by omega) (by omega) (by omega) (by omega), e9 192 (by omega) (by omega) (by omega) (by omega) (by omega), r964 28 (by omega), k64 28 (by omega) (by omega), r9o 77 (by omega) (by omega) (by omega)]; exact wk
    · rw [e9 193 (by omega) (by omega) (by omega) (by omega) (by omega), r964 37 (by omega), k64 37 (by omega) (by omega), r9o 80 (by omega) (by omega) (by omega)]; exact ro
    · rw [r966]
      exact Or.inl ⟨stA_z (by omega) (by omega) (by omega), by rw [← hq9, setR_ne (by omega), setR_same, updf_ne (by omega), updf_same rfl]⟩
    · rw [r9o 68 (by omega) (by omega) (by omega), r9o 74 (by omega) (by omega) (by omega), vv73]
      exact imgR_q im (fun a h => e9 a (by omega) (by omega) (by omega) (by omega) (by omega)) (fun a h => by rw [w6o a (by omega) (by omega) (by omega)]; exact funext (fun j => kw a j (by omega) (by omega))) (kr' 238 (by omega)) (kr' 268 (by omega))
    · rw [kr' 198 (by omega), kr' 202 (by omega), kr' 238 (by omega), kr' 268 (by omega)]
      exact ⟨sw1, sw2, sw3, sw4⟩
    · rw [r964 32 (by omega), k64 32 (by omega) (by omega), r9o 78 (by omega) (by omega) (by omega)]; exact tx
  · rw [l1, bd0_s] at ecr
    rw [l2, bd0_s] at emr
    obtain ⟨g1, g2, g3, g4⟩ := fl
    have neg : I (-1 - R4 64 11) < 0 := by
      rw [I_lit, I_lt (by omega) (by omega)]; omega
    have ec2 : fX5_read S (mk Q w rf) 103 = some (I (-1 - R4 64 11), mk Q4 w4 rf4) := by
      rw [ecr, cs2_l]
      simp (disch := first | assumption | omega) only [fX5_read_b70, gC103_0, mk_1, castI, g2]
      rw [show (-1 : Int32) = I (-1) from rfl, I_sub]
    have em2 : fX13_parish S' (mk R v rm) 64 = some (I (-1 - R4 64 11), mk R4 v4 rm) := by
      rw [emr, cs2_l]
      simp (disch := first | assumption | omega) only [fX13_parish_b39, mk_1, castI]
      rw [show (-1 : Int32) = I (-1) from rfl, I_sub]
    generalize hq5 : setR (setR Q4 64 (updf (Q4 64) 17 (Q4 65 9))) 65 (updf (Q4 65) 1 0) = Q5
    have q5o : ∀ a, a ≠ 64 → a ≠ 65 → Q5 a = Q4 a := fun a h1 h2 => by rw [← hq5, setR_ne h2, setR_ne h1]
    have e5 : ∀ a, a ≠ 64 → a ≠ 65 → ¬ (85 ≤ a ∧ a ≤ 103) → Q5 a = Q a := fun a h1 h2 h3 => by rw [q5o a h1 h2, kq a h2 h3]
    refine ⟨I (-1 - R4 64 11), mk Q5 w4 rf4, mk R4 v4 rm, ?_, em2, Q5, w4, rf4, R4, v4, rm, rfl, rfl, c3, hr', ⟨?_, ⟨?_, ?_, ?_⟩, ⟨?_, ?_⟩, ?_, ?_, ?_, ?_, ?_, ?_, ?_⟩, ?_⟩
    · show fX12_parish S (mk Q w rf) 64 = _
      unfold fX12_parish
      rw [gC64_3 hr, ec2, bd2_p, gC64_0 c3, mk_1, castI, wI_mk, gC64_0 c3, show (0 : Int32) = I 0 from rfl, wI_mk, if_pos (by exact neg)]
      unfold fX12_parish_b63
      rw [← hq5, setR_ne (b := 65) (a := 64) (by omega)]
      rfl
    · have s1 : Q5 65 1 = 0 := by rw [← hq5, setR_same, updf_same rfl]
      exact ⟨by rw [s1, k2], by omega, fun i h1 h2 => by omega⟩
    · rw [km 66 (by omega) (by omega)]; exact wf
    · rw [km 66 (by omega) (by omega)]; exact CP_q cp (fun a h1 h2 => e5 a (by omega) (by omega) (by omega))
    · rw [km 66 (by omega) (by omega), w68, w74, w81, v71]; exact nam
    · rw [km 66 (by omega) (by omega)]; exact lo
    · rw [km 66 (by omega) (by omega)]; exact CL_q cl (fun a h1 h2 => e5 a (by omega) (by omega) (by omega))
    · rw [k64 23 (by omega) (by omega), km 66 (by omega) (by omega), km 69 (by omega) (by omega)]
      exact UR_q ur wf (fun a h => e5 a (by omega) (by omega) (by omega)) (kr' 121 (by omega)) (AgP_refl _)
    · rw [← hq5, setR_ne (by omega), setR_same, updf_same rfl]; exact g1
    · rw [e5 189 (by omega) (by omega) (by omega), e5 192 (by omega) (by omega) (by omega), k64 28 (by omega) (by omega), km 77 (by omega) (by omega)]; exact wk
    · rw [e5 193 (by omega) (by omega) (by omega), k64 37 (by omega) (by omega), km 80 (by omega) (by omega)]; exact ro
    · rw [e5 199 (by omega) (by omega) (by omega), e5 200 (by omega) (by omega) (by omega), e5 197 (by omega) (by omega) (by omega), kr' 198 (by omega), km 66 (by omega) (by omega)]; exact se
    · rw [km 68 (by omega) (by omega), km 74 (by omega) (by omega), v73]
      exact imgR_q im (fun a h => e5 a (by omega) (by omega) (by omega)) (fun a h => funext (fun j => kw a j (by omega) (by omega))) (kr' 238 (by omega)) (kr' 268 (by omega))
    · rw [kr' 198 (by omega), kr' 202 (by omega), kr' 238 (by omega), kr' 268 (by omega)]
      exact ⟨sw1, sw2, sw3, sw4⟩
    · rw [k64 32 (by omega) (by omega), km 78 (by omega) (by omega)]; exact tx
