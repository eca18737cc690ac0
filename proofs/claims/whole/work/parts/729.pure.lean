def vK (v : Nat → Nat → Int64) (a b o p n : Nat) : Nat → Nat → Int64 := fun c j => if c = a ∧ o ≤ j ∧ j < o + n then v b (p + (j - o)) else v c j
theorem vK_0 {v : Nat → Nat → Int64} {a b o p : Nat} : vK v a b o p 0 = v := by
  funext c j
  unfold vK
  rw [if_neg (by omega)]
theorem vK_succ {v : Nat → Nat → Int64} {a b o p n z : Nat} {x : Int64} (hz : z = o + n) (hx : x = v b (p + n)) : up2 (vK v a b o p n) a z x = vK v a b o p (n + 1) := by
  funext c j
  simp only [up2, vK]
  by_cases h : c = a
  · by_cases hj : j = z
    · rw [if_pos h, if_pos hj, if_pos ⟨h, by omega⟩, hx]
      congr 1
      omega
    · rw [if_pos h, if_neg hj]
      by_cases h2 : o ≤ j ∧ j < o + n
      · rw [if_pos ⟨h, h2⟩, if_pos ⟨h, by omega⟩]
      · rw [if_neg (fun h3 => h2 h3.2), if_neg (by omega)]
  · rw [if_neg h, if_neg (fun h3 => h h3.1), if_neg (fun h3 => h h3.1)]
theorem vK_in {v : Nat → Nat → Int64} {a b o p n j k : Nat} (h : o ≤ j ∧ j < o + n) (hk : k = p + (j - o)) : vK v a b o p n a j = v b k := by
  unfold vK
  rw [if_pos ⟨rfl, h⟩, hk]
theorem vK_out {v : Nat → Nat → Int64} {a b o p n c j : Nat} (h : ¬ (c = a ∧ o ≤ j ∧ j < o + n)) : vK v a b o p n c j = v c j := by
  unfold vK
  rw [if_neg h]
theorem M_imgA {S : Nat → Nat × Nat} {R : Nat → Int → Int} {w : Nat → Nat → Int64} {rf : Nat → Nat → Option Nat} {k : Int} (hS : SMok S) (hr : RMok rf) (hk : 0 ≤ k ∧ k ≤ 1) : loopN (fX13_image_L18 S 64 (I k)) 1000 (I 0, mk R w rf) = some (mk (setR R 68 (cpf (R 68) (R 66) (383 * k) 0 383)) w rf) := by
  have l1 := loop_seq (f := fX13_image_L18 S 64 (I k)) (m := 1000) (fun j => (I j, mk (setR R 68 (cpf (R 68) (R 66) (383 * k) 0 j)) w rf)) 383 (r := mk (setR R 68 (cpf (R 68) (R 66) (383 * k) 0 383)) w rf) (by omega) (by
    intro j hj
    have h5 : ¬ ((383 : Int) ≤ (j : Int)) := by omega
    simp (disch := first | assumption | omega) only [fX13_image_L18, I_lit, orb_I, I_add, I_sub, I_mul, I_neg, nm_eq, bd0_s, bd2_s, un2_eq, un3_eq, un4_eq, un5_eq, un6_eq, cs2_l, cs2_r, mk_1, mk_2, wI_mk, wL_mk, wR_mk, setR_same, setR_setR, rZ_0, rZ_1, rZ_b2, it_b2, it_nb2, it_b21, it_nb21, I_lt, I_le, I_eq, I_div, castI, if_true, if_false, Classical.not_not, gM14, gM16, ldM66, stM68, setR_ne, h5]
    rw [cpf_succ (by omega) (by omega) (by rw [Int.zero_add])]
    rfl) (by
    simp (disch := first | assumption | omega) only [fX13_image_L18, I_lit, orb_I, I_add, I_sub, I_mul, I_neg, nm_eq, bd0_s, bd2_s, un2_eq, un3_eq, un4_eq, un5_eq, un6_eq, cs2_l, cs2_r, mk_1, mk_2, wI_mk, wL_mk, wR_mk, setR_same, setR_setR, rZ_0, rZ_1, rZ_b2, it_b2, it_nb2, it_b21, it_nb21, I_lt, I_le, I_eq, I_div, castI, if_true, if_false, Classical.not_not]
    rfl)
  have e0 : (I ((0 : Nat) : Int), mk (setR R 68 (cpf (R 68) (R 66) (383 * k) 0 ((0 : Nat) : Int))) w rf) = (I 0, mk R w rf) := by
    rw [show ((0 : Nat) : Int) = 0 from rfl, cpf_0, setR_id]
  simp only [e0] at l1
  exact l1
theorem M_resA {S : Nat → Nat × Nat} {R : Nat → Int → Int} {w : Nat → Nat → Int64} {rf : Nat → Nat → Option Nat} {k : Int} (hS : SMok S) (hr : RMok rf) (hk : 0 ≤ k ∧ k ≤ 1) : loopN (fX13_restore_L27 S 64 (I k)) 1000 (I 0, mk R w rf) = some (mk (setR R 66 (cpf (R 66) (R 68) 0 (383 * k) 383)) w rf) := by
  have l1 := loop_seq (f := fX13_restore_L27 S 64 (I k)) (m := 1000) (fun j => (I j, mk (setR R 66 (cpf (R 66) (R 68) 0 (383 * k) j)) w rf)) 383 (r := mk (setR R 66 (cpf (R 66) (R 68) 0 (383 * k) 383)) w rf) (by omega) (by
    intro j hj
    have h5 : ¬ ((383 : Int) ≤ (j : Int)) := by omega
    simp (disch := first | assumption | omega) only [fX13_restore_L27, I_lit, orb_I, I_add, I_sub, I_mul, I_neg, nm_eq, bd0_s, bd2_s, un2_eq, un3_eq, un4_eq, un5_eq, un6_eq, cs2_l, cs2_r, mk_1, mk_2, wI_mk, wL_mk, wR_mk, setR_same, setR_setR, rZ_0, rZ_1, rZ_b2, it_b2, it_nb2, it_b21, it_nb21, I_lt, I_le, I_eq, I_div, castI, if_true, if_false, Classical.not_not, gM14, gM16, ldM68, stM66, setR_ne, h5]
    rw [cpf_succ (by omega) (by omega) rfl]
    rfl) (by
    simp (disch := first | assumption | omega) only [fX13_restore_L27, I_lit, orb_I, I_add, I_sub, I_mul, I_neg, nm_eq, bd0_s, bd2_s, un2_eq, un3_eq, un4_eq, un5_eq, un6_eq, cs2_l, cs2_r, mk_1, mk_2, wI_mk, wL_mk, wR_mk, setR_same, setR_setR, rZ_0, rZ_1, rZ_b2, it_b2, it_nb2, it_b21, it_nb21, I_lt, I_le, I_eq, I_div, castI, if_true, if_false, Classical.not_not]
    rfl)
  have e0 : (I ((0 : Nat) : Int), mk (setR R 66 (cpf (R 66) (R 68) 0 (383 * k) ((0 : Nat) : Int))) w rf) = (I 0, mk R w rf) := by
    rw [show ((0 : Nat) : Int) = 0 from rfl, cpf_0, setR_id]
  simp only [e0] at l1
  exact l1
theorem M_imgB {S : Nat → Nat × Nat} {R : Nat → Int → Int} {w : Nat → Nat → Int64} {rf : Nat → Nat → Option Nat} {k : Int} {kn : Nat} (hS : SMok S) (hr : RMok rf) (hkn : k = kn) (hk : 0 ≤ k ∧ k ≤ 1) : loopN (fX13_image_L51 S 64 (I k)) 1000 (I 0, mk R w rf) = some (mk R (vK w 73 71 (18 * kn) 0 18) rf) := by
  have l1 := loop_seq (f := fX13_image_L51 S 64 (I k)) (m := 1000) (fun j => (I j, mk R (vK w 73 71 (18 * kn) 0 j) rf)) 18 (r := mk R (vK w 73 71 (18 * kn) 0 18) rf) (by omega) (by
    intro j hj
    have h5 : ¬ ((18 : Int) ≤ (j : Int)) := by omega
    have e1 : (18 * k + (j : Int)).toNat = 18 * kn + j := by omega
    have e2 : ((j : Int)).toNat = j := by omega
    simp (disch := first | assumption | omega) only [fX13_image_L51, I_lit, orb_I, I_add, I_sub, I_mul, I_neg, nm_eq, bd0_s, bd2_s, un2_eq, un3_eq, un4_eq, un5_eq, un6_eq, cs2_l, cs2_r, mk_1, mk_2, wI_mk, wL_mk, wR_mk, setR_same, setR_setR, rZ_0, rZ_1, rZ_b2, it_b2, it_nb2, it_b21, it_nb21, I_lt, I_le, I_eq, I_div, castI, if_true, if_false, Classical.not_not, gM19, gM21, ldM71, stM73, h5, e1, e2]
    rw [vK_succ rfl (by rw [vK_out (by omega), Nat.zero_add])]
    rfl) (by
    simp (disch := first | assumption | omega) only [fX13_image_L51, I_lit, orb_I, I_add, I_sub, I_mul, I_neg, nm_eq, bd0_s, bd2_s, un2_eq, un3_eq, un4_eq, un5_eq, un6_eq, cs2_l, cs2_r, mk_1, mk_2, wI_mk, wL_mk, wR_mk, setR_same, setR_setR, rZ_0, rZ_1, rZ_b2, it_b2, it_nb2, it_b21, it_nb21, I_lt, I_le, I_eq, I_div, castI, if_true, if_false, Classical.not_not]
    rfl)
  have e0 : (I ((0 : Nat) : Int), mk R (vK w 73 71 (18 * kn) 0 0) rf) = (I 0, mk R w rf) := by
    rw [vK_0]; rfl
  simp only [e0] at l1
  exact l1
theorem M_resB {S : Nat → Nat × Nat} {R : Nat → Int → Int} {w : Nat → Nat → Int64} {rf : Nat → Nat → Option Nat} {k : Int} {kn : Nat} (hS : SMok S) (hr : RMok rf) (hkn : k = kn) (hk : 0 ≤ k ∧ k ≤ 1) : loopN (fX13_restore_L60 S 64 (I k)) 1000 (I 0, mk R w rf) = some (mk R (vK w 71 73 0 (18 * kn) 18) rf) := by
  have l1 := loop_seq (f := fX13_restore_L60 S 64 (I k)) (m := 1000) (fun j => (I j, mk R (vK w 71 73 0 (18 * kn) j) rf)) 18 (r := mk R (vK w 71 73 0 (18 * kn) 18) rf) (by omega) (by
    intro j hj
    have h5 : ¬ ((18 : Int) ≤ (j : Int)) := by omega
    have e1 : (18 * k + (j : Int)).toNat = 18 * kn + j := by omega
    have e2 : ((j : Int)).toNat = j := by omega
    simp (disch := first | assumption | omega) only [fX13_restore_L60, I_lit, orb_I, I_add, I_sub, I_mul, I_neg, nm_eq, bd0_s, bd2_s, un2_eq, un3_eq, un4_eq, un5_eq, un6_eq, cs2_l, cs2_r, mk_1, mk_2, wI_mk, wL_mk, wR_mk, setR_same, setR_setR, rZ_0, rZ_1, rZ_b2, it_b2, it_nb2, it_b21, it_nb21, I_lt, I_le, I_eq, I_div, castI, if_true, if_false, Classical.not_not, gM19, gM21, ldM73, stM71, h5, e1, e2]
    rw [vK_succ (by omega) (by rw [vK_out (by omega)])]
    rfl) (by
    simp (disch := first | assumption | omega) only [fX13_restore_L60, I_lit, orb_I, I_add, I_sub, I_mul, I_neg, nm_eq, bd0_s, bd2_s, un2_eq, un3_eq, un4_eq, un5_eq, un6_eq, cs2_l, cs2_r, mk_1, mk_2, wI_mk, wL_mk, wR_mk, setR_same, setR_setR, rZ_0, rZ_1, rZ_b2, it_b2, it_nb2, it_b21, it_nb21, I_lt, I_le, I_eq, I_div, castI, if_true, if_false, Classical.not_not]
    rfl)
  have e0 : (I ((0 : Nat) : Int), mk R (vK w 71 73 0 (18 * kn) 0) rf) = (I 0, mk R w rf) := by
    rw [vK_0]; rfl
  simp only [e0] at l1
  exact l1
theorem kn_cases {kn : Nat} (h : kn < 2) : isPar (211 + 30 * kn) ∧ isLife (229 + 30 * kn) ∧ isSen (237 + 30 * kn) := by
  have : kn = 0 ∨ kn = 1 := by omega
  rcases this with h | h <;> subst h
  · exact ⟨isPar211, isLife229, by unfold isSen; omega⟩
  · exact ⟨isPar241, isLife259, by unfold isSen; omega⟩
theorem kn_ref {rf : Nat → Nat → Option Nat} {kn : Nat} (hr : RCok rf) (h : kn < 2) : rf 205 kn = some (211 + 30 * kn) ∧ rf 206 kn = some (229 + 30 * kn) ∧ rf 207 kn = some (237 + 30 * kn) := by
  have : kn = 0 ∨ kn = 1 := by omega
  rcases this with h | h <;> subst h
  · exact ⟨rfC205_0 hr, rfC206_0 hr, rfC207_0 hr⟩
  · exact ⟨rfC205_1 hr, rfC206_1 hr, rfC207_1 hr⟩
theorem op_image {S S' : Nat → Nat × Nat} (hS : SCok S) (hS' : SMok S') (a1 : Int32) : OpC1 (fun σ => fX12_image S σ 64 a1) (fun σ => fX13_image S' σ 64 a1) := by
  intro t σC σM ⟨Q, w, rf, R, v, rm, q1, q2, hr, hr', inv, tx⟩; subst q1; subst q2
  obtain ⟨k, rfl, hk⟩ := exI a1
  have inv0 := INV_th inv
  have r66 : th0 R 66 = R 66 := th0_ne (by omega)
  have m1 := M_isIn (S := S') (σ := mk (th0 R) v rm) (v := k) (a := 0) (b := 1) hk (by omega) (by omega)
  by_cases h : 0 ≤ k ∧ k ≤ 1
  · rw [b2_t h] at m1
    obtain ⟨kn, hkn⟩ : ∃ kn : Nat, k = kn := ⟨k.toNat, by omega⟩
    have hk2 : kn < 2 := by omega
    have hkt : k.toNat = kn := by omega
    obtain ⟨ip, il, is⟩ := kn_cases hk2
    obtain ⟨f1, f2, f3⟩ := kn_ref hr hk2
    obtain ⟨ta, ⟨wf, cp, nam⟩, ⟨lo, cl⟩, ur, fa, wk, ro, se, im, ⟨sw1, sw2, sw3, sw4⟩⟩ := inv0
    rw [r66] at wf cp nam lo cl ur se
    have wn0 := wf.1
    have wn1 := wf.2.1
    have c1 := C_copyPar (S := S) (w := w) hS hr ip isPar67 (by omega) wf cp
    have cq1 := CP_cp (x := 211 + 30 * kn) wf cp
    have o1 : ∀ a, a < 211 + 30 * kn ∨ 211 + 30 * kn + 17 < a → cpPar (211 + 30 * kn) 67 Q a = Q a := fun a h => cpPar_out h
    have cl1 : CL 104 (cpPar (211 + 30 * kn) 67 Q) (R 66) := CL_q cl (fun a h1 h2 => o1 a (by omega))
    generalize hQ1 : cpPar (211 + 30 * kn) 67 Q = Q1 at *
    generalize hw1 : cpNam (211 + 30 * kn) 67 w = w1 at *
    have c2 := C_copyLife (S := S) (Q := Q1) (w := w1) hS hr il isLife104 (by omega)
    have cl2 := CL_cp (l := 229 + 30 * kn) (l' := 104) (by omega) (by omega) cl1
    have o2 := FrL_cp (l := 229 + 30 * kn) (l' := 104) (Q := Q1)
    generalize hQ2 : cpLife (229 + 30 * kn) 104 Q1 = Q2 at *
    obtain ⟨c3, hr3⟩ := C_copySen (S := S) (Q := Q2) (w := w1) (s := 237 + 30 * kn) (t := 197) hS hr is (by unfold isSen; omega) (by omega) sw1
    have e2 : ∀ a, (a < 211 + 30 * kn ∨ 240 + 30 * kn < a) → Q2 a = Q a := fun a ha => by rw [o2 a (by omega), o1 a (by omega)]
    have se2 : senR (rf (197 + 1)) (Q2 (197 + 2)) (Q2 (197 + 3)) (Q2 197 3) (Q2 197 4) (R 66) := by
      rw [e2 (197 + 2) (by omega), e2 (197 + 3) (by omega), e2 197 (by omega)]; exact se
    have se3 := senR_cp (s := 237 + 30 * kn) se2
    have o3 : ∀ a, a < 237 + 30 * kn ∨ 237 + 30 * kn + 3 < a → cpSen (237 + 30 * kn) 197 Q2 a = Q2 a := fun a h => cpSen_out h
    have hrfo : ∀ a j, a ≠ 237 + 30 * kn + 1 → rfS rf (237 + 30 * kn) 197 40 a j = rf a j := fun a j h => by
      unfold rfS
      rw [if_neg (fun h2 => h h2.1)]
    have swo : ∀ a, senW (rf a) → senW (rfS rf (237 + 30 * kn) 197 40 a) := fun a ha => senW_cp sw1 ha
    generalize hQ3 : cpSen (237 + 30 * kn) 197 Q2 = Q3 at *
    generalize hrf3 : rfS rf (237 + 30 * kn) 197 40 = rf3 at *
    have e3 : ∀ a, (a < 211 + 30 * kn ∨ 240 + 30 * kn < a) → Q3 a = Q a := fun a ha => by rw [o3 a (by omega), e2 a (by omega)]
    have ma := M_imgA (S := S') (R := th0 R) (w := v) hS' hr' h
    have mb := M_imgB (S := S') (R := setR (th0 R) 68 (cpf (th0 R 68) (th0 R 66) (383 * k) 0 383)) (w := v) hS' hr' hkn h
    have r68 : th0 R 68 = R 68 := th0_ne (by omega)
    rw [r68, r66] at ma mb
    generalize hR1 : setR (th0 R) 68 (cpf (R 68) (R 66) (383 * k) 0 383) = R1 at *
    have R1o : ∀ a, a ≠ 68 → R1 a = th0 R a := fun a ha => by rw [← hR1, setR_ne ha]
    have R1_68 : R1 68 = cpf (R 68) (R 66) (383 * k) 0 383 := by rw [← hR1, setR_same]
    have R1_66 : R1 66 = R 66 := by rw [R1o 66 (by omega), r66]
    have ag : AgW (R 66) (knN (R1 68) kn) := by
      intro j hj
      unfold knN
      rw [R1_68, cpf_in (k := j) (by omega) (by omega)]
    have w1o : ∀ a, a ≠ 211 + 30 * kn + 1 → a ≠ 211 + 30 * kn + 7 → a ≠ 211 + 30 * kn + 14 → w1 a = w a := fun a h1 h2 h3 => by
      rw [← hw1]
      unfold cpNam
      rw [u1_ne h3, u1_ne h2, u1_ne h1]
    refine ⟨I 1, mk (setR Q3 208 (updf (Q3 208) k 1)) w1 rf3, mk (setR R1 74 (updf (R1 74) k 1)) (vK v 73 71 (18 * kn) 0 18) rm, ?_, ?_, _, w1, rf3, _, _, rm, rfl, rfl, hr3, hr', ?_, ?_⟩
    · have g1 : ¬ (k < 0) := by omega
      have g2 : k < 2 := by omega
      simp (disch := first | assumption | omega) only [fX12_image, fX12_image_b9, I_lit, orb_I, I_add, I_sub, I_mul, I_neg, nm_eq, bd0_s, bd2_s, un2_eq, un3_eq, un4_eq, un5_eq, un6_eq, cs2_l, cs2_r, mk_1, mk_2, wI_mk, wL_mk, wR_mk, setR_same, setR_setR, rZ_0, rZ_1, rZ_b2, it_b2, it_nb2, it_b21, it_nb21, I_lt, I_le, I_eq, I_div, castI, if_true, if_false, Classical.not_not, g1, g2, gC64_12]
      rw [ldR_mk (shC205 hS) (by omega) (by omega) (by rw [hkt]; exact f1)]
      simp (disch := first | assumption | omega) only [I_lit, orb_I, I_add, I_sub, I_mul, I_neg, nm_eq, bd0_s, bd2_s, un2_eq, un3_eq, un4_eq, un5_eq, un6_eq, cs2_l, cs2_r, mk_1, mk_2, wI_mk, wL_mk, wR_mk, setR_same, setR_setR, rZ_0, rZ_1, rZ_b2, it_b2, it_nb2, it_b21, it_nb21, I_lt, I_le, I_eq, I_div, castI, if_true, if_false, Classical.not_not, gC64_1, c1, gC64_13]
      rw [ldR_mk (shC206 hS) (by omega) (by omega) (by rw [hkt]; exact f2)]
      simp (disch := first | assumption | omega) only [I_lit, orb_I, I_add, I_sub, I_mul, I_neg, nm_eq, bd0_s, bd2_s, un2_eq, un3_eq, un4_eq, un5_eq, un6_eq, cs2_l, cs2_r, mk_1, mk_2, wI_mk, wL_mk, wR_mk, setR_same, setR_setR, rZ_0, rZ_1, rZ_b2, it_b2, it_nb2, it_b21, it_nb21, I_lt, I_le, I_eq, I_div, castI, if_true, if_false, Classical.not_not, gC64_4, c2, gC64_14]
      rw [ldR_mk (shC207 hS) (by omega) (by omega) (by rw [hkt]; exact f3)]
      simp (disch := first | assumption | omega) only [I_lit, orb_I, I_add, I_sub, I_mul, I_neg, nm_eq, bd0_s, bd2_s, un2_eq, un3_eq, un4_eq, un5_eq, un6_eq, cs2_l, cs2_r, mk_1, mk_2, wI_mk, wL_mk, wR_mk, setR_same, setR_setR, rZ_0, rZ_1, rZ_b2, it_b2, it_nb2, it_b21, it_nb21, I_lt, I_le, I_eq, I_div, castI, if_true, if_false, Classical.not_not, gC64_10, c3, gC64_15]
      rw [stZ_mk (shC208 hS) (by omega) (by omega) (Or.inr rfl)]
    · simp only [fX13_image, th0_I]
      simp (disch := first | assumption | omega) only [I_lit, orb_I, I_add, I_sub, I_mul, I_neg, nm_eq, bd0_s, bd2_s, un2_eq, un3_eq, un4_eq, un5_eq, un6_eq, cs2_l, cs2_r, mk_1, mk_2, wI_mk, wL_mk, wR_mk, setR_same, setR_setR, rZ_0, rZ_1, rZ_b2, it_b2, it_nb2, it_b21, it_nb21, I_lt, I_le, I_eq, I_div, castI, if_true, if_false, Classical.not_not, m1, Int.reduceEq, not_false_eq_true, ma, mb, gM22, stM74]
    · have e : ∀ a, a ≠ 208 → (a < 211 + 30 * kn ∨ 240 + 30 * kn < a) → setR Q3 208 (updf (Q3 208) k 1) a = Q a := fun a h1 h2 => by rw [setR_ne h1, e3 a h2]
      refine ⟨?_, ⟨?_, ?_, ?_⟩, ⟨?_, ?_⟩, ?_, ?_, ?_, ?_, ?_, ?_, ?_⟩
      · simp (disch := first | assumption | omega) only [setR_ne, R1o 64 (by omega), R1o 65 (by omega), e3 65 (by omega), e3 66 (by omega)]; exact ta
      · rw [setR_ne (by omega), R1_66]; exact wf
      · rw [setR_ne (by omega), R1_66]; exact CP_q cp (fun a h1 h2 => e a (by omega) (by omega))
      · rw [setR_ne (by omega), R1_66, w1o 68 (by omega) (by omega) (by omega), w1o 74 (by omega) (by omega) (by omega), w1o 81 (by omega) (by omega) (by omega)]
        have : vK v 73 71 (18 * kn) 0 18 71 = v 71 := funext (fun j => vK_out (by omega))
        rw [this]; exact nam
      · rw [setR_ne (by omega), R1_66]; exact lo
      · rw [setR_ne (by omega), R1_66]; exact CL_q cl (fun a h1 h2 => e a (by omega) (by omega))
      · rw [setR_ne (by omega), setR_ne (by omega), setR_ne (by omega), R1_66, R1o 64 (by omega), R1o 69 (by omega)]
        exact UR_q ur wf (fun a h => e a (by omega) (by omega)) (funext (fun j => hrfo 121 j (by omega))) (AgP_refl _)
      · rw [e 64 (by omega) (by omega), setR_ne (by omega), R1o 64 (by omega)]; exact fa
      · rw [e 189 (by omega) (by omega), e 192 (by omega) (by omega), setR_ne (by omega), setR_ne (by omega), R1o 64 (by omega), R1o 77 (by omega)]; exact wk
      · rw [e 193 (by omega) (by omega), setR_ne (by omega), setR_ne (by omega), R1o 64 (by omega), R1o 80 (by omega)]; exact ro
      · have : rf3 198 = rf 198 := funext (fun j => hrfo 198 j (by omega))
        rw [this, e 199 (by omega) (by omega), e 200 (by omega) (by omega), e 197 (by omega) (by omega), setR_ne (by omega), R1_66]; exact se
      · intro k' hk'
        rw [setR_ne (a := 74) (b := 68) (by omega), setR_same, setR_same, e3 208 (by omega), R1o 74 (by omega)]
        obtain ⟨i1, i2⟩ := im k' hk'
        by_cases hkk : k' = kn
        · subst hkk
          rw [updf_same (by omega), updf_same (by omega)]
          refine ⟨⟨rfl, Or.inr rfl⟩, fun _ => ⟨WFP_w wf ag, ?_, ?_, LOK_w lo (by omega) ag, ?_, ?_⟩⟩
          · exact CP_w (CP_q cq1 (fun a h1 h2 => by rw [setR_ne (by omega), o3 a (by omega), o2 a (by omega)])) wf ag
          · refine namR_w nam wf ag ?_ ?_ ?_ ?_
            · intro j hj
              have : 212 + 30 * k' = 211 + 30 * k' + 1 := by omega
              rw [← hw1, this]
              unfold cpNam
              rw [u1_ne (by omega), u1_ne (by omega), u1_same, if_pos hj]
            · intro j hj
              have : 218 + 30 * k' = 211 + 30 * k' + 7 := by omega
              rw [← hw1, this]
              unfold cpNam
              rw [u1_ne (by omega), u1_same, if_pos hj]
            · intro j hj
              have : 225 + 30 * k' = 211 + 30 * k' + 14 := by omega
              rw [← hw1, this]
              unfold cpNam
              rw [u1_same, if_pos hj]
            · intro j hj
              exact vK_in (by omega) (by omega)
          · exact CL_w ag (by omega) (by omega) (CL_q cl2 (fun a h1 h2 => by rw [setR_ne (by omega), o3 a (by omega)]))
          · rw [setR_ne (by omega), setR_ne (by omega), setR_ne (by omega)]
            have x1 : 238 + 30 * k' = 237 + 30 * k' + 1 := by omega
            have x2 : 239 + 30 * k' = 237 + 30 * k' + 2 := by omega
            have x3 : 240 + 30 * k' = 237 + 30 * k' + 3 := by omega
            rw [x1, x2, x3]
            exact senR_w se3 ag
        · rw [updf_ne (by omega), updf_ne (by omega)]
          have e' : ∀ a, a ≠ 208 → (a < 211 + 30 * kn ∨ 240 + 30 * kn < a) → setR Q3 208 (updf (Q 208) k 1) a = Q a := fun a h1 h2 => by rw [setR_ne h1, e3 a h2]
          refine ⟨i1, fun h1 => ?_⟩
          obtain ⟨j1, j2, j3, j4, j5, j6⟩ := i2 h1
          have r68 : th0 R 68 = R 68 := th0_ne (by omega)
          rw [r68] at j1 j2 j3 j4 j5 j6
          have ag2 : AgW (knN (R 68) k') (knN (R1 68) k') := by
            intro j hj
            unfold knN
            rw [R1_68, cpf_out (by omega)]
          have y0 := j1.1
          have y1 := j1.2.1
          refine ⟨WFP_w j1 ag2, CP_w (CP_q j2 (fun a h1 h2 => e' a (by omega) (by omega))) j1 ag2, ?_, LOK_w j4 (by omega) ag2, CL_w ag2 (by omega) (by omega) (CL_q j5 (fun a h1 h2 => e' a (by omega) (by omega))), ?_⟩
          · refine namR_w j3 j1 ag2 ?_ ?_ ?_ ?_
            · intro j hj
              rw [w1o _ (by omega) (by omega) (by omega)]
            · intro j hj
              rw [w1o _ (by omega) (by omega) (by omega)]
            · intro j hj
              rw [w1o _ (by omega) (by omega) (by omega)]
            · intro j hj
              exact vK_out (by omega)
          · rw [e' _ (by omega) (by omega), e' _ (by omega) (by omega), e' _ (by omega) (by omega)]
            have : rf3 (238 + 30 * k') = rf (238 + 30 * k') := funext (fun j => hrfo _ j (by omega))
            rw [this]
            exact senR_w j6 ag2
      · exact ⟨swo _ sw1, swo _ sw2, swo _ sw3, swo _ sw4⟩
    · simp (disch := first | assumption | omega) only [setR_ne, R1o 64 (by omega), R1o 78 (by omega)]; exact tx0 tx
  · rw [b2_f h] at m1
    refine ⟨I 0, mk Q w rf, mk (th0 R) v rm, ?_, ?_, Q, w, rf, th0 R, v, rm, rfl, rfl, hr, hr', inv0, tx0 tx⟩
    · simp (disch := first | assumption | omega) only [fX12_image, fX12_image_b9, I_lit, orb_I, I_add, I_sub, I_mul, I_neg, nm_eq, bd0_s, bd2_s, un2_eq, un3_eq, un4_eq, un5_eq, un6_eq, cs2_l, cs2_r, mk_1, mk_2, wI_mk, wL_mk, wR_mk, setR_same, setR_setR, rZ_0, rZ_1, rZ_b2, it_b2, it_nb2, it_b21, it_nb21, I_lt, I_le, I_eq, I_div, castI, if_true, if_false, Classical.not_not]
      (repeat' split)
      · rfl
      · omega
      · rfl
    · simp only [fX13_image, th0_I]
      simp (disch := first | assumption | omega) only [I_lit, orb_I, I_add, I_sub, I_mul, I_neg, nm_eq, bd0_s, bd2_s, un2_eq, un3_eq, un4_eq, un5_eq, un6_eq, cs2_l, cs2_r, mk_1, mk_2, wI_mk, wL_mk, wR_mk, setR_same, setR_setR, rZ_0, rZ_1, rZ_b2, it_b2, it_nb2, it_b21, it_nb21, I_lt, I_le, I_eq, I_div, castI, if_true, if_false, Classical.not_not, m1, Int.reduceEq, not_true]
theorem op_restore {S S' : Nat → Nat × Nat} (hS : SCok S) (hS' : SMok S') (a1 : Int32) : OpC1 (fun σ => fX12_restore S σ 64 a1) (fun σ => fX13_restore S' σ 64 a1) := by
  intro t σC σM ⟨Q, w, rf, R, v, rm, q1, q2, hr, hr', inv, tx⟩; subst q1; subst q2
  obtain ⟨k, rfl, hk⟩ := exI a1
  have inv0 := INV_th inv
  have m1 := M_isIn (S := S') (σ := mk (th0 R) v rm) (v := k) (a := 0) (b := 1) hk (by omega) (by omega)
  by_cases h : 0 ≤ k ∧ k ≤ 1
  · rw [b2_t h] at m1
    obtain ⟨kn, hkn⟩ : ∃ kn : Nat, k = kn := ⟨k.toNat, by omega⟩
    have hk2 : kn < 2 := by omega
    have hkt : k.toNat = kn := by omega
    obtain ⟨ip, il, is⟩ := kn_cases hk2
    obtain ⟨f1, f2, f3⟩ := kn_ref hr hk2
    have inv1 := inv0
    obtain ⟨ta, ⟨wf, cp, nam⟩, ⟨lo, cl⟩, ur, fa, wk, ro, se, im, ⟨sw1, sw2, sw3, sw4⟩⟩ := inv0
    have r74 : th0 R 74 = R 74 := th0_ne (by omega)
    have r68 : th0 R 68 = R 68 := th0_ne (by omega)
    obtain ⟨⟨i0, i1⟩, i2⟩ := im kn hk2
    rw [r74] at i0 i1 i2
    rw [r68] at i2
    have i0' : Q 208 k = R 74 k := by rw [hkn]; exact i0
    have i1' : R 74 k = 0 ∨ R 74 k = 1 := by rw [hkn]; exact i1
    have g1 : ¬ (k < 0) := by omega
    have g2 : ¬ (2 ≤ k) := by omega
    by_cases hz : R 74 k = 0
    · refine ⟨I 0, mk Q w rf, mk (th0 R) v rm, ?_, ?_, Q, w, rf, th0 R, v, rm, rfl, rfl, hr, hr', inv1, tx0 tx⟩
      · simp (disch := first | assumption | omega) only [fX12_restore, fX12_restore_b18, I_lit, orb_I, I_add, I_sub, I_mul, I_neg, nm_eq, bd0_s, bd2_s, un2_eq, un3_eq, un4_eq, un5_eq, un6_eq, cs2_l, cs2_r, mk_1, mk_2, wI_mk, wL_mk, wR_mk, setR_same, setR_setR, rZ_0, rZ_1, rZ_b2, it_b2, it_nb2, it_b21, it_nb21, I_lt, I_le, I_eq, I_div, castI, if_true, if_false, Classical.not_not, g1, g2, gC64_15, ldC208, i0', hz, not_true]
      · simp only [fX13_restore, fX13_restore_b23, th0_I]
        simp (disch := first | assumption | omega) only [I_lit, orb_I, I_add, I_sub, I_mul, I_neg, nm_eq, bd0_s, bd2_s, un2_eq, un3_eq, un4_eq, un5_eq, un6_eq, cs2_l, cs2_r, mk_1, mk_2, wI_mk, wL_mk, wR_mk, setR_same, setR_setR, rZ_0, rZ_1, rZ_b2, it_b2, it_nb2, it_b21, it_nb21, I_lt, I_le, I_eq, I_div, castI, if_true, if_false, Classical.not_not, m1, Int.reduceEq, gM22, ldM74, r74, hz, not_true]
    · have hz1 : R 74 k = 1 := by omega
      obtain ⟨j1, j2, j3, j4, j5, j6⟩ := i2 (by rw [← hkn]; exact hz1)
      have wn0 := j1.1
      have wn1 := j1.2.1
      have c1 := C_copyPar (S := S) (w := w) hS hr isPar67 ip (by omega) j1 j2
      have cq1 := CP_cp (x := 67) j1 j2
      have o1 : ∀ a, a < 67 ∨ 67 + 17 < a → cpPar 67 (211 + 30 * kn) Q a = Q a := fun a h => cpPar_out h
      have cl1 : CL (229 + 30 * kn) (cpPar 67 (211 + 30 * kn) Q) (knN (R 68) kn) := CL_q j5 (fun a h1 h2 => o1 a (by omega))
      generalize hQ1 : cpPar 67 (211 + 30 * kn) Q = Q1 at *
      generalize hw1 : cpNam 67 (211 + 30 * kn) w = w1 at *
      have c2 := C_copyLife (S := S) (Q := Q1) (w := w1) hS hr isLife104 il (by omega)
      have cl2 := CL_cp (l := 104) (l' := 229 + 30 * kn) (by omega) (by omega) cl1
      have o2 := FrL_cp (l := 104) (l' := 229 + 30 * kn) (Q := Q1)
      generalize hQ2 : cpLife 104 (229 + 30 * kn) Q1 = Q2 at *
      have x1 : 238 + 30 * kn = 237 + 30 * kn + 1 := by omega
      have x2 : 239 + 30 * kn = 237 + 30 * kn + 2 := by omega
      have x3 : 240 + 30 * kn = 237 + 30 * kn + 3 := by omega
      have swk : senW (rf (237 + 30 * kn + 1)) := by
        have : kn = 0 ∨ kn = 1 := by omega
        rcases this with h | h <;> subst h
        · exact sw3
        · exact sw4
      obtain ⟨c3, hr3⟩ := C_copySen (S := S) (Q := Q2) (w := w1) (s := 197) (t := 237 + 30 * kn) hS hr (by unfold isSen; omega) is (by omega) swk
      have e2 : ∀ a, (a < 67 ∨ (84 < a ∧ a < 104) ∨ 111 < a) → Q2 a = Q a := fun a ha => by rw [o2 a (by omega), o1 a (by omega)]
      have se2 : senR (rf (237 + 30 * kn + 1)) (Q2 (237 + 30 * kn + 2)) (Q2 (237 + 30 * kn + 3)) (Q2 (237 + 30 * kn) 3) (Q2 (237 + 30 * kn) 4) (knN (R 68) kn) := by
        rw [e2 (237 + 30 * kn + 2) (by omega), e2 (237 + 30 * kn + 3) (by omega), e2 (237 + 30 * kn) (by omega), ← x1, ← x2, ← x3]; exact j6
      have se3 := senR_cp (s := 197) se2
      have o3 : ∀ a, a < 197 ∨ 197 + 3 < a → cpSen 197 (237 + 30 * kn) Q2 a = Q2 a := fun a h => cpSen_out h
      have hrfo : ∀ a j, a ≠ 197 + 1 → rfS rf 197 (237 + 30 * kn) 40 a j = rf a j := fun a j h => by
        unfold rfS
        rw [if_neg (fun h2 => h h2.1)]
      have swo : ∀ a, senW (rf a) → senW (rfS rf 197 (237 + 30 * kn) 40 a) := fun a ha => senW_cp swk ha
      generalize hQ3 : cpSen 197 (237 + 30 * kn) Q2 = Q3 at *
      generalize hrf3 : rfS rf 197 (237 + 30 * kn) 40 = rf3 at *
      have e3 : ∀ a, (a < 67 ∨ (84 < a ∧ a < 104) ∨ (111 < a ∧ a < 197) ∨ 200 < a) → Q3 a = Q a := fun a ha => by rw [o3 a (by omega), e2 a (by omega)]
      have ma := M_resA (S := S') (R := th0 R) (w := v) hS' hr' h
      have mb := M_resB (S := S') (R := setR (th0 R) 66 (cpf (th0 R 66) (th0 R 68) 0 (383 * k) 383)) (w := v) hS' hr' hkn h
      rw [r68] at ma mb
      generalize hR1 : setR (th0 R) 66 (cpf (th0 R 66) (R 68) 0 (383 * k) 383) = R1 at *
      have R1o : ∀ a, a ≠ 66 → R1 a = th0 R a := fun a ha => by rw [← hR1, setR_ne ha]
      have ag : AgW (knN (R 68) kn) (R1 66) := by
        intro j hj
        unfold knN
        rw [← hR1, setR_same, cpf_in (k := 383 * kn + j) (by omega) (by omega)]
      have w1o : ∀ a, a ≠ 68 → a ≠ 74 → a ≠ 81 → w1 a = w a := fun a h1 h2 h3 => by
        rw [← hw1]
        unfold cpNam
        rw [u1_ne h3, u1_ne h2, u1_ne h1]
      have e : ∀ a, (a < 67 ∨ (84 < a ∧ a < 104) ∨ (111 < a ∧ a < 120) ∨ (120 < a ∧ a < 197) ∨ 200 < a) → setR Q3 120 (updf (Q3 120) 1 0) a = Q a := fun a h2 => by rw [setR_ne (by omega), e3 a (by omega)]
      have q120 : Q3 120 = Q 120 := e3 120 (by omega)
      refine ⟨I 1, mk (setR Q3 120 (updf (Q3 120) 1 0)) w1 rf3, mk (setR R1 64 (updf (R1 64) 23 0)) (vK v 71 73 0 (18 * kn) 18) rm, ?_, ?_, _, w1, rf3, _, _, rm, rfl, rfl, hr3, hr', ?_, ?_⟩
      · simp (disch := first | assumption | omega) only [fX12_restore, fX12_restore_b18, I_lit, orb_I, I_add, I_sub, I_mul, I_neg, nm_eq, bd0_s, bd2_s, un2_eq, un3_eq, un4_eq, un5_eq, un6_eq, cs2_l, cs2_r, mk_1, mk_2, wI_mk, wL_mk, wR_mk, setR_same, setR_setR, rZ_0, rZ_1, rZ_b2, it_b2, it_nb2, it_b21, it_nb21, I_lt, I_le, I_eq, I_div, castI, if_true, if_false, Classical.not_not, g1, g2, gC64_15, ldC208, i0', hz, not_false_eq_true, gC64_1, gC64_12]
        rw [ldR_mk (shC205 hS) (by omega) (by omega) (by rw [hkt]; exact f1)]
        simp (disch := first | assumption | omega) only [I_lit, orb_I, I_add, I_sub, I_mul, I_neg, nm_eq, bd0_s, bd2_s, un2_eq, un3_eq, un4_eq, un5_eq, un6_eq, cs2_l, cs2_r, mk_1, mk_2, wI_mk, wL_mk, wR_mk, setR_same, setR_setR, rZ_0, rZ_1, rZ_b2, it_b2, it_nb2, it_b21, it_nb21, I_lt, I_le, I_eq, I_div, castI, if_true, if_false, Classical.not_not, c1, gC64_4, gC64_13]
        rw [ldR_mk (shC206 hS) (by omega) (by omega) (by rw [hkt]; exact f2)]
        simp (disch := first | assumption | omega) only [I_lit, orb_I, I_add, I_sub, I_mul, I_neg, nm_eq, bd0_s, bd2_s, un2_eq, un3_eq, un4_eq, un5_eq, un6_eq, cs2_l, cs2_r, mk_1, mk_2, wI_mk, wL_mk, wR_mk, setR_same, setR_setR, rZ_0, rZ_1, rZ_b2, it_b2, it_nb2, it_b21, it_nb21, I_lt, I_le, I_eq, I_div, castI, if_true, if_false, Classical.not_not, c2, gC64_10, gC64_14]
        rw [ldR_mk (shC207 hS) (by omega) (by omega) (by rw [hkt]; exact f3)]
        simp (disch := first | assumption | omega) only [I_lit, orb_I, I_add, I_sub, I_mul, I_neg, nm_eq, bd0_s, bd2_s, un2_eq, un3_eq, un4_eq, un5_eq, un6_eq, cs2_l, cs2_r, mk_1, mk_2, wI_mk, wL_mk, wR_mk, setR_same, setR_setR, rZ_0, rZ_1, rZ_b2, it_b2, it_nb2, it_b21, it_nb21, I_lt, I_le, I_eq, I_div, castI, if_true, if_false, Classical.not_not, c3, gC64_6, fX9_forget]
      · simp only [fX13_restore, fX13_restore_b23, th0_I]
        simp (disch := first | assumption | omega) only [I_lit, orb_I, I_add, I_sub, I_mul, I_neg, nm_eq, bd0_s, bd2_s, un2_eq, un3_eq, un4_eq, un5_eq, un6_eq, cs2_l, cs2_r, mk_1, mk_2, wI_mk, wL_mk, wR_mk, setR_same, setR_setR, rZ_0, rZ_1, rZ_b2, it_b2, it_nb2, it_b21, it_nb21, I_lt, I_le, I_eq, I_div, castI, if_true, if_false, Classical.not_not, m1, Int.reduceEq, gM22, ldM74, r74, hz, not_false_eq_true, ma, mb]
      · refine ⟨?_, ⟨?_, ?_, ?_⟩, ⟨?_, ?_⟩, ?_, ?_, ?_, ?_, ?_, ?_, ?_⟩
        · simp (disch := first | assumption | omega) only [setR_ne, setR_same, updf_ne, R1o 64 (by omega), R1o 65 (by omega), e3 65 (by omega), e3 66 (by omega)]; exact ta
        · rw [setR_ne (by omega)]; exact WFP_w j1 ag
        · rw [setR_ne (by omega)]; exact CP_w (CP_q cq1 (fun a h1 h2 => by rw [setR_ne (by omega), o3 a (by omega), o2 a (by omega)])) j1 ag
        · rw [setR_ne (by omega)]
          refine namR_w j3 j1 ag ?_ ?_ ?_ ?_
          · intro j hj
            rw [← hw1]
            unfold cpNam
            rw [u1_ne (by omega), u1_ne (by omega), u1_same, if_pos hj]
            have : 211 + 30 * kn + 1 = 212 + 30 * kn := by omega
            rw [this]
          · intro j hj
            rw [← hw1]
            unfold cpNam
            rw [u1_ne (by omega), u1_same, if_pos hj]
            have : 211 + 30 * kn + 7 = 218 + 30 * kn := by omega
            rw [this]
          · intro j hj
            rw [← hw1]
            unfold cpNam
            rw [u1_same, if_pos hj]
            have : 211 + 30 * kn + 14 = 225 + 30 * kn := by omega
            rw [this]
          · intro j hj
            exact vK_in (by omega) (by omega)
        · rw [setR_ne (by omega)]; exact LOK_w j4 (by omega) ag
        · rw [setR_ne (by omega)]; exact CL_w ag (by omega) (by omega) (CL_q cl2 (fun a h1 h2 => by rw [setR_ne (by omega), o3 a (by omega)]))
        · rw [setR_same, updf_same rfl]
          obtain ⟨u1, u2, L, u3, u4, u5⟩ := ur
          have hrf : rf3 121 = rf 121 := funext (fun j => hrfo 121 j (by omega))
          exact ⟨by rw [setR_same, updf_same rfl], by omega, L, by rw [hrf]; exact u3, u4, fun i hi => by omega⟩
        · rw [e 64 (by omega), setR_same, updf_ne (by omega), R1o 64 (by omega)]; exact fa
        · rw [e 189 (by omega), e 192 (by omega), setR_same, updf_ne (by omega), setR_ne (by omega), R1o 64 (by omega), R1o 77 (by omega)]; exact wk
        · rw [e 193 (by omega), setR_same, updf_ne (by omega), setR_ne (by omega), R1o 64 (by omega), R1o 80 (by omega)]; exact ro
        · rw [setR_ne (by omega), setR_ne (by omega), setR_ne (by omega), setR_ne (by omega)]
          exact senR_w se3 ag
        · rw [setR_ne (by omega), setR_ne (by omega), R1o 68 (by omega), R1o 74 (by omega)]
          have hv : vK v 71 73 0 (18 * kn) 18 73 = v 73 := funext (fun j => vK_out (by omega))
          rw [hv]
          exact imgR_q im (fun a h => e a (by omega)) (fun a h => w1o a (by omega) (by omega) (by omega)) (funext (fun j => hrfo 238 j (by omega))) (funext (fun j => hrfo 268 j (by omega)))
        · exact ⟨swo _ sw1, swo _ sw2, swo _ sw3, swo _ sw4⟩
      · simp (disch := first | assumption | omega) only [setR_ne, setR_same, updf_ne, R1o 64 (by omega), R1o 78 (by omega)]; exact tx0 tx
  · rw [b2_f h] at m1
    refine ⟨I 0, mk Q w rf, mk (th0 R) v rm, ?_, ?_, Q, w, rf, th0 R, v, rm, rfl, rfl, hr, hr', inv0, tx0 tx⟩
    · simp (disch := first | assumption | omega) only [fX12_restore, fX12_restore_b18, I_lit, orb_I, I_add, I_sub, I_mul, I_neg, nm_eq, bd0_s, bd2_s, un2_eq, un3_eq, un4_eq, un5_eq, un6_eq, cs2_l, cs2_r, mk_1, mk_2, wI_mk, wL_mk, wR_mk, setR_same, setR_setR, rZ_0, rZ_1, rZ_b2, it_b2, it_nb2, it_b21, it_nb21, I_lt, I_le, I_eq, I_div, castI, if_true, if_false, Classical.not_not]
      (repeat' split) <;> first | rfl | omega
    · simp only [fX13_restore, fX13_restore_b23, th0_I]
      simp (disch := first | assumption | omega) only [I_lit, orb_I, I_add, I_sub, I_mul, I_neg, nm_eq, bd0_s, bd2_s, un2_eq, un3_eq, un4_eq, un5_eq, un6_eq, cs2_l, cs2_r, mk_1, mk_2, wI_mk, wL_mk, wR_mk, setR_same, setR_setR, rZ_0, rZ_1, rZ_b2, it_b2, it_nb2, it_b21, it_nb21, I_lt, I_le, I_eq, I_div, castI, if_true, if_false, Classical.not_not, m1, Int.reduceEq]
