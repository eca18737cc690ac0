noncomputable def togK (N : Int → Int) (g : Int) : Nat → Int
  | 0 => 0
  | k + 1 => ii (upA (N (8 + N (56 + g))) (N (16 + N (56 + g))) (N 102 + k) ∧ upA (N (8 + N (60 + g))) (N (16 + N (60 + g))) (N 102 + k)) (togK N g k + 1) (togK N g k)
theorem op_together {S S' : Nat → Nat × Nat} (hS : SCok S) (hS' : SMok S') (a1 a2 : Int32) : OpC0 (fun σ => fX12_together S σ 64 a1 a2) (fun σ => fX13_together S' σ 64 a1 a2) := by
  intro t σC σM ⟨Q, w, rf, R, v, rm, q1, q2, hr, hr', inv, tx⟩; subst q1; subst q2
  obtain ⟨g, rfl, hg⟩ := exI a1
  obtain ⟨n, rfl, hn⟩ := exI a2
  have r66 : th0 R 66 = R 66 := th0_ne (by omega)
  have inv' := inv
  have inv0 := INV_th inv
  obtain ⟨ta, ⟨wf, cp, nam⟩, ⟨lo, cl⟩, ur, fa, wk, ro, se, im, sw⟩ := inv
  have wf0 := inv0.2.1.1
  have fin : ∀ r, fX12_together S (mk Q w rf) 64 (I g) (I n) = some r → fX13_together S' (mk R v rm) 64 (I g) (I n) = some (r, mk (th0 R) v rm) → ∃ r σM', fX12_together S (mk Q w rf) 64 (I g) (I n) = some r ∧ fX13_together S' (mk R v rm) 64 (I g) (I n) = some (r, σM') ∧ SimX t (mk Q w rf) σM' := fun r h1 h2 => ⟨r, _, h1, h2, Q, w, rf, th0 R, v, rm, rfl, rfl, hr, hr', inv0, tx0 tx⟩
  have k1 := C_hasGlass (S := S) (w := w) hS hr wf cp hg
  have m1 := M_isGlass (S := S') (w := v) (R := th0 R) hS' hr' wf0 hg
  rw [r66] at m1
  have k2 := C_isFrom (S := S) (σ := mk Q w rf) (v := n) (a := 1) (b := 60) hn (by omega) (by omega)
  have m2 := M_isIn (S := S') (σ := mk (th0 R) v rm) (v := n) (a := 1) (b := 60) hn (by omega) (by omega)
  by_cases h : 0 ≤ g ∧ g < R 66 1
  · rw [b2_t h] at k1 m1
    by_cases h2 : 1 ≤ n ∧ n ≤ 60
    · rw [b2_t h2] at k2 m2
      have hb := lo.1.1
      obtain ⟨g1, g2, g4, g5⟩ := WFP_own wf h
      have wn0 := wf.1
      have wn1 := wf.2.1
      have cp' := cp
      have cl' := cl
      have c102 := cl.1.1
      generalize hK : (min n (600 - R 66 102)).toNat = K
      have hK2 : (K : Int) = min n (600 - R 66 102) := by omega
      apply fin (I (togK (R 66) g K))
      · have ip67 := isPar67; obtain ⟨⟨c0, c1, c2, c3, c4, c5, c6, c7⟩, cpp, cpg, cpd, cpk⟩ := CPl_of cp
        obtain ⟨f1, f2, f3, f4⟩ := cpg g h.1 h.2
        have l1 := loop_seq (f := fX12_together_L52 S (mk Q w rf) 64 (I g) (I (R 66 102 + K))) (m := 1000) (fun k => (I (togK (R 66) g k), I (R 66 102 + k))) K (r := I (togK (R 66) g K)) (by omega) (by
          intro k hk
          have h5 : ¬ (R 66 102 + (K : Int) ≤ R 66 102 + (k : Int)) := by omega
          simp (disch := first | assumption | omega) only [fX12_together_L52, fX12_together_b104, I_lit, orb_I, I_add, I_sub, I_mul, I_neg, nm_eq, bd0_s, bd2_s, un2_eq, un3_eq, un4_eq, un5_eq, un6_eq, cs2_l, cs2_r, mk_1, mk_2, wI_mk, wL_mk, wR_mk, setR_same, setR_setR, rZ_0, rZ_1, rZ_b2, it_b2, it_nb2, it_b21, it_nb21, I_lt, I_le, I_eq, I_div, castI, if_true, if_false, Classical.not_not, h5, gC64_1, gP0_8, ldP8, f1, gP0_9, ldP9, f2, C_isUp hS hr ip67 wf cp' g1 (⟨by omega, by omega⟩ : 0 ≤ R 66 102 + (k : Int) ∧ R 66 102 + (k : Int) < 2147483648), C_isUp hS hr ip67 wf cp' g2 (⟨by omega, by omega⟩ : 0 ≤ R 66 102 + (k : Int) ∧ R 66 102 + (k : Int) < 2147483648)]
          have ek : R 66 102 + (k : Int) + 1 = R 66 102 + ((k + 1 : Nat) : Int) := by omega
          rw [ek]
          show _ = some (Sum.inl (I (ii _ _ _), _))
          unfold ii
          (repeat' split) <;> first | rfl | (exfalso; simp_all; done)) (by
          have h5 : (R 66 102 + (K : Int) ≤ R 66 102 + (K : Int)) := by omega
          simp (disch := first | assumption | omega) only [fX12_together_L52, I_lit, orb_I, I_add, I_sub, I_mul, I_neg, nm_eq, bd0_s, bd2_s, un2_eq, un3_eq, un4_eq, un5_eq, un6_eq, cs2_l, cs2_r, mk_1, mk_2, wI_mk, wL_mk, wR_mk, setR_same, setR_setR, rZ_0, rZ_1, rZ_b2, it_b2, it_nb2, it_b21, it_nb21, I_lt, I_le, I_eq, I_div, castI, if_true, if_false, Classical.not_not, h5])
        have e0 : (I (togK (R 66) g 0), I (R 66 102 + ((0 : Nat) : Int))) = (I 0, I (R 66 102)) := by
          show (I 0, I (R 66 102 + 0)) = _
          rw [Int.add_zero]
        simp only [e0] at l1
        simp (disch := first | assumption | omega) only [fX12_together, I_lit, orb_I, I_add, I_sub, I_mul, I_neg, nm_eq, bd0_s, bd2_s, un2_eq, un3_eq, un4_eq, un5_eq, un6_eq, cs2_l, cs2_r, mk_1, mk_2, wI_mk, wL_mk, wR_mk, setR_same, setR_setR, rZ_0, rZ_1, rZ_b2, it_b2, it_nb2, it_b21, it_nb21, I_lt, I_le, I_eq, I_div, castI, if_true, if_false, Classical.not_not, gC64_1, k1, Int.reduceEq, k2, not_false_eq_true, gC64_4, fX3_hoursOf, c102, mnI_I, ← hK2, l1]
      · have l1 := loop_seq (f := fX13_together_L36 S' (mk (th0 R) v rm) 64 (I g) (I n)) (m := 1000) (fun k => (I (togK (R 66) g k), I (R 66 102 + k))) K (r := I (togK (R 66) g K)) (by omega) (by
          intro k hk
          have h5 : ¬ (min 600 (R 66 102 + n) ≤ R 66 102 + (k : Int)) := by omega
          have u1 := M_isUp (S := S') (w := v) (R := th0 R) (p := R 66 (56 + g)) (h := R 66 102 + k) hS' hr' wf0 (by omega) (by omega)
          have u2 := M_isUp (S := S') (w := v) (R := th0 R) (p := R 66 (60 + g)) (h := R 66 102 + k) hS' hr' wf0 (by omega) (by omega)
          rw [r66] at u1 u2
          simp (disch := first | assumption | omega) only [fX13_together_L36, fX13_together_b95, I_lit, orb_I, I_add, I_sub, I_mul, I_neg, nm_eq, bd0_s, bd2_s, un2_eq, un3_eq, un4_eq, un5_eq, un6_eq, cs2_l, cs2_r, mk_1, mk_2, wI_mk, wL_mk, wR_mk, setR_same, setR_setR, rZ_0, rZ_1, rZ_b2, it_b2, it_nb2, it_b21, it_nb21, I_lt, I_le, I_eq, I_div, castI, if_true, if_false, Classical.not_not, gM14, ldM66, r66, M_least, h5, u1, u2]
          have ek : R 66 102 + (k : Int) + 1 = R 66 102 + ((k + 1 : Nat) : Int) := by omega
          rw [ek]
          show _ = some (Sum.inl (I (ii _ _ _), _))
          unfold ii
          (repeat' split) <;> first | rfl | (exfalso; simp_all; done)) (by
          have h5 : (min 600 (R 66 102 + n) ≤ R 66 102 + (K : Int)) := by omega
          simp (disch := first | assumption | omega) only [fX13_together_L36, I_lit, orb_I, I_add, I_sub, I_mul, I_neg, nm_eq, bd0_s, bd2_s, un2_eq, un3_eq, un4_eq, un5_eq, un6_eq, cs2_l, cs2_r, mk_1, mk_2, wI_mk, wL_mk, wR_mk, setR_same, setR_setR, rZ_0, rZ_1, rZ_b2, it_b2, it_nb2, it_b21, it_nb21, I_lt, I_le, I_eq, I_div, castI, if_true, if_false, Classical.not_not, gM14, ldM66, r66, M_least, h5])
        have e0 : (I (togK (R 66) g 0), I (R 66 102 + ((0 : Nat) : Int))) = (I 0, I (R 66 102)) := by
          show (I 0, I (R 66 102 + 0)) = _
          rw [Int.add_zero]
        simp only [e0] at l1
        simp only [fX13_together, th0_I]
        simp (disch := first | assumption | omega) only [I_lit, orb_I, I_add, I_sub, I_mul, I_neg, nm_eq, bd0_s, bd2_s, un2_eq, un3_eq, un4_eq, un5_eq, un6_eq, cs2_l, cs2_r, mk_1, mk_2, wI_mk, wL_mk, wR_mk, setR_same, setR_setR, rZ_0, rZ_1, rZ_b2, it_b2, it_nb2, it_b21, it_nb21, I_lt, I_le, I_eq, I_div, castI, if_true, if_false, Classical.not_not, m1, m2, Int.reduceEq, not_false_eq_true, gM14, ldM66, r66, l1]
    · rw [b2_f h2] at k2 m2
      apply fin (I (-1))
      · simp (disch := first | assumption | omega) only [fX12_together, fX12_together_b21, I_lit, orb_I, I_add, I_sub, I_mul, I_neg, nm_eq, bd0_s, bd2_s, un2_eq, un3_eq, un4_eq, un5_eq, un6_eq, cs2_l, cs2_r, mk_1, mk_2, wI_mk, wL_mk, wR_mk, setR_same, setR_setR, rZ_0, rZ_1, rZ_b2, it_b2, it_nb2, it_b21, it_nb21, I_lt, I_le, I_eq, I_div, castI, if_true, if_false, Classical.not_not, gC64_1, k1, Int.reduceEq, k2, not_true]
      · simp only [fX13_together, fX13_together_b23, th0_I]
        simp (disch := first | assumption | omega) only [I_lit, orb_I, I_add, I_sub, I_mul, I_neg, nm_eq, bd0_s, bd2_s, un2_eq, un3_eq, un4_eq, un5_eq, un6_eq, cs2_l, cs2_r, mk_1, mk_2, wI_mk, wL_mk, wR_mk, setR_same, setR_setR, rZ_0, rZ_1, rZ_b2, it_b2, it_nb2, it_b21, it_nb21, I_lt, I_le, I_eq, I_div, castI, if_true, if_false, Classical.not_not, m1, m2, Int.reduceEq, not_true]
  · rw [b2_f h] at k1 m1
    apply fin (I (-1))
    · simp (disch := first | assumption | omega) only [fX12_together, fX12_together_b21, I_lit, orb_I, I_add, I_sub, I_mul, I_neg, nm_eq, bd0_s, bd2_s, un2_eq, un3_eq, un4_eq, un5_eq, un6_eq, cs2_l, cs2_r, mk_1, mk_2, wI_mk, wL_mk, wR_mk, setR_same, setR_setR, rZ_0, rZ_1, rZ_b2, it_b2, it_nb2, it_b21, it_nb21, I_lt, I_le, I_eq, I_div, castI, if_true, if_false, Classical.not_not, gC64_1, k1, Int.reduceEq]
    · simp only [fX13_together, fX13_together_b23, th0_I]
      simp (disch := first | assumption | omega) only [I_lit, orb_I, I_add, I_sub, I_mul, I_neg, nm_eq, bd0_s, bd2_s, un2_eq, un3_eq, un4_eq, un5_eq, un6_eq, cs2_l, cs2_r, mk_1, mk_2, wI_mk, wL_mk, wR_mk, setR_same, setR_setR, rZ_0, rZ_1, rZ_b2, it_b2, it_nb2, it_b21, it_nb21, I_lt, I_le, I_eq, I_div, castI, if_true, if_false, Classical.not_not, m1, Int.reduceEq]
noncomputable def sumR (N : Int → Int) (g h : Int) : Nat → Int
  | 0 => 0
  | k + 1 => sumR N g h k + runA N g (h + k)
theorem sumR_r {N : Int → Int} {g h : Int} (wl : WFL N) (hg : 0 ≤ g ∧ g < 4) (k : Nat) : 0 ≤ sumR N g h k ∧ sumR N g h k ≤ 9 * k := by
  induction k with
  | zero => simp [sumR]
  | succ k ih =>
    have := runA_r (h := h + k) wl hg
    simp only [sumR]
    omega
theorem sumR_front {N : Int → Int} {g h : Int} (k : Nat) : sumR N g (h - 1) (k + 1) = runA N g (h - 1) + sumR N g h k := by
  induction k with
  | zero => simp [sumR]
  | succ k ih =>
    have e : h - 1 + ((k + 1 : Nat) : Int) = h + k := by omega
    show sumR N g (h - 1) (k + 1) + runA N g (h - 1 + ((k + 1 : Nat) : Int)) = _
    rw [ih, e]
    simp only [sumR]
    omega
noncomputable def rk (N : Int → Int) (g : Int) (k : Nat) : Int := max 0 (N (64 + g) - sumR N g (N 102 - k) k)
noncomputable def rbK (N : Int → Int) (g b : Int) : Nat → Int32
  | 0 => I 0
  | k + 1 => ii (rk N g k = b) (rbK N g b k ||| (I 1 <<< (I k &&& I 31))) (rbK N g b k)
theorem M_ringIn {S : Nat → Nat × Nat} {R : Nat → Int → Int} {w : Nat → Nat → Int64} {rf : Nat → Nat → Option Nat} {g : Int} {k : Nat} {x3 x4 : Int32} (hS : SMok S) (hr : RMok rf) (wf : WFP (R 66)) (wl : WFL (R 66)) (hg : 0 ≤ g ∧ g < 4) (hk : k ≤ 24) (hkh : k ≤ R 66 102) : loopN (fX13_rings_L78 S (mk R w rf) 64 (I g) x3 x4) 1000 (I (R 66 (64 + g)), I (R 66 102 - k)) = some (I (rk (R 66) g k)) := by
  have hb := wl.1
  have wn := wf.2.2.2.2.2.2.2.2.2.2.2.2.2.2.2.1 g hg.1 hg.2
  have l1 := loop_seq (f := fX13_rings_L78 S (mk R w rf) 64 (I g) x3 x4) (m := 1000) (fun j => (I (max 0 (R 66 (64 + g) - sumR (R 66) g (R 66 102 - k) j)), I (R 66 102 - k + j))) k (r := I (rk (R 66) g k)) (by omega) (by
    intro j hj
    have h5 : ¬ (R 66 102 ≤ R 66 102 - (k : Int) + (j : Int)) := by omega
    have hs := sumR_r (h := R 66 102 - k) wl hg j
    have hs2 := runA_r (h := R 66 102 - k + j) wl hg
    simp (disch := first | assumption | omega) only [fX13_rings_L78, I_lit, orb_I, I_add, I_sub, I_mul, I_neg, nm_eq, bd0_s, bd2_s, un2_eq, un3_eq, un4_eq, un5_eq, un6_eq, cs2_l, cs2_r, mk_1, mk_2, wI_mk, wL_mk, wR_mk, setR_same, setR_setR, rZ_0, rZ_1, rZ_b2, it_b2, it_nb2, it_b21, it_nb21, I_lt, I_le, I_eq, I_div, castI, if_true, if_false, Classical.not_not, gM14, ldM66, h5, M_runs hS hr wf wl hg (⟨by omega, by omega⟩ : -1 ≤ R 66 102 - (k : Int) + (j : Int) ∧ R 66 102 - (k : Int) + (j : Int) ≤ 600), M_least]
    congr 3
    · congr 1
      simp only [sumR]
      omega
    · congr 1
      omega) (by
    have h5 : (R 66 102 ≤ R 66 102 - (k : Int) + (k : Int)) := by omega
    simp (disch := first | assumption | omega) only [fX13_rings_L78, I_lit, orb_I, I_add, I_sub, I_mul, I_neg, nm_eq, bd0_s, bd2_s, un2_eq, un3_eq, un4_eq, un5_eq, un6_eq, cs2_l, cs2_r, mk_1, mk_2, wI_mk, wL_mk, wR_mk, setR_same, setR_setR, rZ_0, rZ_1, rZ_b2, it_b2, it_nb2, it_b21, it_nb21, I_lt, I_le, I_eq, I_div, castI, if_true, if_false, Classical.not_not, gM14, ldM66, h5]
    rfl)
  have e0 : (I (max 0 (R 66 (64 + g) - sumR (R 66) g (R 66 102 - k) 0)), I (R 66 102 - k + ((0 : Nat) : Int))) = (I (R 66 (64 + g)), I (R 66 102 - k)) := by
    congr 1
    · congr 1
      simp only [sumR]
      omega
    · congr 1
      omega
  simp only [e0] at l1
  exact l1
theorem M_ring {S : Nat → Nat × Nat} {R : Nat → Int → Int} {w : Nat → Nat → Int64} {rf : Nat → Nat → Option Nat} {g b : Int} (hS : SMok S) (hr : RMok rf) (wf : WFP (R 66)) (wl : WFL (R 66)) (hg : 0 ≤ g ∧ g < 4) (hb0 : R 65 0 = b) (hb1 : 0 ≤ b ∧ b ≤ 255) : loopN (fX13_rings_L38 S (mk R w rf) 64 (I g)) 1000 (I 0, I 0) = some (rbK (R 66) g b (min 24 (R 66 102) + 1).toNat) := by
  have hb := wl.1
  have wn := wf.2.2.2.2.2.2.2.2.2.2.2.2.2.2.2.1 g hg.1 hg.2
  refine loop_seq (f := fX13_rings_L38 S (mk R w rf) 64 (I g)) (m := 1000) (fun k => (rbK (R 66) g b k, I k)) (min 24 (R 66 102) + 1).toNat (by omega) ?_ ?_
  · intro k hk
    have h5 : ¬ (min 24 (R 66 102) < (k : Int)) := by omega
    have hs := sumR_r (h := R 66 102 - k) wl hg k
    have hrk : 0 ≤ rk (R 66) g k ∧ rk (R 66) g k ≤ 250 := by unfold rk; omega
    simp (disch := first | assumption | omega) only [fX13_rings_L38, fX13_rings_b131, I_lit, orb_I, I_add, I_sub, I_mul, I_neg, nm_eq, bd0_s, bd2_s, un2_eq, un3_eq, un4_eq, un5_eq, un6_eq, cs2_l, cs2_r, mk_1, mk_2, wI_mk, wL_mk, wR_mk, setR_same, setR_setR, rZ_0, rZ_1, rZ_b2, it_b2, it_nb2, it_b21, it_nb21, I_lt, I_le, I_eq, I_div, castI, if_true, if_false, Classical.not_not, gM14, ldM66, M_least, h5, M_ringIn hS hr wf wl hg (by omega : k ≤ 24) (by omega : (k : Int) ≤ R 66 102), gM1, ldM65, hb0]
    show _ = some (Sum.inl (ii _ _ _, _))
    by_cases h : rk (R 66) g k = b
    · rw [ii_t h, if_neg (by omega)]; rfl
    · rw [ii_f h, if_pos h]; rfl
  · have h5 : (min 24 (R 66 102) < ((min 24 (R 66 102) + 1).toNat : Int)) := by omega
    simp (disch := first | assumption | omega) only [fX13_rings_L38, I_lit, orb_I, I_add, I_sub, I_mul, I_neg, nm_eq, bd0_s, bd2_s, un2_eq, un3_eq, un4_eq, un5_eq, un6_eq, cs2_l, cs2_r, mk_1, mk_2, wI_mk, wL_mk, wR_mk, setR_same, setR_setR, rZ_0, rZ_1, rZ_b2, it_b2, it_nb2, it_b21, it_nb21, I_lt, I_le, I_eq, I_div, castI, if_true, if_false, Classical.not_not, gM14, ldM66, M_least, h5]
theorem rk_succ {N : Int → Int} {g : Int} {k : Nat} (wl : WFL N) (hg : 0 ≤ g ∧ g < 4) : rk N g (k + 1) = max 0 (rk N g k - runA N g (N 102 - ((k + 1 : Nat) : Int))) := by
  unfold rk
  have e : N 102 - ((k + 1 : Nat) : Int) = N 102 - k - 1 := by omega
  rw [e, sumR_front]
  have := runA_r (h := N 102 - k - 1) wl hg
  omega
theorem C_ring {S : Nat → Nat × Nat} {Q : Nat → Int → Int} {w : Nat → Nat → Int64} {rf : Nat → Nat → Option Nat} {N : Int → Int} {g b : Int} (hS : SCok S) (hr : RCok rf) (wf : WFP N) (wl : WFL N) (cp : CP 67 Q N) (cl : CL 104 Q N) (hg : 0 ≤ g ∧ g < N 1) (hb1 : 0 ≤ b ∧ b ≤ 255) : fX12_ringBits S (mk Q w rf) 64 (I g) (I b) = some (rbK N g b (min 24 (N 102) + 1).toNat) := by
  have hb := wl.1
  have wn := wf.2.2.2.2.2.2.2.2.2.2.2.2.2.2.2.1 g hg.1 (by have := wf.2.1; omega)
  have wn1 := wf.2.1
  have cp' := cp
  have ip67 := isPar67; obtain ⟨⟨c0, c1, c2, c3, c4, c5, c6, c7⟩, cpp, cpg, cpd, cpk⟩ := CPl_of cp
  have c102 := cl.1.1
  have hg4 : 0 ≤ g ∧ g < 4 := by omega
  obtain ⟨f1, f2, f3, f4⟩ := cpg g hg.1 hg.2
  have l1 := loop_seq (f := fX12_ringBits_L16 S (mk Q w rf) 64 (I g) (I b)) (m := 1000) (fun k => (rbK N g b k, I (ii ((k : Int) = 0) (N (64 + g)) (rk N g (k - 1))), I k)) (min 24 (N 102) + 1).toNat (r := rbK N g b (min 24 (N 102) + 1).toNat) (by omega) (by
    intro k hk
    have h5 : ¬ (24 < (k : Int)) := by omega
    have h6 : ¬ (N 102 < (k : Int)) := by omega
    have hs := sumR_r (h := N 102 - k) wl hg4 k
    have hrk : 0 ≤ rk N g k ∧ rk N g k ≤ 250 := by unfold rk; omega
    have hnx : (ii (((k + 1 : Nat) : Int) = 0) (N (64 + g)) (rk N g (k + 1 - 1))) = rk N g k := by
      rw [ii_f (by omega)]; rfl
    by_cases hk0 : k = 0
    · subst hk0
      have e : rk N g 0 = N (64 + g) := by
        unfold rk
        simp only [sumR]
        omega
      have h5' : ¬ ((24 : Int) < 0) := by omega
      have h6' : ¬ (N 102 < 0) := by omega
      have e2 : (0 : Int) ≤ 0 := by omega
      have hi : ii (((0 : Nat) : Int) = 0) (N (64 + g)) (rk N g (0 - 1)) = N (64 + g) := ii_t (by omega)
      simp only [hi]
      simp (disch := first | assumption | omega) only [fX12_ringBits_L16, fX12_ringBits_b67, fX12_ringBits_b80, I_lit, orb_I, I_add, I_sub, I_mul, I_neg, nm_eq, bd0_s, bd2_s, un2_eq, un3_eq, un4_eq, un5_eq, un6_eq, cs2_l, cs2_r, mk_1, mk_2, wI_mk, wL_mk, wR_mk, setR_same, setR_setR, rZ_0, rZ_1, rZ_b2, it_b2, it_nb2, it_b21, it_nb21, I_lt, I_le, I_eq, I_div, castI, if_true, if_false, Classical.not_not, h5', gC64_4, c102, h6', e2]
      rw [hnx, e]
      show _ = some (Sum.inl (ii _ _ _, _, _))
      rw [e]
      by_cases h : N (64 + g) = b
      · rw [ii_t h, if_neg (by omega)]; rfl
      · rw [ii_f h, if_pos h]; rfl
    · have h7 : ¬ ((k : Int) ≤ 0) := by omega
      have h8 : ¬ ((k : Int) = 0) := by omega
      have e := rk_succ (N := N) (g := g) (k := k - 1) wl hg4
      have e2 : k - 1 + 1 = k := by omega
      rw [e2] at e
      have hs' := sumR_r (h := N 102 - ((k - 1 : Nat) : Int)) wl hg4 (k - 1)
      have hrk' : 0 ≤ rk N g (k - 1) ∧ rk N g (k - 1) ≤ 250 := by unfold rk; omega
      have hrn := runA_r (h := N 102 - k) wl hg4
      simp (disch := first | assumption | omega) only [fX12_ringBits_L16, fX12_ringBits_b67, fX12_ringBits_b80, I_lit, orb_I, I_add, I_sub, I_mul, I_neg, nm_eq, bd0_s, bd2_s, un2_eq, un3_eq, un4_eq, un5_eq, un6_eq, cs2_l, cs2_r, mk_1, mk_2, wI_mk, wL_mk, wR_mk, setR_same, setR_setR, rZ_0, rZ_1, rZ_b2, it_b2, it_nb2, it_b21, it_nb21, I_lt, I_le, I_eq, I_div, castI, if_true, if_false, Classical.not_not, h5, gC64_4, c102, h6, h7, ii_f h8, C_runsAt hS hr isLife104 wf wl cp' cl hg (⟨by omega, by omega⟩ : -1 ≤ N 102 - (k : Int) ∧ N 102 - (k : Int) ≤ 600), mxI_I]
      rw [hnx, ← e]
      show _ = some (Sum.inl (ii _ _ _, _, _))
      by_cases h : rk N g k = b
      · rw [ii_t h, if_neg (by omega)]; rfl
      · rw [ii_f h, if_pos h]; rfl) (by
    by_cases h6 : 24 ≤ N 102
    · have h5 : (24 < ((min 24 (N 102) + 1).toNat : Int)) := by omega
      simp (disch := first | assumption | omega) only [fX12_ringBits_L16, I_lit, orb_I, I_add, I_sub, I_mul, I_neg, nm_eq, bd0_s, bd2_s, un2_eq, un3_eq, un4_eq, un5_eq, un6_eq, cs2_l, cs2_r, mk_1, mk_2, wI_mk, wL_mk, wR_mk, setR_same, setR_setR, rZ_0, rZ_1, rZ_b2, it_b2, it_nb2, it_b21, it_nb21, I_lt, I_le, I_eq, I_div, castI, if_true, if_false, Classical.not_not, h5]
    · have h5 : ¬ (24 < ((min 24 (N 102) + 1).toNat : Int)) := by omega
      have h7 : (N 102 < ((min 24 (N 102) + 1).toNat : Int)) := by omega
      simp (disch := first | assumption | omega) only [fX12_ringBits_L16, I_lit, orb_I, I_add, I_sub, I_mul, I_neg, nm_eq, bd0_s, bd2_s, un2_eq, un3_eq, un4_eq, un5_eq, un6_eq, cs2_l, cs2_r, mk_1, mk_2, wI_mk, wL_mk, wR_mk, setR_same, setR_setR, rZ_0, rZ_1, rZ_b2, it_b2, it_nb2, it_b21, it_nb21, I_lt, I_le, I_eq, I_div, castI, if_true, if_false, Classical.not_not, h5, h7, gC64_4, c102])
  have e0 : (rbK N g b 0, I (ii (((0 : Nat) : Int) = 0) (N (64 + g)) (rk N g (0 - 1))), I ((0 : Nat) : Int)) = (I 0, I (N (64 + g)), I 0) := by
    rw [ii_t (by omega)]; rfl
  simp only [e0] at l1
  simp (disch := first | assumption | omega) only [fX12_ringBits, fX12_ringBits_b86, I_lit, orb_I, I_add, I_sub, I_mul, I_neg, nm_eq, bd0_s, bd2_s, un2_eq, un3_eq, un4_eq, un5_eq, un6_eq, cs2_l, cs2_r, mk_1, mk_2, wI_mk, wL_mk, wR_mk, setR_same, setR_setR, rZ_0, rZ_1, rZ_b2, it_b2, it_nb2, it_b21, it_nb21, I_lt, I_le, I_eq, I_div, castI, if_true, if_false, Classical.not_not, gC64_1, gP0_10, ldP10, f3, l1]
theorem sb_255 {b : Int} (hb : 0 ≤ b ∧ b ≤ 255) : I (sb b) &&& I 255 = I b := by
  have h : ∀ n : Fin 256, I (sb (n.val : Int)) &&& I 255 = I (n.val : Int) := by decide +kernel
  have := h ⟨b.toNat, by omega⟩
  have e : ((b.toNat : Nat) : Int) = b := by omega
  simp only [e] at this
  exact this
theorem C_isRunning {S : Nat → Nat × Nat} {Q : Nat → Int → Int} {w : Nat → Nat → Int64} {rf : Nat → Nat → Option Nat} {N : Int → Int} {g : Int} (hS : SCok S) (hr : RCok rf) (wf : WFP N) (cp : CP 67 Q N) (cl : CL 104 Q N) (hg : -2147483648 ≤ g ∧ g < 2147483648) : fX12_isRunning S (mk Q w rf) 64 (I g) = some (b2 ((0 ≤ g ∧ g < N 1) ∧ ¬ lapA N g)) := by
  simp (disch := first | assumption | omega) only [fX12_isRunning, fX12_isRunning_b26, fX12_isRunning_b27, I_lit, orb_I, I_add, I_sub, I_mul, I_neg, nm_eq, bd0_s, bd2_s, un2_eq, un3_eq, un4_eq, un5_eq, un6_eq, cs2_l, cs2_r, mk_1, mk_2, wI_mk, wL_mk, wR_mk, setR_same, setR_setR, rZ_0, rZ_1, rZ_b2, it_b2, it_nb2, it_b21, it_nb21, I_lt, I_le, I_eq, I_div, castI, if_true, if_false, Classical.not_not, gC64_1, gC64_4, C_hasGlass hS hr wf cp hg, C_isLapsed cl]
  by_cases h : 0 ≤ g ∧ g < N 1
  · by_cases h2 : lapA N g
    · rw [b2_f (fun h => h.2 h2), if_pos h, if_pos h2]; rfl
    · rw [b2_t ⟨h, h2⟩, if_pos h, if_neg h2]; rfl
  · rw [b2_f (fun h' => h h'.1), if_neg h]; rfl
theorem op_rings {S S' : Nat → Nat × Nat} (hS : SCok S) (hS' : SMok S') (a1 : Int32) : OpC1 (fun σ => fX12_rings S σ 64 a1) (fun σ => fX13_rings S' σ 64 a1) := by
  intro t σC σM ⟨Q, w, rf, R, v, rm, q1, q2, hr, hr', inv, tx⟩; subst q1; subst q2
  obtain ⟨g, rfl, hg⟩ := exI a1
  have inv0 := INV_th inv
  have r66 : th0 R 66 = R 66 := th0_ne (by omega)
  have r2 : th0 R 64 2 = R 64 2 := th0_64 (by omega)
  obtain ⟨t1, t2, t3⟩ := inv.1
  generalize hQ : setR Q 65 (updf (Q 65) 1 0) = Q1
  generalize hR : setR (th0 R) 64 (updf (th0 R 64) 2 0) = R1
  have inv1 : INV Q1 w rf R1 v := INV_tape inv0 (fun a h1 h2 => by rw [← hQ, setR_ne h1]) (fun a h1 h2 => by rw [← hR, setR_ne h1]) (fun j hj => by rw [← hR, setR_same, updf_ne hj]) (by
    rw [← hQ, ← hR]
    simp (disch := first | assumption | omega) only [setR_same, updf_same]
    exact ⟨rfl, by omega, fun i h1 h2 => by omega⟩)
  have R1_66 : R1 66 = R 66 := by rw [← hR, setR_ne (by omega), r66]
  have R1_65 : R1 65 = R 65 := by rw [← hR, setR_ne (by omega), th0_ne (by omega)]
  have tx1 : texR t (R1 64 32) (R1 78) := by
    rw [← hR]
    simp (disch := first | assumption | omega) only [setR_ne, setR_same, updf_ne]
    exact tx0 tx
  have fin : ∀ r, fX12_rings S (mk Q w rf) 64 (I g) = some (r, mk Q1 w rf) → fX13_rings S' (mk R v rm) 64 (I g) = some (r, mk R1 v rm) → ∃ r σC' σM', fX12_rings S (mk Q w rf) 64 (I g) = some (r, σC') ∧ fX13_rings S' (mk R v rm) 64 (I g) = some (r, σM') ∧ SimX t σC' σM' := fun r h1 h2 => ⟨r, _, _, h1, h2, Q1, w, rf, R1, v, rm, rfl, rfl, hr, hr', inv1, tx1⟩
  obtain ⟨ta, ⟨wf, cp, nam⟩, ⟨lo, cl⟩, -⟩ := inv1
  have k1 := C_isRunning (S := S) (w := w) hS hr wf cp cl hg
  have m1 := M_isGlass (S := S') (w := v) (R := R1) hS' hr' wf hg
  have m2 := M_isLapsed (S := S') (w := v) (R := R1) (g := g) hS' hr'
  have wn1 := wf.2.1
  rw [R1_66] at wn1
  by_cases h1 : R 64 2 = 1
  · obtain ⟨b1, b2'⟩ := t3 0 (by omega) (by omega)
    have hb0 := b1
    have fb : fX8_firstByte S (mk Q w rf) 65 = some (I (R 65 0)) := by
      simp (disch := first | assumption | omega) only [fX8_firstByte, I_lit, orb_I, I_add, I_sub, I_mul, I_neg, nm_eq, bd0_s, bd2_s, un2_eq, un3_eq, un4_eq, un5_eq, un6_eq, cs2_l, cs2_r, mk_1, mk_2, wI_mk, wL_mk, wR_mk, setR_same, setR_setR, rZ_0, rZ_1, rZ_b2, it_b2, it_nb2, it_b21, it_nb21, I_lt, I_le, I_eq, I_div, castI, if_true, if_false, Classical.not_not, gC65_0, ldC66, b2', sb_255 b1]
    have hne : ¬ (R 65 0 = -1) := by omega
    by_cases h2 : 0 ≤ g ∧ g < R 66 1
    · by_cases h3 : lapA (R 66) g
      · rw [b2_f (fun h => by rw [R1_66] at h; exact h.2 h3)] at k1
        rw [b2_t (by rw [R1_66]; exact h2)] at m1
        rw [b2_t (by rw [R1_66]; exact h3)] at m2
        apply fin (I (-1))
        · simp (disch := first | assumption | omega) only [fX12_rings, fX12_rings_b22, fX12_rings_b53, fX12_rings_b54, I_lit, orb_I, I_add, I_sub, I_mul, I_neg, nm_eq, bd0_s, bd2_s, un2_eq, un3_eq, un4_eq, un5_eq, un6_eq, cs2_l, cs2_r, mk_1, mk_2, wI_mk, wL_mk, wR_mk, setR_same, setR_setR, rZ_0, rZ_1, rZ_b2, it_b2, it_nb2, it_b21, it_nb21, I_lt, I_le, I_eq, I_div, castI, if_true, if_false, Classical.not_not, gC64_0, t1, h1, not_true, fb, hne, hQ, k1, Int.reduceEq]
        · simp only [fX13_rings, fX13_rings_b31, th0_I, fX13_take]
          simp (disch := first | assumption | omega) only [I_lit, orb_I, I_add, I_sub, I_mul, I_neg, nm_eq, bd0_s, bd2_s, un2_eq, un3_eq, un4_eq, un5_eq, un6_eq, cs2_l, cs2_r, mk_1, mk_2, wI_mk, wL_mk, wR_mk, setR_same, setR_setR, rZ_0, rZ_1, rZ_b2, it_b2, it_nb2, it_b21, it_nb21, I_lt, I_le, I_eq, I_div, castI, if_true, if_false, Classical.not_not, r2, h1, hR, not_true, m1, m2, Int.reduceEq]
      · rw [b2_t (by rw [R1_66]; exact ⟨h2, h3⟩)] at k1
        rw [b2_t (by rw [R1_66]; exact h2)] at m1
        rw [b2_f (by rw [R1_66]; exact h3)] at m2
        have kr := C_ring (S := S) (w := w) (b := R 65 0) hS hr wf lo.1 cp cl (by rw [R1_66]; exact h2) b1
        have mr := M_ring (S := S') (w := v) (R := R1) (g := g) (b := R 65 0) hS' hr' wf lo.1 (by omega) (by rw [R1_65]) b1
        apply fin (rbK (R1 66) g (R 65 0) (min 24 (R1 66 102) + 1).toNat)
        · simp (disch := first | assumption | omega) only [fX12_rings, fX12_rings_b22, fX12_rings_b53, fX12_rings_b54, I_lit, orb_I, I_add, I_sub, I_mul, I_neg, nm_eq, bd0_s, bd2_s, un2_eq, un3_eq, un4_eq, un5_eq, un6_eq, cs2_l, cs2_r, mk_1, mk_2, wI_mk, wL_mk, wR_mk, setR_same, setR_setR, rZ_0, rZ_1, rZ_b2, it_b2, it_nb2, it_b21, it_nb21, I_lt, I_le, I_eq, I_div, castI, if_true, if_false, Classical.not_not, gC64_0, t1, h1, not_true, fb, hne, hQ, k1, Int.reduceEq, kr]
        · simp only [fX13_rings, fX13_rings_b31, th0_I, fX13_take]
          simp (disch := first | assumption | omega) only [I_lit, orb_I, I_add, I_sub, I_mul, I_neg, nm_eq, bd0_s, bd2_s, un2_eq, un3_eq, un4_eq, un5_eq, un6_eq, cs2_l, cs2_r, mk_1, mk_2, wI_mk, wL_mk, wR_mk, setR_same, setR_setR, rZ_0, rZ_1, rZ_b2, it_b2, it_nb2, it_b21, it_nb21, I_lt, I_le, I_eq, I_div, castI, if_true, if_false, Classical.not_not, r2, h1, hR, not_true, m1, m2, Int.reduceEq, mr]
    · rw [b2_f (fun h => by rw [R1_66] at h; exact h2 h.1)] at k1
      rw [b2_f (by rw [R1_66]; exact h2)] at m1
      apply fin (I (-1))
      · simp (disch := first | assumption | omega) only [fX12_rings, fX12_rings_b22, fX12_rings_b53, fX12_rings_b54, I_lit, orb_I, I_add, I_sub, I_mul, I_neg, nm_eq, bd0_s, bd2_s, un2_eq, un3_eq, un4_eq, un5_eq, un6_eq, cs2_l, cs2_r, mk_1, mk_2, wI_mk, wL_mk, wR_mk, setR_same, setR_setR, rZ_0, rZ_1, rZ_b2, it_b2, it_nb2, it_b21, it_nb21, I_lt, I_le, I_eq, I_div, castI, if_true, if_false, Classical.not_not, gC64_0, t1, h1, not_true, fb, hne, hQ, k1, Int.reduceEq]
      · simp only [fX13_rings, fX13_rings_b31, th0_I, fX13_take]
        simp (disch := first | assumption | omega) only [I_lit, orb_I, I_add, I_sub, I_mul, I_neg, nm_eq, bd0_s, bd2_s, un2_eq, un3_eq, un4_eq, un5_eq, un6_eq, cs2_l, cs2_r, mk_1, mk_2, wI_mk, wL_mk, wR_mk, setR_same, setR_setR, rZ_0, rZ_1, rZ_b2, it_b2, it_nb2, it_b21, it_nb21, I_lt, I_le, I_eq, I_div, castI, if_true, if_false, Classical.not_not, r2, h1, hR, not_true, m1, Int.reduceEq]
  · apply fin (I (-1))
    · simp (disch := first | assumption | omega) only [fX12_rings, fX12_rings_b22, fX12_rings_b53, fX12_rings_b54, I_lit, orb_I, I_add, I_sub, I_mul, I_neg, nm_eq, bd0_s, bd2_s, un2_eq, un3_eq, un4_eq, un5_eq, un6_eq, cs2_l, cs2_r, mk_1, mk_2, wI_mk, wL_mk, wR_mk, setR_same, setR_setR, rZ_0, rZ_1, rZ_b2, it_b2, it_nb2, it_b21, it_nb21, I_lt, I_le, I_eq, I_div, castI, if_true, if_false, Classical.not_not, gC64_0, t1, h1, not_false_eq_true, hQ]
    · simp only [fX13_rings, fX13_rings_b31, th0_I, fX13_take]
      simp (disch := first | assumption | omega) only [I_lit, orb_I, I_add, I_sub, I_mul, I_neg, nm_eq, bd0_s, bd2_s, un2_eq, un3_eq, un4_eq, un5_eq, un6_eq, cs2_l, cs2_r, mk_1, mk_2, wI_mk, wL_mk, wR_mk, setR_same, setR_setR, rZ_0, rZ_1, rZ_b2, it_b2, it_nb2, it_b21, it_nb21, I_lt, I_le, I_eq, I_div, castI, if_true, if_false, Classical.not_not, r2, h1, hR, not_false_eq_true]
