noncomputable def bitsK (N : Int → Int) : Nat → Int32
  | 0 => I 0
  | k + 1 => ii (awkA N k (N 102)) (bitsK N k ||| (I 1 <<< (I k &&& I 31))) (bitsK N k)
def sumK (N : Int → Int) (b : Int) : Nat → Int
  | 0 => 0
  | k + 1 => sumK N b k + N (b + k)
theorem M_bits {S : Nat → Nat × Nat} {R : Nat → Int → Int} {w : Nat → Nat → Int64} {rf : Nat → Nat → Option Nat} (hS : SMok S) (hr : RMok rf) (wf : WFP (R 66)) (wl : WFL (R 66)) : loopN (fX13_now_L86 S (mk R w rf) 64) 1000 (I 0, I 0) = some (bitsK (R 66) (R 66 0).toNat) := by
  have wn0 := wf.1
  have hb := wl.1
  refine loop_seq (f := fX13_now_L86 S (mk R w rf) 64) (m := 1000) (fun k => (bitsK (R 66) k, I k)) (R 66 0).toNat (by omega) ?_ ?_
  · intro k hk
    have h5 : ¬ (R 66 0 ≤ (k : Int)) := by omega
    simp (disch := first | assumption | omega) only [fX13_now_L86, fX13_now_b117, I_lit, orb_I, I_add, I_sub, I_mul, I_neg, nm_eq, bd0_s, bd2_s, un2_eq, un3_eq, un4_eq, un5_eq, un6_eq, cs2_l, cs2_r, mk_1, mk_2, wI_mk, wL_mk, wR_mk, setR_same, setR_setR, rZ_0, rZ_1, rZ_b2, it_b2, it_nb2, it_b21, it_nb21, I_lt, I_le, I_eq, I_div, castI, if_true, if_false, Classical.not_not, gM14, ldM66, h5, M_isAwake hS hr wf wl (⟨by omega, by omega⟩ : 0 ≤ (k : Int) ∧ (k : Int) < 8) hb]
    show _ = some (Sum.inl (ii _ _ _, _))
    by_cases h : awkA (R 66) k (R 66 102)
    · rw [ii_t h, if_pos h]; rfl
    · rw [ii_f h, if_neg h]; rfl
  · have h5 : (R 66 0 ≤ ((R 66 0).toNat : Int)) := by omega
    simp (disch := first | assumption | omega) only [fX13_now_L86, I_lit, orb_I, I_add, I_sub, I_mul, I_neg, nm_eq, bd0_s, bd2_s, un2_eq, un3_eq, un4_eq, un5_eq, un6_eq, cs2_l, cs2_r, mk_1, mk_2, wI_mk, wL_mk, wR_mk, setR_same, setR_setR, rZ_0, rZ_1, rZ_b2, it_b2, it_nb2, it_b21, it_nb21, I_lt, I_le, I_eq, I_div, castI, if_true, if_false, Classical.not_not, gM14, ldM66, h5]
theorem C_bits {S : Nat → Nat × Nat} {Q : Nat → Int → Int} {w : Nat → Nat → Int64} {rf : Nat → Nat → Option Nat} {N : Int → Int} {l : Nat} (hS : SCok S) (hr : RCok rf) (hl : isLife l) (wf : WFP N) (wl : WFL N) (cp : CP 67 Q N) (cl : CL l Q N) : fX3_awakeBits S (mk Q w rf) l = some (bitsK N (N 0).toNat) := by
  have wn0 := wf.1
  have hb := wl.1
  have cp' := cp
  have ip67 := isPar67; obtain ⟨⟨c0, c1, c2, c3, c4, c5, c6, c7⟩, cpp, cpg, cpd, cpk⟩ := CPl_of cp
  have l1 := loop_seq (f := fX3_awakeBits_L4 S (mk Q w rf) l) (m := 1000) (fun k => (bitsK N k, I k)) (N 0).toNat (r := bitsK N (N 0).toNat) (by omega) (by
    intro k hk
    have h5 : ¬ (N 0 ≤ (k : Int)) := by omega
    simp (disch := first | assumption | omega) only [fX3_awakeBits_L4, fX3_awakeBits_b29, I_lit, orb_I, I_add, I_sub, I_mul, I_neg, nm_eq, bd0_s, bd2_s, un2_eq, un3_eq, un4_eq, un5_eq, un6_eq, cs2_l, cs2_r, mk_1, mk_2, wI_mk, wL_mk, wR_mk, setR_same, setR_setR, rZ_0, rZ_1, rZ_b2, it_b2, it_nb2, it_b21, it_nb21, I_lt, I_le, I_eq, I_div, castI, if_true, if_false, Classical.not_not, gL0, c0, h5, C_isAwake hS hr hl wf wl cp' cl (⟨by omega, by omega⟩ : 0 ≤ (k : Int) ∧ (k : Int) < N 0)]
    show _ = some (Sum.inl (ii _ _ _, _))
    by_cases h : awkA N k (N 102)
    · rw [ii_t h, if_pos h]; rfl
    · rw [ii_f h, if_neg h]; rfl) (by
    have h5 : (N 0 ≤ ((N 0).toNat : Int)) := by omega
    simp (disch := first | assumption | omega) only [fX3_awakeBits_L4, I_lit, orb_I, I_add, I_sub, I_mul, I_neg, nm_eq, bd0_s, bd2_s, un2_eq, un3_eq, un4_eq, un5_eq, un6_eq, cs2_l, cs2_r, mk_1, mk_2, wI_mk, wL_mk, wR_mk, setR_same, setR_setR, rZ_0, rZ_1, rZ_b2, it_b2, it_nb2, it_b21, it_nb21, I_lt, I_le, I_eq, I_div, castI, if_true, if_false, Classical.not_not, gL0, c0, h5])
  have e : (bitsK N 0, I ((0 : Nat) : Int)) = ((0 : Int32), (0 : Int32)) := rfl
  simp only [e] at l1
  simp only [fX3_awakeBits, l1]
  rfl
theorem M_sum137 {S : Nat → Nat × Nat} {R : Nat → Int → Int} {w : Nat → Nat → Int64} {rf : Nat → Nat → Option Nat} (hS : SMok S) (hr : RMok rf) (wf : WFP (R 66)) : loopN (fX13_now_L127 S (mk R w rf) 64) 1000 (I 0, I 0) = some (I (sumK (R 66) 137 (R 66 1).toNat)) := by
  have wn0 := wf.2.1
  refine loop_seq (f := fX13_now_L127 S (mk R w rf) 64) (m := 1000) (fun k => (I (sumK (R 66) 137 k), I k)) (R 66 1).toNat (by omega) ?_ ?_
  · intro k hk
    have h5 : ¬ (R 66 1 ≤ (k : Int)) := by omega
    simp (disch := first | assumption | omega) only [fX13_now_L127, I_lit, orb_I, I_add, I_sub, I_mul, I_neg, nm_eq, bd0_s, bd2_s, un2_eq, un3_eq, un4_eq, un5_eq, un6_eq, cs2_l, cs2_r, mk_1, mk_2, wI_mk, wL_mk, wR_mk, setR_same, setR_setR, rZ_0, rZ_1, rZ_b2, it_b2, it_nb2, it_b21, it_nb21, I_lt, I_le, I_eq, I_div, castI, if_true, if_false, Classical.not_not, gM14, ldM66, h5]
    rfl
  · have h5 : (R 66 1 ≤ ((R 66 1).toNat : Int)) := by omega
    simp (disch := first | assumption | omega) only [fX13_now_L127, I_lit, orb_I, I_add, I_sub, I_mul, I_neg, nm_eq, bd0_s, bd2_s, un2_eq, un3_eq, un4_eq, un5_eq, un6_eq, cs2_l, cs2_r, mk_1, mk_2, wI_mk, wL_mk, wR_mk, setR_same, setR_setR, rZ_0, rZ_1, rZ_b2, it_b2, it_nb2, it_b21, it_nb21, I_lt, I_le, I_eq, I_div, castI, if_true, if_false, Classical.not_not, gM14, ldM66, h5]
theorem M_sum125 {S : Nat → Nat × Nat} {R : Nat → Int → Int} {w : Nat → Nat → Int64} {rf : Nat → Nat → Option Nat} (hS : SMok S) (hr : RMok rf) (wf : WFP (R 66)) : loopN (fX13_now_L160 S (mk R w rf) 64) 1000 (I 0, I 0) = some (I (sumK (R 66) 125 (R 66 1).toNat)) := by
  have wn0 := wf.2.1
  refine loop_seq (f := fX13_now_L160 S (mk R w rf) 64) (m := 1000) (fun k => (I (sumK (R 66) 125 k), I k)) (R 66 1).toNat (by omega) ?_ ?_
  · intro k hk
    have h5 : ¬ (R 66 1 ≤ (k : Int)) := by omega
    simp (disch := first | assumption | omega) only [fX13_now_L160, I_lit, orb_I, I_add, I_sub, I_mul, I_neg, nm_eq, bd0_s, bd2_s, un2_eq, un3_eq, un4_eq, un5_eq, un6_eq, cs2_l, cs2_r, mk_1, mk_2, wI_mk, wL_mk, wR_mk, setR_same, setR_setR, rZ_0, rZ_1, rZ_b2, it_b2, it_nb2, it_b21, it_nb21, I_lt, I_le, I_eq, I_div, castI, if_true, if_false, Classical.not_not, gM14, ldM66, h5]
    rfl
  · have h5 : (R 66 1 ≤ ((R 66 1).toNat : Int)) := by omega
    simp (disch := first | assumption | omega) only [fX13_now_L160, I_lit, orb_I, I_add, I_sub, I_mul, I_neg, nm_eq, bd0_s, bd2_s, un2_eq, un3_eq, un4_eq, un5_eq, un6_eq, cs2_l, cs2_r, mk_1, mk_2, wI_mk, wL_mk, wR_mk, setR_same, setR_setR, rZ_0, rZ_1, rZ_b2, it_b2, it_nb2, it_b21, it_nb21, I_lt, I_le, I_eq, I_div, castI, if_true, if_false, Classical.not_not, gM14, ldM66, h5]
theorem C_sum {S : Nat → Nat × Nat} {Q : Nat → Int → Int} {w : Nat → Nat → Int64} {rf : Nat → Nat → Option Nat} {N : Int → Int} {l k : Nat} {b : Int} (hS : SCok S) (hr : RCok rf) (hl : isLife l) (wf : WFP N) (cp : CP 67 Q N) (hk : (S k).2 = 4) (hq : ∀ g, 0 ≤ g → g < N 1 → Q k g = N (b + g)) : fX3_sumOverGlasses S (mk Q w rf) l k = some (I (sumK N b (N 1).toNat)) := by
  have wn0 := wf.2.1
  have ip67 := isPar67; obtain ⟨⟨c0, c1, c2, c3, c4, c5, c6, c7⟩, cpp, cpg, cpd, cpk⟩ := CPl_of cp
  have hl4 : Int32.ofNat 4 = I 4 := rfl
  have l1 := loop_seq (f := fX3_sumOverGlasses_L4 S (mk Q w rf) l k) (m := 1000) (fun j => (I (sumK N b j), I j)) (N 1).toNat (r := I (sumK N b (N 1).toNat)) (by omega) (by
    intro j hj
    have h5 : ¬ (N 1 ≤ (j : Int)) := by omega
    have h6 : ¬ ((4 : Int) ≤ (j : Int)) := by omega
    have h7 := hq j (by omega) (by omega)
    simp (disch := first | assumption | omega) only [fX3_sumOverGlasses_L4, hk, hl4, I_lit, orb_I, I_add, I_sub, I_mul, I_neg, nm_eq, bd0_s, bd2_s, un2_eq, un3_eq, un4_eq, un5_eq, un6_eq, cs2_l, cs2_r, mk_1, mk_2, wI_mk, wL_mk, wR_mk, setR_same, setR_setR, rZ_0, rZ_1, rZ_b2, it_b2, it_nb2, it_b21, it_nb21, I_lt, I_le, I_eq, I_div, castI, if_true, if_false, Classical.not_not, gL0, c1, h5, h6]
    rw [ldI_mk hk (by omega) (by omega), h7]
    simp (disch := first | assumption | omega) only [I_lit, orb_I, I_add, I_sub, I_mul, I_neg, nm_eq, bd0_s, bd2_s, un2_eq, un3_eq, un4_eq, un5_eq, un6_eq, cs2_l, cs2_r, mk_1, mk_2, wI_mk, wL_mk, wR_mk, setR_same, setR_setR, rZ_0, rZ_1, rZ_b2, it_b2, it_nb2, it_b21, it_nb21, I_lt, I_le, I_eq, I_div, castI, if_true, if_false, Classical.not_not]
    rfl) (by
    have h5 : (N 1 ≤ ((N 1).toNat : Int)) := by omega
    simp (disch := first | assumption | omega) only [fX3_sumOverGlasses_L4, I_lit, orb_I, I_add, I_sub, I_mul, I_neg, nm_eq, bd0_s, bd2_s, un2_eq, un3_eq, un4_eq, un5_eq, un6_eq, cs2_l, cs2_r, mk_1, mk_2, wI_mk, wL_mk, wR_mk, setR_same, setR_setR, rZ_0, rZ_1, rZ_b2, it_b2, it_nb2, it_b21, it_nb21, I_lt, I_le, I_eq, I_div, castI, if_true, if_false, Classical.not_not, gL0, c1, h5])
  have e : (I (sumK N b 0), I ((0 : Nat) : Int)) = ((0 : Int32), (0 : Int32)) := rfl
  simp only [e] at l1
  simp only [fX3_sumOverGlasses, l1]
  rfl
theorem op_now {S S' : Nat → Nat × Nat} (hS : SCok S) (hS' : SMok S') (a1 : Int32) : OpC0 (fun σ => fX12_now S σ 64 a1) (fun σ => fX13_now S' σ 64 a1) := by
  intro t σC σM ⟨Q, w, rf, R, v, rm, q1, q2, hr, hr', inv, tx⟩; subst q1; subst q2
  obtain ⟨p, rfl, hp⟩ := exI a1
  have inv0 := INV_th inv
  have r66 : th0 R 66 = R 66 := th0_ne (by omega)
  obtain ⟨ta, ⟨wf, cp, nam⟩, ⟨lo, cl⟩, ur, fa, wk, ro, se, im, sw⟩ := inv
  obtain ⟨ta0, ⟨wf0, cp0, nam0⟩, ⟨lo0, cl0⟩, -⟩ := inv0
  have hb := lo.1.1
  have fin : ∀ r, fX12_now S (mk Q w rf) 64 (I p) = some r → fX13_now S' (mk R v rm) 64 (I p) = some (r, mk (th0 R) v rm) → ∃ r σM', fX12_now S (mk Q w rf) 64 (I p) = some r ∧ fX13_now S' (mk R v rm) 64 (I p) = some (r, σM') ∧ SimX t (mk Q w rf) σM' := fun r h1 h2 => ⟨r, _, h1, h2, Q, w, rf, th0 R, v, rm, rfl, rfl, hr, hr', INV_th ⟨ta, ⟨wf, cp, nam⟩, ⟨lo, cl⟩, ur, fa, wk, ro, se, im, sw⟩, tx0 tx⟩
  have cl' := cl
  obtain ⟨⟨c102, c104, c103⟩, clp, clg⟩ := cl
  by_cases e0 : p = 0
  · apply fin (I (R 66 102)) <;> subst e0
    · simp (disch := first | assumption | omega) only [fX12_now, I_lit, orb_I, I_add, I_sub, I_mul, I_neg, nm_eq, bd0_s, bd2_s, un2_eq, un3_eq, un4_eq, un5_eq, un6_eq, cs2_l, cs2_r, mk_1, mk_2, wI_mk, wL_mk, wR_mk, setR_same, setR_setR, rZ_0, rZ_1, rZ_b2, it_b2, it_nb2, it_b21, it_nb21, I_lt, I_le, I_eq, I_div, castI, if_true, if_false, Classical.not_not, gC64_4, c102]
    · simp only [fX13_now, th0_I]
      simp (disch := first | assumption | omega) only [I_lit, orb_I, I_add, I_sub, I_mul, I_neg, nm_eq, bd0_s, bd2_s, un2_eq, un3_eq, un4_eq, un5_eq, un6_eq, cs2_l, cs2_r, mk_1, mk_2, wI_mk, wL_mk, wR_mk, setR_same, setR_setR, rZ_0, rZ_1, rZ_b2, it_b2, it_nb2, it_b21, it_nb21, I_lt, I_le, I_eq, I_div, castI, if_true, if_false, Classical.not_not, gM14, ldM66, r66]
  by_cases e1 : p = 1
  · apply fin (b2 (dampA (R 66) (R 66 102))) <;> subst e1
    · simp (disch := first | assumption | omega) only [fX12_now, I_lit, orb_I, I_add, I_sub, I_mul, I_neg, nm_eq, bd0_s, bd2_s, un2_eq, un3_eq, un4_eq, un5_eq, un6_eq, cs2_l, cs2_r, mk_1, mk_2, wI_mk, wL_mk, wR_mk, setR_same, setR_setR, rZ_0, rZ_1, rZ_b2, it_b2, it_nb2, it_b21, it_nb21, I_lt, I_le, I_eq, I_div, castI, if_true, if_false, Classical.not_not, gC64_4, gC64_1, c102, Int.reduceEq, C_isDamp hS hr isPar67 wf cp (⟨by omega, hb.2⟩ : -1 ≤ R 66 102 ∧ R 66 102 ≤ 600), fX12_asNumber, fX12_asNumber_b9]
      split
      · rw [b2_t (by assumption)]; rfl
      · rw [b2_f (by assumption)]; rfl
    · simp only [fX13_now, fX13_now_b75, th0_I]
      simp (disch := first | assumption | omega) only [I_lit, orb_I, I_add, I_sub, I_mul, I_neg, nm_eq, bd0_s, bd2_s, un2_eq, un3_eq, un4_eq, un5_eq, un6_eq, cs2_l, cs2_r, mk_1, mk_2, wI_mk, wL_mk, wR_mk, setR_same, setR_setR, rZ_0, rZ_1, rZ_b2, it_b2, it_nb2, it_b21, it_nb21, I_lt, I_le, I_eq, I_div, castI, if_true, if_false, Classical.not_not, gM14, ldM66, r66, Int.reduceEq]
      rw [M_isDamp (R := th0 R) hS' hr' wf0 (by omega), r66]
      simp (disch := first | assumption | omega) only [I_lit, orb_I, I_add, I_sub, I_mul, I_neg, nm_eq, bd0_s, bd2_s, un2_eq, un3_eq, un4_eq, un5_eq, un6_eq, cs2_l, cs2_r, mk_1, mk_2, wI_mk, wL_mk, wR_mk, setR_same, setR_setR, rZ_0, rZ_1, rZ_b2, it_b2, it_nb2, it_b21, it_nb21, I_lt, I_le, I_eq, I_div, castI, if_true, if_false, Classical.not_not]
      split
      · rw [b2_t (by assumption)]; rfl
      · rw [b2_f (by assumption)]; rfl
  by_cases e2 : p = 2
  · apply fin (I (R 66 104)) <;> subst e2
    · simp (disch := first | assumption | omega) only [fX12_now, I_lit, orb_I, I_add, I_sub, I_mul, I_neg, nm_eq, bd0_s, bd2_s, un2_eq, un3_eq, un4_eq, un5_eq, un6_eq, cs2_l, cs2_r, mk_1, mk_2, wI_mk, wL_mk, wR_mk, setR_same, setR_setR, rZ_0, rZ_1, rZ_b2, it_b2, it_nb2, it_b21, it_nb21, I_lt, I_le, I_eq, I_div, castI, if_true, if_false, Classical.not_not, gC64_4, c104, Int.reduceEq]
    · simp only [fX13_now, th0_I]
      simp (disch := first | assumption | omega) only [I_lit, orb_I, I_add, I_sub, I_mul, I_neg, nm_eq, bd0_s, bd2_s, un2_eq, un3_eq, un4_eq, un5_eq, un6_eq, cs2_l, cs2_r, mk_1, mk_2, wI_mk, wL_mk, wR_mk, setR_same, setR_setR, rZ_0, rZ_1, rZ_b2, it_b2, it_nb2, it_b21, it_nb21, I_lt, I_le, I_eq, I_div, castI, if_true, if_false, Classical.not_not, gM14, ldM66, r66, Int.reduceEq]
  by_cases e3 : p = 3
  · apply fin (bitsK (R 66) (R 66 0).toNat) <;> subst e3
    · simp (disch := first | assumption | omega) only [fX12_now, I_lit, orb_I, I_add, I_sub, I_mul, I_neg, nm_eq, bd0_s, bd2_s, un2_eq, un3_eq, un4_eq, un5_eq, un6_eq, cs2_l, cs2_r, mk_1, mk_2, wI_mk, wL_mk, wR_mk, setR_same, setR_setR, rZ_0, rZ_1, rZ_b2, it_b2, it_nb2, it_b21, it_nb21, I_lt, I_le, I_eq, I_div, castI, if_true, if_false, Classical.not_not, gC64_4, Int.reduceEq, C_bits hS hr isLife104 wf lo.1 cp cl']
    · have m := M_bits (R := th0 R) (w := v) hS' hr' wf0 lo0.1
      simp only [fX13_now, th0_I]
      simp (disch := first | assumption | omega) only [I_lit, orb_I, I_add, I_sub, I_mul, I_neg, nm_eq, bd0_s, bd2_s, un2_eq, un3_eq, un4_eq, un5_eq, un6_eq, cs2_l, cs2_r, mk_1, mk_2, wI_mk, wL_mk, wR_mk, setR_same, setR_setR, rZ_0, rZ_1, rZ_b2, it_b2, it_nb2, it_b21, it_nb21, I_lt, I_le, I_eq, I_div, castI, if_true, if_false, Classical.not_not, Int.reduceEq, m]
      rw [r66]
  by_cases e4 : p = 4
  · apply fin (I (sumK (R 66) 137 (R 66 1).toNat)) <;> subst e4
    · simp (disch := first | assumption | omega) only [fX12_now, I_lit, orb_I, I_add, I_sub, I_mul, I_neg, nm_eq, bd0_s, bd2_s, un2_eq, un3_eq, un4_eq, un5_eq, un6_eq, cs2_l, cs2_r, mk_1, mk_2, wI_mk, wL_mk, wR_mk, setR_same, setR_setR, rZ_0, rZ_1, rZ_b2, it_b2, it_nb2, it_b21, it_nb21, I_lt, I_le, I_eq, I_div, castI, if_true, if_false, Classical.not_not, gC64_4, Int.reduceEq, gL10 (l := 104) hr isLife104]
      rw [C_sum (b := 137) hS hr isLife104 wf cp (hS.2.1 104 isLife104).2.2.2.2.2.2 (fun g h1 h2 => (clg g h1 h2).2.2.2.2)]
      rfl
    · have m := M_sum137 (R := th0 R) (w := v) hS' hr' wf0
      simp only [fX13_now, th0_I]
      simp (disch := first | assumption | omega) only [I_lit, orb_I, I_add, I_sub, I_mul, I_neg, nm_eq, bd0_s, bd2_s, un2_eq, un3_eq, un4_eq, un5_eq, un6_eq, cs2_l, cs2_r, mk_1, mk_2, wI_mk, wL_mk, wR_mk, setR_same, setR_setR, rZ_0, rZ_1, rZ_b2, it_b2, it_nb2, it_b21, it_nb21, I_lt, I_le, I_eq, I_div, castI, if_true, if_false, Classical.not_not, Int.reduceEq, m]
      rw [r66]
  by_cases e5 : p = 5
  · apply fin (I (sumK (R 66) 125 (R 66 1).toNat)) <;> subst e5
    · simp (disch := first | assumption | omega) only [fX12_now, I_lit, orb_I, I_add, I_sub, I_mul, I_neg, nm_eq, bd0_s, bd2_s, un2_eq, un3_eq, un4_eq, un5_eq, un6_eq, cs2_l, cs2_r, mk_1, mk_2, wI_mk, wL_mk, wR_mk, setR_same, setR_setR, rZ_0, rZ_1, rZ_b2, it_b2, it_nb2, it_b21, it_nb21, I_lt, I_le, I_eq, I_div, castI, if_true, if_false, Classical.not_not, gC64_4, Int.reduceEq, gL6 (l := 104) hr isLife104]
      rw [C_sum (b := 125) hS hr isLife104 wf cp (hS.2.1 104 isLife104).2.2.1 (fun g h1 h2 => (clg g h1 h2).1)]
      rfl
    · have m := M_sum125 (R := th0 R) (w := v) hS' hr' wf0
      simp only [fX13_now, th0_I]
      simp (disch := first | assumption | omega) only [I_lit, orb_I, I_add, I_sub, I_mul, I_neg, nm_eq, bd0_s, bd2_s, un2_eq, un3_eq, un4_eq, un5_eq, un6_eq, cs2_l, cs2_r, mk_1, mk_2, wI_mk, wL_mk, wR_mk, setR_same, setR_setR, rZ_0, rZ_1, rZ_b2, it_b2, it_nb2, it_b21, it_nb21, I_lt, I_le, I_eq, I_div, castI, if_true, if_false, Classical.not_not, Int.reduceEq, m]
      rw [r66]
  apply fin (I (-1))
  · simp (disch := first | assumption | omega) only [fX12_now, I_lit, orb_I, I_add, I_sub, I_mul, I_neg, nm_eq, bd0_s, bd2_s, un2_eq, un3_eq, un4_eq, un5_eq, un6_eq, cs2_l, cs2_r, mk_1, mk_2, wI_mk, wL_mk, wR_mk, setR_same, setR_setR, rZ_0, rZ_1, rZ_b2, it_b2, it_nb2, it_b21, it_nb21, I_lt, I_le, I_eq, I_div, castI, if_true, if_false, Classical.not_not, e0, e1, e2, e3, e4, e5]
  · simp only [fX13_now, th0_I]
    simp (disch := first | assumption | omega) only [I_lit, orb_I, I_add, I_sub, I_mul, I_neg, nm_eq, bd0_s, bd2_s, un2_eq, un3_eq, un4_eq, un5_eq, un6_eq, cs2_l, cs2_r, mk_1, mk_2, wI_mk, wL_mk, wR_mk, setR_same, setR_setR, rZ_0, rZ_1, rZ_b2, it_b2, it_nb2, it_b21, it_nb21, I_lt, I_le, I_eq, I_div, castI, if_true, if_false, Classical.not_not, e0, e1, e2, e3, e4, e5]
theorem C_asNum {S : Nat → Nat × Nat} {σ : mm} {z : Int} (hz : 0 ≤ z ∧ z ≤ 1) : fX12_asNumber S σ (I z) = some (I z) := by
  have : z = 0 ∨ z = 1 := by omega
  rcases this with h | h <;> subst h <;> rfl
theorem op_count {S S' : Nat → Nat × Nat} (hS : SCok S) (hS' : SMok S') (a1 : Int32) : OpC0 (fun σ => fX12_count S σ 64 a1) (fun σ => fX13_count S' σ 64 a1) := by
  intro t σC σM ⟨Q, w, rf, R, v, rm, q1, q2, hr, hr', inv, tx⟩; subst q1; subst q2
  obtain ⟨p, rfl, hp⟩ := exI a1
  have r66 : th0 R 66 = R 66 := th0_ne (by omega)
  have inv' := inv
  obtain ⟨ta, ⟨wf, cp, nam⟩, ⟨lo, cl⟩, ur, fa, wk, ro, se, im, sw⟩ := inv
  have fin : ∀ r, fX12_count S (mk Q w rf) 64 (I p) = some r → fX13_count S' (mk R v rm) 64 (I p) = some (r, mk (th0 R) v rm) → ∃ r σM', fX12_count S (mk Q w rf) 64 (I p) = some r ∧ fX13_count S' (mk R v rm) 64 (I p) = some (r, σM') ∧ SimX t (mk Q w rf) σM' := fun r h1 h2 => ⟨r, _, h1, h2, Q, w, rf, th0 R, v, rm, rfl, rfl, hr, hr', INV_th inv', tx0 tx⟩
  have w5 := wf.2.2.2.2.2.1
  have w6 := wf.2.2.2.2.2.2.1
  have ip67 := isPar67; obtain ⟨⟨c0, c1, c2, c3, c4, c5, c6, c7⟩, cpp, cpg, cpd, cpk⟩ := CPl_of cp
  by_cases h : 0 ≤ p ∧ p ≤ 8
  · have hd : p = 0 ∨ p = 1 ∨ p = 2 ∨ p = 3 ∨ p = 4 ∨ p = 5 ∨ p = 6 ∨ p = 7 ∨ p = 8 := by omega
    rcases hd with e | e | e | e | e | e | e | e | e <;> subst e
    · apply fin (I (R 66 0))
      · simp (disch := first | assumption | omega) only [fX12_count, I_lit, orb_I, I_add, I_sub, I_mul, I_neg, nm_eq, bd0_s, bd2_s, un2_eq, un3_eq, un4_eq, un5_eq, un6_eq, cs2_l, cs2_r, mk_1, mk_2, wI_mk, wL_mk, wR_mk, setR_same, setR_setR, rZ_0, rZ_1, rZ_b2, it_b2, it_nb2, it_b21, it_nb21, I_lt, I_le, I_eq, I_div, castI, if_true, if_false, Classical.not_not, gC64_1, c0]
      · simp only [fX13_count, th0_I]; simp (disch := first | assumption | omega) only [I_lit, orb_I, I_add, I_sub, I_mul, I_neg, nm_eq, bd0_s, bd2_s, un2_eq, un3_eq, un4_eq, un5_eq, un6_eq, cs2_l, cs2_r, mk_1, mk_2, wI_mk, wL_mk, wR_mk, setR_same, setR_setR, rZ_0, rZ_1, rZ_b2, it_b2, it_nb2, it_b21, it_nb21, I_lt, I_le, I_eq, I_div, castI, if_true, if_false, Classical.not_not, gM14, ldM66, r66]
    · apply fin (I (R 66 1))
      · simp (disch := first | assumption | omega) only [fX12_count, I_lit, orb_I, I_add, I_sub, I_mul, I_neg, nm_eq, bd0_s, bd2_s, un2_eq, un3_eq, un4_eq, un5_eq, un6_eq, cs2_l, cs2_r, mk_1, mk_2, wI_mk, wL_mk, wR_mk, setR_same, setR_setR, rZ_0, rZ_1, rZ_b2, it_b2, it_nb2, it_b21, it_nb21, I_lt, I_le, I_eq, I_div, castI, if_true, if_false, Classical.not_not, gC64_1, c1, Int.reduceEq]
      · simp only [fX13_count, th0_I]; simp (disch := first | assumption | omega) only [I_lit, orb_I, I_add, I_sub, I_mul, I_neg, nm_eq, bd0_s, bd2_s, un2_eq, un3_eq, un4_eq, un5_eq, un6_eq, cs2_l, cs2_r, mk_1, mk_2, wI_mk, wL_mk, wR_mk, setR_same, setR_setR, rZ_0, rZ_1, rZ_b2, it_b2, it_nb2, it_b21, it_nb21, I_lt, I_le, I_eq, I_div, castI, if_true, if_false, Classical.not_not, gM14, ldM66, r66, Int.reduceEq]
    · apply fin (I (R 66 2))
      · simp (disch := first | assumption | omega) only [fX12_count, I_lit, orb_I, I_add, I_sub, I_mul, I_neg, nm_eq, bd0_s, bd2_s, un2_eq, un3_eq, un4_eq, un5_eq, un6_eq, cs2_l, cs2_r, mk_1, mk_2, wI_mk, wL_mk, wR_mk, setR_same, setR_setR, rZ_0, rZ_1, rZ_b2, it_b2, it_nb2, it_b21, it_nb21, I_lt, I_le, I_eq, I_div, castI, if_true, if_false, Classical.not_not, gC64_1, gP0_15, c2, Int.reduceEq]
      · simp only [fX13_count, th0_I]; simp (disch := first | assumption | omega) only [I_lit, orb_I, I_add, I_sub, I_mul, I_neg, nm_eq, bd0_s, bd2_s, un2_eq, un3_eq, un4_eq, un5_eq, un6_eq, cs2_l, cs2_r, mk_1, mk_2, wI_mk, wL_mk, wR_mk, setR_same, setR_setR, rZ_0, rZ_1, rZ_b2, it_b2, it_nb2, it_b21, it_nb21, I_lt, I_le, I_eq, I_div, castI, if_true, if_false, Classical.not_not, gM14, ldM66, r66, Int.reduceEq]
    · apply fin (I (R 66 3))
      · simp (disch := first | assumption | omega) only [fX12_count, I_lit, orb_I, I_add, I_sub, I_mul, I_neg, nm_eq, bd0_s, bd2_s, un2_eq, un3_eq, un4_eq, un5_eq, un6_eq, cs2_l, cs2_r, mk_1, mk_2, wI_mk, wL_mk, wR_mk, setR_same, setR_setR, rZ_0, rZ_1, rZ_b2, it_b2, it_nb2, it_b21, it_nb21, I_lt, I_le, I_eq, I_div, castI, if_true, if_false, Classical.not_not, gC64_1, c3, Int.reduceEq]
      · simp only [fX13_count, th0_I]; simp (disch := first | assumption | omega) only [I_lit, orb_I, I_add, I_sub, I_mul, I_neg, nm_eq, bd0_s, bd2_s, un2_eq, un3_eq, un4_eq, un5_eq, un6_eq, cs2_l, cs2_r, mk_1, mk_2, wI_mk, wL_mk, wR_mk, setR_same, setR_setR, rZ_0, rZ_1, rZ_b2, it_b2, it_nb2, it_b21, it_nb21, I_lt, I_le, I_eq, I_div, castI, if_true, if_false, Classical.not_not, gM14, ldM66, r66, Int.reduceEq]
    · apply fin (I (R 66 4))
      · simp (disch := first | assumption | omega) only [fX12_count, I_lit, orb_I, I_add, I_sub, I_mul, I_neg, nm_eq, bd0_s, bd2_s, un2_eq, un3_eq, un4_eq, un5_eq, un6_eq, cs2_l, cs2_r, mk_1, mk_2, wI_mk, wL_mk, wR_mk, setR_same, setR_setR, rZ_0, rZ_1, rZ_b2, it_b2, it_nb2, it_b21, it_nb21, I_lt, I_le, I_eq, I_div, castI, if_true, if_false, Classical.not_not, gC64_1, c4, Int.reduceEq]
      · simp only [fX13_count, th0_I]; simp (disch := first | assumption | omega) only [I_lit, orb_I, I_add, I_sub, I_mul, I_neg, nm_eq, bd0_s, bd2_s, un2_eq, un3_eq, un4_eq, un5_eq, un6_eq, cs2_l, cs2_r, mk_1, mk_2, wI_mk, wL_mk, wR_mk, setR_same, setR_setR, rZ_0, rZ_1, rZ_b2, it_b2, it_nb2, it_b21, it_nb21, I_lt, I_le, I_eq, I_div, castI, if_true, if_false, Classical.not_not, gM14, ldM66, r66, Int.reduceEq]
    · apply fin (I (R 66 5))
      · simp (disch := first | assumption | omega) only [fX12_count, I_lit, orb_I, I_add, I_sub, I_mul, I_neg, nm_eq, bd0_s, bd2_s, un2_eq, un3_eq, un4_eq, un5_eq, un6_eq, cs2_l, cs2_r, mk_1, mk_2, wI_mk, wL_mk, wR_mk, setR_same, setR_setR, rZ_0, rZ_1, rZ_b2, it_b2, it_nb2, it_b21, it_nb21, I_lt, I_le, I_eq, I_div, castI, if_true, if_false, Classical.not_not, gC64_1, c5, Int.reduceEq, C_asNum]
      · simp only [fX13_count, th0_I]; simp (disch := first | assumption | omega) only [I_lit, orb_I, I_add, I_sub, I_mul, I_neg, nm_eq, bd0_s, bd2_s, un2_eq, un3_eq, un4_eq, un5_eq, un6_eq, cs2_l, cs2_r, mk_1, mk_2, wI_mk, wL_mk, wR_mk, setR_same, setR_setR, rZ_0, rZ_1, rZ_b2, it_b2, it_nb2, it_b21, it_nb21, I_lt, I_le, I_eq, I_div, castI, if_true, if_false, Classical.not_not, gM14, ldM66, r66, Int.reduceEq]
    · apply fin (I (R 66 6))
      · simp (disch := first | assumption | omega) only [fX12_count, I_lit, orb_I, I_add, I_sub, I_mul, I_neg, nm_eq, bd0_s, bd2_s, un2_eq, un3_eq, un4_eq, un5_eq, un6_eq, cs2_l, cs2_r, mk_1, mk_2, wI_mk, wL_mk, wR_mk, setR_same, setR_setR, rZ_0, rZ_1, rZ_b2, it_b2, it_nb2, it_b21, it_nb21, I_lt, I_le, I_eq, I_div, castI, if_true, if_false, Classical.not_not, gC64_1, c6, Int.reduceEq, C_asNum]
      · simp only [fX13_count, th0_I]; simp (disch := first | assumption | omega) only [I_lit, orb_I, I_add, I_sub, I_mul, I_neg, nm_eq, bd0_s, bd2_s, un2_eq, un3_eq, un4_eq, un5_eq, un6_eq, cs2_l, cs2_r, mk_1, mk_2, wI_mk, wL_mk, wR_mk, setR_same, setR_setR, rZ_0, rZ_1, rZ_b2, it_b2, it_nb2, it_b21, it_nb21, I_lt, I_le, I_eq, I_div, castI, if_true, if_false, Classical.not_not, gM14, ldM66, r66, Int.reduceEq]
    · apply fin (I (R 66 7))
      · simp (disch := first | assumption | omega) only [fX12_count, I_lit, orb_I, I_add, I_sub, I_mul, I_neg, nm_eq, bd0_s, bd2_s, un2_eq, un3_eq, un4_eq, un5_eq, un6_eq, cs2_l, cs2_r, mk_1, mk_2, wI_mk, wL_mk, wR_mk, setR_same, setR_setR, rZ_0, rZ_1, rZ_b2, it_b2, it_nb2, it_b21, it_nb21, I_lt, I_le, I_eq, I_div, castI, if_true, if_false, Classical.not_not, gC64_1, c7, Int.reduceEq]
      · simp only [fX13_count, th0_I]; simp (disch := first | assumption | omega) only [I_lit, orb_I, I_add, I_sub, I_mul, I_neg, nm_eq, bd0_s, bd2_s, un2_eq, un3_eq, un4_eq, un5_eq, un6_eq, cs2_l, cs2_r, mk_1, mk_2, wI_mk, wL_mk, wR_mk, setR_same, setR_setR, rZ_0, rZ_1, rZ_b2, it_b2, it_nb2, it_b21, it_nb21, I_lt, I_le, I_eq, I_div, castI, if_true, if_false, Classical.not_not, gM14, ldM66, r66, Int.reduceEq]
    · apply fin (I (R 64 2))
      · simp (disch := first | assumption | omega) only [fX12_count, I_lit, orb_I, I_add, I_sub, I_mul, I_neg, nm_eq, bd0_s, bd2_s, un2_eq, un3_eq, un4_eq, un5_eq, un6_eq, cs2_l, cs2_r, mk_1, mk_2, wI_mk, wL_mk, wR_mk, setR_same, setR_setR, rZ_0, rZ_1, rZ_b2, it_b2, it_nb2, it_b21, it_nb21, I_lt, I_le, I_eq, I_div, castI, if_true, if_false, Classical.not_not, gC64_0, ta.1, Int.reduceEq]
      · simp only [fX13_count, th0_I]; simp (disch := first | assumption | omega) only [I_lit, orb_I, I_add, I_sub, I_mul, I_neg, nm_eq, bd0_s, bd2_s, un2_eq, un3_eq, un4_eq, un5_eq, un6_eq, cs2_l, cs2_r, mk_1, mk_2, wI_mk, wL_mk, wR_mk, setR_same, setR_setR, rZ_0, rZ_1, rZ_b2, it_b2, it_nb2, it_b21, it_nb21, I_lt, I_le, I_eq, I_div, castI, if_true, if_false, Classical.not_not, th0_64, Int.reduceEq]
  · have e0 : ¬ (p = 0) := by omega
    have e1 : ¬ (p = 1) := by omega
    have e2 : ¬ (p = 2) := by omega
    have e3 : ¬ (p = 3) := by omega
    have e4 : ¬ (p = 4) := by omega
    have e5 : ¬ (p = 5) := by omega
    have e6 : ¬ (p = 6) := by omega
    have e7 : ¬ (p = 7) := by omega
    have e8 : ¬ (p = 8) := by omega
    clear cpp cpg cpd cpk wf cp nam lo cl ur wk ro se im sw inv' ta
    apply fin (I (-1))
    · simp (disch := first | assumption | omega) only [fX12_count, I_lit, orb_I, I_add, I_sub, I_mul, I_neg, nm_eq, bd0_s, bd2_s, un2_eq, un3_eq, un4_eq, un5_eq, un6_eq, cs2_l, cs2_r, mk_1, mk_2, wI_mk, wL_mk, wR_mk, setR_same, setR_setR, rZ_0, rZ_1, rZ_b2, it_b2, it_nb2, it_b21, it_nb21, I_lt, I_le, I_eq, I_div, castI, if_true, if_false, Classical.not_not, e0, e1, e2, e3, e4, e5, e6, e7, e8]
    · simp only [fX13_count, th0_I]
      simp (disch := first | assumption | omega) only [I_lit, orb_I, I_add, I_sub, I_mul, I_neg, nm_eq, bd0_s, bd2_s, un2_eq, un3_eq, un4_eq, un5_eq, un6_eq, cs2_l, cs2_r, mk_1, mk_2, wI_mk, wL_mk, wR_mk, setR_same, setR_setR, rZ_0, rZ_1, rZ_b2, it_b2, it_nb2, it_b21, it_nb21, I_lt, I_le, I_eq, I_div, castI, if_true, if_false, Classical.not_not, e0, e1, e2, e3, e4, e5, e6, e7, e8]
theorem op_good {S S' : Nat → Nat × Nat} (hS : SCok S) (hS' : SMok S') (a1 a2 : Int32) : OpC0 (fun σ => fX12_good S σ 64 a1 a2) (fun σ => fX13_good S' σ 64 a1 a2) := by
  intro t σC σM ⟨Q, w, rf, R, v, rm, q1, q2, hr, hr', inv, tx⟩; subst q1; subst q2
  obtain ⟨p, rfl, hp⟩ := exI a1
  obtain ⟨n, rfl, hn⟩ := exI a2
  have r66 : th0 R 66 = R 66 := th0_ne (by omega)
  have inv' := inv
  obtain ⟨ta, ⟨wf, cp, nam⟩, ⟨lo, cl⟩, ur, fa, wk, ro, se, im, sw⟩ := inv
  have fin : ∀ r, fX12_good S (mk Q w rf) 64 (I p) (I n) = some r → fX13_good S' (mk R v rm) 64 (I p) (I n) = some (r, mk (th0 R) v rm) → ∃ r σM', fX12_good S (mk Q w rf) 64 (I p) (I n) = some r ∧ fX13_good S' (mk R v rm) 64 (I p) (I n) = some (r, σM') ∧ SimX t (mk Q w rf) σM' := fun r h1 h2 => ⟨r, _, h1, h2, Q, w, rf, th0 R, v, rm, rfl, rfl, hr, hr', INV_th inv', tx0 tx⟩
  have w2 := wf.2.2.1
  have m1 := M_isIn (S := S') (σ := mk (th0 R) v rm) (v := p) (a := 0) (b := R 66 2 - 1) hp (by omega) (by omega)
  have ip67 := isPar67; obtain ⟨⟨c0, c1, c2, c3, c4, c5, c6, c7⟩, cpp, cpg, cpd, cpk⟩ := CPl_of cp
  by_cases h : 0 ≤ p ∧ p ≤ R 66 2 - 1
  · rw [b2_t h] at m1
    obtain ⟨d1, d2, d3⟩ := cpk p h.1 (by omega)
    have g1 : ¬ (p < 0) := by omega
    have g2 : p < R 66 2 := by omega
    by_cases e0 : n = 0
    · apply fin (I (R 66 (84 + p))) <;> subst e0
      · simp (disch := first | assumption | omega) only [fX12_good, fX12_good_b18, I_lit, orb_I, I_add, I_sub, I_mul, I_neg, nm_eq, bd0_s, bd2_s, un2_eq, un3_eq, un4_eq, un5_eq, un6_eq, cs2_l, cs2_r, mk_1, mk_2, wI_mk, wL_mk, wR_mk, setR_same, setR_setR, rZ_0, rZ_1, rZ_b2, it_b2, it_nb2, it_b21, it_nb21, I_lt, I_le, I_eq, I_div, castI, if_true, if_false, Classical.not_not, gC64_1, gP0_15, c2, g1, g2, gP13_1 (x := 67) hr ip67, ldP15 (x := 67) hS ip67, d1]
      · simp only [fX13_good, th0_I]; simp (disch := first | assumption | omega) only [I_lit, orb_I, I_add, I_sub, I_mul, I_neg, nm_eq, bd0_s, bd2_s, un2_eq, un3_eq, un4_eq, un5_eq, un6_eq, cs2_l, cs2_r, mk_1, mk_2, wI_mk, wL_mk, wR_mk, setR_same, setR_setR, rZ_0, rZ_1, rZ_b2, it_b2, it_nb2, it_b21, it_nb21, I_lt, I_le, I_eq, I_div, castI, if_true, if_false, Classical.not_not, gM14, ldM66, r66, m1, Int.reduceEq, not_false_eq_true]
    by_cases e1 : n = 1
    · apply fin (I (R 66 (90 + p))) <;> subst e1
      · simp (disch := first | assumption | omega) only [fX12_good, fX12_good_b18, I_lit, orb_I, I_add, I_sub, I_mul, I_neg, nm_eq, bd0_s, bd2_s, un2_eq, un3_eq, un4_eq, un5_eq, un6_eq, cs2_l, cs2_r, mk_1, mk_2, wI_mk, wL_mk, wR_mk, setR_same, setR_setR, rZ_0, rZ_1, rZ_b2, it_b2, it_nb2, it_b21, it_nb21, I_lt, I_le, I_eq, I_div, castI, if_true, if_false, Classical.not_not, gC64_1, gP0_15, c2, g1, g2, gP13_2 (x := 67) hr ip67, ldP16 (x := 67) hS ip67, d2, Int.reduceEq]
      · simp only [fX13_good, th0_I]; simp (disch := first | assumption | omega) only [I_lit, orb_I, I_add, I_sub, I_mul, I_neg, nm_eq, bd0_s, bd2_s, un2_eq, un3_eq, un4_eq, un5_eq, un6_eq, cs2_l, cs2_r, mk_1, mk_2, wI_mk, wL_mk, wR_mk, setR_same, setR_setR, rZ_0, rZ_1, rZ_b2, it_b2, it_nb2, it_b21, it_nb21, I_lt, I_le, I_eq, I_div, castI, if_true, if_false, Classical.not_not, gM14, ldM66, r66, m1, Int.reduceEq, not_false_eq_true]
    by_cases e2 : n = 2
    · apply fin (I (R 66 (96 + p))) <;> subst e2
      · simp (disch := first | assumption | omega) only [fX12_good, fX12_good_b18, I_lit, orb_I, I_add, I_sub, I_mul, I_neg, nm_eq, bd0_s, bd2_s, un2_eq, un3_eq, un4_eq, un5_eq, un6_eq, cs2_l, cs2_r, mk_1, mk_2, wI_mk, wL_mk, wR_mk, setR_same, setR_setR, rZ_0, rZ_1, rZ_b2, it_b2, it_nb2, it_b21, it_nb21, I_lt, I_le, I_eq, I_div, castI, if_true, if_false, Classical.not_not, gC64_1, gP0_15, c2, g1, g2, gP13_3 (x := 67) hr ip67, ldP17 (x := 67) hS ip67, d3, Int.reduceEq]
      · simp only [fX13_good, th0_I]; simp (disch := first | assumption | omega) only [I_lit, orb_I, I_add, I_sub, I_mul, I_neg, nm_eq, bd0_s, bd2_s, un2_eq, un3_eq, un4_eq, un5_eq, un6_eq, cs2_l, cs2_r, mk_1, mk_2, wI_mk, wL_mk, wR_mk, setR_same, setR_setR, rZ_0, rZ_1, rZ_b2, it_b2, it_nb2, it_b21, it_nb21, I_lt, I_le, I_eq, I_div, castI, if_true, if_false, Classical.not_not, gM14, ldM66, r66, m1, Int.reduceEq, not_false_eq_true]
    apply fin (I (-1))
    · simp (disch := first | assumption | omega) only [fX12_good, fX12_good_b18, I_lit, orb_I, I_add, I_sub, I_mul, I_neg, nm_eq, bd0_s, bd2_s, un2_eq, un3_eq, un4_eq, un5_eq, un6_eq, cs2_l, cs2_r, mk_1, mk_2, wI_mk, wL_mk, wR_mk, setR_same, setR_setR, rZ_0, rZ_1, rZ_b2, it_b2, it_nb2, it_b21, it_nb21, I_lt, I_le, I_eq, I_div, castI, if_true, if_false, Classical.not_not, gC64_1, gP0_15, c2, g1, g2, e0, e1, e2]
    · simp only [fX13_good, th0_I]; simp (disch := first | assumption | omega) only [I_lit, orb_I, I_add, I_sub, I_mul, I_neg, nm_eq, bd0_s, bd2_s, un2_eq, un3_eq, un4_eq, un5_eq, un6_eq, cs2_l, cs2_r, mk_1, mk_2, wI_mk, wL_mk, wR_mk, setR_same, setR_setR, rZ_0, rZ_1, rZ_b2, it_b2, it_nb2, it_b21, it_nb21, I_lt, I_le, I_eq, I_div, castI, if_true, if_false, Classical.not_not, gM14, ldM66, r66, m1, Int.reduceEq, not_false_eq_true, e0, e1, e2]
  · rw [b2_f h] at m1
    apply fin (I (-1))
    · simp (disch := first | assumption | omega) only [fX12_good, fX12_good_b18, I_lit, orb_I, I_add, I_sub, I_mul, I_neg, nm_eq, bd0_s, bd2_s, un2_eq, un3_eq, un4_eq, un5_eq, un6_eq, cs2_l, cs2_r, mk_1, mk_2, wI_mk, wL_mk, wR_mk, setR_same, setR_setR, rZ_0, rZ_1, rZ_b2, it_b2, it_nb2, it_b21, it_nb21, I_lt, I_le, I_eq, I_div, castI, if_true, if_false, Classical.not_not, gC64_1, gP0_15, c2]
      split
      · rfl
      · rw [if_neg (by omega)]
    · simp only [fX13_good, th0_I]; simp (disch := first | assumption | omega) only [I_lit, orb_I, I_add, I_sub, I_mul, I_neg, nm_eq, bd0_s, bd2_s, un2_eq, un3_eq, un4_eq, un5_eq, un6_eq, cs2_l, cs2_r, mk_1, mk_2, wI_mk, wL_mk, wR_mk, setR_same, setR_setR, rZ_0, rZ_1, rZ_b2, it_b2, it_nb2, it_b21, it_nb21, I_lt, I_le, I_eq, I_div, castI, if_true, if_false, Classical.not_not, gM14, ldM66, r66, m1, Int.reduceEq, not_true]
